set_option maxHeartbeats 4000000 in
set_option maxRecDepth 100000 in
theorem c_X7_terms (l : Launch) (D : va_G) (cI cZ : ClassId) (q : Nat) (v : Nat) (a : Nat) (b : Nat) (k_0 : okw q v) (k_1 : a < q) (k_2 : b < q) : CtR l yX7_terms wsX7_terms { frames := 0, cells := 0, slots := 0, locals := 0 } D (tyG cI cZ) [.int (nI a), .int (nI b), .int (nI v)] [] (.int (nI (fmul q a b))) := by
  refine Met.ofW (cc := cX7_terms) (maxL := 5) (ret := some .int) (by decide) rfl ?_
  intro p e s m args below meth c s₁ B hml hv
  obtain ⟨rfl, hP, hK, hN⟩ := hv
  have hx := B.exec
  have hb := B.bytes
  have hr := B.returns
  have hts := atoms_spec (ws := wsX7_terms) B.pre
  have hown : s.vm.findClass RX7 = some m.cls := findClass_of_methodNamed B.named
  have hlocks := B.notSynchronized
  have hl := lv_entry ([.int (nI a), .int (nI b), .int (nI v)]) (n := 5) (Nat.le_of_ble_eq_true rfl)
  rw [lg_entry_eq]
  generalize (lg_sl ([.int (nI a), .int (nI b), .int (nI v)]) ++ List.replicate (5 - (lg_sl ([.int (nI a), .int (nI b), .int (nI v)])).length) Slot.unset).toArray = ls at hl ⊢
  have hl : lv_has ls 5 [(0, .int (nI a)), (1, .int (nI b)), (2, .int (nI v))] := hl
  have hv9 := okw_le k_0
  refine lv_iconst (v := nI 0) hx hb dX7_terms_0 (by decide) ?_
  refine lv_istore_n (lv' := [(3, .int (nI 0)), (0, .int (nI a)), (1, .int (nI b)), (2, .int (nI v))]) hx hb dX7_terms_1 rfl hl (by decide) rfl (fun ls hl => ?_)
  refine lv_iconst (v := nI 0) hx hb dX7_terms_2 (by decide) ?_
  refine lv_istore (lv' := [(4, .int (nI 0)), (3, .int (nI 0)), (0, .int (nI a)), (1, .int (nI b)), (2, .int (nI v))]) hx hb dX7_terms_3 hl (by decide) rfl (fun ls hl => ?_)
  have L5 : ∀ (N5 : Nat) (x : Nat) (i : Nat) (ls : Array Slot), v - i < N5 → (i ≤ v) → (x = tm1 a b i) → lv_has ls 5 [(0, .int (nI a)), (1, .int (nI b)), (2, .int (nI v)), (3, .int (nI x)), (4, .int (nI i))] → WR p l e wsX7_terms { frames := 0, cells := 0, slots := 0, locals := 0 } s m [.int (nI a), .int (nI b), .int (nI v)] below meth c (.int (nI (fmul q a b))) 5 ls [] := by
    intro N5
    induction N5 with
    | zero => intro x i ls hN; exact absurd hN (Nat.not_lt_zero _)
    | succ N5 ih5 =>
      intro x i ls hN5 k_i k_x hl
      have hb9 := tm_lt1 (k := i) k_0 k_1 k_2 (by omega)
      rw [← k_x] at hb9
      have hp9 : 2 ^ i ≤ 2 ^ 3 := Nat.pow_le_pow_right (by decide) (by omega)
      have hm9 : a * 2 ^ i ≤ 8 * 2 ^ 3 := Nat.mul_le_mul (by omega) hp9
      refine lv_iload hx hb dX7_terms_5 (lv_at hl 4 rfl) ?_
      refine lv_iload_n hx hb dX7_terms_7 rfl (lv_at hl 2 rfl) ?_
      refine nv_icmp_ge (tgt := 38) hx hb (by omega) (by omega) dX7_terms_8 (by decide) (fun c8 => ?_) (fun c8 => ?_)
      · refine lv_iconst (v := nI 2) hx hb dX7_terms_38 (by decide) ?_
        refine lv_iload_n hx hb dX7_terms_39 rfl (lv_at hl 2 rfl) ?_
        refine nv_mulE (r := 2 * v) hx hb rfl dX7_terms_40 ?_
        refine lv_iconst (v := nI 2) hx hb dX7_terms_41 (by decide) ?_
        refine nv_subE (r := (2 * v) - 2) hx hb (by omega) rfl dX7_terms_42 ?_
        refine lv_istore (lv' := [(4, .int (nI ((2 * v) - 2))), (0, .int (nI a)), (1, .int (nI b)), (2, .int (nI v)), (3, .int (nI x))]) hx hb dX7_terms_43 hl (by decide) rfl (fun ls hl => ?_)
        have L45 : ∀ (N45 : Nat) (y : Nat) (k : Nat) (ls : Array Slot), k < N45 → (v ≤ k + 1) → (k ≤ 2 * v - 2) → (y = tm2 v (tm1 a b v) (2 * v - 2 - k)) → lv_has ls 5 [(0, .int (nI a)), (1, .int (nI b)), (2, .int (nI v)), (3, .int (nI y)), (4, .int (nI k))] → WR p l e wsX7_terms { frames := 0, cells := 0, slots := 0, locals := 0 } s m [.int (nI a), .int (nI b), .int (nI v)] below meth c (.int (nI (fmul q a b))) 45 ls [] := by
          intro N45
          induction N45 with
          | zero => intro y k ls hN; exact absurd hN (Nat.not_lt_zero _)
          | succ N45 ih45 =>
            intro y k ls hN45 k_k k_k2 k_y hl
            have hb8 := tm_lt2 (m := 2 * v - 2 - k) k_0 k_1 k_2 (by omega)
            rw [← k_y] at hb8
            refine lv_iload hx hb dX7_terms_45 (lv_at hl 4 rfl) ?_
            refine lv_iload_n hx hb dX7_terms_47 rfl (lv_at hl 2 rfl) ?_
            refine nv_icmp_lt (tgt := 85) hx hb (by omega) (by omega) dX7_terms_48 (by decide) (fun c48 => ?_) (fun c48 => ?_)
            · refine lv_iload_n hx hb dX7_terms_85 rfl (lv_at hl 3 rfl) ?_
              exact ctR_ret (v := (nI y)) hx hb hr rfl dX7_terms_86 hlocks (by rw [k_y, show 2 * v - 2 - k = v - 1 by omega, tm_end k_0 k_1 k_2])
            · refine lv_iload_n hx hb dX7_terms_51 rfl (lv_at hl 3 rfl) ?_
              refine lv_iload hx hb dX7_terms_52 (lv_at hl 4 rfl) ?_
              refine lv_ishr hx hb dX7_terms_54 ?_
              refine nv_top (v' := .int (nI (y / 2 ^ k))) (congrArg Value.int (nx_shr (by omega) (by omega))) ?_
              refine lv_iconst (v := nI 1) hx hb dX7_terms_55 (by decide) ?_
              refine lv_iand hx hb dX7_terms_56 ?_
              refine nv_top (v' := .int (nI ((y / 2 ^ k) &&& 1))) (congrArg Value.int (nx_and _ 1)) ?_
              refine lv_iconst (v := nI 1) hx hb dX7_terms_57 (by decide) ?_
              refine nv_icmp_ne (tgt := 77) hx hb (Nat.lt_of_le_of_lt Nat.and_le_right (by decide)) (by decide) dX7_terms_58 (by decide) (fun c58 => ?_) (fun c58 => ?_)
              · refine lv_iload_n hx hb dX7_terms_77 rfl (lv_at hl 3 rfl) ?_
                refine lv_istore_n (lv' := [(3, .int (nI y)), (0, .int (nI a)), (1, .int (nI b)), (2, .int (nI v)), (4, .int (nI k))]) hx hb dX7_terms_78 rfl hl (by decide) rfl (fun ls hl => ?_)
                refine lv_iinc (v := nI (k - 1)) (lv' := [(4, .int (nI (k - 1))), (3, .int (nI y)), (0, .int (nI a)), (1, .int (nI b)), (2, .int (nI v))]) hx hb dX7_terms_79 hl (k := 4) rfl (nI_dec (by omega)) (by decide) rfl (fun ls hl => ?_)
                refine lv_goto (tgt := 45) hx hb dX7_terms_82 (by decide) ?_
                exact ih45 y (k - 1) ls (by omega) (by omega) (by omega) ((tm_s1 (by omega) c48 k_k2 k_y).2 c58) (lv_sub hl [2, 3, 4, 1, 0] rfl)
              · have hq8 : 2 ^ (k - v) ≤ 2 ^ 3 := Nat.pow_le_pow_right (by decide) (by omega)
                have hq9 : 3 * 2 ^ (k - v) < 2 ^ 32 := by omega
                refine lv_iload_n hx hb dX7_terms_61 rfl (lv_at hl 3 rfl) ?_
                refine lv_iconst (v := nI 1) hx hb dX7_terms_62 (by decide) ?_
                refine lv_iload hx hb dX7_terms_63 (lv_at hl 4 rfl) ?_
                refine lv_ishl hx hb dX7_terms_65 ?_
                refine nv_top (v' := .int (nI (2 ^ k))) (congrArg Value.int (nx_bit1 (by omega))) ?_
                refine lv_ixor hx hb dX7_terms_66 ?_
                refine nv_top (v' := .int (nI (y ^^^ 2 ^ k))) (congrArg Value.int (nx_xor _ _)) ?_
                refine lv_iconst (v := nI 3) hx hb dX7_terms_67 (by decide) ?_
                refine lv_iload hx hb dX7_terms_68 (lv_at hl 4 rfl) ?_
                refine lv_iload_n hx hb dX7_terms_70 rfl (lv_at hl 2 rfl) ?_
                refine nv_subE (r := k - v) hx hb (by omega) rfl dX7_terms_71 ?_
                refine lv_ishl hx hb dX7_terms_72 ?_
                refine nv_top (v' := .int (nI (3 * 2 ^ (k - v)))) (congrArg Value.int (nx_shlk (by omega) hq9)) ?_
                refine lv_ixor hx hb dX7_terms_73 ?_
                refine nv_top (v' := .int (nI (y ^^^ 2 ^ k ^^^ (3 * 2 ^ (k - v))))) (congrArg Value.int (nx_xor _ _)) ?_
                refine lv_goto (tgt := 78) hx hb dX7_terms_74 (by decide) ?_
                refine lv_istore_n (lv' := [(3, .int (nI (y ^^^ 2 ^ k ^^^ (3 * 2 ^ (k - v))))), (0, .int (nI a)), (1, .int (nI b)), (2, .int (nI v)), (4, .int (nI k))]) hx hb dX7_terms_78 rfl hl (by decide) rfl (fun ls hl => ?_)
                refine lv_iinc (v := nI (k - 1)) (lv' := [(4, .int (nI (k - 1))), (3, .int (nI (y ^^^ 2 ^ k ^^^ (3 * 2 ^ (k - v))))), (0, .int (nI a)), (1, .int (nI b)), (2, .int (nI v))]) hx hb dX7_terms_79 hl (k := 4) rfl (nI_dec (by omega)) (by decide) rfl (fun ls hl => ?_)
                refine lv_goto (tgt := 45) hx hb dX7_terms_82 (by decide) ?_
                exact ih45 (y ^^^ 2 ^ k ^^^ (3 * 2 ^ (k - v))) (k - 1) ls (by omega) (by omega) (by omega) ((tm_s1 (by omega) c48 k_k2 k_y).1 c58) (lv_sub hl [2, 3, 4, 1, 0] rfl)
        exact L45 (((2 * v) - 2) + 1) x ((2 * v) - 2) ls (by omega) (by omega) (Nat.le_refl _) (by rw [Nat.sub_self, k_x, show i = v by omega]; rfl) (lv_sub hl [1, 2, 3, 4, 0] rfl)
      · refine lv_iload_n hx hb dX7_terms_11 rfl (lv_at hl 1 rfl) ?_
        refine lv_iload hx hb dX7_terms_12 (lv_at hl 4 rfl) ?_
        refine lv_ishr hx hb dX7_terms_14 ?_
        refine nv_top (v' := .int (nI (b / 2 ^ i))) (congrArg Value.int (nx_shr (by omega) (by omega))) ?_
        refine lv_iconst (v := nI 1) hx hb dX7_terms_15 (by decide) ?_
        refine lv_iand hx hb dX7_terms_16 ?_
        refine nv_top (v' := .int (nI ((b / 2 ^ i) &&& 1))) (congrArg Value.int (nx_and _ 1)) ?_
        refine lv_iconst (v := nI 1) hx hb dX7_terms_17 (by decide) ?_
        refine nv_icmp_ne (tgt := 30) hx hb (Nat.lt_of_le_of_lt Nat.and_le_right (by decide)) (by decide) dX7_terms_18 (by decide) (fun c18 => ?_) (fun c18 => ?_)
        · refine lv_iload_n hx hb dX7_terms_30 rfl (lv_at hl 3 rfl) ?_
          refine lv_istore_n (lv' := [(3, .int (nI x)), (0, .int (nI a)), (1, .int (nI b)), (2, .int (nI v)), (4, .int (nI i))]) hx hb dX7_terms_31 rfl hl (by decide) rfl (fun ls hl => ?_)
          refine lv_iinc (v := nI (i + 1)) (lv' := [(4, .int (nI (i + 1))), (3, .int (nI x)), (0, .int (nI a)), (1, .int (nI b)), (2, .int (nI v))]) hx hb dX7_terms_32 hl (k := 4) rfl (nI_inc i) (by decide) rfl (fun ls hl => ?_)
          refine lv_goto (tgt := 5) hx hb dX7_terms_35 (by decide) ?_
          exact ih5 x (i + 1) ls (by omega) (by omega) (by rw [tm1, if_neg c18, k_x]) (lv_sub hl [2, 3, 4, 1, 0] rfl)
        · refine lv_iload_n hx hb dX7_terms_21 rfl (lv_at hl 3 rfl) ?_
          refine lv_iload_n hx hb dX7_terms_22 rfl (lv_at hl 0 rfl) ?_
          refine lv_iload hx hb dX7_terms_23 (lv_at hl 4 rfl) ?_
          refine lv_ishl hx hb dX7_terms_25 ?_
          refine nv_top (v' := .int (nI (a * 2 ^ i))) (congrArg Value.int (nx_shlk (by omega) (by omega))) ?_
          refine lv_ixor hx hb dX7_terms_26 ?_
          refine nv_top (v' := .int (nI (x ^^^ (a * 2 ^ i)))) (congrArg Value.int (nx_xor _ _)) ?_
          refine lv_goto (tgt := 31) hx hb dX7_terms_27 (by decide) ?_
          refine lv_istore_n (lv' := [(3, .int (nI (x ^^^ (a * 2 ^ i)))), (0, .int (nI a)), (1, .int (nI b)), (2, .int (nI v)), (4, .int (nI i))]) hx hb dX7_terms_31 rfl hl (by decide) rfl (fun ls hl => ?_)
          refine lv_iinc (v := nI (i + 1)) (lv' := [(4, .int (nI (i + 1))), (3, .int (nI (x ^^^ (a * 2 ^ i)))), (0, .int (nI a)), (1, .int (nI b)), (2, .int (nI v))]) hx hb dX7_terms_32 hl (k := 4) rfl (nI_inc i) (by decide) rfl (fun ls hl => ?_)
          refine lv_goto (tgt := 5) hx hb dX7_terms_35 (by decide) ?_
          exact ih5 (x ^^^ (a * 2 ^ i)) (i + 1) ls (by omega) (by omega) (by rw [tm1, if_pos c18, k_x]) (lv_sub hl [2, 3, 4, 1, 0] rfl)
  exact L5 (v - 0 + 1) 0 0 ls (by omega) (Nat.zero_le _) rfl (lv_sub hl [2, 3, 4, 1, 0] rfl)

set_option maxHeartbeats 4000000 in
set_option maxRecDepth 100000 in
theorem c_X7_sumOf (l : Launch) (D : va_G) (cI cZ : ClassId) (q : Nat) (a : Nat) (b : Nat) (k_0 : q ∈ qs) (k_1 : a < q) (k_2 : b < q) : CtR l yX7_sumOf wsX7_sumOf { frames := 0, cells := 0, slots := 0, locals := 0 } D (tyG cI cZ) [.int (nI q), .int (nI a), .int (nI b)] [] (.int (nI (fadd q a b))) := by
  refine Met.ofW (cc := cX7_sumOf) (maxL := 3) (ret := some .int) (by decide) rfl ?_
  intro p e s m args below meth c s₁ B hml hv
  obtain ⟨rfl, hP, hK, hN⟩ := hv
  have hx := B.exec
  have hb := B.bytes
  have hr := B.returns
  have hts := atoms_spec (ws := wsX7_sumOf) B.pre
  have hown : s.vm.findClass RX7 = some m.cls := findClass_of_methodNamed B.named
  have hlocks := B.notSynchronized
  have hl := lv_entry ([.int (nI q), .int (nI a), .int (nI b)]) (n := 3) (Nat.le_of_ble_eq_true rfl)
  rw [lg_entry_eq]
  generalize (lg_sl ([.int (nI q), .int (nI a), .int (nI b)]) ++ List.replicate (3 - (lg_sl ([.int (nI q), .int (nI a), .int (nI b)])).length) Slot.unset).toArray = ls at hl ⊢
  have hl : lv_has ls 3 [(0, .int (nI q)), (1, .int (nI a)), (2, .int (nI b))] := hl
  have hq2 := qs_le k_0
  refine lv_iload_n hx hb dX7_sumOf_0 rfl (lv_at hl 0 rfl) ?_
  refine lv_iconst (v := nI 4) hx hb dX7_sumOf_1 (by decide) ?_
  refine nv_icmp_eq (tgt := 11) hx hb (by omega) (by decide) dX7_sumOf_2 (by decide) (fun c2 => ?_) (fun c2 => ?_)
  · refine lv_iload_n hx hb dX7_sumOf_11 rfl (lv_at hl 1 rfl) ?_
    refine lv_iload_n hx hb dX7_sumOf_12 rfl (lv_at hl 2 rfl) ?_
    refine lv_ixor hx hb dX7_sumOf_13 ?_
    refine nv_top (v' := .int (nI (a ^^^ b))) (congrArg Value.int (nx_xor a b)) ?_
    exact ctR_ret (v := (nI (a ^^^ b))) hx hb hr rfl dX7_sumOf_14 hlocks (by rw [mk_1a q k_0 a k_1 b k_2 (Or.inl c2)])
  · refine lv_iload_n hx hb dX7_sumOf_5 rfl (lv_at hl 0 rfl) ?_
    refine lv_bipush (v := nI 8) hx hb dX7_sumOf_6 (by decide) ?_
    refine nv_icmp_ne (tgt := 15) hx hb (by omega) (by decide) dX7_sumOf_8 (by decide) (fun c8 => ?_) (fun c8 => ?_)
    · refine lv_iload_n hx hb dX7_sumOf_15 rfl (lv_at hl 0 rfl) ?_
      refine lv_bipush (v := nI 9) hx hb dX7_sumOf_16 (by decide) ?_
      refine nv_icmp_ne (tgt := 45) hx hb (by omega) (by decide) dX7_sumOf_18 (by decide) (fun c18 => ?_) (fun c18 => ?_)
      · refine lv_iload_n hx hb dX7_sumOf_45 rfl (lv_at hl 1 rfl) ?_
        refine lv_iload_n hx hb dX7_sumOf_46 rfl (lv_at hl 2 rfl) ?_
        refine nv_addE (r := a + b) hx hb rfl dX7_sumOf_47 ?_
        refine lv_iload_n hx hb dX7_sumOf_48 rfl (lv_at hl 0 rfl) ?_
        refine nv_remE (r := (a + b) % q) hx hb (by omega) (by omega) (by omega) rfl dX7_sumOf_49 ?_
        exact ctR_ret (v := (nI ((a + b) % q))) hx hb hr rfl dX7_sumOf_50 hlocks (by rw [sO_2 k_0 k_1 k_2 c2 c8 c18])
      · refine lv_iload_n hx hb dX7_sumOf_21 rfl (lv_at hl 1 rfl) ?_
        refine lv_iconst (v := nI 3) hx hb dX7_sumOf_22 (by decide) ?_
        refine nv_remE (r := a % 3) hx hb (by omega) (by decide) (by decide) rfl dX7_sumOf_23 ?_
        refine lv_iload_n hx hb dX7_sumOf_24 rfl (lv_at hl 2 rfl) ?_
        refine lv_iconst (v := nI 3) hx hb dX7_sumOf_25 (by decide) ?_
        refine nv_remE (r := b % 3) hx hb (by omega) (by decide) (by decide) rfl dX7_sumOf_26 ?_
        refine nv_addE (r := (a % 3) + (b % 3)) hx hb rfl dX7_sumOf_27 ?_
        refine lv_iconst (v := nI 3) hx hb dX7_sumOf_28 (by decide) ?_
        refine nv_remE (r := ((a % 3) + (b % 3)) % 3) hx hb (by omega) (by decide) (by decide) rfl dX7_sumOf_29 ?_
        refine lv_iconst (v := nI 3) hx hb dX7_sumOf_30 (by decide) ?_
        refine lv_iload_n hx hb dX7_sumOf_31 rfl (lv_at hl 1 rfl) ?_
        refine lv_iconst (v := nI 3) hx hb dX7_sumOf_32 (by decide) ?_
        refine nv_divE (r := a / 3) hx hb (by omega) (by decide) (by decide) rfl dX7_sumOf_33 ?_
        refine lv_iload_n hx hb dX7_sumOf_34 rfl (lv_at hl 2 rfl) ?_
        refine lv_iconst (v := nI 3) hx hb dX7_sumOf_35 (by decide) ?_
        refine nv_divE (r := b / 3) hx hb (by omega) (by decide) (by decide) rfl dX7_sumOf_36 ?_
        refine nv_addE (r := (a / 3) + (b / 3)) hx hb rfl dX7_sumOf_37 ?_
        refine lv_iconst (v := nI 3) hx hb dX7_sumOf_38 (by decide) ?_
        refine nv_remE (r := ((a / 3) + (b / 3)) % 3) hx hb (by omega) (by decide) (by decide) rfl dX7_sumOf_39 ?_
        refine nv_mulE (r := 3 * (((a / 3) + (b / 3)) % 3)) hx hb rfl dX7_sumOf_40 ?_
        refine nv_addE (r := (((a % 3) + (b % 3)) % 3) + (3 * (((a / 3) + (b / 3)) % 3))) hx hb rfl dX7_sumOf_41 ?_
        refine lv_goto (tgt := 50) hx hb dX7_sumOf_42 (by decide) ?_
        exact ctR_ret (v := (nI ((((a % 3) + (b % 3)) % 3) + (3 * (((a / 3) + (b / 3)) % 3))))) hx hb hr rfl dX7_sumOf_50 hlocks (by rw [sO_1 q k_0 a k_1 b k_2 c18])
    · refine lv_iload_n hx hb dX7_sumOf_11 rfl (lv_at hl 1 rfl) ?_
      refine lv_iload_n hx hb dX7_sumOf_12 rfl (lv_at hl 2 rfl) ?_
      refine lv_ixor hx hb dX7_sumOf_13 ?_
      refine nv_top (v' := .int (nI (a ^^^ b))) (congrArg Value.int (nx_xor a b)) ?_
      exact ctR_ret (v := (nI (a ^^^ b))) hx hb hr rfl dX7_sumOf_14 hlocks (by rw [mk_1a q k_0 a k_1 b k_2 (Or.inr c8)])

set_option maxHeartbeats 4000000 in
set_option maxRecDepth 100000 in
theorem c_X7_productOf (l : Launch) (D : va_G) (cI cZ : ClassId) (q : Nat) (a : Nat) (b : Nat) (k_0 : q ∈ qs) (k_1 : a < q) (k_2 : b < q) : CtR l yX7_productOf wsX7_productOf { frames := 1, cells := 0, slots := 0, locals := 24 } D (tyG cI cZ) [.int (nI q), .int (nI a), .int (nI b)] [] (.int (nI (fmul q a b))) := by
  refine Met.ofW (cc := cX7_productOf) (maxL := 4) (ret := some .int) (by decide) rfl ?_
  intro p e s m args below meth c s₁ B hml hv
  obtain ⟨rfl, hP, hK, hN⟩ := hv
  have hx := B.exec
  have hb := B.bytes
  have hr := B.returns
  have hts := atoms_spec (ws := wsX7_productOf) B.pre
  have hown : s.vm.findClass RX7 = some m.cls := findClass_of_methodNamed B.named
  have hlocks := B.notSynchronized
  have hl := lv_entry ([.int (nI q), .int (nI a), .int (nI b)]) (n := 4) (Nat.le_of_ble_eq_true rfl)
  rw [lg_entry_eq]
  generalize (lg_sl ([.int (nI q), .int (nI a), .int (nI b)]) ++ List.replicate (4 - (lg_sl ([.int (nI q), .int (nI a), .int (nI b)])).length) Slot.unset).toArray = ls at hl ⊢
  have hl : lv_has ls 4 [(0, .int (nI q)), (1, .int (nI a)), (2, .int (nI b))] := hl
  have hq2 := qs_le k_0
  refine lv_iload_n hx hb dX7_productOf_0 rfl (lv_at hl 0 rfl) ?_
  refine lv_iconst (v := nI 4) hx hb dX7_productOf_1 (by decide) ?_
  refine nv_icmp_eq (tgt := 11) hx hb (by omega) (by decide) dX7_productOf_2 (by decide) (fun c2 => ?_) (fun c2 => ?_)
  · refine lv_iload_n hx hb dX7_productOf_11 rfl (lv_at hl 1 rfl) ?_
    refine lv_iload_n hx hb dX7_productOf_12 rfl (lv_at hl 2 rfl) ?_
    refine lv_iload_n hx hb dX7_productOf_13 rfl (lv_at hl 0 rfl) ?_
    refine lv_iconst (v := nI 4) hx hb dX7_productOf_14 (by decide) ?_
    refine nv_icmp_ne (tgt := 22) hx hb (by omega) (by decide) dX7_productOf_15 (by decide) (fun c15 => ?_) (fun c15 => ?_)
    · refine lv_iconst (v := nI 3) hx hb dX7_productOf_22 (by decide) ?_
      refine ctR_S (As := [.int (nI a), .int (nI b), .int (nI 3)]) (rest := []) (r := .int (nI (fmul q a b))) ⟨hx, hb, hml, hown, hts⟩ (c_X7_terms l D cI cZ q 3 a b (by first | exact Or.inl ⟨c15, rfl⟩ | exact Or.inr ⟨c8, rfl⟩ | exact absurd c2 c15) (by omega) (by omega)) (va_cwS 3 hts gX7_productOf_X7_terms rfl rfl rfl hdS_X7_terms ⟨Nat.le_of_ble_eq_true rfl, Nat.le_of_ble_eq_true rfl⟩) hK hN hP [] rfl rfl hl.1 rfl (Nat.le_of_ble_eq_true rfl) ⟨Nat.zero_le _, Nat.zero_le _⟩ dX7_productOf_23 ?_
      exact ctR_ret (v := (nI (fmul q a b))) hx hb hr rfl dX7_productOf_26 hlocks rfl
    · refine lv_iconst (v := nI 2) hx hb dX7_productOf_18 (by decide) ?_
      refine lv_goto (tgt := 23) hx hb dX7_productOf_19 (by decide) ?_
      refine ctR_S (As := [.int (nI a), .int (nI b), .int (nI 2)]) (rest := []) (r := .int (nI (fmul q a b))) ⟨hx, hb, hml, hown, hts⟩ (c_X7_terms l D cI cZ q 2 a b (by first | exact Or.inl ⟨c15, rfl⟩ | exact Or.inr ⟨c8, rfl⟩ | exact absurd c2 c15) (by omega) (by omega)) (va_cwS 3 hts gX7_productOf_X7_terms rfl rfl rfl hdS_X7_terms ⟨Nat.le_of_ble_eq_true rfl, Nat.le_of_ble_eq_true rfl⟩) hK hN hP [] rfl rfl hl.1 rfl (Nat.le_of_ble_eq_true rfl) ⟨Nat.zero_le _, Nat.zero_le _⟩ dX7_productOf_23 ?_
      exact ctR_ret (v := (nI (fmul q a b))) hx hb hr rfl dX7_productOf_26 hlocks rfl
  · refine lv_iload_n hx hb dX7_productOf_5 rfl (lv_at hl 0 rfl) ?_
    refine lv_bipush (v := nI 8) hx hb dX7_productOf_6 (by decide) ?_
    refine nv_icmp_ne (tgt := 27) hx hb (by omega) (by decide) dX7_productOf_8 (by decide) (fun c8 => ?_) (fun c8 => ?_)
    · refine lv_iload_n hx hb dX7_productOf_27 rfl (lv_at hl 0 rfl) ?_
      refine lv_bipush (v := nI 9) hx hb dX7_productOf_28 (by decide) ?_
      refine nv_icmp_ne (tgt := 75) hx hb (by omega) (by decide) dX7_productOf_30 (by decide) (fun c30 => ?_) (fun c30 => ?_)
      · have m5 : a * b ≤ 9 * 9 := Nat.mul_le_mul (by omega) (by omega)
        refine lv_iload_n hx hb dX7_productOf_75 rfl (lv_at hl 1 rfl) ?_
        refine lv_iload_n hx hb dX7_productOf_76 rfl (lv_at hl 2 rfl) ?_
        refine nv_mulE (r := a * b) hx hb rfl dX7_productOf_77 ?_
        refine lv_iload_n hx hb dX7_productOf_78 rfl (lv_at hl 0 rfl) ?_
        refine nv_remE (r := (a * b) % q) hx hb (by omega) (by omega) (by omega) rfl dX7_productOf_79 ?_
        exact ctR_ret (v := (nI ((a * b) % q))) hx hb hr rfl dX7_productOf_80 hlocks (by rw [pO_2 k_0 k_1 k_2 c2 c8 c30])
      · have m1 : a % 3 * (b % 3) ≤ 2 * 2 := Nat.mul_le_mul (by omega) (by omega)
        have m2 : 2 * (a / 3) * (b / 3) ≤ 6 * 3 := Nat.mul_le_mul (by omega) (by omega)
        have m3 : a % 3 * (b / 3) ≤ 2 * 3 := Nat.mul_le_mul (by omega) (by omega)
        have m4 : a / 3 * (b % 3) ≤ 3 * 2 := Nat.mul_le_mul (by omega) (by omega)
        refine lv_iload_n hx hb dX7_productOf_33 rfl (lv_at hl 1 rfl) ?_
        refine lv_iconst (v := nI 3) hx hb dX7_productOf_34 (by decide) ?_
        refine nv_remE (r := a % 3) hx hb (by omega) (by decide) (by decide) rfl dX7_productOf_35 ?_
        refine lv_iload_n hx hb dX7_productOf_36 rfl (lv_at hl 2 rfl) ?_
        refine lv_iconst (v := nI 3) hx hb dX7_productOf_37 (by decide) ?_
        refine nv_remE (r := b % 3) hx hb (by omega) (by decide) (by decide) rfl dX7_productOf_38 ?_
        refine nv_mulE (r := (a % 3) * (b % 3)) hx hb rfl dX7_productOf_39 ?_
        refine lv_iconst (v := nI 2) hx hb dX7_productOf_40 (by decide) ?_
        refine lv_iload_n hx hb dX7_productOf_41 rfl (lv_at hl 1 rfl) ?_
        refine lv_iconst (v := nI 3) hx hb dX7_productOf_42 (by decide) ?_
        refine nv_divE (r := a / 3) hx hb (by omega) (by decide) (by decide) rfl dX7_productOf_43 ?_
        refine nv_mulE (r := 2 * (a / 3)) hx hb rfl dX7_productOf_44 ?_
        refine lv_iload_n hx hb dX7_productOf_45 rfl (lv_at hl 2 rfl) ?_
        refine lv_iconst (v := nI 3) hx hb dX7_productOf_46 (by decide) ?_
        refine nv_divE (r := b / 3) hx hb (by omega) (by decide) (by decide) rfl dX7_productOf_47 ?_
        refine nv_mulE (r := (2 * (a / 3)) * (b / 3)) hx hb rfl dX7_productOf_48 ?_
        refine nv_addE (r := ((a % 3) * (b % 3)) + ((2 * (a / 3)) * (b / 3))) hx hb rfl dX7_productOf_49 ?_
        refine lv_iconst (v := nI 3) hx hb dX7_productOf_50 (by decide) ?_
        refine nv_remE (r := (((a % 3) * (b % 3)) + ((2 * (a / 3)) * (b / 3))) % 3) hx hb (by omega) (by decide) (by decide) rfl dX7_productOf_51 ?_
        refine lv_istore_n (lv' := [(3, .int (nI ((((a % 3) * (b % 3)) + ((2 * (a / 3)) * (b / 3))) % 3))), (0, .int (nI q)), (1, .int (nI a)), (2, .int (nI b))]) hx hb dX7_productOf_52 rfl hl (by decide) rfl (fun ls hl => ?_)
        refine lv_iload_n hx hb dX7_productOf_53 rfl (lv_at hl 0 rfl) ?_
        refine lv_iconst (v := nI 3) hx hb dX7_productOf_54 (by decide) ?_
        refine lv_iload_n hx hb dX7_productOf_55 rfl (lv_at hl 2 rfl) ?_
        refine lv_iconst (v := nI 3) hx hb dX7_productOf_56 (by decide) ?_
        refine nv_remE (r := a % 3) hx hb (by omega) (by decide) (by decide) rfl dX7_productOf_57 ?_
        refine lv_iload_n hx hb dX7_productOf_58 rfl (lv_at hl 3 rfl) ?_
        refine lv_iconst (v := nI 3) hx hb dX7_productOf_59 (by decide) ?_
        refine nv_divE (r := b / 3) hx hb (by omega) (by decide) (by decide) rfl dX7_productOf_60 ?_
        refine nv_mulE (r := (a % 3) * (b / 3)) hx hb rfl dX7_productOf_61 ?_
        refine lv_iload_n hx hb dX7_productOf_62 rfl (lv_at hl 2 rfl) ?_
        refine lv_iconst (v := nI 3) hx hb dX7_productOf_63 (by decide) ?_
        refine nv_divE (r := a / 3) hx hb (by omega) (by decide) (by decide) rfl dX7_productOf_64 ?_
        refine lv_iload_n hx hb dX7_productOf_65 rfl (lv_at hl 3 rfl) ?_
        refine lv_iconst (v := nI 3) hx hb dX7_productOf_66 (by decide) ?_
        refine nv_remE (r := b % 3) hx hb (by omega) (by decide) (by decide) rfl dX7_productOf_67 ?_
        refine nv_mulE (r := (a / 3) * (b % 3)) hx hb rfl dX7_productOf_68 ?_
        refine nv_addE (r := ((a % 3) * (b / 3)) + ((a / 3) * (b % 3))) hx hb rfl dX7_productOf_69 ?_
        refine lv_iconst (v := nI 3) hx hb dX7_productOf_70 (by decide) ?_
        refine nv_remE (r := (((a % 3) * (b / 3)) + ((a / 3) * (b % 3))) % 3) hx hb (by omega) (by decide) (by decide) rfl dX7_productOf_71 ?_
        refine nv_mulE (r := 3 * ((((a % 3) * (b / 3)) + ((a / 3) * (b % 3))) % 3)) hx hb rfl dX7_productOf_72 ?_
        refine nv_addE (r := ((((a % 3) * (b % 3)) + ((2 * (a / 3)) * (b / 3))) % 3) + (3 * ((((a % 3) * (b / 3)) + ((a / 3) * (b % 3))) % 3))) hx hb rfl dX7_productOf_73 ?_
        exact ctR_ret (v := (nI (((((a % 3) * (b % 3)) + ((2 * (a / 3)) * (b / 3))) % 3) + (3 * ((((a % 3) * (b / 3)) + ((a / 3) * (b % 3))) % 3))))) hx hb hr rfl dX7_productOf_74 hlocks (by rw [pO_1 q k_0 a k_1 b k_2 c30])
    · refine lv_iload_n hx hb dX7_productOf_11 rfl (lv_at hl 1 rfl) ?_
      refine lv_iload_n hx hb dX7_productOf_12 rfl (lv_at hl 2 rfl) ?_
      refine lv_iload_n hx hb dX7_productOf_13 rfl (lv_at hl 0 rfl) ?_
      refine lv_iconst (v := nI 4) hx hb dX7_productOf_14 (by decide) ?_
      refine nv_icmp_ne (tgt := 22) hx hb (by omega) (by decide) dX7_productOf_15 (by decide) (fun c15 => ?_) (fun c15 => ?_)
      · refine lv_iconst (v := nI 3) hx hb dX7_productOf_22 (by decide) ?_
        refine ctR_S (As := [.int (nI a), .int (nI b), .int (nI 3)]) (rest := []) (r := .int (nI (fmul q a b))) ⟨hx, hb, hml, hown, hts⟩ (c_X7_terms l D cI cZ q 3 a b (by first | exact Or.inl ⟨c15, rfl⟩ | exact Or.inr ⟨c8, rfl⟩ | exact absurd c2 c15) (by omega) (by omega)) (va_cwS 3 hts gX7_productOf_X7_terms rfl rfl rfl hdS_X7_terms ⟨Nat.le_of_ble_eq_true rfl, Nat.le_of_ble_eq_true rfl⟩) hK hN hP [] rfl rfl hl.1 rfl (Nat.le_of_ble_eq_true rfl) ⟨Nat.zero_le _, Nat.zero_le _⟩ dX7_productOf_23 ?_
        exact ctR_ret (v := (nI (fmul q a b))) hx hb hr rfl dX7_productOf_26 hlocks rfl
      · refine lv_iconst (v := nI 2) hx hb dX7_productOf_18 (by decide) ?_
        refine lv_goto (tgt := 23) hx hb dX7_productOf_19 (by decide) ?_
        refine ctR_S (As := [.int (nI a), .int (nI b), .int (nI 2)]) (rest := []) (r := .int (nI (fmul q a b))) ⟨hx, hb, hml, hown, hts⟩ (c_X7_terms l D cI cZ q 2 a b (by first | exact Or.inl ⟨c15, rfl⟩ | exact Or.inr ⟨c8, rfl⟩ | exact absurd c2 c15) (by omega) (by omega)) (va_cwS 3 hts gX7_productOf_X7_terms rfl rfl rfl hdS_X7_terms ⟨Nat.le_of_ble_eq_true rfl, Nat.le_of_ble_eq_true rfl⟩) hK hN hP [] rfl rfl hl.1 rfl (Nat.le_of_ble_eq_true rfl) ⟨Nat.zero_le _, Nat.zero_le _⟩ dX7_productOf_23 ?_
        exact ctR_ret (v := (nI (fmul q a b))) hx hb hr rfl dX7_productOf_26 hlocks rfl

set_option maxHeartbeats 4000000 in
set_option maxRecDepth 100000 in
theorem c_X7_make (l : Launch) (D : va_G) (cI cZ : ClassId) (md : Nat → Nat) (q0 : Nat) (n0 : Nat) (w : Nat) (su : Nat → Nat) (po : Nat → Nat) (xs : Nat → Nat) (ys : Nat → Nat) (zs : Nat → Nat) (S : Nat → Bool) (mp : Nat → Nat) (q : Nat) (hq : q ∈ qs) : CtW (S := (Nat → Nat) × (Nat → Nat) × (Nat → Nat) × (Nat → Nat) × (Nat → Nat) × (Nat → Bool) × (Nat → Nat)) l yX7_make wsX7_make { frames := 2, cells := 0, slots := 0, locals := 47 } D (tyG cI cZ) [.ref (md 0), .int (nI q)] [(md 0, .inr (7, [.int (nI q0), .int (nI n0), .ref (md 1), .ref (md 2), .ref (md 3), .ref (md 4), .ref (md 5), .ref (md 6), .ref (md 7), .ref (md 8), .ref (md 9), .ref (md 10), .ref (md 11), .ref (md 12), .ref (md 13), .ref (md 14), .ref (md 15), .ref (md 16), .int (nI w), .ref (md 17)])), (md 1, .inl (cI, 81, .inl (nF su))), (md 2, .inl (cI, 81, .inl (nF po))), (md 3, .inl (cI, 91, .inl (nF xs))), (md 4, .inl (cI, 91, .inl (nF ys))), (md 5, .inl (cI, 91, .inl (nF zs))), (md 6, .inl (cZ, 91, .inl (bF S))), (md 7, .inl (cI, 9, .inl (nF mp)))] (fun u => (fun (su3 : Nat → Nat) (po3 : Nat → Nat) (xs3 : Nat → Nat) (ys3 : Nat → Nat) (zs3 : Nat → Nat) (S3 : Nat → Bool) (mp3 : Nat → Nat) => MOK q su3 po3 xs3 ys3 zs3 ∧ (∀ t, t < 91 → S3 t = false) ∧ (∀ t, t < 9 → mp3 t = if t % 4 = 0 then 1 else 0)) u.1 u.2.1 u.2.2.1 u.2.2.2.1 u.2.2.2.2.1 u.2.2.2.2.2.1 u.2.2.2.2.2.2) (fun u => (fun (su3 : Nat → Nat) (po3 : Nat → Nat) (xs3 : Nat → Nat) (ys3 : Nat → Nat) (zs3 : Nat → Nat) (S3 : Nat → Bool) (mp3 : Nat → Nat) => none) u.1 u.2.1 u.2.2.1 u.2.2.2.1 u.2.2.2.2.1 u.2.2.2.2.2.1 u.2.2.2.2.2.2) (fun u => (fun (su3 : Nat → Nat) (po3 : Nat → Nat) (xs3 : Nat → Nat) (ys3 : Nat → Nat) (zs3 : Nat → Nat) (S3 : Nat → Bool) (mp3 : Nat → Nat) => [(md 0, .inr (7, [.int (nI q), .int (nI (nn q)), .ref (md 1), .ref (md 2), .ref (md 3), .ref (md 4), .ref (md 5), .ref (md 6), .ref (md 7), .ref (md 8), .ref (md 9), .ref (md 10), .ref (md 11), .ref (md 12), .ref (md 13), .ref (md 14), .ref (md 15), .ref (md 16), .int (nI w), .ref (md 17)])), (md 1, .inl (cI, 81, .inl (nF su3))), (md 2, .inl (cI, 81, .inl (nF po3))), (md 3, .inl (cI, 91, .inl (nF xs3))), (md 4, .inl (cI, 91, .inl (nF ys3))), (md 5, .inl (cI, 91, .inl (nF zs3))), (md 6, .inl (cZ, 91, .inl (bF S3))), (md 7, .inl (cI, 9, .inl (nF mp3)))]) u.1 u.2.1 u.2.2.1 u.2.2.2.1 u.2.2.2.2.1 u.2.2.2.2.2.1 u.2.2.2.2.2.2) := by
  intro sz; refine Met.ofW (cc := cX7_make) (maxL := 6) (ret := none) (by decide) rfl ?_
  intro p e s m args below meth c s₁ B hml hv
  obtain ⟨rfl, hsz, hP, hK, hD0, hN⟩ := hv
  have hx := B.exec
  have hb := B.bytes
  have hr := B.returns
  have hts := atoms_spec (ws := wsX7_make) B.pre
  have hown : s.vm.findClass RX7 = some m.cls := findClass_of_methodNamed B.named
  have hlocks := B.notSynchronized
  subst hsz
  have hD := hD0.self (sz := s.heap.size)
  generalize hAe : va_A [(md 0, .inr (7, [.int (nI q0), .int (nI n0), .ref (md 1), .ref (md 2), .ref (md 3), .ref (md 4), .ref (md 5), .ref (md 6), .ref (md 7), .ref (md 8), .ref (md 9), .ref (md 10), .ref (md 11), .ref (md 12), .ref (md 13), .ref (md 14), .ref (md 15), .ref (md 16), .int (nI w), .ref (md 17)])), (md 1, .inl (cI, 81, .inl (nF su))), (md 2, .inl (cI, 81, .inl (nF po))), (md 3, .inl (cI, 91, .inl (nF xs))), (md 4, .inl (cI, 91, .inl (nF ys))), (md 5, .inl (cI, 91, .inl (nF zs))), (md 6, .inl (cZ, 91, .inl (bF S))), (md 7, .inl (cI, 9, .inl (nF mp)))] s.heap.size = A at hD ⊢
  have hA : ∀ q : Nat, s.heap.size ≤ q → A q := fun q h => by rw [← hAe]; exact Or.inr h
  have hS : va_S A s.heap s.heap [] := va_S.rf
  have hP : va_P D vwCl [(md 0, .inr (7, [.int (nI q0), .int (nI n0), .ref (md 1), .ref (md 2), .ref (md 3), .ref (md 4), .ref (md 5), .ref (md 6), .ref (md 7), .ref (md 8), .ref (md 9), .ref (md 10), .ref (md 11), .ref (md 12), .ref (md 13), .ref (md 14), .ref (md 15), .ref (md 16), .int (nI w), .ref (md 17)])), (md 1, .inl (cI, 81, .inl (nF su))), (md 2, .inl (cI, 81, .inl (nF po))), (md 3, .inl (cI, 91, .inl (nF xs))), (md 4, .inl (cI, 91, .inl (nF ys))), (md 5, .inl (cI, 91, .inl (nF zs))), (md 6, .inl (cZ, 91, .inl (bF S))), (md 7, .inl (cI, 9, .inl (nF mp)))] s.heap := hP
  have hf7 := hts (.fieldLink RX7 7 "FinitePlanesModel" "sum" "[I") (by decide +kernel)
  have hf13 := hts (.fieldLink RX7 13 "FinitePlanesModel" "product" "[I") (by decide +kernel)
  have hf16 := hts (.fieldLink RX7 16 "FinitePlanesModel" "xs" "[I") (by decide +kernel)
  have hf19 := hts (.fieldLink RX7 19 "FinitePlanesModel" "ys" "[I") (by decide +kernel)
  have hf22 := hts (.fieldLink RX7 22 "FinitePlanesModel" "zs" "[I") (by decide +kernel)
  have hf25 := hts (.fieldLink RX7 25 "FinitePlanesModel" "isIn" "[Z") (by decide +kernel)
  have hf29 := hts (.fieldLink RX7 29 "FinitePlanesModel" "map" "[I") (by decide +kernel)
  have hf74 := hts (.fieldLink RX7 74 "FinitePlanesModel" "q" "I") (by decide +kernel)
  have hf83 := hts (.fieldLink RX7 83 "FinitePlanesModel" "n" "I") (by decide +kernel)
  have hiX7 : ∀ w ∈ u_ws RX7 TX7 20, w ∈ wsX7_make := by decide +kernel
  have hl := lv_entry ([.ref (md 0), .int (nI q)]) (n := 6) (Nat.le_of_ble_eq_true rfl)
  rw [lg_entry_eq]
  generalize (lg_sl ([.ref (md 0), .int (nI q)]) ++ List.replicate (6 - (lg_sl ([.ref (md 0), .int (nI q)])).length) Slot.unset).toArray = ls at hl ⊢
  have hl : lv_has ls 6 [(0, .ref (md 0)), (1, .int (nI q))] := hl
  have hq2 := qs_le hq
  have hn2 := nn_le hq
  have hvn := vld_n q hq
  have hqq : q * q ≤ 9 * 9 := Nat.mul_le_mul hq2.2 hq2.2
  refine lv_aload_n hx hb dX7_make_0 rfl (lv_at hl 0 rfl) ?_
  refine lv_iload_n hx hb dX7_make_1 rfl (lv_at hl 1 rfl) ?_
  refine va_put (D := D) (ci := 7) (v := .int (nI q)) (ty := .int) (C := RX7) (T := TX7) (N := 20) hx hb hts hiX7 tyX7 tyX7_ok nmX7 hown hK hP hD hS 0 rfl rfl 0 (by decide) hf74 (fun _ h9 => h9) rfl (by decide +kernel) rfl rfl (Nat.le_of_ble_eq_true rfl) dX7_make_2 (fun H locs hP hD hS => ?_)
  have hP : va_P D vwCl [(md 0, .inr (7, [.int (nI q), .int (nI n0), .ref (md 1), .ref (md 2), .ref (md 3), .ref (md 4), .ref (md 5), .ref (md 6), .ref (md 7), .ref (md 8), .ref (md 9), .ref (md 10), .ref (md 11), .ref (md 12), .ref (md 13), .ref (md 14), .ref (md 15), .ref (md 16), .int (nI w), .ref (md 17)])), (md 1, .inl (cI, 81, .inl (nF su))), (md 2, .inl (cI, 81, .inl (nF po))), (md 3, .inl (cI, 91, .inl (nF xs))), (md 4, .inl (cI, 91, .inl (nF ys))), (md 5, .inl (cI, 91, .inl (nF zs))), (md 6, .inl (cZ, 91, .inl (bF S))), (md 7, .inl (cI, 9, .inl (nF mp)))] H := hP
  have hD : va_D A [(md 0, .inr (7, [.int (nI q), .int (nI n0), .ref (md 1), .ref (md 2), .ref (md 3), .ref (md 4), .ref (md 5), .ref (md 6), .ref (md 7), .ref (md 8), .ref (md 9), .ref (md 10), .ref (md 11), .ref (md 12), .ref (md 13), .ref (md 14), .ref (md 15), .ref (md 16), .int (nI w), .ref (md 17)])), (md 1, .inl (cI, 81, .inl (nF su))), (md 2, .inl (cI, 81, .inl (nF po))), (md 3, .inl (cI, 91, .inl (nF xs))), (md 4, .inl (cI, 91, .inl (nF ys))), (md 5, .inl (cI, 91, .inl (nF zs))), (md 6, .inl (cZ, 91, .inl (bF S))), (md 7, .inl (cI, 9, .inl (nF mp)))] := hD
  refine lv_iconst (v := nI 0) hx hb dX7_make_5 (by decide) ?_
  refine lv_istore_n (lv' := [(2, .int (nI 0)), (0, .ref (md 0)), (1, .int (nI q))]) hx hb dX7_make_6 rfl hl (by decide) rfl (fun ls hl => ?_)
  have L7 : ∀ (N7 : Nat) (a : Nat) (s1 : Nat → Nat) (p1 : Nat → Nat) (ls : Array Slot) (H : Heap) (locs : List Loc), q - a < N7 → (a ≤ q) → (SPK q a 0 s1 p1) → lv_has ls 6 [(0, .ref (md 0)), (1, .int (nI q)), (2, .int (nI a))] → va_P D vwCl [(md 0, .inr (7, [.int (nI q), .int (nI n0), .ref (md 1), .ref (md 2), .ref (md 3), .ref (md 4), .ref (md 5), .ref (md 6), .ref (md 7), .ref (md 8), .ref (md 9), .ref (md 10), .ref (md 11), .ref (md 12), .ref (md 13), .ref (md 14), .ref (md 15), .ref (md 16), .int (nI w), .ref (md 17)])), (md 1, .inl (cI, 81, .inl (nF s1))), (md 2, .inl (cI, 81, .inl (nF p1))), (md 3, .inl (cI, 91, .inl (nF xs))), (md 4, .inl (cI, 91, .inl (nF ys))), (md 5, .inl (cI, 91, .inl (nF zs))), (md 6, .inl (cZ, 91, .inl (bF S))), (md 7, .inl (cI, 9, .inl (nF mp)))] H → va_D A [(md 0, .inr (7, [.int (nI q), .int (nI n0), .ref (md 1), .ref (md 2), .ref (md 3), .ref (md 4), .ref (md 5), .ref (md 6), .ref (md 7), .ref (md 8), .ref (md 9), .ref (md 10), .ref (md 11), .ref (md 12), .ref (md 13), .ref (md 14), .ref (md 15), .ref (md 16), .int (nI w), .ref (md 17)])), (md 1, .inl (cI, 81, .inl (nF s1))), (md 2, .inl (cI, 81, .inl (nF p1))), (md 3, .inl (cI, 91, .inl (nF xs))), (md 4, .inl (cI, 91, .inl (nF ys))), (md 5, .inl (cI, 91, .inl (nF zs))), (md 6, .inl (cZ, 91, .inl (bF S))), (md 7, .inl (cI, 9, .inl (nF mp)))] → va_S A s.heap H locs → WG p l e wsX7_make { frames := 2, cells := 0, slots := 0, locals := 47 } s m [.ref (md 0), .int (nI q)] below meth c H locs (CQ (S := (Nat → Nat) × (Nat → Nat) × (Nat → Nat) × (Nat → Nat) × (Nat → Nat) × (Nat → Bool) × (Nat → Nat)) D (fun u => (fun (su3 : Nat → Nat) (po3 : Nat → Nat) (xs3 : Nat → Nat) (ys3 : Nat → Nat) (zs3 : Nat → Nat) (S3 : Nat → Bool) (mp3 : Nat → Nat) => MOK q su3 po3 xs3 ys3 zs3 ∧ (∀ t, t < 91 → S3 t = false) ∧ (∀ t, t < 9 → mp3 t = if t % 4 = 0 then 1 else 0)) u.1 u.2.1 u.2.2.1 u.2.2.2.1 u.2.2.2.2.1 u.2.2.2.2.2.1 u.2.2.2.2.2.2) (fun u => (fun (su3 : Nat → Nat) (po3 : Nat → Nat) (xs3 : Nat → Nat) (ys3 : Nat → Nat) (zs3 : Nat → Nat) (S3 : Nat → Bool) (mp3 : Nat → Nat) => none) u.1 u.2.1 u.2.2.1 u.2.2.2.1 u.2.2.2.2.1 u.2.2.2.2.2.1 u.2.2.2.2.2.2) (fun u => (fun (su3 : Nat → Nat) (po3 : Nat → Nat) (xs3 : Nat → Nat) (ys3 : Nat → Nat) (zs3 : Nat → Nat) (S3 : Nat → Bool) (mp3 : Nat → Nat) => [(md 0, .inr (7, [.int (nI q), .int (nI (nn q)), .ref (md 1), .ref (md 2), .ref (md 3), .ref (md 4), .ref (md 5), .ref (md 6), .ref (md 7), .ref (md 8), .ref (md 9), .ref (md 10), .ref (md 11), .ref (md 12), .ref (md 13), .ref (md 14), .ref (md 15), .ref (md 16), .int (nI w), .ref (md 17)])), (md 1, .inl (cI, 81, .inl (nF su3))), (md 2, .inl (cI, 81, .inl (nF po3))), (md 3, .inl (cI, 91, .inl (nF xs3))), (md 4, .inl (cI, 91, .inl (nF ys3))), (md 5, .inl (cI, 91, .inl (nF zs3))), (md 6, .inl (cZ, 91, .inl (bF S3))), (md 7, .inl (cI, 9, .inl (nF mp3)))]) u.1 u.2.1 u.2.2.1 u.2.2.2.1 u.2.2.2.2.1 u.2.2.2.2.2.1 u.2.2.2.2.2.2) A) A 7 ls [] := by
    intro N7
    induction N7 with
    | zero => intro a s1 p1 ls H locs hN; exact absurd hN (Nat.not_lt_zero _)
    | succ N7 ih7 =>
      intro a s1 p1 ls H locs hN7 k_a k_f hl hP hD hS
      refine lv_iload_n hx hb dX7_make_7 rfl (lv_at hl 2 rfl) ?_
      refine lv_aload_n hx hb dX7_make_8 rfl (lv_at hl 0 rfl) ?_
      refine va_get (D := D) (ci := 7) (v := .int (nI q)) (C := RX7) (T := TX7) (N := 20) hx hb hts hiX7 hown hK hP 0 rfl rfl 0 (by decide) hf74 (fun _ h9 => h9) rfl dX7_make_9 ?_
      refine nv_icmp_ge (tgt := 77) hx hb (by omega) (by omega) dX7_make_12 (by decide) (fun c12 => ?_) (fun c12 => ?_)
      · refine lv_aload_n hx hb dX7_make_77 rfl (lv_at hl 0 rfl) ?_
        refine lv_iconst (v := nI 0) hx hb dX7_make_78 (by decide) ?_
        refine va_put (D := D) (ci := 7) (v := .int (nI 0)) (ty := .int) (C := RX7) (T := TX7) (N := 20) hx hb hts hiX7 tyX7 tyX7_ok nmX7 hown hK hP hD hS 0 rfl rfl 1 (by decide) hf83 (fun _ h9 => h9) rfl (by decide +kernel) rfl rfl (Nat.le_of_ble_eq_true rfl) dX7_make_79 (fun H locs hP hD hS => ?_)
        have hP : va_P D vwCl [(md 0, .inr (7, [.int (nI q), .int (nI 0), .ref (md 1), .ref (md 2), .ref (md 3), .ref (md 4), .ref (md 5), .ref (md 6), .ref (md 7), .ref (md 8), .ref (md 9), .ref (md 10), .ref (md 11), .ref (md 12), .ref (md 13), .ref (md 14), .ref (md 15), .ref (md 16), .int (nI w), .ref (md 17)])), (md 1, .inl (cI, 81, .inl (nF s1))), (md 2, .inl (cI, 81, .inl (nF p1))), (md 3, .inl (cI, 91, .inl (nF xs))), (md 4, .inl (cI, 91, .inl (nF ys))), (md 5, .inl (cI, 91, .inl (nF zs))), (md 6, .inl (cZ, 91, .inl (bF S))), (md 7, .inl (cI, 9, .inl (nF mp)))] H := hP
        have hD : va_D A [(md 0, .inr (7, [.int (nI q), .int (nI 0), .ref (md 1), .ref (md 2), .ref (md 3), .ref (md 4), .ref (md 5), .ref (md 6), .ref (md 7), .ref (md 8), .ref (md 9), .ref (md 10), .ref (md 11), .ref (md 12), .ref (md 13), .ref (md 14), .ref (md 15), .ref (md 16), .int (nI w), .ref (md 17)])), (md 1, .inl (cI, 81, .inl (nF s1))), (md 2, .inl (cI, 81, .inl (nF p1))), (md 3, .inl (cI, 91, .inl (nF xs))), (md 4, .inl (cI, 91, .inl (nF ys))), (md 5, .inl (cI, 91, .inl (nF zs))), (md 6, .inl (cZ, 91, .inl (bF S))), (md 7, .inl (cI, 9, .inl (nF mp)))] := hD
        refine lv_iconst (v := nI 1) hx hb dX7_make_82 (by decide) ?_
        refine lv_istore_n (lv' := [(2, .int (nI 1)), (0, .ref (md 0)), (1, .int (nI q))]) hx hb dX7_make_83 rfl hl (by decide) rfl (fun ls hl => ?_)
        have L84 : ∀ (N84 : Nat) (k : Nat) (n1 : Nat) (x1 : Nat → Nat) (y1 : Nat → Nat) (z1 : Nat → Nat) (ls : Array Slot) (H : Heap) (locs : List Loc), q * q * q - k < N84 → (1 ≤ k) → (k ≤ q * q * q) → (n1 = cnt (vld q) k) → (XK q n1 x1 y1 z1) → lv_has ls 6 [(0, .ref (md 0)), (1, .int (nI q)), (2, .int (nI k))] → va_P D vwCl [(md 0, .inr (7, [.int (nI q), .int (nI n1), .ref (md 1), .ref (md 2), .ref (md 3), .ref (md 4), .ref (md 5), .ref (md 6), .ref (md 7), .ref (md 8), .ref (md 9), .ref (md 10), .ref (md 11), .ref (md 12), .ref (md 13), .ref (md 14), .ref (md 15), .ref (md 16), .int (nI w), .ref (md 17)])), (md 1, .inl (cI, 81, .inl (nF s1))), (md 2, .inl (cI, 81, .inl (nF p1))), (md 3, .inl (cI, 91, .inl (nF x1))), (md 4, .inl (cI, 91, .inl (nF y1))), (md 5, .inl (cI, 91, .inl (nF z1))), (md 6, .inl (cZ, 91, .inl (bF S))), (md 7, .inl (cI, 9, .inl (nF mp)))] H → va_D A [(md 0, .inr (7, [.int (nI q), .int (nI n1), .ref (md 1), .ref (md 2), .ref (md 3), .ref (md 4), .ref (md 5), .ref (md 6), .ref (md 7), .ref (md 8), .ref (md 9), .ref (md 10), .ref (md 11), .ref (md 12), .ref (md 13), .ref (md 14), .ref (md 15), .ref (md 16), .int (nI w), .ref (md 17)])), (md 1, .inl (cI, 81, .inl (nF s1))), (md 2, .inl (cI, 81, .inl (nF p1))), (md 3, .inl (cI, 91, .inl (nF x1))), (md 4, .inl (cI, 91, .inl (nF y1))), (md 5, .inl (cI, 91, .inl (nF z1))), (md 6, .inl (cZ, 91, .inl (bF S))), (md 7, .inl (cI, 9, .inl (nF mp)))] → va_S A s.heap H locs → WG p l e wsX7_make { frames := 2, cells := 0, slots := 0, locals := 47 } s m [.ref (md 0), .int (nI q)] below meth c H locs (CQ (S := (Nat → Nat) × (Nat → Nat) × (Nat → Nat) × (Nat → Nat) × (Nat → Nat) × (Nat → Bool) × (Nat → Nat)) D (fun u => (fun (su3 : Nat → Nat) (po3 : Nat → Nat) (xs3 : Nat → Nat) (ys3 : Nat → Nat) (zs3 : Nat → Nat) (S3 : Nat → Bool) (mp3 : Nat → Nat) => MOK q su3 po3 xs3 ys3 zs3 ∧ (∀ t, t < 91 → S3 t = false) ∧ (∀ t, t < 9 → mp3 t = if t % 4 = 0 then 1 else 0)) u.1 u.2.1 u.2.2.1 u.2.2.2.1 u.2.2.2.2.1 u.2.2.2.2.2.1 u.2.2.2.2.2.2) (fun u => (fun (su3 : Nat → Nat) (po3 : Nat → Nat) (xs3 : Nat → Nat) (ys3 : Nat → Nat) (zs3 : Nat → Nat) (S3 : Nat → Bool) (mp3 : Nat → Nat) => none) u.1 u.2.1 u.2.2.1 u.2.2.2.1 u.2.2.2.2.1 u.2.2.2.2.2.1 u.2.2.2.2.2.2) (fun u => (fun (su3 : Nat → Nat) (po3 : Nat → Nat) (xs3 : Nat → Nat) (ys3 : Nat → Nat) (zs3 : Nat → Nat) (S3 : Nat → Bool) (mp3 : Nat → Nat) => [(md 0, .inr (7, [.int (nI q), .int (nI (nn q)), .ref (md 1), .ref (md 2), .ref (md 3), .ref (md 4), .ref (md 5), .ref (md 6), .ref (md 7), .ref (md 8), .ref (md 9), .ref (md 10), .ref (md 11), .ref (md 12), .ref (md 13), .ref (md 14), .ref (md 15), .ref (md 16), .int (nI w), .ref (md 17)])), (md 1, .inl (cI, 81, .inl (nF su3))), (md 2, .inl (cI, 81, .inl (nF po3))), (md 3, .inl (cI, 91, .inl (nF xs3))), (md 4, .inl (cI, 91, .inl (nF ys3))), (md 5, .inl (cI, 91, .inl (nF zs3))), (md 6, .inl (cZ, 91, .inl (bF S3))), (md 7, .inl (cI, 9, .inl (nF mp3)))]) u.1 u.2.1 u.2.2.1 u.2.2.2.1 u.2.2.2.2.1 u.2.2.2.2.2.1 u.2.2.2.2.2.2) A) A 84 ls [] := by
          intro N84
          induction N84 with
          | zero => intro k n1 x1 y1 z1 ls H locs hN; exact absurd hN (Nat.not_lt_zero _)
          | succ N84 ih84 =>
            intro k n1 x1 y1 z1 ls H locs hN84 k_k k_k2 k_n k_x hl hP hD hS
            refine lv_iload_n hx hb dX7_make_84 rfl (lv_at hl 2 rfl) ?_
            refine lv_aload_n hx hb dX7_make_85 rfl (lv_at hl 0 rfl) ?_
            refine va_get (D := D) (ci := 7) (v := .int (nI q)) (C := RX7) (T := TX7) (N := 20) hx hb hts hiX7 hown hK hP 0 rfl rfl 0 (by decide) hf74 (fun _ h9 => h9) rfl dX7_make_86 ?_
            refine lv_aload_n hx hb dX7_make_89 rfl (lv_at hl 0 rfl) ?_
            refine va_get (D := D) (ci := 7) (v := .int (nI q)) (C := RX7) (T := TX7) (N := 20) hx hb hts hiX7 hown hK hP 0 rfl rfl 0 (by decide) hf74 (fun _ h9 => h9) rfl dX7_make_90 ?_
            refine nv_mulE (r := q * q) hx hb rfl dX7_make_93 ?_
            refine lv_aload_n hx hb dX7_make_94 rfl (lv_at hl 0 rfl) ?_
            refine va_get (D := D) (ci := 7) (v := .int (nI q)) (C := RX7) (T := TX7) (N := 20) hx hb hts hiX7 hown hK hP 0 rfl rfl 0 (by decide) hf74 (fun _ h9 => h9) rfl dX7_make_95 ?_
            refine nv_mulE (r := (q * q) * q) hx hb rfl dX7_make_98 ?_
            refine nv_icmp_ge (tgt := 213) hx hb (by omega) (by omega) dX7_make_99 (by decide) (fun c99 => ?_) (fun c99 => ?_)
            · have hk9 : k = q * q * q := by omega
              obtain rfl : n1 = nn q := by rw [k_n, hk9]; exact hvn.1
              refine lv_iconst (v := nI 0) hx hb dX7_make_213 (by decide) ?_
              refine lv_istore_n (lv' := [(2, .int (nI 0)), (0, .ref (md 0)), (1, .int (nI q))]) hx hb dX7_make_214 rfl hl (by decide) rfl (fun ls hl => ?_)
              have L215 : ∀ (N215 : Nat) (i : Nat) (S1 : Nat → Bool) (ls : Array Slot) (H : Heap) (locs : List Loc), 91 - i < N215 → (i ≤ 91) → (∀ t, t < i → S1 t = false) → lv_has ls 6 [(0, .ref (md 0)), (1, .int (nI q)), (2, .int (nI i))] → va_P D vwCl [(md 0, .inr (7, [.int (nI q), .int (nI (nn q)), .ref (md 1), .ref (md 2), .ref (md 3), .ref (md 4), .ref (md 5), .ref (md 6), .ref (md 7), .ref (md 8), .ref (md 9), .ref (md 10), .ref (md 11), .ref (md 12), .ref (md 13), .ref (md 14), .ref (md 15), .ref (md 16), .int (nI w), .ref (md 17)])), (md 1, .inl (cI, 81, .inl (nF s1))), (md 2, .inl (cI, 81, .inl (nF p1))), (md 3, .inl (cI, 91, .inl (nF x1))), (md 4, .inl (cI, 91, .inl (nF y1))), (md 5, .inl (cI, 91, .inl (nF z1))), (md 6, .inl (cZ, 91, .inl (bF S1))), (md 7, .inl (cI, 9, .inl (nF mp)))] H → va_D A [(md 0, .inr (7, [.int (nI q), .int (nI (nn q)), .ref (md 1), .ref (md 2), .ref (md 3), .ref (md 4), .ref (md 5), .ref (md 6), .ref (md 7), .ref (md 8), .ref (md 9), .ref (md 10), .ref (md 11), .ref (md 12), .ref (md 13), .ref (md 14), .ref (md 15), .ref (md 16), .int (nI w), .ref (md 17)])), (md 1, .inl (cI, 81, .inl (nF s1))), (md 2, .inl (cI, 81, .inl (nF p1))), (md 3, .inl (cI, 91, .inl (nF x1))), (md 4, .inl (cI, 91, .inl (nF y1))), (md 5, .inl (cI, 91, .inl (nF z1))), (md 6, .inl (cZ, 91, .inl (bF S1))), (md 7, .inl (cI, 9, .inl (nF mp)))] → va_S A s.heap H locs → WG p l e wsX7_make { frames := 2, cells := 0, slots := 0, locals := 47 } s m [.ref (md 0), .int (nI q)] below meth c H locs (CQ (S := (Nat → Nat) × (Nat → Nat) × (Nat → Nat) × (Nat → Nat) × (Nat → Nat) × (Nat → Bool) × (Nat → Nat)) D (fun u => (fun (su3 : Nat → Nat) (po3 : Nat → Nat) (xs3 : Nat → Nat) (ys3 : Nat → Nat) (zs3 : Nat → Nat) (S3 : Nat → Bool) (mp3 : Nat → Nat) => MOK q su3 po3 xs3 ys3 zs3 ∧ (∀ t, t < 91 → S3 t = false) ∧ (∀ t, t < 9 → mp3 t = if t % 4 = 0 then 1 else 0)) u.1 u.2.1 u.2.2.1 u.2.2.2.1 u.2.2.2.2.1 u.2.2.2.2.2.1 u.2.2.2.2.2.2) (fun u => (fun (su3 : Nat → Nat) (po3 : Nat → Nat) (xs3 : Nat → Nat) (ys3 : Nat → Nat) (zs3 : Nat → Nat) (S3 : Nat → Bool) (mp3 : Nat → Nat) => none) u.1 u.2.1 u.2.2.1 u.2.2.2.1 u.2.2.2.2.1 u.2.2.2.2.2.1 u.2.2.2.2.2.2) (fun u => (fun (su3 : Nat → Nat) (po3 : Nat → Nat) (xs3 : Nat → Nat) (ys3 : Nat → Nat) (zs3 : Nat → Nat) (S3 : Nat → Bool) (mp3 : Nat → Nat) => [(md 0, .inr (7, [.int (nI q), .int (nI (nn q)), .ref (md 1), .ref (md 2), .ref (md 3), .ref (md 4), .ref (md 5), .ref (md 6), .ref (md 7), .ref (md 8), .ref (md 9), .ref (md 10), .ref (md 11), .ref (md 12), .ref (md 13), .ref (md 14), .ref (md 15), .ref (md 16), .int (nI w), .ref (md 17)])), (md 1, .inl (cI, 81, .inl (nF su3))), (md 2, .inl (cI, 81, .inl (nF po3))), (md 3, .inl (cI, 91, .inl (nF xs3))), (md 4, .inl (cI, 91, .inl (nF ys3))), (md 5, .inl (cI, 91, .inl (nF zs3))), (md 6, .inl (cZ, 91, .inl (bF S3))), (md 7, .inl (cI, 9, .inl (nF mp3)))]) u.1 u.2.1 u.2.2.1 u.2.2.2.1 u.2.2.2.2.1 u.2.2.2.2.2.1 u.2.2.2.2.2.2) A) A 215 ls [] := by
                intro N215
                induction N215 with
                | zero => intro i S1 ls H locs hN; exact absurd hN (Nat.not_lt_zero _)
                | succ N215 ih215 =>
                  intro i S1 ls H locs hN215 k_i k_s hl hP hD hS
                  refine lv_iload_n hx hb dX7_make_215 rfl (lv_at hl 2 rfl) ?_
                  refine lv_bipush (v := nI 91) hx hb dX7_make_216 (by decide) ?_
                  refine nv_icmp_ge (tgt := 234) hx hb (by omega) (by decide) dX7_make_218 (by decide) (fun c218 => ?_) (fun c218 => ?_)
                  · refine lv_iconst (v := nI 0) hx hb dX7_make_234 (by decide) ?_
                    refine lv_istore_n (lv' := [(2, .int (nI 0)), (0, .ref (md 0)), (1, .int (nI q))]) hx hb dX7_make_235 rfl hl (by decide) rfl (fun ls hl => ?_)
                    have L236 : ∀ (N236 : Nat) (j : Nat) (m1 : Nat → Nat) (ls : Array Slot) (H : Heap) (locs : List Loc), 9 - j < N236 → (j ≤ 9) → (∀ t, t < j → m1 t = if t % 4 = 0 then 1 else 0) → lv_has ls 6 [(0, .ref (md 0)), (1, .int (nI q)), (2, .int (nI j))] → va_P D vwCl [(md 0, .inr (7, [.int (nI q), .int (nI (nn q)), .ref (md 1), .ref (md 2), .ref (md 3), .ref (md 4), .ref (md 5), .ref (md 6), .ref (md 7), .ref (md 8), .ref (md 9), .ref (md 10), .ref (md 11), .ref (md 12), .ref (md 13), .ref (md 14), .ref (md 15), .ref (md 16), .int (nI w), .ref (md 17)])), (md 1, .inl (cI, 81, .inl (nF s1))), (md 2, .inl (cI, 81, .inl (nF p1))), (md 3, .inl (cI, 91, .inl (nF x1))), (md 4, .inl (cI, 91, .inl (nF y1))), (md 5, .inl (cI, 91, .inl (nF z1))), (md 6, .inl (cZ, 91, .inl (bF S1))), (md 7, .inl (cI, 9, .inl (nF m1)))] H → va_D A [(md 0, .inr (7, [.int (nI q), .int (nI (nn q)), .ref (md 1), .ref (md 2), .ref (md 3), .ref (md 4), .ref (md 5), .ref (md 6), .ref (md 7), .ref (md 8), .ref (md 9), .ref (md 10), .ref (md 11), .ref (md 12), .ref (md 13), .ref (md 14), .ref (md 15), .ref (md 16), .int (nI w), .ref (md 17)])), (md 1, .inl (cI, 81, .inl (nF s1))), (md 2, .inl (cI, 81, .inl (nF p1))), (md 3, .inl (cI, 91, .inl (nF x1))), (md 4, .inl (cI, 91, .inl (nF y1))), (md 5, .inl (cI, 91, .inl (nF z1))), (md 6, .inl (cZ, 91, .inl (bF S1))), (md 7, .inl (cI, 9, .inl (nF m1)))] → va_S A s.heap H locs → WG p l e wsX7_make { frames := 2, cells := 0, slots := 0, locals := 47 } s m [.ref (md 0), .int (nI q)] below meth c H locs (CQ (S := (Nat → Nat) × (Nat → Nat) × (Nat → Nat) × (Nat → Nat) × (Nat → Nat) × (Nat → Bool) × (Nat → Nat)) D (fun u => (fun (su3 : Nat → Nat) (po3 : Nat → Nat) (xs3 : Nat → Nat) (ys3 : Nat → Nat) (zs3 : Nat → Nat) (S3 : Nat → Bool) (mp3 : Nat → Nat) => MOK q su3 po3 xs3 ys3 zs3 ∧ (∀ t, t < 91 → S3 t = false) ∧ (∀ t, t < 9 → mp3 t = if t % 4 = 0 then 1 else 0)) u.1 u.2.1 u.2.2.1 u.2.2.2.1 u.2.2.2.2.1 u.2.2.2.2.2.1 u.2.2.2.2.2.2) (fun u => (fun (su3 : Nat → Nat) (po3 : Nat → Nat) (xs3 : Nat → Nat) (ys3 : Nat → Nat) (zs3 : Nat → Nat) (S3 : Nat → Bool) (mp3 : Nat → Nat) => none) u.1 u.2.1 u.2.2.1 u.2.2.2.1 u.2.2.2.2.1 u.2.2.2.2.2.1 u.2.2.2.2.2.2) (fun u => (fun (su3 : Nat → Nat) (po3 : Nat → Nat) (xs3 : Nat → Nat) (ys3 : Nat → Nat) (zs3 : Nat → Nat) (S3 : Nat → Bool) (mp3 : Nat → Nat) => [(md 0, .inr (7, [.int (nI q), .int (nI (nn q)), .ref (md 1), .ref (md 2), .ref (md 3), .ref (md 4), .ref (md 5), .ref (md 6), .ref (md 7), .ref (md 8), .ref (md 9), .ref (md 10), .ref (md 11), .ref (md 12), .ref (md 13), .ref (md 14), .ref (md 15), .ref (md 16), .int (nI w), .ref (md 17)])), (md 1, .inl (cI, 81, .inl (nF su3))), (md 2, .inl (cI, 81, .inl (nF po3))), (md 3, .inl (cI, 91, .inl (nF xs3))), (md 4, .inl (cI, 91, .inl (nF ys3))), (md 5, .inl (cI, 91, .inl (nF zs3))), (md 6, .inl (cZ, 91, .inl (bF S3))), (md 7, .inl (cI, 9, .inl (nF mp3)))]) u.1 u.2.1 u.2.2.1 u.2.2.2.1 u.2.2.2.2.1 u.2.2.2.2.2.1 u.2.2.2.2.2.2) A) A 236 ls [] := by
                      intro N236
                      induction N236 with
                      | zero => intro j m1 ls H locs hN; exact absurd hN (Nat.not_lt_zero _)
                      | succ N236 ih236 =>
                        intro j m1 ls H locs hN236 k_j k_m hl hP hD hS
                        refine lv_iload_n hx hb dX7_make_236 rfl (lv_at hl 2 rfl) ?_
                        refine lv_bipush (v := nI 9) hx hb dX7_make_237 (by decide) ?_
                        refine nv_icmp_ge (tgt := 265) hx hb (by omega) (by decide) dX7_make_239 (by decide) (fun c239 => ?_) (fun c239 => ?_)
                        · exact ctW_retV (s1, p1, x1, y1, z1, S1, m1) hx hb hr dX7_make_265 hlocks hS hP hD (by dsimp only; exact ⟨⟨hq, fun a1 b1 h1 h2 => (k_f a1 b1 h1 h2 (Or.inl (by omega))).1, fun a1 b1 h1 h2 => (k_f a1 b1 h1 h2 (Or.inl (by omega))).2, k_x⟩, fun t ht => k_s t (by omega), fun t ht => k_m t (by omega)⟩) rfl
                        · refine lv_aload_n hx hb dX7_make_242 rfl (lv_at hl 0 rfl) ?_
                          refine va_get (D := D) (ci := 7) (v := .ref (md 7)) (C := RX7) (T := TX7) (N := 20) hx hb hts hiX7 hown hK hP 0 rfl rfl 8 (by decide) hf29 (fun _ h9 => h9) rfl dX7_make_243 ?_
                          refine lv_iload_n hx hb dX7_make_246 rfl (lv_at hl 2 rfl) ?_
                          refine lv_iload_n hx hb dX7_make_247 rfl (lv_at hl 2 rfl) ?_
                          refine lv_iconst (v := nI 4) hx hb dX7_make_248 (by decide) ?_
                          refine nv_remE (r := j % 4) hx hb (by omega) (by decide) (by decide) rfl dX7_make_249 ?_
                          refine nv_if_ne (tgt := 257) hx hb (by omega) dX7_make_250 (by decide) (fun c250 => ?_) (fun c250 => ?_)
                          · refine lv_iconst (v := nI 0) hx hb dX7_make_257 (by decide) ?_
                            refine nv_iast hx hb hK hP hD hS 7 0 rfl rfl (by omega) (by decide) dX7_make_258 (fun H locs hP hD hS => ?_)
                            have hP : va_P D vwCl [(md 0, .inr (7, [.int (nI q), .int (nI (nn q)), .ref (md 1), .ref (md 2), .ref (md 3), .ref (md 4), .ref (md 5), .ref (md 6), .ref (md 7), .ref (md 8), .ref (md 9), .ref (md 10), .ref (md 11), .ref (md 12), .ref (md 13), .ref (md 14), .ref (md 15), .ref (md 16), .int (nI w), .ref (md 17)])), (md 1, .inl (cI, 81, .inl (nF s1))), (md 2, .inl (cI, 81, .inl (nF p1))), (md 3, .inl (cI, 91, .inl (nF x1))), (md 4, .inl (cI, 91, .inl (nF y1))), (md 5, .inl (cI, 91, .inl (nF z1))), (md 6, .inl (cZ, 91, .inl (bF S1))), (md 7, .inl (cI, 9, .inl (nF (upN m1 j 0))))] H := hP
                            have hD : va_D A [(md 0, .inr (7, [.int (nI q), .int (nI (nn q)), .ref (md 1), .ref (md 2), .ref (md 3), .ref (md 4), .ref (md 5), .ref (md 6), .ref (md 7), .ref (md 8), .ref (md 9), .ref (md 10), .ref (md 11), .ref (md 12), .ref (md 13), .ref (md 14), .ref (md 15), .ref (md 16), .int (nI w), .ref (md 17)])), (md 1, .inl (cI, 81, .inl (nF s1))), (md 2, .inl (cI, 81, .inl (nF p1))), (md 3, .inl (cI, 91, .inl (nF x1))), (md 4, .inl (cI, 91, .inl (nF y1))), (md 5, .inl (cI, 91, .inl (nF z1))), (md 6, .inl (cZ, 91, .inl (bF S1))), (md 7, .inl (cI, 9, .inl (nF (upN m1 j 0))))] := hD
                            refine lv_iinc (v := nI (j + 1)) (lv' := [(2, .int (nI (j + 1))), (0, .ref (md 0)), (1, .int (nI q))]) hx hb dX7_make_259 hl (k := 2) rfl (nI_inc j) (by decide) rfl (fun ls hl => ?_)
                            refine lv_goto (tgt := 236) hx hb dX7_make_262 (by decide) ?_
                            exact ih236 (j + 1) (upN m1 j 0) ls _ _ (by omega) (by omega) (fun t ht => (Nat.lt_succ_iff_lt_or_eq.mp ht).elim (fun h => by rw [upN_n (by omega)]; exact k_m t h) (fun h => by rw [h, upN_s, if_neg c250])) (lv_sub hl [1, 2, 0] rfl) hP hD hS
                          · refine lv_iconst (v := nI 1) hx hb dX7_make_253 (by decide) ?_
                            refine lv_goto (tgt := 258) hx hb dX7_make_254 (by decide) ?_
                            refine nv_iast hx hb hK hP hD hS 7 0 rfl rfl (by omega) (by decide) dX7_make_258 (fun H locs hP hD hS => ?_)
                            have hP : va_P D vwCl [(md 0, .inr (7, [.int (nI q), .int (nI (nn q)), .ref (md 1), .ref (md 2), .ref (md 3), .ref (md 4), .ref (md 5), .ref (md 6), .ref (md 7), .ref (md 8), .ref (md 9), .ref (md 10), .ref (md 11), .ref (md 12), .ref (md 13), .ref (md 14), .ref (md 15), .ref (md 16), .int (nI w), .ref (md 17)])), (md 1, .inl (cI, 81, .inl (nF s1))), (md 2, .inl (cI, 81, .inl (nF p1))), (md 3, .inl (cI, 91, .inl (nF x1))), (md 4, .inl (cI, 91, .inl (nF y1))), (md 5, .inl (cI, 91, .inl (nF z1))), (md 6, .inl (cZ, 91, .inl (bF S1))), (md 7, .inl (cI, 9, .inl (nF (upN m1 j 1))))] H := hP
                            have hD : va_D A [(md 0, .inr (7, [.int (nI q), .int (nI (nn q)), .ref (md 1), .ref (md 2), .ref (md 3), .ref (md 4), .ref (md 5), .ref (md 6), .ref (md 7), .ref (md 8), .ref (md 9), .ref (md 10), .ref (md 11), .ref (md 12), .ref (md 13), .ref (md 14), .ref (md 15), .ref (md 16), .int (nI w), .ref (md 17)])), (md 1, .inl (cI, 81, .inl (nF s1))), (md 2, .inl (cI, 81, .inl (nF p1))), (md 3, .inl (cI, 91, .inl (nF x1))), (md 4, .inl (cI, 91, .inl (nF y1))), (md 5, .inl (cI, 91, .inl (nF z1))), (md 6, .inl (cZ, 91, .inl (bF S1))), (md 7, .inl (cI, 9, .inl (nF (upN m1 j 1))))] := hD
                            refine lv_iinc (v := nI (j + 1)) (lv' := [(2, .int (nI (j + 1))), (0, .ref (md 0)), (1, .int (nI q))]) hx hb dX7_make_259 hl (k := 2) rfl (nI_inc j) (by decide) rfl (fun ls hl => ?_)
                            refine lv_goto (tgt := 236) hx hb dX7_make_262 (by decide) ?_
                            exact ih236 (j + 1) (upN m1 j 1) ls _ _ (by omega) (by omega) (fun t ht => (Nat.lt_succ_iff_lt_or_eq.mp ht).elim (fun h => by rw [upN_n (by omega)]; exact k_m t h) (fun h => by rw [h, upN_s, if_pos c250])) (lv_sub hl [1, 2, 0] rfl) hP hD hS
                    exact L236 (9 - 0 + 1) 0 mp ls _ _ (by omega) (Nat.zero_le _) (fun t h => absurd h (Nat.not_lt_zero t)) (lv_sub hl [1, 2, 0] rfl) hP hD hS
                  · refine lv_aload_n hx hb dX7_make_221 rfl (lv_at hl 0 rfl) ?_
                    refine va_get (D := D) (ci := 7) (v := .ref (md 6)) (C := RX7) (T := TX7) (N := 20) hx hb hts hiX7 hown hK hP 0 rfl rfl 7 (by decide) hf25 (fun _ h9 => h9) rfl dX7_make_222 ?_
                    refine lv_iload_n hx hb dX7_make_225 rfl (lv_at hl 2 rfl) ?_
                    refine lv_iconst (v := nI 0) hx hb dX7_make_226 (by decide) ?_
                    refine nv_zast hx hb hK hP hD hS 6 1 rfl rfl false (by omega) (by decide) dX7_make_227 (fun H locs hP hD hS => ?_)
                    have hP : va_P D vwCl [(md 0, .inr (7, [.int (nI q), .int (nI (nn q)), .ref (md 1), .ref (md 2), .ref (md 3), .ref (md 4), .ref (md 5), .ref (md 6), .ref (md 7), .ref (md 8), .ref (md 9), .ref (md 10), .ref (md 11), .ref (md 12), .ref (md 13), .ref (md 14), .ref (md 15), .ref (md 16), .int (nI w), .ref (md 17)])), (md 1, .inl (cI, 81, .inl (nF s1))), (md 2, .inl (cI, 81, .inl (nF p1))), (md 3, .inl (cI, 91, .inl (nF x1))), (md 4, .inl (cI, 91, .inl (nF y1))), (md 5, .inl (cI, 91, .inl (nF z1))), (md 6, .inl (cZ, 91, .inl (bF (upB S1 i false)))), (md 7, .inl (cI, 9, .inl (nF mp)))] H := hP
                    have hD : va_D A [(md 0, .inr (7, [.int (nI q), .int (nI (nn q)), .ref (md 1), .ref (md 2), .ref (md 3), .ref (md 4), .ref (md 5), .ref (md 6), .ref (md 7), .ref (md 8), .ref (md 9), .ref (md 10), .ref (md 11), .ref (md 12), .ref (md 13), .ref (md 14), .ref (md 15), .ref (md 16), .int (nI w), .ref (md 17)])), (md 1, .inl (cI, 81, .inl (nF s1))), (md 2, .inl (cI, 81, .inl (nF p1))), (md 3, .inl (cI, 91, .inl (nF x1))), (md 4, .inl (cI, 91, .inl (nF y1))), (md 5, .inl (cI, 91, .inl (nF z1))), (md 6, .inl (cZ, 91, .inl (bF (upB S1 i false)))), (md 7, .inl (cI, 9, .inl (nF mp)))] := hD
                    refine lv_iinc (v := nI (i + 1)) (lv' := [(2, .int (nI (i + 1))), (0, .ref (md 0)), (1, .int (nI q))]) hx hb dX7_make_228 hl (k := 2) rfl (nI_inc i) (by decide) rfl (fun ls hl => ?_)
                    refine lv_goto (tgt := 215) hx hb dX7_make_231 (by decide) ?_
                    exact ih215 (i + 1) (upB S1 i false) ls _ _ (by omega) (by omega) (fun t ht => (Nat.lt_succ_iff_lt_or_eq.mp ht).elim (fun h => by rw [upB_n (by omega)]; exact k_s t h) (fun h => by rw [h, upB_s])) (lv_sub hl [1, 2, 0] rfl) hP hD hS
              exact L215 (91 - 0 + 1) 0 S ls _ _ (by omega) (Nat.zero_le _) (fun t h => absurd h (Nat.not_lt_zero t)) (lv_sub hl [1, 2, 0] rfl) hP hD hS
            · have d1 : k / (q * q) < 2 ^ 31 := Nat.lt_of_le_of_lt (Nat.div_le_self _ _) (by omega)
              have d2 : k / q % q < q := Nat.mod_lt _ (by omega)
              have d3 : k % q < q := Nat.mod_lt _ (by omega)
              refine lv_iload_n hx hb dX7_make_102 rfl (lv_at hl 2 rfl) ?_
              refine lv_aload_n hx hb dX7_make_103 rfl (lv_at hl 0 rfl) ?_
              refine va_get (D := D) (ci := 7) (v := .int (nI q)) (C := RX7) (T := TX7) (N := 20) hx hb hts hiX7 hown hK hP 0 rfl rfl 0 (by decide) hf74 (fun _ h9 => h9) rfl dX7_make_104 ?_
              refine lv_aload_n hx hb dX7_make_107 rfl (lv_at hl 0 rfl) ?_
              refine va_get (D := D) (ci := 7) (v := .int (nI q)) (C := RX7) (T := TX7) (N := 20) hx hb hts hiX7 hown hK hP 0 rfl rfl 0 (by decide) hf74 (fun _ h9 => h9) rfl dX7_make_108 ?_
              refine nv_mulE (r := q * q) hx hb rfl dX7_make_111 ?_
              refine nv_divE (r := k / (q * q)) hx hb (by omega) (Nat.mul_pos (by omega) (by omega)) (Nat.lt_of_le_of_lt hqq (by decide)) rfl dX7_make_112 ?_
              refine lv_istore_n (lv' := [(3, .int (nI (k / (q * q)))), (0, .ref (md 0)), (1, .int (nI q)), (2, .int (nI k))]) hx hb dX7_make_113 rfl hl (by decide) rfl (fun ls hl => ?_)
              refine lv_iload_n hx hb dX7_make_114 rfl (lv_at hl 3 rfl) ?_
              refine lv_aload_n hx hb dX7_make_115 rfl (lv_at hl 1 rfl) ?_
              refine va_get (D := D) (ci := 7) (v := .int (nI q)) (C := RX7) (T := TX7) (N := 20) hx hb hts hiX7 hown hK hP 0 rfl rfl 0 (by decide) hf74 (fun _ h9 => h9) rfl dX7_make_116 ?_
              refine nv_divE (r := k / q) hx hb (by omega) (by omega) (by omega) rfl dX7_make_119 ?_
              refine lv_aload_n hx hb dX7_make_120 rfl (lv_at hl 1 rfl) ?_
              refine va_get (D := D) (ci := 7) (v := .int (nI q)) (C := RX7) (T := TX7) (N := 20) hx hb hts hiX7 hown hK hP 0 rfl rfl 0 (by decide) hf74 (fun _ h9 => h9) rfl dX7_make_121 ?_
              refine nv_remE (r := (k / q) % q) hx hb (Nat.lt_of_le_of_lt (Nat.div_le_self _ _) (by omega)) (by omega) (by omega) rfl dX7_make_124 ?_
              refine lv_istore (lv' := [(4, .int (nI ((k / q) % q))), (3, .int (nI (k / (q * q)))), (0, .ref (md 0)), (1, .int (nI q)), (2, .int (nI k))]) hx hb dX7_make_125 hl (by decide) rfl (fun ls hl => ?_)
              refine lv_iload_n hx hb dX7_make_127 rfl (lv_at hl 4 rfl) ?_
              refine lv_aload_n hx hb dX7_make_128 rfl (lv_at hl 2 rfl) ?_
              refine va_get (D := D) (ci := 7) (v := .int (nI q)) (C := RX7) (T := TX7) (N := 20) hx hb hts hiX7 hown hK hP 0 rfl rfl 0 (by decide) hf74 (fun _ h9 => h9) rfl dX7_make_129 ?_
              refine nv_remE (r := k % q) hx hb (by omega) (by omega) (by omega) rfl dX7_make_132 ?_
              refine lv_istore (lv' := [(5, .int (nI (k % q))), (4, .int (nI ((k / q) % q))), (3, .int (nI (k / (q * q)))), (0, .ref (md 0)), (1, .int (nI q)), (2, .int (nI k))]) hx hb dX7_make_133 hl (by decide) rfl (fun ls hl => ?_)
              refine lv_iload_n hx hb dX7_make_135 rfl (lv_at hl 2 rfl) ?_
              refine lv_iconst (v := nI 1) hx hb dX7_make_136 (by decide) ?_
              refine nv_icmp_eq (tgt := 165) hx hb (by omega) (by decide) dX7_make_137 (by decide) (fun c137 => ?_) (fun c137 => ?_)
              · have hv : vld q k = true := by first | exact vld_1 c137 | exact vld_2 c141 c147 | exact vld_3 c151 c156 c162
                have hvt := vld_t hq c99 hv
                have hn9 : n1 < 91 := by rw [k_n]; omega
                refine lv_aload_n hx hb dX7_make_165 rfl (lv_at hl 3 rfl) ?_
                refine va_get (D := D) (ci := 7) (v := .ref (md 3)) (C := RX7) (T := TX7) (N := 20) hx hb hts hiX7 hown hK hP 0 rfl rfl 4 (by decide) hf16 (fun _ h9 => h9) rfl dX7_make_166 ?_
                refine lv_aload_n hx hb dX7_make_169 rfl (lv_at hl 3 rfl) ?_
                refine va_get (D := D) (ci := 7) (v := .int (nI n1)) (C := RX7) (T := TX7) (N := 20) hx hb hts hiX7 hown hK hP 0 rfl rfl 1 (by decide) hf83 (fun _ h9 => h9) rfl dX7_make_170 ?_
                refine lv_iload_n hx hb dX7_make_173 rfl (lv_at hl 2 rfl) ?_
                refine nv_iast hx hb hK hP hD hS 3 0 rfl rfl (by omega) (by decide) dX7_make_174 (fun H locs hP hD hS => ?_)
                have hP : va_P D vwCl [(md 0, .inr (7, [.int (nI q), .int (nI n1), .ref (md 1), .ref (md 2), .ref (md 3), .ref (md 4), .ref (md 5), .ref (md 6), .ref (md 7), .ref (md 8), .ref (md 9), .ref (md 10), .ref (md 11), .ref (md 12), .ref (md 13), .ref (md 14), .ref (md 15), .ref (md 16), .int (nI w), .ref (md 17)])), (md 1, .inl (cI, 81, .inl (nF s1))), (md 2, .inl (cI, 81, .inl (nF p1))), (md 3, .inl (cI, 91, .inl (nF (upN x1 n1 (k / (q * q)))))), (md 4, .inl (cI, 91, .inl (nF y1))), (md 5, .inl (cI, 91, .inl (nF z1))), (md 6, .inl (cZ, 91, .inl (bF S))), (md 7, .inl (cI, 9, .inl (nF mp)))] H := hP
                have hD : va_D A [(md 0, .inr (7, [.int (nI q), .int (nI n1), .ref (md 1), .ref (md 2), .ref (md 3), .ref (md 4), .ref (md 5), .ref (md 6), .ref (md 7), .ref (md 8), .ref (md 9), .ref (md 10), .ref (md 11), .ref (md 12), .ref (md 13), .ref (md 14), .ref (md 15), .ref (md 16), .int (nI w), .ref (md 17)])), (md 1, .inl (cI, 81, .inl (nF s1))), (md 2, .inl (cI, 81, .inl (nF p1))), (md 3, .inl (cI, 91, .inl (nF (upN x1 n1 (k / (q * q)))))), (md 4, .inl (cI, 91, .inl (nF y1))), (md 5, .inl (cI, 91, .inl (nF z1))), (md 6, .inl (cZ, 91, .inl (bF S))), (md 7, .inl (cI, 9, .inl (nF mp)))] := hD
                refine lv_aload_n hx hb dX7_make_175 rfl (lv_at hl 3 rfl) ?_
                refine va_get (D := D) (ci := 7) (v := .ref (md 4)) (C := RX7) (T := TX7) (N := 20) hx hb hts hiX7 hown hK hP 0 rfl rfl 5 (by decide) hf19 (fun _ h9 => h9) rfl dX7_make_176 ?_
                refine lv_aload_n hx hb dX7_make_179 rfl (lv_at hl 3 rfl) ?_
                refine va_get (D := D) (ci := 7) (v := .int (nI n1)) (C := RX7) (T := TX7) (N := 20) hx hb hts hiX7 hown hK hP 0 rfl rfl 1 (by decide) hf83 (fun _ h9 => h9) rfl dX7_make_180 ?_
                refine lv_iload hx hb dX7_make_183 (lv_at hl 1 rfl) ?_
                refine nv_iast hx hb hK hP hD hS 4 0 rfl rfl (by omega) (by decide) dX7_make_185 (fun H locs hP hD hS => ?_)
                have hP : va_P D vwCl [(md 0, .inr (7, [.int (nI q), .int (nI n1), .ref (md 1), .ref (md 2), .ref (md 3), .ref (md 4), .ref (md 5), .ref (md 6), .ref (md 7), .ref (md 8), .ref (md 9), .ref (md 10), .ref (md 11), .ref (md 12), .ref (md 13), .ref (md 14), .ref (md 15), .ref (md 16), .int (nI w), .ref (md 17)])), (md 1, .inl (cI, 81, .inl (nF s1))), (md 2, .inl (cI, 81, .inl (nF p1))), (md 3, .inl (cI, 91, .inl (nF (upN x1 n1 (k / (q * q)))))), (md 4, .inl (cI, 91, .inl (nF (upN y1 n1 ((k / q) % q))))), (md 5, .inl (cI, 91, .inl (nF z1))), (md 6, .inl (cZ, 91, .inl (bF S))), (md 7, .inl (cI, 9, .inl (nF mp)))] H := hP
                have hD : va_D A [(md 0, .inr (7, [.int (nI q), .int (nI n1), .ref (md 1), .ref (md 2), .ref (md 3), .ref (md 4), .ref (md 5), .ref (md 6), .ref (md 7), .ref (md 8), .ref (md 9), .ref (md 10), .ref (md 11), .ref (md 12), .ref (md 13), .ref (md 14), .ref (md 15), .ref (md 16), .int (nI w), .ref (md 17)])), (md 1, .inl (cI, 81, .inl (nF s1))), (md 2, .inl (cI, 81, .inl (nF p1))), (md 3, .inl (cI, 91, .inl (nF (upN x1 n1 (k / (q * q)))))), (md 4, .inl (cI, 91, .inl (nF (upN y1 n1 ((k / q) % q))))), (md 5, .inl (cI, 91, .inl (nF z1))), (md 6, .inl (cZ, 91, .inl (bF S))), (md 7, .inl (cI, 9, .inl (nF mp)))] := hD
                refine lv_aload_n hx hb dX7_make_186 rfl (lv_at hl 3 rfl) ?_
                refine va_get (D := D) (ci := 7) (v := .ref (md 5)) (C := RX7) (T := TX7) (N := 20) hx hb hts hiX7 hown hK hP 0 rfl rfl 6 (by decide) hf22 (fun _ h9 => h9) rfl dX7_make_187 ?_
                refine lv_aload_n hx hb dX7_make_190 rfl (lv_at hl 3 rfl) ?_
                refine va_get (D := D) (ci := 7) (v := .int (nI n1)) (C := RX7) (T := TX7) (N := 20) hx hb hts hiX7 hown hK hP 0 rfl rfl 1 (by decide) hf83 (fun _ h9 => h9) rfl dX7_make_191 ?_
                refine lv_iload hx hb dX7_make_194 (lv_at hl 0 rfl) ?_
                refine nv_iast hx hb hK hP hD hS 5 0 rfl rfl (by omega) (by decide) dX7_make_196 (fun H locs hP hD hS => ?_)
                have hP : va_P D vwCl [(md 0, .inr (7, [.int (nI q), .int (nI n1), .ref (md 1), .ref (md 2), .ref (md 3), .ref (md 4), .ref (md 5), .ref (md 6), .ref (md 7), .ref (md 8), .ref (md 9), .ref (md 10), .ref (md 11), .ref (md 12), .ref (md 13), .ref (md 14), .ref (md 15), .ref (md 16), .int (nI w), .ref (md 17)])), (md 1, .inl (cI, 81, .inl (nF s1))), (md 2, .inl (cI, 81, .inl (nF p1))), (md 3, .inl (cI, 91, .inl (nF (upN x1 n1 (k / (q * q)))))), (md 4, .inl (cI, 91, .inl (nF (upN y1 n1 ((k / q) % q))))), (md 5, .inl (cI, 91, .inl (nF (upN z1 n1 (k % q))))), (md 6, .inl (cZ, 91, .inl (bF S))), (md 7, .inl (cI, 9, .inl (nF mp)))] H := hP
                have hD : va_D A [(md 0, .inr (7, [.int (nI q), .int (nI n1), .ref (md 1), .ref (md 2), .ref (md 3), .ref (md 4), .ref (md 5), .ref (md 6), .ref (md 7), .ref (md 8), .ref (md 9), .ref (md 10), .ref (md 11), .ref (md 12), .ref (md 13), .ref (md 14), .ref (md 15), .ref (md 16), .int (nI w), .ref (md 17)])), (md 1, .inl (cI, 81, .inl (nF s1))), (md 2, .inl (cI, 81, .inl (nF p1))), (md 3, .inl (cI, 91, .inl (nF (upN x1 n1 (k / (q * q)))))), (md 4, .inl (cI, 91, .inl (nF (upN y1 n1 ((k / q) % q))))), (md 5, .inl (cI, 91, .inl (nF (upN z1 n1 (k % q))))), (md 6, .inl (cZ, 91, .inl (bF S))), (md 7, .inl (cI, 9, .inl (nF mp)))] := hD
                refine lv_aload_n hx hb dX7_make_197 rfl (lv_at hl 3 rfl) ?_
                refine lv_dup hx hb dX7_make_198 rfl ?_
                refine va_get (D := D) (ci := 7) (v := .int (nI n1)) (C := RX7) (T := TX7) (N := 20) hx hb hts hiX7 hown hK hP 0 rfl rfl 1 (by decide) hf83 (fun _ h9 => h9) rfl dX7_make_199 ?_
                refine lv_iconst (v := nI 1) hx hb dX7_make_202 (by decide) ?_
                refine nv_addE (r := n1 + 1) hx hb rfl dX7_make_203 ?_
                refine va_put (D := D) (ci := 7) (v := .int (nI (n1 + 1))) (ty := .int) (C := RX7) (T := TX7) (N := 20) hx hb hts hiX7 tyX7 tyX7_ok nmX7 hown hK hP hD hS 0 rfl rfl 1 (by decide) hf83 (fun _ h9 => h9) rfl (by decide +kernel) rfl rfl (Nat.le_of_ble_eq_true rfl) dX7_make_204 (fun H locs hP hD hS => ?_)
                have hP : va_P D vwCl [(md 0, .inr (7, [.int (nI q), .int (nI (n1 + 1)), .ref (md 1), .ref (md 2), .ref (md 3), .ref (md 4), .ref (md 5), .ref (md 6), .ref (md 7), .ref (md 8), .ref (md 9), .ref (md 10), .ref (md 11), .ref (md 12), .ref (md 13), .ref (md 14), .ref (md 15), .ref (md 16), .int (nI w), .ref (md 17)])), (md 1, .inl (cI, 81, .inl (nF s1))), (md 2, .inl (cI, 81, .inl (nF p1))), (md 3, .inl (cI, 91, .inl (nF (upN x1 n1 (k / (q * q)))))), (md 4, .inl (cI, 91, .inl (nF (upN y1 n1 ((k / q) % q))))), (md 5, .inl (cI, 91, .inl (nF (upN z1 n1 (k % q))))), (md 6, .inl (cZ, 91, .inl (bF S))), (md 7, .inl (cI, 9, .inl (nF mp)))] H := hP
                have hD : va_D A [(md 0, .inr (7, [.int (nI q), .int (nI (n1 + 1)), .ref (md 1), .ref (md 2), .ref (md 3), .ref (md 4), .ref (md 5), .ref (md 6), .ref (md 7), .ref (md 8), .ref (md 9), .ref (md 10), .ref (md 11), .ref (md 12), .ref (md 13), .ref (md 14), .ref (md 15), .ref (md 16), .int (nI w), .ref (md 17)])), (md 1, .inl (cI, 81, .inl (nF s1))), (md 2, .inl (cI, 81, .inl (nF p1))), (md 3, .inl (cI, 91, .inl (nF (upN x1 n1 (k / (q * q)))))), (md 4, .inl (cI, 91, .inl (nF (upN y1 n1 ((k / q) % q))))), (md 5, .inl (cI, 91, .inl (nF (upN z1 n1 (k % q))))), (md 6, .inl (cZ, 91, .inl (bF S))), (md 7, .inl (cI, 9, .inl (nF mp)))] := hD
                refine lv_iinc (v := nI (k + 1)) (lv' := [(2, .int (nI (k + 1))), (5, .int (nI (k % q))), (4, .int (nI ((k / q) % q))), (3, .int (nI (k / (q * q)))), (0, .ref (md 0)), (1, .int (nI q))]) hx hb dX7_make_207 hl (k := 5) rfl (nI_inc k) (by decide) rfl (fun ls hl => ?_)
                refine lv_goto (tgt := 84) hx hb dX7_make_210 (by decide) ?_
                exact ih84 (k + 1) (n1 + 1) (upN x1 n1 (k / (q * q))) (upN y1 n1 ((k / q) % q)) (upN z1 n1 (k % q)) ls _ _ (by omega) (by omega) (by omega) (by rw [cnt_st hv, ← k_n]) (XK_s k_x (by rw [k_n]; exact hvt.1) (by rw [k_n]; exact hvt.2.1) (by rw [k_n]; exact hvt.2.2.1)) (lv_sub hl [4, 5, 0] rfl) hP hD hS
              · refine lv_iload_n hx hb dX7_make_140 rfl (lv_at hl 2 rfl) ?_
                refine nv_if_ne (tgt := 150) hx hb (by omega) dX7_make_141 (by decide) (fun c141 => ?_) (fun c141 => ?_)
                · refine lv_iload_n hx hb dX7_make_150 rfl (lv_at hl 2 rfl) ?_
                  refine nv_if_ne (tgt := 207) hx hb (by omega) dX7_make_151 (by decide) (fun c151 => ?_) (fun c151 => ?_)
                  · have hv : vld q k = false := by first | exact vld_f c137 (Or.inl c141) | exact absurd c141 c151
                    refine lv_iinc (v := nI (k + 1)) (lv' := [(2, .int (nI (k + 1))), (5, .int (nI (k % q))), (4, .int (nI ((k / q) % q))), (3, .int (nI (k / (q * q)))), (0, .ref (md 0)), (1, .int (nI q))]) hx hb dX7_make_207 hl (k := 5) rfl (nI_inc k) (by decide) rfl (fun ls hl => ?_)
                    refine lv_goto (tgt := 84) hx hb dX7_make_210 (by decide) ?_
                    exact ih84 (k + 1) n1 x1 y1 z1 ls _ _ (by omega) (by omega) (by omega) (by rw [cnt_sf hv]; exact k_n) k_x (lv_sub hl [4, 5, 0] rfl) hP hD hS
                  · refine lv_iload hx hb dX7_make_154 (lv_at hl 1 rfl) ?_
                    refine nv_if_ne (tgt := 207) hx hb (by omega) dX7_make_156 (by decide) (fun c156 => ?_) (fun c156 => ?_)
                    · have hv : vld q k = false := by first | exact vld_f c137 (Or.inr ⟨c147, Or.inl c156⟩) | exact absurd c151 c141
                      refine lv_iinc (v := nI (k + 1)) (lv' := [(2, .int (nI (k + 1))), (5, .int (nI (k % q))), (4, .int (nI ((k / q) % q))), (3, .int (nI (k / (q * q)))), (0, .ref (md 0)), (1, .int (nI q))]) hx hb dX7_make_207 hl (k := 5) rfl (nI_inc k) (by decide) rfl (fun ls hl => ?_)
                      refine lv_goto (tgt := 84) hx hb dX7_make_210 (by decide) ?_
                      exact ih84 (k + 1) n1 x1 y1 z1 ls _ _ (by omega) (by omega) (by omega) (by rw [cnt_sf hv]; exact k_n) k_x (lv_sub hl [4, 5, 0] rfl) hP hD hS
                    · refine lv_iload hx hb dX7_make_159 (lv_at hl 0 rfl) ?_
                      refine lv_iconst (v := nI 1) hx hb dX7_make_161 (by decide) ?_
                      refine nv_icmp_ne (tgt := 207) hx hb (by omega) (by decide) dX7_make_162 (by decide) (fun c162 => ?_) (fun c162 => ?_)
                      · have hv : vld q k = false := by first | exact vld_f c137 (Or.inr ⟨c147, Or.inr c162⟩) | exact absurd c151 c141
                        refine lv_iinc (v := nI (k + 1)) (lv' := [(2, .int (nI (k + 1))), (5, .int (nI (k % q))), (4, .int (nI ((k / q) % q))), (3, .int (nI (k / (q * q)))), (0, .ref (md 0)), (1, .int (nI q))]) hx hb dX7_make_207 hl (k := 5) rfl (nI_inc k) (by decide) rfl (fun ls hl => ?_)
                        refine lv_goto (tgt := 84) hx hb dX7_make_210 (by decide) ?_
                        exact ih84 (k + 1) n1 x1 y1 z1 ls _ _ (by omega) (by omega) (by omega) (by rw [cnt_sf hv]; exact k_n) k_x (lv_sub hl [4, 5, 0] rfl) hP hD hS
                      · have hv : vld q k = true := by first | exact vld_1 c137 | exact vld_2 c141 c147 | exact vld_3 c151 c156 c162
                        have hvt := vld_t hq c99 hv
                        have hn9 : n1 < 91 := by rw [k_n]; omega
                        refine lv_aload_n hx hb dX7_make_165 rfl (lv_at hl 3 rfl) ?_
                        refine va_get (D := D) (ci := 7) (v := .ref (md 3)) (C := RX7) (T := TX7) (N := 20) hx hb hts hiX7 hown hK hP 0 rfl rfl 4 (by decide) hf16 (fun _ h9 => h9) rfl dX7_make_166 ?_
                        refine lv_aload_n hx hb dX7_make_169 rfl (lv_at hl 3 rfl) ?_
                        refine va_get (D := D) (ci := 7) (v := .int (nI n1)) (C := RX7) (T := TX7) (N := 20) hx hb hts hiX7 hown hK hP 0 rfl rfl 1 (by decide) hf83 (fun _ h9 => h9) rfl dX7_make_170 ?_
                        refine lv_iload_n hx hb dX7_make_173 rfl (lv_at hl 2 rfl) ?_
                        refine nv_iast hx hb hK hP hD hS 3 0 rfl rfl (by omega) (by decide) dX7_make_174 (fun H locs hP hD hS => ?_)
                        have hP : va_P D vwCl [(md 0, .inr (7, [.int (nI q), .int (nI n1), .ref (md 1), .ref (md 2), .ref (md 3), .ref (md 4), .ref (md 5), .ref (md 6), .ref (md 7), .ref (md 8), .ref (md 9), .ref (md 10), .ref (md 11), .ref (md 12), .ref (md 13), .ref (md 14), .ref (md 15), .ref (md 16), .int (nI w), .ref (md 17)])), (md 1, .inl (cI, 81, .inl (nF s1))), (md 2, .inl (cI, 81, .inl (nF p1))), (md 3, .inl (cI, 91, .inl (nF (upN x1 n1 (k / (q * q)))))), (md 4, .inl (cI, 91, .inl (nF y1))), (md 5, .inl (cI, 91, .inl (nF z1))), (md 6, .inl (cZ, 91, .inl (bF S))), (md 7, .inl (cI, 9, .inl (nF mp)))] H := hP
                        have hD : va_D A [(md 0, .inr (7, [.int (nI q), .int (nI n1), .ref (md 1), .ref (md 2), .ref (md 3), .ref (md 4), .ref (md 5), .ref (md 6), .ref (md 7), .ref (md 8), .ref (md 9), .ref (md 10), .ref (md 11), .ref (md 12), .ref (md 13), .ref (md 14), .ref (md 15), .ref (md 16), .int (nI w), .ref (md 17)])), (md 1, .inl (cI, 81, .inl (nF s1))), (md 2, .inl (cI, 81, .inl (nF p1))), (md 3, .inl (cI, 91, .inl (nF (upN x1 n1 (k / (q * q)))))), (md 4, .inl (cI, 91, .inl (nF y1))), (md 5, .inl (cI, 91, .inl (nF z1))), (md 6, .inl (cZ, 91, .inl (bF S))), (md 7, .inl (cI, 9, .inl (nF mp)))] := hD
                        refine lv_aload_n hx hb dX7_make_175 rfl (lv_at hl 3 rfl) ?_
                        refine va_get (D := D) (ci := 7) (v := .ref (md 4)) (C := RX7) (T := TX7) (N := 20) hx hb hts hiX7 hown hK hP 0 rfl rfl 5 (by decide) hf19 (fun _ h9 => h9) rfl dX7_make_176 ?_
                        refine lv_aload_n hx hb dX7_make_179 rfl (lv_at hl 3 rfl) ?_
                        refine va_get (D := D) (ci := 7) (v := .int (nI n1)) (C := RX7) (T := TX7) (N := 20) hx hb hts hiX7 hown hK hP 0 rfl rfl 1 (by decide) hf83 (fun _ h9 => h9) rfl dX7_make_180 ?_
                        refine lv_iload hx hb dX7_make_183 (lv_at hl 1 rfl) ?_
                        refine nv_iast hx hb hK hP hD hS 4 0 rfl rfl (by omega) (by decide) dX7_make_185 (fun H locs hP hD hS => ?_)
                        have hP : va_P D vwCl [(md 0, .inr (7, [.int (nI q), .int (nI n1), .ref (md 1), .ref (md 2), .ref (md 3), .ref (md 4), .ref (md 5), .ref (md 6), .ref (md 7), .ref (md 8), .ref (md 9), .ref (md 10), .ref (md 11), .ref (md 12), .ref (md 13), .ref (md 14), .ref (md 15), .ref (md 16), .int (nI w), .ref (md 17)])), (md 1, .inl (cI, 81, .inl (nF s1))), (md 2, .inl (cI, 81, .inl (nF p1))), (md 3, .inl (cI, 91, .inl (nF (upN x1 n1 (k / (q * q)))))), (md 4, .inl (cI, 91, .inl (nF (upN y1 n1 ((k / q) % q))))), (md 5, .inl (cI, 91, .inl (nF z1))), (md 6, .inl (cZ, 91, .inl (bF S))), (md 7, .inl (cI, 9, .inl (nF mp)))] H := hP
                        have hD : va_D A [(md 0, .inr (7, [.int (nI q), .int (nI n1), .ref (md 1), .ref (md 2), .ref (md 3), .ref (md 4), .ref (md 5), .ref (md 6), .ref (md 7), .ref (md 8), .ref (md 9), .ref (md 10), .ref (md 11), .ref (md 12), .ref (md 13), .ref (md 14), .ref (md 15), .ref (md 16), .int (nI w), .ref (md 17)])), (md 1, .inl (cI, 81, .inl (nF s1))), (md 2, .inl (cI, 81, .inl (nF p1))), (md 3, .inl (cI, 91, .inl (nF (upN x1 n1 (k / (q * q)))))), (md 4, .inl (cI, 91, .inl (nF (upN y1 n1 ((k / q) % q))))), (md 5, .inl (cI, 91, .inl (nF z1))), (md 6, .inl (cZ, 91, .inl (bF S))), (md 7, .inl (cI, 9, .inl (nF mp)))] := hD
                        refine lv_aload_n hx hb dX7_make_186 rfl (lv_at hl 3 rfl) ?_
                        refine va_get (D := D) (ci := 7) (v := .ref (md 5)) (C := RX7) (T := TX7) (N := 20) hx hb hts hiX7 hown hK hP 0 rfl rfl 6 (by decide) hf22 (fun _ h9 => h9) rfl dX7_make_187 ?_
                        refine lv_aload_n hx hb dX7_make_190 rfl (lv_at hl 3 rfl) ?_
                        refine va_get (D := D) (ci := 7) (v := .int (nI n1)) (C := RX7) (T := TX7) (N := 20) hx hb hts hiX7 hown hK hP 0 rfl rfl 1 (by decide) hf83 (fun _ h9 => h9) rfl dX7_make_191 ?_
                        refine lv_iload hx hb dX7_make_194 (lv_at hl 0 rfl) ?_
                        refine nv_iast hx hb hK hP hD hS 5 0 rfl rfl (by omega) (by decide) dX7_make_196 (fun H locs hP hD hS => ?_)
                        have hP : va_P D vwCl [(md 0, .inr (7, [.int (nI q), .int (nI n1), .ref (md 1), .ref (md 2), .ref (md 3), .ref (md 4), .ref (md 5), .ref (md 6), .ref (md 7), .ref (md 8), .ref (md 9), .ref (md 10), .ref (md 11), .ref (md 12), .ref (md 13), .ref (md 14), .ref (md 15), .ref (md 16), .int (nI w), .ref (md 17)])), (md 1, .inl (cI, 81, .inl (nF s1))), (md 2, .inl (cI, 81, .inl (nF p1))), (md 3, .inl (cI, 91, .inl (nF (upN x1 n1 (k / (q * q)))))), (md 4, .inl (cI, 91, .inl (nF (upN y1 n1 ((k / q) % q))))), (md 5, .inl (cI, 91, .inl (nF (upN z1 n1 (k % q))))), (md 6, .inl (cZ, 91, .inl (bF S))), (md 7, .inl (cI, 9, .inl (nF mp)))] H := hP
                        have hD : va_D A [(md 0, .inr (7, [.int (nI q), .int (nI n1), .ref (md 1), .ref (md 2), .ref (md 3), .ref (md 4), .ref (md 5), .ref (md 6), .ref (md 7), .ref (md 8), .ref (md 9), .ref (md 10), .ref (md 11), .ref (md 12), .ref (md 13), .ref (md 14), .ref (md 15), .ref (md 16), .int (nI w), .ref (md 17)])), (md 1, .inl (cI, 81, .inl (nF s1))), (md 2, .inl (cI, 81, .inl (nF p1))), (md 3, .inl (cI, 91, .inl (nF (upN x1 n1 (k / (q * q)))))), (md 4, .inl (cI, 91, .inl (nF (upN y1 n1 ((k / q) % q))))), (md 5, .inl (cI, 91, .inl (nF (upN z1 n1 (k % q))))), (md 6, .inl (cZ, 91, .inl (bF S))), (md 7, .inl (cI, 9, .inl (nF mp)))] := hD
                        refine lv_aload_n hx hb dX7_make_197 rfl (lv_at hl 3 rfl) ?_
                        refine lv_dup hx hb dX7_make_198 rfl ?_
                        refine va_get (D := D) (ci := 7) (v := .int (nI n1)) (C := RX7) (T := TX7) (N := 20) hx hb hts hiX7 hown hK hP 0 rfl rfl 1 (by decide) hf83 (fun _ h9 => h9) rfl dX7_make_199 ?_
                        refine lv_iconst (v := nI 1) hx hb dX7_make_202 (by decide) ?_
                        refine nv_addE (r := n1 + 1) hx hb rfl dX7_make_203 ?_
                        refine va_put (D := D) (ci := 7) (v := .int (nI (n1 + 1))) (ty := .int) (C := RX7) (T := TX7) (N := 20) hx hb hts hiX7 tyX7 tyX7_ok nmX7 hown hK hP hD hS 0 rfl rfl 1 (by decide) hf83 (fun _ h9 => h9) rfl (by decide +kernel) rfl rfl (Nat.le_of_ble_eq_true rfl) dX7_make_204 (fun H locs hP hD hS => ?_)
                        have hP : va_P D vwCl [(md 0, .inr (7, [.int (nI q), .int (nI (n1 + 1)), .ref (md 1), .ref (md 2), .ref (md 3), .ref (md 4), .ref (md 5), .ref (md 6), .ref (md 7), .ref (md 8), .ref (md 9), .ref (md 10), .ref (md 11), .ref (md 12), .ref (md 13), .ref (md 14), .ref (md 15), .ref (md 16), .int (nI w), .ref (md 17)])), (md 1, .inl (cI, 81, .inl (nF s1))), (md 2, .inl (cI, 81, .inl (nF p1))), (md 3, .inl (cI, 91, .inl (nF (upN x1 n1 (k / (q * q)))))), (md 4, .inl (cI, 91, .inl (nF (upN y1 n1 ((k / q) % q))))), (md 5, .inl (cI, 91, .inl (nF (upN z1 n1 (k % q))))), (md 6, .inl (cZ, 91, .inl (bF S))), (md 7, .inl (cI, 9, .inl (nF mp)))] H := hP
                        have hD : va_D A [(md 0, .inr (7, [.int (nI q), .int (nI (n1 + 1)), .ref (md 1), .ref (md 2), .ref (md 3), .ref (md 4), .ref (md 5), .ref (md 6), .ref (md 7), .ref (md 8), .ref (md 9), .ref (md 10), .ref (md 11), .ref (md 12), .ref (md 13), .ref (md 14), .ref (md 15), .ref (md 16), .int (nI w), .ref (md 17)])), (md 1, .inl (cI, 81, .inl (nF s1))), (md 2, .inl (cI, 81, .inl (nF p1))), (md 3, .inl (cI, 91, .inl (nF (upN x1 n1 (k / (q * q)))))), (md 4, .inl (cI, 91, .inl (nF (upN y1 n1 ((k / q) % q))))), (md 5, .inl (cI, 91, .inl (nF (upN z1 n1 (k % q))))), (md 6, .inl (cZ, 91, .inl (bF S))), (md 7, .inl (cI, 9, .inl (nF mp)))] := hD
                        refine lv_iinc (v := nI (k + 1)) (lv' := [(2, .int (nI (k + 1))), (5, .int (nI (k % q))), (4, .int (nI ((k / q) % q))), (3, .int (nI (k / (q * q)))), (0, .ref (md 0)), (1, .int (nI q))]) hx hb dX7_make_207 hl (k := 5) rfl (nI_inc k) (by decide) rfl (fun ls hl => ?_)
                        refine lv_goto (tgt := 84) hx hb dX7_make_210 (by decide) ?_
                        exact ih84 (k + 1) (n1 + 1) (upN x1 n1 (k / (q * q))) (upN y1 n1 ((k / q) % q)) (upN z1 n1 (k % q)) ls _ _ (by omega) (by omega) (by omega) (by rw [cnt_st hv, ← k_n]) (XK_s k_x (by rw [k_n]; exact hvt.1) (by rw [k_n]; exact hvt.2.1) (by rw [k_n]; exact hvt.2.2.1)) (lv_sub hl [4, 5, 0] rfl) hP hD hS
                · refine lv_iload hx hb dX7_make_144 (lv_at hl 1 rfl) ?_
                  refine lv_iconst (v := nI 1) hx hb dX7_make_146 (by decide) ?_
                  refine nv_icmp_eq (tgt := 165) hx hb (by omega) (by decide) dX7_make_147 (by decide) (fun c147 => ?_) (fun c147 => ?_)
                  · have hv : vld q k = true := by first | exact vld_1 c137 | exact vld_2 c141 c147 | exact vld_3 c151 c156 c162
                    have hvt := vld_t hq c99 hv
                    have hn9 : n1 < 91 := by rw [k_n]; omega
                    refine lv_aload_n hx hb dX7_make_165 rfl (lv_at hl 3 rfl) ?_
                    refine va_get (D := D) (ci := 7) (v := .ref (md 3)) (C := RX7) (T := TX7) (N := 20) hx hb hts hiX7 hown hK hP 0 rfl rfl 4 (by decide) hf16 (fun _ h9 => h9) rfl dX7_make_166 ?_
                    refine lv_aload_n hx hb dX7_make_169 rfl (lv_at hl 3 rfl) ?_
                    refine va_get (D := D) (ci := 7) (v := .int (nI n1)) (C := RX7) (T := TX7) (N := 20) hx hb hts hiX7 hown hK hP 0 rfl rfl 1 (by decide) hf83 (fun _ h9 => h9) rfl dX7_make_170 ?_
                    refine lv_iload_n hx hb dX7_make_173 rfl (lv_at hl 2 rfl) ?_
                    refine nv_iast hx hb hK hP hD hS 3 0 rfl rfl (by omega) (by decide) dX7_make_174 (fun H locs hP hD hS => ?_)
                    have hP : va_P D vwCl [(md 0, .inr (7, [.int (nI q), .int (nI n1), .ref (md 1), .ref (md 2), .ref (md 3), .ref (md 4), .ref (md 5), .ref (md 6), .ref (md 7), .ref (md 8), .ref (md 9), .ref (md 10), .ref (md 11), .ref (md 12), .ref (md 13), .ref (md 14), .ref (md 15), .ref (md 16), .int (nI w), .ref (md 17)])), (md 1, .inl (cI, 81, .inl (nF s1))), (md 2, .inl (cI, 81, .inl (nF p1))), (md 3, .inl (cI, 91, .inl (nF (upN x1 n1 (k / (q * q)))))), (md 4, .inl (cI, 91, .inl (nF y1))), (md 5, .inl (cI, 91, .inl (nF z1))), (md 6, .inl (cZ, 91, .inl (bF S))), (md 7, .inl (cI, 9, .inl (nF mp)))] H := hP
                    have hD : va_D A [(md 0, .inr (7, [.int (nI q), .int (nI n1), .ref (md 1), .ref (md 2), .ref (md 3), .ref (md 4), .ref (md 5), .ref (md 6), .ref (md 7), .ref (md 8), .ref (md 9), .ref (md 10), .ref (md 11), .ref (md 12), .ref (md 13), .ref (md 14), .ref (md 15), .ref (md 16), .int (nI w), .ref (md 17)])), (md 1, .inl (cI, 81, .inl (nF s1))), (md 2, .inl (cI, 81, .inl (nF p1))), (md 3, .inl (cI, 91, .inl (nF (upN x1 n1 (k / (q * q)))))), (md 4, .inl (cI, 91, .inl (nF y1))), (md 5, .inl (cI, 91, .inl (nF z1))), (md 6, .inl (cZ, 91, .inl (bF S))), (md 7, .inl (cI, 9, .inl (nF mp)))] := hD
                    refine lv_aload_n hx hb dX7_make_175 rfl (lv_at hl 3 rfl) ?_
                    refine va_get (D := D) (ci := 7) (v := .ref (md 4)) (C := RX7) (T := TX7) (N := 20) hx hb hts hiX7 hown hK hP 0 rfl rfl 5 (by decide) hf19 (fun _ h9 => h9) rfl dX7_make_176 ?_
                    refine lv_aload_n hx hb dX7_make_179 rfl (lv_at hl 3 rfl) ?_
                    refine va_get (D := D) (ci := 7) (v := .int (nI n1)) (C := RX7) (T := TX7) (N := 20) hx hb hts hiX7 hown hK hP 0 rfl rfl 1 (by decide) hf83 (fun _ h9 => h9) rfl dX7_make_180 ?_
                    refine lv_iload hx hb dX7_make_183 (lv_at hl 1 rfl) ?_
                    refine nv_iast hx hb hK hP hD hS 4 0 rfl rfl (by omega) (by decide) dX7_make_185 (fun H locs hP hD hS => ?_)
                    have hP : va_P D vwCl [(md 0, .inr (7, [.int (nI q), .int (nI n1), .ref (md 1), .ref (md 2), .ref (md 3), .ref (md 4), .ref (md 5), .ref (md 6), .ref (md 7), .ref (md 8), .ref (md 9), .ref (md 10), .ref (md 11), .ref (md 12), .ref (md 13), .ref (md 14), .ref (md 15), .ref (md 16), .int (nI w), .ref (md 17)])), (md 1, .inl (cI, 81, .inl (nF s1))), (md 2, .inl (cI, 81, .inl (nF p1))), (md 3, .inl (cI, 91, .inl (nF (upN x1 n1 (k / (q * q)))))), (md 4, .inl (cI, 91, .inl (nF (upN y1 n1 ((k / q) % q))))), (md 5, .inl (cI, 91, .inl (nF z1))), (md 6, .inl (cZ, 91, .inl (bF S))), (md 7, .inl (cI, 9, .inl (nF mp)))] H := hP
                    have hD : va_D A [(md 0, .inr (7, [.int (nI q), .int (nI n1), .ref (md 1), .ref (md 2), .ref (md 3), .ref (md 4), .ref (md 5), .ref (md 6), .ref (md 7), .ref (md 8), .ref (md 9), .ref (md 10), .ref (md 11), .ref (md 12), .ref (md 13), .ref (md 14), .ref (md 15), .ref (md 16), .int (nI w), .ref (md 17)])), (md 1, .inl (cI, 81, .inl (nF s1))), (md 2, .inl (cI, 81, .inl (nF p1))), (md 3, .inl (cI, 91, .inl (nF (upN x1 n1 (k / (q * q)))))), (md 4, .inl (cI, 91, .inl (nF (upN y1 n1 ((k / q) % q))))), (md 5, .inl (cI, 91, .inl (nF z1))), (md 6, .inl (cZ, 91, .inl (bF S))), (md 7, .inl (cI, 9, .inl (nF mp)))] := hD
                    refine lv_aload_n hx hb dX7_make_186 rfl (lv_at hl 3 rfl) ?_
                    refine va_get (D := D) (ci := 7) (v := .ref (md 5)) (C := RX7) (T := TX7) (N := 20) hx hb hts hiX7 hown hK hP 0 rfl rfl 6 (by decide) hf22 (fun _ h9 => h9) rfl dX7_make_187 ?_
                    refine lv_aload_n hx hb dX7_make_190 rfl (lv_at hl 3 rfl) ?_
                    refine va_get (D := D) (ci := 7) (v := .int (nI n1)) (C := RX7) (T := TX7) (N := 20) hx hb hts hiX7 hown hK hP 0 rfl rfl 1 (by decide) hf83 (fun _ h9 => h9) rfl dX7_make_191 ?_
                    refine lv_iload hx hb dX7_make_194 (lv_at hl 0 rfl) ?_
                    refine nv_iast hx hb hK hP hD hS 5 0 rfl rfl (by omega) (by decide) dX7_make_196 (fun H locs hP hD hS => ?_)
                    have hP : va_P D vwCl [(md 0, .inr (7, [.int (nI q), .int (nI n1), .ref (md 1), .ref (md 2), .ref (md 3), .ref (md 4), .ref (md 5), .ref (md 6), .ref (md 7), .ref (md 8), .ref (md 9), .ref (md 10), .ref (md 11), .ref (md 12), .ref (md 13), .ref (md 14), .ref (md 15), .ref (md 16), .int (nI w), .ref (md 17)])), (md 1, .inl (cI, 81, .inl (nF s1))), (md 2, .inl (cI, 81, .inl (nF p1))), (md 3, .inl (cI, 91, .inl (nF (upN x1 n1 (k / (q * q)))))), (md 4, .inl (cI, 91, .inl (nF (upN y1 n1 ((k / q) % q))))), (md 5, .inl (cI, 91, .inl (nF (upN z1 n1 (k % q))))), (md 6, .inl (cZ, 91, .inl (bF S))), (md 7, .inl (cI, 9, .inl (nF mp)))] H := hP
                    have hD : va_D A [(md 0, .inr (7, [.int (nI q), .int (nI n1), .ref (md 1), .ref (md 2), .ref (md 3), .ref (md 4), .ref (md 5), .ref (md 6), .ref (md 7), .ref (md 8), .ref (md 9), .ref (md 10), .ref (md 11), .ref (md 12), .ref (md 13), .ref (md 14), .ref (md 15), .ref (md 16), .int (nI w), .ref (md 17)])), (md 1, .inl (cI, 81, .inl (nF s1))), (md 2, .inl (cI, 81, .inl (nF p1))), (md 3, .inl (cI, 91, .inl (nF (upN x1 n1 (k / (q * q)))))), (md 4, .inl (cI, 91, .inl (nF (upN y1 n1 ((k / q) % q))))), (md 5, .inl (cI, 91, .inl (nF (upN z1 n1 (k % q))))), (md 6, .inl (cZ, 91, .inl (bF S))), (md 7, .inl (cI, 9, .inl (nF mp)))] := hD
                    refine lv_aload_n hx hb dX7_make_197 rfl (lv_at hl 3 rfl) ?_
                    refine lv_dup hx hb dX7_make_198 rfl ?_
                    refine va_get (D := D) (ci := 7) (v := .int (nI n1)) (C := RX7) (T := TX7) (N := 20) hx hb hts hiX7 hown hK hP 0 rfl rfl 1 (by decide) hf83 (fun _ h9 => h9) rfl dX7_make_199 ?_
                    refine lv_iconst (v := nI 1) hx hb dX7_make_202 (by decide) ?_
                    refine nv_addE (r := n1 + 1) hx hb rfl dX7_make_203 ?_
                    refine va_put (D := D) (ci := 7) (v := .int (nI (n1 + 1))) (ty := .int) (C := RX7) (T := TX7) (N := 20) hx hb hts hiX7 tyX7 tyX7_ok nmX7 hown hK hP hD hS 0 rfl rfl 1 (by decide) hf83 (fun _ h9 => h9) rfl (by decide +kernel) rfl rfl (Nat.le_of_ble_eq_true rfl) dX7_make_204 (fun H locs hP hD hS => ?_)
                    have hP : va_P D vwCl [(md 0, .inr (7, [.int (nI q), .int (nI (n1 + 1)), .ref (md 1), .ref (md 2), .ref (md 3), .ref (md 4), .ref (md 5), .ref (md 6), .ref (md 7), .ref (md 8), .ref (md 9), .ref (md 10), .ref (md 11), .ref (md 12), .ref (md 13), .ref (md 14), .ref (md 15), .ref (md 16), .int (nI w), .ref (md 17)])), (md 1, .inl (cI, 81, .inl (nF s1))), (md 2, .inl (cI, 81, .inl (nF p1))), (md 3, .inl (cI, 91, .inl (nF (upN x1 n1 (k / (q * q)))))), (md 4, .inl (cI, 91, .inl (nF (upN y1 n1 ((k / q) % q))))), (md 5, .inl (cI, 91, .inl (nF (upN z1 n1 (k % q))))), (md 6, .inl (cZ, 91, .inl (bF S))), (md 7, .inl (cI, 9, .inl (nF mp)))] H := hP
                    have hD : va_D A [(md 0, .inr (7, [.int (nI q), .int (nI (n1 + 1)), .ref (md 1), .ref (md 2), .ref (md 3), .ref (md 4), .ref (md 5), .ref (md 6), .ref (md 7), .ref (md 8), .ref (md 9), .ref (md 10), .ref (md 11), .ref (md 12), .ref (md 13), .ref (md 14), .ref (md 15), .ref (md 16), .int (nI w), .ref (md 17)])), (md 1, .inl (cI, 81, .inl (nF s1))), (md 2, .inl (cI, 81, .inl (nF p1))), (md 3, .inl (cI, 91, .inl (nF (upN x1 n1 (k / (q * q)))))), (md 4, .inl (cI, 91, .inl (nF (upN y1 n1 ((k / q) % q))))), (md 5, .inl (cI, 91, .inl (nF (upN z1 n1 (k % q))))), (md 6, .inl (cZ, 91, .inl (bF S))), (md 7, .inl (cI, 9, .inl (nF mp)))] := hD
                    refine lv_iinc (v := nI (k + 1)) (lv' := [(2, .int (nI (k + 1))), (5, .int (nI (k % q))), (4, .int (nI ((k / q) % q))), (3, .int (nI (k / (q * q)))), (0, .ref (md 0)), (1, .int (nI q))]) hx hb dX7_make_207 hl (k := 5) rfl (nI_inc k) (by decide) rfl (fun ls hl => ?_)
                    refine lv_goto (tgt := 84) hx hb dX7_make_210 (by decide) ?_
                    exact ih84 (k + 1) (n1 + 1) (upN x1 n1 (k / (q * q))) (upN y1 n1 ((k / q) % q)) (upN z1 n1 (k % q)) ls _ _ (by omega) (by omega) (by omega) (by rw [cnt_st hv, ← k_n]) (XK_s k_x (by rw [k_n]; exact hvt.1) (by rw [k_n]; exact hvt.2.1) (by rw [k_n]; exact hvt.2.2.1)) (lv_sub hl [4, 5, 0] rfl) hP hD hS
                  · refine lv_iload_n hx hb dX7_make_150 rfl (lv_at hl 2 rfl) ?_
                    refine nv_if_ne (tgt := 207) hx hb (by omega) dX7_make_151 (by decide) (fun c151 => ?_) (fun c151 => ?_)
                    · have hv : vld q k = false := by first | exact vld_f c137 (Or.inl c141) | exact absurd c141 c151
                      refine lv_iinc (v := nI (k + 1)) (lv' := [(2, .int (nI (k + 1))), (5, .int (nI (k % q))), (4, .int (nI ((k / q) % q))), (3, .int (nI (k / (q * q)))), (0, .ref (md 0)), (1, .int (nI q))]) hx hb dX7_make_207 hl (k := 5) rfl (nI_inc k) (by decide) rfl (fun ls hl => ?_)
                      refine lv_goto (tgt := 84) hx hb dX7_make_210 (by decide) ?_
                      exact ih84 (k + 1) n1 x1 y1 z1 ls _ _ (by omega) (by omega) (by omega) (by rw [cnt_sf hv]; exact k_n) k_x (lv_sub hl [4, 5, 0] rfl) hP hD hS
                    · refine lv_iload hx hb dX7_make_154 (lv_at hl 1 rfl) ?_
                      refine nv_if_ne (tgt := 207) hx hb (by omega) dX7_make_156 (by decide) (fun c156 => ?_) (fun c156 => ?_)
                      · have hv : vld q k = false := by first | exact vld_f c137 (Or.inr ⟨c147, Or.inl c156⟩) | exact absurd c151 c141
                        refine lv_iinc (v := nI (k + 1)) (lv' := [(2, .int (nI (k + 1))), (5, .int (nI (k % q))), (4, .int (nI ((k / q) % q))), (3, .int (nI (k / (q * q)))), (0, .ref (md 0)), (1, .int (nI q))]) hx hb dX7_make_207 hl (k := 5) rfl (nI_inc k) (by decide) rfl (fun ls hl => ?_)
                        refine lv_goto (tgt := 84) hx hb dX7_make_210 (by decide) ?_
                        exact ih84 (k + 1) n1 x1 y1 z1 ls _ _ (by omega) (by omega) (by omega) (by rw [cnt_sf hv]; exact k_n) k_x (lv_sub hl [4, 5, 0] rfl) hP hD hS
                      · refine lv_iload hx hb dX7_make_159 (lv_at hl 0 rfl) ?_
                        refine lv_iconst (v := nI 1) hx hb dX7_make_161 (by decide) ?_
                        refine nv_icmp_ne (tgt := 207) hx hb (by omega) (by decide) dX7_make_162 (by decide) (fun c162 => ?_) (fun c162 => ?_)
                        · have hv : vld q k = false := by first | exact vld_f c137 (Or.inr ⟨c147, Or.inr c162⟩) | exact absurd c151 c141
                          refine lv_iinc (v := nI (k + 1)) (lv' := [(2, .int (nI (k + 1))), (5, .int (nI (k % q))), (4, .int (nI ((k / q) % q))), (3, .int (nI (k / (q * q)))), (0, .ref (md 0)), (1, .int (nI q))]) hx hb dX7_make_207 hl (k := 5) rfl (nI_inc k) (by decide) rfl (fun ls hl => ?_)
                          refine lv_goto (tgt := 84) hx hb dX7_make_210 (by decide) ?_
                          exact ih84 (k + 1) n1 x1 y1 z1 ls _ _ (by omega) (by omega) (by omega) (by rw [cnt_sf hv]; exact k_n) k_x (lv_sub hl [4, 5, 0] rfl) hP hD hS
                        · have hv : vld q k = true := by first | exact vld_1 c137 | exact vld_2 c141 c147 | exact vld_3 c151 c156 c162
                          have hvt := vld_t hq c99 hv
                          have hn9 : n1 < 91 := by rw [k_n]; omega
                          refine lv_aload_n hx hb dX7_make_165 rfl (lv_at hl 3 rfl) ?_
                          refine va_get (D := D) (ci := 7) (v := .ref (md 3)) (C := RX7) (T := TX7) (N := 20) hx hb hts hiX7 hown hK hP 0 rfl rfl 4 (by decide) hf16 (fun _ h9 => h9) rfl dX7_make_166 ?_
                          refine lv_aload_n hx hb dX7_make_169 rfl (lv_at hl 3 rfl) ?_
                          refine va_get (D := D) (ci := 7) (v := .int (nI n1)) (C := RX7) (T := TX7) (N := 20) hx hb hts hiX7 hown hK hP 0 rfl rfl 1 (by decide) hf83 (fun _ h9 => h9) rfl dX7_make_170 ?_
                          refine lv_iload_n hx hb dX7_make_173 rfl (lv_at hl 2 rfl) ?_
                          refine nv_iast hx hb hK hP hD hS 3 0 rfl rfl (by omega) (by decide) dX7_make_174 (fun H locs hP hD hS => ?_)
                          have hP : va_P D vwCl [(md 0, .inr (7, [.int (nI q), .int (nI n1), .ref (md 1), .ref (md 2), .ref (md 3), .ref (md 4), .ref (md 5), .ref (md 6), .ref (md 7), .ref (md 8), .ref (md 9), .ref (md 10), .ref (md 11), .ref (md 12), .ref (md 13), .ref (md 14), .ref (md 15), .ref (md 16), .int (nI w), .ref (md 17)])), (md 1, .inl (cI, 81, .inl (nF s1))), (md 2, .inl (cI, 81, .inl (nF p1))), (md 3, .inl (cI, 91, .inl (nF (upN x1 n1 (k / (q * q)))))), (md 4, .inl (cI, 91, .inl (nF y1))), (md 5, .inl (cI, 91, .inl (nF z1))), (md 6, .inl (cZ, 91, .inl (bF S))), (md 7, .inl (cI, 9, .inl (nF mp)))] H := hP
                          have hD : va_D A [(md 0, .inr (7, [.int (nI q), .int (nI n1), .ref (md 1), .ref (md 2), .ref (md 3), .ref (md 4), .ref (md 5), .ref (md 6), .ref (md 7), .ref (md 8), .ref (md 9), .ref (md 10), .ref (md 11), .ref (md 12), .ref (md 13), .ref (md 14), .ref (md 15), .ref (md 16), .int (nI w), .ref (md 17)])), (md 1, .inl (cI, 81, .inl (nF s1))), (md 2, .inl (cI, 81, .inl (nF p1))), (md 3, .inl (cI, 91, .inl (nF (upN x1 n1 (k / (q * q)))))), (md 4, .inl (cI, 91, .inl (nF y1))), (md 5, .inl (cI, 91, .inl (nF z1))), (md 6, .inl (cZ, 91, .inl (bF S))), (md 7, .inl (cI, 9, .inl (nF mp)))] := hD
                          refine lv_aload_n hx hb dX7_make_175 rfl (lv_at hl 3 rfl) ?_
                          refine va_get (D := D) (ci := 7) (v := .ref (md 4)) (C := RX7) (T := TX7) (N := 20) hx hb hts hiX7 hown hK hP 0 rfl rfl 5 (by decide) hf19 (fun _ h9 => h9) rfl dX7_make_176 ?_
                          refine lv_aload_n hx hb dX7_make_179 rfl (lv_at hl 3 rfl) ?_
                          refine va_get (D := D) (ci := 7) (v := .int (nI n1)) (C := RX7) (T := TX7) (N := 20) hx hb hts hiX7 hown hK hP 0 rfl rfl 1 (by decide) hf83 (fun _ h9 => h9) rfl dX7_make_180 ?_
                          refine lv_iload hx hb dX7_make_183 (lv_at hl 1 rfl) ?_
                          refine nv_iast hx hb hK hP hD hS 4 0 rfl rfl (by omega) (by decide) dX7_make_185 (fun H locs hP hD hS => ?_)
                          have hP : va_P D vwCl [(md 0, .inr (7, [.int (nI q), .int (nI n1), .ref (md 1), .ref (md 2), .ref (md 3), .ref (md 4), .ref (md 5), .ref (md 6), .ref (md 7), .ref (md 8), .ref (md 9), .ref (md 10), .ref (md 11), .ref (md 12), .ref (md 13), .ref (md 14), .ref (md 15), .ref (md 16), .int (nI w), .ref (md 17)])), (md 1, .inl (cI, 81, .inl (nF s1))), (md 2, .inl (cI, 81, .inl (nF p1))), (md 3, .inl (cI, 91, .inl (nF (upN x1 n1 (k / (q * q)))))), (md 4, .inl (cI, 91, .inl (nF (upN y1 n1 ((k / q) % q))))), (md 5, .inl (cI, 91, .inl (nF z1))), (md 6, .inl (cZ, 91, .inl (bF S))), (md 7, .inl (cI, 9, .inl (nF mp)))] H := hP
                          have hD : va_D A [(md 0, .inr (7, [.int (nI q), .int (nI n1), .ref (md 1), .ref (md 2), .ref (md 3), .ref (md 4), .ref (md 5), .ref (md 6), .ref (md 7), .ref (md 8), .ref (md 9), .ref (md 10), .ref (md 11), .ref (md 12), .ref (md 13), .ref (md 14), .ref (md 15), .ref (md 16), .int (nI w), .ref (md 17)])), (md 1, .inl (cI, 81, .inl (nF s1))), (md 2, .inl (cI, 81, .inl (nF p1))), (md 3, .inl (cI, 91, .inl (nF (upN x1 n1 (k / (q * q)))))), (md 4, .inl (cI, 91, .inl (nF (upN y1 n1 ((k / q) % q))))), (md 5, .inl (cI, 91, .inl (nF z1))), (md 6, .inl (cZ, 91, .inl (bF S))), (md 7, .inl (cI, 9, .inl (nF mp)))] := hD
                          refine lv_aload_n hx hb dX7_make_186 rfl (lv_at hl 3 rfl) ?_
                          refine va_get (D := D) (ci := 7) (v := .ref (md 5)) (C := RX7) (T := TX7) (N := 20) hx hb hts hiX7 hown hK hP 0 rfl rfl 6 (by decide) hf22 (fun _ h9 => h9) rfl dX7_make_187 ?_
                          refine lv_aload_n hx hb dX7_make_190 rfl (lv_at hl 3 rfl) ?_
                          refine va_get (D := D) (ci := 7) (v := .int (nI n1)) (C := RX7) (T := TX7) (N := 20) hx hb hts hiX7 hown hK hP 0 rfl rfl 1 (by decide) hf83 (fun _ h9 => h9) rfl dX7_make_191 ?_
                          refine lv_iload hx hb dX7_make_194 (lv_at hl 0 rfl) ?_
                          refine nv_iast hx hb hK hP hD hS 5 0 rfl rfl (by omega) (by decide) dX7_make_196 (fun H locs hP hD hS => ?_)
                          have hP : va_P D vwCl [(md 0, .inr (7, [.int (nI q), .int (nI n1), .ref (md 1), .ref (md 2), .ref (md 3), .ref (md 4), .ref (md 5), .ref (md 6), .ref (md 7), .ref (md 8), .ref (md 9), .ref (md 10), .ref (md 11), .ref (md 12), .ref (md 13), .ref (md 14), .ref (md 15), .ref (md 16), .int (nI w), .ref (md 17)])), (md 1, .inl (cI, 81, .inl (nF s1))), (md 2, .inl (cI, 81, .inl (nF p1))), (md 3, .inl (cI, 91, .inl (nF (upN x1 n1 (k / (q * q)))))), (md 4, .inl (cI, 91, .inl (nF (upN y1 n1 ((k / q) % q))))), (md 5, .inl (cI, 91, .inl (nF (upN z1 n1 (k % q))))), (md 6, .inl (cZ, 91, .inl (bF S))), (md 7, .inl (cI, 9, .inl (nF mp)))] H := hP
                          have hD : va_D A [(md 0, .inr (7, [.int (nI q), .int (nI n1), .ref (md 1), .ref (md 2), .ref (md 3), .ref (md 4), .ref (md 5), .ref (md 6), .ref (md 7), .ref (md 8), .ref (md 9), .ref (md 10), .ref (md 11), .ref (md 12), .ref (md 13), .ref (md 14), .ref (md 15), .ref (md 16), .int (nI w), .ref (md 17)])), (md 1, .inl (cI, 81, .inl (nF s1))), (md 2, .inl (cI, 81, .inl (nF p1))), (md 3, .inl (cI, 91, .inl (nF (upN x1 n1 (k / (q * q)))))), (md 4, .inl (cI, 91, .inl (nF (upN y1 n1 ((k / q) % q))))), (md 5, .inl (cI, 91, .inl (nF (upN z1 n1 (k % q))))), (md 6, .inl (cZ, 91, .inl (bF S))), (md 7, .inl (cI, 9, .inl (nF mp)))] := hD
                          refine lv_aload_n hx hb dX7_make_197 rfl (lv_at hl 3 rfl) ?_
                          refine lv_dup hx hb dX7_make_198 rfl ?_
                          refine va_get (D := D) (ci := 7) (v := .int (nI n1)) (C := RX7) (T := TX7) (N := 20) hx hb hts hiX7 hown hK hP 0 rfl rfl 1 (by decide) hf83 (fun _ h9 => h9) rfl dX7_make_199 ?_
                          refine lv_iconst (v := nI 1) hx hb dX7_make_202 (by decide) ?_
                          refine nv_addE (r := n1 + 1) hx hb rfl dX7_make_203 ?_
                          refine va_put (D := D) (ci := 7) (v := .int (nI (n1 + 1))) (ty := .int) (C := RX7) (T := TX7) (N := 20) hx hb hts hiX7 tyX7 tyX7_ok nmX7 hown hK hP hD hS 0 rfl rfl 1 (by decide) hf83 (fun _ h9 => h9) rfl (by decide +kernel) rfl rfl (Nat.le_of_ble_eq_true rfl) dX7_make_204 (fun H locs hP hD hS => ?_)
                          have hP : va_P D vwCl [(md 0, .inr (7, [.int (nI q), .int (nI (n1 + 1)), .ref (md 1), .ref (md 2), .ref (md 3), .ref (md 4), .ref (md 5), .ref (md 6), .ref (md 7), .ref (md 8), .ref (md 9), .ref (md 10), .ref (md 11), .ref (md 12), .ref (md 13), .ref (md 14), .ref (md 15), .ref (md 16), .int (nI w), .ref (md 17)])), (md 1, .inl (cI, 81, .inl (nF s1))), (md 2, .inl (cI, 81, .inl (nF p1))), (md 3, .inl (cI, 91, .inl (nF (upN x1 n1 (k / (q * q)))))), (md 4, .inl (cI, 91, .inl (nF (upN y1 n1 ((k / q) % q))))), (md 5, .inl (cI, 91, .inl (nF (upN z1 n1 (k % q))))), (md 6, .inl (cZ, 91, .inl (bF S))), (md 7, .inl (cI, 9, .inl (nF mp)))] H := hP
                          have hD : va_D A [(md 0, .inr (7, [.int (nI q), .int (nI (n1 + 1)), .ref (md 1), .ref (md 2), .ref (md 3), .ref (md 4), .ref (md 5), .ref (md 6), .ref (md 7), .ref (md 8), .ref (md 9), .ref (md 10), .ref (md 11), .ref (md 12), .ref (md 13), .ref (md 14), .ref (md 15), .ref (md 16), .int (nI w), .ref (md 17)])), (md 1, .inl (cI, 81, .inl (nF s1))), (md 2, .inl (cI, 81, .inl (nF p1))), (md 3, .inl (cI, 91, .inl (nF (upN x1 n1 (k / (q * q)))))), (md 4, .inl (cI, 91, .inl (nF (upN y1 n1 ((k / q) % q))))), (md 5, .inl (cI, 91, .inl (nF (upN z1 n1 (k % q))))), (md 6, .inl (cZ, 91, .inl (bF S))), (md 7, .inl (cI, 9, .inl (nF mp)))] := hD
                          refine lv_iinc (v := nI (k + 1)) (lv' := [(2, .int (nI (k + 1))), (5, .int (nI (k % q))), (4, .int (nI ((k / q) % q))), (3, .int (nI (k / (q * q)))), (0, .ref (md 0)), (1, .int (nI q))]) hx hb dX7_make_207 hl (k := 5) rfl (nI_inc k) (by decide) rfl (fun ls hl => ?_)
                          refine lv_goto (tgt := 84) hx hb dX7_make_210 (by decide) ?_
                          exact ih84 (k + 1) (n1 + 1) (upN x1 n1 (k / (q * q))) (upN y1 n1 ((k / q) % q)) (upN z1 n1 (k % q)) ls _ _ (by omega) (by omega) (by omega) (by rw [cnt_st hv, ← k_n]) (XK_s k_x (by rw [k_n]; exact hvt.1) (by rw [k_n]; exact hvt.2.1) (by rw [k_n]; exact hvt.2.2.1)) (lv_sub hl [4, 5, 0] rfl) hP hD hS
        exact L84 (q * q * q - 1 + 1) 1 0 xs ys zs ls _ _ (by omega) (Nat.le_refl 1) hvn.2.2.2 hvn.2.1.symm (fun i h => absurd h (Nat.not_lt_zero i)) (lv_sub hl [1, 2, 0] rfl) hP hD hS
      · refine lv_iconst (v := nI 0) hx hb dX7_make_15 (by decide) ?_
        refine lv_istore_n (lv' := [(3, .int (nI 0)), (0, .ref (md 0)), (1, .int (nI q)), (2, .int (nI a))]) hx hb dX7_make_16 rfl hl (by decide) rfl (fun ls hl => ?_)
        have L17 : ∀ (N17 : Nat) (b : Nat) (s1 : Nat → Nat) (p1 : Nat → Nat) (ls : Array Slot) (H : Heap) (locs : List Loc), q - b < N17 → (b ≤ q) → (SPK q a b s1 p1) → lv_has ls 6 [(0, .ref (md 0)), (1, .int (nI q)), (2, .int (nI a)), (3, .int (nI b))] → va_P D vwCl [(md 0, .inr (7, [.int (nI q), .int (nI n0), .ref (md 1), .ref (md 2), .ref (md 3), .ref (md 4), .ref (md 5), .ref (md 6), .ref (md 7), .ref (md 8), .ref (md 9), .ref (md 10), .ref (md 11), .ref (md 12), .ref (md 13), .ref (md 14), .ref (md 15), .ref (md 16), .int (nI w), .ref (md 17)])), (md 1, .inl (cI, 81, .inl (nF s1))), (md 2, .inl (cI, 81, .inl (nF p1))), (md 3, .inl (cI, 91, .inl (nF xs))), (md 4, .inl (cI, 91, .inl (nF ys))), (md 5, .inl (cI, 91, .inl (nF zs))), (md 6, .inl (cZ, 91, .inl (bF S))), (md 7, .inl (cI, 9, .inl (nF mp)))] H → va_D A [(md 0, .inr (7, [.int (nI q), .int (nI n0), .ref (md 1), .ref (md 2), .ref (md 3), .ref (md 4), .ref (md 5), .ref (md 6), .ref (md 7), .ref (md 8), .ref (md 9), .ref (md 10), .ref (md 11), .ref (md 12), .ref (md 13), .ref (md 14), .ref (md 15), .ref (md 16), .int (nI w), .ref (md 17)])), (md 1, .inl (cI, 81, .inl (nF s1))), (md 2, .inl (cI, 81, .inl (nF p1))), (md 3, .inl (cI, 91, .inl (nF xs))), (md 4, .inl (cI, 91, .inl (nF ys))), (md 5, .inl (cI, 91, .inl (nF zs))), (md 6, .inl (cZ, 91, .inl (bF S))), (md 7, .inl (cI, 9, .inl (nF mp)))] → va_S A s.heap H locs → WG p l e wsX7_make { frames := 2, cells := 0, slots := 0, locals := 47 } s m [.ref (md 0), .int (nI q)] below meth c H locs (CQ (S := (Nat → Nat) × (Nat → Nat) × (Nat → Nat) × (Nat → Nat) × (Nat → Nat) × (Nat → Bool) × (Nat → Nat)) D (fun u => (fun (su3 : Nat → Nat) (po3 : Nat → Nat) (xs3 : Nat → Nat) (ys3 : Nat → Nat) (zs3 : Nat → Nat) (S3 : Nat → Bool) (mp3 : Nat → Nat) => MOK q su3 po3 xs3 ys3 zs3 ∧ (∀ t, t < 91 → S3 t = false) ∧ (∀ t, t < 9 → mp3 t = if t % 4 = 0 then 1 else 0)) u.1 u.2.1 u.2.2.1 u.2.2.2.1 u.2.2.2.2.1 u.2.2.2.2.2.1 u.2.2.2.2.2.2) (fun u => (fun (su3 : Nat → Nat) (po3 : Nat → Nat) (xs3 : Nat → Nat) (ys3 : Nat → Nat) (zs3 : Nat → Nat) (S3 : Nat → Bool) (mp3 : Nat → Nat) => none) u.1 u.2.1 u.2.2.1 u.2.2.2.1 u.2.2.2.2.1 u.2.2.2.2.2.1 u.2.2.2.2.2.2) (fun u => (fun (su3 : Nat → Nat) (po3 : Nat → Nat) (xs3 : Nat → Nat) (ys3 : Nat → Nat) (zs3 : Nat → Nat) (S3 : Nat → Bool) (mp3 : Nat → Nat) => [(md 0, .inr (7, [.int (nI q), .int (nI (nn q)), .ref (md 1), .ref (md 2), .ref (md 3), .ref (md 4), .ref (md 5), .ref (md 6), .ref (md 7), .ref (md 8), .ref (md 9), .ref (md 10), .ref (md 11), .ref (md 12), .ref (md 13), .ref (md 14), .ref (md 15), .ref (md 16), .int (nI w), .ref (md 17)])), (md 1, .inl (cI, 81, .inl (nF su3))), (md 2, .inl (cI, 81, .inl (nF po3))), (md 3, .inl (cI, 91, .inl (nF xs3))), (md 4, .inl (cI, 91, .inl (nF ys3))), (md 5, .inl (cI, 91, .inl (nF zs3))), (md 6, .inl (cZ, 91, .inl (bF S3))), (md 7, .inl (cI, 9, .inl (nF mp3)))]) u.1 u.2.1 u.2.2.1 u.2.2.2.1 u.2.2.2.2.1 u.2.2.2.2.2.1 u.2.2.2.2.2.2) A) A 17 ls [] := by
          intro N17
          induction N17 with
          | zero => intro b s1 p1 ls H locs hN; exact absurd hN (Nat.not_lt_zero _)
          | succ N17 ih17 =>
            intro b s1 p1 ls H locs hN17 k_b k_g hl hP hD hS
            refine lv_iload_n hx hb dX7_make_17 rfl (lv_at hl 3 rfl) ?_
            refine lv_aload_n hx hb dX7_make_18 rfl (lv_at hl 0 rfl) ?_
            refine va_get (D := D) (ci := 7) (v := .int (nI q)) (C := RX7) (T := TX7) (N := 20) hx hb hts hiX7 hown hK hP 0 rfl rfl 0 (by decide) hf74 (fun _ h9 => h9) rfl dX7_make_19 ?_
            refine nv_icmp_ge (tgt := 71) hx hb (by omega) (by omega) dX7_make_22 (by decide) (fun c22 => ?_) (fun c22 => ?_)
            · refine lv_iinc (v := nI (a + 1)) (lv' := [(2, .int (nI (a + 1))), (0, .ref (md 0)), (1, .int (nI q)), (3, .int (nI b))]) hx hb dX7_make_71 hl (k := 2) rfl (nI_inc a) (by decide) rfl (fun ls hl => ?_)
              refine lv_goto (tgt := 7) hx hb dX7_make_74 (by decide) ?_
              exact ih7 (a + 1) s1 p1 ls _ _ (by omega) (by omega) (SPK_row (by rw [show b = q by omega] at k_g; exact k_g)) (lv_sub hl [1, 2, 0] rfl) hP hD hS
            · refine lv_aload_n hx hb dX7_make_25 rfl (lv_at hl 0 rfl) ?_
              refine va_get (D := D) (ci := 7) (v := .ref (md 1)) (C := RX7) (T := TX7) (N := 20) hx hb hts hiX7 hown hK hP 0 rfl rfl 2 (by decide) hf7 (fun _ h9 => h9) rfl dX7_make_26 ?_
              refine lv_bipush (v := nI 9) hx hb dX7_make_29 (by decide) ?_
              refine lv_iload_n hx hb dX7_make_31 rfl (lv_at hl 2 rfl) ?_
              refine nv_mulE (r := 9 * a) hx hb rfl dX7_make_32 ?_
              refine lv_iload_n hx hb dX7_make_33 rfl (lv_at hl 3 rfl) ?_
              refine nv_addE (r := (9 * a) + b) hx hb rfl dX7_make_34 ?_
              refine lv_aload_n hx hb dX7_make_35 rfl (lv_at hl 0 rfl) ?_
              refine va_get (D := D) (ci := 7) (v := .int (nI q)) (C := RX7) (T := TX7) (N := 20) hx hb hts hiX7 hown hK hP 0 rfl rfl 0 (by decide) hf74 (fun _ h9 => h9) rfl dX7_make_36 ?_
              refine lv_iload_n hx hb dX7_make_39 rfl (lv_at hl 2 rfl) ?_
              refine lv_iload_n hx hb dX7_make_40 rfl (lv_at hl 3 rfl) ?_
              refine ctR_S (As := [.int (nI q), .int (nI a), .int (nI b)]) (rest := [.int (nI ((9 * a) + b)), .ref (md 1)]) (r := .int (nI (fadd q a b))) ⟨hx, hb, hml, hown, hts⟩ (c_X7_sumOf l D cI cZ q a b hq (by omega) (by omega)) (va_cwS 3 hts gX7_make_X7_sumOf rfl rfl rfl hdS_X7_sumOf ⟨Nat.le_of_ble_eq_true rfl, Nat.le_of_ble_eq_true rfl⟩) hK hN hP [] rfl rfl hl.1 rfl (Nat.le_of_ble_eq_true rfl) ⟨Nat.zero_le _, Nat.zero_le _⟩ dX7_make_41 ?_
              have hh_1 : fadd q a b < q := fadd_lt hq (by omega) (by omega)
              refine nv_iast hx hb hK hP hD hS 1 0 rfl rfl (by omega) (by decide) dX7_make_44 (fun H locs hP hD hS => ?_)
              have hP : va_P D vwCl [(md 0, .inr (7, [.int (nI q), .int (nI n0), .ref (md 1), .ref (md 2), .ref (md 3), .ref (md 4), .ref (md 5), .ref (md 6), .ref (md 7), .ref (md 8), .ref (md 9), .ref (md 10), .ref (md 11), .ref (md 12), .ref (md 13), .ref (md 14), .ref (md 15), .ref (md 16), .int (nI w), .ref (md 17)])), (md 1, .inl (cI, 81, .inl (nF (upN s1 ((9 * a) + b) (fadd q a b))))), (md 2, .inl (cI, 81, .inl (nF p1))), (md 3, .inl (cI, 91, .inl (nF xs))), (md 4, .inl (cI, 91, .inl (nF ys))), (md 5, .inl (cI, 91, .inl (nF zs))), (md 6, .inl (cZ, 91, .inl (bF S))), (md 7, .inl (cI, 9, .inl (nF mp)))] H := hP
              have hD : va_D A [(md 0, .inr (7, [.int (nI q), .int (nI n0), .ref (md 1), .ref (md 2), .ref (md 3), .ref (md 4), .ref (md 5), .ref (md 6), .ref (md 7), .ref (md 8), .ref (md 9), .ref (md 10), .ref (md 11), .ref (md 12), .ref (md 13), .ref (md 14), .ref (md 15), .ref (md 16), .int (nI w), .ref (md 17)])), (md 1, .inl (cI, 81, .inl (nF (upN s1 ((9 * a) + b) (fadd q a b))))), (md 2, .inl (cI, 81, .inl (nF p1))), (md 3, .inl (cI, 91, .inl (nF xs))), (md 4, .inl (cI, 91, .inl (nF ys))), (md 5, .inl (cI, 91, .inl (nF zs))), (md 6, .inl (cZ, 91, .inl (bF S))), (md 7, .inl (cI, 9, .inl (nF mp)))] := hD
              refine lv_aload_n hx hb dX7_make_45 rfl (lv_at hl 0 rfl) ?_
              refine va_get (D := D) (ci := 7) (v := .ref (md 2)) (C := RX7) (T := TX7) (N := 20) hx hb hts hiX7 hown hK hP 0 rfl rfl 3 (by decide) hf13 (fun _ h9 => h9) rfl dX7_make_46 ?_
              refine lv_bipush (v := nI 9) hx hb dX7_make_49 (by decide) ?_
              refine lv_iload_n hx hb dX7_make_51 rfl (lv_at hl 2 rfl) ?_
              refine nv_mulE (r := 9 * a) hx hb rfl dX7_make_52 ?_
              refine lv_iload_n hx hb dX7_make_53 rfl (lv_at hl 3 rfl) ?_
              refine nv_addE (r := (9 * a) + b) hx hb rfl dX7_make_54 ?_
              refine lv_aload_n hx hb dX7_make_55 rfl (lv_at hl 0 rfl) ?_
              refine va_get (D := D) (ci := 7) (v := .int (nI q)) (C := RX7) (T := TX7) (N := 20) hx hb hts hiX7 hown hK hP 0 rfl rfl 0 (by decide) hf74 (fun _ h9 => h9) rfl dX7_make_56 ?_
              refine lv_iload_n hx hb dX7_make_59 rfl (lv_at hl 2 rfl) ?_
              refine lv_iload_n hx hb dX7_make_60 rfl (lv_at hl 3 rfl) ?_
              refine ctR_S (As := [.int (nI q), .int (nI a), .int (nI b)]) (rest := [.int (nI ((9 * a) + b)), .ref (md 2)]) (r := .int (nI (fmul q a b))) ⟨hx, hb, hml, hown, hts⟩ (c_X7_productOf l D cI cZ q a b hq (by omega) (by omega)) (va_cwS 3 hts gX7_make_X7_productOf rfl rfl rfl hdS_X7_productOf ⟨Nat.le_of_ble_eq_true rfl, Nat.le_of_ble_eq_true rfl⟩) hK hN hP [] rfl rfl hl.1 rfl (Nat.le_of_ble_eq_true rfl) ⟨Nat.zero_le _, Nat.zero_le _⟩ dX7_make_61 ?_
              have hh_2 : fmul q a b < q := fmul_lt hq (by omega) (by omega)
              refine nv_iast hx hb hK hP hD hS 2 0 rfl rfl (by omega) (by decide) dX7_make_64 (fun H locs hP hD hS => ?_)
              have hP : va_P D vwCl [(md 0, .inr (7, [.int (nI q), .int (nI n0), .ref (md 1), .ref (md 2), .ref (md 3), .ref (md 4), .ref (md 5), .ref (md 6), .ref (md 7), .ref (md 8), .ref (md 9), .ref (md 10), .ref (md 11), .ref (md 12), .ref (md 13), .ref (md 14), .ref (md 15), .ref (md 16), .int (nI w), .ref (md 17)])), (md 1, .inl (cI, 81, .inl (nF (upN s1 ((9 * a) + b) (fadd q a b))))), (md 2, .inl (cI, 81, .inl (nF (upN p1 ((9 * a) + b) (fmul q a b))))), (md 3, .inl (cI, 91, .inl (nF xs))), (md 4, .inl (cI, 91, .inl (nF ys))), (md 5, .inl (cI, 91, .inl (nF zs))), (md 6, .inl (cZ, 91, .inl (bF S))), (md 7, .inl (cI, 9, .inl (nF mp)))] H := hP
              have hD : va_D A [(md 0, .inr (7, [.int (nI q), .int (nI n0), .ref (md 1), .ref (md 2), .ref (md 3), .ref (md 4), .ref (md 5), .ref (md 6), .ref (md 7), .ref (md 8), .ref (md 9), .ref (md 10), .ref (md 11), .ref (md 12), .ref (md 13), .ref (md 14), .ref (md 15), .ref (md 16), .int (nI w), .ref (md 17)])), (md 1, .inl (cI, 81, .inl (nF (upN s1 ((9 * a) + b) (fadd q a b))))), (md 2, .inl (cI, 81, .inl (nF (upN p1 ((9 * a) + b) (fmul q a b))))), (md 3, .inl (cI, 91, .inl (nF xs))), (md 4, .inl (cI, 91, .inl (nF ys))), (md 5, .inl (cI, 91, .inl (nF zs))), (md 6, .inl (cZ, 91, .inl (bF S))), (md 7, .inl (cI, 9, .inl (nF mp)))] := hD
              refine lv_iinc (v := nI (b + 1)) (lv' := [(3, .int (nI (b + 1))), (0, .ref (md 0)), (1, .int (nI q)), (2, .int (nI a))]) hx hb dX7_make_65 hl (k := 3) rfl (nI_inc b) (by decide) rfl (fun ls hl => ?_)
              refine lv_goto (tgt := 17) hx hb dX7_make_68 (by decide) ?_
              exact ih17 (b + 1) (upN s1 ((9 * a) + b) (fadd q a b)) (upN p1 ((9 * a) + b) (fmul q a b)) ls _ _ (by omega) (by omega) (SPK_s (by omega) (by omega) (by omega) k_g) (lv_sub hl [1, 2, 3, 0] rfl) hP hD hS
        exact L17 (q - 0 + 1) 0 s1 p1 ls _ _ (by omega) (Nat.zero_le _) k_f (lv_sub hl [1, 2, 3, 0] rfl) hP hD hS
  exact L7 (q - 0 + 1) 0 su po ls _ _ (by omega) (Nat.zero_le _) SPK_0 (lv_sub hl [1, 2, 0] rfl) hP hD hS

set_option maxHeartbeats 4000000 in
set_option maxRecDepth 100000 in
theorem c_X7_begin (l : Launch) (D : va_G) (cI cZ : ClassId) (md : Nat → Nat) (q : Nat) (w : Nat) (su : Nat → Nat) (po : Nat → Nat) (xs : Nat → Nat) (ys : Nat → Nat) (zs : Nat → Nat) (hM : MOK q su po xs ys zs) (S : Nat → Bool) (mp : Nat → Nat) (x1 : Int32) : CtW (S := (Nat) × (Nat → Nat) × (Nat → Nat) × (Nat → Nat) × (Nat → Nat) × (Nat → Nat) × (Nat → Bool) × (Nat → Nat)) l yX7_begin wsX7_begin { frames := 3, cells := 0, slots := 0, locals := 72 } D (tyG cI cZ) [.ref (md 0), .int x1] [(md 0, .inr (7, [.int (nI q), .int (nI (nn q)), .ref (md 1), .ref (md 2), .ref (md 3), .ref (md 4), .ref (md 5), .ref (md 6), .ref (md 7), .ref (md 8), .ref (md 9), .ref (md 10), .ref (md 11), .ref (md 12), .ref (md 13), .ref (md 14), .ref (md 15), .ref (md 16), .int (nI w), .ref (md 17)])), (md 1, .inl (cI, 81, .inl (nF su))), (md 2, .inl (cI, 81, .inl (nF po))), (md 3, .inl (cI, 91, .inl (nF xs))), (md 4, .inl (cI, 91, .inl (nF ys))), (md 5, .inl (cI, 91, .inl (nF zs))), (md 6, .inl (cZ, 91, .inl (bF S))), (md 7, .inl (cI, 9, .inl (nF mp)))] (fun u => (fun (q3 : Nat) (su3 : Nat → Nat) (po3 : Nat → Nat) (xs3 : Nat → Nat) (ys3 : Nat → Nat) (zs3 : Nat → Nat) (S3 : Nat → Bool) (mp3 : Nat → Nat) => (exQ x1 = false ∧ q3 = q ∧ MOK q3 su3 po3 xs3 ys3 zs3 ∧ S3 = S ∧ mp3 = mp) ∨ (exQ x1 = true ∧ q3 = nv x1 ∧ MOK q3 su3 po3 xs3 ys3 zs3 ∧ (∀ t, t < 91 → S3 t = false) ∧ (∀ t, t < 9 → mp3 t = if t % 4 = 0 then 1 else 0))) u.1 u.2.1 u.2.2.1 u.2.2.2.1 u.2.2.2.2.1 u.2.2.2.2.2.1 u.2.2.2.2.2.2.1 u.2.2.2.2.2.2.2) (fun u => (fun (q3 : Nat) (su3 : Nat → Nat) (po3 : Nat → Nat) (xs3 : Nat → Nat) (ys3 : Nat → Nat) (zs3 : Nat → Nat) (S3 : Nat → Bool) (mp3 : Nat → Nat) => some (.int (begZ q x1))) u.1 u.2.1 u.2.2.1 u.2.2.2.1 u.2.2.2.2.1 u.2.2.2.2.2.1 u.2.2.2.2.2.2.1 u.2.2.2.2.2.2.2) (fun u => (fun (q3 : Nat) (su3 : Nat → Nat) (po3 : Nat → Nat) (xs3 : Nat → Nat) (ys3 : Nat → Nat) (zs3 : Nat → Nat) (S3 : Nat → Bool) (mp3 : Nat → Nat) => [(md 0, .inr (7, [.int (nI q3), .int (nI (nn q3)), .ref (md 1), .ref (md 2), .ref (md 3), .ref (md 4), .ref (md 5), .ref (md 6), .ref (md 7), .ref (md 8), .ref (md 9), .ref (md 10), .ref (md 11), .ref (md 12), .ref (md 13), .ref (md 14), .ref (md 15), .ref (md 16), .int (nI w), .ref (md 17)])), (md 1, .inl (cI, 81, .inl (nF su3))), (md 2, .inl (cI, 81, .inl (nF po3))), (md 3, .inl (cI, 91, .inl (nF xs3))), (md 4, .inl (cI, 91, .inl (nF ys3))), (md 5, .inl (cI, 91, .inl (nF zs3))), (md 6, .inl (cZ, 91, .inl (bF S3))), (md 7, .inl (cI, 9, .inl (nF mp3)))]) u.1 u.2.1 u.2.2.1 u.2.2.2.1 u.2.2.2.2.1 u.2.2.2.2.2.1 u.2.2.2.2.2.2.1 u.2.2.2.2.2.2.2) := by
  intro sz; refine Met.ofW (cc := cX7_begin) (maxL := 3) (ret := some .int) (by decide) rfl ?_
  intro p e s m args below meth c s₁ B hml hv
  obtain ⟨rfl, hsz, hP, hK, hD0, hN⟩ := hv
  have hx := B.exec
  have hb := B.bytes
  have hr := B.returns
  have hts := atoms_spec (ws := wsX7_begin) B.pre
  have hown : s.vm.findClass RX7 = some m.cls := findClass_of_methodNamed B.named
  have hlocks := B.notSynchronized
  subst hsz
  have hD := hD0.self (sz := s.heap.size)
  generalize hAe : va_A [(md 0, .inr (7, [.int (nI q), .int (nI (nn q)), .ref (md 1), .ref (md 2), .ref (md 3), .ref (md 4), .ref (md 5), .ref (md 6), .ref (md 7), .ref (md 8), .ref (md 9), .ref (md 10), .ref (md 11), .ref (md 12), .ref (md 13), .ref (md 14), .ref (md 15), .ref (md 16), .int (nI w), .ref (md 17)])), (md 1, .inl (cI, 81, .inl (nF su))), (md 2, .inl (cI, 81, .inl (nF po))), (md 3, .inl (cI, 91, .inl (nF xs))), (md 4, .inl (cI, 91, .inl (nF ys))), (md 5, .inl (cI, 91, .inl (nF zs))), (md 6, .inl (cZ, 91, .inl (bF S))), (md 7, .inl (cI, 9, .inl (nF mp)))] s.heap.size = A at hD ⊢
  have hA : ∀ q : Nat, s.heap.size ≤ q → A q := fun q h => by rw [← hAe]; exact Or.inr h
  have hS : va_S A s.heap s.heap [] := va_S.rf
  have hP : va_P D vwCl [(md 0, .inr (7, [.int (nI q), .int (nI (nn q)), .ref (md 1), .ref (md 2), .ref (md 3), .ref (md 4), .ref (md 5), .ref (md 6), .ref (md 7), .ref (md 8), .ref (md 9), .ref (md 10), .ref (md 11), .ref (md 12), .ref (md 13), .ref (md 14), .ref (md 15), .ref (md 16), .int (nI w), .ref (md 17)])), (md 1, .inl (cI, 81, .inl (nF su))), (md 2, .inl (cI, 81, .inl (nF po))), (md 3, .inl (cI, 91, .inl (nF xs))), (md 4, .inl (cI, 91, .inl (nF ys))), (md 5, .inl (cI, 91, .inl (nF zs))), (md 6, .inl (cZ, 91, .inl (bF S))), (md 7, .inl (cI, 9, .inl (nF mp)))] s.heap := hP
  have hf74 := hts (.fieldLink RX7 74 "FinitePlanesModel" "q" "I") (by decide +kernel)
  have hiX7 : ∀ w ∈ u_ws RX7 TX7 20, w ∈ wsX7_begin := by decide +kernel
  have hl := lv_entry ([.ref (md 0), .int x1]) (n := 3) (Nat.le_of_ble_eq_true rfl)
  rw [lg_entry_eq]
  generalize (lg_sl ([.ref (md 0), .int x1]) ++ List.replicate (3 - (lg_sl ([.ref (md 0), .int x1])).length) Slot.unset).toArray = ls at hl ⊢
  have hl : lv_has ls 3 [(0, .ref (md 0)), (1, .int x1)] := hl
  have hq2 := qs_le hM.1
  have hn2 := nn_le hM.1
  refine lv_iload_n hx hb dX7_begin_0 rfl (lv_at hl 1 rfl) ?_
  refine lv_iconst (v := nI 2) hx hb dX7_begin_1 (by decide) ?_
  refine lv_icmp_eq (tgt := 41) hx hb dX7_begin_2 (by decide) (fun c2 => ?_) (fun c2 => ?_)
  · have h9 : exQ x1 = true := by rw [c2]; decide
    obtain rfl : x1 = nI 2 := c2
    refine lv_aload_n hx hb dX7_begin_41 rfl (lv_at hl 0 rfl) ?_
    refine va_get (D := D) (ci := 7) (v := .int (nI q)) (C := RX7) (T := TX7) (N := 20) hx hb hts hiX7 hown hK hP 0 rfl rfl 0 (by decide) hf74 (fun _ h9 => h9) rfl dX7_begin_42 ?_
    refine lv_istore_n (lv' := [(2, .int (nI q)), (0, .ref (md 0)), (1, .int (nI 2))]) hx hb dX7_begin_45 rfl hl (by decide) rfl (fun ls hl => ?_)
    refine lv_aload_n hx hb dX7_begin_46 rfl (lv_at hl 1 rfl) ?_
    refine lv_iload_n hx hb dX7_begin_47 rfl (lv_at hl 2 rfl) ?_
    refine ctW_V (As := [.int (nI 2)]) (rest := []) (wr := []) ⟨hx, hb, hml, hown, hts⟩ (c_X7_make l D cI cZ md q (nn q) w su po xs ys zs S mp 2 (by decide)) (cwV 1 hts gX7_begin_X7_make rfl rfl rfl hdV_X7_make ⟨Nat.le_of_ble_eq_true rfl, Nat.le_of_ble_eq_true rfl⟩) hK hN hP hD hS hA [0, 1, 2, 3, 4, 5, 6, 7] [] rfl rfl rfl (by decide) (by decide) (by decide) 0 7 rfl rfl rfl hl.1 rfl (Nat.le_of_ble_eq_true rfl) ⟨Nat.zero_le _, Nat.zero_le _⟩ dX7_begin_48 (fun u H locs hu48 hP hD hS => ?_)
    obtain ⟨su_1, po_2, xs_3, ys_4, zs_5, S_6, mp_7⟩ := u
    try dsimp only at hu48
    have hP : va_P D vwCl [(md 0, .inr (7, [.int (nI 2), .int (nI (nn 2)), .ref (md 1), .ref (md 2), .ref (md 3), .ref (md 4), .ref (md 5), .ref (md 6), .ref (md 7), .ref (md 8), .ref (md 9), .ref (md 10), .ref (md 11), .ref (md 12), .ref (md 13), .ref (md 14), .ref (md 15), .ref (md 16), .int (nI w), .ref (md 17)])), (md 1, .inl (cI, 81, .inl (nF su_1))), (md 2, .inl (cI, 81, .inl (nF po_2))), (md 3, .inl (cI, 91, .inl (nF xs_3))), (md 4, .inl (cI, 91, .inl (nF ys_4))), (md 5, .inl (cI, 91, .inl (nF zs_5))), (md 6, .inl (cZ, 91, .inl (bF S_6))), (md 7, .inl (cI, 9, .inl (nF mp_7)))] H := hP.sub [0, 1, 2, 3, 4, 5, 6, 7] rfl
    have hD : va_D A [(md 0, .inr (7, [.int (nI 2), .int (nI (nn 2)), .ref (md 1), .ref (md 2), .ref (md 3), .ref (md 4), .ref (md 5), .ref (md 6), .ref (md 7), .ref (md 8), .ref (md 9), .ref (md 10), .ref (md 11), .ref (md 12), .ref (md 13), .ref (md 14), .ref (md 15), .ref (md 16), .int (nI w), .ref (md 17)])), (md 1, .inl (cI, 81, .inl (nF su_1))), (md 2, .inl (cI, 81, .inl (nF po_2))), (md 3, .inl (cI, 91, .inl (nF xs_3))), (md 4, .inl (cI, 91, .inl (nF ys_4))), (md 5, .inl (cI, 91, .inl (nF zs_5))), (md 6, .inl (cZ, 91, .inl (bF S_6))), (md 7, .inl (cI, 9, .inl (nF mp_7)))] := hD.sub [0, 1, 2, 3, 4, 5, 6, 7] (by decide) rfl
    refine W.eq (g2 := F0 m 51 ls []) rfl ?_
    refine lv_iload_n hx hb dX7_begin_51 rfl (lv_at hl 0 rfl) ?_
    exact ctW_retI (v := (nI q)) (2, su_1, po_2, xs_3, ys_4, zs_5, S_6, mp_7) hx hb hr rfl dX7_begin_52 hlocks hS hP hD (by dsimp only; exact (Or.inr ⟨h9, rfl, hu48.1, hu48.2.1, hu48.2.2⟩)) (by rw [begZ, if_neg (bool_nf h9)])
  · refine lv_iload_n hx hb dX7_begin_5 rfl (lv_at hl 1 rfl) ?_
    refine lv_iconst (v := nI 3) hx hb dX7_begin_6 (by decide) ?_
    refine lv_icmp_eq (tgt := 41) hx hb dX7_begin_7 (by decide) (fun c7 => ?_) (fun c7 => ?_)
    · have h9 : exQ x1 = true := by rw [c7]; decide
      obtain rfl : x1 = nI 3 := c7
      refine lv_aload_n hx hb dX7_begin_41 rfl (lv_at hl 0 rfl) ?_
      refine va_get (D := D) (ci := 7) (v := .int (nI q)) (C := RX7) (T := TX7) (N := 20) hx hb hts hiX7 hown hK hP 0 rfl rfl 0 (by decide) hf74 (fun _ h9 => h9) rfl dX7_begin_42 ?_
      refine lv_istore_n (lv' := [(2, .int (nI q)), (0, .ref (md 0)), (1, .int (nI 3))]) hx hb dX7_begin_45 rfl hl (by decide) rfl (fun ls hl => ?_)
      refine lv_aload_n hx hb dX7_begin_46 rfl (lv_at hl 1 rfl) ?_
      refine lv_iload_n hx hb dX7_begin_47 rfl (lv_at hl 2 rfl) ?_
      refine ctW_V (As := [.int (nI 3)]) (rest := []) (wr := []) ⟨hx, hb, hml, hown, hts⟩ (c_X7_make l D cI cZ md q (nn q) w su po xs ys zs S mp 3 (by decide)) (cwV 1 hts gX7_begin_X7_make rfl rfl rfl hdV_X7_make ⟨Nat.le_of_ble_eq_true rfl, Nat.le_of_ble_eq_true rfl⟩) hK hN hP hD hS hA [0, 1, 2, 3, 4, 5, 6, 7] [] rfl rfl rfl (by decide) (by decide) (by decide) 0 7 rfl rfl rfl hl.1 rfl (Nat.le_of_ble_eq_true rfl) ⟨Nat.zero_le _, Nat.zero_le _⟩ dX7_begin_48 (fun u H locs hu48 hP hD hS => ?_)
      obtain ⟨su_8, po_9, xs_10, ys_11, zs_12, S_13, mp_14⟩ := u
      try dsimp only at hu48
      have hP : va_P D vwCl [(md 0, .inr (7, [.int (nI 3), .int (nI (nn 3)), .ref (md 1), .ref (md 2), .ref (md 3), .ref (md 4), .ref (md 5), .ref (md 6), .ref (md 7), .ref (md 8), .ref (md 9), .ref (md 10), .ref (md 11), .ref (md 12), .ref (md 13), .ref (md 14), .ref (md 15), .ref (md 16), .int (nI w), .ref (md 17)])), (md 1, .inl (cI, 81, .inl (nF su_8))), (md 2, .inl (cI, 81, .inl (nF po_9))), (md 3, .inl (cI, 91, .inl (nF xs_10))), (md 4, .inl (cI, 91, .inl (nF ys_11))), (md 5, .inl (cI, 91, .inl (nF zs_12))), (md 6, .inl (cZ, 91, .inl (bF S_13))), (md 7, .inl (cI, 9, .inl (nF mp_14)))] H := hP.sub [0, 1, 2, 3, 4, 5, 6, 7] rfl
      have hD : va_D A [(md 0, .inr (7, [.int (nI 3), .int (nI (nn 3)), .ref (md 1), .ref (md 2), .ref (md 3), .ref (md 4), .ref (md 5), .ref (md 6), .ref (md 7), .ref (md 8), .ref (md 9), .ref (md 10), .ref (md 11), .ref (md 12), .ref (md 13), .ref (md 14), .ref (md 15), .ref (md 16), .int (nI w), .ref (md 17)])), (md 1, .inl (cI, 81, .inl (nF su_8))), (md 2, .inl (cI, 81, .inl (nF po_9))), (md 3, .inl (cI, 91, .inl (nF xs_10))), (md 4, .inl (cI, 91, .inl (nF ys_11))), (md 5, .inl (cI, 91, .inl (nF zs_12))), (md 6, .inl (cZ, 91, .inl (bF S_13))), (md 7, .inl (cI, 9, .inl (nF mp_14)))] := hD.sub [0, 1, 2, 3, 4, 5, 6, 7] (by decide) rfl
      refine W.eq (g2 := F0 m 51 ls []) rfl ?_
      refine lv_iload_n hx hb dX7_begin_51 rfl (lv_at hl 0 rfl) ?_
      exact ctW_retI (v := (nI q)) (3, su_8, po_9, xs_10, ys_11, zs_12, S_13, mp_14) hx hb hr rfl dX7_begin_52 hlocks hS hP hD (by dsimp only; exact (Or.inr ⟨h9, rfl, hu48.1, hu48.2.1, hu48.2.2⟩)) (by rw [begZ, if_neg (bool_nf h9)])
    · refine lv_iload_n hx hb dX7_begin_10 rfl (lv_at hl 1 rfl) ?_
      refine lv_iconst (v := nI 4) hx hb dX7_begin_11 (by decide) ?_
      refine lv_icmp_eq (tgt := 41) hx hb dX7_begin_12 (by decide) (fun c12 => ?_) (fun c12 => ?_)
      · have h9 : exQ x1 = true := by rw [c12]; decide
        obtain rfl : x1 = nI 4 := c12
        refine lv_aload_n hx hb dX7_begin_41 rfl (lv_at hl 0 rfl) ?_
        refine va_get (D := D) (ci := 7) (v := .int (nI q)) (C := RX7) (T := TX7) (N := 20) hx hb hts hiX7 hown hK hP 0 rfl rfl 0 (by decide) hf74 (fun _ h9 => h9) rfl dX7_begin_42 ?_
        refine lv_istore_n (lv' := [(2, .int (nI q)), (0, .ref (md 0)), (1, .int (nI 4))]) hx hb dX7_begin_45 rfl hl (by decide) rfl (fun ls hl => ?_)
        refine lv_aload_n hx hb dX7_begin_46 rfl (lv_at hl 1 rfl) ?_
        refine lv_iload_n hx hb dX7_begin_47 rfl (lv_at hl 2 rfl) ?_
        refine ctW_V (As := [.int (nI 4)]) (rest := []) (wr := []) ⟨hx, hb, hml, hown, hts⟩ (c_X7_make l D cI cZ md q (nn q) w su po xs ys zs S mp 4 (by decide)) (cwV 1 hts gX7_begin_X7_make rfl rfl rfl hdV_X7_make ⟨Nat.le_of_ble_eq_true rfl, Nat.le_of_ble_eq_true rfl⟩) hK hN hP hD hS hA [0, 1, 2, 3, 4, 5, 6, 7] [] rfl rfl rfl (by decide) (by decide) (by decide) 0 7 rfl rfl rfl hl.1 rfl (Nat.le_of_ble_eq_true rfl) ⟨Nat.zero_le _, Nat.zero_le _⟩ dX7_begin_48 (fun u H locs hu48 hP hD hS => ?_)
        obtain ⟨su_15, po_16, xs_17, ys_18, zs_19, S_20, mp_21⟩ := u
        try dsimp only at hu48
        have hP : va_P D vwCl [(md 0, .inr (7, [.int (nI 4), .int (nI (nn 4)), .ref (md 1), .ref (md 2), .ref (md 3), .ref (md 4), .ref (md 5), .ref (md 6), .ref (md 7), .ref (md 8), .ref (md 9), .ref (md 10), .ref (md 11), .ref (md 12), .ref (md 13), .ref (md 14), .ref (md 15), .ref (md 16), .int (nI w), .ref (md 17)])), (md 1, .inl (cI, 81, .inl (nF su_15))), (md 2, .inl (cI, 81, .inl (nF po_16))), (md 3, .inl (cI, 91, .inl (nF xs_17))), (md 4, .inl (cI, 91, .inl (nF ys_18))), (md 5, .inl (cI, 91, .inl (nF zs_19))), (md 6, .inl (cZ, 91, .inl (bF S_20))), (md 7, .inl (cI, 9, .inl (nF mp_21)))] H := hP.sub [0, 1, 2, 3, 4, 5, 6, 7] rfl
        have hD : va_D A [(md 0, .inr (7, [.int (nI 4), .int (nI (nn 4)), .ref (md 1), .ref (md 2), .ref (md 3), .ref (md 4), .ref (md 5), .ref (md 6), .ref (md 7), .ref (md 8), .ref (md 9), .ref (md 10), .ref (md 11), .ref (md 12), .ref (md 13), .ref (md 14), .ref (md 15), .ref (md 16), .int (nI w), .ref (md 17)])), (md 1, .inl (cI, 81, .inl (nF su_15))), (md 2, .inl (cI, 81, .inl (nF po_16))), (md 3, .inl (cI, 91, .inl (nF xs_17))), (md 4, .inl (cI, 91, .inl (nF ys_18))), (md 5, .inl (cI, 91, .inl (nF zs_19))), (md 6, .inl (cZ, 91, .inl (bF S_20))), (md 7, .inl (cI, 9, .inl (nF mp_21)))] := hD.sub [0, 1, 2, 3, 4, 5, 6, 7] (by decide) rfl
        refine W.eq (g2 := F0 m 51 ls []) rfl ?_
        refine lv_iload_n hx hb dX7_begin_51 rfl (lv_at hl 0 rfl) ?_
        exact ctW_retI (v := (nI q)) (4, su_15, po_16, xs_17, ys_18, zs_19, S_20, mp_21) hx hb hr rfl dX7_begin_52 hlocks hS hP hD (by dsimp only; exact (Or.inr ⟨h9, rfl, hu48.1, hu48.2.1, hu48.2.2⟩)) (by rw [begZ, if_neg (bool_nf h9)])
      · refine lv_iload_n hx hb dX7_begin_15 rfl (lv_at hl 1 rfl) ?_
        refine lv_iconst (v := nI 5) hx hb dX7_begin_16 (by decide) ?_
        refine lv_icmp_eq (tgt := 41) hx hb dX7_begin_17 (by decide) (fun c17 => ?_) (fun c17 => ?_)
        · have h9 : exQ x1 = true := by rw [c17]; decide
          obtain rfl : x1 = nI 5 := c17
          refine lv_aload_n hx hb dX7_begin_41 rfl (lv_at hl 0 rfl) ?_
          refine va_get (D := D) (ci := 7) (v := .int (nI q)) (C := RX7) (T := TX7) (N := 20) hx hb hts hiX7 hown hK hP 0 rfl rfl 0 (by decide) hf74 (fun _ h9 => h9) rfl dX7_begin_42 ?_
          refine lv_istore_n (lv' := [(2, .int (nI q)), (0, .ref (md 0)), (1, .int (nI 5))]) hx hb dX7_begin_45 rfl hl (by decide) rfl (fun ls hl => ?_)
          refine lv_aload_n hx hb dX7_begin_46 rfl (lv_at hl 1 rfl) ?_
          refine lv_iload_n hx hb dX7_begin_47 rfl (lv_at hl 2 rfl) ?_
          refine ctW_V (As := [.int (nI 5)]) (rest := []) (wr := []) ⟨hx, hb, hml, hown, hts⟩ (c_X7_make l D cI cZ md q (nn q) w su po xs ys zs S mp 5 (by decide)) (cwV 1 hts gX7_begin_X7_make rfl rfl rfl hdV_X7_make ⟨Nat.le_of_ble_eq_true rfl, Nat.le_of_ble_eq_true rfl⟩) hK hN hP hD hS hA [0, 1, 2, 3, 4, 5, 6, 7] [] rfl rfl rfl (by decide) (by decide) (by decide) 0 7 rfl rfl rfl hl.1 rfl (Nat.le_of_ble_eq_true rfl) ⟨Nat.zero_le _, Nat.zero_le _⟩ dX7_begin_48 (fun u H locs hu48 hP hD hS => ?_)
          obtain ⟨su_22, po_23, xs_24, ys_25, zs_26, S_27, mp_28⟩ := u
          try dsimp only at hu48
          have hP : va_P D vwCl [(md 0, .inr (7, [.int (nI 5), .int (nI (nn 5)), .ref (md 1), .ref (md 2), .ref (md 3), .ref (md 4), .ref (md 5), .ref (md 6), .ref (md 7), .ref (md 8), .ref (md 9), .ref (md 10), .ref (md 11), .ref (md 12), .ref (md 13), .ref (md 14), .ref (md 15), .ref (md 16), .int (nI w), .ref (md 17)])), (md 1, .inl (cI, 81, .inl (nF su_22))), (md 2, .inl (cI, 81, .inl (nF po_23))), (md 3, .inl (cI, 91, .inl (nF xs_24))), (md 4, .inl (cI, 91, .inl (nF ys_25))), (md 5, .inl (cI, 91, .inl (nF zs_26))), (md 6, .inl (cZ, 91, .inl (bF S_27))), (md 7, .inl (cI, 9, .inl (nF mp_28)))] H := hP.sub [0, 1, 2, 3, 4, 5, 6, 7] rfl
          have hD : va_D A [(md 0, .inr (7, [.int (nI 5), .int (nI (nn 5)), .ref (md 1), .ref (md 2), .ref (md 3), .ref (md 4), .ref (md 5), .ref (md 6), .ref (md 7), .ref (md 8), .ref (md 9), .ref (md 10), .ref (md 11), .ref (md 12), .ref (md 13), .ref (md 14), .ref (md 15), .ref (md 16), .int (nI w), .ref (md 17)])), (md 1, .inl (cI, 81, .inl (nF su_22))), (md 2, .inl (cI, 81, .inl (nF po_23))), (md 3, .inl (cI, 91, .inl (nF xs_24))), (md 4, .inl (cI, 91, .inl (nF ys_25))), (md 5, .inl (cI, 91, .inl (nF zs_26))), (md 6, .inl (cZ, 91, .inl (bF S_27))), (md 7, .inl (cI, 9, .inl (nF mp_28)))] := hD.sub [0, 1, 2, 3, 4, 5, 6, 7] (by decide) rfl
          refine W.eq (g2 := F0 m 51 ls []) rfl ?_
          refine lv_iload_n hx hb dX7_begin_51 rfl (lv_at hl 0 rfl) ?_
          exact ctW_retI (v := (nI q)) (5, su_22, po_23, xs_24, ys_25, zs_26, S_27, mp_28) hx hb hr rfl dX7_begin_52 hlocks hS hP hD (by dsimp only; exact (Or.inr ⟨h9, rfl, hu48.1, hu48.2.1, hu48.2.2⟩)) (by rw [begZ, if_neg (bool_nf h9)])
        · refine lv_iload_n hx hb dX7_begin_20 rfl (lv_at hl 1 rfl) ?_
          refine lv_bipush (v := nI 7) hx hb dX7_begin_21 (by decide) ?_
          refine lv_icmp_eq (tgt := 41) hx hb dX7_begin_23 (by decide) (fun c23 => ?_) (fun c23 => ?_)
          · have h9 : exQ x1 = true := by rw [c23]; decide
            obtain rfl : x1 = nI 7 := c23
            refine lv_aload_n hx hb dX7_begin_41 rfl (lv_at hl 0 rfl) ?_
            refine va_get (D := D) (ci := 7) (v := .int (nI q)) (C := RX7) (T := TX7) (N := 20) hx hb hts hiX7 hown hK hP 0 rfl rfl 0 (by decide) hf74 (fun _ h9 => h9) rfl dX7_begin_42 ?_
            refine lv_istore_n (lv' := [(2, .int (nI q)), (0, .ref (md 0)), (1, .int (nI 7))]) hx hb dX7_begin_45 rfl hl (by decide) rfl (fun ls hl => ?_)
            refine lv_aload_n hx hb dX7_begin_46 rfl (lv_at hl 1 rfl) ?_
            refine lv_iload_n hx hb dX7_begin_47 rfl (lv_at hl 2 rfl) ?_
            refine ctW_V (As := [.int (nI 7)]) (rest := []) (wr := []) ⟨hx, hb, hml, hown, hts⟩ (c_X7_make l D cI cZ md q (nn q) w su po xs ys zs S mp 7 (by decide)) (cwV 1 hts gX7_begin_X7_make rfl rfl rfl hdV_X7_make ⟨Nat.le_of_ble_eq_true rfl, Nat.le_of_ble_eq_true rfl⟩) hK hN hP hD hS hA [0, 1, 2, 3, 4, 5, 6, 7] [] rfl rfl rfl (by decide) (by decide) (by decide) 0 7 rfl rfl rfl hl.1 rfl (Nat.le_of_ble_eq_true rfl) ⟨Nat.zero_le _, Nat.zero_le _⟩ dX7_begin_48 (fun u H locs hu48 hP hD hS => ?_)
            obtain ⟨su_29, po_30, xs_31, ys_32, zs_33, S_34, mp_35⟩ := u
            try dsimp only at hu48
            have hP : va_P D vwCl [(md 0, .inr (7, [.int (nI 7), .int (nI (nn 7)), .ref (md 1), .ref (md 2), .ref (md 3), .ref (md 4), .ref (md 5), .ref (md 6), .ref (md 7), .ref (md 8), .ref (md 9), .ref (md 10), .ref (md 11), .ref (md 12), .ref (md 13), .ref (md 14), .ref (md 15), .ref (md 16), .int (nI w), .ref (md 17)])), (md 1, .inl (cI, 81, .inl (nF su_29))), (md 2, .inl (cI, 81, .inl (nF po_30))), (md 3, .inl (cI, 91, .inl (nF xs_31))), (md 4, .inl (cI, 91, .inl (nF ys_32))), (md 5, .inl (cI, 91, .inl (nF zs_33))), (md 6, .inl (cZ, 91, .inl (bF S_34))), (md 7, .inl (cI, 9, .inl (nF mp_35)))] H := hP.sub [0, 1, 2, 3, 4, 5, 6, 7] rfl
            have hD : va_D A [(md 0, .inr (7, [.int (nI 7), .int (nI (nn 7)), .ref (md 1), .ref (md 2), .ref (md 3), .ref (md 4), .ref (md 5), .ref (md 6), .ref (md 7), .ref (md 8), .ref (md 9), .ref (md 10), .ref (md 11), .ref (md 12), .ref (md 13), .ref (md 14), .ref (md 15), .ref (md 16), .int (nI w), .ref (md 17)])), (md 1, .inl (cI, 81, .inl (nF su_29))), (md 2, .inl (cI, 81, .inl (nF po_30))), (md 3, .inl (cI, 91, .inl (nF xs_31))), (md 4, .inl (cI, 91, .inl (nF ys_32))), (md 5, .inl (cI, 91, .inl (nF zs_33))), (md 6, .inl (cZ, 91, .inl (bF S_34))), (md 7, .inl (cI, 9, .inl (nF mp_35)))] := hD.sub [0, 1, 2, 3, 4, 5, 6, 7] (by decide) rfl
            refine W.eq (g2 := F0 m 51 ls []) rfl ?_
            refine lv_iload_n hx hb dX7_begin_51 rfl (lv_at hl 0 rfl) ?_
            exact ctW_retI (v := (nI q)) (7, su_29, po_30, xs_31, ys_32, zs_33, S_34, mp_35) hx hb hr rfl dX7_begin_52 hlocks hS hP hD (by dsimp only; exact (Or.inr ⟨h9, rfl, hu48.1, hu48.2.1, hu48.2.2⟩)) (by rw [begZ, if_neg (bool_nf h9)])
          · refine lv_iload_n hx hb dX7_begin_26 rfl (lv_at hl 1 rfl) ?_
            refine lv_bipush (v := nI 8) hx hb dX7_begin_27 (by decide) ?_
            refine lv_icmp_eq (tgt := 41) hx hb dX7_begin_29 (by decide) (fun c29 => ?_) (fun c29 => ?_)
            · have h9 : exQ x1 = true := by rw [c29]; decide
              obtain rfl : x1 = nI 8 := c29
              refine lv_aload_n hx hb dX7_begin_41 rfl (lv_at hl 0 rfl) ?_
              refine va_get (D := D) (ci := 7) (v := .int (nI q)) (C := RX7) (T := TX7) (N := 20) hx hb hts hiX7 hown hK hP 0 rfl rfl 0 (by decide) hf74 (fun _ h9 => h9) rfl dX7_begin_42 ?_
              refine lv_istore_n (lv' := [(2, .int (nI q)), (0, .ref (md 0)), (1, .int (nI 8))]) hx hb dX7_begin_45 rfl hl (by decide) rfl (fun ls hl => ?_)
              refine lv_aload_n hx hb dX7_begin_46 rfl (lv_at hl 1 rfl) ?_
              refine lv_iload_n hx hb dX7_begin_47 rfl (lv_at hl 2 rfl) ?_
              refine ctW_V (As := [.int (nI 8)]) (rest := []) (wr := []) ⟨hx, hb, hml, hown, hts⟩ (c_X7_make l D cI cZ md q (nn q) w su po xs ys zs S mp 8 (by decide)) (cwV 1 hts gX7_begin_X7_make rfl rfl rfl hdV_X7_make ⟨Nat.le_of_ble_eq_true rfl, Nat.le_of_ble_eq_true rfl⟩) hK hN hP hD hS hA [0, 1, 2, 3, 4, 5, 6, 7] [] rfl rfl rfl (by decide) (by decide) (by decide) 0 7 rfl rfl rfl hl.1 rfl (Nat.le_of_ble_eq_true rfl) ⟨Nat.zero_le _, Nat.zero_le _⟩ dX7_begin_48 (fun u H locs hu48 hP hD hS => ?_)
              obtain ⟨su_36, po_37, xs_38, ys_39, zs_40, S_41, mp_42⟩ := u
              try dsimp only at hu48
              have hP : va_P D vwCl [(md 0, .inr (7, [.int (nI 8), .int (nI (nn 8)), .ref (md 1), .ref (md 2), .ref (md 3), .ref (md 4), .ref (md 5), .ref (md 6), .ref (md 7), .ref (md 8), .ref (md 9), .ref (md 10), .ref (md 11), .ref (md 12), .ref (md 13), .ref (md 14), .ref (md 15), .ref (md 16), .int (nI w), .ref (md 17)])), (md 1, .inl (cI, 81, .inl (nF su_36))), (md 2, .inl (cI, 81, .inl (nF po_37))), (md 3, .inl (cI, 91, .inl (nF xs_38))), (md 4, .inl (cI, 91, .inl (nF ys_39))), (md 5, .inl (cI, 91, .inl (nF zs_40))), (md 6, .inl (cZ, 91, .inl (bF S_41))), (md 7, .inl (cI, 9, .inl (nF mp_42)))] H := hP.sub [0, 1, 2, 3, 4, 5, 6, 7] rfl
              have hD : va_D A [(md 0, .inr (7, [.int (nI 8), .int (nI (nn 8)), .ref (md 1), .ref (md 2), .ref (md 3), .ref (md 4), .ref (md 5), .ref (md 6), .ref (md 7), .ref (md 8), .ref (md 9), .ref (md 10), .ref (md 11), .ref (md 12), .ref (md 13), .ref (md 14), .ref (md 15), .ref (md 16), .int (nI w), .ref (md 17)])), (md 1, .inl (cI, 81, .inl (nF su_36))), (md 2, .inl (cI, 81, .inl (nF po_37))), (md 3, .inl (cI, 91, .inl (nF xs_38))), (md 4, .inl (cI, 91, .inl (nF ys_39))), (md 5, .inl (cI, 91, .inl (nF zs_40))), (md 6, .inl (cZ, 91, .inl (bF S_41))), (md 7, .inl (cI, 9, .inl (nF mp_42)))] := hD.sub [0, 1, 2, 3, 4, 5, 6, 7] (by decide) rfl
              refine W.eq (g2 := F0 m 51 ls []) rfl ?_
              refine lv_iload_n hx hb dX7_begin_51 rfl (lv_at hl 0 rfl) ?_
              exact ctW_retI (v := (nI q)) (8, su_36, po_37, xs_38, ys_39, zs_40, S_41, mp_42) hx hb hr rfl dX7_begin_52 hlocks hS hP hD (by dsimp only; exact (Or.inr ⟨h9, rfl, hu48.1, hu48.2.1, hu48.2.2⟩)) (by rw [begZ, if_neg (bool_nf h9)])
            · refine lv_iload_n hx hb dX7_begin_32 rfl (lv_at hl 1 rfl) ?_
              refine lv_bipush (v := nI 9) hx hb dX7_begin_33 (by decide) ?_
              refine lv_icmp_eq (tgt := 41) hx hb dX7_begin_35 (by decide) (fun c35 => ?_) (fun c35 => ?_)
              · have h9 : exQ x1 = true := by rw [c35]; decide
                obtain rfl : x1 = nI 9 := c35
                refine lv_aload_n hx hb dX7_begin_41 rfl (lv_at hl 0 rfl) ?_
                refine va_get (D := D) (ci := 7) (v := .int (nI q)) (C := RX7) (T := TX7) (N := 20) hx hb hts hiX7 hown hK hP 0 rfl rfl 0 (by decide) hf74 (fun _ h9 => h9) rfl dX7_begin_42 ?_
                refine lv_istore_n (lv' := [(2, .int (nI q)), (0, .ref (md 0)), (1, .int (nI 9))]) hx hb dX7_begin_45 rfl hl (by decide) rfl (fun ls hl => ?_)
                refine lv_aload_n hx hb dX7_begin_46 rfl (lv_at hl 1 rfl) ?_
                refine lv_iload_n hx hb dX7_begin_47 rfl (lv_at hl 2 rfl) ?_
                refine ctW_V (As := [.int (nI 9)]) (rest := []) (wr := []) ⟨hx, hb, hml, hown, hts⟩ (c_X7_make l D cI cZ md q (nn q) w su po xs ys zs S mp 9 (by decide)) (cwV 1 hts gX7_begin_X7_make rfl rfl rfl hdV_X7_make ⟨Nat.le_of_ble_eq_true rfl, Nat.le_of_ble_eq_true rfl⟩) hK hN hP hD hS hA [0, 1, 2, 3, 4, 5, 6, 7] [] rfl rfl rfl (by decide) (by decide) (by decide) 0 7 rfl rfl rfl hl.1 rfl (Nat.le_of_ble_eq_true rfl) ⟨Nat.zero_le _, Nat.zero_le _⟩ dX7_begin_48 (fun u H locs hu48 hP hD hS => ?_)
                obtain ⟨su_43, po_44, xs_45, ys_46, zs_47, S_48, mp_49⟩ := u
                try dsimp only at hu48
                have hP : va_P D vwCl [(md 0, .inr (7, [.int (nI 9), .int (nI (nn 9)), .ref (md 1), .ref (md 2), .ref (md 3), .ref (md 4), .ref (md 5), .ref (md 6), .ref (md 7), .ref (md 8), .ref (md 9), .ref (md 10), .ref (md 11), .ref (md 12), .ref (md 13), .ref (md 14), .ref (md 15), .ref (md 16), .int (nI w), .ref (md 17)])), (md 1, .inl (cI, 81, .inl (nF su_43))), (md 2, .inl (cI, 81, .inl (nF po_44))), (md 3, .inl (cI, 91, .inl (nF xs_45))), (md 4, .inl (cI, 91, .inl (nF ys_46))), (md 5, .inl (cI, 91, .inl (nF zs_47))), (md 6, .inl (cZ, 91, .inl (bF S_48))), (md 7, .inl (cI, 9, .inl (nF mp_49)))] H := hP.sub [0, 1, 2, 3, 4, 5, 6, 7] rfl
                have hD : va_D A [(md 0, .inr (7, [.int (nI 9), .int (nI (nn 9)), .ref (md 1), .ref (md 2), .ref (md 3), .ref (md 4), .ref (md 5), .ref (md 6), .ref (md 7), .ref (md 8), .ref (md 9), .ref (md 10), .ref (md 11), .ref (md 12), .ref (md 13), .ref (md 14), .ref (md 15), .ref (md 16), .int (nI w), .ref (md 17)])), (md 1, .inl (cI, 81, .inl (nF su_43))), (md 2, .inl (cI, 81, .inl (nF po_44))), (md 3, .inl (cI, 91, .inl (nF xs_45))), (md 4, .inl (cI, 91, .inl (nF ys_46))), (md 5, .inl (cI, 91, .inl (nF zs_47))), (md 6, .inl (cZ, 91, .inl (bF S_48))), (md 7, .inl (cI, 9, .inl (nF mp_49)))] := hD.sub [0, 1, 2, 3, 4, 5, 6, 7] (by decide) rfl
                refine W.eq (g2 := F0 m 51 ls []) rfl ?_
                refine lv_iload_n hx hb dX7_begin_51 rfl (lv_at hl 0 rfl) ?_
                exact ctW_retI (v := (nI q)) (9, su_43, po_44, xs_45, ys_46, zs_47, S_48, mp_49) hx hb hr rfl dX7_begin_52 hlocks hS hP hD (by dsimp only; exact (Or.inr ⟨h9, rfl, hu48.1, hu48.2.1, hu48.2.2⟩)) (by rw [begZ, if_neg (bool_nf h9)])
              · refine lv_bipush (v := (-2)) hx hb dX7_begin_38 (by decide) ?_
                exact ctW_retI (v := (-2)) (q, su, po, xs, ys, zs, S, mp) hx hb hr rfl dX7_begin_40 hlocks hS hP hD (by dsimp only; exact (Or.inl ⟨exQ_no c2 c7 c12 c17 c23 c29 c35, rfl, hM, rfl, rfl⟩)) (by rw [begZ, if_pos (exQ_no c2 c7 c12 c17 c23 c29 c35)])

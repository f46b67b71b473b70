/-! THE CLAIM OUT OF ONE WALK OF THE LAW'S BODY. Your part is whole_start (and what it stands on); all else here is the same for every law, but numbers. -/
def R_law : String := "FinitePlanesLaw"
def lw_P (b : Addr) (xs : List Int32) (args : Array Value) (s : State) : Prop := args = #[.ref b] ∧ s.IntsAt b xs ∧ xs.length ≤ 448 ∧ (Jvm.Cond.and given_1 narrow_1).before args s = true
def lw_Q (_ : Array Value) (s : State) (o : Outcome) (t : State) : Prop := o = .returned (some (.int 1)) ∧ Framed s o t [] 45 3325
def lw_Z (below : List Frame) (a : Array Value) (s : State) : State → Prop := fun t => ∃ o, t.status = .running ∧ Ended t below o ∧ lw_Q a s o t
/-- the law's own end, with 1 on the stack, nothing written that was there before, its room as the claim has it -/
theorem lw_ret {p : Program} {l : Launch} {e : Env} {s : State} {m : MethodId} {below : List Frame} {meth : Method} {c : Code} {b : Nat} (hx : p.tables.exec = Jvm.exec) (hb : c.code = code) (hr : meth.sig.returnType = ret) (hlocks : meth.locks = false) {pc : Nat} {H : Heap} {ls : Array Slot} (hdg : decode code pc = .ok (.ireturn, 1)) : W p l e room_1 s m #[Value.ref b] below meth c H [] 45 3325 (lw_Z below #[Value.ref b] s) (F0 m pc ls [.int 1]) := by
  intro T hT X
  obtain ⟨fs, hret, hrun, hended, hW, hframe⟩ := X.leave (v := some (.int 1)) (hlocks := hlocks) (fun h => by rw [hr] at h; cases h)
  have hmeth' : T.vm.method? m = some meth := X.method'
  refine ⟨T.setFrames fs, ?_, .returned (some (.int 1)), hrun, hended, rfl, ⟨_, rfl⟩, hW, hframe⟩
  jvm_step X.here [X.here.top, hx, hb, hdg, hmeth', hr, ret, narrow_b1]
  (try refine ⟨rfl, ?_⟩); (try refine ⟨rfl, ?_⟩)
  first | (intro acts; rw [hret _ acts rfl rfl rfl]) | rw [hret _ _ rfl rfl rfl]
  exact Steps.refl _
/-- what holds at the law's entry: the machine, the code, the tables' words (any of lw_tbl by 'hts w (by decide +kernel)'), the script of L ints xs at the cell b, what the Statement gives of the start (any of its parts by flat_of_before) -/
def lw_At (p : Program) (s : State) (m : MethodId) (meth : Method) (c : Code) (b L : Nat) (xs : Nat → Int32) : Prop :=
  p.tables.exec = Jvm.exec ∧ c.code = code ∧ meth.sig.returnType = ret ∧ c.maxLocals = 4 ∧ s.vm.findClass R_law = some m.cls ∧ (∀ w ∈ lw_tbl, w.before #[Value.ref b] s = true) ∧ va_X b L xs s s.heap ∧ b < s.heap.size ∧ meth.locks = false ∧ (Jvm.Cond.and given_1 narrow_1).before #[Value.ref b] s = true
/-- the law's own goal, all its room in use -/
abbrev LG (p : Program) (l : Launch) (e : Env) (s : State) (m : MethodId) (b : Nat) (below : List Frame) (meth : Method) (c : Code) (H : Heap) (locs : List Loc) (pc : Nat) (ls : Array Slot) (st : List Value) : Prop := W p l e room_1 s m #[Value.ref b] below meth c H locs 45 3325 (lw_Z below #[Value.ref b] s) (F0 m pc ls st)
def LW (ad md : Nat → Nat) (cI cZ : ClassId) (q : Nat) (sm : Nat → Nat) (pr : Nat → Nat) (op : Nat → Nat) (iv : Nat → Nat) (tr : Nat → Nat) (ro : Nat → Nat) (S : Nat → Bool) (gr : Nat → Bool) (ol : Nat → Nat) (nb : Nat → Nat) (mx : Nat → Nat) (pv : Nat → Nat) (mm : Nat → Nat) (me : Nat → Nat) (rc : Nat → Bool) (fm : Nat → Nat) (fe : Nat → Nat) (fr : Nat → Bool) (w : Nat) (ln : Nat → Nat) (su : Nat → Nat) (po : Nat → Nat) (px : Nat → Nat) (py : Nat → Nat) (pz : Nat → Nat) (T : Nat → Bool) (cd : Nat → Bool) (td : Nat → Bool) (be : Nat → Bool) (pl : Nat → Nat) (go : Nat → Nat) (nw : Nat → Nat) (ot : Nat → Nat) (mv : Nat → Bool) (tw : Nat → Nat) (mk : Nat → Bool) : va_W := [(ad 0, .inr (1, [.int (nI q), .ref (ad 1), .ref (ad 2), .ref (ad 3), .ref (ad 4)])), (ad 1, .inl (cI, 81, .inl (nF sm))), (ad 2, .inl (cI, 81, .inl (nF pr))), (ad 3, .inl (cI, 9, .inl (nF op))), (ad 4, .inl (cI, 9, .inl (nF iv))), (ad 5, .inr (3, [.ref (ad 0), .int (nI (nn q)), .ref (ad 6), .ref (ad 7)])), (ad 6, .inl (cI, 273, .inl (nF tr))), (ad 7, .inl (cI, 910, .inl (nF ro))), (ad 8, .inr (4, [.ref (ad 5), .ref (ad 9), .ref (ad 10), .ref (ad 11)])), (ad 9, .inl (cZ, 91, .inl (bF S))), (ad 10, .inl (cZ, 91, .inl (bF gr))), (ad 11, .inl (cI, 91, .inl (nF ol))), (ad 12, .inr (0, [.ref (ad 5), .ref (ad 0), .ref (ad 13), .ref (ad 14), .ref (ad 15)])), (ad 13, .inl (cI, 6, .inl (nF nb))), (ad 14, .inl (cI, 30, .inl (nF mx))), (ad 15, .inl (cI, 5, .inl (nF pv))), (ad 16, .inr (2, [.ref (ad 5), .ref (ad 0), .ref (ad 17), .ref (ad 18), .ref (ad 19)])), (ad 17, .inl (cI, 9, .inl (nF mm))), (ad 18, .inl (cI, 9, .inl (nF me))), (ad 19, .inl (cZ, 91, .inl (bF rc))), (ad 20, .inr (2, [.ref (ad 5), .ref (ad 0), .ref (ad 21), .ref (ad 22), .ref (ad 23)])), (ad 21, .inl (cI, 9, .inl (nF fm))), (ad 22, .inl (cI, 9, .inl (nF fe))), (ad 23, .inl (cZ, 91, .inl (bF fr))), (ad 24, .inr (5, [.int (nI w), .ref (ad 25)])), (ad 25, .inl (cI, 13, .inl (nF ln))), (ad 26, .inr (6, [.ref (ad 0), .ref (ad 5), .ref (ad 8), .ref (ad 12), .ref (ad 16), .ref (ad 20), .ref (ad 24)])), (md 0, .inr (7, [.int (nI q), .int (nI (nn q)), .ref (md 1), .ref (md 2), .ref (md 3), .ref (md 4), .ref (md 5), .ref (md 6), .ref (md 7), .ref (md 8), .ref (md 9), .ref (md 10), .ref (md 11), .ref (md 12), .ref (md 13), .ref (md 14), .ref (md 15), .ref (md 16), .int (nI w), .ref (md 17)])), (md 1, .inl (cI, 81, .inl (nF su))), (md 2, .inl (cI, 81, .inl (nF po))), (md 3, .inl (cI, 91, .inl (nF px))), (md 4, .inl (cI, 91, .inl (nF py))), (md 5, .inl (cI, 91, .inl (nF pz))), (md 6, .inl (cZ, 91, .inl (bF T))), (md 7, .inl (cI, 9, .inl (nF mm))), (md 8, .inl (cZ, 91, .inl (bF cd))), (md 9, .inl (cZ, 91, .inl (bF td))), (md 10, .inl (cZ, 91, .inl (bF be))), (md 11, .inl (cI, 92, .inl (nF pl))), (md 12, .inl (cI, 91, .inl (nF go))), (md 13, .inl (cI, 91, .inl (nF nw))), (md 14, .inl (cI, 9, .inl (nF ot))), (md 15, .inl (cZ, 91, .inl (bF mv))), (md 16, .inl (cI, 9, .inl (nF tw))), (md 17, .inl (cZ, 169, .inl (bF mk)))]
/-- between two calls of a script: both hold the same -/
def LI (D : va_G) (cI cZ : ClassId) (ad md : Nat → Nat) (A : Nat → Prop) (s : State) (H : Heap) (locs : List Loc) : Prop := ∃ (q : Nat) (sm : Nat → Nat) (pr : Nat → Nat) (op : Nat → Nat) (iv : Nat → Nat) (tr : Nat → Nat) (ro : Nat → Nat) (S : Nat → Bool) (gr : Nat → Bool) (ol : Nat → Nat) (nb : Nat → Nat) (mx : Nat → Nat) (pv : Nat → Nat) (mm : Nat → Nat) (me : Nat → Nat) (rc : Nat → Bool) (fm : Nat → Nat) (fe : Nat → Nat) (fr : Nat → Bool) (w : Nat) (ln : Nat → Nat) (su : Nat → Nat) (po : Nat → Nat) (px : Nat → Nat) (py : Nat → Nat) (pz : Nat → Nat) (T : Nat → Bool) (cd : Nat → Bool) (td : Nat → Bool) (be : Nat → Bool) (pl : Nat → Nat) (go : Nat → Nat) (nw : Nat → Nat) (ot : Nat → Nat) (mv : Nat → Bool) (tw : Nat → Nat) (mk : Nat → Bool), (FOK q sm pr op iv ∧ TOK q tr ∧ ROK q ro ∧ MOK q su po px py pz ∧ eqN (nn q) S T ∧ MPK q mm ∧ TB w ln mk) ∧ va_P D vwCl (LW ad md cI cZ q sm pr op iv tr ro S gr ol nb mx pv mm me rc fm fe fr w ln su po px py pz T cd td be pl go nw ot mv tw mk) H ∧ va_D A (LW ad md cI cZ q sm pr op iv tr ro S gr ol nb mx pv mm me rc fm fe fr w ln su po px py pz T cd td be pl go nw ot mv tw mk) ∧ va_S A s.heap H locs
theorem nv_sld {p : Program} {l : Launch} {e : Env} {R : Room} {s : State} {m : MethodId} {args : Array Value} {below : List Frame} {meth : Method} {c : Code} {H : Heap} {locs : List Loc} {cells slots : Nat} {Q : State → Prop} {cc : ByteArray} {pc : Nat} {ls : Array Slot} {rest : List Value} {A : Nat → Prop} {H0 : Heap} (hexec : p.tables.exec = Jvm.exec) (hb : c.code = cc) {b L : Nat} {xs : Nat → Int32} (hX : va_X b L xs s H0) (hbl : b < H0.size) (hbA : ¬ A b) (hS : va_S A H0 H locs) {i : Nat} (hi : i < L) (hL : L ≤ 448) (hdg : decode cc pc = .ok (.iaload, 1))
    (kk : W p l e R s m args below meth c H locs cells slots Q (F0 m (pc + 1) ls (.int (xs i) :: rest))) : W p l e R s m args below meth c H locs cells slots Q (F0 m pc ls (.int (nI i) :: .ref b :: rest)) := by
  refine va_sld hexec hb hX hbl hbA hS (vp_in_nI hi (by omega)) hdg ?_
  rw [nI_clamp (by omega)]
  exact kk
theorem arrV_c {cA : ClassId} {n : Nat} {f g : Nat → Value} (h : ∀ t, t < n → f t = g t) : arrV cA n f = arrV cA n g := by
  have e : Array.ofFn (n := n) (fun j => f j) = Array.ofFn (n := n) (fun j => g j) := congrArg Array.ofFn (funext (fun j => h j.1 j.2))
  first | (simp only [arrV]; rw [e]; done) | (simp only [arrV, e]; done) | (unfold arrV; simp [e]; done)
theorem va_P_set {D : va_G} {ws : va_W} {H : Heap} (hP : va_P D vwCl ws H) (k : Nat) {a : Nat} {cA : ClassId} {n : Nat} {f g : Nat → Nat} (hk : ws[k]? = some (a, .inl (cA, n, .inl (nF f)))) (h : ∀ t, t < n → f t = g t) : va_P D vwCl (ws.set k (a, .inl (cA, n, .inl (nF g)))) H := fun j x hx => by
  by_cases z : k = j
  · subst z
    have h1 := hP k _ hk
    have hl : k < ws.length := (List.getElem?_eq_some_iff.mp hk).1
    rw [List.getElem?_set_self hl] at hx
    cases hx
    have e : vp_cell cA (n, .inl (nF f)) = vp_cell cA (n, .inl (nF g)) := by
      rw [vp_cell_i, vp_cell_i]
      exact arrV_c (fun t ht => by
        show Value.int (nI (f t)) = Value.int (nI (g t))
        rw [h t ht])
    show H[a]? = some (vp_cell cA (n, .inl (nF g)))
    rw [← e]; exact h1
  · rw [List.getElem?_set_ne z] at hx
    exact hP j x hx
theorem va_D_set {A : Nat → Prop} {ws : va_W} (hD : va_D A ws) (k : Nat) {a : Nat} {e e' : va_E} (hk : ws[k]? = some (a, e)) : va_D A (ws.set k (a, e')) := by
  have key : ∀ (j : Nat) (x : Nat × va_E), (ws.set k (a, e'))[j]? = some x → ∃ y : va_E, ws[j]? = some (x.1, y) := fun j x hx => by
    by_cases z : k = j
    · subst z
      have hl : k < ws.length := (List.getElem?_eq_some_iff.mp hk).1
      rw [List.getElem?_set_self hl] at hx
      cases hx
      exact ⟨e, hk⟩
    · rw [List.getElem?_set_ne z] at hx
      exact ⟨x.2, hx⟩
  refine ⟨fun i j p q hi hj h => ?_, fun j q hq => ?_⟩
  · obtain ⟨y, hy⟩ := key i p hi
    obtain ⟨z, hz⟩ := key j q hj
    exact hD.1 i j _ _ hy hz h
  · obtain ⟨y, hy⟩ := key j q hq
    exact hD.2 j (q.1, y) hy
theorem beg_rel {q q3 q4 : Nat} {sm3 pr3 op3 iv3 tr3 ro3 mm mm3 mp3 su3 po3 px3 py3 pz3 : Nat → Nat} {S T S3 T3 : Nat → Bool} {x1 : Int32} (hE : eqN (nn q) S T) (k_m : MPK q mm) (h1 : (exQ x1 = false ∧ q3 = q ∧ FOK q3 sm3 pr3 op3 iv3 ∧ TOK q3 tr3 ∧ ROK q3 ro3 ∧ S3 = S ∧ mm3 = mm) ∨ (exQ x1 = true ∧ q3 = nv x1 ∧ FOK q3 sm3 pr3 op3 iv3 ∧ TOK q3 tr3 ∧ ROK q3 ro3 ∧ (∀ t, t < 91 → S3 t = false) ∧ (∀ t, t < 9 → mm3 t = if t % 4 = 0 then 1 else 0))) (h2 : (exQ x1 = false ∧ q4 = q ∧ MOK q4 su3 po3 px3 py3 pz3 ∧ T3 = T ∧ mp3 = mm) ∨ (exQ x1 = true ∧ q4 = nv x1 ∧ MOK q4 su3 po3 px3 py3 pz3 ∧ (∀ t, t < 91 → T3 t = false) ∧ (∀ t, t < 9 → mp3 t = if t % 4 = 0 then 1 else 0))) : q4 = q3 ∧ FOK q3 sm3 pr3 op3 iv3 ∧ TOK q3 tr3 ∧ ROK q3 ro3 ∧ MOK q3 su3 po3 px3 py3 pz3 ∧ eqN (nn q3) S3 T3 ∧ MPK q3 mm3 ∧ ∀ t, t < 9 → mp3 t = mm3 t := by
  rcases h1 with ⟨a1, a2, a3, a4, a5, a6, a7⟩ | ⟨a1, a2, a3, a4, a5, a6, a7⟩ <;> rcases h2 with ⟨b1, b2, b3, b4, b5⟩ | ⟨b1, b2, b3, b4, b5⟩
  · subst a2; subst b2
    exact ⟨rfl, a3, a4, a5, b3, by rw [a6, b4]; exact hE, by rw [a7]; exact k_m, fun t _ => by rw [a7, b5]⟩
  · rw [a1] at b1; cases b1
  · rw [a1] at b1; cases b1
  · have e : q4 = q3 := b2.trans a2.symm
    subst e
    have hn := nn_le a3.1
    exact ⟨rfl, a3, a4, a5, b3, fun t ht => by rw [a6 t (by omega), b4 t (by omega)], id_lt a3.1 a7, fun t ht => by rw [a7 t ht, b5 t ht]⟩
theorem lw_go {i L : Nat} (hL : L ≤ 448) (hi : i ≤ 1000) (h : ¬ nI L - nI 7 < nI i) : i + 7 ≤ L := by
  rcases Nat.lt_or_ge L 7 with z | z
  · exfalso
    apply h
    have h7 : ∀ j, j < 7 → (nI j - nI 7).toInt < 0 := by decide
    rw [Int32.lt_iff_toInt_lt, nI_toInt (by omega)]
    have := h7 L z
    omega
  · rw [pk_sub z, nI_ltI (by omega) (by omega)] at h
    omega

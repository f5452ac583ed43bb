/-! the law: calls over two worlds side by side -/
theorem la_PL {D : va_G} {cl : List vw_C} {X Y : va_W} {H : Heap} (h : va_P D cl (X ++ Y) H) : va_P D cl X H := fun k q hk => h k q (by rw [List.getElem?_append_left (List.getElem?_eq_some_iff.mp hk).1]; exact hk)
theorem la_ix {X Y : va_W} {k : Nat} {q : Nat × va_E} (hk : Y[k]? = some q) : (X ++ Y)[X.length + k]? = some q := by
  rw [List.getElem?_append_right (by omega), show X.length + k - X.length = k by omega]
  exact hk
theorem la_il {X Y : va_W} {k : Nat} {q : Nat × va_E} (hk : X[k]? = some q) : (X ++ Y)[k]? = some q := by
  rw [List.getElem?_append_left (List.getElem?_eq_some_iff.mp hk).1]
  exact hk
theorem la_PR {D : va_G} {cl : List vw_C} {X Y : va_W} {H : Heap} (h : va_P D cl (X ++ Y) H) : va_P D cl Y H := fun _ q hk => h _ q (la_ix hk)
theorem la_DL {A : Nat → Prop} {X Y : va_W} (h : va_D A (X ++ Y)) : va_D A X := ⟨fun i j p q hi hj e => h.1 i j p q (la_il hi) (la_il hj) e, fun k q hk => h.2 k q (la_il hk)⟩
theorem la_DR {A : Nat → Prop} {X Y : va_W} (h : va_D A (X ++ Y)) : va_D A Y := ⟨fun i j p q hi hj e => by have := h.1 _ _ p q (la_ix hi) (la_ix hj) e; omega, fun k q hk => h.2 _ q (la_ix hk)⟩
theorem la_PS {D : va_G} {cl : List vw_C} {X Y : va_W} {H : Heap} (h : va_P D cl (X ++ Y) H) : va_P D cl (Y ++ X) H := (la_PR h).app (la_PL h)
theorem la_DS {A : Nat → Prop} {X Y : va_W} (h : va_D A (X ++ Y)) : va_D A (Y ++ X) := (la_DR h).app (la_DL h) (fun i j p q hi hj e => by
  have := h.1 _ _ p q (la_ix hi) (la_il hj) e
  have := (List.getElem?_eq_some_iff.mp hj).1
  omega)
theorem la_free {A : Nat → Prop} {X Y : va_W} {H0 H : Heap} {locs : List Loc} (hD : va_D A (X ++ Y)) (hS : va_S A H0 H locs) (hA : ∀ q, H0.size ≤ q → A q) : ∀ q, va_A X H.size q → A q := fun q h => by
  rcases h with ⟨k, e, h⟩ | h
  · exact hD.2 k (q, e) (la_il h)
  · exact hA q (Nat.le_trans hS.1 h)
theorem la_join {D : va_G} {cl : List vw_C} {A : Nat → Prop} {X Y w1 : va_W} {H H1 : Heap} (hP : va_P D cl (X ++ Y) H) (hD : va_D A (X ++ Y)) (hk : ∀ q : Nat, q < H.size → ¬ va_A X H.size q → H1[q]? = H[q]?) (hF : ∀ q, va_A X H.size q → A q) (hP1 : va_P D cl w1 H1) (hD1 : va_D (va_A X H.size) w1) :
    va_P D cl (w1 ++ Y) H1 ∧ va_D A (w1 ++ Y) := by
  have hY := la_PR hP
  have apart : ∀ (k : Nat) (q : Nat × va_E), Y[k]? = some q → q.1 < H.size ∧ ¬ va_A X H.size q.1 := by
    intro k q hq
    have hl := (hY k q hq).lt
    refine ⟨hl, fun h => ?_⟩
    rcases h with ⟨k2, e, h⟩ | h
    · have h1 := hD.1 _ _ q (q.1, e) (la_ix hq) (la_il h) rfl
      have h2 := (List.getElem?_eq_some_iff.mp h).1
      omega
    · omega
  refine ⟨hP1.app (fun k q hq => ?_), va_D.app (hD1.weaken (fun k q _ h => hF q.1 h)) (la_DR hD) (fun i j x y hx hy hxy => ?_)⟩
  · obtain ⟨g1, g2⟩ := apart k q hq
    exact (hY k q hq).kept (hk q.1 g1 g2)
  · exact (apart j y hy).2 (by rw [← hxy]; exact hD1.2 i x hx)
section LAC
variable {p : Program} {l : Launch} {e : Env} {R : Room} {s : State} {m : MethodId} {args : Array Value} {below : List Frame} {meth : Method} {c : Code} {H : Heap} {locs : List Loc} {cells slots mc ms : Nat} {Q : State → Prop}
variable {cc : ByteArray} {pc : Nat} {ls : Array Slot} {rest : List Value}
variable {D : va_G} {tys : List (ClassId × FieldType)} {A : Nat → Prop} {la ha fa : Nat} {lw hg : Int → Int}
variable {Ts : List Cond} {own : String} {nL : Nat} {X Y : va_W}
theorem la_callI {y : MethodName} {bytes : ByteArray} {maxL n index fr lo ci : Nat} {ret : Option FieldType} {wsy : List Cond} {C : String} {T : u_T} {N : Nat} {b : Addr} {st0 : List Value} {G : Int → va_W → Prop} (As : List Value)
    (F : CallFix p m c cc nL s args Ts own) (hC : CtI (S := va_W) l y wsy fr lo D tys (.ref b :: As) X G (fun x => x)) (cw : CallW R s args own C index y bytes maxL ret wsy { frames := fr, cells := 0, slots := 0, locals := lo } 0 0 n)
    (hK : va_K D vwCl tys s) (hP : va_P D vwCl (X ++ Y) H) (hD : va_D A (X ++ Y)) (hS : va_S A s.heap H locs) (hA : ∀ q, s.heap.size ≤ q → A q) (hN : NW s) (hr : ∃ fs, X[0]? = some (b, .inr (ci, fs))) (hc : vwCl[ci]? = some (C, T, N))
    (hn : As.length = n) (hsize : ls.size = nL) (hst : st0 = As.reverse ++ .ref b :: rest) (hW : (rest.map fun v => v.category).sum ≤ 8) (hdg : decode cc pc = .ok (.invokevirtual index, 3)) (hf : cells ≤ R.cells ∧ slots ≤ R.slots)
    (kk : ∀ (z : Int) (X1 : va_W) (H1 : Heap) (locs1 : List Loc), G z X1 → va_P D vwCl (X1 ++ Y) H1 → va_D A (X1 ++ Y) → va_S A s.heap H1 locs1 → W p l e R s m args below meth c H1 locs1 cells slots Q (F0 m (pc + 3) ls (.int (iI z) :: rest))) :
    W p l e R s m args below meth c H locs cells slots Q (F0 m pc ls st0) := by
  obtain ⟨fs, he⟩ := hr
  have hF := la_free hD hS hA
  refine va_calli (va_runV (g := F0 m pc ls st0) (As := As) (rest := rest) F (hC H.size) cw ⟨cB_pre, va_recv hK (la_PL hP) hc he, fun U hU hW => ⟨rfl, by rw [hU], by rw [hU]; exact la_PL hP, va_K.moved hW.alike hK, (la_DL hD).weaken (fun _ _ _ _ => trivial), hN.warm hW⟩⟩ rfl hn hsize hst (lv_room hW) hdg hf) hS (fun q _ h => hF q h) hF (fun r u t H1 locs1 ht hvm hw hB hz1 hk1 hS1 => ?_)
  obtain ⟨z, rfl, hw⟩ := hw
  obtain ⟨hP1, hK1, hD1⟩ := hB
  rw [ht] at hP1
  have hj := la_join hP hD hk1 hF hP1 hD1
  exact kk z u H1 locs1 hw hj.1 hj.2 hS1
theorem la_callIz {y : MethodName} {bytes : ByteArray} {maxL n index fr lo ci : Nat} {ret : Option FieldType} {wsy : List Cond} {C : String} {T : u_T} {N : Nat} {b : Addr} {st0 : List Value} {G : Int → va_W → Prop} (As : List Value)
    (F : CallFix p m c cc nL s args Ts own) (hZ : Zs la ha lw hg A s) (hC : CtIz (S := va_W) la ha lw hg l y wsy fr lo D tys (.ref b :: As) X G (fun x => x)) (cw : CallW R s args own C index y bytes maxL ret wsy { frames := fr, cells := 0, slots := 0, locals := lo } 0 0 n)
    (hK : va_K D vwCl tys s) (hP : va_P D vwCl (X ++ Y) H) (hD : va_D A (X ++ Y)) (hS : va_S A s.heap H locs) (hA : ∀ q, s.heap.size ≤ q → A q) (hN : NW s) (hr : ∃ fs, X[0]? = some (b, .inr (ci, fs))) (hc : vwCl[ci]? = some (C, T, N))
    (hn : As.length = n) (hsize : ls.size = nL) (hst : st0 = As.reverse ++ .ref b :: rest) (hW : (rest.map fun v => v.category).sum ≤ 8) (hdg : decode cc pc = .ok (.invokevirtual index, 3)) (hf : cells ≤ R.cells ∧ slots ≤ R.slots)
    (kk : ∀ (z : Int) (X1 : va_W) (H1 : Heap) (locs1 : List Loc), G z X1 → va_P D vwCl (X1 ++ Y) H1 → va_D A (X1 ++ Y) → va_S A s.heap H1 locs1 → W p l e R s m args below meth c H1 locs1 cells slots Q (F0 m (pc + 3) ls (.int (iI z) :: rest))) :
    W p l e R s m args below meth c H locs cells slots Q (F0 m pc ls st0) := by
  obtain ⟨fs, he⟩ := hr
  have hF := la_free hD hS hA
  refine va_calli (va_runV (g := F0 m pc ls st0) (As := As) (rest := rest) F (hC H.size) cw ⟨cBz_pre, va_recv hK (la_PL hP) hc he, fun U hU hW => ⟨rfl, ⟨by rw [hU], by rw [hU]; exact la_PL hP, va_K.moved hW.alike hK, (la_DL hD).weaken (fun _ _ _ _ => trivial), hN.warm hW⟩, hZ.1.down hS hF hU hW, hZ.2.down hS hF hU hW⟩⟩ rfl hn hsize hst (lv_room hW) hdg hf) hS (fun q _ h => hF q h) hF (fun r u t H1 locs1 ht hvm hw hB hz1 hk1 hS1 => ?_)
  obtain ⟨z, rfl, hw⟩ := hw
  obtain ⟨hP1, hK1, hD1⟩ := hB
  rw [ht] at hP1
  have hj := la_join hP hD hk1 hF hP1 hD1
  exact kk z u H1 locs1 hw hj.1 hj.2 hS1
/-- a constructor -/
theorem la_new {y : MethodName} {bytes : ByteArray} {maxL n index fr lo : Nat} {wsy : List Cond} {b : Addr} {st0 : List Value} {P : va_W → Prop} {Pre : State → Prop} (As : List Value)
    (F : CallFix p m c cc nL s args Ts own) (hC : Met l y wsy { frames := fr, cells := mc, slots := ms, locals := lo } (va_Pc (.ref b :: As) (fun U => cB D tys X H.size U ∧ Pre U)) (va_Qv P (cE D tys (fun x => x) (va_A X H.size)) (va_A X H.size)) mc ms (va_A X H.size))
    (hb1 : FrameBlind (va_Pc (.ref b :: As) (fun U => cB D tys X H.size U ∧ Pre U))) (hb2 : ∀ U : State, U.heap = H → s.WarmedH U.vm → Pre U)
    (cw : CallB R s args own index y bytes maxL none wsy { frames := fr, cells := mc, slots := ms, locals := lo } mc ms n ∧ y.name = "<init>" ∧ (Cond.instanceMethod y).before args s = true)
    (hK : va_K D vwCl tys s) (hP : va_P D vwCl (X ++ Y) H) (hD : va_D A (X ++ Y)) (hS : va_S A s.heap H locs) (hA : ∀ q, s.heap.size ≤ q → A q) (hN : NW s)
    (hn : As.length = n) (hsize : ls.size = nL) (hst : st0 = As.reverse ++ .ref b :: rest) (hW : (rest.map fun v => v.category).sum ≤ 8) (hdg : decode cc pc = .ok (.invokespecial index, 3)) (hf : cells + mc ≤ R.cells ∧ slots + ms ≤ R.slots)
    (kk : ∀ (X1 : va_W) (H1 : Heap) (locs1 : List Loc), P X1 → va_P D vwCl (X1 ++ Y) H1 → va_D A (X1 ++ Y) → va_S A s.heap H1 locs1 → W p l e R s m args below meth c H1 locs1 (cells + mc) (slots + ms) Q (F0 m (pc + 3) ls rest)) :
    W p l e R s m args below meth c H locs cells slots Q (F0 m pc ls st0) := by
  have hF := la_free hD hS hA
  refine va_callv (va_runI (g := F0 m pc ls st0) (As := As) (rest := rest) F hC cw ⟨hb1, fun U hU hW => ⟨rfl, ⟨by rw [hU], by rw [hU]; exact la_PL hP, va_K.moved hW.alike hK, (la_DL hD).weaken (fun _ _ _ _ => trivial), hN.warm hW⟩, hb2 U hU hW⟩⟩ rfl hn hsize hst (lv_room hW) hdg hf) hS (fun q _ h => hF q h) hF (fun u t H1 locs1 ht hvm hw hB hz1 hk1 hS1 => ?_)
  obtain ⟨hP1, hK1, hD1⟩ := hB
  rw [ht] at hP1
  have hj := la_join hP hD hk1 hF hP1 hD1
  exact kk u H1 locs1 hw hj.1 hj.2 hS1
/-- a constructor that asks nothing more -/
theorem la_newM {y : MethodName} {bytes : ByteArray} {maxL n index fr lo : Nat} {wsy : List Cond} {b : Addr} {st0 : List Value} {P : va_W → Prop} (As : List Value)
    (F : CallFix p m c cc nL s args Ts own) (hC : Met l y wsy { frames := fr, cells := mc, slots := ms, locals := lo } (va_Pc (.ref b :: As) (cB D tys X H.size)) (va_Qv P (cE D tys (fun x => x) (va_A X H.size)) (va_A X H.size)) mc ms (va_A X H.size))
    (hb1 : FrameBlind (va_Pc (.ref b :: As) (cB D tys X H.size)))
    (cw : CallB R s args own index y bytes maxL none wsy { frames := fr, cells := mc, slots := ms, locals := lo } mc ms n ∧ y.name = "<init>" ∧ (Cond.instanceMethod y).before args s = true)
    (hK : va_K D vwCl tys s) (hP : va_P D vwCl (X ++ Y) H) (hD : va_D A (X ++ Y)) (hS : va_S A s.heap H locs) (hA : ∀ q, s.heap.size ≤ q → A q) (hN : NW s)
    (hn : As.length = n) (hsize : ls.size = nL) (hst : st0 = As.reverse ++ .ref b :: rest) (hW : (rest.map fun v => v.category).sum ≤ 8) (hdg : decode cc pc = .ok (.invokespecial index, 3)) (hf : cells + mc ≤ R.cells ∧ slots + ms ≤ R.slots)
    (kk : ∀ (X1 : va_W) (H1 : Heap) (locs1 : List Loc), P X1 → va_P D vwCl (X1 ++ Y) H1 → va_D A (X1 ++ Y) → va_S A s.heap H1 locs1 → W p l e R s m args below meth c H1 locs1 (cells + mc) (slots + ms) Q (F0 m (pc + 3) ls rest)) :
    W p l e R s m args below meth c H locs cells slots Q (F0 m pc ls st0) := by
  have hF := la_free hD hS hA
  refine va_callv (va_runI (g := F0 m pc ls st0) (As := As) (rest := rest) F hC cw ⟨hb1, fun U hU hW => ⟨rfl, by rw [hU], by rw [hU]; exact la_PL hP, va_K.moved hW.alike hK, (la_DL hD).weaken (fun _ _ _ _ => trivial), hN.warm hW⟩⟩ rfl hn hsize hst (lv_room hW) hdg hf) hS (fun q _ h => hF q h) hF (fun u t H1 locs1 ht hvm hw hB hz1 hk1 hS1 => ?_)
  obtain ⟨hP1, hK1, hD1⟩ := hB
  rw [ht] at hP1
  have hj := la_join hP hD hk1 hF hP1 hD1
  exact kk u H1 locs1 hw hj.1 hj.2 hS1
/-- an int of the script -/
theorem la_ld (hx : p.tables.exec = Jvm.exec) (hb : c.code = cc) {b L : Nat} {xs : Nat → Int32} (hX : va_X b L xs s s.heap) (hbl : b < s.heap.size) (hbA : ¬ A b) (hS : va_S A s.heap H locs) (hL : L ≤ 2048) {i z : Int} (h0 : 0 ≤ i) (h1 : i < (L : Int)) (hz : z = (xs i.toNat).toInt) (hdg : decode cc pc = .ok (.iaload, 1))
    (kk : W p l e R s m args below meth c H locs cells slots Q (F0 m (pc + 1) ls (.int (iI z) :: rest))) : W p l e R s m args below meth c H locs cells slots Q (F0 m pc ls (.int (iI i) :: .ref b :: rest)) :=
  va_sld hx hb hX hbl hbA hS (vp_iI h0 h1 (by omega)) hdg (by
    rw [iI_clamp h0 (by omega)]
    rw [hz, iI_self] at kk
    exact kk)
end LAC
/-! the start: the tables' words, the three static arrays -/
theorem la_arrT {s : State} {cA comp : ClassId} {k : Class} {ty : FieldType} (hk : s.vm.classes[cA]? = some k) (hkind : k.kind = .array comp ty) : ArrOfT s cA ty := fun n z => ⟨fun q hq => (by cases hq), k, hk, comp, hkind⟩
theorem la_NW {s : State} {args : Array Value} (hts : ∀ w ∈ lw_tbl, w.before args s = true) : NW s :=
  ⟨va_Nw.of rfl (hts _ (show Cond.methodLinkNest RX5 21 yX6_within RX6 ∈ lw_tbl from List.mem_of_getElem? (i := 229) (by decide +kernel))),
    va_Nw.of rfl (hts _ (show Cond.methodLinkNest RX4 77 yX6_within RX6 ∈ lw_tbl from List.mem_of_getElem? (i := 257) (by decide +kernel))),
    va_Nw.of rfl (hts _ (show Cond.methodLinkNest RX3 18 yX6_within RX6 ∈ lw_tbl from List.mem_of_getElem? (i := 398) (by decide +kernel))),
    va_Nw.of rfl (hts _ (show Cond.methodLinkNest RX2 37 yX6_within RX6 ∈ lw_tbl from List.mem_of_getElem? (i := 290) (by decide +kernel))),
    va_Nw.of rfl (hts _ (show Cond.methodLinkNest RX1 19 yX6_within RX6 ∈ lw_tbl from List.mem_of_getElem? (i := 302) (by decide +kernel))),
    va_Nw.of rfl (hts _ (show Cond.fieldLinkNest RX6 51 RX4 "time" "I" RX6 ∈ lw_tbl from List.mem_of_getElem? (i := 158) (by decide +kernel))),
    va_Nw.of rfl (hts _ (show Cond.fieldLinkNest RX6 69 RX4 "servers" "LMoreHands$Servers;" RX6 ∈ lw_tbl from List.mem_of_getElem? (i := 153) (by decide +kernel))),
    va_Nw.of rfl (hts _ (show Cond.fieldLinkNest RX4 142 RX1 "reading" "I" RX6 ∈ lw_tbl from List.mem_of_getElem? (i := 125) (by decide +kernel))),
    va_Nw.of rfl (hts _ (show Cond.fieldLinkNest RX4 155 RX2 "returning" "I" RX6 ∈ lw_tbl from List.mem_of_getElem? (i := 99) (by decide +kernel))),
    va_Nw.of rfl (hts _ (show Cond.fieldLinkNest RX4 88 RX2 "waiting" "I" RX6 ∈ lw_tbl from List.mem_of_getElem? (i := 97) (by decide +kernel)))⟩
theorem la_cells {s : State} {args : Array Value} (hts : ∀ w ∈ lw_tbl, w.before args s = true) : va_AOA .int s ∧ ∃ cI cZ cII : ClassId, ∀ (k : Nat) (q : ClassId × FieldType), (ty3 cI cZ cII)[k]? = some q → ArrOfT s q.1 q.2 ∧ va_RA s q.1 q.2 := by
  have hI : (Cond.arrayClass .int).before args s = true := (hts _ (show Cond.arrayClass .int ∈ lw_tbl from List.mem_of_getElem? (i := 63) (by decide +kernel)))
  have hZ : (Cond.arrayClass .boolean).before args s = true := (hts _ (show Cond.arrayClass .boolean ∈ lw_tbl from List.mem_of_getElem? (i := 83) (by decide +kernel)))
  have hII : (Cond.arrayOver (.array .int)).before args s = true := (hts _ (show Cond.arrayOver (.array .int) ∈ lw_tbl from List.mem_of_getElem? (i := 132) (by decide +kernel)))
  refine ⟨va_AOA.of hII, ?_⟩
  obtain ⟨cI, kI, mI, a1, a2, a3⟩ := Cond.arrayClass_spec hI
  obtain ⟨cZ, kZ, mZ, b1, b2, b3⟩ := Cond.arrayClass_spec hZ
  obtain ⟨mII, cII, kII, -, -, d2, d3, d1⟩ := arrayOverA_spec hII
  refine ⟨cI, cZ, cII, ?_⟩
  intro k q hq
  match k, hq with
  | 0, hq => cases hq; exact ⟨la_arrT a2 a3, a1⟩
  | 1, hq => cases hq; exact ⟨la_arrT b2 b3, b1⟩
  | 2, hq => cases hq; exact ⟨la_arrT d2 d3, d1⟩
  | k + 3, hq => simp at hq
theorem la_el_FIRST {s : State} {args : Array Value} (h : (Jvm.Cond.and given_1 narrow_1).before args s = true) (j : Nat) (hj : j < 19) : (Term.elem (Term.static "MoreHands$Terms" "FIRST" "[I") (.int (Int32.ofNat j))).eval args s none [] s = some (.int (ia seI j)) := by
  have hs := flat_of_before _ h
  exact match j, hj with
  | 0, _ => (va_eqt (hs (Cond.eq (.elem (Term.static "MoreHands$Terms" "FIRST" "[I") (.int 0)) (.int 1)) (by decide +kernel))).trans (congrArg (fun x => some (Value.int x)) (by decide +kernel : (1 : Int32) = ia seI 0))
  | 1, _ => (va_eqt (hs (Cond.eq (.elem (Term.static "MoreHands$Terms" "FIRST" "[I") (.int 1)) (.int 1)) (by decide +kernel))).trans (congrArg (fun x => some (Value.int x)) (by decide +kernel : (1 : Int32) = ia seI 1))
  | 2, _ => (va_eqt (hs (Cond.eq (.elem (Term.static "MoreHands$Terms" "FIRST" "[I") (.int 2)) (.int 5)) (by decide +kernel))).trans (congrArg (fun x => some (Value.int x)) (by decide +kernel : (5 : Int32) = ia seI 2))
  | 3, _ => (va_eqt (hs (Cond.eq (.elem (Term.static "MoreHands$Terms" "FIRST" "[I") (.int 3)) (.int 3)) (by decide +kernel))).trans (congrArg (fun x => some (Value.int x)) (by decide +kernel : (3 : Int32) = ia seI 3))
  | 4, _ => (va_eqt (hs (Cond.eq (.elem (Term.static "MoreHands$Terms" "FIRST" "[I") (.int 4)) (.int 1)) (by decide +kernel))).trans (congrArg (fun x => some (Value.int x)) (by decide +kernel : (1 : Int32) = ia seI 4))
  | 5, _ => (va_eqt (hs (Cond.eq (.elem (Term.static "MoreHands$Terms" "FIRST" "[I") (.int 5)) (.int 0)) (by decide +kernel))).trans (congrArg (fun x => some (Value.int x)) (by decide +kernel : (0 : Int32) = ia seI 5))
  | 6, _ => (va_eqt (hs (Cond.eq (.elem (Term.static "MoreHands$Terms" "FIRST" "[I") (.int 6)) (.int 1)) (by decide +kernel))).trans (congrArg (fun x => some (Value.int x)) (by decide +kernel : (1 : Int32) = ia seI 6))
  | 7, _ => (va_eqt (hs (Cond.eq (.elem (Term.static "MoreHands$Terms" "FIRST" "[I") (.int 7)) (.int 1)) (by decide +kernel))).trans (congrArg (fun x => some (Value.int x)) (by decide +kernel : (1 : Int32) = ia seI 7))
  | 8, _ => (va_eqt (hs (Cond.eq (.elem (Term.static "MoreHands$Terms" "FIRST" "[I") (.int 8)) (.int 12)) (by decide +kernel))).trans (congrArg (fun x => some (Value.int x)) (by decide +kernel : (12 : Int32) = ia seI 8))
  | 9, _ => (va_eqt (hs (Cond.eq (.elem (Term.static "MoreHands$Terms" "FIRST" "[I") (.int 9)) (.int 0)) (by decide +kernel))).trans (congrArg (fun x => some (Value.int x)) (by decide +kernel : (0 : Int32) = ia seI 9))
  | 10, _ => (va_eqt (hs (Cond.eq (.elem (Term.static "MoreHands$Terms" "FIRST" "[I") (.int 10)) (.int 1)) (by decide +kernel))).trans (congrArg (fun x => some (Value.int x)) (by decide +kernel : (1 : Int32) = ia seI 10))
  | 11, _ => (va_eqt (hs (Cond.eq (.elem (Term.static "MoreHands$Terms" "FIRST" "[I") (.int 11)) (.int 5)) (by decide +kernel))).trans (congrArg (fun x => some (Value.int x)) (by decide +kernel : (5 : Int32) = ia seI 11))
  | 12, _ => (va_eqt (hs (Cond.eq (.elem (Term.static "MoreHands$Terms" "FIRST" "[I") (.int 12)) (.int 10)) (by decide +kernel))).trans (congrArg (fun x => some (Value.int x)) (by decide +kernel : (10 : Int32) = ia seI 12))
  | 13, _ => (va_eqt (hs (Cond.eq (.elem (Term.static "MoreHands$Terms" "FIRST" "[I") (.int 13)) (.int 2)) (by decide +kernel))).trans (congrArg (fun x => some (Value.int x)) (by decide +kernel : (2 : Int32) = ia seI 13))
  | 14, _ => (va_eqt (hs (Cond.eq (.elem (Term.static "MoreHands$Terms" "FIRST" "[I") (.int 14)) (.int 1)) (by decide +kernel))).trans (congrArg (fun x => some (Value.int x)) (by decide +kernel : (1 : Int32) = ia seI 14))
  | 15, _ => (va_eqt (hs (Cond.eq (.elem (Term.static "MoreHands$Terms" "FIRST" "[I") (.int 15)) (.int 1)) (by decide +kernel))).trans (congrArg (fun x => some (Value.int x)) (by decide +kernel : (1 : Int32) = ia seI 15))
  | 16, _ => (va_eqt (hs (Cond.eq (.elem (Term.static "MoreHands$Terms" "FIRST" "[I") (.int 16)) (.int 10)) (by decide +kernel))).trans (congrArg (fun x => some (Value.int x)) (by decide +kernel : (10 : Int32) = ia seI 16))
  | 17, _ => (va_eqt (hs (Cond.eq (.elem (Term.static "MoreHands$Terms" "FIRST" "[I") (.int 17)) (.int 4)) (by decide +kernel))).trans (congrArg (fun x => some (Value.int x)) (by decide +kernel : (4 : Int32) = ia seI 17))
  | 18, _ => (va_eqt (hs (Cond.eq (.elem (Term.static "MoreHands$Terms" "FIRST" "[I") (.int 18)) (.int 50)) (by decide +kernel))).trans (congrArg (fun x => some (Value.int x)) (by decide +kernel : (50 : Int32) = ia seI 18))
  | n + 19, q => absurd q (by omega)
theorem la_Z_FIRST {s : State} {args : Array Value} (hts : ∀ w ∈ lw_tbl, w.before args s = true) (h : (Jvm.Cond.and given_1 narrow_1).before args s = true) {A : Nat → Prop} (hA : ∀ a : Nat, a < s.heap.size → ¬ A a) : ∃ a : Nat, ZsT "FIRST" a seI A s := by
  have hs := flat_of_before _ h
  obtain ⟨t, ht, hT⟩ := va_Tof (tm := (Term.static "MoreHands$Terms" "FIRST" "[I")) (ty := .int) (N := 19) (f := fun j => .int (ia seI j)) (A := A) (by decide) (hs (Cond.arrayOf (Term.static "MoreHands$Terms" "FIRST" "[I") .int) (by decide +kernel)) (va_eqt (hs (Cond.eq (.length (Term.static "MoreHands$Terms" "FIRST" "[I")) (.int 19)) (by decide +kernel))) (la_el_FIRST h) hA
  exact ⟨t, va_Zof (hts _ (show Cond.laysStatic "MoreHands$Terms" "FIRST" "[I" ∈ lw_tbl from List.mem_of_getElem? (i := 55) (by decide +kernel))) (hts _ (show Cond.initialized "MoreHands$Terms" ∈ lw_tbl from List.mem_of_getElem? (i := 32) (by decide +kernel))) ht hA, hT⟩
theorem la_el_LOWEST {s : State} {args : Array Value} (h : (Jvm.Cond.and given_1 narrow_1).before args s = true) (j : Nat) (hj : j < 19) : (Term.elem (Term.static "MoreHands$Terms" "LOWEST" "[I") (.int (Int32.ofNat j))).eval args s none [] s = some (.int (ia loF j)) := by
  have hs := flat_of_before _ h
  exact match j, hj with
  | 0, _ => (va_eqt (hs (Cond.eq (.elem (Term.static "MoreHands$Terms" "LOWEST" "[I") (.int 0)) (.int 0)) (by decide +kernel))).trans (congrArg (fun x => some (Value.int x)) (by decide +kernel : (0 : Int32) = ia loF 0))
  | 1, _ => (va_eqt (hs (Cond.eq (.elem (Term.static "MoreHands$Terms" "LOWEST" "[I") (.int 1)) (.int 0)) (by decide +kernel))).trans (congrArg (fun x => some (Value.int x)) (by decide +kernel : (0 : Int32) = ia loF 1))
  | 2, _ => (va_eqt (hs (Cond.eq (.elem (Term.static "MoreHands$Terms" "LOWEST" "[I") (.int 2)) (.int 1)) (by decide +kernel))).trans (congrArg (fun x => some (Value.int x)) (by decide +kernel : (1 : Int32) = ia loF 2))
  | 3, _ => (va_eqt (hs (Cond.eq (.elem (Term.static "MoreHands$Terms" "LOWEST" "[I") (.int 3)) (.int 1)) (by decide +kernel))).trans (congrArg (fun x => some (Value.int x)) (by decide +kernel : (1 : Int32) = ia loF 3))
  | 4, _ => (va_eqt (hs (Cond.eq (.elem (Term.static "MoreHands$Terms" "LOWEST" "[I") (.int 4)) (.int 1)) (by decide +kernel))).trans (congrArg (fun x => some (Value.int x)) (by decide +kernel : (1 : Int32) = ia loF 4))
  | 5, _ => (va_eqt (hs (Cond.eq (.elem (Term.static "MoreHands$Terms" "LOWEST" "[I") (.int 5)) (.int 0)) (by decide +kernel))).trans (congrArg (fun x => some (Value.int x)) (by decide +kernel : (0 : Int32) = ia loF 5))
  | 6, _ => (va_eqt (hs (Cond.eq (.elem (Term.static "MoreHands$Terms" "LOWEST" "[I") (.int 6)) (.int 1)) (by decide +kernel))).trans (congrArg (fun x => some (Value.int x)) (by decide +kernel : (1 : Int32) = ia loF 6))
  | 7, _ => (va_eqt (hs (Cond.eq (.elem (Term.static "MoreHands$Terms" "LOWEST" "[I") (.int 7)) (.int 0)) (by decide +kernel))).trans (congrArg (fun x => some (Value.int x)) (by decide +kernel : (0 : Int32) = ia loF 7))
  | 8, _ => (va_eqt (hs (Cond.eq (.elem (Term.static "MoreHands$Terms" "LOWEST" "[I") (.int 8)) (.int 0)) (by decide +kernel))).trans (congrArg (fun x => some (Value.int x)) (by decide +kernel : (0 : Int32) = ia loF 8))
  | 9, _ => (va_eqt (hs (Cond.eq (.elem (Term.static "MoreHands$Terms" "LOWEST" "[I") (.int 9)) (.int 0)) (by decide +kernel))).trans (congrArg (fun x => some (Value.int x)) (by decide +kernel : (0 : Int32) = ia loF 9))
  | 10, _ => (va_eqt (hs (Cond.eq (.elem (Term.static "MoreHands$Terms" "LOWEST" "[I") (.int 10)) (.int 0)) (by decide +kernel))).trans (congrArg (fun x => some (Value.int x)) (by decide +kernel : (0 : Int32) = ia loF 10))
  | 11, _ => (va_eqt (hs (Cond.eq (.elem (Term.static "MoreHands$Terms" "LOWEST" "[I") (.int 11)) (.int 1)) (by decide +kernel))).trans (congrArg (fun x => some (Value.int x)) (by decide +kernel : (1 : Int32) = ia loF 11))
  | 12, _ => (va_eqt (hs (Cond.eq (.elem (Term.static "MoreHands$Terms" "LOWEST" "[I") (.int 12)) (.int 0)) (by decide +kernel))).trans (congrArg (fun x => some (Value.int x)) (by decide +kernel : (0 : Int32) = ia loF 12))
  | 13, _ => (va_eqt (hs (Cond.eq (.elem (Term.static "MoreHands$Terms" "LOWEST" "[I") (.int 13)) (.int 0)) (by decide +kernel))).trans (congrArg (fun x => some (Value.int x)) (by decide +kernel : (0 : Int32) = ia loF 13))
  | 14, _ => (va_eqt (hs (Cond.eq (.elem (Term.static "MoreHands$Terms" "LOWEST" "[I") (.int 14)) (.int 1)) (by decide +kernel))).trans (congrArg (fun x => some (Value.int x)) (by decide +kernel : (1 : Int32) = ia loF 14))
  | 15, _ => (va_eqt (hs (Cond.eq (.elem (Term.static "MoreHands$Terms" "LOWEST" "[I") (.int 15)) (.int 1)) (by decide +kernel))).trans (congrArg (fun x => some (Value.int x)) (by decide +kernel : (1 : Int32) = ia loF 15))
  | 16, _ => (va_eqt (hs (Cond.eq (.elem (Term.static "MoreHands$Terms" "LOWEST" "[I") (.int 16)) (.int 0)) (by decide +kernel))).trans (congrArg (fun x => some (Value.int x)) (by decide +kernel : (0 : Int32) = ia loF 16))
  | 17, _ => (va_eqt (hs (Cond.eq (.elem (Term.static "MoreHands$Terms" "LOWEST" "[I") (.int 17)) (.int 0)) (by decide +kernel))).trans (congrArg (fun x => some (Value.int x)) (by decide +kernel : (0 : Int32) = ia loF 17))
  | 18, _ => (va_eqt (hs (Cond.eq (.elem (Term.static "MoreHands$Terms" "LOWEST" "[I") (.int 18)) (.int 0)) (by decide +kernel))).trans (congrArg (fun x => some (Value.int x)) (by decide +kernel : (0 : Int32) = ia loF 18))
  | n + 19, q => absurd q (by omega)
theorem la_Z_LOWEST {s : State} {args : Array Value} (hts : ∀ w ∈ lw_tbl, w.before args s = true) (h : (Jvm.Cond.and given_1 narrow_1).before args s = true) {A : Nat → Prop} (hA : ∀ a : Nat, a < s.heap.size → ¬ A a) : ∃ a : Nat, ZsT "LOWEST" a loF A s := by
  have hs := flat_of_before _ h
  obtain ⟨t, ht, hT⟩ := va_Tof (tm := (Term.static "MoreHands$Terms" "LOWEST" "[I")) (ty := .int) (N := 19) (f := fun j => .int (ia loF j)) (A := A) (by decide) (hs (Cond.arrayOf (Term.static "MoreHands$Terms" "LOWEST" "[I") .int) (by decide +kernel)) (va_eqt (hs (Cond.eq (.length (Term.static "MoreHands$Terms" "LOWEST" "[I")) (.int 19)) (by decide +kernel))) (la_el_LOWEST h) hA
  exact ⟨t, va_Zof (hts _ (show Cond.laysStatic "MoreHands$Terms" "LOWEST" "[I" ∈ lw_tbl from List.mem_of_getElem? (i := 233) (by decide +kernel))) (hts _ (show Cond.initialized "MoreHands$Terms" ∈ lw_tbl from List.mem_of_getElem? (i := 32) (by decide +kernel))) ht hA, hT⟩
theorem la_el_HIGHEST {s : State} {args : Array Value} (h : (Jvm.Cond.and given_1 narrow_1).before args s = true) (j : Nat) (hj : j < 19) : (Term.elem (Term.static "MoreHands$Terms" "HIGHEST" "[I") (.int (Int32.ofNat j))).eval args s none [] s = some (.int (ia hiF j)) := by
  have hs := flat_of_before _ h
  exact match j, hj with
  | 0, _ => (va_eqt (hs (Cond.eq (.elem (Term.static "MoreHands$Terms" "HIGHEST" "[I") (.int 0)) (.int 5)) (by decide +kernel))).trans (congrArg (fun x => some (Value.int x)) (by decide +kernel : (5 : Int32) = ia hiF 0))
  | 1, _ => (va_eqt (hs (Cond.eq (.elem (Term.static "MoreHands$Terms" "HIGHEST" "[I") (.int 1)) (.int 5)) (by decide +kernel))).trans (congrArg (fun x => some (Value.int x)) (by decide +kernel : (5 : Int32) = ia hiF 1))
  | 2, _ => (va_eqt (hs (Cond.eq (.elem (Term.static "MoreHands$Terms" "HIGHEST" "[I") (.int 2)) (.int 20)) (by decide +kernel))).trans (congrArg (fun x => some (Value.int x)) (by decide +kernel : (20 : Int32) = ia hiF 2))
  | 3, _ => (va_eqt (hs (Cond.eq (.elem (Term.static "MoreHands$Terms" "HIGHEST" "[I") (.int 3)) (.int 10)) (by decide +kernel))).trans (congrArg (fun x => some (Value.int x)) (by decide +kernel : (10 : Int32) = ia hiF 3))
  | 4, _ => (va_eqt (hs (Cond.eq (.elem (Term.static "MoreHands$Terms" "HIGHEST" "[I") (.int 4)) (.int 4)) (by decide +kernel))).trans (congrArg (fun x => some (Value.int x)) (by decide +kernel : (4 : Int32) = ia hiF 4))
  | 5, _ => (va_eqt (hs (Cond.eq (.elem (Term.static "MoreHands$Terms" "HIGHEST" "[I") (.int 5)) (.int 5)) (by decide +kernel))).trans (congrArg (fun x => some (Value.int x)) (by decide +kernel : (5 : Int32) = ia hiF 5))
  | 6, _ => (va_eqt (hs (Cond.eq (.elem (Term.static "MoreHands$Terms" "HIGHEST" "[I") (.int 6)) (.int 5)) (by decide +kernel))).trans (congrArg (fun x => some (Value.int x)) (by decide +kernel : (5 : Int32) = ia hiF 6))
  | 7, _ => (va_eqt (hs (Cond.eq (.elem (Term.static "MoreHands$Terms" "HIGHEST" "[I") (.int 7)) (.int 12)) (by decide +kernel))).trans (congrArg (fun x => some (Value.int x)) (by decide +kernel : (12 : Int32) = ia hiF 7))
  | 8, _ => (va_eqt (hs (Cond.eq (.elem (Term.static "MoreHands$Terms" "HIGHEST" "[I") (.int 8)) (.int 12)) (by decide +kernel))).trans (congrArg (fun x => some (Value.int x)) (by decide +kernel : (12 : Int32) = ia hiF 8))
  | 9, _ => (va_eqt (hs (Cond.eq (.elem (Term.static "MoreHands$Terms" "HIGHEST" "[I") (.int 9)) (.int 10)) (by decide +kernel))).trans (congrArg (fun x => some (Value.int x)) (by decide +kernel : (10 : Int32) = ia hiF 9))
  | 10, _ => (va_eqt (hs (Cond.eq (.elem (Term.static "MoreHands$Terms" "HIGHEST" "[I") (.int 10)) (.int 2)) (by decide +kernel))).trans (congrArg (fun x => some (Value.int x)) (by decide +kernel : (2 : Int32) = ia hiF 10))
  | 11, _ => (va_eqt (hs (Cond.eq (.elem (Term.static "MoreHands$Terms" "HIGHEST" "[I") (.int 11)) (.int 60)) (by decide +kernel))).trans (congrArg (fun x => some (Value.int x)) (by decide +kernel : (60 : Int32) = ia hiF 11))
  | 12, _ => (va_eqt (hs (Cond.eq (.elem (Term.static "MoreHands$Terms" "HIGHEST" "[I") (.int 12)) (.int 400)) (by decide +kernel))).trans (congrArg (fun x => some (Value.int x)) (by decide +kernel : (400 : Int32) = ia hiF 12))
  | 13, _ => (va_eqt (hs (Cond.eq (.elem (Term.static "MoreHands$Terms" "HIGHEST" "[I") (.int 13)) (.int 400)) (by decide +kernel))).trans (congrArg (fun x => some (Value.int x)) (by decide +kernel : (400 : Int32) = ia hiF 13))
  | 14, _ => (va_eqt (hs (Cond.eq (.elem (Term.static "MoreHands$Terms" "HIGHEST" "[I") (.int 14)) (.int 6)) (by decide +kernel))).trans (congrArg (fun x => some (Value.int x)) (by decide +kernel : (6 : Int32) = ia hiF 14))
  | 15, _ => (va_eqt (hs (Cond.eq (.elem (Term.static "MoreHands$Terms" "HIGHEST" "[I") (.int 15)) (.int 6)) (by decide +kernel))).trans (congrArg (fun x => some (Value.int x)) (by decide +kernel : (6 : Int32) = ia hiF 15))
  | 16, _ => (va_eqt (hs (Cond.eq (.elem (Term.static "MoreHands$Terms" "HIGHEST" "[I") (.int 16)) (.int 100)) (by decide +kernel))).trans (congrArg (fun x => some (Value.int x)) (by decide +kernel : (100 : Int32) = ia hiF 16))
  | 17, _ => (va_eqt (hs (Cond.eq (.elem (Term.static "MoreHands$Terms" "HIGHEST" "[I") (.int 17)) (.int 100)) (by decide +kernel))).trans (congrArg (fun x => some (Value.int x)) (by decide +kernel : (100 : Int32) = ia hiF 17))
  | 18, _ => (va_eqt (hs (Cond.eq (.elem (Term.static "MoreHands$Terms" "HIGHEST" "[I") (.int 18)) (.int 1000)) (by decide +kernel))).trans (congrArg (fun x => some (Value.int x)) (by decide +kernel : (1000 : Int32) = ia hiF 18))
  | n + 19, q => absurd q (by omega)
theorem la_Z_HIGHEST {s : State} {args : Array Value} (hts : ∀ w ∈ lw_tbl, w.before args s = true) (h : (Jvm.Cond.and given_1 narrow_1).before args s = true) {A : Nat → Prop} (hA : ∀ a : Nat, a < s.heap.size → ¬ A a) : ∃ a : Nat, ZsT "HIGHEST" a hiF A s := by
  have hs := flat_of_before _ h
  obtain ⟨t, ht, hT⟩ := va_Tof (tm := (Term.static "MoreHands$Terms" "HIGHEST" "[I")) (ty := .int) (N := 19) (f := fun j => .int (ia hiF j)) (A := A) (by decide) (hs (Cond.arrayOf (Term.static "MoreHands$Terms" "HIGHEST" "[I") .int) (by decide +kernel)) (va_eqt (hs (Cond.eq (.length (Term.static "MoreHands$Terms" "HIGHEST" "[I")) (.int 19)) (by decide +kernel))) (la_el_HIGHEST h) hA
  exact ⟨t, va_Zof (hts _ (show Cond.laysStatic "MoreHands$Terms" "HIGHEST" "[I" ∈ lw_tbl from List.mem_of_getElem? (i := 235) (by decide +kernel))) (hts _ (show Cond.initialized "MoreHands$Terms" ∈ lw_tbl from List.mem_of_getElem? (i := 32) (by decide +kernel))) ht hA, hT⟩
theorem la_K {s : State} {args : Array Value} (hts : ∀ w ∈ lw_tbl, w.before args s = true) : ∃ (D : va_G) (cI cZ cII : ClassId), va_K D vwCl (ty3 cI cZ cII) s := by
  obtain ⟨c0, i0, k0⟩ := u_known (C := RX0) (T := TX0) (N := 2) (n := 2) hts inX0 (hts _ (show Cond.instantiable RX0 2 ∈ lw_tbl from List.mem_of_getElem? (i := 195) (by decide +kernel)))
  obtain ⟨c1, i1, k1⟩ := u_known (C := RX1) (T := TX1) (N := 2) (n := 2) hts inX1 (hts _ (show Cond.instantiable RX1 2 ∈ lw_tbl from List.mem_of_getElem? (i := 118) (by decide +kernel)))
  obtain ⟨c2, i2, k2⟩ := u_known (C := RX2) (T := TX2) (N := 8) (n := 8) hts inX2 (hts _ (show Cond.instantiable RX2 8 ∈ lw_tbl from List.mem_of_getElem? (i := 85) (by decide +kernel)))
  obtain ⟨c3, i3, k3⟩ := u_known (C := RX3) (T := TX3) (N := 2) (n := 2) hts inX3 (hts _ (show Cond.instantiable RX3 2 ∈ lw_tbl from List.mem_of_getElem? (i := 71) (by decide +kernel)))
  obtain ⟨c4, i4, k4⟩ := u_known (C := RX4) (T := TX4) (N := 14) (n := 14) hts inX4 (hts _ (show Cond.instantiable RX4 14 ∈ lw_tbl from List.mem_of_getElem? (i := 65) (by decide +kernel)))
  obtain ⟨c5, i5, k5⟩ := u_known (C := RX5) (T := TX5) (N := 2) (n := 2) hts inX5 (hts _ (show Cond.instantiable RX5 2 ∈ lw_tbl from List.mem_of_getElem? (i := 49) (by decide +kernel)))
  obtain ⟨c6, i6, k6⟩ := u_known (C := RX6) (T := TX6) (N := 4) (n := 4) hts inX6 (hts _ (show Cond.instantiable RX6 4 ∈ lw_tbl from List.mem_of_getElem? (i := 41) (by decide +kernel)))
  obtain ⟨c7, i7, k7⟩ := u_known (C := RX7) (T := TX7) (N := 22) (n := 22) hts inX7 (hts _ (show Cond.instantiable RX7 22 ∈ lw_tbl from List.mem_of_getElem? (i := 502) (by decide +kernel)))
  obtain ⟨-, cI, cZ, cII, hc⟩ := la_cells hts
  refine ⟨(fun k => if k = 0 then c0 else if k = 1 then c1 else if k = 2 then c2 else if k = 3 then c3 else if k = 4 then c4 else if k = 5 then c5 else if k = 6 then c6 else c7, fun k => if k = 0 then i0 else if k = 1 then i1 else if k = 2 then i2 else if k = 3 then i3 else if k = 4 then i4 else if k = 5 then i5 else if k = 6 then i6 else i7), cI, cZ, cII, ?_, hc⟩
  intro k q hq
  match k, hq with
  | 0, hq => cases hq; exact k0
  | 1, hq => cases hq; exact k1
  | 2, hq => cases hq; exact k2
  | 3, hq => cases hq; exact k3
  | 4, hq => cases hq; exact k4
  | 5, hq => cases hq; exact k5
  | 6, hq => cases hq; exact k6
  | 7, hq => cases hq; exact k7
  | k + 8, hq => simp [vwCl] at hq

/-- what a method's walk comes to -/
def QI {S : Type} (below : List Frame) (args : Array Value) (s : State) (D : va_G) (tys : List (ClassId × FieldType)) (post : Int → S → Prop) (w1 : S → va_W) (A : Nat → Prop) : State → Prop := MQ below (va_Qi (fun r u => ∃ z : Int, r = iI z ∧ post z u) (cE D tys w1 A) A) args s 0 0 A
def QV {S : Type} (below : List Frame) (args : Array Value) (s : State) (D : va_G) (tys : List (ClassId × FieldType)) (post : S → Prop) (w1 : S → va_W) (A : Nat → Prop) : State → Prop := MQ below (va_Qv post (cE D tys w1 A) A) args s 0 0 A
theorem CtI.mk {S : Type} {l : Launch} {y : MethodName} {ws ws' : List Cond} {fr lo : Nat} {D : va_G} {tys : List (ClassId × FieldType)} {av : List Value} {w : va_W} {post : Int → S → Prop} {w1 : S → va_W} {cc : ByteArray} {maxL : Nat} {ret : Option FieldType}
    (hy : plainName y.cls = true) (hw : ws = Cond.code y cc maxL ret :: ws') (hlen : (lg_sl av).length ≤ maxL)
    (body : ∀ (p : Program) (e : Env) (s : State) (m : MethodId) (below : List Frame) (meth : Method) (c : Code) (A : Nat → Prop) (ls : Array Slot) (R : Room) (args : Array Value) (Q : State → Prop),
      p.tables.exec = Jvm.exec → c.code = cc → c.maxLocals = maxL → meth.sig.returnType = ret → (∀ x ∈ ws, x.before args s = true) → s.vm.findClass y.cls = some m.cls → meth.locks = false → (∀ q, s.heap.size ≤ q → A q) →
      va_K D vwCl tys s → va_P D vwCl w s.heap → va_D A w → NW s → va_S A s.heap s.heap [] → lv_has ls maxL (lv_args 0 av) →
      R.frames = fr → R.locals = lo → Q = QI below args s D tys post w1 A → W p l e R s m args below meth c s.heap [] 0 0 Q (F0 m 0 ls [])) : CtI l y ws fr lo D tys av w post w1 := by
  intro sz
  refine Met.ofW (cc := cc) (maxL := maxL) (ret := ret) hy hw ?_
  intro p e s m args below meth c s₁ B hml hv
  obtain ⟨rfl, hsz, hP, hK, hD0, hN⟩ := hv
  have hts := atoms_spec (ws := ws) B.pre
  subst hsz
  have hD := hD0.self (sz := s.heap.size)
  rw [lg_entry_eq]
  exact body p e s m below meth c (va_A w s.heap.size) _ _ _ _ B.exec B.bytes hml B.returns hts (findClass_of_methodNamed B.named) B.notSynchronized (fun q h => Or.inr h) hK hP hD hN va_S.rf (lv_entry av hlen) rfl rfl rfl
/-- of a class that has entries, a member that has none -/
theorem CtI.mkF {S : Type} {l : Launch} {y : MethodName} {ws ws' : List Cond} {fr lo : Nat} {D : va_G} {tys : List (ClassId × FieldType)} {av : List Value} {w : va_W} {post : Int → S → Prop} {w1 : S → va_W} {cc : ByteArray} {maxL : Nat} {ret : Option FieldType}
    (hy : plainFor y = true) (hw : ws = Cond.code y cc maxL ret :: ws') (hlen : (lg_sl av).length ≤ maxL)
    (body : ∀ (p : Program) (e : Env) (s : State) (m : MethodId) (below : List Frame) (meth : Method) (c : Code) (A : Nat → Prop) (ls : Array Slot) (R : Room) (args : Array Value) (Q : State → Prop),
      p.tables.exec = Jvm.exec → c.code = cc → c.maxLocals = maxL → meth.sig.returnType = ret → (∀ x ∈ ws, x.before args s = true) → s.vm.findClass y.cls = some m.cls → meth.locks = false → (∀ q, s.heap.size ≤ q → A q) →
      va_K D vwCl tys s → va_P D vwCl w s.heap → va_D A w → NW s → va_S A s.heap s.heap [] → lv_has ls maxL (lv_args 0 av) →
      R.frames = fr → R.locals = lo → Q = QI below args s D tys post w1 A → W p l e R s m args below meth c s.heap [] 0 0 Q (F0 m 0 ls [])) : CtI l y ws fr lo D tys av w post w1 := by
  intro sz
  refine va_MetF (cc := cc) (maxL := maxL) (ret := ret) hy hw ?_
  intro p e s m args below meth c s₁ B hml hv
  obtain ⟨rfl, hsz, hP, hK, hD0, hN⟩ := hv
  have hts := atoms_spec (ws := ws) B.pre
  subst hsz
  have hD := hD0.self (sz := s.heap.size)
  rw [lg_entry_eq]
  exact body p e s m below meth c (va_A w s.heap.size) _ _ _ _ B.exec B.bytes hml B.returns hts (findClass_of_methodNamed B.named) B.notSynchronized (fun q h => Or.inr h) hK hP hD hN va_S.rf (lv_entry av hlen) rfl rfl rfl
theorem CtV.mk {S : Type} {l : Launch} {y : MethodName} {ws ws' : List Cond} {fr lo : Nat} {D : va_G} {tys : List (ClassId × FieldType)} {av : List Value} {w : va_W} {post : S → Prop} {w1 : S → va_W} {cc : ByteArray} {maxL : Nat} {ret : Option FieldType}
    (hy : plainName y.cls = true) (hw : ws = Cond.code y cc maxL ret :: ws') (hlen : (lg_sl av).length ≤ maxL)
    (body : ∀ (p : Program) (e : Env) (s : State) (m : MethodId) (below : List Frame) (meth : Method) (c : Code) (A : Nat → Prop) (ls : Array Slot) (R : Room) (args : Array Value) (Q : State → Prop),
      p.tables.exec = Jvm.exec → c.code = cc → c.maxLocals = maxL → meth.sig.returnType = ret → (∀ x ∈ ws, x.before args s = true) → s.vm.findClass y.cls = some m.cls → meth.locks = false → (∀ q, s.heap.size ≤ q → A q) →
      va_K D vwCl tys s → va_P D vwCl w s.heap → va_D A w → NW s → va_S A s.heap s.heap [] → lv_has ls maxL (lv_args 0 av) →
      R.frames = fr → R.locals = lo → Q = QV below args s D tys post w1 A → W p l e R s m args below meth c s.heap [] 0 0 Q (F0 m 0 ls [])) : CtV l y ws fr lo D tys av w post w1 := by
  intro sz
  refine Met.ofW (cc := cc) (maxL := maxL) (ret := ret) hy hw ?_
  intro p e s m args below meth c s₁ B hml hv
  obtain ⟨rfl, hsz, hP, hK, hD0, hN⟩ := hv
  have hts := atoms_spec (ws := ws) B.pre
  subst hsz
  have hD := hD0.self (sz := s.heap.size)
  rw [lg_entry_eq]
  exact body p e s m below meth c (va_A w s.heap.size) _ _ _ _ B.exec B.bytes hml B.returns hts (findClass_of_methodNamed B.named) B.notSynchronized (fun q h => Or.inr h) hK hP hD hN va_S.rf (lv_entry av hlen) rfl rfl rfl
section QC
variable {p : Program} {l : Launch} {e : Env} {R : Room} {s : State} {m : MethodId} {args : Array Value} {below : List Frame} {meth : Method} {c : Code} {H : Heap} {locs : List Loc} {cells slots : Nat} {Q : State → Prop}
variable {cc : ByteArray} {pc : Nat} {ls : Array Slot} {rest : List Value}
variable {D : va_G} {tys : List (ClassId × FieldType)} {A : Nat → Prop}
theorem q_retI {S : Type} {post : Int → S → Prop} {w1 : S → va_W} {z : Int} (u : S) (hx : p.tables.exec = Jvm.exec) (hb : c.code = cc) (hr : meth.sig.returnType = some .int) (hlocks : meth.locks = false) (hK : va_K D vwCl tys s) (hP : va_P D vwCl (w1 u) H) (hD : va_D A (w1 u)) (hS : va_S A s.heap H locs) (hdg : decode cc pc = .ok (.ireturn, 1)) (hpost : post z u) : W p l e R s m args below meth c H locs 0 0 (QI below args s D tys post w1 A) (F0 m pc ls [.int (iI z)]) :=
  W.iret (v := iI z) hx hb hr (fun t ht hW => ⟨⟨iI z, u, rfl, ⟨z, rfl, hpost⟩, by rw [ht]; exact hP, va_K.moved hW.alike hK, hD⟩, hS.F ht⟩) hS.2.2 hdg hlocks
theorem q_retZ {S : Type} {post : Int → S → Prop} {w1 : S → va_W} {z : Int} (u : S) (hx : p.tables.exec = Jvm.exec) (hb : c.code = cc) (hr : meth.sig.returnType = some .boolean) (hlocks : meth.locks = false) (hK : va_K D vwCl tys s) (hP : va_P D vwCl (w1 u) H) (hD : va_D A (w1 u)) (hS : va_S A s.heap H locs) (hdg : decode cc pc = .ok (.ireturn, 1)) (hz : z = 0 ∨ z = 1) (hpost : post z u) : W p l e R s m args below meth c H locs 0 0 (QI below args s D tys post w1 A) (F0 m pc ls [.int (iI z)]) :=
  W.zret (v := iI z) hx hb hr (by rcases hz with rfl | rfl <;> decide +kernel) (fun t ht hW => ⟨⟨iI z, u, rfl, ⟨z, rfl, hpost⟩, by rw [ht]; exact hP, va_K.moved hW.alike hK, hD⟩, hS.F ht⟩) hS.2.2 hdg hlocks
theorem q_retV {S : Type} {post : S → Prop} {w1 : S → va_W} (u : S) (hx : p.tables.exec = Jvm.exec) (hb : c.code = cc) (hr : meth.sig.returnType = none) (hlocks : meth.locks = false) (hK : va_K D vwCl tys s) (hP : va_P D vwCl (w1 u) H) (hD : va_D A (w1 u)) (hS : va_S A s.heap H locs) (hdg : decode cc pc = .ok (.return_, 1)) (hpost : post u) : W p l e R s m args below meth c H locs 0 0 (QV below args s D tys post w1 A) (F0 m pc ls []) :=
  W.vret hx hb hr (fun t ht hW => ⟨⟨u, rfl, hpost, by rw [ht]; exact hP, va_K.moved hW.alike hK, hD⟩, hS.F ht⟩) hS.2.2 hdg hlocks
theorem cB_pre {av : List Value} {w : va_W} {sz : Nat} : FrameBlind (va_Pc av (cB D tys w sz)) := fun a U g mk q => by
  obtain ⟨q0, q1, qP, qK, qD, qN⟩ := q
  exact ⟨q0, q1, qP, va_K.moved (u := U) (U := U.calling g mk a) (Vm.Alike.refl U.vm) qK, qD, qN.call⟩
variable {Ts : List Cond} {own : String} {nL : Nat} {ws : va_W}
/-- a call over an int's contract, out of what the run is (instance, static, of a nest mate) -/
theorem q_goI {S : Type} {wc wr : va_W} {w1 wn : S → va_W} {post : Int → S → Prop} {a : Array Value} {st0 : List Value} (hD : va_D A ws) (hP : va_P D vwCl ws H) (hS : va_S A s.heap H locs) (hA : ∀ q, s.heap.size ≤ q → A q) (isC isR is : List Nat)
    (hcD : isC.map (fun i => ws[i]?) = wc.map some) (hR : isR.map (fun i => ws[i]?) = wr.map some) (hnR : va_nd isR = true) (hdis : ∀ i ∈ isR, i ∉ isC) (hnw : va_nd is = true) (hwn : ∀ u, is.map (fun i => (wr ++ w1 u)[i]?) = (wn u).map some)
    (hr : va_Run p l e R s m args below meth c H locs cells slots 0 0 (F0 m pc ls st0) rest (va_Qi (fun r u => ∃ z : Int, r = iI z ∧ post z u) (cE D tys w1 (va_A wc H.size)) (va_A wc H.size) a) (va_A wc H.size))
    (kk : ∀ (z : Int) (u : S) (H1 : Heap) (locs1 : List Loc), post z u → va_P D vwCl (wn u) H1 → va_D A (wn u) → va_S A s.heap H1 locs1 → W p l e R s m args below meth c H1 locs1 cells slots Q (F0 m (pc + 3) ls (.int (iI z) :: rest))) :
    W p l e R s m args below meth c H locs cells slots Q (F0 m pc ls st0) := by
  have hFc := va_free (wc := wc) hD hS hA isC hcD
  refine va_calli hr hS (fun q _ h => hFc q h) hFc (fun r u t H1 locs1 ht hvm hw hB hz1 hk1 hS1 => ?_)
  obtain ⟨z, rfl, hw⟩ := hw
  obtain ⟨hP1, hK1, hD1⟩ := hB
  rw [ht] at hP1
  obtain ⟨hP2, hD2⟩ := va_join (wr := wr) (w1 := w1 u) hP hD isC isR hcD hR hnR hdis hk1 hFc hP1 hD1
  exact kk z u H1 locs1 hw (hP2.sub is (filterMap_of_map (hwn u))) (hD2.sub is hnw (hwn u)) hS1
theorem q_goV {S : Type} {wc wr : va_W} {w1 wn : S → va_W} {post : S → Prop} {a : Array Value} {st0 : List Value} (hD : va_D A ws) (hP : va_P D vwCl ws H) (hS : va_S A s.heap H locs) (hA : ∀ q, s.heap.size ≤ q → A q) (isC isR is : List Nat)
    (hcD : isC.map (fun i => ws[i]?) = wc.map some) (hR : isR.map (fun i => ws[i]?) = wr.map some) (hnR : va_nd isR = true) (hdis : ∀ i ∈ isR, i ∉ isC) (hnw : va_nd is = true) (hwn : ∀ u, is.map (fun i => (wr ++ w1 u)[i]?) = (wn u).map some)
    (hr : va_Run p l e R s m args below meth c H locs cells slots 0 0 (F0 m pc ls st0) rest (va_Qv post (cE D tys w1 (va_A wc H.size)) (va_A wc H.size) a) (va_A wc H.size))
    (kk : ∀ (u : S) (H1 : Heap) (locs1 : List Loc), post u → va_P D vwCl (wn u) H1 → va_D A (wn u) → va_S A s.heap H1 locs1 → W p l e R s m args below meth c H1 locs1 cells slots Q (F0 m (pc + 3) ls rest)) :
    W p l e R s m args below meth c H locs cells slots Q (F0 m pc ls st0) := by
  have hFc := va_free (wc := wc) hD hS hA isC hcD
  refine va_callv hr hS (fun q _ h => hFc q h) hFc (fun u t H1 locs1 ht hvm hw hB hz1 hk1 hS1 => ?_)
  obtain ⟨hP1, hK1, hD1⟩ := hB
  rw [ht] at hP1
  obtain ⟨hP2, hD2⟩ := va_join (wr := wr) (w1 := w1 u) hP hD isC isR hcD hR hnR hdis hk1 hFc hP1 hD1
  exact kk u H1 locs1 hw (hP2.sub is (filterMap_of_map (hwn u))) (hD2.sub is hnw (hwn u)) hS1
theorem q_pre {av : List Value} {wc : va_W} (hK : va_K D vwCl tys s) (hP : va_P D vwCl ws H) (hD : va_D A ws) (hN : NW s) (isC : List Nat) (hnC : va_nd isC = true) (hcD : isC.map (fun i => ws[i]?) = wc.map some) :
    ∀ U : State, U.heap = H → s.WarmedH U.vm → va_Pc av (cB D tys wc H.size) av.toArray U := fun U hU hW =>
  ⟨rfl, by rw [hU], by rw [hU]; exact hP.sub isC (filterMap_of_map hcD), va_K.moved hW.alike hK, (hD.sub isC hnC hcD).weaken (fun _ _ _ _ => trivial), hN.warm hW⟩
/-- v.m(..) for an int -/
theorem q_callVI {S : Type} {y : MethodName} {bytes : ByteArray} {maxL n index fr lo : Nat} {ret : Option FieldType} {wsy : List Cond} {C : String} {T : u_T} {N : Nat} {b : Addr} {st0 : List Value} {wc wr : va_W} {w1 wn : S → va_W} {post : Int → S → Prop} (As : List Value)
    (F : CallFix p m c cc nL s args Ts own) (hC : CtI l y wsy fr lo D tys (.ref b :: As) wc post w1) (cw : CallW R s args own C index y bytes maxL ret wsy { frames := fr, cells := 0, slots := 0, locals := lo } 0 0 n)
    (hK : va_K D vwCl tys s) (hP : va_P D vwCl ws H) (hD : va_D A ws) (hS : va_S A s.heap H locs) (hA : ∀ q, s.heap.size ≤ q → A q) (hN : NW s) (isC isR is : List Nat) (q0 ci : Nat) {fs : List Value} (he : ws[q0]? = some (b, .inr (ci, fs))) (hc : vwCl[ci]? = some (C, T, N))
    (hnC : va_nd isC = true) (hcD : isC.map (fun i => ws[i]?) = wc.map some) (hR : isR.map (fun i => ws[i]?) = wr.map some) (hnR : va_nd isR = true) (hdis : ∀ i ∈ isR, i ∉ isC) (hnw : va_nd is = true) (hwn : ∀ u, is.map (fun i => (wr ++ w1 u)[i]?) = (wn u).map some)
    (hn : As.length = n) (hsize : ls.size = nL) (hst : st0 = As.reverse ++ .ref b :: rest) (hW : (rest.map fun v => v.category).sum ≤ 8) (hdg : decode cc pc = .ok (.invokevirtual index, 3)) (hf : cells ≤ R.cells ∧ slots ≤ R.slots)
    (kk : ∀ (z : Int) (u : S) (H1 : Heap) (locs1 : List Loc), post z u → va_P D vwCl (wn u) H1 → va_D A (wn u) → va_S A s.heap H1 locs1 → W p l e R s m args below meth c H1 locs1 cells slots Q (F0 m (pc + 3) ls (.int (iI z) :: rest))) :
    W p l e R s m args below meth c H locs cells slots Q (F0 m pc ls st0) :=
  q_goI (rest := rest) hD hP hS hA isC isR is hcD hR hnR hdis hnw hwn
    (va_runV (g := F0 m pc ls st0) (As := As) (rest := rest) F (hC H.size) cw ⟨cB_pre, va_recv hK hP hc he, q_pre hK hP hD hN isC hnC hcD⟩ rfl hn hsize hst (lv_room hW) hdg hf) kk
theorem q_callVV {S : Type} {y : MethodName} {bytes : ByteArray} {maxL n index fr lo : Nat} {ret : Option FieldType} {wsy : List Cond} {C : String} {T : u_T} {N : Nat} {b : Addr} {st0 : List Value} {wc wr : va_W} {w1 wn : S → va_W} {post : S → Prop} (As : List Value)
    (F : CallFix p m c cc nL s args Ts own) (hC : CtV l y wsy fr lo D tys (.ref b :: As) wc post w1) (cw : CallW R s args own C index y bytes maxL ret wsy { frames := fr, cells := 0, slots := 0, locals := lo } 0 0 n)
    (hK : va_K D vwCl tys s) (hP : va_P D vwCl ws H) (hD : va_D A ws) (hS : va_S A s.heap H locs) (hA : ∀ q, s.heap.size ≤ q → A q) (hN : NW s) (isC isR is : List Nat) (q0 ci : Nat) {fs : List Value} (he : ws[q0]? = some (b, .inr (ci, fs))) (hc : vwCl[ci]? = some (C, T, N))
    (hnC : va_nd isC = true) (hcD : isC.map (fun i => ws[i]?) = wc.map some) (hR : isR.map (fun i => ws[i]?) = wr.map some) (hnR : va_nd isR = true) (hdis : ∀ i ∈ isR, i ∉ isC) (hnw : va_nd is = true) (hwn : ∀ u, is.map (fun i => (wr ++ w1 u)[i]?) = (wn u).map some)
    (hn : As.length = n) (hsize : ls.size = nL) (hst : st0 = As.reverse ++ .ref b :: rest) (hW : (rest.map fun v => v.category).sum ≤ 8) (hdg : decode cc pc = .ok (.invokevirtual index, 3)) (hf : cells ≤ R.cells ∧ slots ≤ R.slots)
    (kk : ∀ (u : S) (H1 : Heap) (locs1 : List Loc), post u → va_P D vwCl (wn u) H1 → va_D A (wn u) → va_S A s.heap H1 locs1 → W p l e R s m args below meth c H1 locs1 cells slots Q (F0 m (pc + 3) ls rest)) :
    W p l e R s m args below meth c H locs cells slots Q (F0 m pc ls st0) :=
  q_goV (rest := rest) hD hP hS hA isC isR is hcD hR hnR hdis hnw hwn
    (va_runV (g := F0 m pc ls st0) (As := As) (rest := rest) F (hC H.size) cw ⟨cB_pre, va_recv hK hP hc he, q_pre hK hP hD hN isC hnC hcD⟩ rfl hn hsize hst (lv_room hW) hdg hf) kk
/-- a static method of one's own class, or the JDK's, for an int -/
theorem q_callSI {S : Type} {y : MethodName} {bytes : ByteArray} {maxL n index fr lo : Nat} {ret : Option FieldType} {wsy : List Cond} {st0 : List Value} {wc wr : va_W} {w1 wn : S → va_W} {post : Int → S → Prop} (As : List Value)
    (F : CallFix p m c cc nL s args Ts own) (hC : CtI l y wsy fr lo D tys As wc post w1) (cw : CallB R s args own index y bytes maxL ret wsy { frames := fr, cells := 0, slots := 0, locals := lo } 0 0 n ∧ (Cond.static y).before args s = true)
    (hK : va_K D vwCl tys s) (hP : va_P D vwCl ws H) (hD : va_D A ws) (hS : va_S A s.heap H locs) (hA : ∀ q, s.heap.size ≤ q → A q) (hN : NW s) (isC isR is : List Nat)
    (hnC : va_nd isC = true) (hcD : isC.map (fun i => ws[i]?) = wc.map some) (hR : isR.map (fun i => ws[i]?) = wr.map some) (hnR : va_nd isR = true) (hdis : ∀ i ∈ isR, i ∉ isC) (hnw : va_nd is = true) (hwn : ∀ u, is.map (fun i => (wr ++ w1 u)[i]?) = (wn u).map some)
    (hn : As.length = n) (hsize : ls.size = nL) (hst : st0 = As.reverse ++ rest) (hW : (rest.map fun v => v.category).sum ≤ 8) (hdg : decode cc pc = .ok (.invokestatic index, 3)) (hf : cells ≤ R.cells ∧ slots ≤ R.slots)
    (kk : ∀ (z : Int) (u : S) (H1 : Heap) (locs1 : List Loc), post z u → va_P D vwCl (wn u) H1 → va_D A (wn u) → va_S A s.heap H1 locs1 → W p l e R s m args below meth c H1 locs1 cells slots Q (F0 m (pc + 3) ls (.int (iI z) :: rest))) :
    W p l e R s m args below meth c H locs cells slots Q (F0 m pc ls st0) :=
  q_goI (rest := rest) hD hP hS hA isC isR is hcD hR hnR hdis hnw hwn
    (va_runS (g := F0 m pc ls st0) (As := As) (rest := rest) F (hC H.size) cw ⟨cB_pre, q_pre hK hP hD hN isC hnC hcD⟩ rfl hn hsize hst (lv_room hW) hdg hf) kk
theorem q_callSV {S : Type} {y : MethodName} {bytes : ByteArray} {maxL n index fr lo : Nat} {ret : Option FieldType} {wsy : List Cond} {st0 : List Value} {wc wr : va_W} {w1 wn : S → va_W} {post : S → Prop} (As : List Value)
    (F : CallFix p m c cc nL s args Ts own) (hC : CtV l y wsy fr lo D tys As wc post w1) (cw : CallB R s args own index y bytes maxL ret wsy { frames := fr, cells := 0, slots := 0, locals := lo } 0 0 n ∧ (Cond.static y).before args s = true)
    (hK : va_K D vwCl tys s) (hP : va_P D vwCl ws H) (hD : va_D A ws) (hS : va_S A s.heap H locs) (hA : ∀ q, s.heap.size ≤ q → A q) (hN : NW s) (isC isR is : List Nat)
    (hnC : va_nd isC = true) (hcD : isC.map (fun i => ws[i]?) = wc.map some) (hR : isR.map (fun i => ws[i]?) = wr.map some) (hnR : va_nd isR = true) (hdis : ∀ i ∈ isR, i ∉ isC) (hnw : va_nd is = true) (hwn : ∀ u, is.map (fun i => (wr ++ w1 u)[i]?) = (wn u).map some)
    (hn : As.length = n) (hsize : ls.size = nL) (hst : st0 = As.reverse ++ rest) (hW : (rest.map fun v => v.category).sum ≤ 8) (hdg : decode cc pc = .ok (.invokestatic index, 3)) (hf : cells ≤ R.cells ∧ slots ≤ R.slots)
    (kk : ∀ (u : S) (H1 : Heap) (locs1 : List Loc), post u → va_P D vwCl (wn u) H1 → va_D A (wn u) → va_S A s.heap H1 locs1 → W p l e R s m args below meth c H1 locs1 cells slots Q (F0 m (pc + 3) ls rest)) :
    W p l e R s m args below meth c H locs cells slots Q (F0 m pc ls st0) :=
  q_goV (rest := rest) hD hP hS hA isC isR is hcD hR hnR hdis hnw hwn
    (va_runS (g := F0 m pc ls st0) (As := As) (rest := rest) F (hC H.size) cw ⟨cB_pre, q_pre hK hP hD hN isC hnC hcD⟩ rfl hn hsize hst (lv_room hW) hdg hf) kk
/-- a private static of a nest mate, for an int -/
theorem q_callNI {S : Type} {y : MethodName} {bytes : ByteArray} {maxL n index fr lo : Nat} {host : String} {ret : Option FieldType} {wsy : List Cond} {st0 : List Value} {wc wr : va_W} {w1 wn : S → va_W} {post : Int → S → Prop} (As : List Value)
    (F : CallFix p m c cc nL s args Ts own) (hC : CtI l y wsy fr lo D tys As wc post w1) (cw : va_CN R s args own index y host bytes maxL ret wsy { frames := fr, cells := 0, slots := 0, locals := lo } 0 0 n ∧ (Cond.static y).before args s = true ∧ True)
    (hK : va_K D vwCl tys s) (hP : va_P D vwCl ws H) (hD : va_D A ws) (hS : va_S A s.heap H locs) (hA : ∀ q, s.heap.size ≤ q → A q) (hN : NW s) (isC isR is : List Nat)
    (hnC : va_nd isC = true) (hcD : isC.map (fun i => ws[i]?) = wc.map some) (hR : isR.map (fun i => ws[i]?) = wr.map some) (hnR : va_nd isR = true) (hdis : ∀ i ∈ isR, i ∉ isC) (hnw : va_nd is = true) (hwn : ∀ u, is.map (fun i => (wr ++ w1 u)[i]?) = (wn u).map some)
    (hn : As.length = n) (hsize : ls.size = nL) (hst : st0 = As.reverse ++ rest) (hW : (rest.map fun v => v.category).sum ≤ 8) (hdg : decode cc pc = .ok (.invokestatic index, 3)) (hf : cells ≤ R.cells ∧ slots ≤ R.slots)
    (kk : ∀ (z : Int) (u : S) (H1 : Heap) (locs1 : List Loc), post z u → va_P D vwCl (wn u) H1 → va_D A (wn u) → va_S A s.heap H1 locs1 → W p l e R s m args below meth c H1 locs1 cells slots Q (F0 m (pc + 3) ls (.int (iI z) :: rest))) :
    W p l e R s m args below meth c H locs cells slots Q (F0 m pc ls st0) :=
  q_goI (rest := rest) hD hP hS hA isC isR is hcD hR hnR hdis hnw hwn
    (va_runSN (g := F0 m pc ls st0) (As := As) (rest := rest) F (hC H.size) cw ⟨cB_pre, q_pre hK hP hD hN isC hnC hcD⟩ rfl hn hsize hst (lv_room hW) hdg hf) kk
end QC

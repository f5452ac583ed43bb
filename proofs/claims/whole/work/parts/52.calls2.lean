/-! contracts over the two static tables -/
def ZsT (n : String) (a : Nat) (g : Int → Int) (A : Nat → Prop) (U : State) : Prop := va_Z RX5 n "[I" (.ref a) A U U.heap ∧ va_T .int a 19 (fun j => .int (ia g j)) A U U.heap
def Zs (la ha : Nat) (lw hg : Int → Int) (A : Nat → Prop) (U : State) : Prop := ZsT "LOWEST" la lw A U ∧ ZsT "HIGHEST" ha hg A U
theorem ZsT.call {n : String} {a : Nat} {f : Int → Int} {A : Nat → Prop} {U : State} {g : JFrame} {mk : MethodId} {av : Array Value} (h : ZsT n a f A U) : ZsT n a f A (U.calling g mk av) :=
  ⟨va_Z.moved (u := U) (U := U.calling g mk av) (Vm.Alike.refl U.vm) h.1, va_T.moved (u := U) (U := U.calling g mk av) (Vm.Alike.refl U.vm) h.2⟩
/-- at a call, of a callee that may change less -/
theorem ZsT.down {n : String} {a : Nat} {f : Int → Int} {A B : Nat → Prop} {s U : State} {H : Heap} {locs : List Loc} (h : ZsT n a f A s) (hS : va_S A s.heap H locs) (hF : ∀ q, B q → A q) (hU : U.heap = H) (hW : s.WarmedH U.vm) : ZsT n a f B U := by
  obtain ⟨h1, h2⟩ := h
  have z1 := (va_Z.moved (U := U) hW.alike (h1.kept (H1 := H) (fun a q1 q2 => hS.2.1 a q1 q2))).narrow hF
  have z2 := (va_T.moved (U := U) hW.alike (h2.kept (H1 := H) (fun a q1 q2 => hS.2.1 a q1 q2))).narrow hF
  unfold ZsT
  rw [hU]
  exact ⟨z1, z2⟩
def CtIz {S : Type} (la ha : Nat) (lw hg : Int → Int) (l : Launch) (y : MethodName) (ws : List Cond) (fr lo : Nat) (D : va_G) (tys : List (ClassId × FieldType)) (av : List Value) (w : va_W) (post : Int → S → Prop) (w1 : S → va_W) : Prop :=
  ∀ sz : Nat, Met l y ws { frames := fr, cells := 0, slots := 0, locals := lo } (va_Pc av (fun U => cB D tys w sz U ∧ Zs la ha lw hg (va_A w sz) U)) (va_Qi (fun r u => ∃ z : Int, r = iI z ∧ post z u) (cE D tys w1 (va_A w sz)) (va_A w sz)) 0 0 (va_A w sz)
theorem CtIz.mk {S : Type} {la ha : Nat} {lw hg : Int → Int} {l : Launch} {y : MethodName} {ws ws' : List Cond} {fr lo : Nat} {D : va_G} {tys : List (ClassId × FieldType)} {av : List Value} {w : va_W} {post : Int → S → Prop} {w1 : S → va_W} {cc : ByteArray} {maxL : Nat} {ret : Option FieldType}
    (hy : plainName y.cls = true) (hw : ws = Cond.code y cc maxL ret :: ws') (hlen : (lg_sl av).length ≤ maxL)
    (body : ∀ (p : Program) (e : Env) (s : State) (m : MethodId) (below : List Frame) (meth : Method) (c : Code) (A : Nat → Prop) (ls : Array Slot) (R : Room) (args : Array Value) (Q : State → Prop),
      p.tables.exec = Jvm.exec → c.code = cc → c.maxLocals = maxL → meth.sig.returnType = ret → (∀ x ∈ ws, x.before args s = true) → s.vm.findClass y.cls = some m.cls → meth.locks = false → (∀ q, s.heap.size ≤ q → A q) →
      va_K D vwCl tys s → va_P D vwCl w s.heap → va_D A w → NW s → Zs la ha lw hg A s → va_S A s.heap s.heap [] → lv_has ls maxL (lv_args 0 av) →
      R.frames = fr → R.locals = lo → Q = QI below args s D tys post w1 A → W p l e R s m args below meth c s.heap [] 0 0 Q (F0 m 0 ls [])) : CtIz la ha lw hg l y ws fr lo D tys av w post w1 := by
  intro sz
  refine Met.ofW (cc := cc) (maxL := maxL) (ret := ret) hy hw ?_
  intro p e s m args below meth c s₁ B hml hv
  obtain ⟨rfl, ⟨hsz, hP, hK, hD0, hN⟩, hZ⟩ := hv
  have hts := atoms_spec (ws := ws) B.pre
  subst hsz
  have hD := hD0.self (sz := s.heap.size)
  rw [lg_entry_eq]
  exact body p e s m below meth c (va_A w s.heap.size) _ _ _ _ B.exec B.bytes hml B.returns hts (findClass_of_methodNamed B.named) B.notSynchronized (fun q h => Or.inr h) hK hP hD hN hZ va_S.rf (lv_entry av hlen) rfl rfl rfl
section QZ
variable {p : Program} {l : Launch} {e : Env} {R : Room} {s : State} {m : MethodId} {args : Array Value} {below : List Frame} {meth : Method} {c : Code} {H : Heap} {locs : List Loc} {cells slots : Nat} {Q : State → Prop}
variable {cc : ByteArray} {pc : Nat} {ls : Array Slot} {rest : List Value}
variable {D : va_G} {tys : List (ClassId × FieldType)} {A : Nat → Prop} {la ha : Nat} {lw hg : Int → Int}
theorem Zs.call {U : State} {g : JFrame} {mk : MethodId} {a : Array Value} (h : Zs la ha lw hg A U) : Zs la ha lw hg A (U.calling g mk a) := ⟨h.1.call, h.2.call⟩
theorem cBz_pre {av : List Value} {w : va_W} {sz : Nat} : FrameBlind (va_Pc av (fun U => cB D tys w sz U ∧ Zs la ha lw hg (va_A w sz) U)) := fun a U g mk q => by
  obtain ⟨q0, ⟨q1, qP, qK, qD, qN⟩, qZ⟩ := q
  exact ⟨q0, ⟨q1, qP, va_K.moved (u := U) (U := U.calling g mk a) (Vm.Alike.refl U.vm) qK, qD, qN.call⟩, qZ.call⟩
variable {Ts : List Cond} {own : String} {nL : Nat} {ws : va_W}
theorem q_prez {av : List Value} {wc : va_W} (hK : va_K D vwCl tys s) (hP : va_P D vwCl ws H) (hD : va_D A ws) (hN : NW s) (hZ : Zs la ha lw hg A s) (hS : va_S A s.heap H locs) (hA : ∀ q, s.heap.size ≤ q → A q) (isC : List Nat) (hnC : va_nd isC = true) (hcD : isC.map (fun i => ws[i]?) = wc.map some) :
    ∀ U : State, U.heap = H → s.WarmedH U.vm → va_Pc av (fun U => cB D tys wc H.size U ∧ Zs la ha lw hg (va_A wc H.size) U) av.toArray U := fun U hU hW => by
  have h := q_pre (av := av) hK hP hD hN isC hnC hcD U hU hW
  have hF := va_free (wc := wc) hD hS hA isC hcD
  exact ⟨h.1, h.2, hZ.1.down hS hF hU hW, hZ.2.down hS hF hU hW⟩
theorem q_sld (hx : p.tables.exec = Jvm.exec) (hb : c.code = cc) {a n : Nat} {g : Int → Int} (hT : va_T .int a n (fun j => .int (ia g j)) A s s.heap) (hS : va_S A s.heap H locs) {i : Int} (h0 : 0 ≤ i) (h1 : i < (n : Int)) (hn : n ≤ 2147483647) (hdg : decode cc pc = .ok (.iaload, 1))
    (kk : W p l e R s m args below meth c H locs cells slots Q (F0 m (pc + 1) ls (.int (iI (g i)) :: rest))) : W p l e R s m args below meth c H locs cells slots Q (F0 m pc ls (.int (iI i) :: .ref a :: rest)) := va_ti hx hb hT hS (vp_iI h0 h1 hn) (congrArg Value.int (ia_get g h0 (by omega))) hdg kk
theorem q_callVIz {S : Type} {y : MethodName} {bytes : ByteArray} {maxL n index fr lo : Nat} {ret : Option FieldType} {wsy : List Cond} {C : String} {T : u_T} {N : Nat} {b : Addr} {st0 : List Value} {wc wr : va_W} {w1 wn : S → va_W} {post : Int → S → Prop} (As : List Value)
    (F : CallFix p m c cc nL s args Ts own) (hZ : Zs la ha lw hg A s) (hC : CtIz la ha lw hg l y wsy fr lo D tys (.ref b :: As) wc post w1) (cw : CallW R s args own C index y bytes maxL ret wsy { frames := fr, cells := 0, slots := 0, locals := lo } 0 0 n)
    (hK : va_K D vwCl tys s) (hP : va_P D vwCl ws H) (hD : va_D A ws) (hS : va_S A s.heap H locs) (hA : ∀ q, s.heap.size ≤ q → A q) (hN : NW s) (isC isR is : List Nat) (q0 ci : Nat) {fs : List Value} (he : ws[q0]? = some (b, .inr (ci, fs))) (hc : vwCl[ci]? = some (C, T, N))
    (hnC : va_nd isC = true) (hcD : isC.map (fun i => ws[i]?) = wc.map some) (hR : isR.map (fun i => ws[i]?) = wr.map some) (hnR : va_nd isR = true) (hdis : ∀ i ∈ isR, i ∉ isC) (hnw : va_nd is = true) (hwn : ∀ u, is.map (fun i => (wr ++ w1 u)[i]?) = (wn u).map some)
    (hn : As.length = n) (hsize : ls.size = nL) (hst : st0 = As.reverse ++ .ref b :: rest) (hW : (rest.map fun v => v.category).sum ≤ 8) (hdg : decode cc pc = .ok (.invokevirtual index, 3)) (hf : cells ≤ R.cells ∧ slots ≤ R.slots)
    (kk : ∀ (z : Int) (u : S) (H1 : Heap) (locs1 : List Loc), post z u → va_P D vwCl (wn u) H1 → va_D A (wn u) → va_S A s.heap H1 locs1 → W p l e R s m args below meth c H1 locs1 cells slots Q (F0 m (pc + 3) ls (.int (iI z) :: rest))) :
    W p l e R s m args below meth c H locs cells slots Q (F0 m pc ls st0) :=
  q_goI (rest := rest) hD hP hS hA isC isR is hcD hR hnR hdis hnw hwn
    (va_runV (g := F0 m pc ls st0) (As := As) (rest := rest) F (hC H.size) cw ⟨cBz_pre, va_recv hK hP hc he, q_prez hK hP hD hN hZ hS hA isC hnC hcD⟩ rfl hn hsize hst (lv_room hW) hdg hf) kk
end QZ

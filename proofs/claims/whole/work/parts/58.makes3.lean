/-! the first settings -/
def seI : Int → Int := (uI (uI (uI (uI (uI (uI (uI (uI (uI (uI (uI (uI (uI (uI (uI (uI (uI (uI (uI (fun _ => 0) 0 1) 1 1) 2 5) 3 3) 4 1) 5 0) 6 1) 7 1) 8 12) 9 0) 10 1) 11 5) 12 10) 13 2) 14 1) 15 1) 16 10) 17 4) 18 50)
def lwI : Int → Int := (uI (uI (uI (uI (uI (uI (uI (uI (uI (uI (uI (uI (uI (uI (uI (uI (uI (uI (uI (fun _ => 0) 0 0) 1 0) 2 1) 3 1) 4 1) 5 0) 6 1) 7 0) 8 0) 9 0) 10 0) 11 1) 12 0) 13 0) 14 1) 15 1) 16 0) 17 0) 18 0)
def hgI : Int → Int := (uI (uI (uI (uI (uI (uI (uI (uI (uI (uI (uI (uI (uI (uI (uI (uI (uI (uI (uI (fun _ => 0) 0 5) 1 5) 2 20) 3 10) 4 4) 5 5) 6 5) 7 12) 8 12) 9 10) 10 2) 11 60) 12 400) 13 400) 14 6) 15 6) 16 100) 17 100) 18 1000)
theorem seI_out {j : Int} (h : ¬ (0 ≤ j ∧ j < 19)) : seI j = 0 := by
  simp only [seI, uI]
  repeat rw [if_neg (by omega)]
theorem seI_b : BB 0 1000 seI := by
  intro j
  simp only [seI, uI]
  repeat' (split; · omega)
  omega
theorem lwI_b : BB 0 1000 lwI := by
  intro j
  simp only [lwI, uI]
  repeat' (split; · omega)
  omega
theorem hgI_b : BB 0 1000 hgI := by
  intro j
  simp only [hgI, uI]
  repeat' (split; · omega)
  omega
theorem seI_SB : SB seI := by
  unfold SB
  simp [seI, uI]
theorem lhI : ∀ j, 0 ≤ j → j ≤ 18 → lwI j = loF j ∧ hgI j = hiF j := by
  intro j h0 h1
  rcases (show j = 0 ∨ j = 1 ∨ j = 2 ∨ j = 3 ∨ j = 4 ∨ j = 5 ∨ j = 6 ∨ j = 7 ∨ j = 8 ∨ j = 9 ∨ j = 10 ∨ j = 11 ∨ j = 12 ∨ j = 13 ∨ j = 14 ∨ j = 15 ∨ j = 16 ∨ j = 17 ∨ j = 18 by omega) with rfl | rfl | rfl | rfl | rfl | rfl | rfl | rfl | rfl | rfl | rfl | rfl | rfl | rfl | rfl | rfl | rfl | rfl | rfl <;> exact ⟨by decide +kernel, by decide +kernel⟩
theorem loF_b : BB 0 1000 loF := by
  intro j
  unfold loF
  split <;> omega
theorem hiF_b : BB 0 1000 hiF := by
  intro j
  unfold hiF
  repeat' (split; · omega)
  omega
theorem BB_0 {lo hi : Int} (h : lo ≤ 0 ∧ 0 ≤ hi) : BB lo hi (fun _ => 0) := fun _ => h
/-! contracts of what makes, over FIRST and the class of int[][] -/
def XE (fa : Nat) (A : Nat → Prop) (U : State) : Prop := va_AOA .int U ∧ ZsT "FIRST" fa seI A U
theorem XE.call {fa : Nat} {A : Nat → Prop} {U : State} {g : JFrame} {mk : MethodId} {av : Array Value} (h : XE fa A U) : XE fa A (U.calling g mk av) :=
  ⟨va_AOA.moved (u := U) (U := U.calling g mk av) (Vm.Alike.refl U.vm) h.1, h.2.call⟩
theorem XE.down {fa : Nat} {A B : Nat → Prop} {s U : State} {H : Heap} {locs : List Loc} (h : XE fa A s) (hS : va_S A s.heap H locs) (hF : ∀ q, B q → A q) (hU : U.heap = H) (hW : s.WarmedH U.vm) : XE fa B U :=
  ⟨va_AOA.moved hW.alike h.1, h.2.down hS hF hU hW⟩
def CtMx {S : Type} (fa : Nat) (l : Launch) (y : MethodName) (ws : List Cond) (fr lo mc ms : Nat) (D : va_G) (tys : List (ClassId × FieldType)) (av : List Value) (w : va_W) (post : S → Prop) (w1 : S → va_W) : Prop :=
  ∀ sz : Nat, Met l y ws { frames := fr, cells := mc, slots := ms, locals := lo } (va_Pc av (fun U => cB D tys w sz U ∧ XE fa (va_A w sz) U)) (va_Qv post (cE D tys w1 (va_A w sz)) (va_A w sz)) mc ms (va_A w sz)
theorem CtMx.mk {S : Type} {fa : Nat} {l : Launch} {y : MethodName} {ws ws' : List Cond} {fr lo mc ms : Nat} {D : va_G} {tys : List (ClassId × FieldType)} {av : List Value} {w : va_W} {post : S → Prop} {w1 : S → va_W} {cc : ByteArray} {maxL : Nat} {ret : Option FieldType}
    (hy : plainName y.cls = true) (hw : ws = Cond.code y cc maxL ret :: ws') (hlen : (lg_sl av).length ≤ maxL)
    (body : ∀ (p : Program) (e : Env) (s : State) (m : MethodId) (below : List Frame) (meth : Method) (c : Code) (A : Nat → Prop) (ls : Array Slot) (R : Room) (args : Array Value) (Q : State → Prop),
      p.tables.exec = Jvm.exec → c.code = cc → c.maxLocals = maxL → meth.sig.returnType = ret → (∀ x ∈ ws, x.before args s = true) → s.vm.findClass y.cls = some m.cls → meth.locks = false → (∀ q, s.heap.size ≤ q → A q) →
      va_K D vwCl tys s → va_P D vwCl w s.heap → va_D A w → NW s → XE fa A s → va_S A s.heap s.heap [] → lv_has ls maxL (lv_args 0 av) →
      meth.name = y.name → R.frames = fr → R.locals = lo → R.cells = mc → R.slots = ms → Q = QM below args s D tys mc ms post w1 A → W p l e R s m args below meth c s.heap [] 0 0 Q (F0 m 0 ls [])) : CtMx fa l y ws fr lo mc ms D tys av w post w1 := by
  intro sz
  refine Met.ofW (cc := cc) (maxL := maxL) (ret := ret) hy hw ?_
  intro p e s m args below meth c s₁ B hml hv
  obtain ⟨rfl, ⟨hsz, hP, hK, hD0, hN⟩, hE⟩ := hv
  have hts := atoms_spec (ws := ws) B.pre
  subst hsz
  have hD := hD0.self (sz := s.heap.size)
  rw [lg_entry_eq]
  exact body p e s m below meth c (va_A w s.heap.size) _ _ _ _ B.exec B.bytes hml B.returns hts (findClass_of_methodNamed B.named) B.notSynchronized (fun q h => Or.inr h) hK hP hD hN hE va_S.rf (lv_entry av hlen) (name_of_methodNamed B.named B.method).1 rfl rfl rfl rfl rfl
section QX
variable {p : Program} {l : Launch} {e : Env} {R : Room} {s : State} {m : MethodId} {args : Array Value} {below : List Frame} {meth : Method} {c : Code} {H : Heap} {locs : List Loc} {cells slots mc ms : Nat} {Q : State → Prop}
variable {cc : ByteArray} {pc : Nat} {ls : Array Slot} {rest : List Value}
variable {D : va_G} {tys : List (ClassId × FieldType)} {A : Nat → Prop} {fa : Nat}
theorem cBx_pre {av : List Value} {w : va_W} {sz : Nat} : FrameBlind (va_Pc av (fun U => cB D tys w sz U ∧ XE fa (va_A w sz) U)) := fun a U g mk q => by
  obtain ⟨q0, ⟨q1, qP, qK, qD, qN⟩, qE⟩ := q
  exact ⟨q0, ⟨q1, qP, va_K.moved (u := U) (U := U.calling g mk a) (Vm.Alike.refl U.vm) qK, qD, qN.call⟩, qE.call⟩
variable {Ts : List Cond} {own : String} {nL : Nat} {ws : va_W}
theorem q_prex {av : List Value} {wc : va_W} (hK : va_K D vwCl tys s) (hP : va_P D vwCl ws H) (hD : va_D A ws) (hN : NW s) (hE : XE fa A s) (hS : va_S A s.heap H locs) (hA : ∀ q, s.heap.size ≤ q → A q) (isC : List Nat) (hnC : va_nd isC = true) (hcD : isC.map (fun i => ws[i]?) = wc.map some) :
    ∀ U : State, U.heap = H → s.WarmedH U.vm → va_Pc av (fun U => cB D tys wc H.size U ∧ XE fa (va_A wc H.size) U) av.toArray U := fun U hU hW => by
  have h := q_pre (av := av) hK hP hD hN isC hnC hcD U hU hW
  have hF := va_free (wc := wc) hD hS hA isC hcD
  exact ⟨h.1, h.2, hE.down hS hF hU hW⟩
/-- a call of what makes -/
theorem q_goM {S : Type} {wc wr : va_W} {w1 wn : S → va_W} {post : S → Prop} {a : Array Value} {st0 : List Value} (hD : va_D A ws) (hP : va_P D vwCl ws H) (hS : va_S A s.heap H locs) (hA : ∀ q, s.heap.size ≤ q → A q) (isC isR is : List Nat)
    (hcD : isC.map (fun i => ws[i]?) = wc.map some) (hR : isR.map (fun i => ws[i]?) = wr.map some) (hnR : va_nd isR = true) (hdis : ∀ i ∈ isR, i ∉ isC) (hnw : va_nd is = true) (hwn : ∀ u, is.map (fun i => (wr ++ w1 u)[i]?) = (wn u).map some)
    (hr : va_Run p l e R s m args below meth c H locs cells slots mc ms (F0 m pc ls st0) rest (va_Qv post (cE D tys w1 (va_A wc H.size)) (va_A wc H.size) a) (va_A wc H.size))
    (kk : ∀ (u : S) (H1 : Heap) (locs1 : List Loc), post u → va_P D vwCl (wn u) H1 → va_D A (wn u) → va_S A s.heap H1 locs1 → W p l e R s m args below meth c H1 locs1 (cells + mc) (slots + ms) Q (F0 m (pc + 3) ls rest)) :
    W p l e R s m args below meth c H locs cells slots Q (F0 m pc ls st0) := by
  have hFc := va_free (wc := wc) hD hS hA isC hcD
  refine va_callv hr hS (fun q _ h => hFc q h) hFc (fun u t H1 locs1 ht hvm hw hB hz1 hk1 hS1 => ?_)
  obtain ⟨hP1, hK1, hD1⟩ := hB
  rw [ht] at hP1
  obtain ⟨hP2, hD2⟩ := va_join (wr := wr) (w1 := w1 u) hP hD isC isR hcD hR hnR hdis hk1 hFc hP1 hD1
  exact kk u H1 locs1 hw (hP2.sub is (filterMap_of_map (hwn u))) (hD2.sub is hnw (hwn u)) hS1
theorem q_callM {S : Type} {y : MethodName} {bytes : ByteArray} {maxL n index fr lo : Nat} {wsy : List Cond} {b : Addr} {st0 : List Value} {wc wr : va_W} {w1 wn : S → va_W} {post : S → Prop} (As : List Value)
    (F : CallFix p m c cc nL s args Ts own) (hC : CtM l y wsy fr lo mc ms D tys (.ref b :: As) wc post w1) (cw : CallB R s args own index y bytes maxL none wsy { frames := fr, cells := mc, slots := ms, locals := lo } mc ms n ∧ y.name = "<init>" ∧ (Cond.instanceMethod y).before args s = true)
    (hK : va_K D vwCl tys s) (hP : va_P D vwCl ws H) (hD : va_D A ws) (hS : va_S A s.heap H locs) (hA : ∀ q, s.heap.size ≤ q → A q) (hN : NW s) (isC isR is : List Nat)
    (hnC : va_nd isC = true) (hcD : isC.map (fun i => ws[i]?) = wc.map some) (hR : isR.map (fun i => ws[i]?) = wr.map some) (hnR : va_nd isR = true) (hdis : ∀ i ∈ isR, i ∉ isC) (hnw : va_nd is = true) (hwn : ∀ u, is.map (fun i => (wr ++ w1 u)[i]?) = (wn u).map some)
    (hn : As.length = n) (hsize : ls.size = nL) (hst : st0 = As.reverse ++ .ref b :: rest) (hW : (rest.map fun v => v.category).sum ≤ 8) (hdg : decode cc pc = .ok (.invokespecial index, 3)) (hf : cells + mc ≤ R.cells ∧ slots + ms ≤ R.slots)
    (kk : ∀ (u : S) (H1 : Heap) (locs1 : List Loc), post u → va_P D vwCl (wn u) H1 → va_D A (wn u) → va_S A s.heap H1 locs1 → W p l e R s m args below meth c H1 locs1 (cells + mc) (slots + ms) Q (F0 m (pc + 3) ls rest)) :
    W p l e R s m args below meth c H locs cells slots Q (F0 m pc ls st0) :=
  q_goM (rest := rest) hD hP hS hA isC isR is hcD hR hnR hdis hnw hwn
    (va_runI (g := F0 m pc ls st0) (As := As) (rest := rest) F (hC H.size) cw ⟨cB_pre, q_pre hK hP hD hN isC hnC hcD⟩ rfl hn hsize hst (lv_room hW) hdg hf) kk
theorem q_callMx {S : Type} {y : MethodName} {bytes : ByteArray} {maxL n index fr lo : Nat} {wsy : List Cond} {b : Addr} {st0 : List Value} {wc wr : va_W} {w1 wn : S → va_W} {post : S → Prop} (As : List Value)
    (F : CallFix p m c cc nL s args Ts own) (hE : XE fa A s) (hC : CtMx fa l y wsy fr lo mc ms D tys (.ref b :: As) wc post w1) (cw : CallB R s args own index y bytes maxL none wsy { frames := fr, cells := mc, slots := ms, locals := lo } mc ms n ∧ y.name = "<init>" ∧ (Cond.instanceMethod y).before args s = true)
    (hK : va_K D vwCl tys s) (hP : va_P D vwCl ws H) (hD : va_D A ws) (hS : va_S A s.heap H locs) (hA : ∀ q, s.heap.size ≤ q → A q) (hN : NW s) (isC isR is : List Nat)
    (hnC : va_nd isC = true) (hcD : isC.map (fun i => ws[i]?) = wc.map some) (hR : isR.map (fun i => ws[i]?) = wr.map some) (hnR : va_nd isR = true) (hdis : ∀ i ∈ isR, i ∉ isC) (hnw : va_nd is = true) (hwn : ∀ u, is.map (fun i => (wr ++ w1 u)[i]?) = (wn u).map some)
    (hn : As.length = n) (hsize : ls.size = nL) (hst : st0 = As.reverse ++ .ref b :: rest) (hW : (rest.map fun v => v.category).sum ≤ 8) (hdg : decode cc pc = .ok (.invokespecial index, 3)) (hf : cells + mc ≤ R.cells ∧ slots + ms ≤ R.slots)
    (kk : ∀ (u : S) (H1 : Heap) (locs1 : List Loc), post u → va_P D vwCl (wn u) H1 → va_D A (wn u) → va_S A s.heap H1 locs1 → W p l e R s m args below meth c H1 locs1 (cells + mc) (slots + ms) Q (F0 m (pc + 3) ls rest)) :
    W p l e R s m args below meth c H locs cells slots Q (F0 m pc ls st0) :=
  q_goM (rest := rest) hD hP hS hA isC isR is hcD hR hnR hdis hnw hwn
    (va_runI (g := F0 m pc ls st0) (As := As) (rest := rest) F (hC H.size) cw ⟨cBx_pre, q_prex hK hP hD hN hE hS hA isC hnC hcD⟩ rfl hn hsize hst (lv_room hW) hdg hf) kk
end QX

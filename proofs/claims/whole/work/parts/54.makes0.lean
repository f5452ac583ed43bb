/-! contracts of what makes: mc cells of ms slots; the new addresses are in u -/
def CtM {S : Type} (l : Launch) (y : MethodName) (ws : List Cond) (fr lo mc ms : Nat) (D : va_G) (tys : List (ClassId × FieldType)) (av : List Value) (w : va_W) (post : S → Prop) (w1 : S → va_W) : Prop :=
  ∀ sz : Nat, Met l y ws { frames := fr, cells := mc, slots := ms, locals := lo } (va_Pc av (cB D tys w sz)) (va_Qv post (cE D tys w1 (va_A w sz)) (va_A w sz)) mc ms (va_A w sz)
def QM {S : Type} (below : List Frame) (args : Array Value) (s : State) (D : va_G) (tys : List (ClassId × FieldType)) (mc ms : Nat) (post : S → Prop) (w1 : S → va_W) (A : Nat → Prop) : State → Prop := MQ below (va_Qv post (cE D tys w1 A) A) args s mc ms A
theorem CtM.mk {S : Type} {l : Launch} {y : MethodName} {ws ws' : List Cond} {fr lo mc ms : Nat} {D : va_G} {tys : List (ClassId × FieldType)} {av : List Value} {w : va_W} {post : S → Prop} {w1 : S → va_W} {cc : ByteArray} {maxL : Nat} {ret : Option FieldType}
    (hy : plainName y.cls = true) (hw : ws = Cond.code y cc maxL ret :: ws') (hlen : (lg_sl av).length ≤ maxL)
    (body : ∀ (p : Program) (e : Env) (s : State) (m : MethodId) (below : List Frame) (meth : Method) (c : Code) (A : Nat → Prop) (ls : Array Slot) (R : Room) (args : Array Value) (Q : State → Prop),
      p.tables.exec = Jvm.exec → c.code = cc → c.maxLocals = maxL → meth.sig.returnType = ret → (∀ x ∈ ws, x.before args s = true) → s.vm.findClass y.cls = some m.cls → meth.locks = false → (∀ q, s.heap.size ≤ q → A q) →
      va_K D vwCl tys s → va_P D vwCl w s.heap → va_D A w → NW s → va_S A s.heap s.heap [] → lv_has ls maxL (lv_args 0 av) →
      meth.name = y.name → R.frames = fr → R.locals = lo → R.cells = mc → R.slots = ms → Q = QM below args s D tys mc ms post w1 A → W p l e R s m args below meth c s.heap [] 0 0 Q (F0 m 0 ls [])) : CtM l y ws fr lo mc ms D tys av w post w1 := by
  intro sz
  refine Met.ofW (cc := cc) (maxL := maxL) (ret := ret) hy hw ?_
  intro p e s m args below meth c s₁ B hml hv
  obtain ⟨rfl, hsz, hP, hK, hD0, hN⟩ := hv
  have hts := atoms_spec (ws := ws) B.pre
  subst hsz
  have hD := hD0.self (sz := s.heap.size)
  rw [lg_entry_eq]
  exact body p e s m below meth c (va_A w s.heap.size) _ _ _ _ B.exec B.bytes hml B.returns hts (findClass_of_methodNamed B.named) B.notSynchronized (fun q h => Or.inr h) hK hP hD hN va_S.rf (lv_entry av hlen) (name_of_methodNamed B.named B.method).1 rfl rfl rfl rfl rfl
section QMs
variable {p : Program} {l : Launch} {e : Env} {R : Room} {s : State} {m : MethodId} {args : Array Value} {below : List Frame} {meth : Method} {c : Code} {H : Heap} {locs : List Loc} {mc ms : Nat}
variable {cc : ByteArray} {pc : Nat} {ls : Array Slot}
variable {D : va_G} {tys : List (ClassId × FieldType)} {A : Nat → Prop}
theorem q_retM {S : Type} {post : S → Prop} {w1 : S → va_W} (u : S) (hx : p.tables.exec = Jvm.exec) (hb : c.code = cc) (hr : meth.sig.returnType = none) (hlocks : meth.locks = false) (hK : va_K D vwCl tys s) (hP : va_P D vwCl (w1 u) H) (hD : va_D A (w1 u)) (hS : va_S A s.heap H locs) (hdg : decode cc pc = .ok (.return_, 1)) (hpost : post u) : W p l e R s m args below meth c H locs mc ms (QM below args s D tys mc ms post w1 A) (F0 m pc ls []) :=
  W.vret hx hb hr (fun t ht hW => ⟨⟨u, rfl, hpost, by rw [ht]; exact hP, va_K.moved hW.alike hK, hD⟩, hS.F ht⟩) hS.2.2 hdg hlocks
end QMs

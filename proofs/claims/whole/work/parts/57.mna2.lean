theorem pl_all {l : List Nat} {f : Nat → va_E} {e : va_E} : va_pl ([] ++ l) (vr_up f l e) = l.map (fun a => (a, e)) := by
  unfold va_pl
  rw [List.nil_append]
  apply List.map_congr_left
  intro a ha
  rw [vr_up_in ha]
theorem six_q (r : Nat → Nat) : (fun i : Nat => if i < 6 then some (r i) else none) = fun k => [r 0, r 1, r 2, r 3, r 4, r 5][k]? := by
  funext i
  match i with
  | 0 | 1 | 2 | 3 | 4 | 5 => rfl
  | i + 6 => rw [if_neg (by omega)]; rfl
theorem thirteen_q (r : Nat → Nat) : (fun i : Nat => if i < 13 then some (r i) else none) = fun k => [r 0, r 1, r 2, r 3, r 4, r 5, r 6, r 7, r 8, r 9, r 10, r 11, r 12][k]? := by
  funext i
  match i with
  | 0 | 1 | 2 | 3 | 4 | 5 | 6 | 7 | 8 | 9 | 10 | 11 | 12 => rfl
  | i + 13 => rw [if_neg (by omega)]; rfl
theorem zero_rows (n : Nat) (cy : ClassId) : Jvm.Free.Multi.innerC cy n (defaultValue .int) = vp_cell cy (n, .inl (ia (fun _ => 0))) := by
  rw [vp_cell_i]
  exact arrV_new cy n (.int 0)
section QMN
variable {p : Program} {l : Launch} {e : Env} {R : Room} {s : State} {m : MethodId} {args : Array Value} {below : List Frame} {meth : Method} {c : Code} {H : Heap} {locs : List Loc} {cells slots : Nat} {Q : State → Prop}
variable {cc : ByteArray} {pc : Nat} {ls : Array Slot} {rest : List Value}
variable {D : va_G} {A : Nat → Prop} {ws : va_W} {cI cZ cII : ClassId}
/-- new int[n][k], n rows -/
theorem q_mna (hx : p.tables.exec = Jvm.exec) (hb : c.code = cc) {own : String} {index : Nat} (hown : s.vm.findClass own = some m.cls) (hclink : (Cond.classLink own index "[[I").before args s = true) (hover : va_AOA .int s) (harr : (Cond.arrayClass .int).before args s = true)
    (hK : va_K D vwCl (ty3 cI cZ cII) s) (hP : va_P D vwCl ws H) (hD : va_D A ws) (hS : va_S A s.heap H locs) (hA : ∀ q, s.heap.size ≤ q → A q) {n k : Int} (N' K' : Nat) (G : (Nat → Nat) → Nat → Option Nat) (hG : ∀ r : Nat → Nat, (fun i : Nat => if i < N' then some (r i) else none) = G r) (hn : ¬ iI n < 0) (hk : ¬ iI k < 0) (hN : (iI n).toNatClampNeg = N') (hM : (iI k).toNatClampNeg = K')
    (hb1 : N' * 4 ≤ 536870912) (hb2 : K' * 4 ≤ 536870912) (hb3 : K' ≤ 536870912) (hcells : cells + (1 + N') ≤ R.cells) (hslots : slots + (N' + N' * K') ≤ R.slots) (hdg : decode cc pc = .ok (.multianewarray index 2, 4))
    (kk : ∀ (q : Nat) (r : Nat → Nat) (H1 : Heap),
      va_P D vwCl ((ws ++ [(q, .inl (cII, N', .inr (.inr (.inr (.inr (G r))))))]) ++ ((List.range N').map r).map (fun a => (a, .inl (cI, K', .inl (ia (fun _ => 0)))))) H1 →
      va_D A ((ws ++ [(q, .inl (cII, N', .inr (.inr (.inr (.inr (G r))))))]) ++ ((List.range N').map r).map (fun a => (a, .inl (cI, K', .inl (ia (fun _ => 0)))))) → va_S A s.heap H1 locs →
      W p l e R s m args below meth c H1 locs (cells + 1 + N') (slots + N' + N' * K') Q (F0 m (pc + 4) ls (.ref q :: rest))) : W p l e R s m args below meth c H locs cells slots Q (F0 m pc ls (.int (iI k) :: .int (iI n) :: rest)) := by
  have e0 : ("[" ++ (FieldType.array .int).toString) = "[[I" := by decide +kernel
  have eI : va_RA s cI .int := (hK.2 0 (cI, .int) rfl).2
  refine va_mna (X := ws) (L := []) (f := fun _ => .inl (cI, K', .inl (ia (fun _ => 0)))) (ty := .int) (cy := cI) (z := (K', .inl (ia (fun _ => 0)))) hx hb hown (by rw [e0]; exact hclink) hover harr eI hK (by exact (List.append_nil ws).symm ▸ hP) (by exact (List.append_nil ws).symm ▸ hD) hS hA hn hk hN hM hb1 hb2 hb3 rfl rfl hcells hslots (fun cy => zero_rows K' cy) hdg (fun q r cA H1 _ _ hK1 hP1 hD1 hS1 => ?_)
  have e1 := (hK1.2 3 (cA, .array .int) rfl).2
  have e2 := (hK1.2 2 (cII, .array .int) rfl).2
  have e : cA = cII := Option.some.inj (e1.symm.trans e2)
  subst e
  rw [pl_all] at hP1 hD1
  exact kk q r H1 ((congrArg (fun F : Nat → Option Nat => va_P D vwCl ((ws ++ [(q, .inl (cA, N', .inr (.inr (.inr (.inr F)))))]) ++ ((List.range N').map r).map (fun a => (a, .inl (cI, K', .inl (ia (fun _ => 0)))))) H1) (hG r)).mp hP1)
    ((congrArg (fun F : Nat → Option Nat => va_D A ((ws ++ [(q, .inl (cA, N', .inr (.inr (.inr (.inr F)))))]) ++ ((List.range N').map r).map (fun a => (a, .inl (cI, K', .inl (ia (fun _ => 0))))))) (hG r)).mp hD1) hS1
end QMN

set_option maxHeartbeats 4000000 in
set_option maxRecDepth 100000 in
/-- within -/
theorem c_X6_within (l : Launch) (D : va_G) (cI cZ cII : ClassId) (v : Int) (lo : Int) (hi : Int) (hp_v : IR v) (hp_lo : IR lo) (hp_hi : IR hi) : CtI l yX6_within wsX6_within 0 0 D (ty3 cI cZ cII) [.int (iI v), .int (iI lo), .int (iI hi)] [] (fun z (u : Unit) => (z = 1 ∧ (lo ≤ v ∧ v ≤ hi)) ∨ (z = 0 ∧ ¬ (lo ≤ v ∧ v ≤ hi))) (fun u => []) := by
  refine CtI.mk (cc := cX6_within) (maxL := 3) (ret := (some .boolean)) (by decide) rfl (Nat.le_of_ble_eq_true rfl) ?_
  intro p e s m below meth c A ls R args Q hx hb hml hr hts hown hlocks hA hK hP hD hN hS hl hRf hRl hQ
  have hl : lv_has ls 3 [(0, .int (iI v)), (1, .int (iI lo)), (2, .int (iI hi))] := hl
  have hown : s.vm.findClass RX6 = some m.cls := hown
  refine lv_iload_n hx hb dX6_within_0 rfl (lv_at hl 0 rfl) ?_
  refine lv_iload_n hx hb dX6_within_1 rfl (lv_at hl 1 rfl) ?_
  refine q_icmp_lt (tgt := 14) hx hb dX6_within_2 (by decide) ⟨by omega, by omega⟩ ⟨by omega, by omega⟩ (fun c2 => ?_) (fun c2 => ?_)
  ·
    refine lv_iconst (v := iI 0) hx hb dX6_within_14 rfl ?_
    rw [hQ]
    refine q_retZ () hx hb hr hlocks hK hP hD hS dX6_within_15 (by omega) ?_
    omega
  ·
    refine lv_iload_n hx hb dX6_within_5 rfl (lv_at hl 0 rfl) ?_
    refine lv_iload_n hx hb dX6_within_6 rfl (lv_at hl 2 rfl) ?_
    refine q_icmp_gt (tgt := 14) hx hb dX6_within_7 (by decide) ⟨by omega, by omega⟩ ⟨by omega, by omega⟩ (fun c7 => ?_) (fun c7 => ?_)
    ·
      refine lv_iconst (v := iI 0) hx hb dX6_within_14 rfl ?_
      rw [hQ]
      refine q_retZ () hx hb hr hlocks hK hP hD hS dX6_within_15 (by omega) ?_
      omega
    ·
      refine lv_iconst (v := iI 1) hx hb dX6_within_10 rfl ?_
      refine lv_goto (tgt := 15) hx hb dX6_within_11 (by decide) ?_
      rw [hQ]
      refine q_retZ () hx hb hr hlocks hK hP hD hS dX6_within_15 (by omega) ?_
      omega

theorem in_X3_begin_X3 : ∀ w ∈ wsX30, w ∈ wsX3_begin := fun _ h => List.mem_cons_of_mem _ (List.mem_append_right _ h)
theorem lk_X3_begin_1 : Cond.fieldLink RX3 9 "MoreHands$Servers" "states" "[I" ∈ wsX3_begin := List.mem_of_getElem? (i := 1) rfl
set_option maxHeartbeats 4000000 in
set_option maxRecDepth 100000 in
theorem c_X3_begin (l : Launch) (D : va_G) (cI cZ cII : ClassId) (sv : Nat) (ss : Nat) (sb : Nat) (st : Int → Int) (bg : Int → Int) (hB_st : BB 0 3 st) (hB_bg : BB 0 200 bg) : CtV l yX3_begin wsX3_begin 0 0 D (ty3 cI cZ cII) [.ref sv] [(sv, .inr (3, [.ref ss, .ref sb])), (ss, .inl (cI, 12, .inl (ia st))), (sb, .inl (cI, 12, .inl (ia bg)))] (fun (u : (Int → Int)) => u = fl (fun _ => true) 0 st 0 12 ∧ BB 0 3 u) (fun u => [(sv, .inr (3, [.ref ss, .ref sb])), (ss, .inl (cI, 12, .inl (ia u))), (sb, .inl (cI, 12, .inl (ia bg)))]) := by
  refine CtV.mk (cc := cX3_begin) (maxL := 2) (ret := none) (by decide) rfl (Nat.le_of_ble_eq_true rfl) ?_
  intro p e s m below meth c A ls R args Q hx hb hml hr hts hown hlocks hA hK hP hD hN hS hl hRf hRl hQ
  have hl : lv_has ls 2 [(0, .ref sv)] := hl
  have hown : s.vm.findClass RX3 = some m.cls := hown
  refine lv_iconst (v := iI 0) hx hb dX3_begin_0 rfl ?_
  refine lv_istore_n (lv' := [(1, .int (iI 0)), (0, .ref sv)]) hx hb dX3_begin_1 rfl hl (by decide) rfl (fun ls hl => ?_)
  have L2_0 : ∀ (n : Nat), ∀ (k : Int) (st1 : Int → Int), (hB_st1 : BB 0 3 st1) → (hk : 0 ≤ k ∧ k ≤ 12) → (hz : st1 = fl (fun _ => true) 0 st 0 k) → (12 - k) < (n : Int) → ∀ (H : Heap) (locs : List Loc), va_P D vwCl [(sv, .inr (3, [.ref ss, .ref sb])), (ss, .inl (cI, 12, .inl (ia st1))), (sb, .inl (cI, 12, .inl (ia bg)))] H → va_D A [(sv, .inr (3, [.ref ss, .ref sb])), (ss, .inl (cI, 12, .inl (ia st1))), (sb, .inl (cI, 12, .inl (ia bg)))] → va_S A s.heap H locs → ∀ ls : Array Slot, lv_has ls 2 [(0, .ref sv), (1, .int (iI k))] → W p l e R s m args below meth c H locs 0 0 Q (F0 m 2 ls []) := by
    intro n
    induction n with
    | zero => intro k st1 hB_st1 hk hz hm; exact absurd hm (by omega)
    | succ n ih =>
      intro k st1 hB_st1 hk hz hm H locs hP hD hS ls hl
      refine lv_iload_n hx hb dX3_begin_2 rfl (lv_at hl 1 rfl) ?_
      refine lv_bipush (v := iI 12) hx hb dX3_begin_3 (by decide +kernel) ?_
      refine q_icmp_ge (tgt := 21) hx hb dX3_begin_5 (by decide) ⟨by omega, by omega⟩ ⟨by decide, by decide⟩ (fun c5 => ?_) (fun c5 => ?_)
      ·
        rw [hQ]
        refine q_retV st1 hx hb hr hlocks hK hP hD hS dX3_begin_21 ?_
        try dsimp only
        exact ⟨by rw [hz, show k = 12 by omega], hB_st1⟩
      ·
        refine lv_aload_n hx hb dX3_begin_8 rfl (lv_at hl 0 rfl) ?_
        refine va_get (D := D) (ci := 3) (v := .ref ss) (C := RX3) (T := TX3) (N := 2) hx hb hts in_X3_begin_X3 hown hK hP 0 rfl rfl 0 (by decide) (hts _ lk_X3_begin_1) (fun _ h9 => h9) rfl dX3_begin_9 ?_
        refine lv_iload_n hx hb dX3_begin_12 rfl (lv_at hl 1 rfl) ?_
        refine lv_iconst (v := iI 0) hx hb dX3_begin_13 rfl ?_
        refine q_iast hx hb hK hP hD hS 1 0 rfl rfl (by omega) (by omega) (by decide) dX3_begin_14 (fun H locs hP hD hS => ?_)
        have hP : va_P D vwCl [(sv, .inr (3, [.ref ss, .ref sb])), (ss, .inl (cI, 12, .inl (ia (uI st1 k 0)))), (sb, .inl (cI, 12, .inl (ia bg)))] H := hP
        have hD : va_D A [(sv, .inr (3, [.ref ss, .ref sb])), (ss, .inl (cI, 12, .inl (ia (uI st1 k 0)))), (sb, .inl (cI, 12, .inl (ia bg)))] := hD
        have hB_1 : BB 0 3 (uI st1 k 0) := BB_uI hB_st1 (by omega)
        refine q_iinc (k := 1) (lv' := [(1, .int (iI (k + 1))), (0, .ref sv)]) hx hb dX3_begin_15 hl rfl (by decide) rfl (fun ls hl => ?_)
        refine lv_goto (tgt := 2) hx hb dX3_begin_18 (by decide) ?_
        exact ih  (k + 1) (uI st1 k 0) hB_1 (by omega) (by rw [hz]; exact fl_hi1 hk.1 rfl) (by omega) _ _ hP hD hS _ (lv_sub hl [1, 0] rfl)
  exact L2_0 100 0 st hB_st (by omega) (by rw [fl_nil (by omega)]) (by omega) _ _ hP hD hS _ (lv_sub hl [1, 0] rfl)

theorem in_X3_stateOf_X3 : ∀ w ∈ wsX30, w ∈ wsX3_stateOf := fun _ h => List.mem_cons_of_mem _ (List.mem_append_right _ h)
theorem lk_X3_stateOf_1 : Cond.fieldLink RX3 9 "MoreHands$Servers" "states" "[I" ∈ wsX3_stateOf := List.mem_of_getElem? (i := 1) rfl
theorem lk_X3_stateOf_2 : Cond.static yX6_within ∈ wsX3_stateOf := List.mem_of_getElem? (i := 2) rfl
theorem lk_X3_stateOf_3 : Cond.initialized RX6 ∈ wsX3_stateOf := List.mem_of_getElem? (i := 3) rfl
set_option maxHeartbeats 4000000 in
set_option maxRecDepth 100000 in
theorem c_X3_stateOf (l : Launch) (D : va_G) (cI cZ cII : ClassId) (sv : Nat) (ss : Nat) (sb : Nat) (st : Int → Int) (bg : Int → Int) (k : Int) (hB_st : BB 0 3 st) (hB_bg : BB 0 200 bg) (hp_k : IR k) : CtI l yX3_stateOf wsX3_stateOf 1 22 D (ty3 cI cZ cII) [.ref sv, .int (iI k)] [(sv, .inr (3, [.ref ss, .ref sb])), (ss, .inl (cI, 12, .inl (ia st))), (sb, .inl (cI, 12, .inl (ia bg)))] (fun z (u : Unit) => z = if 0 ≤ k ∧ k ≤ 11 then st k else -1001) (fun u => [(sv, .inr (3, [.ref ss, .ref sb])), (ss, .inl (cI, 12, .inl (ia st))), (sb, .inl (cI, 12, .inl (ia bg)))]) := by
  refine CtI.mk (cc := cX3_stateOf) (maxL := 2) (ret := (some .int)) (by decide) rfl (Nat.le_of_ble_eq_true rfl) ?_
  intro p e s m below meth c A ls R args Q hx hb hml hr hts hown hlocks hA hK hP hD hN hS hl hRf hRl hQ
  have hl : lv_has ls 2 [(0, .ref sv), (1, .int (iI k))] := hl
  have hown : s.vm.findClass RX3 = some m.cls := hown
  refine lv_iload_n hx hb dX3_stateOf_0 rfl (lv_at hl 1 rfl) ?_
  refine lv_iconst (v := iI 0) hx hb dX3_stateOf_1 rfl ?_
  refine lv_bipush (v := iI 11) hx hb dX3_stateOf_2 (by decide +kernel) ?_
  refine q_callNI (wr := [(sv, .inr (3, [.ref ss, .ref sb])), (ss, .inl (cI, 12, .inl (ia st))), (sb, .inl (cI, 12, .inl (ia bg)))]) (wn := fun (u : Unit) => [(sv, .inr (3, [.ref ss, .ref sb])), (ss, .inl (cI, 12, .inl (ia st))), (sb, .inl (cI, 12, .inl (ia bg)))]) (rest := []) [.int (iI k), .int (iI 0), .int (iI 11)] ⟨hx, hb, hml, hown, hts⟩ (c_X6_within l D cI cZ cII k 0 11 ⟨by omega, by omega⟩ ⟨by omega, by omega⟩ ⟨by omega, by omega⟩) ⟨va_cnB 3 hts gX3_stateOf_X6_within_n18 rfl rfl rfl hN.2.2.1 (hts _ lk_X3_stateOf_3) (by decide +kernel) (by rw [hRf, hRl]; exact ⟨Nat.le_of_ble_eq_true rfl, Nat.le_of_ble_eq_true rfl⟩), (hts _ lk_X3_stateOf_2), trivial⟩ hK hP hD hS hA hN [] [0, 1, 2] [0, 1, 2] rfl rfl rfl rfl (by decide) rfl (fun u => rfl) rfl hl.1 rfl (Nat.le_of_ble_eq_true rfl) dX3_stateOf_4 ⟨Nat.zero_le _, Nat.zero_le _⟩ (fun z u H locs hw hP hD hS => ?_)
  have hP : va_P D vwCl [(sv, .inr (3, [.ref ss, .ref sb])), (ss, .inl (cI, 12, .inl (ia st))), (sb, .inl (cI, 12, .inl (ia bg)))] H := hP
  have hD : va_D A [(sv, .inr (3, [.ref ss, .ref sb])), (ss, .inl (cI, 12, .inl (ia st))), (sb, .inl (cI, 12, .inl (ia bg)))] := hD
  obtain ⟨z_1, ez⟩ : ∃ y : Int, y = z := ⟨_, rfl⟩
  rw [← ez] at hw ⊢
  clear ez
  rcases hw with ⟨rfl, w4⟩ | ⟨rfl, w4⟩
  ·
    refine q_if_eq (tgt := 19) hx hb dX3_stateOf_7 (by decide) ⟨by decide, by decide⟩ (fun h => absurd h (by decide)) (fun _ => ?_)
    refine lv_aload_n hx hb dX3_stateOf_10 rfl (lv_at hl 0 rfl) ?_
    refine va_get (D := D) (ci := 3) (v := .ref ss) (C := RX3) (T := TX3) (N := 2) hx hb hts in_X3_stateOf_X3 hown hK hP 0 rfl rfl 0 (by decide) (hts _ lk_X3_stateOf_1) (fun _ h9 => h9) rfl dX3_stateOf_11 ?_
    refine lv_iload_n hx hb dX3_stateOf_14 rfl (lv_at hl 1 rfl) ?_
    refine q_iald hx hb hK hP 1 0 rfl rfl (by omega) (by omega) (by decide) dX3_stateOf_15 ?_
    have hb15 := hB_st k
    refine lv_goto (tgt := 22) hx hb dX3_stateOf_16 (by decide) ?_
    rw [hQ]
    refine q_retI () hx hb hr hlocks hK hP hD hS dX3_stateOf_22 ?_
    omega
  ·
    refine q_if_eq (tgt := 19) hx hb dX3_stateOf_7 (by decide) ⟨by decide, by decide⟩ (fun _ => ?_) (fun h => absurd h (by decide))
    refine lv_sipush (v := iI (-1001)) hx hb dX3_stateOf_19 (by decide +kernel) ?_
    rw [hQ]
    refine q_retI () hx hb hr hlocks hK hP hD hS dX3_stateOf_22 ?_
    omega

theorem in_X3_ticksBehind_X3 : ∀ w ∈ wsX30, w ∈ wsX3_ticksBehind := fun _ h => List.mem_cons_of_mem _ (List.mem_append_right _ h)
theorem lk_X3_ticksBehind_1 : Cond.fieldLink RX3 9 "MoreHands$Servers" "states" "[I" ∈ wsX3_ticksBehind := List.mem_of_getElem? (i := 1) rfl
theorem lk_X3_ticksBehind_2 : Cond.fieldLink RX3 15 "MoreHands$Servers" "began" "[I" ∈ wsX3_ticksBehind := List.mem_of_getElem? (i := 2) rfl
theorem lk_X3_ticksBehind_3 : Cond.static yX6_within ∈ wsX3_ticksBehind := List.mem_of_getElem? (i := 3) rfl
theorem lk_X3_ticksBehind_4 : Cond.initialized RX6 ∈ wsX3_ticksBehind := List.mem_of_getElem? (i := 4) rfl
set_option maxHeartbeats 4000000 in
set_option maxRecDepth 100000 in
theorem c_X3_ticksBehind (l : Launch) (D : va_G) (cI cZ cII : ClassId) (sv : Nat) (ss : Nat) (sb : Nat) (st : Int → Int) (bg : Int → Int) (k : Int) (t : Int) (hB_st : BB 0 3 st) (hB_bg : BB 0 200 bg) (hp_k : IR k) (hp_t : 0 ≤ t ∧ t ≤ 200) : CtI l yX3_ticksBehind wsX3_ticksBehind 1 22 D (ty3 cI cZ cII) [.ref sv, .int (iI k), .int (iI t)] [(sv, .inr (3, [.ref ss, .ref sb])), (ss, .inl (cI, 12, .inl (ia st))), (sb, .inl (cI, 12, .inl (ia bg)))] (fun z (u : Unit) => z = if 0 ≤ k ∧ k ≤ 11 then (if st k = 1 ∨ st k = 3 then t - 1 - bg k else 0) else -1001) (fun u => [(sv, .inr (3, [.ref ss, .ref sb])), (ss, .inl (cI, 12, .inl (ia st))), (sb, .inl (cI, 12, .inl (ia bg)))]) := by
  refine CtI.mk (cc := cX3_ticksBehind) (maxL := 4) (ret := (some .int)) (by decide) rfl (Nat.le_of_ble_eq_true rfl) ?_
  intro p e s m below meth c A ls R args Q hx hb hml hr hts hown hlocks hA hK hP hD hN hS hl hRf hRl hQ
  have hl : lv_has ls 4 [(0, .ref sv), (1, .int (iI k)), (2, .int (iI t))] := hl
  have hown : s.vm.findClass RX3 = some m.cls := hown
  refine lv_iload_n hx hb dX3_ticksBehind_0 rfl (lv_at hl 1 rfl) ?_
  refine lv_iconst (v := iI 0) hx hb dX3_ticksBehind_1 rfl ?_
  refine lv_bipush (v := iI 11) hx hb dX3_ticksBehind_2 (by decide +kernel) ?_
  refine q_callNI (wr := [(sv, .inr (3, [.ref ss, .ref sb])), (ss, .inl (cI, 12, .inl (ia st))), (sb, .inl (cI, 12, .inl (ia bg)))]) (wn := fun (u : Unit) => [(sv, .inr (3, [.ref ss, .ref sb])), (ss, .inl (cI, 12, .inl (ia st))), (sb, .inl (cI, 12, .inl (ia bg)))]) (rest := []) [.int (iI k), .int (iI 0), .int (iI 11)] ⟨hx, hb, hml, hown, hts⟩ (c_X6_within l D cI cZ cII k 0 11 ⟨by omega, by omega⟩ ⟨by omega, by omega⟩ ⟨by omega, by omega⟩) ⟨va_cnB 3 hts gX3_ticksBehind_X6_within_n18 rfl rfl rfl hN.2.2.1 (hts _ lk_X3_ticksBehind_4) (by decide +kernel) (by rw [hRf, hRl]; exact ⟨Nat.le_of_ble_eq_true rfl, Nat.le_of_ble_eq_true rfl⟩), (hts _ lk_X3_ticksBehind_3), trivial⟩ hK hP hD hS hA hN [] [0, 1, 2] [0, 1, 2] rfl rfl rfl rfl (by decide) rfl (fun u => rfl) rfl hl.1 rfl (Nat.le_of_ble_eq_true rfl) dX3_ticksBehind_4 ⟨Nat.zero_le _, Nat.zero_le _⟩ (fun z u H locs hw hP hD hS => ?_)
  have hP : va_P D vwCl [(sv, .inr (3, [.ref ss, .ref sb])), (ss, .inl (cI, 12, .inl (ia st))), (sb, .inl (cI, 12, .inl (ia bg)))] H := hP
  have hD : va_D A [(sv, .inr (3, [.ref ss, .ref sb])), (ss, .inl (cI, 12, .inl (ia st))), (sb, .inl (cI, 12, .inl (ia bg)))] := hD
  obtain ⟨z_1, ez⟩ : ∃ y : Int, y = z := ⟨_, rfl⟩
  rw [← ez] at hw ⊢
  clear ez
  rcases hw with ⟨rfl, w4⟩ | ⟨rfl, w4⟩
  ·
    refine q_if_ne (tgt := 14) hx hb dX3_ticksBehind_7 (by decide) ⟨by decide, by decide⟩ (fun _ => ?_) (fun h => absurd h (by decide))
    refine lv_aload_n hx hb dX3_ticksBehind_14 rfl (lv_at hl 0 rfl) ?_
    refine va_get (D := D) (ci := 3) (v := .ref ss) (C := RX3) (T := TX3) (N := 2) hx hb hts in_X3_ticksBehind_X3 hown hK hP 0 rfl rfl 0 (by decide) (hts _ lk_X3_ticksBehind_1) (fun _ h9 => h9) rfl dX3_ticksBehind_15 ?_
    refine lv_iload_n hx hb dX3_ticksBehind_18 rfl (lv_at hl 1 rfl) ?_
    refine q_iald hx hb hK hP 1 0 rfl rfl (by omega) (by omega) (by decide) dX3_ticksBehind_19 ?_
    have hb19 := hB_st k
    refine lv_iconst (v := iI 1) hx hb dX3_ticksBehind_20 rfl ?_
    refine q_icmp_eq (tgt := 34) hx hb dX3_ticksBehind_21 (by decide) ⟨by omega, by omega⟩ ⟨by decide, by decide⟩ (fun c21 => ?_) (fun c21 => ?_)
    ·
      refine lv_iconst (v := iI 1) hx hb dX3_ticksBehind_34 rfl ?_
      refine lv_goto (tgt := 39) hx hb dX3_ticksBehind_35 (by decide) ?_
      refine lv_istore_n (lv' := [(3, .int (iI 1)), (0, .ref sv), (1, .int (iI k)), (2, .int (iI t))]) hx hb dX3_ticksBehind_39 rfl hl (by decide) rfl (fun ls hl => ?_)
      refine lv_iload_n hx hb dX3_ticksBehind_40 rfl (lv_at hl 0 rfl) ?_
      refine q_if_eq (tgt := 57) hx hb dX3_ticksBehind_41 (by decide) ⟨by decide, by decide⟩ (fun h => absurd h (by decide)) (fun _ => ?_)
      refine lv_iload_n hx hb dX3_ticksBehind_44 rfl (lv_at hl 3 rfl) ?_
      refine lv_iconst (v := iI 1) hx hb dX3_ticksBehind_45 rfl ?_
      refine q_isub hx hb dX3_ticksBehind_46 ?_
      refine lv_aload_n hx hb dX3_ticksBehind_47 rfl (lv_at hl 1 rfl) ?_
      refine va_get (D := D) (ci := 3) (v := .ref sb) (C := RX3) (T := TX3) (N := 2) hx hb hts in_X3_ticksBehind_X3 hown hK hP 0 rfl rfl 1 (by decide) (hts _ lk_X3_ticksBehind_2) (fun _ h9 => h9) rfl dX3_ticksBehind_48 ?_
      refine lv_iload_n hx hb dX3_ticksBehind_51 rfl (lv_at hl 2 rfl) ?_
      refine q_iald hx hb hK hP 2 0 rfl rfl (by omega) (by omega) (by decide) dX3_ticksBehind_52 ?_
      have hb52 := hB_bg k
      refine q_isub hx hb dX3_ticksBehind_53 ?_
      refine lv_goto (tgt := 58) hx hb dX3_ticksBehind_54 (by decide) ?_
      rw [hQ]
      refine q_retI () hx hb hr hlocks hK hP hD hS dX3_ticksBehind_58 ?_
      omega
    ·
      refine lv_aload_n hx hb dX3_ticksBehind_24 rfl (lv_at hl 0 rfl) ?_
      refine va_get (D := D) (ci := 3) (v := .ref ss) (C := RX3) (T := TX3) (N := 2) hx hb hts in_X3_ticksBehind_X3 hown hK hP 0 rfl rfl 0 (by decide) (hts _ lk_X3_ticksBehind_1) (fun _ h9 => h9) rfl dX3_ticksBehind_25 ?_
      refine lv_iload_n hx hb dX3_ticksBehind_28 rfl (lv_at hl 1 rfl) ?_
      refine q_iald hx hb hK hP 1 0 rfl rfl (by omega) (by omega) (by decide) dX3_ticksBehind_29 ?_
      have hb29 := hB_st k
      refine lv_iconst (v := iI 3) hx hb dX3_ticksBehind_30 rfl ?_
      refine q_icmp_ne (tgt := 38) hx hb dX3_ticksBehind_31 (by decide) ⟨by omega, by omega⟩ ⟨by decide, by decide⟩ (fun c31 => ?_) (fun c31 => ?_)
      ·
        refine lv_iconst (v := iI 0) hx hb dX3_ticksBehind_38 rfl ?_
        refine lv_istore_n (lv' := [(3, .int (iI 0)), (0, .ref sv), (1, .int (iI k)), (2, .int (iI t))]) hx hb dX3_ticksBehind_39 rfl hl (by decide) rfl (fun ls hl => ?_)
        refine lv_iload_n hx hb dX3_ticksBehind_40 rfl (lv_at hl 0 rfl) ?_
        refine q_if_eq (tgt := 57) hx hb dX3_ticksBehind_41 (by decide) ⟨by decide, by decide⟩ (fun _ => ?_) (fun h => absurd h (by decide))
        refine lv_iconst (v := iI 0) hx hb dX3_ticksBehind_57 rfl ?_
        rw [hQ]
        refine q_retI () hx hb hr hlocks hK hP hD hS dX3_ticksBehind_58 ?_
        omega
      ·
        refine lv_iconst (v := iI 1) hx hb dX3_ticksBehind_34 rfl ?_
        refine lv_goto (tgt := 39) hx hb dX3_ticksBehind_35 (by decide) ?_
        refine lv_istore_n (lv' := [(3, .int (iI 1)), (0, .ref sv), (1, .int (iI k)), (2, .int (iI t))]) hx hb dX3_ticksBehind_39 rfl hl (by decide) rfl (fun ls hl => ?_)
        refine lv_iload_n hx hb dX3_ticksBehind_40 rfl (lv_at hl 0 rfl) ?_
        refine q_if_eq (tgt := 57) hx hb dX3_ticksBehind_41 (by decide) ⟨by decide, by decide⟩ (fun h => absurd h (by decide)) (fun _ => ?_)
        refine lv_iload_n hx hb dX3_ticksBehind_44 rfl (lv_at hl 3 rfl) ?_
        refine lv_iconst (v := iI 1) hx hb dX3_ticksBehind_45 rfl ?_
        refine q_isub hx hb dX3_ticksBehind_46 ?_
        refine lv_aload_n hx hb dX3_ticksBehind_47 rfl (lv_at hl 1 rfl) ?_
        refine va_get (D := D) (ci := 3) (v := .ref sb) (C := RX3) (T := TX3) (N := 2) hx hb hts in_X3_ticksBehind_X3 hown hK hP 0 rfl rfl 1 (by decide) (hts _ lk_X3_ticksBehind_2) (fun _ h9 => h9) rfl dX3_ticksBehind_48 ?_
        refine lv_iload_n hx hb dX3_ticksBehind_51 rfl (lv_at hl 2 rfl) ?_
        refine q_iald hx hb hK hP 2 0 rfl rfl (by omega) (by omega) (by decide) dX3_ticksBehind_52 ?_
        have hb52 := hB_bg k
        refine q_isub hx hb dX3_ticksBehind_53 ?_
        refine lv_goto (tgt := 58) hx hb dX3_ticksBehind_54 (by decide) ?_
        rw [hQ]
        refine q_retI () hx hb hr hlocks hK hP hD hS dX3_ticksBehind_58 ?_
        omega
  ·
    refine q_if_ne (tgt := 14) hx hb dX3_ticksBehind_7 (by decide) ⟨by decide, by decide⟩ (fun h => absurd h (by decide)) (fun _ => ?_)
    refine lv_sipush (v := iI (-1001)) hx hb dX3_ticksBehind_10 (by decide +kernel) ?_
    rw [hQ]
    refine q_retI () hx hb hr hlocks hK hP hD hS dX3_ticksBehind_13 ?_
    omega

theorem in_X3_takeOut_X3 : ∀ w ∈ wsX30, w ∈ wsX3_takeOut := fun _ h => List.mem_cons_of_mem _ (List.mem_append_right _ h)
theorem lk_X3_takeOut_1 : Cond.fieldLink RX3 9 "MoreHands$Servers" "states" "[I" ∈ wsX3_takeOut := List.mem_of_getElem? (i := 1) rfl
theorem lk_X3_takeOut_2 : Cond.static yX6_within ∈ wsX3_takeOut := List.mem_of_getElem? (i := 2) rfl
theorem lk_X3_takeOut_3 : Cond.initialized RX6 ∈ wsX3_takeOut := List.mem_of_getElem? (i := 3) rfl
set_option maxHeartbeats 4000000 in
set_option maxRecDepth 100000 in
theorem c_X3_takeOut (l : Launch) (D : va_G) (cI cZ cII : ClassId) (sv : Nat) (ss : Nat) (sb : Nat) (st : Int → Int) (bg : Int → Int) (k : Int) (hB_st : BB 0 3 st) (hB_bg : BB 0 200 bg) (hp_k : IR k) : CtI l yX3_takeOut wsX3_takeOut 1 22 D (ty3 cI cZ cII) [.ref sv, .int (iI k)] [(sv, .inr (3, [.ref ss, .ref sb])), (ss, .inl (cI, 12, .inl (ia st))), (sb, .inl (cI, 12, .inl (ia bg)))] (fun z (u : (Int → Int)) => (z = if 0 ≤ k ∧ k ≤ 11 then st k else -1001) ∧ u = (if 0 ≤ k ∧ k ≤ 11 then uI st k 0 else st) ∧ BB 0 3 u) (fun u => [(sv, .inr (3, [.ref ss, .ref sb])), (ss, .inl (cI, 12, .inl (ia u))), (sb, .inl (cI, 12, .inl (ia bg)))]) := by
  refine CtI.mk (cc := cX3_takeOut) (maxL := 3) (ret := (some .int)) (by decide) rfl (Nat.le_of_ble_eq_true rfl) ?_
  intro p e s m below meth c A ls R args Q hx hb hml hr hts hown hlocks hA hK hP hD hN hS hl hRf hRl hQ
  have hl : lv_has ls 3 [(0, .ref sv), (1, .int (iI k))] := hl
  have hown : s.vm.findClass RX3 = some m.cls := hown
  refine lv_iload_n hx hb dX3_takeOut_0 rfl (lv_at hl 1 rfl) ?_
  refine lv_iconst (v := iI 0) hx hb dX3_takeOut_1 rfl ?_
  refine lv_bipush (v := iI 11) hx hb dX3_takeOut_2 (by decide +kernel) ?_
  refine q_callNI (wr := [(sv, .inr (3, [.ref ss, .ref sb])), (ss, .inl (cI, 12, .inl (ia st))), (sb, .inl (cI, 12, .inl (ia bg)))]) (wn := fun (u : Unit) => [(sv, .inr (3, [.ref ss, .ref sb])), (ss, .inl (cI, 12, .inl (ia st))), (sb, .inl (cI, 12, .inl (ia bg)))]) (rest := []) [.int (iI k), .int (iI 0), .int (iI 11)] ⟨hx, hb, hml, hown, hts⟩ (c_X6_within l D cI cZ cII k 0 11 ⟨by omega, by omega⟩ ⟨by omega, by omega⟩ ⟨by omega, by omega⟩) ⟨va_cnB 3 hts gX3_takeOut_X6_within_n18 rfl rfl rfl hN.2.2.1 (hts _ lk_X3_takeOut_3) (by decide +kernel) (by rw [hRf, hRl]; exact ⟨Nat.le_of_ble_eq_true rfl, Nat.le_of_ble_eq_true rfl⟩), (hts _ lk_X3_takeOut_2), trivial⟩ hK hP hD hS hA hN [] [0, 1, 2] [0, 1, 2] rfl rfl rfl rfl (by decide) rfl (fun u => rfl) rfl hl.1 rfl (Nat.le_of_ble_eq_true rfl) dX3_takeOut_4 ⟨Nat.zero_le _, Nat.zero_le _⟩ (fun z u H locs hw hP hD hS => ?_)
  have hP : va_P D vwCl [(sv, .inr (3, [.ref ss, .ref sb])), (ss, .inl (cI, 12, .inl (ia st))), (sb, .inl (cI, 12, .inl (ia bg)))] H := hP
  have hD : va_D A [(sv, .inr (3, [.ref ss, .ref sb])), (ss, .inl (cI, 12, .inl (ia st))), (sb, .inl (cI, 12, .inl (ia bg)))] := hD
  obtain ⟨z_1, ez⟩ : ∃ y : Int, y = z := ⟨_, rfl⟩
  rw [← ez] at hw ⊢
  clear ez
  rcases hw with ⟨rfl, w4⟩ | ⟨rfl, w4⟩
  ·
    refine q_if_ne (tgt := 14) hx hb dX3_takeOut_7 (by decide) ⟨by decide, by decide⟩ (fun _ => ?_) (fun h => absurd h (by decide))
    refine lv_aload_n hx hb dX3_takeOut_14 rfl (lv_at hl 0 rfl) ?_
    refine va_get (D := D) (ci := 3) (v := .ref ss) (C := RX3) (T := TX3) (N := 2) hx hb hts in_X3_takeOut_X3 hown hK hP 0 rfl rfl 0 (by decide) (hts _ lk_X3_takeOut_1) (fun _ h9 => h9) rfl dX3_takeOut_15 ?_
    refine lv_iload_n hx hb dX3_takeOut_18 rfl (lv_at hl 1 rfl) ?_
    refine q_iald hx hb hK hP 1 0 rfl rfl (by omega) (by omega) (by decide) dX3_takeOut_19 ?_
    have hb19 := hB_st k
    refine lv_istore_n (lv' := [(2, .int (iI (st k))), (0, .ref sv), (1, .int (iI k))]) hx hb dX3_takeOut_20 rfl hl (by decide) rfl (fun ls hl => ?_)
    refine lv_aload_n hx hb dX3_takeOut_21 rfl (lv_at hl 1 rfl) ?_
    refine va_get (D := D) (ci := 3) (v := .ref ss) (C := RX3) (T := TX3) (N := 2) hx hb hts in_X3_takeOut_X3 hown hK hP 0 rfl rfl 0 (by decide) (hts _ lk_X3_takeOut_1) (fun _ h9 => h9) rfl dX3_takeOut_22 ?_
    refine lv_iload_n hx hb dX3_takeOut_25 rfl (lv_at hl 2 rfl) ?_
    refine lv_iconst (v := iI 0) hx hb dX3_takeOut_26 rfl ?_
    refine q_iast hx hb hK hP hD hS 1 0 rfl rfl (by omega) (by omega) (by decide) dX3_takeOut_27 (fun H locs hP hD hS => ?_)
    have hP : va_P D vwCl [(sv, .inr (3, [.ref ss, .ref sb])), (ss, .inl (cI, 12, .inl (ia (uI st k 0)))), (sb, .inl (cI, 12, .inl (ia bg)))] H := hP
    have hD : va_D A [(sv, .inr (3, [.ref ss, .ref sb])), (ss, .inl (cI, 12, .inl (ia (uI st k 0)))), (sb, .inl (cI, 12, .inl (ia bg)))] := hD
    have hB_2 : BB 0 3 (uI st k 0) := BB_uI hB_st (by omega)
    refine lv_iload_n hx hb dX3_takeOut_28 rfl (lv_at hl 0 rfl) ?_
    rw [hQ]
    refine q_retI (uI st k 0) hx hb hr hlocks hK hP hD hS dX3_takeOut_29 ?_
    try dsimp only
    first | exact ⟨by omega, by rw [if_neg (by omega)], hB_st⟩ | exact ⟨by omega, by rw [if_pos (by omega)], BB_uI hB_st (by omega)⟩
  ·
    refine q_if_ne (tgt := 14) hx hb dX3_takeOut_7 (by decide) ⟨by decide, by decide⟩ (fun h => absurd h (by decide)) (fun _ => ?_)
    refine lv_sipush (v := iI (-1001)) hx hb dX3_takeOut_10 (by decide +kernel) ?_
    rw [hQ]
    refine q_retI st hx hb hr hlocks hK hP hD hS dX3_takeOut_13 ?_
    try dsimp only
    first | exact ⟨by omega, by rw [if_neg (by omega)], hB_st⟩ | exact ⟨by omega, by rw [if_pos (by omega)], BB_uI hB_st (by omega)⟩

theorem in_X3_count_X3 : ∀ w ∈ wsX30, w ∈ wsX3_count := fun _ h => List.mem_cons_of_mem _ (List.mem_append_right _ h)
theorem lk_X3_count_1 : Cond.fieldLink RX3 9 "MoreHands$Servers" "states" "[I" ∈ wsX3_count := List.mem_of_getElem? (i := 1) rfl
set_option maxHeartbeats 4000000 in
set_option maxRecDepth 100000 in
theorem c_X3_count (l : Launch) (D : va_G) (cI cZ cII : ClassId) (sv : Nat) (ss : Nat) (sb : Nat) (st : Int → Int) (bg : Int → Int) (v : Int) (hB_st : BB 0 3 st) (hB_bg : BB 0 200 bg) (hp_v : 0 ≤ v ∧ v ≤ 3) : CtI l yX3_count wsX3_count 0 0 D (ty3 cI cZ cII) [.ref sv, .int (iI v)] [(sv, .inr (3, [.ref ss, .ref sb])), (ss, .inl (cI, 12, .inl (ia st))), (sb, .inl (cI, 12, .inl (ia bg)))] (fun z (u : Unit) => z = (cnt st v)) (fun u => [(sv, .inr (3, [.ref ss, .ref sb])), (ss, .inl (cI, 12, .inl (ia st))), (sb, .inl (cI, 12, .inl (ia bg)))]) := by
  refine CtI.mk (cc := cX3_count) (maxL := 4) (ret := (some .int)) (by decide) rfl (Nat.le_of_ble_eq_true rfl) ?_
  intro p e s m below meth c A ls R args Q hx hb hml hr hts hown hlocks hA hK hP hD hN hS hl hRf hRl hQ
  have hl : lv_has ls 4 [(0, .ref sv), (1, .int (iI v))] := hl
  have hown : s.vm.findClass RX3 = some m.cls := hown
  refine lv_iconst (v := iI 0) hx hb dX3_count_0 rfl ?_
  refine lv_istore_n (lv' := [(2, .int (iI 0)), (0, .ref sv), (1, .int (iI v))]) hx hb dX3_count_1 rfl hl (by decide) rfl (fun ls hl => ?_)
  refine lv_iconst (v := iI 0) hx hb dX3_count_2 rfl ?_
  refine lv_istore_n (lv' := [(3, .int (iI 0)), (2, .int (iI 0)), (0, .ref sv), (1, .int (iI v))]) hx hb dX3_count_3 rfl hl (by decide) rfl (fun ls hl => ?_)
  have L4_0 : ∀ (n : Nat), ∀ (n0 : Int) (k : Int), (hk : 0 ≤ k ∧ k ≤ 12) → (hf : n0 = zl st v k) → (12 - k) < (n : Int) → ∀ (H : Heap) (locs : List Loc), va_P D vwCl [(sv, .inr (3, [.ref ss, .ref sb])), (ss, .inl (cI, 12, .inl (ia st))), (sb, .inl (cI, 12, .inl (ia bg)))] H → va_D A [(sv, .inr (3, [.ref ss, .ref sb])), (ss, .inl (cI, 12, .inl (ia st))), (sb, .inl (cI, 12, .inl (ia bg)))] → va_S A s.heap H locs → ∀ ls : Array Slot, lv_has ls 4 [(0, .ref sv), (1, .int (iI v)), (2, .int (iI n0)), (3, .int (iI k))] → W p l e R s m args below meth c H locs 0 0 Q (F0 m 4 ls []) := by
    intro n
    induction n with
    | zero => intro n0 k hk hf hm; exact absurd hm (by omega)
    | succ n ih =>
      intro n0 k hk hf hm H locs hP hD hS ls hl
      refine lv_iload_n hx hb dX3_count_4 rfl (lv_at hl 3 rfl) ?_
      refine lv_bipush (v := iI 12) hx hb dX3_count_5 (by decide +kernel) ?_
      refine q_icmp_ge (tgt := 29) hx hb dX3_count_7 (by decide) ⟨by omega, by omega⟩ ⟨by decide, by decide⟩ (fun c7 => ?_) (fun c7 => ?_)
      ·
        refine lv_iload_n hx hb dX3_count_29 rfl (lv_at hl 2 rfl) ?_
        rw [hQ]
        refine q_retI () hx hb hr hlocks hK hP hD hS dX3_count_30 ?_
        rw [hf, show k = 12 by omega]; rfl
      ·
        refine lv_aload_n hx hb dX3_count_10 rfl (lv_at hl 0 rfl) ?_
        refine va_get (D := D) (ci := 3) (v := .ref ss) (C := RX3) (T := TX3) (N := 2) hx hb hts in_X3_count_X3 hown hK hP 0 rfl rfl 0 (by decide) (hts _ lk_X3_count_1) (fun _ h9 => h9) rfl dX3_count_11 ?_
        refine lv_iload_n hx hb dX3_count_14 rfl (lv_at hl 3 rfl) ?_
        refine q_iald hx hb hK hP 1 0 rfl rfl (by omega) (by omega) (by decide) dX3_count_15 ?_
        have hb15 := hB_st k
        refine lv_iload_n hx hb dX3_count_16 rfl (lv_at hl 1 rfl) ?_
        refine q_icmp_ne (tgt := 23) hx hb dX3_count_17 (by decide) ⟨by omega, by omega⟩ ⟨by omega, by omega⟩ (fun c17 => ?_) (fun c17 => ?_)
        ·
          refine q_iinc (k := 3) (lv' := [(3, .int (iI (k + 1))), (0, .ref sv), (1, .int (iI v)), (2, .int (iI n0))]) hx hb dX3_count_23 hl rfl (by decide) rfl (fun ls hl => ?_)
          refine lv_goto (tgt := 4) hx hb dX3_count_26 (by decide) ?_
          exact ih  n0 (k + 1) (by omega) (by rw [zl_s _ _ hk.1]; split <;> omega) (by omega) _ _ hP hD hS _ (lv_sub hl [1, 2, 3, 0] rfl)
        ·
          refine q_iinc (k := 2) (lv' := [(2, .int (iI (n0 + 1))), (0, .ref sv), (1, .int (iI v)), (3, .int (iI k))]) hx hb dX3_count_20 hl rfl (by decide) rfl (fun ls hl => ?_)
          refine q_iinc (k := 3) (lv' := [(3, .int (iI (k + 1))), (2, .int (iI (n0 + 1))), (0, .ref sv), (1, .int (iI v))]) hx hb dX3_count_23 hl rfl (by decide) rfl (fun ls hl => ?_)
          refine lv_goto (tgt := 4) hx hb dX3_count_26 (by decide) ?_
          exact ih  (n0 + 1) (k + 1) (by omega) (by rw [zl_s _ _ hk.1]; split <;> omega) (by omega) _ _ hP hD hS _ (lv_sub hl [2, 3, 1, 0] rfl)
  exact L4_0 100 0 0 (by omega) (by rfl) (by omega) _ _ hP hD hS _ (lv_sub hl [2, 3, 1, 0] rfl)

set_option maxHeartbeats 4000000 in
set_option maxRecDepth 100000 in
theorem c_X3_up (l : Launch) (D : va_G) (cI cZ cII : ClassId) (sv : Nat) (ss : Nat) (sb : Nat) (st : Int → Int) (bg : Int → Int) (hB_st : BB 0 3 st) (hB_bg : BB 0 200 bg) : CtI l yX3_up wsX3_up 1 23 D (ty3 cI cZ cII) [.ref sv] [(sv, .inr (3, [.ref ss, .ref sb])), (ss, .inl (cI, 12, .inl (ia st))), (sb, .inl (cI, 12, .inl (ia bg)))] (fun z (u : Unit) => z = (upS st)) (fun u => [(sv, .inr (3, [.ref ss, .ref sb])), (ss, .inl (cI, 12, .inl (ia st))), (sb, .inl (cI, 12, .inl (ia bg)))]) := by
  refine CtI.mk (cc := cX3_up) (maxL := 1) (ret := (some .int)) (by decide) rfl (Nat.le_of_ble_eq_true rfl) ?_
  intro p e s m below meth c A ls R args Q hx hb hml hr hts hown hlocks hA hK hP hD hN hS hl hRf hRl hQ
  have hl : lv_has ls 1 [(0, .ref sv)] := hl
  have hown : s.vm.findClass RX3 = some m.cls := hown
  refine lv_aload_n hx hb dX3_up_0 rfl (lv_at hl 0 rfl) ?_
  refine lv_iconst (v := iI 1) hx hb dX3_up_1 rfl ?_
  refine q_callVI (wr := []) (wn := fun (u : Unit) => [(sv, .inr (3, [.ref ss, .ref sb])), (ss, .inl (cI, 12, .inl (ia st))), (sb, .inl (cI, 12, .inl (ia bg)))]) (rest := []) [.int (iI 1)] ⟨hx, hb, hml, hown, hts⟩ (c_X3_count l D cI cZ cII sv ss sb st bg 1 hB_st hB_bg (by omega)) (cwV 1 hts gX3_up_X3_count rfl rfl rfl (by decide +kernel) (by rw [hRf, hRl]; exact ⟨Nat.le_of_ble_eq_true rfl, Nat.le_of_ble_eq_true rfl⟩)) hK hP hD hS hA hN [0, 1, 2] [] [0, 1, 2] 0 3 rfl rfl rfl rfl rfl rfl (by decide) rfl (fun u => rfl) rfl hl.1 rfl (Nat.le_of_ble_eq_true rfl) dX3_up_2 ⟨Nat.zero_le _, Nat.zero_le _⟩ (fun z u H locs hw hP hD hS => ?_)
  have hP : va_P D vwCl [(sv, .inr (3, [.ref ss, .ref sb])), (ss, .inl (cI, 12, .inl (ia st))), (sb, .inl (cI, 12, .inl (ia bg)))] H := hP
  have hD : va_D A [(sv, .inr (3, [.ref ss, .ref sb])), (ss, .inl (cI, 12, .inl (ia st))), (sb, .inl (cI, 12, .inl (ia bg)))] := hD
  obtain ⟨z_1, ez⟩ : ∃ y : Int, y = z := ⟨_, rfl⟩
  rw [← ez] at hw ⊢
  clear ez
  have w2 : z_1 = (cnt st (1 : Int)) := hw
  clear hw
  subst w2
  refine lv_aload_n hx hb dX3_up_5 rfl (lv_at hl 0 rfl) ?_
  refine lv_iconst (v := iI 2) hx hb dX3_up_6 rfl ?_
  refine q_callVI (wr := []) (wn := fun (u : Unit) => [(sv, .inr (3, [.ref ss, .ref sb])), (ss, .inl (cI, 12, .inl (ia st))), (sb, .inl (cI, 12, .inl (ia bg)))]) (rest := [.int (iI (cnt st (1 : Int)))]) [.int (iI 2)] ⟨hx, hb, hml, hown, hts⟩ (c_X3_count l D cI cZ cII sv ss sb st bg 2 hB_st hB_bg (by omega)) (cwV 1 hts gX3_up_X3_count rfl rfl rfl (by decide +kernel) (by rw [hRf, hRl]; exact ⟨Nat.le_of_ble_eq_true rfl, Nat.le_of_ble_eq_true rfl⟩)) hK hP hD hS hA hN [0, 1, 2] [] [0, 1, 2] 0 3 rfl rfl rfl rfl rfl rfl (by decide) rfl (fun u => rfl) rfl hl.1 rfl (Nat.le_of_ble_eq_true rfl) dX3_up_7 ⟨Nat.zero_le _, Nat.zero_le _⟩ (fun z u H locs hw hP hD hS => ?_)
  have hP : va_P D vwCl [(sv, .inr (3, [.ref ss, .ref sb])), (ss, .inl (cI, 12, .inl (ia st))), (sb, .inl (cI, 12, .inl (ia bg)))] H := hP
  have hD : va_D A [(sv, .inr (3, [.ref ss, .ref sb])), (ss, .inl (cI, 12, .inl (ia st))), (sb, .inl (cI, 12, .inl (ia bg)))] := hD
  obtain ⟨z_2, ez⟩ : ∃ y : Int, y = z := ⟨_, rfl⟩
  rw [← ez] at hw ⊢
  clear ez
  have w7 : z_2 = (cnt st (2 : Int)) := hw
  clear hw
  subst w7
  refine q_iadd hx hb dX3_up_10 ?_
  rw [hQ]
  refine q_retI () hx hb hr hlocks hK hP hD hS dX3_up_11 ?_
  rfl

set_option maxHeartbeats 4000000 in
set_option maxRecDepth 100000 in
theorem c_X3_working (l : Launch) (D : va_G) (cI cZ cII : ClassId) (sv : Nat) (ss : Nat) (sb : Nat) (st : Int → Int) (bg : Int → Int) (hB_st : BB 0 3 st) (hB_bg : BB 0 200 bg) : CtI l yX3_working wsX3_working 1 23 D (ty3 cI cZ cII) [.ref sv] [(sv, .inr (3, [.ref ss, .ref sb])), (ss, .inl (cI, 12, .inl (ia st))), (sb, .inl (cI, 12, .inl (ia bg)))] (fun z (u : Unit) => z = (cnt st 2 + cnt st 3)) (fun u => [(sv, .inr (3, [.ref ss, .ref sb])), (ss, .inl (cI, 12, .inl (ia st))), (sb, .inl (cI, 12, .inl (ia bg)))]) := by
  refine CtI.mk (cc := cX3_working) (maxL := 1) (ret := (some .int)) (by decide) rfl (Nat.le_of_ble_eq_true rfl) ?_
  intro p e s m below meth c A ls R args Q hx hb hml hr hts hown hlocks hA hK hP hD hN hS hl hRf hRl hQ
  have hl : lv_has ls 1 [(0, .ref sv)] := hl
  have hown : s.vm.findClass RX3 = some m.cls := hown
  refine lv_aload_n hx hb dX3_working_0 rfl (lv_at hl 0 rfl) ?_
  refine lv_iconst (v := iI 2) hx hb dX3_working_1 rfl ?_
  refine q_callVI (wr := []) (wn := fun (u : Unit) => [(sv, .inr (3, [.ref ss, .ref sb])), (ss, .inl (cI, 12, .inl (ia st))), (sb, .inl (cI, 12, .inl (ia bg)))]) (rest := []) [.int (iI 2)] ⟨hx, hb, hml, hown, hts⟩ (c_X3_count l D cI cZ cII sv ss sb st bg 2 hB_st hB_bg (by omega)) (cwV 1 hts gX3_working_X3_count rfl rfl rfl (by decide +kernel) (by rw [hRf, hRl]; exact ⟨Nat.le_of_ble_eq_true rfl, Nat.le_of_ble_eq_true rfl⟩)) hK hP hD hS hA hN [0, 1, 2] [] [0, 1, 2] 0 3 rfl rfl rfl rfl rfl rfl (by decide) rfl (fun u => rfl) rfl hl.1 rfl (Nat.le_of_ble_eq_true rfl) dX3_working_2 ⟨Nat.zero_le _, Nat.zero_le _⟩ (fun z u H locs hw hP hD hS => ?_)
  have hP : va_P D vwCl [(sv, .inr (3, [.ref ss, .ref sb])), (ss, .inl (cI, 12, .inl (ia st))), (sb, .inl (cI, 12, .inl (ia bg)))] H := hP
  have hD : va_D A [(sv, .inr (3, [.ref ss, .ref sb])), (ss, .inl (cI, 12, .inl (ia st))), (sb, .inl (cI, 12, .inl (ia bg)))] := hD
  obtain ⟨z_1, ez⟩ : ∃ y : Int, y = z := ⟨_, rfl⟩
  rw [← ez] at hw ⊢
  clear ez
  have w2 : z_1 = (cnt st (2 : Int)) := hw
  clear hw
  subst w2
  refine lv_aload_n hx hb dX3_working_5 rfl (lv_at hl 0 rfl) ?_
  refine lv_iconst (v := iI 3) hx hb dX3_working_6 rfl ?_
  refine q_callVI (wr := []) (wn := fun (u : Unit) => [(sv, .inr (3, [.ref ss, .ref sb])), (ss, .inl (cI, 12, .inl (ia st))), (sb, .inl (cI, 12, .inl (ia bg)))]) (rest := [.int (iI (cnt st (2 : Int)))]) [.int (iI 3)] ⟨hx, hb, hml, hown, hts⟩ (c_X3_count l D cI cZ cII sv ss sb st bg 3 hB_st hB_bg (by omega)) (cwV 1 hts gX3_working_X3_count rfl rfl rfl (by decide +kernel) (by rw [hRf, hRl]; exact ⟨Nat.le_of_ble_eq_true rfl, Nat.le_of_ble_eq_true rfl⟩)) hK hP hD hS hA hN [0, 1, 2] [] [0, 1, 2] 0 3 rfl rfl rfl rfl rfl rfl (by decide) rfl (fun u => rfl) rfl hl.1 rfl (Nat.le_of_ble_eq_true rfl) dX3_working_7 ⟨Nat.zero_le _, Nat.zero_le _⟩ (fun z u H locs hw hP hD hS => ?_)
  have hP : va_P D vwCl [(sv, .inr (3, [.ref ss, .ref sb])), (ss, .inl (cI, 12, .inl (ia st))), (sb, .inl (cI, 12, .inl (ia bg)))] H := hP
  have hD : va_D A [(sv, .inr (3, [.ref ss, .ref sb])), (ss, .inl (cI, 12, .inl (ia st))), (sb, .inl (cI, 12, .inl (ia bg)))] := hD
  obtain ⟨z_2, ez⟩ : ∃ y : Int, y = z := ⟨_, rfl⟩
  rw [← ez] at hw ⊢
  clear ez
  have w7 : z_2 = (cnt st (3 : Int)) := hw
  clear hw
  subst w7
  refine q_iadd hx hb dX3_working_10 ?_
  rw [hQ]
  refine q_retI () hx hb hr hlocks hK hP hD hS dX3_working_11 ?_
  rfl

theorem in_X3_start_X3 : ∀ w ∈ wsX30, w ∈ wsX3_start := fun _ h => List.mem_cons_of_mem _ (List.mem_append_right _ h)
theorem lk_X3_start_1 : Cond.fieldLink RX3 9 "MoreHands$Servers" "states" "[I" ∈ wsX3_start := List.mem_of_getElem? (i := 1) rfl
theorem lk_X3_start_2 : Cond.fieldLink RX3 15 "MoreHands$Servers" "began" "[I" ∈ wsX3_start := List.mem_of_getElem? (i := 2) rfl
set_option maxHeartbeats 4000000 in
set_option maxRecDepth 100000 in
theorem c_X3_start (l : Launch) (D : va_G) (cI cZ cII : ClassId) (sv : Nat) (ss : Nat) (sb : Nat) (st : Int → Int) (bg : Int → Int) (wi : Int) (ti : Int) (hB_st : BB 0 3 st) (hB_bg : BB 0 200 bg) (hp_wi : -1000 ≤ wi ∧ wi ≤ 1000) (hp_ti : 0 ≤ ti ∧ ti ≤ 200) : CtI l yX3_start wsX3_start 0 0 D (ty3 cI cZ cII) [.ref sv, .int (iI wi), .int (iI ti)] [(sv, .inr (3, [.ref ss, .ref sb])), (ss, .inl (cI, 12, .inl (ia st))), (sb, .inl (cI, 12, .inl (ia bg)))] (fun z (u : (Int → Int) × (Int → Int)) => z = tu (zl st 0 12) wi ∧ u.1 = fl (PT st wi) 1 st 0 12 ∧ u.2 = fl (PT st wi) ti bg 0 12 ∧ BB 0 3 u.1 ∧ BB 0 200 u.2) (fun u => [(sv, .inr (3, [.ref ss, .ref sb])), (ss, .inl (cI, 12, .inl (ia u.1))), (sb, .inl (cI, 12, .inl (ia u.2)))]) := by
  refine CtI.mk (cc := cX3_start) (maxL := 5) (ret := (some .int)) (by decide) rfl (Nat.le_of_ble_eq_true rfl) ?_
  intro p e s m below meth c A ls R args Q hx hb hml hr hts hown hlocks hA hK hP hD hN hS hl hRf hRl hQ
  have hl : lv_has ls 5 [(0, .ref sv), (1, .int (iI wi)), (2, .int (iI ti))] := hl
  have hown : s.vm.findClass RX3 = some m.cls := hown
  refine lv_iconst (v := iI 0) hx hb dX3_start_0 rfl ?_
  refine lv_istore_n (lv' := [(3, .int (iI 0)), (0, .ref sv), (1, .int (iI wi)), (2, .int (iI ti))]) hx hb dX3_start_1 rfl hl (by decide) rfl (fun ls hl => ?_)
  refine lv_iconst (v := iI 0) hx hb dX3_start_2 rfl ?_
  refine lv_istore (lv' := [(4, .int (iI 0)), (3, .int (iI 0)), (0, .ref sv), (1, .int (iI wi)), (2, .int (iI ti))]) hx hb dX3_start_3 hl (by decide) rfl (fun ls hl => ?_)
  have L5_0 : ∀ (n : Nat), ∀ (tn : Int) (k : Int) (st1 : Int → Int) (bg1 : Int → Int), (hB_st1 : BB 0 3 st1) → (hB_bg1 : BB 0 200 bg1) → (hk : 0 ≤ k ∧ k ≤ 12) → (ht : tn = tu (zl st 0 k) wi) → (hs : st1 = fl (PT st wi) 1 st 0 k) → (hg : bg1 = fl (PT st wi) ti bg 0 k) → (12 - k) < (n : Int) → ∀ (H : Heap) (locs : List Loc), va_P D vwCl [(sv, .inr (3, [.ref ss, .ref sb])), (ss, .inl (cI, 12, .inl (ia st1))), (sb, .inl (cI, 12, .inl (ia bg1)))] H → va_D A [(sv, .inr (3, [.ref ss, .ref sb])), (ss, .inl (cI, 12, .inl (ia st1))), (sb, .inl (cI, 12, .inl (ia bg1)))] → va_S A s.heap H locs → ∀ ls : Array Slot, lv_has ls 5 [(0, .ref sv), (1, .int (iI wi)), (2, .int (iI ti)), (3, .int (iI tn)), (4, .int (iI k))] → W p l e R s m args below meth c H locs 0 0 Q (F0 m 5 ls []) := by
    intro n
    induction n with
    | zero => intro tn k st1 bg1 hB_st1 hB_bg1 hk ht hs hg hm; exact absurd hm (by omega)
    | succ n ih =>
      intro tn k st1 bg1 hB_st1 hB_bg1 hk ht hs hg hm H locs hP hD hS ls hl
      have e0 : st1 k = st k := by rw [hs]; exact fl_out (by omega)
      have hz0 := zl_b st 0 hk.1
      have htb : 0 ≤ tn ∧ tn ≤ 12 := by unfold tu at ht; omega
      refine lv_iload hx hb dX3_start_5 (lv_at hl 4 rfl) ?_
      refine lv_bipush (v := iI 12) hx hb dX3_start_7 (by decide +kernel) ?_
      refine q_icmp_ge (tgt := 52) hx hb dX3_start_9 (by decide) ⟨by omega, by omega⟩ ⟨by decide, by decide⟩ (fun c9 => ?_) (fun c9 => ?_)
      ·
        refine lv_iload_n hx hb dX3_start_52 rfl (lv_at hl 3 rfl) ?_
        rw [hQ]
        refine q_retI (st1, bg1) hx hb hr hlocks hK hP hD hS dX3_start_53 ?_
        try dsimp only
        first | (have ek : k = 12 := by omega) | skip
        first | (exact ⟨by rw [ht, show k = 12 by omega], by rw [hs, show k = 12 by omega], by rw [hg, show k = 12 by omega], hB_st1, hB_bg1⟩) | (have hd := PT_done (st := st) (wish := wi) (k := k) (by omega); have hm2 := zl_mono st 0 hk.2; exact ⟨by unfold tu at ht ⊢; omega, by rw [hs]; exact fl_doneHi hk.2 hd, by rw [hg]; exact fl_doneHi hk.2 hd, hB_st1, hB_bg1⟩)
      ·
        refine lv_iload_n hx hb dX3_start_12 rfl (lv_at hl 3 rfl) ?_
        refine lv_iload_n hx hb dX3_start_13 rfl (lv_at hl 1 rfl) ?_
        refine q_icmp_ge (tgt := 52) hx hb dX3_start_14 (by decide) ⟨by omega, by omega⟩ ⟨by omega, by omega⟩ (fun c14 => ?_) (fun c14 => ?_)
        ·
          refine lv_iload_n hx hb dX3_start_52 rfl (lv_at hl 3 rfl) ?_
          rw [hQ]
          refine q_retI (st1, bg1) hx hb hr hlocks hK hP hD hS dX3_start_53 ?_
          try dsimp only
          first | (have ek : k = 12 := by omega) | skip
          first | (exact ⟨by rw [ht, show k = 12 by omega], by rw [hs, show k = 12 by omega], by rw [hg, show k = 12 by omega], hB_st1, hB_bg1⟩) | (have hd := PT_done (st := st) (wish := wi) (k := k) (by omega); have hm2 := zl_mono st 0 hk.2; exact ⟨by unfold tu at ht ⊢; omega, by rw [hs]; exact fl_doneHi hk.2 hd, by rw [hg]; exact fl_doneHi hk.2 hd, hB_st1, hB_bg1⟩)
        ·
          refine lv_aload_n hx hb dX3_start_17 rfl (lv_at hl 0 rfl) ?_
          refine va_get (D := D) (ci := 3) (v := .ref ss) (C := RX3) (T := TX3) (N := 2) hx hb hts in_X3_start_X3 hown hK hP 0 rfl rfl 0 (by decide) (hts _ lk_X3_start_1) (fun _ h9 => h9) rfl dX3_start_18 ?_
          refine lv_iload hx hb dX3_start_21 (lv_at hl 4 rfl) ?_
          refine q_iald hx hb hK hP 1 0 rfl rfl (by omega) (by omega) (by decide) dX3_start_23 ?_
          have hb23 := hB_st1 k
          refine q_if_ne (tgt := 46) hx hb dX3_start_24 (by decide) ⟨by omega, by omega⟩ (fun c24 => ?_) (fun c24 => ?_)
          ·
            refine q_iinc (k := 4) (lv' := [(4, .int (iI (k + 1))), (0, .ref sv), (1, .int (iI wi)), (2, .int (iI ti)), (3, .int (iI tn))]) hx hb dX3_start_46 hl rfl (by decide) rfl (fun ls hl => ?_)
            refine lv_goto (tgt := 5) hx hb dX3_start_49 (by decide) ?_
            exact ih  tn (k + 1) st1 bg1 hB_st1 hB_bg1 (by omega) (by rw [zl_s _ _ hk.1]; unfold tu at ht ⊢; split <;> omega) (by rw [hs]; first | exact fl_hi1 hk.1 (decide_eq_true ⟨by omega, by unfold tu at ht; omega⟩) | exact fl_hi0 (decide_eq_false (by omega))) (by rw [hg]; first | exact fl_hi1 hk.1 (decide_eq_true ⟨by omega, by unfold tu at ht; omega⟩) | exact fl_hi0 (decide_eq_false (by omega))) (by omega) _ _ hP hD hS _ (lv_sub hl [1, 2, 3, 4, 0] rfl)
          ·
            refine lv_aload_n hx hb dX3_start_27 rfl (lv_at hl 0 rfl) ?_
            refine va_get (D := D) (ci := 3) (v := .ref ss) (C := RX3) (T := TX3) (N := 2) hx hb hts in_X3_start_X3 hown hK hP 0 rfl rfl 0 (by decide) (hts _ lk_X3_start_1) (fun _ h9 => h9) rfl dX3_start_28 ?_
            refine lv_iload hx hb dX3_start_31 (lv_at hl 4 rfl) ?_
            refine lv_iconst (v := iI 1) hx hb dX3_start_33 rfl ?_
            refine q_iast hx hb hK hP hD hS 1 0 rfl rfl (by omega) (by omega) (by decide) dX3_start_34 (fun H locs hP hD hS => ?_)
            have hP : va_P D vwCl [(sv, .inr (3, [.ref ss, .ref sb])), (ss, .inl (cI, 12, .inl (ia (uI st1 k 1)))), (sb, .inl (cI, 12, .inl (ia bg1)))] H := hP
            have hD : va_D A [(sv, .inr (3, [.ref ss, .ref sb])), (ss, .inl (cI, 12, .inl (ia (uI st1 k 1)))), (sb, .inl (cI, 12, .inl (ia bg1)))] := hD
            have hB_1 : BB 0 3 (uI st1 k 1) := BB_uI hB_st1 (by omega)
            refine lv_aload_n hx hb dX3_start_35 rfl (lv_at hl 0 rfl) ?_
            refine va_get (D := D) (ci := 3) (v := .ref sb) (C := RX3) (T := TX3) (N := 2) hx hb hts in_X3_start_X3 hown hK hP 0 rfl rfl 1 (by decide) (hts _ lk_X3_start_2) (fun _ h9 => h9) rfl dX3_start_36 ?_
            refine lv_iload hx hb dX3_start_39 (lv_at hl 4 rfl) ?_
            refine lv_iload_n hx hb dX3_start_41 rfl (lv_at hl 2 rfl) ?_
            refine q_iast hx hb hK hP hD hS 2 0 rfl rfl (by omega) (by omega) (by decide) dX3_start_42 (fun H locs hP hD hS => ?_)
            have hP : va_P D vwCl [(sv, .inr (3, [.ref ss, .ref sb])), (ss, .inl (cI, 12, .inl (ia (uI st1 k 1)))), (sb, .inl (cI, 12, .inl (ia (uI bg1 k ti))))] H := hP
            have hD : va_D A [(sv, .inr (3, [.ref ss, .ref sb])), (ss, .inl (cI, 12, .inl (ia (uI st1 k 1)))), (sb, .inl (cI, 12, .inl (ia (uI bg1 k ti))))] := hD
            have hB_2 : BB 0 200 (uI bg1 k ti) := BB_uI hB_bg1 (by omega)
            refine q_iinc (k := 3) (lv' := [(3, .int (iI (tn + 1))), (0, .ref sv), (1, .int (iI wi)), (2, .int (iI ti)), (4, .int (iI k))]) hx hb dX3_start_43 hl rfl (by decide) rfl (fun ls hl => ?_)
            refine q_iinc (k := 4) (lv' := [(4, .int (iI (k + 1))), (3, .int (iI (tn + 1))), (0, .ref sv), (1, .int (iI wi)), (2, .int (iI ti))]) hx hb dX3_start_46 hl rfl (by decide) rfl (fun ls hl => ?_)
            refine lv_goto (tgt := 5) hx hb dX3_start_49 (by decide) ?_
            exact ih  (tn + 1) (k + 1) (uI st1 k 1) (uI bg1 k ti) hB_1 hB_2 (by omega) (by rw [zl_s _ _ hk.1]; unfold tu at ht ⊢; split <;> omega) (by rw [hs]; first | exact fl_hi1 hk.1 (decide_eq_true ⟨by omega, by unfold tu at ht; omega⟩) | exact fl_hi0 (decide_eq_false (by omega))) (by rw [hg]; first | exact fl_hi1 hk.1 (decide_eq_true ⟨by omega, by unfold tu at ht; omega⟩) | exact fl_hi0 (decide_eq_false (by omega))) (by omega) _ _ hP hD hS _ (lv_sub hl [2, 3, 4, 1, 0] rfl)
  exact L5_0 100 0 0 st bg hB_st hB_bg (by omega) (by rw [zl_0]; unfold tu; omega) (by rw [fl_nil (by omega)]) (by rw [fl_nil (by omega)]) (by omega) _ _ hP hD hS _ (lv_sub hl [2, 3, 4, 1, 0] rfl)

theorem in_X3_turnHighest_X3 : ∀ w ∈ wsX30, w ∈ wsX3_turnHighest := fun _ h => List.mem_cons_of_mem _ (List.mem_append_right _ h)
theorem lk_X3_turnHighest_1 : Cond.fieldLink RX3 9 "MoreHands$Servers" "states" "[I" ∈ wsX3_turnHighest := List.mem_of_getElem? (i := 1) rfl
theorem lk_X3_turnHighest_2 : Cond.fieldLink RX3 15 "MoreHands$Servers" "began" "[I" ∈ wsX3_turnHighest := List.mem_of_getElem? (i := 2) rfl
set_option maxHeartbeats 4000000 in
set_option maxRecDepth 100000 in
theorem c_X3_turnHighest (l : Launch) (D : va_G) (cI cZ cII : ClassId) (sv : Nat) (ss : Nat) (sb : Nat) (st : Int → Int) (bg : Int → Int) (fm : Int) (to : Int) (wi : Int) (ti : Int) (hB_st : BB 0 3 st) (hB_bg : BB 0 200 bg) (hp_fm : 0 ≤ fm ∧ fm ≤ 3) (hp_to : 0 ≤ to ∧ to ≤ 3) (hp_wi : -1000 ≤ wi ∧ wi ≤ 1000) (hp_ti : 0 ≤ ti ∧ ti ≤ 200) : CtI l yX3_turnHighest wsX3_turnHighest 0 0 D (ty3 cI cZ cII) [.ref sv, .int (iI fm), .int (iI to), .int (iI wi), .int (iI ti)] [(sv, .inr (3, [.ref ss, .ref sb])), (ss, .inl (cI, 12, .inl (ia st))), (sb, .inl (cI, 12, .inl (ia bg)))] (fun z (u : (Int → Int) × (Int → Int)) => z = tu (zl st fm 12) wi ∧ u.1 = fl (PH st fm wi) to st 0 12 ∧ u.2 = fl (PH st fm wi) ti bg 0 12 ∧ BB 0 3 u.1 ∧ BB 0 200 u.2) (fun u => [(sv, .inr (3, [.ref ss, .ref sb])), (ss, .inl (cI, 12, .inl (ia u.1))), (sb, .inl (cI, 12, .inl (ia u.2)))]) := by
  refine CtI.mk (cc := cX3_turnHighest) (maxL := 7) (ret := (some .int)) (by decide) rfl (Nat.le_of_ble_eq_true rfl) ?_
  intro p e s m below meth c A ls R args Q hx hb hml hr hts hown hlocks hA hK hP hD hN hS hl hRf hRl hQ
  have hl : lv_has ls 7 [(0, .ref sv), (1, .int (iI fm)), (2, .int (iI to)), (3, .int (iI wi)), (4, .int (iI ti))] := hl
  have hown : s.vm.findClass RX3 = some m.cls := hown
  refine lv_iconst (v := iI 0) hx hb dX3_turnHighest_0 rfl ?_
  refine lv_istore (lv' := [(5, .int (iI 0)), (0, .ref sv), (1, .int (iI fm)), (2, .int (iI to)), (3, .int (iI wi)), (4, .int (iI ti))]) hx hb dX3_turnHighest_1 hl (by decide) rfl (fun ls hl => ?_)
  refine lv_bipush (v := iI 11) hx hb dX3_turnHighest_3 (by decide +kernel) ?_
  refine lv_istore (lv' := [(6, .int (iI 11)), (5, .int (iI 0)), (0, .ref sv), (1, .int (iI fm)), (2, .int (iI to)), (3, .int (iI wi)), (4, .int (iI ti))]) hx hb dX3_turnHighest_5 hl (by decide) rfl (fun ls hl => ?_)
  have L7_0 : ∀ (n : Nat), ∀ (tn : Int) (k : Int) (st1 : Int → Int) (bg1 : Int → Int), (hB_st1 : BB 0 3 st1) → (hB_bg1 : BB 0 200 bg1) → (hk : -1 ≤ k ∧ k ≤ 11) → (ht : tn = tu (zl st fm 12 - zl st fm (k + 1)) wi) → (hs : st1 = fl (PH st fm wi) to st (k + 1) 12) → (hg : bg1 = fl (PH st fm wi) ti bg (k + 1) 12) → (k + 1) < (n : Int) → ∀ (H : Heap) (locs : List Loc), va_P D vwCl [(sv, .inr (3, [.ref ss, .ref sb])), (ss, .inl (cI, 12, .inl (ia st1))), (sb, .inl (cI, 12, .inl (ia bg1)))] H → va_D A [(sv, .inr (3, [.ref ss, .ref sb])), (ss, .inl (cI, 12, .inl (ia st1))), (sb, .inl (cI, 12, .inl (ia bg1)))] → va_S A s.heap H locs → ∀ ls : Array Slot, lv_has ls 7 [(0, .ref sv), (1, .int (iI fm)), (2, .int (iI to)), (3, .int (iI wi)), (4, .int (iI ti)), (5, .int (iI tn)), (6, .int (iI k))] → W p l e R s m args below meth c H locs 0 0 Q (F0 m 7 ls []) := by
    intro n
    induction n with
    | zero => intro tn k st1 bg1 hB_st1 hB_bg1 hk ht hs hg hm; exact absurd hm (by omega)
    | succ n ih =>
      intro tn k st1 bg1 hB_st1 hB_bg1 hk ht hs hg hm H locs hP hD hS ls hl
      have e0 : st1 k = st k := by rw [hs]; exact fl_out (by omega)
      have hz0 := zl_mono st fm (show k + 1 ≤ 12 by omega)
      have hz1 := zl_b st fm (show (0 : Int) ≤ 12 by omega)
      have hz2 := zl_b st fm (show 0 ≤ k + 1 by omega)
      have htb : 0 ≤ tn ∧ tn ≤ 12 := by unfold tu at ht; omega
      refine lv_iload hx hb dX3_turnHighest_7 (lv_at hl 6 rfl) ?_
      refine q_if_lt (tgt := 55) hx hb dX3_turnHighest_9 (by decide) ⟨by omega, by omega⟩ (fun c9 => ?_) (fun c9 => ?_)
      ·
        refine lv_iload hx hb dX3_turnHighest_55 (lv_at hl 5 rfl) ?_
        rw [hQ]
        refine q_retI (st1, bg1) hx hb hr hlocks hK hP hD hS dX3_turnHighest_57 ?_
        try dsimp only
        first | (exact ⟨by rw [ht, show k + 1 = 0 by omega, zl_0]; unfold tu; omega, by rw [hs, show k + 1 = 0 by omega], by rw [hg, show k + 1 = 0 by omega], hB_st1, hB_bg1⟩) | (have hd := PH_done (st := st) (v := fm) (wish := wi) (k := k + 1) (by omega) (by omega); have hm2 := zl_b st fm (show 0 ≤ k + 1 by omega); exact ⟨by unfold tu at ht ⊢; omega, by rw [hs]; exact fl_doneLo (by omega) hd, by rw [hg]; exact fl_doneLo (by omega) hd, hB_st1, hB_bg1⟩)
      ·
        refine lv_iload hx hb dX3_turnHighest_12 (lv_at hl 5 rfl) ?_
        refine lv_iload_n hx hb dX3_turnHighest_14 rfl (lv_at hl 3 rfl) ?_
        refine q_icmp_ge (tgt := 55) hx hb dX3_turnHighest_15 (by decide) ⟨by omega, by omega⟩ ⟨by omega, by omega⟩ (fun c15 => ?_) (fun c15 => ?_)
        ·
          refine lv_iload hx hb dX3_turnHighest_55 (lv_at hl 5 rfl) ?_
          rw [hQ]
          refine q_retI (st1, bg1) hx hb hr hlocks hK hP hD hS dX3_turnHighest_57 ?_
          try dsimp only
          first | (exact ⟨by rw [ht, show k + 1 = 0 by omega, zl_0]; unfold tu; omega, by rw [hs, show k + 1 = 0 by omega], by rw [hg, show k + 1 = 0 by omega], hB_st1, hB_bg1⟩) | (have hd := PH_done (st := st) (v := fm) (wish := wi) (k := k + 1) (by omega) (by omega); have hm2 := zl_b st fm (show 0 ≤ k + 1 by omega); exact ⟨by unfold tu at ht ⊢; omega, by rw [hs]; exact fl_doneLo (by omega) hd, by rw [hg]; exact fl_doneLo (by omega) hd, hB_st1, hB_bg1⟩)
        ·
          refine lv_aload_n hx hb dX3_turnHighest_18 rfl (lv_at hl 0 rfl) ?_
          refine va_get (D := D) (ci := 3) (v := .ref ss) (C := RX3) (T := TX3) (N := 2) hx hb hts in_X3_turnHighest_X3 hown hK hP 0 rfl rfl 0 (by decide) (hts _ lk_X3_turnHighest_1) (fun _ h9 => h9) rfl dX3_turnHighest_19 ?_
          refine lv_iload hx hb dX3_turnHighest_22 (lv_at hl 6 rfl) ?_
          refine q_iald hx hb hK hP 1 0 rfl rfl (by omega) (by omega) (by decide) dX3_turnHighest_24 ?_
          have hb24 := hB_st1 k
          refine lv_iload_n hx hb dX3_turnHighest_25 rfl (lv_at hl 1 rfl) ?_
          refine q_icmp_ne (tgt := 49) hx hb dX3_turnHighest_26 (by decide) ⟨by omega, by omega⟩ ⟨by omega, by omega⟩ (fun c26 => ?_) (fun c26 => ?_)
          ·
            refine q_iinc (k := 6) (lv' := [(6, .int (iI (k + (-1)))), (0, .ref sv), (1, .int (iI fm)), (2, .int (iI to)), (3, .int (iI wi)), (4, .int (iI ti)), (5, .int (iI tn))]) hx hb dX3_turnHighest_49 hl rfl (by decide) rfl (fun ls hl => ?_)
            refine lv_goto (tgt := 7) hx hb dX3_turnHighest_52 (by decide) ?_
            exact ih  tn (k + (-1)) st1 bg1 hB_st1 hB_bg1 (by omega) (by rw [show (k + -1 + 1 : Int) = k by omega]; have zs := zl_s st fm (k := k) (by omega); unfold tu at ht ⊢; split at zs <;> omega) (by rw [hs, show (k + -1 + 1 : Int) = k by omega]; first | exact fl_lo1 (by omega) (decide_eq_true ⟨by omega, by unfold tu at ht; omega⟩) | exact fl_lo0 (decide_eq_false (by omega))) (by rw [hg, show (k + -1 + 1 : Int) = k by omega]; first | exact fl_lo1 (by omega) (decide_eq_true ⟨by omega, by unfold tu at ht; omega⟩) | exact fl_lo0 (decide_eq_false (by omega))) (by omega) _ _ hP hD hS _ (lv_sub hl [1, 2, 3, 4, 5, 6, 0] rfl)
          ·
            refine lv_aload_n hx hb dX3_turnHighest_29 rfl (lv_at hl 0 rfl) ?_
            refine va_get (D := D) (ci := 3) (v := .ref ss) (C := RX3) (T := TX3) (N := 2) hx hb hts in_X3_turnHighest_X3 hown hK hP 0 rfl rfl 0 (by decide) (hts _ lk_X3_turnHighest_1) (fun _ h9 => h9) rfl dX3_turnHighest_30 ?_
            refine lv_iload hx hb dX3_turnHighest_33 (lv_at hl 6 rfl) ?_
            refine lv_iload_n hx hb dX3_turnHighest_35 rfl (lv_at hl 2 rfl) ?_
            refine q_iast hx hb hK hP hD hS 1 0 rfl rfl (by omega) (by omega) (by decide) dX3_turnHighest_36 (fun H locs hP hD hS => ?_)
            have hP : va_P D vwCl [(sv, .inr (3, [.ref ss, .ref sb])), (ss, .inl (cI, 12, .inl (ia (uI st1 k to)))), (sb, .inl (cI, 12, .inl (ia bg1)))] H := hP
            have hD : va_D A [(sv, .inr (3, [.ref ss, .ref sb])), (ss, .inl (cI, 12, .inl (ia (uI st1 k to)))), (sb, .inl (cI, 12, .inl (ia bg1)))] := hD
            have hB_1 : BB 0 3 (uI st1 k to) := BB_uI hB_st1 (by omega)
            refine lv_aload_n hx hb dX3_turnHighest_37 rfl (lv_at hl 0 rfl) ?_
            refine va_get (D := D) (ci := 3) (v := .ref sb) (C := RX3) (T := TX3) (N := 2) hx hb hts in_X3_turnHighest_X3 hown hK hP 0 rfl rfl 1 (by decide) (hts _ lk_X3_turnHighest_2) (fun _ h9 => h9) rfl dX3_turnHighest_38 ?_
            refine lv_iload hx hb dX3_turnHighest_41 (lv_at hl 6 rfl) ?_
            refine lv_iload hx hb dX3_turnHighest_43 (lv_at hl 4 rfl) ?_
            refine q_iast hx hb hK hP hD hS 2 0 rfl rfl (by omega) (by omega) (by decide) dX3_turnHighest_45 (fun H locs hP hD hS => ?_)
            have hP : va_P D vwCl [(sv, .inr (3, [.ref ss, .ref sb])), (ss, .inl (cI, 12, .inl (ia (uI st1 k to)))), (sb, .inl (cI, 12, .inl (ia (uI bg1 k ti))))] H := hP
            have hD : va_D A [(sv, .inr (3, [.ref ss, .ref sb])), (ss, .inl (cI, 12, .inl (ia (uI st1 k to)))), (sb, .inl (cI, 12, .inl (ia (uI bg1 k ti))))] := hD
            have hB_2 : BB 0 200 (uI bg1 k ti) := BB_uI hB_bg1 (by omega)
            refine q_iinc (k := 5) (lv' := [(5, .int (iI (tn + 1))), (0, .ref sv), (1, .int (iI fm)), (2, .int (iI to)), (3, .int (iI wi)), (4, .int (iI ti)), (6, .int (iI k))]) hx hb dX3_turnHighest_46 hl rfl (by decide) rfl (fun ls hl => ?_)
            refine q_iinc (k := 6) (lv' := [(6, .int (iI (k + (-1)))), (5, .int (iI (tn + 1))), (0, .ref sv), (1, .int (iI fm)), (2, .int (iI to)), (3, .int (iI wi)), (4, .int (iI ti))]) hx hb dX3_turnHighest_49 hl rfl (by decide) rfl (fun ls hl => ?_)
            refine lv_goto (tgt := 7) hx hb dX3_turnHighest_52 (by decide) ?_
            exact ih  (tn + 1) (k + (-1)) (uI st1 k to) (uI bg1 k ti) hB_1 hB_2 (by omega) (by rw [show (k + -1 + 1 : Int) = k by omega]; have zs := zl_s st fm (k := k) (by omega); unfold tu at ht ⊢; split at zs <;> omega) (by rw [hs, show (k + -1 + 1 : Int) = k by omega]; first | exact fl_lo1 (by omega) (decide_eq_true ⟨by omega, by unfold tu at ht; omega⟩) | exact fl_lo0 (decide_eq_false (by omega))) (by rw [hg, show (k + -1 + 1 : Int) = k by omega]; first | exact fl_lo1 (by omega) (decide_eq_true ⟨by omega, by unfold tu at ht; omega⟩) | exact fl_lo0 (decide_eq_false (by omega))) (by omega) _ _ hP hD hS _ (lv_sub hl [2, 3, 4, 5, 6, 1, 0] rfl)
  exact L7_0 100 0 11 st bg hB_st hB_bg (by omega) (by rw [show (11 : Int) + 1 = 12 by omega]; unfold tu; omega) (by rw [fl_nil (by omega)]) (by rw [fl_nil (by omega)]) (by omega) _ _ hP hD hS _ (lv_sub hl [2, 3, 4, 5, 6, 1, 0] rfl)

set_option maxHeartbeats 4000000 in
set_option maxRecDepth 100000 in
theorem c_X3_shed (l : Launch) (D : va_G) (cI cZ cII : ClassId) (sv : Nat) (ss : Nat) (sb : Nat) (st : Int → Int) (bg : Int → Int) (wi : Int) (ti : Int) (hB_st : BB 0 3 st) (hB_bg : BB 0 200 bg) (hp_wi : 0 ≤ wi ∧ wi ≤ 1000) (hp_ti : 0 ≤ ti ∧ ti ≤ 200) : CtI l yX3_shed wsX3_shed 1 26 D (ty3 cI cZ cII) [.ref sv, .int (iI wi), .int (iI ti)] [(sv, .inr (3, [.ref ss, .ref sb])), (ss, .inl (cI, 12, .inl (ia st))), (sb, .inl (cI, 12, .inl (ia bg)))] (fun z (u : (Int → Int) × (Int → Int)) => z = shN st wi ∧ u.1 = shS st wi ∧ BB 0 3 u.1 ∧ BB 0 200 u.2 ∧ (∀ j, u.1 j = 1 ∨ u.1 j = 3 → u.2 j = fl (shB st wi) ti bg 0 12 j)) (fun u => [(sv, .inr (3, [.ref ss, .ref sb])), (ss, .inl (cI, 12, .inl (ia u.1))), (sb, .inl (cI, 12, .inl (ia u.2)))]) := by
  refine CtI.mk (cc := cX3_shed) (maxL := 4) (ret := (some .int)) (by decide) rfl (Nat.le_of_ble_eq_true rfl) ?_
  intro p e s m below meth c A ls R args Q hx hb hml hr hts hown hlocks hA hK hP hD hN hS hl hRf hRl hQ
  have hl : lv_has ls 4 [(0, .ref sv), (1, .int (iI wi)), (2, .int (iI ti))] := hl
  have hown : s.vm.findClass RX3 = some m.cls := hown
  refine lv_aload_n hx hb dX3_shed_0 rfl (lv_at hl 0 rfl) ?_
  refine lv_iconst (v := iI 1) hx hb dX3_shed_1 rfl ?_
  refine lv_iconst (v := iI 0) hx hb dX3_shed_2 rfl ?_
  refine lv_iload_n hx hb dX3_shed_3 rfl (lv_at hl 1 rfl) ?_
  refine lv_iload_n hx hb dX3_shed_4 rfl (lv_at hl 2 rfl) ?_
  refine q_callVI (wr := []) (wn := fun (u : (Int → Int) × (Int → Int)) => [(sv, .inr (3, [.ref ss, .ref sb])), (ss, .inl (cI, 12, .inl (ia u.1))), (sb, .inl (cI, 12, .inl (ia u.2)))]) (rest := []) [.int (iI 1), .int (iI 0), .int (iI wi), .int (iI ti)] ⟨hx, hb, hml, hown, hts⟩ (c_X3_turnHighest l D cI cZ cII sv ss sb st bg 1 0 wi ti hB_st hB_bg (by omega) (by omega) (by omega) (by omega)) (cwV 4 hts gX3_shed_X3_turnHighest rfl rfl rfl (by decide +kernel) (by rw [hRf, hRl]; exact ⟨Nat.le_of_ble_eq_true rfl, Nat.le_of_ble_eq_true rfl⟩)) hK hP hD hS hA hN [0, 1, 2] [] [0, 1, 2] 0 3 rfl rfl rfl rfl rfl rfl (by decide) rfl (fun u => rfl) rfl hl.1 rfl (Nat.le_of_ble_eq_true rfl) dX3_shed_5 ⟨Nat.zero_le _, Nat.zero_le _⟩ (fun z u H locs hw hP hD hS => ?_)
  obtain ⟨st_1, bg_2⟩ := u
  try dsimp only at hw
  have hP : va_P D vwCl [(sv, .inr (3, [.ref ss, .ref sb])), (ss, .inl (cI, 12, .inl (ia st_1))), (sb, .inl (cI, 12, .inl (ia bg_2)))] H := hP
  have hD : va_D A [(sv, .inr (3, [.ref ss, .ref sb])), (ss, .inl (cI, 12, .inl (ia st_1))), (sb, .inl (cI, 12, .inl (ia bg_2)))] := hD
  obtain ⟨z_3, ez⟩ : ∃ y : Int, y = z := ⟨_, rfl⟩
  rw [← ez] at hw ⊢
  clear ez
  obtain ⟨w5, e5, f5, hB_st_1, hB_bg_2⟩ := hw
  have ht1 := zl_b st 1 (k := 12) (by omega)
  have ht2 : 0 ≤ tu (zl st 1 12) wi ∧ tu (zl st 1 12) wi ≤ wi := by unfold tu; omega
  refine lv_istore_n (lv' := [(3, .int (iI z_3)), (0, .ref sv), (1, .int (iI wi)), (2, .int (iI ti))]) hx hb dX3_shed_8 rfl hl (by decide) rfl (fun ls hl => ?_)
  refine lv_iload_n hx hb dX3_shed_9 rfl (lv_at hl 0 rfl) ?_
  refine lv_aload_n hx hb dX3_shed_10 rfl (lv_at hl 1 rfl) ?_
  refine lv_iconst (v := iI 2) hx hb dX3_shed_11 rfl ?_
  refine lv_iconst (v := iI 3) hx hb dX3_shed_12 rfl ?_
  refine lv_iload_n hx hb dX3_shed_13 rfl (lv_at hl 2 rfl) ?_
  refine lv_iload_n hx hb dX3_shed_14 rfl (lv_at hl 0 rfl) ?_
  refine q_isub hx hb dX3_shed_15 ?_
  refine lv_iload_n hx hb dX3_shed_16 rfl (lv_at hl 3 rfl) ?_
  refine q_callVI (wr := []) (wn := fun (u : (Int → Int) × (Int → Int)) => [(sv, .inr (3, [.ref ss, .ref sb])), (ss, .inl (cI, 12, .inl (ia u.1))), (sb, .inl (cI, 12, .inl (ia u.2)))]) (rest := [.int (iI z_3)]) [.int (iI 2), .int (iI 3), .int (iI (wi - z_3)), .int (iI ti)] ⟨hx, hb, hml, hown, hts⟩ (c_X3_turnHighest l D cI cZ cII sv ss sb st_1 bg_2 2 3 (wi - z_3) ti hB_st_1 hB_bg_2 (by omega) (by omega) (by omega) (by omega)) (cwV 4 hts gX3_shed_X3_turnHighest rfl rfl rfl (by decide +kernel) (by rw [hRf, hRl]; exact ⟨Nat.le_of_ble_eq_true rfl, Nat.le_of_ble_eq_true rfl⟩)) hK hP hD hS hA hN [0, 1, 2] [] [0, 1, 2] 0 3 rfl rfl rfl rfl rfl rfl (by decide) rfl (fun u => rfl) rfl hl.1 rfl (Nat.le_of_ble_eq_true rfl) dX3_shed_17 ⟨Nat.zero_le _, Nat.zero_le _⟩ (fun z u H locs hw hP hD hS => ?_)
  obtain ⟨st_4, bg_5⟩ := u
  try dsimp only at hw
  have hP : va_P D vwCl [(sv, .inr (3, [.ref ss, .ref sb])), (ss, .inl (cI, 12, .inl (ia st_4))), (sb, .inl (cI, 12, .inl (ia bg_5)))] H := hP
  have hD : va_D A [(sv, .inr (3, [.ref ss, .ref sb])), (ss, .inl (cI, 12, .inl (ia st_4))), (sb, .inl (cI, 12, .inl (ia bg_5)))] := hD
  obtain ⟨z_6, ez⟩ : ∃ y : Int, y = z := ⟨_, rfl⟩
  rw [← ez] at hw ⊢
  clear ez
  obtain ⟨w17, e17, f17, hB_st_4, hB_bg_5⟩ := hw
  refine q_iadd hx hb dX3_shed_20 ?_
  rw [hQ]
  refine q_retI (st_4, bg_5) hx hb hr hlocks hK hP hD hS dX3_shed_21 ?_
  try dsimp only
  rw [w5] at w17 e17 f17
  rw [e5] at w17 e17 f17
  rw [f5] at f17
  refine ⟨?_, e17, by assumption, by assumption, ?_⟩
  · rw [w5, w17]; rfl
  · intro j hj; rw [f17]; rw [e17] at hj; exact shed_ag j hj

theorem in_X3_endThose_X3 : ∀ w ∈ wsX30, w ∈ wsX3_endThose := fun _ h => List.mem_cons_of_mem _ (List.mem_append_right _ h)
theorem lk_X3_endThose_1 : Cond.fieldLink RX3 9 "MoreHands$Servers" "states" "[I" ∈ wsX3_endThose := List.mem_of_getElem? (i := 1) rfl
theorem lk_X3_endThose_2 : Cond.fieldLink RX3 15 "MoreHands$Servers" "began" "[I" ∈ wsX3_endThose := List.mem_of_getElem? (i := 2) rfl
set_option maxHeartbeats 4000000 in
set_option maxRecDepth 100000 in
theorem c_X3_endThose (l : Launch) (D : va_G) (cI cZ cII : ClassId) (sv : Nat) (ss : Nat) (sb : Nat) (st : Int → Int) (bg : Int → Int) (fm : Int) (to : Int) (lb : Int) (hB_st : BB 0 3 st) (hB_bg : BB 0 200 bg) (hp_fm : 0 ≤ fm ∧ fm ≤ 3) (hp_to : 0 ≤ to ∧ to ≤ 3) (hp_lb : -1000 ≤ lb ∧ lb ≤ 1000) : CtV l yX3_endThose wsX3_endThose 0 0 D (ty3 cI cZ cII) [.ref sv, .int (iI fm), .int (iI to), .int (iI lb)] [(sv, .inr (3, [.ref ss, .ref sb])), (ss, .inl (cI, 12, .inl (ia st))), (sb, .inl (cI, 12, .inl (ia bg)))] (fun (u : (Int → Int)) => u = fl (PE st bg fm lb) to st 0 12 ∧ BB 0 3 u) (fun u => [(sv, .inr (3, [.ref ss, .ref sb])), (ss, .inl (cI, 12, .inl (ia u))), (sb, .inl (cI, 12, .inl (ia bg)))]) := by
  refine CtV.mk (cc := cX3_endThose) (maxL := 5) (ret := none) (by decide) rfl (Nat.le_of_ble_eq_true rfl) ?_
  intro p e s m below meth c A ls R args Q hx hb hml hr hts hown hlocks hA hK hP hD hN hS hl hRf hRl hQ
  have hl : lv_has ls 5 [(0, .ref sv), (1, .int (iI fm)), (2, .int (iI to)), (3, .int (iI lb))] := hl
  have hown : s.vm.findClass RX3 = some m.cls := hown
  refine lv_iconst (v := iI 0) hx hb dX3_endThose_0 rfl ?_
  refine lv_istore (lv' := [(4, .int (iI 0)), (0, .ref sv), (1, .int (iI fm)), (2, .int (iI to)), (3, .int (iI lb))]) hx hb dX3_endThose_1 hl (by decide) rfl (fun ls hl => ?_)
  have L3_0 : ∀ (n : Nat), ∀ (k : Int) (st1 : Int → Int), (hB_st1 : BB 0 3 st1) → (hk : 0 ≤ k ∧ k ≤ 12) → (hs : st1 = fl (PE st bg fm lb) to st 0 k) → (12 - k) < (n : Int) → ∀ (H : Heap) (locs : List Loc), va_P D vwCl [(sv, .inr (3, [.ref ss, .ref sb])), (ss, .inl (cI, 12, .inl (ia st1))), (sb, .inl (cI, 12, .inl (ia bg)))] H → va_D A [(sv, .inr (3, [.ref ss, .ref sb])), (ss, .inl (cI, 12, .inl (ia st1))), (sb, .inl (cI, 12, .inl (ia bg)))] → va_S A s.heap H locs → ∀ ls : Array Slot, lv_has ls 5 [(0, .ref sv), (1, .int (iI fm)), (2, .int (iI to)), (3, .int (iI lb)), (4, .int (iI k))] → W p l e R s m args below meth c H locs 0 0 Q (F0 m 3 ls []) := by
    intro n
    induction n with
    | zero => intro k st1 hB_st1 hk hs hm; exact absurd hm (by omega)
    | succ n ih =>
      intro k st1 hB_st1 hk hs hm H locs hP hD hS ls hl
      have e0 : st1 k = st k := by rw [hs]; exact fl_out (by omega)
      refine lv_iload hx hb dX3_endThose_3 (lv_at hl 4 rfl) ?_
      refine lv_bipush (v := iI 12) hx hb dX3_endThose_5 (by decide +kernel) ?_
      refine q_icmp_ge (tgt := 46) hx hb dX3_endThose_7 (by decide) ⟨by omega, by omega⟩ ⟨by decide, by decide⟩ (fun c7 => ?_) (fun c7 => ?_)
      ·
        rw [hQ]
        refine q_retV st1 hx hb hr hlocks hK hP hD hS dX3_endThose_46 ?_
        try dsimp only
        exact ⟨by rw [hs, show k = 12 by omega], hB_st1⟩
      ·
        refine lv_aload_n hx hb dX3_endThose_10 rfl (lv_at hl 0 rfl) ?_
        refine va_get (D := D) (ci := 3) (v := .ref ss) (C := RX3) (T := TX3) (N := 2) hx hb hts in_X3_endThose_X3 hown hK hP 0 rfl rfl 0 (by decide) (hts _ lk_X3_endThose_1) (fun _ h9 => h9) rfl dX3_endThose_11 ?_
        refine lv_iload hx hb dX3_endThose_14 (lv_at hl 4 rfl) ?_
        refine q_iald hx hb hK hP 1 0 rfl rfl (by omega) (by omega) (by decide) dX3_endThose_16 ?_
        have hb16 := hB_st1 k
        refine lv_iload_n hx hb dX3_endThose_17 rfl (lv_at hl 1 rfl) ?_
        refine q_icmp_ne (tgt := 40) hx hb dX3_endThose_18 (by decide) ⟨by omega, by omega⟩ ⟨by omega, by omega⟩ (fun c18 => ?_) (fun c18 => ?_)
        ·
          refine q_iinc (k := 4) (lv' := [(4, .int (iI (k + 1))), (0, .ref sv), (1, .int (iI fm)), (2, .int (iI to)), (3, .int (iI lb))]) hx hb dX3_endThose_40 hl rfl (by decide) rfl (fun ls hl => ?_)
          refine lv_goto (tgt := 3) hx hb dX3_endThose_43 (by decide) ?_
          exact ih  (k + 1) st1 hB_st1 (by omega) (by rw [hs]; first | exact fl_hi1 hk.1 (decide_eq_true ⟨by omega, by omega⟩) | exact fl_hi0 (decide_eq_false (by omega))) (by omega) _ _ hP hD hS _ (lv_sub hl [1, 2, 3, 4, 0] rfl)
        ·
          refine lv_aload_n hx hb dX3_endThose_21 rfl (lv_at hl 0 rfl) ?_
          refine va_get (D := D) (ci := 3) (v := .ref sb) (C := RX3) (T := TX3) (N := 2) hx hb hts in_X3_endThose_X3 hown hK hP 0 rfl rfl 1 (by decide) (hts _ lk_X3_endThose_2) (fun _ h9 => h9) rfl dX3_endThose_22 ?_
          refine lv_iload hx hb dX3_endThose_25 (lv_at hl 4 rfl) ?_
          refine q_iald hx hb hK hP 2 0 rfl rfl (by omega) (by omega) (by decide) dX3_endThose_27 ?_
          have hb27 := hB_bg k
          refine lv_iload_n hx hb dX3_endThose_28 rfl (lv_at hl 3 rfl) ?_
          refine q_icmp_gt (tgt := 40) hx hb dX3_endThose_29 (by decide) ⟨by omega, by omega⟩ ⟨by omega, by omega⟩ (fun c29 => ?_) (fun c29 => ?_)
          ·
            refine q_iinc (k := 4) (lv' := [(4, .int (iI (k + 1))), (0, .ref sv), (1, .int (iI fm)), (2, .int (iI to)), (3, .int (iI lb))]) hx hb dX3_endThose_40 hl rfl (by decide) rfl (fun ls hl => ?_)
            refine lv_goto (tgt := 3) hx hb dX3_endThose_43 (by decide) ?_
            exact ih  (k + 1) st1 hB_st1 (by omega) (by rw [hs]; first | exact fl_hi1 hk.1 (decide_eq_true ⟨by omega, by omega⟩) | exact fl_hi0 (decide_eq_false (by omega))) (by omega) _ _ hP hD hS _ (lv_sub hl [1, 2, 3, 4, 0] rfl)
          ·
            refine lv_aload_n hx hb dX3_endThose_32 rfl (lv_at hl 0 rfl) ?_
            refine va_get (D := D) (ci := 3) (v := .ref ss) (C := RX3) (T := TX3) (N := 2) hx hb hts in_X3_endThose_X3 hown hK hP 0 rfl rfl 0 (by decide) (hts _ lk_X3_endThose_1) (fun _ h9 => h9) rfl dX3_endThose_33 ?_
            refine lv_iload hx hb dX3_endThose_36 (lv_at hl 4 rfl) ?_
            refine lv_iload_n hx hb dX3_endThose_38 rfl (lv_at hl 2 rfl) ?_
            refine q_iast hx hb hK hP hD hS 1 0 rfl rfl (by omega) (by omega) (by decide) dX3_endThose_39 (fun H locs hP hD hS => ?_)
            have hP : va_P D vwCl [(sv, .inr (3, [.ref ss, .ref sb])), (ss, .inl (cI, 12, .inl (ia (uI st1 k to)))), (sb, .inl (cI, 12, .inl (ia bg)))] H := hP
            have hD : va_D A [(sv, .inr (3, [.ref ss, .ref sb])), (ss, .inl (cI, 12, .inl (ia (uI st1 k to)))), (sb, .inl (cI, 12, .inl (ia bg)))] := hD
            have hB_1 : BB 0 3 (uI st1 k to) := BB_uI hB_st1 (by omega)
            refine q_iinc (k := 4) (lv' := [(4, .int (iI (k + 1))), (0, .ref sv), (1, .int (iI fm)), (2, .int (iI to)), (3, .int (iI lb))]) hx hb dX3_endThose_40 hl rfl (by decide) rfl (fun ls hl => ?_)
            refine lv_goto (tgt := 3) hx hb dX3_endThose_43 (by decide) ?_
            exact ih  (k + 1) (uI st1 k to) hB_1 (by omega) (by rw [hs]; first | exact fl_hi1 hk.1 (decide_eq_true ⟨by omega, by omega⟩) | exact fl_hi0 (decide_eq_false (by omega))) (by omega) _ _ hP hD hS _ (lv_sub hl [1, 2, 3, 4, 0] rfl)
  exact L3_0 100 0 st hB_st (by omega) (by rw [fl_nil (by omega)]) (by omega) _ _ hP hD hS _ (lv_sub hl [1, 2, 3, 4, 0] rfl)

set_option maxHeartbeats 4000000 in
set_option maxRecDepth 100000 in
theorem c_X3_endWarming (l : Launch) (D : va_G) (cI cZ cII : ClassId) (sv : Nat) (ss : Nat) (sb : Nat) (st : Int → Int) (bg : Int → Int) (lb : Int) (hB_st : BB 0 3 st) (hB_bg : BB 0 200 bg) (hp_lb : -1000 ≤ lb ∧ lb ≤ 1000) : CtV l yX3_endWarming wsX3_endWarming 1 24 D (ty3 cI cZ cII) [.ref sv, .int (iI lb)] [(sv, .inr (3, [.ref ss, .ref sb])), (ss, .inl (cI, 12, .inl (ia st))), (sb, .inl (cI, 12, .inl (ia bg)))] (fun (u : (Int → Int)) => u = fl (PE st bg 1 lb) 2 st 0 12 ∧ BB 0 3 u) (fun u => [(sv, .inr (3, [.ref ss, .ref sb])), (ss, .inl (cI, 12, .inl (ia u))), (sb, .inl (cI, 12, .inl (ia bg)))]) := by
  refine CtV.mk (cc := cX3_endWarming) (maxL := 2) (ret := none) (by decide) rfl (Nat.le_of_ble_eq_true rfl) ?_
  intro p e s m below meth c A ls R args Q hx hb hml hr hts hown hlocks hA hK hP hD hN hS hl hRf hRl hQ
  have hl : lv_has ls 2 [(0, .ref sv), (1, .int (iI lb))] := hl
  have hown : s.vm.findClass RX3 = some m.cls := hown
  refine lv_aload_n hx hb dX3_endWarming_0 rfl (lv_at hl 0 rfl) ?_
  refine lv_iconst (v := iI 1) hx hb dX3_endWarming_1 rfl ?_
  refine lv_iconst (v := iI 2) hx hb dX3_endWarming_2 rfl ?_
  refine lv_iload_n hx hb dX3_endWarming_3 rfl (lv_at hl 1 rfl) ?_
  refine q_callVV (wr := []) (wn := fun (u : (Int → Int)) => [(sv, .inr (3, [.ref ss, .ref sb])), (ss, .inl (cI, 12, .inl (ia u))), (sb, .inl (cI, 12, .inl (ia bg)))]) (rest := []) [.int (iI 1), .int (iI 2), .int (iI lb)] ⟨hx, hb, hml, hown, hts⟩ (c_X3_endThose l D cI cZ cII sv ss sb st bg 1 2 lb hB_st hB_bg (by omega) (by omega) (by omega)) (cwV 3 hts gX3_endWarming_X3_endThose rfl rfl rfl (by decide +kernel) (by rw [hRf, hRl]; exact ⟨Nat.le_of_ble_eq_true rfl, Nat.le_of_ble_eq_true rfl⟩)) hK hP hD hS hA hN [0, 1, 2] [] [0, 1, 2] 0 3 rfl rfl rfl rfl rfl rfl (by decide) rfl (fun u => rfl) rfl hl.1 rfl (Nat.le_of_ble_eq_true rfl) dX3_endWarming_4 ⟨Nat.zero_le _, Nat.zero_le _⟩ (fun u H locs hw hP hD hS => ?_)
  obtain ⟨st_1, rfl⟩ : ∃ z, z = u := ⟨_, rfl⟩
  try dsimp only at hw
  have hP : va_P D vwCl [(sv, .inr (3, [.ref ss, .ref sb])), (ss, .inl (cI, 12, .inl (ia st_1))), (sb, .inl (cI, 12, .inl (ia bg)))] H := hP
  have hD : va_D A [(sv, .inr (3, [.ref ss, .ref sb])), (ss, .inl (cI, 12, .inl (ia st_1))), (sb, .inl (cI, 12, .inl (ia bg)))] := hD
  obtain ⟨e4, hB_st_1⟩ := hw
  rw [hQ]
  refine q_retV st_1 hx hb hr hlocks hK hP hD hS dX3_endWarming_7 ?_
  try dsimp only
  exact ⟨by assumption, by assumption⟩

set_option maxHeartbeats 4000000 in
set_option maxRecDepth 100000 in
theorem c_X3_endDraining (l : Launch) (D : va_G) (cI cZ cII : ClassId) (sv : Nat) (ss : Nat) (sb : Nat) (st : Int → Int) (bg : Int → Int) (lb : Int) (hB_st : BB 0 3 st) (hB_bg : BB 0 200 bg) (hp_lb : -1000 ≤ lb ∧ lb ≤ 1000) : CtV l yX3_endDraining wsX3_endDraining 1 24 D (ty3 cI cZ cII) [.ref sv, .int (iI lb)] [(sv, .inr (3, [.ref ss, .ref sb])), (ss, .inl (cI, 12, .inl (ia st))), (sb, .inl (cI, 12, .inl (ia bg)))] (fun (u : (Int → Int)) => u = fl (PE st bg 3 lb) 0 st 0 12 ∧ BB 0 3 u) (fun u => [(sv, .inr (3, [.ref ss, .ref sb])), (ss, .inl (cI, 12, .inl (ia u))), (sb, .inl (cI, 12, .inl (ia bg)))]) := by
  refine CtV.mk (cc := cX3_endDraining) (maxL := 2) (ret := none) (by decide) rfl (Nat.le_of_ble_eq_true rfl) ?_
  intro p e s m below meth c A ls R args Q hx hb hml hr hts hown hlocks hA hK hP hD hN hS hl hRf hRl hQ
  have hl : lv_has ls 2 [(0, .ref sv), (1, .int (iI lb))] := hl
  have hown : s.vm.findClass RX3 = some m.cls := hown
  refine lv_aload_n hx hb dX3_endDraining_0 rfl (lv_at hl 0 rfl) ?_
  refine lv_iconst (v := iI 3) hx hb dX3_endDraining_1 rfl ?_
  refine lv_iconst (v := iI 0) hx hb dX3_endDraining_2 rfl ?_
  refine lv_iload_n hx hb dX3_endDraining_3 rfl (lv_at hl 1 rfl) ?_
  refine q_callVV (wr := []) (wn := fun (u : (Int → Int)) => [(sv, .inr (3, [.ref ss, .ref sb])), (ss, .inl (cI, 12, .inl (ia u))), (sb, .inl (cI, 12, .inl (ia bg)))]) (rest := []) [.int (iI 3), .int (iI 0), .int (iI lb)] ⟨hx, hb, hml, hown, hts⟩ (c_X3_endThose l D cI cZ cII sv ss sb st bg 3 0 lb hB_st hB_bg (by omega) (by omega) (by omega)) (cwV 3 hts gX3_endDraining_X3_endThose rfl rfl rfl (by decide +kernel) (by rw [hRf, hRl]; exact ⟨Nat.le_of_ble_eq_true rfl, Nat.le_of_ble_eq_true rfl⟩)) hK hP hD hS hA hN [0, 1, 2] [] [0, 1, 2] 0 3 rfl rfl rfl rfl rfl rfl (by decide) rfl (fun u => rfl) rfl hl.1 rfl (Nat.le_of_ble_eq_true rfl) dX3_endDraining_4 ⟨Nat.zero_le _, Nat.zero_le _⟩ (fun u H locs hw hP hD hS => ?_)
  obtain ⟨st_1, rfl⟩ : ∃ z, z = u := ⟨_, rfl⟩
  try dsimp only at hw
  have hP : va_P D vwCl [(sv, .inr (3, [.ref ss, .ref sb])), (ss, .inl (cI, 12, .inl (ia st_1))), (sb, .inl (cI, 12, .inl (ia bg)))] H := hP
  have hD : va_D A [(sv, .inr (3, [.ref ss, .ref sb])), (ss, .inl (cI, 12, .inl (ia st_1))), (sb, .inl (cI, 12, .inl (ia bg)))] := hD
  obtain ⟨e4, hB_st_1⟩ := hw
  rw [hQ]
  refine q_retV st_1 hx hb hr hlocks hK hP hD hS dX3_endDraining_7 ?_
  try dsimp only
  exact ⟨by assumption, by assumption⟩

theorem in_X3_cost_X3 : ∀ w ∈ wsX30, w ∈ wsX3_cost := fun _ h => List.mem_cons_of_mem _ (List.mem_append_right _ h)
theorem lk_X3_cost_1 : Cond.fieldLink RX3 9 "MoreHands$Servers" "states" "[I" ∈ wsX3_cost := List.mem_of_getElem? (i := 1) rfl
set_option maxHeartbeats 4000000 in
set_option maxRecDepth 100000 in
theorem c_X3_cost (l : Launch) (D : va_G) (cI cZ cII : ClassId) (sv : Nat) (ss : Nat) (sb : Nat) (st : Int → Int) (bg : Int → Int) (pr : Int) (sp : Int) (hB_st : BB 0 3 st) (hB_bg : BB 0 200 bg) (hp_pr : 0 ≤ pr ∧ pr ≤ 1000) (hp_sp : 0 ≤ sp ∧ sp ≤ 1000) : CtI l yX3_cost wsX3_cost 0 0 D (ty3 cI cZ cII) [.ref sv, .int (iI pr), .int (iI sp)] [(sv, .inr (3, [.ref ss, .ref sb])), (ss, .inl (cI, 12, .inl (ia st))), (sb, .inl (cI, 12, .inl (ia bg)))] (fun z (u : Unit) => z = (costS st pr sp)) (fun u => [(sv, .inr (3, [.ref ss, .ref sb])), (ss, .inl (cI, 12, .inl (ia st))), (sb, .inl (cI, 12, .inl (ia bg)))]) := by
  refine CtI.mk (cc := cX3_cost) (maxL := 5) (ret := (some .int)) (by decide) rfl (Nat.le_of_ble_eq_true rfl) ?_
  intro p e s m below meth c A ls R args Q hx hb hml hr hts hown hlocks hA hK hP hD hN hS hl hRf hRl hQ
  have hl : lv_has ls 5 [(0, .ref sv), (1, .int (iI pr)), (2, .int (iI sp))] := hl
  have hown : s.vm.findClass RX3 = some m.cls := hown
  refine lv_iconst (v := iI 0) hx hb dX3_cost_0 rfl ?_
  refine lv_istore_n (lv' := [(3, .int (iI 0)), (0, .ref sv), (1, .int (iI pr)), (2, .int (iI sp))]) hx hb dX3_cost_1 rfl hl (by decide) rfl (fun ls hl => ?_)
  refine lv_iconst (v := iI 0) hx hb dX3_cost_2 rfl ?_
  refine lv_istore (lv' := [(4, .int (iI 0)), (3, .int (iI 0)), (0, .ref sv), (1, .int (iI pr)), (2, .int (iI sp))]) hx hb dX3_cost_3 hl (by decide) rfl (fun ls hl => ?_)
  have L5_0 : ∀ (n : Nat), ∀ (n0 : Int) (k : Int), (hk : 0 ≤ k ∧ k ≤ 12) → (hf : n0 = sI (costF st pr sp) k) → (12 - k) < (n : Int) → ∀ (H : Heap) (locs : List Loc), va_P D vwCl [(sv, .inr (3, [.ref ss, .ref sb])), (ss, .inl (cI, 12, .inl (ia st))), (sb, .inl (cI, 12, .inl (ia bg)))] H → va_D A [(sv, .inr (3, [.ref ss, .ref sb])), (ss, .inl (cI, 12, .inl (ia st))), (sb, .inl (cI, 12, .inl (ia bg)))] → va_S A s.heap H locs → ∀ ls : Array Slot, lv_has ls 5 [(0, .ref sv), (1, .int (iI pr)), (2, .int (iI sp)), (3, .int (iI n0)), (4, .int (iI k))] → W p l e R s m args below meth c H locs 0 0 Q (F0 m 5 ls []) := by
    intro n
    induction n with
    | zero => intro n0 k hk hf hm; exact absurd hm (by omega)
    | succ n ih =>
      intro n0 k hk hf hm H locs hP hD hS ls hl
      refine lv_iload hx hb dX3_cost_5 (lv_at hl 4 rfl) ?_
      refine lv_bipush (v := iI 12) hx hb dX3_cost_7 (by decide +kernel) ?_
      refine q_icmp_ge (tgt := 43) hx hb dX3_cost_9 (by decide) ⟨by omega, by omega⟩ ⟨by decide, by decide⟩ (fun c9 => ?_) (fun c9 => ?_)
      ·
        refine lv_iload_n hx hb dX3_cost_43 rfl (lv_at hl 3 rfl) ?_
        rw [hQ]
        refine q_retI () hx hb hr hlocks hK hP hD hS dX3_cost_44 ?_
        rw [hf, show k = 12 by omega]; rfl
      ·
        refine lv_aload_n hx hb dX3_cost_12 rfl (lv_at hl 0 rfl) ?_
        refine va_get (D := D) (ci := 3) (v := .ref ss) (C := RX3) (T := TX3) (N := 2) hx hb hts in_X3_cost_X3 hown hK hP 0 rfl rfl 0 (by decide) (hts _ lk_X3_cost_1) (fun _ h9 => h9) rfl dX3_cost_13 ?_
        refine lv_iload hx hb dX3_cost_16 (lv_at hl 4 rfl) ?_
        refine q_iald hx hb hK hP 1 0 rfl rfl (by omega) (by omega) (by decide) dX3_cost_18 ?_
        have hb18 := hB_st k
        refine q_if_eq (tgt := 37) hx hb dX3_cost_19 (by decide) ⟨by omega, by omega⟩ (fun c19 => ?_) (fun c19 => ?_)
        ·
          refine q_iinc (k := 4) (lv' := [(4, .int (iI (k + 1))), (0, .ref sv), (1, .int (iI pr)), (2, .int (iI sp)), (3, .int (iI n0))]) hx hb dX3_cost_37 hl rfl (by decide) rfl (fun ls hl => ?_)
          refine lv_goto (tgt := 5) hx hb dX3_cost_40 (by decide) ?_
          exact ih  n0 (k + 1) (by omega) (by rw [sI_s _ hk.1, hf]; unfold costF; split <;> omega) (by omega) _ _ hP hD hS _ (lv_sub hl [1, 2, 3, 4, 0] rfl)
        ·
          refine lv_iload_n hx hb dX3_cost_22 rfl (lv_at hl 3 rfl) ?_
          refine lv_iload hx hb dX3_cost_23 (lv_at hl 4 rfl) ?_
          refine lv_bipush (v := iI 8) hx hb dX3_cost_25 (by decide +kernel) ?_
          refine q_icmp_ge (tgt := 34) hx hb dX3_cost_27 (by decide) ⟨by omega, by omega⟩ ⟨by decide, by decide⟩ (fun c27 => ?_) (fun c27 => ?_)
          ·
            refine lv_iload_n hx hb dX3_cost_34 rfl (lv_at hl 2 rfl) ?_
            refine q_iadd hx hb dX3_cost_35 ?_
            refine lv_istore_n (lv' := [(3, .int (iI (n0 + sp))), (0, .ref sv), (1, .int (iI pr)), (2, .int (iI sp)), (4, .int (iI k))]) hx hb dX3_cost_36 rfl hl (by decide) rfl (fun ls hl => ?_)
            refine q_iinc (k := 4) (lv' := [(4, .int (iI (k + 1))), (3, .int (iI (n0 + sp))), (0, .ref sv), (1, .int (iI pr)), (2, .int (iI sp))]) hx hb dX3_cost_37 hl rfl (by decide) rfl (fun ls hl => ?_)
            refine lv_goto (tgt := 5) hx hb dX3_cost_40 (by decide) ?_
            exact ih  (n0 + sp) (k + 1) (by omega) (by rw [sI_s _ hk.1, hf]; unfold costF; split <;> omega) (by omega) _ _ hP hD hS _ (lv_sub hl [2, 3, 4, 1, 0] rfl)
          ·
            refine lv_iload_n hx hb dX3_cost_30 rfl (lv_at hl 1 rfl) ?_
            refine lv_goto (tgt := 35) hx hb dX3_cost_31 (by decide) ?_
            refine q_iadd hx hb dX3_cost_35 ?_
            refine lv_istore_n (lv' := [(3, .int (iI (n0 + pr))), (0, .ref sv), (1, .int (iI pr)), (2, .int (iI sp)), (4, .int (iI k))]) hx hb dX3_cost_36 rfl hl (by decide) rfl (fun ls hl => ?_)
            refine q_iinc (k := 4) (lv' := [(4, .int (iI (k + 1))), (3, .int (iI (n0 + pr))), (0, .ref sv), (1, .int (iI pr)), (2, .int (iI sp))]) hx hb dX3_cost_37 hl rfl (by decide) rfl (fun ls hl => ?_)
            refine lv_goto (tgt := 5) hx hb dX3_cost_40 (by decide) ?_
            exact ih  (n0 + pr) (k + 1) (by omega) (by rw [sI_s _ hk.1, hf]; unfold costF; split <;> omega) (by omega) _ _ hP hD hS _ (lv_sub hl [2, 3, 4, 1, 0] rfl)
  exact L5_0 100 0 0 (by omega) (by rfl) (by omega) _ _ hP hD hS _ (lv_sub hl [2, 3, 4, 1, 0] rfl)

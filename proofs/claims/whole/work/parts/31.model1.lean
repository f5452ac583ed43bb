set_option maxHeartbeats 4000000 in
set_option maxRecDepth 100000 in
theorem c_X7_in (l : Launch) (D : va_G) (cI cZ cII : ClassId) (v : Int) (lo : Int) (hi : Int) (hp_v : IR v) (hp_lo : IR lo) (hp_hi : IR hi) : CtI l yX7_in wsX7_in 0 0 D (ty3 cI cZ cII) [.long (lI v), .long (lI lo), .long (lI hi)] [] (fun z (u : Unit) => (z = 1 ∧ (lo ≤ v ∧ v ≤ hi)) ∨ (z = 0 ∧ ¬ (lo ≤ v ∧ v ≤ hi))) (fun u => []) := by
  refine CtI.mk (cc := cX7_in) (maxL := 6) (ret := (some .boolean)) (by decide) rfl (Nat.le_of_ble_eq_true rfl) ?_
  intro p e s m below meth c A ls R args Q hx hb hml hr hts hown hlocks hA hK hP hD hN hS hl hRf hRl hQ
  have hl : lv_has ls 6 [(0, .long (lI v)), (2, .long (lI lo)), (4, .long (lI hi))] := hl
  have hown : s.vm.findClass RX7 = some m.cls := hown
  refine lv_lload_n hx hb dX7_in_0 rfl (lv_at hl 0 rfl) ?_
  refine lv_lload_n hx hb dX7_in_1 rfl (lv_at hl 1 rfl) ?_
  refine q_lcmp hx hb ⟨by first | omega | (split <;> omega), by first | omega | (split <;> omega)⟩ ⟨by first | omega | (split <;> omega), by first | omega | (split <;> omega)⟩ dX7_in_2 ?_
  refine q_if_lt (tgt := 17) hx hb dX7_in_3 (by decide) ⟨by first | omega | (split <;> omega), by first | omega | (split <;> omega)⟩ (fun c3 => ?_) (fun c3 => ?_)
  ·
    refine lv_iconst (v := iI 0) hx hb dX7_in_17 rfl ?_
    rw [hQ]
    refine q_retZ () hx hb hr hlocks hK hP hD hS dX7_in_18 (by omega) ?_
    first | omega | (split at * <;> omega)
  ·
    refine lv_lload_n hx hb dX7_in_6 rfl (lv_at hl 0 rfl) ?_
    refine lv_lload hx hb dX7_in_7 (lv_at hl 2 rfl) ?_
    refine q_lcmp hx hb ⟨by first | omega | (split <;> omega), by first | omega | (split <;> omega)⟩ ⟨by first | omega | (split <;> omega), by first | omega | (split <;> omega)⟩ dX7_in_9 ?_
    refine q_if_gt (tgt := 17) hx hb dX7_in_10 (by decide) ⟨by first | omega | (split <;> omega), by first | omega | (split <;> omega)⟩ (fun c10 => ?_) (fun c10 => ?_)
    ·
      refine lv_iconst (v := iI 0) hx hb dX7_in_17 rfl ?_
      rw [hQ]
      refine q_retZ () hx hb hr hlocks hK hP hD hS dX7_in_18 (by omega) ?_
      first | omega | (split at * <;> omega)
    ·
      refine lv_iconst (v := iI 1) hx hb dX7_in_13 rfl ?_
      refine lv_goto (tgt := 18) hx hb dX7_in_14 (by decide) ?_
      rw [hQ]
      refine q_retZ () hx hb hr hlocks hK hP hD hS dX7_in_18 (by omega) ?_
      first | omega | (split at * <;> omega)

theorem lk_X7_isTick_1 : Cond.constantLong RX7 87 (199) ∈ wsX7_isTick := List.mem_of_getElem? (i := 1) rfl
set_option maxHeartbeats 4000000 in
set_option maxRecDepth 100000 in
theorem c_X7_isTick (l : Launch) (D : va_G) (cI cZ cII : ClassId) (t : Int) (hp_t : IR t) : CtI l yX7_isTick wsX7_isTick 1 25 D (ty3 cI cZ cII) [.int (iI t)] [] (fun z (u : Unit) => (z = 1 ∧ (0 ≤ t ∧ t ≤ 199)) ∨ (z = 0 ∧ ¬ (0 ≤ t ∧ t ≤ 199))) (fun u => []) := by
  refine CtI.mk (cc := cX7_isTick) (maxL := 1) (ret := (some .boolean)) (by decide) rfl (Nat.le_of_ble_eq_true rfl) ?_
  intro p e s m below meth c A ls R args Q hx hb hml hr hts hown hlocks hA hK hP hD hN hS hl hRf hRl hQ
  have hl : lv_has ls 1 [(0, .int (iI t))] := hl
  have hown : s.vm.findClass RX7 = some m.cls := hown
  refine lv_iload_n hx hb dX7_isTick_0 rfl (lv_at hl 0 rfl) ?_
  refine lv_i2l (v := lI t) hx hb dX7_isTick_1 (iI_long ⟨by omega, by omega⟩) ?_
  refine lv_lconst (v := lI 0) hx hb dX7_isTick_2 (by decide +kernel) ?_
  refine lv_ldc2 (v := lI 199) hx hb hown (hts _ lk_X7_isTick_1) dX7_isTick_3 ?_
  refine q_callSI (wr := []) (wn := fun (u : Unit) => []) (rest := []) [.long (lI t), .long (lI 0), .long (lI 199)] ⟨hx, hb, hml, hown, hts⟩ (c_X7_in l D cI cZ cII t 0 199 ⟨by omega, by omega⟩ ⟨by omega, by omega⟩ ⟨by omega, by omega⟩) (va_cwS 3 hts gX7_isTick_X7_in rfl rfl rfl (by decide +kernel) (by rw [hRf, hRl]; exact ⟨Nat.le_of_ble_eq_true rfl, Nat.le_of_ble_eq_true rfl⟩)) hK hP hD hS hA hN [] [] [] rfl rfl rfl rfl (by decide) rfl (fun u => rfl) rfl hl.1 rfl (Nat.le_of_ble_eq_true rfl) dX7_isTick_6 ⟨Nat.zero_le _, Nat.zero_le _⟩ (fun z u H locs hw hP hD hS => ?_)
  have hP : va_P D vwCl [] H := hP
  have hD : va_D A [] := hD
  obtain ⟨z_1, ez⟩ : ∃ y : Int, y = z := ⟨_, rfl⟩
  rw [← ez] at hw ⊢
  clear ez
  rcases hw with ⟨rfl, w6⟩ | ⟨rfl, w6⟩
  ·
    rw [hQ]
    refine q_retZ () hx hb hr hlocks hK hP hD hS dX7_isTick_9 (by omega) ?_
    omega
  ·
    rw [hQ]
    refine q_retZ () hx hb hr hlocks hK hP hD hS dX7_isTick_9 (by omega) ?_
    omega

set_option maxHeartbeats 4000000 in
set_option maxRecDepth 100000 in
theorem c_X7_most (l : Launch) (D : va_G) (cI cZ cII : ClassId) (x : Int) (y : Int) (hp_x : IR x) (hp_y : IR y) : CtI l yX7_most wsX7_most 0 0 D (ty3 cI cZ cII) [.int (iI x), .int (iI y)] [] (fun z (u : Unit) => z = (max x y)) (fun u => []) := by
  refine CtI.mk (cc := cX7_most) (maxL := 2) (ret := (some .int)) (by decide) rfl (Nat.le_of_ble_eq_true rfl) ?_
  intro p e s m below meth c A ls R args Q hx hb hml hr hts hown hlocks hA hK hP hD hN hS hl hRf hRl hQ
  have hl : lv_has ls 2 [(0, .int (iI x)), (1, .int (iI y))] := hl
  have hown : s.vm.findClass RX7 = some m.cls := hown
  refine lv_iload_n hx hb dX7_most_0 rfl (lv_at hl 0 rfl) ?_
  refine lv_iload_n hx hb dX7_most_1 rfl (lv_at hl 1 rfl) ?_
  refine q_icmp_le (tgt := 9) hx hb dX7_most_2 (by decide) ⟨by omega, by omega⟩ ⟨by omega, by omega⟩ (fun c2 => ?_) (fun c2 => ?_)
  ·
    refine lv_iload_n hx hb dX7_most_9 rfl (lv_at hl 1 rfl) ?_
    rw [hQ]
    refine q_retI () hx hb hr hlocks hK hP hD hS dX7_most_10 ?_
    omega
  ·
    refine lv_iload_n hx hb dX7_most_5 rfl (lv_at hl 0 rfl) ?_
    refine lv_goto (tgt := 10) hx hb dX7_most_6 (by decide) ?_
    rw [hQ]
    refine q_retI () hx hb hr hlocks hK hP hD hS dX7_most_10 ?_
    omega

set_option maxHeartbeats 4000000 in
set_option maxRecDepth 100000 in
theorem c_X7_least (l : Launch) (D : va_G) (cI cZ cII : ClassId) (x : Int) (y : Int) (hp_x : IR x) (hp_y : IR y) : CtI l yX7_least wsX7_least 0 0 D (ty3 cI cZ cII) [.int (iI x), .int (iI y)] [] (fun z (u : Unit) => z = (min x y)) (fun u => []) := by
  refine CtI.mk (cc := cX7_least) (maxL := 2) (ret := (some .int)) (by decide) rfl (Nat.le_of_ble_eq_true rfl) ?_
  intro p e s m below meth c A ls R args Q hx hb hml hr hts hown hlocks hA hK hP hD hN hS hl hRf hRl hQ
  have hl : lv_has ls 2 [(0, .int (iI x)), (1, .int (iI y))] := hl
  have hown : s.vm.findClass RX7 = some m.cls := hown
  refine lv_iload_n hx hb dX7_least_0 rfl (lv_at hl 0 rfl) ?_
  refine lv_iload_n hx hb dX7_least_1 rfl (lv_at hl 1 rfl) ?_
  refine q_icmp_ge (tgt := 9) hx hb dX7_least_2 (by decide) ⟨by omega, by omega⟩ ⟨by omega, by omega⟩ (fun c2 => ?_) (fun c2 => ?_)
  ·
    refine lv_iload_n hx hb dX7_least_9 rfl (lv_at hl 1 rfl) ?_
    rw [hQ]
    refine q_retI () hx hb hr hlocks hK hP hD hS dX7_least_10 ?_
    omega
  ·
    refine lv_iload_n hx hb dX7_least_5 rfl (lv_at hl 0 rfl) ?_
    refine lv_goto (tgt := 10) hx hb dX7_least_6 (by decide) ?_
    rw [hQ]
    refine q_retI () hx hb hr hlocks hK hP hD hS dX7_least_10 ?_
    omega

theorem in_X7_told_X7 : ∀ w ∈ wsX70, w ∈ wsX7_told := fun _ h => List.mem_cons_of_mem _ (List.mem_append_right _ h)
theorem lk_X7_told_1 : Cond.constantLong RX7 81 (18) ∈ wsX7_told := List.mem_of_getElem? (i := 1) rfl
theorem lk_X7_told_2 : Cond.fieldLink RX7 7 "MoreHandsModel" "settings" "[I" ∈ wsX7_told := List.mem_of_getElem? (i := 2) rfl
set_option maxHeartbeats 4000000 in
set_option maxRecDepth 100000 in
theorem c_X7_told (l : Launch) (D : va_G) (cI cZ cII : ClassId) (mo : Nat) (m0 : Nat) (m1 : Nat) (m2 : Nat) (m3 : Nat) (m4 : Nat) (m5 : Nat) (m6 : Nat) (m7 : Nat) (m8 : Nat) (m9 : Nat) (m10 : Nat) (m11 : Nat) (m12 : Nat) (m13 : Nat) (m14 : Nat) (m15 : Nat) (m16 : Nat) (m17 : Nat) (m18 : Nat) (m19 : Nat) (aa : Int) (m21 : Nat) (se : Int → Int) (what : Int) (hB_se : BB 0 1000 se) (hp_what : IR what) : CtI l yX7_told wsX7_told 1 25 D (ty3 cI cZ cII) [.ref mo, .int (iI what)] [(mo, .inr (7, [.ref m0, .ref m1, .ref m2, .ref m3, .ref m4, .ref m5, .ref m6, .ref m7, .ref m8, .ref m9, .ref m10, .ref m11, .ref m12, .ref m13, .ref m14, .ref m15, .ref m16, .ref m17, .ref m18, .ref m19, .int (iI aa), .ref m21])), (m0, .inl (cI, 19, .inl (ia se)))] (fun z (u : Unit) => z = (tvF se what)) (fun u => [(mo, .inr (7, [.ref m0, .ref m1, .ref m2, .ref m3, .ref m4, .ref m5, .ref m6, .ref m7, .ref m8, .ref m9, .ref m10, .ref m11, .ref m12, .ref m13, .ref m14, .ref m15, .ref m16, .ref m17, .ref m18, .ref m19, .int (iI aa), .ref m21])), (m0, .inl (cI, 19, .inl (ia se)))]) := by
  refine CtI.mk (cc := cX7_told) (maxL := 2) (ret := (some .int)) (by decide) rfl (Nat.le_of_ble_eq_true rfl) ?_
  intro p e s m below meth c A ls R args Q hx hb hml hr hts hown hlocks hA hK hP hD hN hS hl hRf hRl hQ
  have hl : lv_has ls 2 [(0, .ref mo), (1, .int (iI what))] := hl
  have hown : s.vm.findClass RX7 = some m.cls := hown
  refine lv_iload_n hx hb dX7_told_0 rfl (lv_at hl 1 rfl) ?_
  refine lv_i2l (v := lI what) hx hb dX7_told_1 (iI_long ⟨by omega, by omega⟩) ?_
  refine lv_lconst (v := lI 0) hx hb dX7_told_2 (by decide +kernel) ?_
  refine lv_ldc2 (v := lI 18) hx hb hown (hts _ lk_X7_told_1) dX7_told_3 ?_
  refine q_callSI (wr := [(mo, .inr (7, [.ref m0, .ref m1, .ref m2, .ref m3, .ref m4, .ref m5, .ref m6, .ref m7, .ref m8, .ref m9, .ref m10, .ref m11, .ref m12, .ref m13, .ref m14, .ref m15, .ref m16, .ref m17, .ref m18, .ref m19, .int (iI aa), .ref m21])), (m0, .inl (cI, 19, .inl (ia se)))]) (wn := fun (u : Unit) => [(mo, .inr (7, [.ref m0, .ref m1, .ref m2, .ref m3, .ref m4, .ref m5, .ref m6, .ref m7, .ref m8, .ref m9, .ref m10, .ref m11, .ref m12, .ref m13, .ref m14, .ref m15, .ref m16, .ref m17, .ref m18, .ref m19, .int (iI aa), .ref m21])), (m0, .inl (cI, 19, .inl (ia se)))]) (rest := []) [.long (lI what), .long (lI 0), .long (lI 18)] ⟨hx, hb, hml, hown, hts⟩ (c_X7_in l D cI cZ cII what 0 18 ⟨by omega, by omega⟩ ⟨by omega, by omega⟩ ⟨by omega, by omega⟩) (va_cwS 3 hts gX7_told_X7_in rfl rfl rfl (by decide +kernel) (by rw [hRf, hRl]; exact ⟨Nat.le_of_ble_eq_true rfl, Nat.le_of_ble_eq_true rfl⟩)) hK hP hD hS hA hN [] [0, 1] [0, 1] rfl rfl rfl rfl (by decide) rfl (fun u => rfl) rfl hl.1 rfl (Nat.le_of_ble_eq_true rfl) dX7_told_6 ⟨Nat.zero_le _, Nat.zero_le _⟩ (fun z u H locs hw hP hD hS => ?_)
  have hP : va_P D vwCl [(mo, .inr (7, [.ref m0, .ref m1, .ref m2, .ref m3, .ref m4, .ref m5, .ref m6, .ref m7, .ref m8, .ref m9, .ref m10, .ref m11, .ref m12, .ref m13, .ref m14, .ref m15, .ref m16, .ref m17, .ref m18, .ref m19, .int (iI aa), .ref m21])), (m0, .inl (cI, 19, .inl (ia se)))] H := hP
  have hD : va_D A [(mo, .inr (7, [.ref m0, .ref m1, .ref m2, .ref m3, .ref m4, .ref m5, .ref m6, .ref m7, .ref m8, .ref m9, .ref m10, .ref m11, .ref m12, .ref m13, .ref m14, .ref m15, .ref m16, .ref m17, .ref m18, .ref m19, .int (iI aa), .ref m21])), (m0, .inl (cI, 19, .inl (ia se)))] := hD
  obtain ⟨z_1, ez⟩ : ∃ y : Int, y = z := ⟨_, rfl⟩
  rw [← ez] at hw ⊢
  clear ez
  rcases hw with ⟨rfl, w6⟩ | ⟨rfl, w6⟩
  ·
    refine q_if_eq (tgt := 21) hx hb dX7_told_9 (by decide) ⟨by decide, by decide⟩ (fun h => absurd h (by decide)) (fun _ => ?_)
    refine lv_aload_n hx hb dX7_told_12 rfl (lv_at hl 0 rfl) ?_
    refine va_get (D := D) (ci := 7) (v := .ref m0) (C := RX7) (T := TX7) (N := 22) hx hb hts in_X7_told_X7 hown hK hP 0 rfl rfl 0 (by decide) (hts _ lk_X7_told_2) (fun _ h9 => h9) rfl dX7_told_13 ?_
    refine lv_iload_n hx hb dX7_told_16 rfl (lv_at hl 1 rfl) ?_
    refine q_iald hx hb hK hP 1 0 rfl rfl (by omega) (by omega) (by decide) dX7_told_17 ?_
    have hb17 := hB_se what
    refine lv_goto (tgt := 24) hx hb dX7_told_18 (by decide) ?_
    rw [hQ]
    refine q_retI () hx hb hr hlocks hK hP hD hS dX7_told_24 ?_
    unfold tvF; first | rw [if_pos w6] | rw [if_neg w6]
  ·
    refine q_if_eq (tgt := 21) hx hb dX7_told_9 (by decide) ⟨by decide, by decide⟩ (fun _ => ?_) (fun h => absurd h (by decide))
    refine lv_sipush (v := iI (-1002)) hx hb dX7_told_21 (by decide +kernel) ?_
    rw [hQ]
    refine q_retI () hx hb hr hlocks hK hP hD hS dX7_told_24 ?_
    unfold tvF; first | rw [if_pos w6] | rw [if_neg w6]

theorem in_X7_many_X7 : ∀ w ∈ wsX70, w ∈ wsX7_many := fun _ h => List.mem_cons_of_mem _ (List.mem_append_right _ h)
theorem lk_X7_many_1 : Cond.fieldLink RX7 32 "MoreHandsModel" "states" "[I" ∈ wsX7_many := List.mem_of_getElem? (i := 1) rfl
set_option maxHeartbeats 4000000 in
set_option maxRecDepth 100000 in
theorem c_X7_many (l : Launch) (D : va_G) (cI cZ cII : ClassId) (mo : Nat) (m7 : Nat) (m0 : Nat) (m1 : Nat) (m2 : Nat) (m3 : Nat) (m4 : Nat) (m5 : Nat) (m6 : Nat) (m8 : Nat) (m9 : Nat) (m10 : Nat) (m11 : Nat) (m12 : Nat) (m13 : Nat) (m14 : Nat) (m15 : Nat) (m16 : Nat) (m17 : Nat) (m18 : Nat) (m19 : Nat) (aa : Int) (m21 : Nat) (st : Int → Int) (v : Int) (hB_st : BB 0 3 st) (hp_v : 0 ≤ v ∧ v ≤ 3) : CtI l yX7_many wsX7_many 0 0 D (ty3 cI cZ cII) [.ref mo, .int (iI v)] [(mo, .inr (7, [.ref m0, .ref m1, .ref m2, .ref m3, .ref m4, .ref m5, .ref m6, .ref m7, .ref m8, .ref m9, .ref m10, .ref m11, .ref m12, .ref m13, .ref m14, .ref m15, .ref m16, .ref m17, .ref m18, .ref m19, .int (iI aa), .ref m21])), (m7, .inl (cI, 12, .inl (ia st)))] (fun z (u : Unit) => z = (cnt st v)) (fun u => [(mo, .inr (7, [.ref m0, .ref m1, .ref m2, .ref m3, .ref m4, .ref m5, .ref m6, .ref m7, .ref m8, .ref m9, .ref m10, .ref m11, .ref m12, .ref m13, .ref m14, .ref m15, .ref m16, .ref m17, .ref m18, .ref m19, .int (iI aa), .ref m21])), (m7, .inl (cI, 12, .inl (ia st)))]) := by
  refine CtI.mk (cc := cX7_many) (maxL := 4) (ret := (some .int)) (by decide) rfl (Nat.le_of_ble_eq_true rfl) ?_
  intro p e s m below meth c A ls R args Q hx hb hml hr hts hown hlocks hA hK hP hD hN hS hl hRf hRl hQ
  have hl : lv_has ls 4 [(0, .ref mo), (1, .int (iI v))] := hl
  have hown : s.vm.findClass RX7 = some m.cls := hown
  refine lv_iconst (v := iI 0) hx hb dX7_many_0 rfl ?_
  refine lv_istore_n (lv' := [(2, .int (iI 0)), (0, .ref mo), (1, .int (iI v))]) hx hb dX7_many_1 rfl hl (by decide) rfl (fun ls hl => ?_)
  refine lv_iconst (v := iI 0) hx hb dX7_many_2 rfl ?_
  refine lv_istore_n (lv' := [(3, .int (iI 0)), (2, .int (iI 0)), (0, .ref mo), (1, .int (iI v))]) hx hb dX7_many_3 rfl hl (by decide) rfl (fun ls hl => ?_)
  have L4_0 : ∀ (n : Nat), ∀ (n0 : Int) (k : Int), (hk : 0 ≤ k ∧ k ≤ 12) → (hf : n0 = zl st v k) → (12 - k) < (n : Int) → ∀ (H : Heap) (locs : List Loc), va_P D vwCl [(mo, .inr (7, [.ref m0, .ref m1, .ref m2, .ref m3, .ref m4, .ref m5, .ref m6, .ref m7, .ref m8, .ref m9, .ref m10, .ref m11, .ref m12, .ref m13, .ref m14, .ref m15, .ref m16, .ref m17, .ref m18, .ref m19, .int (iI aa), .ref m21])), (m7, .inl (cI, 12, .inl (ia st)))] H → va_D A [(mo, .inr (7, [.ref m0, .ref m1, .ref m2, .ref m3, .ref m4, .ref m5, .ref m6, .ref m7, .ref m8, .ref m9, .ref m10, .ref m11, .ref m12, .ref m13, .ref m14, .ref m15, .ref m16, .ref m17, .ref m18, .ref m19, .int (iI aa), .ref m21])), (m7, .inl (cI, 12, .inl (ia st)))] → va_S A s.heap H locs → ∀ ls : Array Slot, lv_has ls 4 [(0, .ref mo), (1, .int (iI v)), (2, .int (iI n0)), (3, .int (iI k))] → W p l e R s m args below meth c H locs 0 0 Q (F0 m 4 ls []) := by
    intro n
    induction n with
    | zero => intro n0 k hk hf hm; exact absurd hm (by omega)
    | succ n ih =>
      intro n0 k hk hf hm H locs hP hD hS ls hl
      refine lv_iload_n hx hb dX7_many_4 rfl (lv_at hl 3 rfl) ?_
      refine lv_bipush (v := iI 12) hx hb dX7_many_5 (by decide +kernel) ?_
      refine q_icmp_ge (tgt := 34) hx hb dX7_many_7 (by decide) ⟨by omega, by omega⟩ ⟨by decide, by decide⟩ (fun c7 => ?_) (fun c7 => ?_)
      ·
        refine lv_iload_n hx hb dX7_many_34 rfl (lv_at hl 2 rfl) ?_
        rw [hQ]
        refine q_retI () hx hb hr hlocks hK hP hD hS dX7_many_35 ?_
        rw [hf, show k = 12 by omega]; rfl
      ·
        refine lv_iload_n hx hb dX7_many_10 rfl (lv_at hl 2 rfl) ?_
        refine lv_aload_n hx hb dX7_many_11 rfl (lv_at hl 0 rfl) ?_
        refine va_get (D := D) (ci := 7) (v := .ref m7) (C := RX7) (T := TX7) (N := 22) hx hb hts in_X7_many_X7 hown hK hP 0 rfl rfl 7 (by decide) (hts _ lk_X7_many_1) (fun _ h9 => h9) rfl dX7_many_12 ?_
        refine lv_iload_n hx hb dX7_many_15 rfl (lv_at hl 3 rfl) ?_
        refine q_iald hx hb hK hP 1 0 rfl rfl (by omega) (by omega) (by decide) dX7_many_16 ?_
        have hb16 := hB_st k
        refine lv_iload_n hx hb dX7_many_17 rfl (lv_at hl 1 rfl) ?_
        refine q_icmp_ne (tgt := 25) hx hb dX7_many_18 (by decide) ⟨by omega, by omega⟩ ⟨by omega, by omega⟩ (fun c18 => ?_) (fun c18 => ?_)
        ·
          refine lv_iconst (v := iI 0) hx hb dX7_many_25 rfl ?_
          refine q_iadd hx hb dX7_many_26 ?_
          refine lv_istore_n (lv' := [(2, .int (iI (n0 + 0))), (0, .ref mo), (1, .int (iI v)), (3, .int (iI k))]) hx hb dX7_many_27 rfl hl (by decide) rfl (fun ls hl => ?_)
          refine q_iinc (k := 3) (lv' := [(3, .int (iI (k + 1))), (2, .int (iI (n0 + 0))), (0, .ref mo), (1, .int (iI v))]) hx hb dX7_many_28 hl rfl (by decide) rfl (fun ls hl => ?_)
          refine lv_goto (tgt := 4) hx hb dX7_many_31 (by decide) ?_
          exact ih  (n0 + 0) (k + 1) (by omega) (by rw [zl_s _ _ hk.1]; split <;> omega) (by omega) _ _ hP hD hS _ (lv_sub hl [2, 3, 1, 0] rfl)
        ·
          refine lv_iconst (v := iI 1) hx hb dX7_many_21 rfl ?_
          refine lv_goto (tgt := 26) hx hb dX7_many_22 (by decide) ?_
          refine q_iadd hx hb dX7_many_26 ?_
          refine lv_istore_n (lv' := [(2, .int (iI (n0 + 1))), (0, .ref mo), (1, .int (iI v)), (3, .int (iI k))]) hx hb dX7_many_27 rfl hl (by decide) rfl (fun ls hl => ?_)
          refine q_iinc (k := 3) (lv' := [(3, .int (iI (k + 1))), (2, .int (iI (n0 + 1))), (0, .ref mo), (1, .int (iI v))]) hx hb dX7_many_28 hl rfl (by decide) rfl (fun ls hl => ?_)
          refine lv_goto (tgt := 4) hx hb dX7_many_31 (by decide) ?_
          exact ih  (n0 + 1) (k + 1) (by omega) (by rw [zl_s _ _ hk.1]; split <;> omega) (by omega) _ _ hP hD hS _ (lv_sub hl [2, 3, 1, 0] rfl)
  exact L4_0 100 0 0 (by omega) (by rfl) (by omega) _ _ hP hD hS _ (lv_sub hl [2, 3, 1, 0] rfl)

set_option maxHeartbeats 4000000 in
set_option maxRecDepth 100000 in
theorem c_X7_up (l : Launch) (D : va_G) (cI cZ cII : ClassId) (mo : Nat) (m7 : Nat) (m0 : Nat) (m1 : Nat) (m2 : Nat) (m3 : Nat) (m4 : Nat) (m5 : Nat) (m6 : Nat) (m8 : Nat) (m9 : Nat) (m10 : Nat) (m11 : Nat) (m12 : Nat) (m13 : Nat) (m14 : Nat) (m15 : Nat) (m16 : Nat) (m17 : Nat) (m18 : Nat) (m19 : Nat) (aa : Int) (m21 : Nat) (st : Int → Int) (hB_st : BB 0 3 st) : CtI l yX7_up wsX7_up 1 23 D (ty3 cI cZ cII) [.ref mo] [(mo, .inr (7, [.ref m0, .ref m1, .ref m2, .ref m3, .ref m4, .ref m5, .ref m6, .ref m7, .ref m8, .ref m9, .ref m10, .ref m11, .ref m12, .ref m13, .ref m14, .ref m15, .ref m16, .ref m17, .ref m18, .ref m19, .int (iI aa), .ref m21])), (m7, .inl (cI, 12, .inl (ia st)))] (fun z (u : Unit) => z = (upS st)) (fun u => [(mo, .inr (7, [.ref m0, .ref m1, .ref m2, .ref m3, .ref m4, .ref m5, .ref m6, .ref m7, .ref m8, .ref m9, .ref m10, .ref m11, .ref m12, .ref m13, .ref m14, .ref m15, .ref m16, .ref m17, .ref m18, .ref m19, .int (iI aa), .ref m21])), (m7, .inl (cI, 12, .inl (ia st)))]) := by
  refine CtI.mk (cc := cX7_up) (maxL := 1) (ret := (some .int)) (by decide) rfl (Nat.le_of_ble_eq_true rfl) ?_
  intro p e s m below meth c A ls R args Q hx hb hml hr hts hown hlocks hA hK hP hD hN hS hl hRf hRl hQ
  have hl : lv_has ls 1 [(0, .ref mo)] := hl
  have hown : s.vm.findClass RX7 = some m.cls := hown
  refine lv_aload_n hx hb dX7_up_0 rfl (lv_at hl 0 rfl) ?_
  refine lv_iconst (v := iI 1) hx hb dX7_up_1 rfl ?_
  refine q_callVI (wr := []) (wn := fun (u : Unit) => [(mo, .inr (7, [.ref m0, .ref m1, .ref m2, .ref m3, .ref m4, .ref m5, .ref m6, .ref m7, .ref m8, .ref m9, .ref m10, .ref m11, .ref m12, .ref m13, .ref m14, .ref m15, .ref m16, .ref m17, .ref m18, .ref m19, .int (iI aa), .ref m21])), (m7, .inl (cI, 12, .inl (ia st)))]) (rest := []) [.int (iI 1)] ⟨hx, hb, hml, hown, hts⟩ (c_X7_many l D cI cZ cII mo m7 m0 m1 m2 m3 m4 m5 m6 m8 m9 m10 m11 m12 m13 m14 m15 m16 m17 m18 m19 aa m21 st 1 hB_st (by omega)) (cwV 1 hts gX7_up_X7_many rfl rfl rfl (by decide +kernel) (by rw [hRf, hRl]; exact ⟨Nat.le_of_ble_eq_true rfl, Nat.le_of_ble_eq_true rfl⟩)) hK hP hD hS hA hN [0, 1] [] [0, 1] 0 7 rfl rfl rfl rfl rfl rfl (by decide) rfl (fun u => rfl) rfl hl.1 rfl (Nat.le_of_ble_eq_true rfl) dX7_up_2 ⟨Nat.zero_le _, Nat.zero_le _⟩ (fun z u H locs hw hP hD hS => ?_)
  have hP : va_P D vwCl [(mo, .inr (7, [.ref m0, .ref m1, .ref m2, .ref m3, .ref m4, .ref m5, .ref m6, .ref m7, .ref m8, .ref m9, .ref m10, .ref m11, .ref m12, .ref m13, .ref m14, .ref m15, .ref m16, .ref m17, .ref m18, .ref m19, .int (iI aa), .ref m21])), (m7, .inl (cI, 12, .inl (ia st)))] H := hP
  have hD : va_D A [(mo, .inr (7, [.ref m0, .ref m1, .ref m2, .ref m3, .ref m4, .ref m5, .ref m6, .ref m7, .ref m8, .ref m9, .ref m10, .ref m11, .ref m12, .ref m13, .ref m14, .ref m15, .ref m16, .ref m17, .ref m18, .ref m19, .int (iI aa), .ref m21])), (m7, .inl (cI, 12, .inl (ia st)))] := hD
  obtain ⟨z_1, ez⟩ : ∃ y : Int, y = z := ⟨_, rfl⟩
  rw [← ez] at hw ⊢
  clear ez
  have w2 : z_1 = (cnt st (1 : Int)) := hw
  clear hw
  subst w2
  refine lv_aload_n hx hb dX7_up_5 rfl (lv_at hl 0 rfl) ?_
  refine lv_iconst (v := iI 2) hx hb dX7_up_6 rfl ?_
  refine q_callVI (wr := []) (wn := fun (u : Unit) => [(mo, .inr (7, [.ref m0, .ref m1, .ref m2, .ref m3, .ref m4, .ref m5, .ref m6, .ref m7, .ref m8, .ref m9, .ref m10, .ref m11, .ref m12, .ref m13, .ref m14, .ref m15, .ref m16, .ref m17, .ref m18, .ref m19, .int (iI aa), .ref m21])), (m7, .inl (cI, 12, .inl (ia st)))]) (rest := [.int (iI (cnt st (1 : Int)))]) [.int (iI 2)] ⟨hx, hb, hml, hown, hts⟩ (c_X7_many l D cI cZ cII mo m7 m0 m1 m2 m3 m4 m5 m6 m8 m9 m10 m11 m12 m13 m14 m15 m16 m17 m18 m19 aa m21 st 2 hB_st (by omega)) (cwV 1 hts gX7_up_X7_many rfl rfl rfl (by decide +kernel) (by rw [hRf, hRl]; exact ⟨Nat.le_of_ble_eq_true rfl, Nat.le_of_ble_eq_true rfl⟩)) hK hP hD hS hA hN [0, 1] [] [0, 1] 0 7 rfl rfl rfl rfl rfl rfl (by decide) rfl (fun u => rfl) rfl hl.1 rfl (Nat.le_of_ble_eq_true rfl) dX7_up_7 ⟨Nat.zero_le _, Nat.zero_le _⟩ (fun z u H locs hw hP hD hS => ?_)
  have hP : va_P D vwCl [(mo, .inr (7, [.ref m0, .ref m1, .ref m2, .ref m3, .ref m4, .ref m5, .ref m6, .ref m7, .ref m8, .ref m9, .ref m10, .ref m11, .ref m12, .ref m13, .ref m14, .ref m15, .ref m16, .ref m17, .ref m18, .ref m19, .int (iI aa), .ref m21])), (m7, .inl (cI, 12, .inl (ia st)))] H := hP
  have hD : va_D A [(mo, .inr (7, [.ref m0, .ref m1, .ref m2, .ref m3, .ref m4, .ref m5, .ref m6, .ref m7, .ref m8, .ref m9, .ref m10, .ref m11, .ref m12, .ref m13, .ref m14, .ref m15, .ref m16, .ref m17, .ref m18, .ref m19, .int (iI aa), .ref m21])), (m7, .inl (cI, 12, .inl (ia st)))] := hD
  obtain ⟨z_2, ez⟩ : ∃ y : Int, y = z := ⟨_, rfl⟩
  rw [← ez] at hw ⊢
  clear ez
  have w7 : z_2 = (cnt st (2 : Int)) := hw
  clear hw
  subst w7
  refine q_iadd hx hb dX7_up_10 ?_
  rw [hQ]
  refine q_retI () hx hb hr hlocks hK hP hD hS dX7_up_11 ?_
  rfl

theorem in_X7_waiting_X7 : ∀ w ∈ wsX70, w ∈ wsX7_waiting := fun _ h => List.mem_cons_of_mem _ (List.mem_append_right _ h)
theorem lk_X7_waiting_1 : Cond.fieldLink RX7 53 "MoreHandsModel" "heaps" "[I" ∈ wsX7_waiting := List.mem_of_getElem? (i := 1) rfl
theorem lk_X7_waiting_2 : Cond.fieldLink RX7 44 "MoreHandsModel" "heapMany" "[I" ∈ wsX7_waiting := List.mem_of_getElem? (i := 2) rfl
set_option maxHeartbeats 4000000 in
set_option maxRecDepth 100000 in
theorem c_X7_waiting (l : Launch) (D : va_G) (cI cZ cII : ClassId) (mo : Nat) (m11 : Nat) (m14 : Nat) (m0 : Nat) (m1 : Nat) (m2 : Nat) (m3 : Nat) (m4 : Nat) (m5 : Nat) (m6 : Nat) (m7 : Nat) (m8 : Nat) (m9 : Nat) (m10 : Nat) (m12 : Nat) (m13 : Nat) (m15 : Nat) (m16 : Nat) (m17 : Nat) (m18 : Nat) (m19 : Nat) (aa : Int) (m21 : Nat) (km : Int → Int) (hp : Int → Int) (hB_km : BB 0 60 km) (hhp : 0 ≤ hp 0 ∧ hp 0 ≤ 200) : CtI l yX7_waiting wsX7_waiting 0 0 D (ty3 cI cZ cII) [.ref mo] [(mo, .inr (7, [.ref m0, .ref m1, .ref m2, .ref m3, .ref m4, .ref m5, .ref m6, .ref m7, .ref m8, .ref m9, .ref m10, .ref m11, .ref m12, .ref m13, .ref m14, .ref m15, .ref m16, .ref m17, .ref m18, .ref m19, .int (iI aa), .ref m21])), (m11, .inl (cI, 200, .inl (ia km))), (m14, .inl (cI, 2, .inl (ia hp)))] (fun z (u : Unit) => z = (sI km (hp 0))) (fun u => [(mo, .inr (7, [.ref m0, .ref m1, .ref m2, .ref m3, .ref m4, .ref m5, .ref m6, .ref m7, .ref m8, .ref m9, .ref m10, .ref m11, .ref m12, .ref m13, .ref m14, .ref m15, .ref m16, .ref m17, .ref m18, .ref m19, .int (iI aa), .ref m21])), (m11, .inl (cI, 200, .inl (ia km))), (m14, .inl (cI, 2, .inl (ia hp)))]) := by
  refine CtI.mk (cc := cX7_waiting) (maxL := 3) (ret := (some .int)) (by decide) rfl (Nat.le_of_ble_eq_true rfl) ?_
  intro p e s m below meth c A ls R args Q hx hb hml hr hts hown hlocks hA hK hP hD hN hS hl hRf hRl hQ
  have hl : lv_has ls 3 [(0, .ref mo)] := hl
  have hown : s.vm.findClass RX7 = some m.cls := hown
  refine lv_iconst (v := iI 0) hx hb dX7_waiting_0 rfl ?_
  refine lv_istore_n (lv' := [(1, .int (iI 0)), (0, .ref mo)]) hx hb dX7_waiting_1 rfl hl (by decide) rfl (fun ls hl => ?_)
  refine lv_iconst (v := iI 0) hx hb dX7_waiting_2 rfl ?_
  refine lv_istore_n (lv' := [(2, .int (iI 0)), (1, .int (iI 0)), (0, .ref mo)]) hx hb dX7_waiting_3 rfl hl (by decide) rfl (fun ls hl => ?_)
  have L4_0 : ∀ (n : Nat), ∀ (n0 : Int) (k : Int), (hk : 0 ≤ k ∧ k ≤ hp 0) → (hf : n0 = sI km k) → (hp 0 - k) < (n : Int) → ∀ (H : Heap) (locs : List Loc), va_P D vwCl [(mo, .inr (7, [.ref m0, .ref m1, .ref m2, .ref m3, .ref m4, .ref m5, .ref m6, .ref m7, .ref m8, .ref m9, .ref m10, .ref m11, .ref m12, .ref m13, .ref m14, .ref m15, .ref m16, .ref m17, .ref m18, .ref m19, .int (iI aa), .ref m21])), (m11, .inl (cI, 200, .inl (ia km))), (m14, .inl (cI, 2, .inl (ia hp)))] H → va_D A [(mo, .inr (7, [.ref m0, .ref m1, .ref m2, .ref m3, .ref m4, .ref m5, .ref m6, .ref m7, .ref m8, .ref m9, .ref m10, .ref m11, .ref m12, .ref m13, .ref m14, .ref m15, .ref m16, .ref m17, .ref m18, .ref m19, .int (iI aa), .ref m21])), (m11, .inl (cI, 200, .inl (ia km))), (m14, .inl (cI, 2, .inl (ia hp)))] → va_S A s.heap H locs → ∀ ls : Array Slot, lv_has ls 3 [(0, .ref mo), (1, .int (iI n0)), (2, .int (iI k))] → W p l e R s m args below meth c H locs 0 0 Q (F0 m 4 ls []) := by
    intro n
    induction n with
    | zero => intro n0 k hk hf hm; exact absurd hm (by omega)
    | succ n ih =>
      intro n0 k hk hf hm H locs hP hD hS ls hl
      refine lv_iload_n hx hb dX7_waiting_4 rfl (lv_at hl 2 rfl) ?_
      refine lv_aload_n hx hb dX7_waiting_5 rfl (lv_at hl 0 rfl) ?_
      refine va_get (D := D) (ci := 7) (v := .ref m14) (C := RX7) (T := TX7) (N := 22) hx hb hts in_X7_waiting_X7 hown hK hP 0 rfl rfl 14 (by decide) (hts _ lk_X7_waiting_1) (fun _ h9 => h9) rfl dX7_waiting_6 ?_
      refine lv_iconst (v := iI 0) hx hb dX7_waiting_9 rfl ?_
      refine q_iald hx hb hK hP 2 0 rfl rfl (by omega) (by omega) (by decide) dX7_waiting_10 ?_
      refine q_icmp_ge (tgt := 29) hx hb dX7_waiting_11 (by decide) ⟨by omega, by omega⟩ ⟨by omega, by omega⟩ (fun c11 => ?_) (fun c11 => ?_)
      ·
        refine lv_iload_n hx hb dX7_waiting_29 rfl (lv_at hl 1 rfl) ?_
        rw [hQ]
        refine q_retI () hx hb hr hlocks hK hP hD hS dX7_waiting_30 ?_
        rw [hf, show k = hp 0 by omega]
      ·
        refine lv_iload_n hx hb dX7_waiting_14 rfl (lv_at hl 1 rfl) ?_
        refine lv_aload_n hx hb dX7_waiting_15 rfl (lv_at hl 0 rfl) ?_
        refine va_get (D := D) (ci := 7) (v := .ref m11) (C := RX7) (T := TX7) (N := 22) hx hb hts in_X7_waiting_X7 hown hK hP 0 rfl rfl 11 (by decide) (hts _ lk_X7_waiting_2) (fun _ h9 => h9) rfl dX7_waiting_16 ?_
        refine lv_iload_n hx hb dX7_waiting_19 rfl (lv_at hl 2 rfl) ?_
        refine q_iald hx hb hK hP 1 0 rfl rfl (by omega) (by omega) (by decide) dX7_waiting_20 ?_
        have hb20 := hB_km k
        refine q_iadd hx hb dX7_waiting_21 ?_
        refine lv_istore_n (lv' := [(1, .int (iI (n0 + (km k)))), (0, .ref mo), (2, .int (iI k))]) hx hb dX7_waiting_22 rfl hl (by decide) rfl (fun ls hl => ?_)
        refine q_iinc (k := 2) (lv' := [(2, .int (iI (k + 1))), (1, .int (iI (n0 + (km k)))), (0, .ref mo)]) hx hb dX7_waiting_23 hl rfl (by decide) rfl (fun ls hl => ?_)
        refine lv_goto (tgt := 4) hx hb dX7_waiting_26 (by decide) ?_
        exact ih  (n0 + (km k)) (k + 1) (by omega) (by rw [sI_s _ hk.1, hf]) (by omega) _ _ hP hD hS _ (lv_sub hl [2, 1, 0] rfl)
  exact L4_0 1000 0 0 (by omega) (by rfl) (by omega) _ _ hP hD hS _ (lv_sub hl [2, 1, 0] rfl)

theorem in_X7_triers_X7 : ∀ w ∈ wsX70, w ∈ wsX7_triers := fun _ h => List.mem_cons_of_mem _ (List.mem_append_right _ h)
theorem lk_X7_triers_1 : Cond.fieldLink RX7 53 "MoreHandsModel" "heaps" "[I" ∈ wsX7_triers := List.mem_of_getElem? (i := 1) rfl
theorem lk_X7_triers_2 : Cond.fieldLink RX7 50 "MoreHandsModel" "againMany" "[I" ∈ wsX7_triers := List.mem_of_getElem? (i := 2) rfl
set_option maxHeartbeats 4000000 in
set_option maxRecDepth 100000 in
theorem c_X7_triers (l : Launch) (D : va_G) (cI cZ cII : ClassId) (mo : Nat) (m13 : Nat) (m14 : Nat) (m0 : Nat) (m1 : Nat) (m2 : Nat) (m3 : Nat) (m4 : Nat) (m5 : Nat) (m6 : Nat) (m7 : Nat) (m8 : Nat) (m9 : Nat) (m10 : Nat) (m11 : Nat) (m12 : Nat) (m15 : Nat) (m16 : Nat) (m17 : Nat) (m18 : Nat) (m19 : Nat) (aa : Int) (m21 : Nat) (am : Int → Int) (hp : Int → Int) (hB_am : BB 0 60 am) (hhp : 0 ≤ hp 1 ∧ hp 1 ≤ 200) : CtI l yX7_triers wsX7_triers 0 0 D (ty3 cI cZ cII) [.ref mo] [(mo, .inr (7, [.ref m0, .ref m1, .ref m2, .ref m3, .ref m4, .ref m5, .ref m6, .ref m7, .ref m8, .ref m9, .ref m10, .ref m11, .ref m12, .ref m13, .ref m14, .ref m15, .ref m16, .ref m17, .ref m18, .ref m19, .int (iI aa), .ref m21])), (m13, .inl (cI, 200, .inl (ia am))), (m14, .inl (cI, 2, .inl (ia hp)))] (fun z (u : Unit) => z = (sI am (hp 1))) (fun u => [(mo, .inr (7, [.ref m0, .ref m1, .ref m2, .ref m3, .ref m4, .ref m5, .ref m6, .ref m7, .ref m8, .ref m9, .ref m10, .ref m11, .ref m12, .ref m13, .ref m14, .ref m15, .ref m16, .ref m17, .ref m18, .ref m19, .int (iI aa), .ref m21])), (m13, .inl (cI, 200, .inl (ia am))), (m14, .inl (cI, 2, .inl (ia hp)))]) := by
  refine CtI.mk (cc := cX7_triers) (maxL := 3) (ret := (some .int)) (by decide) rfl (Nat.le_of_ble_eq_true rfl) ?_
  intro p e s m below meth c A ls R args Q hx hb hml hr hts hown hlocks hA hK hP hD hN hS hl hRf hRl hQ
  have hl : lv_has ls 3 [(0, .ref mo)] := hl
  have hown : s.vm.findClass RX7 = some m.cls := hown
  refine lv_iconst (v := iI 0) hx hb dX7_triers_0 rfl ?_
  refine lv_istore_n (lv' := [(1, .int (iI 0)), (0, .ref mo)]) hx hb dX7_triers_1 rfl hl (by decide) rfl (fun ls hl => ?_)
  refine lv_iconst (v := iI 0) hx hb dX7_triers_2 rfl ?_
  refine lv_istore_n (lv' := [(2, .int (iI 0)), (1, .int (iI 0)), (0, .ref mo)]) hx hb dX7_triers_3 rfl hl (by decide) rfl (fun ls hl => ?_)
  have L4_0 : ∀ (n : Nat), ∀ (n0 : Int) (k : Int), (hk : 0 ≤ k ∧ k ≤ hp 1) → (hf : n0 = sI am k) → (hp 1 - k) < (n : Int) → ∀ (H : Heap) (locs : List Loc), va_P D vwCl [(mo, .inr (7, [.ref m0, .ref m1, .ref m2, .ref m3, .ref m4, .ref m5, .ref m6, .ref m7, .ref m8, .ref m9, .ref m10, .ref m11, .ref m12, .ref m13, .ref m14, .ref m15, .ref m16, .ref m17, .ref m18, .ref m19, .int (iI aa), .ref m21])), (m13, .inl (cI, 200, .inl (ia am))), (m14, .inl (cI, 2, .inl (ia hp)))] H → va_D A [(mo, .inr (7, [.ref m0, .ref m1, .ref m2, .ref m3, .ref m4, .ref m5, .ref m6, .ref m7, .ref m8, .ref m9, .ref m10, .ref m11, .ref m12, .ref m13, .ref m14, .ref m15, .ref m16, .ref m17, .ref m18, .ref m19, .int (iI aa), .ref m21])), (m13, .inl (cI, 200, .inl (ia am))), (m14, .inl (cI, 2, .inl (ia hp)))] → va_S A s.heap H locs → ∀ ls : Array Slot, lv_has ls 3 [(0, .ref mo), (1, .int (iI n0)), (2, .int (iI k))] → W p l e R s m args below meth c H locs 0 0 Q (F0 m 4 ls []) := by
    intro n
    induction n with
    | zero => intro n0 k hk hf hm; exact absurd hm (by omega)
    | succ n ih =>
      intro n0 k hk hf hm H locs hP hD hS ls hl
      refine lv_iload_n hx hb dX7_triers_4 rfl (lv_at hl 2 rfl) ?_
      refine lv_aload_n hx hb dX7_triers_5 rfl (lv_at hl 0 rfl) ?_
      refine va_get (D := D) (ci := 7) (v := .ref m14) (C := RX7) (T := TX7) (N := 22) hx hb hts in_X7_triers_X7 hown hK hP 0 rfl rfl 14 (by decide) (hts _ lk_X7_triers_1) (fun _ h9 => h9) rfl dX7_triers_6 ?_
      refine lv_iconst (v := iI 1) hx hb dX7_triers_9 rfl ?_
      refine q_iald hx hb hK hP 2 0 rfl rfl (by omega) (by omega) (by decide) dX7_triers_10 ?_
      refine q_icmp_ge (tgt := 29) hx hb dX7_triers_11 (by decide) ⟨by omega, by omega⟩ ⟨by omega, by omega⟩ (fun c11 => ?_) (fun c11 => ?_)
      ·
        refine lv_iload_n hx hb dX7_triers_29 rfl (lv_at hl 1 rfl) ?_
        rw [hQ]
        refine q_retI () hx hb hr hlocks hK hP hD hS dX7_triers_30 ?_
        rw [hf, show k = hp 1 by omega]
      ·
        refine lv_iload_n hx hb dX7_triers_14 rfl (lv_at hl 1 rfl) ?_
        refine lv_aload_n hx hb dX7_triers_15 rfl (lv_at hl 0 rfl) ?_
        refine va_get (D := D) (ci := 7) (v := .ref m13) (C := RX7) (T := TX7) (N := 22) hx hb hts in_X7_triers_X7 hown hK hP 0 rfl rfl 13 (by decide) (hts _ lk_X7_triers_2) (fun _ h9 => h9) rfl dX7_triers_16 ?_
        refine lv_iload_n hx hb dX7_triers_19 rfl (lv_at hl 2 rfl) ?_
        refine q_iald hx hb hK hP 1 0 rfl rfl (by omega) (by omega) (by decide) dX7_triers_20 ?_
        have hb20 := hB_am k
        refine q_iadd hx hb dX7_triers_21 ?_
        refine lv_istore_n (lv' := [(1, .int (iI (n0 + (am k)))), (0, .ref mo), (2, .int (iI k))]) hx hb dX7_triers_22 rfl hl (by decide) rfl (fun ls hl => ?_)
        refine q_iinc (k := 2) (lv' := [(2, .int (iI (k + 1))), (1, .int (iI (n0 + (am k)))), (0, .ref mo)]) hx hb dX7_triers_23 hl rfl (by decide) rfl (fun ls hl => ?_)
        refine lv_goto (tgt := 4) hx hb dX7_triers_26 (by decide) ?_
        exact ih  (n0 + (am k)) (k + 1) (by omega) (by rw [sI_s _ hk.1, hf]) (by omega) _ _ hP hD hS _ (lv_sub hl [2, 1, 0] rfl)
  exact L4_0 1000 0 0 (by omega) (by rfl) (by omega) _ _ hP hD hS _ (lv_sub hl [2, 1, 0] rfl)

theorem in_X7_read_X7 : ∀ w ∈ wsX70, w ∈ wsX7_read := fun _ h => List.mem_cons_of_mem _ (List.mem_append_right _ h)
theorem lk_X7_read_1 : Cond.fieldLink RX7 7 "MoreHandsModel" "settings" "[I" ∈ wsX7_read := List.mem_of_getElem? (i := 1) rfl
theorem lk_X7_read_2 : Cond.fieldLink RX7 56 "MoreHandsModel" "notes" "[I" ∈ wsX7_read := List.mem_of_getElem? (i := 2) rfl
theorem lk_X7_read_3 : Cond.fieldLink RX7 29 "MoreHandsModel" "run" "[I" ∈ wsX7_read := List.mem_of_getElem? (i := 3) rfl
set_option maxHeartbeats 4000000 in
set_option maxRecDepth 100000 in
theorem c_X7_read (l : Launch) (D : va_G) (cI cZ cII : ClassId) (mo : Nat) (m0 : Nat) (m6 : Nat) (m15 : Nat) (m1 : Nat) (m2 : Nat) (m3 : Nat) (m4 : Nat) (m5 : Nat) (m7 : Nat) (m8 : Nat) (m9 : Nat) (m10 : Nat) (m11 : Nat) (m12 : Nat) (m13 : Nat) (m14 : Nat) (m16 : Nat) (m17 : Nat) (m18 : Nat) (m19 : Nat) (aa : Int) (m21 : Nat) (se : Int → Int) (ru : Int → Int) (no : Int → Int) (tn : Int) (hB_se : BB 0 1000 se) (hB_no : BB (-1) 12000 no) (hp_tn : 0 ≤ tn ∧ tn ≤ 199) (hse : SB se) (hr4 : 0 ≤ ru 4 ∧ ru 4 ≤ 12000) : CtV l yX7_read wsX7_read 0 0 D (ty3 cI cZ cII) [.ref mo, .int (iI tn)] [(mo, .inr (7, [.ref m0, .ref m1, .ref m2, .ref m3, .ref m4, .ref m5, .ref m6, .ref m7, .ref m8, .ref m9, .ref m10, .ref m11, .ref m12, .ref m13, .ref m14, .ref m15, .ref m16, .ref m17, .ref m18, .ref m19, .int (iI aa), .ref m21])), (m0, .inl (cI, 19, .inl (ia se))), (m6, .inl (cI, 8, .inl (ia ru))), (m15, .inl (cI, 200, .inl (ia no)))] (fun (u : (Int → Int)) => u = uI ru 4 (rdF no (tn - se 5) (se 6) (ru 4)) ∧ (0 ≤ rdF no (tn - se 5) (se 6) (ru 4) ∧ rdF no (tn - se 5) (se 6) (ru 4) ≤ 12000)) (fun u => [(mo, .inr (7, [.ref m0, .ref m1, .ref m2, .ref m3, .ref m4, .ref m5, .ref m6, .ref m7, .ref m8, .ref m9, .ref m10, .ref m11, .ref m12, .ref m13, .ref m14, .ref m15, .ref m16, .ref m17, .ref m18, .ref m19, .int (iI aa), .ref m21])), (m0, .inl (cI, 19, .inl (ia se))), (m6, .inl (cI, 8, .inl (ia u))), (m15, .inl (cI, 200, .inl (ia no)))]) := by
  refine CtV.mk (cc := cX7_read) (maxL := 5) (ret := none) (by decide) rfl (Nat.le_of_ble_eq_true rfl) ?_
  intro p e s m below meth c A ls R args Q hx hb hml hr hts hown hlocks hA hK hP hD hN hS hl hRf hRl hQ
  have hl : lv_has ls 5 [(0, .ref mo), (1, .int (iI tn))] := hl
  have hown : s.vm.findClass RX7 = some m.cls := hown
  have hsb := hse; unfold SB at hsb
  refine lv_iconst (v := iI 0) hx hb dX7_read_0 rfl ?_
  refine lv_istore_n (lv' := [(2, .int (iI 0)), (0, .ref mo), (1, .int (iI tn))]) hx hb dX7_read_1 rfl hl (by decide) rfl (fun ls hl => ?_)
  refine lv_iconst (v := iI 0) hx hb dX7_read_2 rfl ?_
  refine lv_istore_n (lv' := [(3, .int (iI 0)), (2, .int (iI 0)), (0, .ref mo), (1, .int (iI tn))]) hx hb dX7_read_3 rfl hl (by decide) rfl (fun ls hl => ?_)
  refine lv_iload_n hx hb dX7_read_4 rfl (lv_at hl 3 rfl) ?_
  refine lv_aload_n hx hb dX7_read_5 rfl (lv_at hl 2 rfl) ?_
  refine va_get (D := D) (ci := 7) (v := .ref m0) (C := RX7) (T := TX7) (N := 22) hx hb hts in_X7_read_X7 hown hK hP 0 rfl rfl 0 (by decide) (hts _ lk_X7_read_1) (fun _ h9 => h9) rfl dX7_read_6 ?_
  refine lv_iconst (v := iI 5) hx hb dX7_read_9 rfl ?_
  refine q_iald hx hb hK hP 1 0 rfl rfl (by omega) (by omega) (by decide) dX7_read_10 ?_
  have hb10 := hB_se 5
  refine q_isub hx hb dX7_read_11 ?_
  refine lv_istore (lv' := [(4, .int (iI (tn - (se 5)))), (3, .int (iI 0)), (2, .int (iI 0)), (0, .ref mo), (1, .int (iI tn))]) hx hb dX7_read_12 hl (by decide) rfl (fun ls hl => ?_)
  have L14_0 : ∀ (n : Nat), ∀ (su : Int) (fo : Int) (t : Int), (hk : tn - se 5 - se 6 ≤ t ∧ t ≤ tn - se 5) → (hs : su = sI (rdS no) (tn - se 5 + 1) - sI (rdS no) (t + 1)) → (hf : fo = sI (rdN no) (tn - se 5 + 1) - sI (rdN no) (t + 1)) → (hbn : 0 ≤ su ∧ 0 ≤ fo ∧ fo ≤ tn - se 5 - t ∧ su ≤ 12000 * fo) → (t + 20) < (n : Int) → ∀ (H : Heap) (locs : List Loc), va_P D vwCl [(mo, .inr (7, [.ref m0, .ref m1, .ref m2, .ref m3, .ref m4, .ref m5, .ref m6, .ref m7, .ref m8, .ref m9, .ref m10, .ref m11, .ref m12, .ref m13, .ref m14, .ref m15, .ref m16, .ref m17, .ref m18, .ref m19, .int (iI aa), .ref m21])), (m0, .inl (cI, 19, .inl (ia se))), (m6, .inl (cI, 8, .inl (ia ru))), (m15, .inl (cI, 200, .inl (ia no)))] H → va_D A [(mo, .inr (7, [.ref m0, .ref m1, .ref m2, .ref m3, .ref m4, .ref m5, .ref m6, .ref m7, .ref m8, .ref m9, .ref m10, .ref m11, .ref m12, .ref m13, .ref m14, .ref m15, .ref m16, .ref m17, .ref m18, .ref m19, .int (iI aa), .ref m21])), (m0, .inl (cI, 19, .inl (ia se))), (m6, .inl (cI, 8, .inl (ia ru))), (m15, .inl (cI, 200, .inl (ia no)))] → va_S A s.heap H locs → ∀ ls : Array Slot, lv_has ls 5 [(0, .ref mo), (1, .int (iI tn)), (2, .int (iI su)), (3, .int (iI fo)), (4, .int (iI t))] → W p l e R s m args below meth c H locs 0 0 Q (F0 m 14 ls []) := by
    intro n
    induction n with
    | zero => intro su fo t hk hs hf hbn hm; exact absurd hm (by omega)
    | succ n ih =>
      intro su fo t hk hs hf hbn hm H locs hP hD hS ls hl
      have hS1 := sI_step (rdS no) t
      have hN1 := sI_step (rdN no) t
      have hbt := hB_no t
      refine lv_iload hx hb dX7_read_14 (lv_at hl 4 rfl) ?_
      refine lv_iload_n hx hb dX7_read_16 rfl (lv_at hl 1 rfl) ?_
      refine lv_aload_n hx hb dX7_read_17 rfl (lv_at hl 0 rfl) ?_
      refine va_get (D := D) (ci := 7) (v := .ref m0) (C := RX7) (T := TX7) (N := 22) hx hb hts in_X7_read_X7 hown hK hP 0 rfl rfl 0 (by decide) (hts _ lk_X7_read_1) (fun _ h9 => h9) rfl dX7_read_18 ?_
      refine lv_iconst (v := iI 5) hx hb dX7_read_21 rfl ?_
      refine q_iald hx hb hK hP 1 0 rfl rfl (by omega) (by omega) (by decide) dX7_read_22 ?_
      have hb22 := hB_se 5
      refine q_isub hx hb dX7_read_23 ?_
      refine lv_aload_n hx hb dX7_read_24 rfl (lv_at hl 0 rfl) ?_
      refine va_get (D := D) (ci := 7) (v := .ref m0) (C := RX7) (T := TX7) (N := 22) hx hb hts in_X7_read_X7 hown hK hP 0 rfl rfl 0 (by decide) (hts _ lk_X7_read_1) (fun _ h9 => h9) rfl dX7_read_25 ?_
      refine lv_bipush (v := iI 6) hx hb dX7_read_28 (by decide +kernel) ?_
      refine q_iald hx hb hK hP 1 0 rfl rfl (by omega) (by omega) (by decide) dX7_read_30 ?_
      have hb30 := hB_se 6
      refine q_isub hx hb dX7_read_31 ?_
      refine q_icmp_le (tgt := 69) hx hb dX7_read_32 (by decide) ⟨by omega, by omega⟩ ⟨by omega, by omega⟩ (fun c32 => ?_) (fun c32 => ?_)
      ·
        refine lv_aload_n hx hb dX7_read_69 rfl (lv_at hl 0 rfl) ?_
        refine va_get (D := D) (ci := 7) (v := .ref m6) (C := RX7) (T := TX7) (N := 22) hx hb hts in_X7_read_X7 hown hK hP 0 rfl rfl 6 (by decide) (hts _ lk_X7_read_3) (fun _ h9 => h9) rfl dX7_read_70 ?_
        refine lv_iconst (v := iI 4) hx hb dX7_read_73 rfl ?_
        refine lv_iload_n hx hb dX7_read_74 rfl (lv_at hl 3 rfl) ?_
        refine q_if_le (tgt := 84) hx hb dX7_read_75 (by decide) ⟨by omega, by omega⟩ (fun c75 => ?_) (fun c75 => ?_)
        ·
          refine lv_aload_n hx hb dX7_read_84 rfl (lv_at hl 0 rfl) ?_
          refine va_get (D := D) (ci := 7) (v := .ref m6) (C := RX7) (T := TX7) (N := 22) hx hb hts in_X7_read_X7 hown hK hP 0 rfl rfl 6 (by decide) (hts _ lk_X7_read_3) (fun _ h9 => h9) rfl dX7_read_85 ?_
          refine lv_iconst (v := iI 4) hx hb dX7_read_88 rfl ?_
          refine q_iald hx hb hK hP 2 0 rfl rfl (by omega) (by omega) (by decide) dX7_read_89 ?_
          refine q_iast hx hb hK hP hD hS 2 0 rfl rfl (by omega) (by omega) (by decide) dX7_read_90 (fun H locs hP hD hS => ?_)
          have hP : va_P D vwCl [(mo, .inr (7, [.ref m0, .ref m1, .ref m2, .ref m3, .ref m4, .ref m5, .ref m6, .ref m7, .ref m8, .ref m9, .ref m10, .ref m11, .ref m12, .ref m13, .ref m14, .ref m15, .ref m16, .ref m17, .ref m18, .ref m19, .int (iI aa), .ref m21])), (m0, .inl (cI, 19, .inl (ia se))), (m6, .inl (cI, 8, .inl (ia (uI ru 4 (ru 4))))), (m15, .inl (cI, 200, .inl (ia no)))] H := hP
          have hD : va_D A [(mo, .inr (7, [.ref m0, .ref m1, .ref m2, .ref m3, .ref m4, .ref m5, .ref m6, .ref m7, .ref m8, .ref m9, .ref m10, .ref m11, .ref m12, .ref m13, .ref m14, .ref m15, .ref m16, .ref m17, .ref m18, .ref m19, .int (iI aa), .ref m21])), (m0, .inl (cI, 19, .inl (ia se))), (m6, .inl (cI, 8, .inl (ia (uI ru 4 (ru 4))))), (m15, .inl (cI, 200, .inl (ia no)))] := hD
          rw [hQ]
          refine q_retV (uI ru 4 (ru 4)) hx hb hr hlocks hK hP hD hS dX7_read_91 ?_
          try dsimp only
          unfold rdF rdNum rdSum
          rw [show tn - se 5 - se 6 + 1 = t + 1 by omega, ← hs, ← hf]
          first | (rw [if_pos (by omega)]; exact ⟨rfl, rd_div (by omega) (by omega) (by omega)⟩) | (rw [if_neg (by omega)]; exact ⟨rfl, hr4⟩)
        ·
          refine lv_iload_n hx hb dX7_read_78 rfl (lv_at hl 2 rfl) ?_
          refine lv_iload_n hx hb dX7_read_79 rfl (lv_at hl 3 rfl) ?_
          refine q_idiv hx hb dX7_read_80 ⟨by omega, by omega⟩ ⟨by omega, by omega⟩ ?_
          refine lv_goto (tgt := 90) hx hb dX7_read_81 (by decide) ?_
          refine q_iast hx hb hK hP hD hS 2 0 rfl rfl (by omega) (by omega) (by decide) dX7_read_90 (fun H locs hP hD hS => ?_)
          have hP : va_P D vwCl [(mo, .inr (7, [.ref m0, .ref m1, .ref m2, .ref m3, .ref m4, .ref m5, .ref m6, .ref m7, .ref m8, .ref m9, .ref m10, .ref m11, .ref m12, .ref m13, .ref m14, .ref m15, .ref m16, .ref m17, .ref m18, .ref m19, .int (iI aa), .ref m21])), (m0, .inl (cI, 19, .inl (ia se))), (m6, .inl (cI, 8, .inl (ia (uI ru 4 (su / fo))))), (m15, .inl (cI, 200, .inl (ia no)))] H := hP
          have hD : va_D A [(mo, .inr (7, [.ref m0, .ref m1, .ref m2, .ref m3, .ref m4, .ref m5, .ref m6, .ref m7, .ref m8, .ref m9, .ref m10, .ref m11, .ref m12, .ref m13, .ref m14, .ref m15, .ref m16, .ref m17, .ref m18, .ref m19, .int (iI aa), .ref m21])), (m0, .inl (cI, 19, .inl (ia se))), (m6, .inl (cI, 8, .inl (ia (uI ru 4 (su / fo))))), (m15, .inl (cI, 200, .inl (ia no)))] := hD
          rw [hQ]
          refine q_retV (uI ru 4 (su / fo)) hx hb hr hlocks hK hP hD hS dX7_read_91 ?_
          try dsimp only
          unfold rdF rdNum rdSum
          rw [show tn - se 5 - se 6 + 1 = t + 1 by omega, ← hs, ← hf]
          first | (rw [if_pos (by omega)]; exact ⟨rfl, rd_div (by omega) (by omega) (by omega)⟩) | (rw [if_neg (by omega)]; exact ⟨rfl, hr4⟩)
      ·
        refine lv_iload hx hb dX7_read_35 (lv_at hl 4 rfl) ?_
        refine q_if_lt (tgt := 63) hx hb dX7_read_37 (by decide) ⟨by omega, by omega⟩ (fun c37 => ?_) (fun c37 => ?_)
        ·
          refine q_iinc (k := 4) (lv' := [(4, .int (iI (t + (-1)))), (0, .ref mo), (1, .int (iI tn)), (2, .int (iI su)), (3, .int (iI fo))]) hx hb dX7_read_63 hl rfl (by decide) rfl (fun ls hl => ?_)
          refine lv_goto (tgt := 14) hx hb dX7_read_66 (by decide) ?_
          exact ih  su fo (t + (-1)) (by omega) (by rw [show t + -1 + 1 = t by omega]; unfold rdS at hS1 hs ⊢; repeat (split at hS1 <;> try omega)) (by rw [show t + -1 + 1 = t by omega]; unfold rdN at hN1 hf ⊢; repeat (split at hN1 <;> try omega)) (by omega) (by omega) _ _ hP hD hS _ (lv_sub hl [1, 2, 3, 4, 0] rfl)
        ·
          refine lv_aload_n hx hb dX7_read_40 rfl (lv_at hl 0 rfl) ?_
          refine va_get (D := D) (ci := 7) (v := .ref m15) (C := RX7) (T := TX7) (N := 22) hx hb hts in_X7_read_X7 hown hK hP 0 rfl rfl 15 (by decide) (hts _ lk_X7_read_2) (fun _ h9 => h9) rfl dX7_read_41 ?_
          refine lv_iload hx hb dX7_read_44 (lv_at hl 4 rfl) ?_
          refine q_iald hx hb hK hP 3 0 rfl rfl (by omega) (by omega) (by decide) dX7_read_46 ?_
          have hb46 := hB_no t
          refine q_if_lt (tgt := 63) hx hb dX7_read_47 (by decide) ⟨by omega, by omega⟩ (fun c47 => ?_) (fun c47 => ?_)
          ·
            refine q_iinc (k := 4) (lv' := [(4, .int (iI (t + (-1)))), (0, .ref mo), (1, .int (iI tn)), (2, .int (iI su)), (3, .int (iI fo))]) hx hb dX7_read_63 hl rfl (by decide) rfl (fun ls hl => ?_)
            refine lv_goto (tgt := 14) hx hb dX7_read_66 (by decide) ?_
            exact ih  su fo (t + (-1)) (by omega) (by rw [show t + -1 + 1 = t by omega]; unfold rdS at hS1 hs ⊢; repeat (split at hS1 <;> try omega)) (by rw [show t + -1 + 1 = t by omega]; unfold rdN at hN1 hf ⊢; repeat (split at hN1 <;> try omega)) (by omega) (by omega) _ _ hP hD hS _ (lv_sub hl [1, 2, 3, 4, 0] rfl)
          ·
            refine lv_iload_n hx hb dX7_read_50 rfl (lv_at hl 2 rfl) ?_
            refine lv_aload_n hx hb dX7_read_51 rfl (lv_at hl 0 rfl) ?_
            refine va_get (D := D) (ci := 7) (v := .ref m15) (C := RX7) (T := TX7) (N := 22) hx hb hts in_X7_read_X7 hown hK hP 0 rfl rfl 15 (by decide) (hts _ lk_X7_read_2) (fun _ h9 => h9) rfl dX7_read_52 ?_
            refine lv_iload hx hb dX7_read_55 (lv_at hl 4 rfl) ?_
            refine q_iald hx hb hK hP 3 0 rfl rfl (by omega) (by omega) (by decide) dX7_read_57 ?_
            have hb57 := hB_no t
            refine q_iadd hx hb dX7_read_58 ?_
            refine lv_istore_n (lv' := [(2, .int (iI (su + (no t)))), (0, .ref mo), (1, .int (iI tn)), (3, .int (iI fo)), (4, .int (iI t))]) hx hb dX7_read_59 rfl hl (by decide) rfl (fun ls hl => ?_)
            refine q_iinc (k := 3) (lv' := [(3, .int (iI (fo + 1))), (2, .int (iI (su + (no t)))), (0, .ref mo), (1, .int (iI tn)), (4, .int (iI t))]) hx hb dX7_read_60 hl rfl (by decide) rfl (fun ls hl => ?_)
            refine q_iinc (k := 4) (lv' := [(4, .int (iI (t + (-1)))), (3, .int (iI (fo + 1))), (2, .int (iI (su + (no t)))), (0, .ref mo), (1, .int (iI tn))]) hx hb dX7_read_63 hl rfl (by decide) rfl (fun ls hl => ?_)
            refine lv_goto (tgt := 14) hx hb dX7_read_66 (by decide) ?_
            exact ih  (su + (no t)) (fo + 1) (t + (-1)) (by omega) (by rw [show t + -1 + 1 = t by omega]; unfold rdS at hS1 hs ⊢; repeat (split at hS1 <;> try omega)) (by rw [show t + -1 + 1 = t by omega]; unfold rdN at hN1 hf ⊢; repeat (split at hN1 <;> try omega)) (by omega) (by omega) _ _ hP hD hS _ (lv_sub hl [3, 4, 2, 1, 0] rfl)
  exact L14_0 1000 0 0 (tn - (se 5)) (by omega) (by omega) (by omega) (by omega) (by omega) _ _ hP hD hS _ (lv_sub hl [3, 4, 2, 1, 0] rfl)

theorem in_X7_wantedBy_X7 : ∀ w ∈ wsX70, w ∈ wsX7_wantedBy := fun _ h => List.mem_cons_of_mem _ (List.mem_append_right _ h)
theorem lk_X7_wantedBy_1 : Cond.fieldLink RX7 29 "MoreHandsModel" "run" "[I" ∈ wsX7_wantedBy := List.mem_of_getElem? (i := 1) rfl
theorem lk_X7_wantedBy_2 : Cond.fieldLink RX7 7 "MoreHandsModel" "settings" "[I" ∈ wsX7_wantedBy := List.mem_of_getElem? (i := 2) rfl
set_option maxHeartbeats 4000000 in
set_option maxRecDepth 100000 in
theorem c_X7_wantedBy (l : Launch) (D : va_G) (cI cZ cII : ClassId) (mo : Nat) (m0 : Nat) (m6 : Nat) (m7 : Nat) (m1 : Nat) (m2 : Nat) (m3 : Nat) (m4 : Nat) (m5 : Nat) (m8 : Nat) (m9 : Nat) (m10 : Nat) (m11 : Nat) (m12 : Nat) (m13 : Nat) (m14 : Nat) (m15 : Nat) (m16 : Nat) (m17 : Nat) (m18 : Nat) (m19 : Nat) (aa : Int) (m21 : Nat) (se : Int → Int) (ru : Int → Int) (st : Int → Int) (hB_se : BB 0 1000 se) (hB_st : BB 0 3 st) (hse : SB se) (hr4 : 0 ≤ ru 4 ∧ ru 4 ≤ 12000) : CtI l yX7_wantedBy wsX7_wantedBy 2 43 D (ty3 cI cZ cII) [.ref mo] [(mo, .inr (7, [.ref m0, .ref m1, .ref m2, .ref m3, .ref m4, .ref m5, .ref m6, .ref m7, .ref m8, .ref m9, .ref m10, .ref m11, .ref m12, .ref m13, .ref m14, .ref m15, .ref m16, .ref m17, .ref m18, .ref m19, .int (iI aa), .ref m21])), (m0, .inl (cI, 19, .inl (ia se))), (m6, .inl (cI, 8, .inl (ia ru))), (m7, .inl (cI, 12, .inl (ia st)))] (fun z (u : Unit) => z = (wbF se st (ru 4))) (fun u => [(mo, .inr (7, [.ref m0, .ref m1, .ref m2, .ref m3, .ref m4, .ref m5, .ref m6, .ref m7, .ref m8, .ref m9, .ref m10, .ref m11, .ref m12, .ref m13, .ref m14, .ref m15, .ref m16, .ref m17, .ref m18, .ref m19, .int (iI aa), .ref m21])), (m0, .inl (cI, 19, .inl (ia se))), (m6, .inl (cI, 8, .inl (ia ru))), (m7, .inl (cI, 12, .inl (ia st)))]) := by
  refine CtI.mk (cc := cX7_wantedBy) (maxL := 3) (ret := (some .int)) (by decide) rfl (Nat.le_of_ble_eq_true rfl) ?_
  intro p e s m below meth c A ls R args Q hx hb hml hr hts hown hlocks hA hK hP hD hN hS hl hRf hRl hQ
  have hl : lv_has ls 3 [(0, .ref mo)] := hl
  have hown : s.vm.findClass RX7 = some m.cls := hown
  have hsb := hse; unfold SB at hsb
  refine lv_aload_n hx hb dX7_wantedBy_0 rfl (lv_at hl 0 rfl) ?_
  refine va_get (D := D) (ci := 7) (v := .ref m6) (C := RX7) (T := TX7) (N := 22) hx hb hts in_X7_wantedBy_X7 hown hK hP 0 rfl rfl 6 (by decide) (hts _ lk_X7_wantedBy_1) (fun _ h9 => h9) rfl dX7_wantedBy_1 ?_
  refine lv_iconst (v := iI 4) hx hb dX7_wantedBy_4 rfl ?_
  refine q_iald hx hb hK hP 2 0 rfl rfl (by omega) (by omega) (by decide) dX7_wantedBy_5 ?_
  refine lv_istore_n (lv' := [(1, .int (iI (ru 4))), (0, .ref mo)]) hx hb dX7_wantedBy_6 rfl hl (by decide) rfl (fun ls hl => ?_)
  refine lv_aload_n hx hb dX7_wantedBy_7 rfl (lv_at hl 1 rfl) ?_
  refine va_get (D := D) (ci := 7) (v := .ref m0) (C := RX7) (T := TX7) (N := 22) hx hb hts in_X7_wantedBy_X7 hown hK hP 0 rfl rfl 0 (by decide) (hts _ lk_X7_wantedBy_2) (fun _ h9 => h9) rfl dX7_wantedBy_8 ?_
  refine lv_bipush (v := iI 10) hx hb dX7_wantedBy_11 (by decide +kernel) ?_
  refine q_iald hx hb hK hP 1 0 rfl rfl (by omega) (by omega) (by decide) dX7_wantedBy_13 ?_
  have hb13 := hB_se 10
  refine lv_iconst (v := iI 1) hx hb dX7_wantedBy_14 rfl ?_
  refine q_icmp_ne (tgt := 38) hx hb dX7_wantedBy_15 (by decide) ⟨by omega, by omega⟩ ⟨by decide, by decide⟩ (fun c15 => ?_) (fun c15 => ?_)
  ·
    refine lv_aload_n hx hb dX7_wantedBy_38 rfl (lv_at hl 1 rfl) ?_
    refine va_get (D := D) (ci := 7) (v := .ref m0) (C := RX7) (T := TX7) (N := 22) hx hb hts in_X7_wantedBy_X7 hown hK hP 0 rfl rfl 0 (by decide) (hts _ lk_X7_wantedBy_2) (fun _ h9 => h9) rfl dX7_wantedBy_39 ?_
    refine lv_bipush (v := iI 10) hx hb dX7_wantedBy_42 (by decide +kernel) ?_
    refine q_iald hx hb hK hP 1 0 rfl rfl (by omega) (by omega) (by decide) dX7_wantedBy_44 ?_
    have hb44 := hB_se 10
    refine lv_iconst (v := iI 2) hx hb dX7_wantedBy_45 rfl ?_
    refine q_icmp_ne (tgt := 53) hx hb dX7_wantedBy_46 (by decide) ⟨by omega, by omega⟩ ⟨by decide, by decide⟩ (fun c46 => ?_) (fun c46 => ?_)
    ·
      refine lv_iconst (v := iI 0) hx hb dX7_wantedBy_53 rfl ?_
      refine lv_istore_n (lv' := [(2, .int (iI 0)), (1, .int (iI (ru 4))), (0, .ref mo)]) hx hb dX7_wantedBy_54 rfl hl (by decide) rfl (fun ls hl => ?_)
      refine lv_iload_n hx hb dX7_wantedBy_55 rfl (lv_at hl 0 rfl) ?_
      refine q_if_eq (tgt := 85) hx hb dX7_wantedBy_56 (by decide) ⟨by decide, by decide⟩ (fun _ => ?_) (fun h => absurd h (by decide))
      refine lv_iload_n hx hb dX7_wantedBy_85 rfl (lv_at hl 0 rfl) ?_
      refine q_if_eq (tgt := 115) hx hb dX7_wantedBy_86 (by decide) ⟨by decide, by decide⟩ (fun _ => ?_) (fun h => absurd h (by decide))
      refine lv_aload_n hx hb dX7_wantedBy_115 rfl (lv_at hl 2 rfl) ?_
      refine q_callVI (wr := [(m0, .inl (cI, 19, .inl (ia se))), (m6, .inl (cI, 8, .inl (ia ru)))]) (wn := fun (u : Unit) => [(mo, .inr (7, [.ref m0, .ref m1, .ref m2, .ref m3, .ref m4, .ref m5, .ref m6, .ref m7, .ref m8, .ref m9, .ref m10, .ref m11, .ref m12, .ref m13, .ref m14, .ref m15, .ref m16, .ref m17, .ref m18, .ref m19, .int (iI aa), .ref m21])), (m0, .inl (cI, 19, .inl (ia se))), (m6, .inl (cI, 8, .inl (ia ru))), (m7, .inl (cI, 12, .inl (ia st)))]) (rest := []) [] ⟨hx, hb, hml, hown, hts⟩ (c_X7_up l D cI cZ cII mo m7 m0 m1 m2 m3 m4 m5 m6 m8 m9 m10 m11 m12 m13 m14 m15 m16 m17 m18 m19 aa m21 st hB_st) (cwV 0 hts gX7_wantedBy_X7_up rfl rfl rfl (by decide +kernel) (by rw [hRf, hRl]; exact ⟨Nat.le_of_ble_eq_true rfl, Nat.le_of_ble_eq_true rfl⟩)) hK hP hD hS hA hN [0, 3] [1, 2] [2, 0, 1, 3] 0 7 rfl rfl rfl rfl rfl rfl (by decide) rfl (fun u => rfl) rfl hl.1 rfl (Nat.le_of_ble_eq_true rfl) dX7_wantedBy_116 ⟨Nat.zero_le _, Nat.zero_le _⟩ (fun z u H locs hw hP hD hS => ?_)
      have hP : va_P D vwCl [(mo, .inr (7, [.ref m0, .ref m1, .ref m2, .ref m3, .ref m4, .ref m5, .ref m6, .ref m7, .ref m8, .ref m9, .ref m10, .ref m11, .ref m12, .ref m13, .ref m14, .ref m15, .ref m16, .ref m17, .ref m18, .ref m19, .int (iI aa), .ref m21])), (m0, .inl (cI, 19, .inl (ia se))), (m6, .inl (cI, 8, .inl (ia ru))), (m7, .inl (cI, 12, .inl (ia st)))] H := hP
      have hD : va_D A [(mo, .inr (7, [.ref m0, .ref m1, .ref m2, .ref m3, .ref m4, .ref m5, .ref m6, .ref m7, .ref m8, .ref m9, .ref m10, .ref m11, .ref m12, .ref m13, .ref m14, .ref m15, .ref m16, .ref m17, .ref m18, .ref m19, .int (iI aa), .ref m21])), (m0, .inl (cI, 19, .inl (ia se))), (m6, .inl (cI, 8, .inl (ia ru))), (m7, .inl (cI, 12, .inl (ia st)))] := hD
      obtain ⟨z_1, ez⟩ : ∃ y : Int, y = z := ⟨_, rfl⟩
      rw [← ez] at hw ⊢
      clear ez
      have w116 : z_1 = (upS st) := hw
      clear hw
      subst w116
      rw [hQ]
      refine q_retI () hx hb hr hlocks hK hP hD hS dX7_wantedBy_119 ?_
      first | (exfalso; omega) | skip
      all_goals (unfold wbF; first | (rw [if_pos (by omega)]) | (rw [if_neg (by omega), if_pos (by omega)]) | (rw [if_neg (by omega), if_neg (by omega), if_pos (by omega)]) | (rw [if_neg (by omega), if_neg (by omega), if_neg (by omega)]))
    ·
      refine lv_iconst (v := iI 1) hx hb dX7_wantedBy_49 rfl ?_
      refine lv_goto (tgt := 54) hx hb dX7_wantedBy_50 (by decide) ?_
      refine lv_istore_n (lv' := [(2, .int (iI 1)), (1, .int (iI (ru 4))), (0, .ref mo)]) hx hb dX7_wantedBy_54 rfl hl (by decide) rfl (fun ls hl => ?_)
      refine lv_iload_n hx hb dX7_wantedBy_55 rfl (lv_at hl 0 rfl) ?_
      refine q_if_eq (tgt := 85) hx hb dX7_wantedBy_56 (by decide) ⟨by decide, by decide⟩ (fun h => absurd h (by decide)) (fun _ => ?_)
      refine lv_iload_n hx hb dX7_wantedBy_59 rfl (lv_at hl 1 rfl) ?_
      refine lv_aload_n hx hb dX7_wantedBy_60 rfl (lv_at hl 2 rfl) ?_
      refine va_get (D := D) (ci := 7) (v := .ref m0) (C := RX7) (T := TX7) (N := 22) hx hb hts in_X7_wantedBy_X7 hown hK hP 0 rfl rfl 0 (by decide) (hts _ lk_X7_wantedBy_2) (fun _ h9 => h9) rfl dX7_wantedBy_61 ?_
      refine lv_bipush (v := iI 12) hx hb dX7_wantedBy_64 (by decide +kernel) ?_
      refine q_iald hx hb hK hP 1 0 rfl rfl (by omega) (by omega) (by decide) dX7_wantedBy_66 ?_
      have hb66 := hB_se 12
      refine q_icmp_le (tgt := 85) hx hb dX7_wantedBy_67 (by decide) ⟨by omega, by omega⟩ ⟨by omega, by omega⟩ (fun c67 => ?_) (fun c67 => ?_)
      ·
        refine lv_iload_n hx hb dX7_wantedBy_85 rfl (lv_at hl 0 rfl) ?_
        refine q_if_eq (tgt := 115) hx hb dX7_wantedBy_86 (by decide) ⟨by decide, by decide⟩ (fun h => absurd h (by decide)) (fun _ => ?_)
        refine lv_iload_n hx hb dX7_wantedBy_89 rfl (lv_at hl 1 rfl) ?_
        refine lv_aload_n hx hb dX7_wantedBy_90 rfl (lv_at hl 2 rfl) ?_
        refine va_get (D := D) (ci := 7) (v := .ref m0) (C := RX7) (T := TX7) (N := 22) hx hb hts in_X7_wantedBy_X7 hown hK hP 0 rfl rfl 0 (by decide) (hts _ lk_X7_wantedBy_2) (fun _ h9 => h9) rfl dX7_wantedBy_91 ?_
        refine lv_bipush (v := iI 13) hx hb dX7_wantedBy_94 (by decide +kernel) ?_
        refine q_iald hx hb hK hP 1 0 rfl rfl (by omega) (by omega) (by decide) dX7_wantedBy_96 ?_
        have hb96 := hB_se 13
        refine q_icmp_ge (tgt := 115) hx hb dX7_wantedBy_97 (by decide) ⟨by omega, by omega⟩ ⟨by omega, by omega⟩ (fun c97 => ?_) (fun c97 => ?_)
        ·
          refine lv_aload_n hx hb dX7_wantedBy_115 rfl (lv_at hl 2 rfl) ?_
          refine q_callVI (wr := [(m0, .inl (cI, 19, .inl (ia se))), (m6, .inl (cI, 8, .inl (ia ru)))]) (wn := fun (u : Unit) => [(mo, .inr (7, [.ref m0, .ref m1, .ref m2, .ref m3, .ref m4, .ref m5, .ref m6, .ref m7, .ref m8, .ref m9, .ref m10, .ref m11, .ref m12, .ref m13, .ref m14, .ref m15, .ref m16, .ref m17, .ref m18, .ref m19, .int (iI aa), .ref m21])), (m0, .inl (cI, 19, .inl (ia se))), (m6, .inl (cI, 8, .inl (ia ru))), (m7, .inl (cI, 12, .inl (ia st)))]) (rest := []) [] ⟨hx, hb, hml, hown, hts⟩ (c_X7_up l D cI cZ cII mo m7 m0 m1 m2 m3 m4 m5 m6 m8 m9 m10 m11 m12 m13 m14 m15 m16 m17 m18 m19 aa m21 st hB_st) (cwV 0 hts gX7_wantedBy_X7_up rfl rfl rfl (by decide +kernel) (by rw [hRf, hRl]; exact ⟨Nat.le_of_ble_eq_true rfl, Nat.le_of_ble_eq_true rfl⟩)) hK hP hD hS hA hN [0, 3] [1, 2] [2, 0, 1, 3] 0 7 rfl rfl rfl rfl rfl rfl (by decide) rfl (fun u => rfl) rfl hl.1 rfl (Nat.le_of_ble_eq_true rfl) dX7_wantedBy_116 ⟨Nat.zero_le _, Nat.zero_le _⟩ (fun z u H locs hw hP hD hS => ?_)
          have hP : va_P D vwCl [(mo, .inr (7, [.ref m0, .ref m1, .ref m2, .ref m3, .ref m4, .ref m5, .ref m6, .ref m7, .ref m8, .ref m9, .ref m10, .ref m11, .ref m12, .ref m13, .ref m14, .ref m15, .ref m16, .ref m17, .ref m18, .ref m19, .int (iI aa), .ref m21])), (m0, .inl (cI, 19, .inl (ia se))), (m6, .inl (cI, 8, .inl (ia ru))), (m7, .inl (cI, 12, .inl (ia st)))] H := hP
          have hD : va_D A [(mo, .inr (7, [.ref m0, .ref m1, .ref m2, .ref m3, .ref m4, .ref m5, .ref m6, .ref m7, .ref m8, .ref m9, .ref m10, .ref m11, .ref m12, .ref m13, .ref m14, .ref m15, .ref m16, .ref m17, .ref m18, .ref m19, .int (iI aa), .ref m21])), (m0, .inl (cI, 19, .inl (ia se))), (m6, .inl (cI, 8, .inl (ia ru))), (m7, .inl (cI, 12, .inl (ia st)))] := hD
          obtain ⟨z_2, ez⟩ : ∃ y : Int, y = z := ⟨_, rfl⟩
          rw [← ez] at hw ⊢
          clear ez
          have w116 : z_2 = (upS st) := hw
          clear hw
          subst w116
          rw [hQ]
          refine q_retI () hx hb hr hlocks hK hP hD hS dX7_wantedBy_119 ?_
          first | (exfalso; omega) | skip
          all_goals (unfold wbF; first | (rw [if_pos (by omega)]) | (rw [if_neg (by omega), if_pos (by omega)]) | (rw [if_neg (by omega), if_neg (by omega), if_pos (by omega)]) | (rw [if_neg (by omega), if_neg (by omega), if_neg (by omega)]))
        ·
          refine lv_aload_n hx hb dX7_wantedBy_100 rfl (lv_at hl 2 rfl) ?_
          refine q_callVI (wr := [(m0, .inl (cI, 19, .inl (ia se))), (m6, .inl (cI, 8, .inl (ia ru)))]) (wn := fun (u : Unit) => [(mo, .inr (7, [.ref m0, .ref m1, .ref m2, .ref m3, .ref m4, .ref m5, .ref m6, .ref m7, .ref m8, .ref m9, .ref m10, .ref m11, .ref m12, .ref m13, .ref m14, .ref m15, .ref m16, .ref m17, .ref m18, .ref m19, .int (iI aa), .ref m21])), (m0, .inl (cI, 19, .inl (ia se))), (m6, .inl (cI, 8, .inl (ia ru))), (m7, .inl (cI, 12, .inl (ia st)))]) (rest := []) [] ⟨hx, hb, hml, hown, hts⟩ (c_X7_up l D cI cZ cII mo m7 m0 m1 m2 m3 m4 m5 m6 m8 m9 m10 m11 m12 m13 m14 m15 m16 m17 m18 m19 aa m21 st hB_st) (cwV 0 hts gX7_wantedBy_X7_up rfl rfl rfl (by decide +kernel) (by rw [hRf, hRl]; exact ⟨Nat.le_of_ble_eq_true rfl, Nat.le_of_ble_eq_true rfl⟩)) hK hP hD hS hA hN [0, 3] [1, 2] [2, 0, 1, 3] 0 7 rfl rfl rfl rfl rfl rfl (by decide) rfl (fun u => rfl) rfl hl.1 rfl (Nat.le_of_ble_eq_true rfl) dX7_wantedBy_101 ⟨Nat.zero_le _, Nat.zero_le _⟩ (fun z u H locs hw hP hD hS => ?_)
          have hP : va_P D vwCl [(mo, .inr (7, [.ref m0, .ref m1, .ref m2, .ref m3, .ref m4, .ref m5, .ref m6, .ref m7, .ref m8, .ref m9, .ref m10, .ref m11, .ref m12, .ref m13, .ref m14, .ref m15, .ref m16, .ref m17, .ref m18, .ref m19, .int (iI aa), .ref m21])), (m0, .inl (cI, 19, .inl (ia se))), (m6, .inl (cI, 8, .inl (ia ru))), (m7, .inl (cI, 12, .inl (ia st)))] H := hP
          have hD : va_D A [(mo, .inr (7, [.ref m0, .ref m1, .ref m2, .ref m3, .ref m4, .ref m5, .ref m6, .ref m7, .ref m8, .ref m9, .ref m10, .ref m11, .ref m12, .ref m13, .ref m14, .ref m15, .ref m16, .ref m17, .ref m18, .ref m19, .int (iI aa), .ref m21])), (m0, .inl (cI, 19, .inl (ia se))), (m6, .inl (cI, 8, .inl (ia ru))), (m7, .inl (cI, 12, .inl (ia st)))] := hD
          obtain ⟨z_3, ez⟩ : ∃ y : Int, y = z := ⟨_, rfl⟩
          rw [← ez] at hw ⊢
          clear ez
          have w101 : z_3 = (upS st) := hw
          clear hw
          subst w101
          refine lv_aload_n hx hb dX7_wantedBy_104 rfl (lv_at hl 2 rfl) ?_
          refine va_get (D := D) (ci := 7) (v := .ref m0) (C := RX7) (T := TX7) (N := 22) hx hb hts in_X7_wantedBy_X7 hown hK hP 0 rfl rfl 0 (by decide) (hts _ lk_X7_wantedBy_2) (fun _ h9 => h9) rfl dX7_wantedBy_105 ?_
          refine lv_bipush (v := iI 15) hx hb dX7_wantedBy_108 (by decide +kernel) ?_
          refine q_iald hx hb hK hP 1 0 rfl rfl (by omega) (by omega) (by decide) dX7_wantedBy_110 ?_
          have hb110 := hB_se 15
          refine q_isub hx hb dX7_wantedBy_111 ?_
          refine lv_goto (tgt := 119) hx hb dX7_wantedBy_112 (by decide) ?_
          rw [hQ]
          refine q_retI () hx hb hr hlocks hK hP hD hS dX7_wantedBy_119 ?_
          first | (exfalso; omega) | skip
          all_goals (unfold wbF; first | (rw [if_pos (by omega)]) | (rw [if_neg (by omega), if_pos (by omega)]) | (rw [if_neg (by omega), if_neg (by omega), if_pos (by omega)]) | (rw [if_neg (by omega), if_neg (by omega), if_neg (by omega)]))
      ·
        refine lv_aload_n hx hb dX7_wantedBy_70 rfl (lv_at hl 2 rfl) ?_
        refine q_callVI (wr := [(m0, .inl (cI, 19, .inl (ia se))), (m6, .inl (cI, 8, .inl (ia ru)))]) (wn := fun (u : Unit) => [(mo, .inr (7, [.ref m0, .ref m1, .ref m2, .ref m3, .ref m4, .ref m5, .ref m6, .ref m7, .ref m8, .ref m9, .ref m10, .ref m11, .ref m12, .ref m13, .ref m14, .ref m15, .ref m16, .ref m17, .ref m18, .ref m19, .int (iI aa), .ref m21])), (m0, .inl (cI, 19, .inl (ia se))), (m6, .inl (cI, 8, .inl (ia ru))), (m7, .inl (cI, 12, .inl (ia st)))]) (rest := []) [] ⟨hx, hb, hml, hown, hts⟩ (c_X7_up l D cI cZ cII mo m7 m0 m1 m2 m3 m4 m5 m6 m8 m9 m10 m11 m12 m13 m14 m15 m16 m17 m18 m19 aa m21 st hB_st) (cwV 0 hts gX7_wantedBy_X7_up rfl rfl rfl (by decide +kernel) (by rw [hRf, hRl]; exact ⟨Nat.le_of_ble_eq_true rfl, Nat.le_of_ble_eq_true rfl⟩)) hK hP hD hS hA hN [0, 3] [1, 2] [2, 0, 1, 3] 0 7 rfl rfl rfl rfl rfl rfl (by decide) rfl (fun u => rfl) rfl hl.1 rfl (Nat.le_of_ble_eq_true rfl) dX7_wantedBy_71 ⟨Nat.zero_le _, Nat.zero_le _⟩ (fun z u H locs hw hP hD hS => ?_)
        have hP : va_P D vwCl [(mo, .inr (7, [.ref m0, .ref m1, .ref m2, .ref m3, .ref m4, .ref m5, .ref m6, .ref m7, .ref m8, .ref m9, .ref m10, .ref m11, .ref m12, .ref m13, .ref m14, .ref m15, .ref m16, .ref m17, .ref m18, .ref m19, .int (iI aa), .ref m21])), (m0, .inl (cI, 19, .inl (ia se))), (m6, .inl (cI, 8, .inl (ia ru))), (m7, .inl (cI, 12, .inl (ia st)))] H := hP
        have hD : va_D A [(mo, .inr (7, [.ref m0, .ref m1, .ref m2, .ref m3, .ref m4, .ref m5, .ref m6, .ref m7, .ref m8, .ref m9, .ref m10, .ref m11, .ref m12, .ref m13, .ref m14, .ref m15, .ref m16, .ref m17, .ref m18, .ref m19, .int (iI aa), .ref m21])), (m0, .inl (cI, 19, .inl (ia se))), (m6, .inl (cI, 8, .inl (ia ru))), (m7, .inl (cI, 12, .inl (ia st)))] := hD
        obtain ⟨z_4, ez⟩ : ∃ y : Int, y = z := ⟨_, rfl⟩
        rw [← ez] at hw ⊢
        clear ez
        have w71 : z_4 = (upS st) := hw
        clear hw
        subst w71
        refine lv_aload_n hx hb dX7_wantedBy_74 rfl (lv_at hl 2 rfl) ?_
        refine va_get (D := D) (ci := 7) (v := .ref m0) (C := RX7) (T := TX7) (N := 22) hx hb hts in_X7_wantedBy_X7 hown hK hP 0 rfl rfl 0 (by decide) (hts _ lk_X7_wantedBy_2) (fun _ h9 => h9) rfl dX7_wantedBy_75 ?_
        refine lv_bipush (v := iI 14) hx hb dX7_wantedBy_78 (by decide +kernel) ?_
        refine q_iald hx hb hK hP 1 0 rfl rfl (by omega) (by omega) (by decide) dX7_wantedBy_80 ?_
        have hb80 := hB_se 14
        refine q_iadd hx hb dX7_wantedBy_81 ?_
        refine lv_goto (tgt := 119) hx hb dX7_wantedBy_82 (by decide) ?_
        rw [hQ]
        refine q_retI () hx hb hr hlocks hK hP hD hS dX7_wantedBy_119 ?_
        first | (exfalso; omega) | skip
        all_goals (unfold wbF; first | (rw [if_pos (by omega)]) | (rw [if_neg (by omega), if_pos (by omega)]) | (rw [if_neg (by omega), if_neg (by omega), if_pos (by omega)]) | (rw [if_neg (by omega), if_neg (by omega), if_neg (by omega)]))
  ·
    refine lv_iload_n hx hb dX7_wantedBy_18 rfl (lv_at hl 0 rfl) ?_
    refine lv_aload_n hx hb dX7_wantedBy_19 rfl (lv_at hl 1 rfl) ?_
    refine va_get (D := D) (ci := 7) (v := .ref m0) (C := RX7) (T := TX7) (N := 22) hx hb hts in_X7_wantedBy_X7 hown hK hP 0 rfl rfl 0 (by decide) (hts _ lk_X7_wantedBy_2) (fun _ h9 => h9) rfl dX7_wantedBy_20 ?_
    refine lv_bipush (v := iI 11) hx hb dX7_wantedBy_23 (by decide +kernel) ?_
    refine q_iald hx hb hK hP 1 0 rfl rfl (by omega) (by omega) (by decide) dX7_wantedBy_25 ?_
    have hb25 := hB_se 11
    refine q_iadd hx hb dX7_wantedBy_26 ?_
    refine lv_iconst (v := iI 1) hx hb dX7_wantedBy_27 rfl ?_
    refine q_isub hx hb dX7_wantedBy_28 ?_
    refine lv_aload_n hx hb dX7_wantedBy_29 rfl (lv_at hl 1 rfl) ?_
    refine va_get (D := D) (ci := 7) (v := .ref m0) (C := RX7) (T := TX7) (N := 22) hx hb hts in_X7_wantedBy_X7 hown hK hP 0 rfl rfl 0 (by decide) (hts _ lk_X7_wantedBy_2) (fun _ h9 => h9) rfl dX7_wantedBy_30 ?_
    refine lv_bipush (v := iI 11) hx hb dX7_wantedBy_33 (by decide +kernel) ?_
    refine q_iald hx hb hK hP 1 0 rfl rfl (by omega) (by omega) (by decide) dX7_wantedBy_35 ?_
    have hb35 := hB_se 11
    refine q_idiv hx hb dX7_wantedBy_36 ⟨by omega, by omega⟩ ⟨by omega, by omega⟩ ?_
    rw [hQ]
    refine q_retI () hx hb hr hlocks hK hP hD hS dX7_wantedBy_37 ?_
    first | (exfalso; omega) | skip
    all_goals (unfold wbF; first | (rw [if_pos (by omega)]) | (rw [if_neg (by omega), if_pos (by omega)]) | (rw [if_neg (by omega), if_neg (by omega), if_pos (by omega)]) | (rw [if_neg (by omega), if_neg (by omega), if_neg (by omega)]))

theorem in_X7_add_X7 : ∀ w ∈ wsX70, w ∈ wsX7_add := fun _ h => List.mem_cons_of_mem _ (List.mem_append_right _ h)
theorem lk_X7_add_1 : Cond.fieldLink RX7 32 "MoreHandsModel" "states" "[I" ∈ wsX7_add := List.mem_of_getElem? (i := 1) rfl
theorem lk_X7_add_2 : Cond.fieldLink RX7 35 "MoreHandsModel" "since" "[I" ∈ wsX7_add := List.mem_of_getElem? (i := 2) rfl
set_option maxHeartbeats 4000000 in
set_option maxRecDepth 100000 in
theorem c_X7_add (l : Launch) (D : va_G) (cI cZ cII : ClassId) (mo : Nat) (m7 : Nat) (m8 : Nat) (m0 : Nat) (m1 : Nat) (m2 : Nat) (m3 : Nat) (m4 : Nat) (m5 : Nat) (m6 : Nat) (m9 : Nat) (m10 : Nat) (m11 : Nat) (m12 : Nat) (m13 : Nat) (m14 : Nat) (m15 : Nat) (m16 : Nat) (m17 : Nat) (m18 : Nat) (m19 : Nat) (aa : Int) (m21 : Nat) (st : Int → Int) (sn : Int → Int) (wi : Int) (ti : Int) (hB_st : BB 0 3 st) (hB_sn : BB 0 200 sn) (hp_wi : 0 ≤ wi ∧ wi ≤ 1000) (hp_ti : 0 ≤ ti ∧ ti ≤ 200) : CtI l yX7_add wsX7_add 0 0 D (ty3 cI cZ cII) [.ref mo, .int (iI wi), .int (iI ti)] [(mo, .inr (7, [.ref m0, .ref m1, .ref m2, .ref m3, .ref m4, .ref m5, .ref m6, .ref m7, .ref m8, .ref m9, .ref m10, .ref m11, .ref m12, .ref m13, .ref m14, .ref m15, .ref m16, .ref m17, .ref m18, .ref m19, .int (iI aa), .ref m21])), (m7, .inl (cI, 12, .inl (ia st))), (m8, .inl (cI, 12, .inl (ia sn)))] (fun z (u : (Int → Int) × (Int → Int)) => z = (if 0 < tu (zl st 0 12) wi then 1 else 0) ∧ u.1 = fl (PT st wi) 1 st 0 12 ∧ u.2 = fl (PT st wi) ti sn 0 12 ∧ BB 0 3 u.1 ∧ BB 0 200 u.2) (fun u => [(mo, .inr (7, [.ref m0, .ref m1, .ref m2, .ref m3, .ref m4, .ref m5, .ref m6, .ref m7, .ref m8, .ref m9, .ref m10, .ref m11, .ref m12, .ref m13, .ref m14, .ref m15, .ref m16, .ref m17, .ref m18, .ref m19, .int (iI aa), .ref m21])), (m7, .inl (cI, 12, .inl (ia u.1))), (m8, .inl (cI, 12, .inl (ia u.2)))]) := by
  refine CtI.mk (cc := cX7_add) (maxL := 5) (ret := (some .boolean)) (by decide) rfl (Nat.le_of_ble_eq_true rfl) ?_
  intro p e s m below meth c A ls R args Q hx hb hml hr hts hown hlocks hA hK hP hD hN hS hl hRf hRl hQ
  have hl : lv_has ls 5 [(0, .ref mo), (1, .int (iI wi)), (2, .int (iI ti))] := hl
  have hown : s.vm.findClass RX7 = some m.cls := hown
  refine lv_iload_n hx hb dX7_add_0 rfl (lv_at hl 1 rfl) ?_
  refine lv_istore_n (lv' := [(3, .int (iI wi)), (0, .ref mo), (1, .int (iI wi)), (2, .int (iI ti))]) hx hb dX7_add_1 rfl hl (by decide) rfl (fun ls hl => ?_)
  have L51_0 : ∀ (lf : Int) (st1 : Int → Int) (sn1 : Int → Int), (hB_st1 : BB 0 3 st1) → (hB_sn1 : BB 0 200 sn1) → (ht : lf = wi - tu (zl st 0 12) wi) → (hs : st1 = fl (PT st wi) 1 st 0 12) → (hg : sn1 = fl (PT st wi) ti sn 0 12) → ∀ (H : Heap) (locs : List Loc), va_P D vwCl [(mo, .inr (7, [.ref m0, .ref m1, .ref m2, .ref m3, .ref m4, .ref m5, .ref m6, .ref m7, .ref m8, .ref m9, .ref m10, .ref m11, .ref m12, .ref m13, .ref m14, .ref m15, .ref m16, .ref m17, .ref m18, .ref m19, .int (iI aa), .ref m21])), (m7, .inl (cI, 12, .inl (ia st1))), (m8, .inl (cI, 12, .inl (ia sn1)))] H → va_D A [(mo, .inr (7, [.ref m0, .ref m1, .ref m2, .ref m3, .ref m4, .ref m5, .ref m6, .ref m7, .ref m8, .ref m9, .ref m10, .ref m11, .ref m12, .ref m13, .ref m14, .ref m15, .ref m16, .ref m17, .ref m18, .ref m19, .int (iI aa), .ref m21])), (m7, .inl (cI, 12, .inl (ia st1))), (m8, .inl (cI, 12, .inl (ia sn1)))] → va_S A s.heap H locs → ∀ ls : Array Slot, lv_has ls 5 [(0, .ref mo), (1, .int (iI wi)), (2, .int (iI ti)), (3, .int (iI lf))] → W p l e R s m args below meth c H locs 0 0 Q (F0 m 51 ls []) := by
    intro lf st1 sn1 hB_st1 hB_sn1 ht hs hg H locs hP hD hS ls hl
    have htb : 0 ≤ tu (zl st 0 12) wi ∧ tu (zl st 0 12) wi ≤ wi := by have := zl_b st 0 (k := 12) (by omega); unfold tu; omega
    refine lv_iload_n hx hb dX7_add_51 rfl (lv_at hl 3 rfl) ?_
    refine lv_iload_n hx hb dX7_add_52 rfl (lv_at hl 1 rfl) ?_
    refine q_icmp_ge (tgt := 60) hx hb dX7_add_53 (by decide) ⟨by omega, by omega⟩ ⟨by omega, by omega⟩ (fun c53 => ?_) (fun c53 => ?_)
    ·
      refine lv_iconst (v := iI 0) hx hb dX7_add_60 rfl ?_
      rw [hQ]
      refine q_retZ (st1, sn1) hx hb hr hlocks hK hP hD hS dX7_add_61 (by omega) ?_
      try dsimp only
      first | exact ⟨by rw [if_pos (by omega)], hs, hg, hB_st1, hB_sn1⟩ | exact ⟨by rw [if_neg (by omega)], hs, hg, hB_st1, hB_sn1⟩
    ·
      refine lv_iconst (v := iI 1) hx hb dX7_add_56 rfl ?_
      refine lv_goto (tgt := 61) hx hb dX7_add_57 (by decide) ?_
      rw [hQ]
      refine q_retZ (st1, sn1) hx hb hr hlocks hK hP hD hS dX7_add_61 (by omega) ?_
      try dsimp only
      first | exact ⟨by rw [if_pos (by omega)], hs, hg, hB_st1, hB_sn1⟩ | exact ⟨by rw [if_neg (by omega)], hs, hg, hB_st1, hB_sn1⟩
  refine lv_iconst (v := iI 0) hx hb dX7_add_2 rfl ?_
  refine lv_istore (lv' := [(4, .int (iI 0)), (3, .int (iI wi)), (0, .ref mo), (1, .int (iI wi)), (2, .int (iI ti))]) hx hb dX7_add_3 hl (by decide) rfl (fun ls hl => ?_)
  have L5_1 : ∀ (n : Nat), ∀ (lf : Int) (k : Int) (st1 : Int → Int) (sn1 : Int → Int), (hB_st1 : BB 0 3 st1) → (hB_sn1 : BB 0 200 sn1) → (hk : 0 ≤ k ∧ k ≤ 12) → (ht : lf = wi - tu (zl st 0 k) wi) → (hs : st1 = fl (PT st wi) 1 st 0 k) → (hg : sn1 = fl (PT st wi) ti sn 0 k) → (12 - k) < (n : Int) → ∀ (H : Heap) (locs : List Loc), va_P D vwCl [(mo, .inr (7, [.ref m0, .ref m1, .ref m2, .ref m3, .ref m4, .ref m5, .ref m6, .ref m7, .ref m8, .ref m9, .ref m10, .ref m11, .ref m12, .ref m13, .ref m14, .ref m15, .ref m16, .ref m17, .ref m18, .ref m19, .int (iI aa), .ref m21])), (m7, .inl (cI, 12, .inl (ia st1))), (m8, .inl (cI, 12, .inl (ia sn1)))] H → va_D A [(mo, .inr (7, [.ref m0, .ref m1, .ref m2, .ref m3, .ref m4, .ref m5, .ref m6, .ref m7, .ref m8, .ref m9, .ref m10, .ref m11, .ref m12, .ref m13, .ref m14, .ref m15, .ref m16, .ref m17, .ref m18, .ref m19, .int (iI aa), .ref m21])), (m7, .inl (cI, 12, .inl (ia st1))), (m8, .inl (cI, 12, .inl (ia sn1)))] → va_S A s.heap H locs → ∀ ls : Array Slot, lv_has ls 5 [(0, .ref mo), (1, .int (iI wi)), (2, .int (iI ti)), (3, .int (iI lf)), (4, .int (iI k))] → W p l e R s m args below meth c H locs 0 0 Q (F0 m 5 ls []) := by
    intro n
    induction n with
    | zero => intro lf k st1 sn1 hB_st1 hB_sn1 hk ht hs hg hm; exact absurd hm (by omega)
    | succ n ih =>
      intro lf k st1 sn1 hB_st1 hB_sn1 hk ht hs hg hm H locs hP hD hS ls hl
      have e0 : st1 k = st k := by rw [hs]; exact fl_out (by omega)
      have hz0 := zl_b st 0 hk.1
      have htb : -12 ≤ lf - wi ∧ lf - wi ≤ 0 := by unfold tu at ht; omega
      refine lv_iload hx hb dX7_add_5 (lv_at hl 4 rfl) ?_
      refine lv_bipush (v := iI 12) hx hb dX7_add_7 (by decide +kernel) ?_
      refine q_icmp_ge (tgt := 51) hx hb dX7_add_9 (by decide) ⟨by omega, by omega⟩ ⟨by decide, by decide⟩ (fun c9 => ?_) (fun c9 => ?_)
      ·
        exact L51_0  lf st1 sn1 hB_st1 hB_sn1 (by first | (rw [ht, show k = 12 by omega]) | (have hm2 := zl_mono st 0 hk.2; unfold tu at ht ⊢; omega)) (by rw [hs]; first | (rw [show k = 12 by omega]) | exact fl_doneHi hk.2 (PT_done (st := st) (wish := wi) (k := k) (by omega))) (by rw [hg]; first | (rw [show k = 12 by omega]) | exact fl_doneHi hk.2 (PT_done (st := st) (wish := wi) (k := k) (by omega))) _ _ hP hD hS _ (lv_sub hl [0, 1, 2, 3] rfl)
      ·
        refine lv_iload_n hx hb dX7_add_12 rfl (lv_at hl 3 rfl) ?_
        refine q_if_le (tgt := 51) hx hb dX7_add_13 (by decide) ⟨by omega, by omega⟩ (fun c13 => ?_) (fun c13 => ?_)
        ·
          exact L51_0  lf st1 sn1 hB_st1 hB_sn1 (by first | (rw [ht, show k = 12 by omega]) | (have hm2 := zl_mono st 0 hk.2; unfold tu at ht ⊢; omega)) (by rw [hs]; first | (rw [show k = 12 by omega]) | exact fl_doneHi hk.2 (PT_done (st := st) (wish := wi) (k := k) (by omega))) (by rw [hg]; first | (rw [show k = 12 by omega]) | exact fl_doneHi hk.2 (PT_done (st := st) (wish := wi) (k := k) (by omega))) _ _ hP hD hS _ (lv_sub hl [0, 1, 2, 3] rfl)
        ·
          refine lv_aload_n hx hb dX7_add_16 rfl (lv_at hl 0 rfl) ?_
          refine va_get (D := D) (ci := 7) (v := .ref m7) (C := RX7) (T := TX7) (N := 22) hx hb hts in_X7_add_X7 hown hK hP 0 rfl rfl 7 (by decide) (hts _ lk_X7_add_1) (fun _ h9 => h9) rfl dX7_add_17 ?_
          refine lv_iload hx hb dX7_add_20 (lv_at hl 4 rfl) ?_
          refine q_iald hx hb hK hP 1 0 rfl rfl (by omega) (by omega) (by decide) dX7_add_22 ?_
          have hb22 := hB_st1 k
          refine q_if_ne (tgt := 45) hx hb dX7_add_23 (by decide) ⟨by omega, by omega⟩ (fun c23 => ?_) (fun c23 => ?_)
          ·
            refine q_iinc (k := 4) (lv' := [(4, .int (iI (k + 1))), (0, .ref mo), (1, .int (iI wi)), (2, .int (iI ti)), (3, .int (iI lf))]) hx hb dX7_add_45 hl rfl (by decide) rfl (fun ls hl => ?_)
            refine lv_goto (tgt := 5) hx hb dX7_add_48 (by decide) ?_
            exact ih  lf (k + 1) st1 sn1 hB_st1 hB_sn1 (by omega) (by rw [zl_s _ _ hk.1]; unfold tu at ht ⊢; split <;> omega) (by rw [hs]; first | exact fl_hi1 hk.1 (decide_eq_true ⟨by omega, by unfold tu at ht; omega⟩) | exact fl_hi0 (decide_eq_false (by omega))) (by rw [hg]; first | exact fl_hi1 hk.1 (decide_eq_true ⟨by omega, by unfold tu at ht; omega⟩) | exact fl_hi0 (decide_eq_false (by omega))) (by omega) _ _ hP hD hS _ (lv_sub hl [1, 2, 3, 4, 0] rfl)
          ·
            refine lv_aload_n hx hb dX7_add_26 rfl (lv_at hl 0 rfl) ?_
            refine va_get (D := D) (ci := 7) (v := .ref m7) (C := RX7) (T := TX7) (N := 22) hx hb hts in_X7_add_X7 hown hK hP 0 rfl rfl 7 (by decide) (hts _ lk_X7_add_1) (fun _ h9 => h9) rfl dX7_add_27 ?_
            refine lv_iload hx hb dX7_add_30 (lv_at hl 4 rfl) ?_
            refine lv_iconst (v := iI 1) hx hb dX7_add_32 rfl ?_
            refine q_iast hx hb hK hP hD hS 1 0 rfl rfl (by omega) (by omega) (by decide) dX7_add_33 (fun H locs hP hD hS => ?_)
            have hP : va_P D vwCl [(mo, .inr (7, [.ref m0, .ref m1, .ref m2, .ref m3, .ref m4, .ref m5, .ref m6, .ref m7, .ref m8, .ref m9, .ref m10, .ref m11, .ref m12, .ref m13, .ref m14, .ref m15, .ref m16, .ref m17, .ref m18, .ref m19, .int (iI aa), .ref m21])), (m7, .inl (cI, 12, .inl (ia (uI st1 k 1)))), (m8, .inl (cI, 12, .inl (ia sn1)))] H := hP
            have hD : va_D A [(mo, .inr (7, [.ref m0, .ref m1, .ref m2, .ref m3, .ref m4, .ref m5, .ref m6, .ref m7, .ref m8, .ref m9, .ref m10, .ref m11, .ref m12, .ref m13, .ref m14, .ref m15, .ref m16, .ref m17, .ref m18, .ref m19, .int (iI aa), .ref m21])), (m7, .inl (cI, 12, .inl (ia (uI st1 k 1)))), (m8, .inl (cI, 12, .inl (ia sn1)))] := hD
            have hB_1 : BB 0 3 (uI st1 k 1) := BB_uI hB_st1 (by omega)
            refine lv_aload_n hx hb dX7_add_34 rfl (lv_at hl 0 rfl) ?_
            refine va_get (D := D) (ci := 7) (v := .ref m8) (C := RX7) (T := TX7) (N := 22) hx hb hts in_X7_add_X7 hown hK hP 0 rfl rfl 8 (by decide) (hts _ lk_X7_add_2) (fun _ h9 => h9) rfl dX7_add_35 ?_
            refine lv_iload hx hb dX7_add_38 (lv_at hl 4 rfl) ?_
            refine lv_iload_n hx hb dX7_add_40 rfl (lv_at hl 2 rfl) ?_
            refine q_iast hx hb hK hP hD hS 2 0 rfl rfl (by omega) (by omega) (by decide) dX7_add_41 (fun H locs hP hD hS => ?_)
            have hP : va_P D vwCl [(mo, .inr (7, [.ref m0, .ref m1, .ref m2, .ref m3, .ref m4, .ref m5, .ref m6, .ref m7, .ref m8, .ref m9, .ref m10, .ref m11, .ref m12, .ref m13, .ref m14, .ref m15, .ref m16, .ref m17, .ref m18, .ref m19, .int (iI aa), .ref m21])), (m7, .inl (cI, 12, .inl (ia (uI st1 k 1)))), (m8, .inl (cI, 12, .inl (ia (uI sn1 k ti))))] H := hP
            have hD : va_D A [(mo, .inr (7, [.ref m0, .ref m1, .ref m2, .ref m3, .ref m4, .ref m5, .ref m6, .ref m7, .ref m8, .ref m9, .ref m10, .ref m11, .ref m12, .ref m13, .ref m14, .ref m15, .ref m16, .ref m17, .ref m18, .ref m19, .int (iI aa), .ref m21])), (m7, .inl (cI, 12, .inl (ia (uI st1 k 1)))), (m8, .inl (cI, 12, .inl (ia (uI sn1 k ti))))] := hD
            have hB_2 : BB 0 200 (uI sn1 k ti) := BB_uI hB_sn1 (by omega)
            refine q_iinc (k := 3) (lv' := [(3, .int (iI (lf + (-1)))), (0, .ref mo), (1, .int (iI wi)), (2, .int (iI ti)), (4, .int (iI k))]) hx hb dX7_add_42 hl rfl (by decide) rfl (fun ls hl => ?_)
            refine q_iinc (k := 4) (lv' := [(4, .int (iI (k + 1))), (3, .int (iI (lf + (-1)))), (0, .ref mo), (1, .int (iI wi)), (2, .int (iI ti))]) hx hb dX7_add_45 hl rfl (by decide) rfl (fun ls hl => ?_)
            refine lv_goto (tgt := 5) hx hb dX7_add_48 (by decide) ?_
            exact ih  (lf + (-1)) (k + 1) (uI st1 k 1) (uI sn1 k ti) hB_1 hB_2 (by omega) (by rw [zl_s _ _ hk.1]; unfold tu at ht ⊢; split <;> omega) (by rw [hs]; first | exact fl_hi1 hk.1 (decide_eq_true ⟨by omega, by unfold tu at ht; omega⟩) | exact fl_hi0 (decide_eq_false (by omega))) (by rw [hg]; first | exact fl_hi1 hk.1 (decide_eq_true ⟨by omega, by unfold tu at ht; omega⟩) | exact fl_hi0 (decide_eq_false (by omega))) (by omega) _ _ hP hD hS _ (lv_sub hl [2, 3, 4, 1, 0] rfl)
  exact L5_1 100 wi 0 st sn hB_st hB_sn (by omega) (by rw [zl_0]; unfold tu; omega) (by rw [fl_nil (by omega)]) (by rw [fl_nil (by omega)]) (by omega) _ _ hP hD hS _ (lv_sub hl [2, 3, 4, 1, 0] rfl)

theorem in_X7_shed_X7 : ∀ w ∈ wsX70, w ∈ wsX7_shed := fun _ h => List.mem_cons_of_mem _ (List.mem_append_right _ h)
theorem lk_X7_shed_1 : Cond.fieldLink RX7 32 "MoreHandsModel" "states" "[I" ∈ wsX7_shed := List.mem_of_getElem? (i := 1) rfl
theorem lk_X7_shed_2 : Cond.fieldLink RX7 35 "MoreHandsModel" "since" "[I" ∈ wsX7_shed := List.mem_of_getElem? (i := 2) rfl
set_option maxHeartbeats 4000000 in
set_option maxRecDepth 100000 in
theorem c_X7_shed (l : Launch) (D : va_G) (cI cZ cII : ClassId) (mo : Nat) (m7 : Nat) (m8 : Nat) (m0 : Nat) (m1 : Nat) (m2 : Nat) (m3 : Nat) (m4 : Nat) (m5 : Nat) (m6 : Nat) (m9 : Nat) (m10 : Nat) (m11 : Nat) (m12 : Nat) (m13 : Nat) (m14 : Nat) (m15 : Nat) (m16 : Nat) (m17 : Nat) (m18 : Nat) (m19 : Nat) (aa : Int) (m21 : Nat) (st : Int → Int) (sn : Int → Int) (wi : Int) (ti : Int) (hB_st : BB 0 3 st) (hB_sn : BB 0 200 sn) (hp_wi : 0 ≤ wi ∧ wi ≤ 1000) (hp_ti : 0 ≤ ti ∧ ti ≤ 200) : CtV l yX7_shed wsX7_shed 0 0 D (ty3 cI cZ cII) [.ref mo, .int (iI wi), .int (iI ti)] [(mo, .inr (7, [.ref m0, .ref m1, .ref m2, .ref m3, .ref m4, .ref m5, .ref m6, .ref m7, .ref m8, .ref m9, .ref m10, .ref m11, .ref m12, .ref m13, .ref m14, .ref m15, .ref m16, .ref m17, .ref m18, .ref m19, .int (iI aa), .ref m21])), (m7, .inl (cI, 12, .inl (ia st))), (m8, .inl (cI, 12, .inl (ia sn)))] (fun (u : (Int → Int) × (Int → Int)) => u.1 = shS st wi ∧ u.2 = shG st sn wi ti ∧ BB 0 3 u.1 ∧ BB 0 200 u.2) (fun u => [(mo, .inr (7, [.ref m0, .ref m1, .ref m2, .ref m3, .ref m4, .ref m5, .ref m6, .ref m7, .ref m8, .ref m9, .ref m10, .ref m11, .ref m12, .ref m13, .ref m14, .ref m15, .ref m16, .ref m17, .ref m18, .ref m19, .int (iI aa), .ref m21])), (m7, .inl (cI, 12, .inl (ia u.1))), (m8, .inl (cI, 12, .inl (ia u.2)))]) := by
  refine CtV.mk (cc := cX7_shed) (maxL := 5) (ret := none) (by decide) rfl (Nat.le_of_ble_eq_true rfl) ?_
  intro p e s m below meth c A ls R args Q hx hb hml hr hts hown hlocks hA hK hP hD hN hS hl hRf hRl hQ
  have hl : lv_has ls 5 [(0, .ref mo), (1, .int (iI wi)), (2, .int (iI ti))] := hl
  have hown : s.vm.findClass RX7 = some m.cls := hown
  refine lv_iload_n hx hb dX7_shed_0 rfl (lv_at hl 1 rfl) ?_
  refine lv_istore_n (lv' := [(3, .int (iI wi)), (0, .ref mo), (1, .int (iI wi)), (2, .int (iI ti))]) hx hb dX7_shed_1 rfl hl (by decide) rfl (fun ls hl => ?_)
  have L43_0 : ∀ (lf : Int) (sta : Int → Int), (hB_sta : BB 0 3 sta) → (ht : lf = wi - tu (zl st 1 12) wi) → (hsa : sta = shA st wi) → ∀ (H : Heap) (locs : List Loc), va_P D vwCl [(mo, .inr (7, [.ref m0, .ref m1, .ref m2, .ref m3, .ref m4, .ref m5, .ref m6, .ref m7, .ref m8, .ref m9, .ref m10, .ref m11, .ref m12, .ref m13, .ref m14, .ref m15, .ref m16, .ref m17, .ref m18, .ref m19, .int (iI aa), .ref m21])), (m7, .inl (cI, 12, .inl (ia sta))), (m8, .inl (cI, 12, .inl (ia sn)))] H → va_D A [(mo, .inr (7, [.ref m0, .ref m1, .ref m2, .ref m3, .ref m4, .ref m5, .ref m6, .ref m7, .ref m8, .ref m9, .ref m10, .ref m11, .ref m12, .ref m13, .ref m14, .ref m15, .ref m16, .ref m17, .ref m18, .ref m19, .int (iI aa), .ref m21])), (m7, .inl (cI, 12, .inl (ia sta))), (m8, .inl (cI, 12, .inl (ia sn)))] → va_S A s.heap H locs → ∀ ls : Array Slot, lv_has ls 5 [(0, .ref mo), (1, .int (iI wi)), (2, .int (iI ti)), (3, .int (iI lf))] → W p l e R s m args below meth c H locs 0 0 Q (F0 m 43 ls []) := by
    intro lf sta hB_sta ht hsa H locs hP hD hS ls hl
    have hz9 := zl_b st 1 (show (0 : Int) ≤ 12 by omega)
    have hlf : 0 ≤ lf ∧ lf ≤ wi := by unfold tu at ht; omega
    refine lv_bipush (v := iI 11) hx hb dX7_shed_43 (by decide +kernel) ?_
    refine lv_istore (lv' := [(4, .int (iI 11)), (0, .ref mo), (1, .int (iI wi)), (2, .int (iI ti)), (3, .int (iI lf))]) hx hb dX7_shed_45 hl (by decide) rfl (fun ls hl => ?_)
    have L47_1 : ∀ (n : Nat), ∀ (lg : Int) (k : Int) (st1 : Int → Int) (sn1 : Int → Int), (hB_st1 : BB 0 3 st1) → (hB_sn1 : BB 0 200 sn1) → (hk : -1 ≤ k ∧ k ≤ 11) → (hu : lg = lf - tu (zl sta 2 12 - zl sta 2 (k + 1)) lf) → (hs : st1 = fl (PH sta 2 lf) 3 sta (k + 1) 12) → (hg : sn1 = fl (PH sta 2 lf) ti sn (k + 1) 12) → (k + 1) < (n : Int) → ∀ (H : Heap) (locs : List Loc), va_P D vwCl [(mo, .inr (7, [.ref m0, .ref m1, .ref m2, .ref m3, .ref m4, .ref m5, .ref m6, .ref m7, .ref m8, .ref m9, .ref m10, .ref m11, .ref m12, .ref m13, .ref m14, .ref m15, .ref m16, .ref m17, .ref m18, .ref m19, .int (iI aa), .ref m21])), (m7, .inl (cI, 12, .inl (ia st1))), (m8, .inl (cI, 12, .inl (ia sn1)))] H → va_D A [(mo, .inr (7, [.ref m0, .ref m1, .ref m2, .ref m3, .ref m4, .ref m5, .ref m6, .ref m7, .ref m8, .ref m9, .ref m10, .ref m11, .ref m12, .ref m13, .ref m14, .ref m15, .ref m16, .ref m17, .ref m18, .ref m19, .int (iI aa), .ref m21])), (m7, .inl (cI, 12, .inl (ia st1))), (m8, .inl (cI, 12, .inl (ia sn1)))] → va_S A s.heap H locs → ∀ ls : Array Slot, lv_has ls 5 [(0, .ref mo), (1, .int (iI wi)), (2, .int (iI ti)), (3, .int (iI lg)), (4, .int (iI k))] → W p l e R s m args below meth c H locs 0 0 Q (F0 m 47 ls []) := by
      intro n
      induction n with
      | zero => intro lg k st1 sn1 hB_st1 hB_sn1 hk hu hs hg hm; exact absurd hm (by omega)
      | succ n ih =>
        intro lg k st1 sn1 hB_st1 hB_sn1 hk hu hs hg hm H locs hP hD hS ls hl
        have e0 : st1 k = sta k := by rw [hs]; exact fl_out (by omega)
        have hz0 := zl_mono sta 2 (show k + 1 ≤ 12 by omega)
        have hz1 := zl_b sta 2 (show (0 : Int) ≤ 12 by omega)
        have hz2 := zl_b sta 2 (show 0 ≤ k + 1 by omega)
        have htb : -12 ≤ lg - lf ∧ lg - lf ≤ 0 := by unfold tu at hu; omega
        refine lv_iload hx hb dX7_shed_47 (lv_at hl 4 rfl) ?_
        refine q_if_lt (tgt := 92) hx hb dX7_shed_49 (by decide) ⟨by omega, by omega⟩ (fun c49 => ?_) (fun c49 => ?_)
        ·
          rw [hQ]
          refine q_retV (st1, sn1) hx hb hr hlocks hK hP hD hS dX7_shed_92 ?_
          try dsimp only
          have hE : ∀ (v : Int) (f : Int → Int), fl (PH sta 2 lf) v f (k + 1) 12 = fl (PH sta 2 lf) v f 0 12 := by
            intro v f
            first | (rw [show k + 1 = 0 by omega]; done) | exact fl_doneLo (by omega) (PH_done (st := sta) (v := 2) (wish := lf) (k := k + 1) (by omega) (by omega))
          rw [hE] at hs hg
          rw [hsa, ht] at hs hg
          exact ⟨hs, hg, hB_st1, hB_sn1⟩
        ·
          refine lv_iload_n hx hb dX7_shed_52 rfl (lv_at hl 3 rfl) ?_
          refine q_if_le (tgt := 92) hx hb dX7_shed_53 (by decide) ⟨by omega, by omega⟩ (fun c53 => ?_) (fun c53 => ?_)
          ·
            rw [hQ]
            refine q_retV (st1, sn1) hx hb hr hlocks hK hP hD hS dX7_shed_92 ?_
            try dsimp only
            have hE : ∀ (v : Int) (f : Int → Int), fl (PH sta 2 lf) v f (k + 1) 12 = fl (PH sta 2 lf) v f 0 12 := by
              intro v f
              first | (rw [show k + 1 = 0 by omega]; done) | exact fl_doneLo (by omega) (PH_done (st := sta) (v := 2) (wish := lf) (k := k + 1) (by omega) (by omega))
            rw [hE] at hs hg
            rw [hsa, ht] at hs hg
            exact ⟨hs, hg, hB_st1, hB_sn1⟩
          ·
            refine lv_aload_n hx hb dX7_shed_56 rfl (lv_at hl 0 rfl) ?_
            refine va_get (D := D) (ci := 7) (v := .ref m7) (C := RX7) (T := TX7) (N := 22) hx hb hts in_X7_shed_X7 hown hK hP 0 rfl rfl 7 (by decide) (hts _ lk_X7_shed_1) (fun _ h9 => h9) rfl dX7_shed_57 ?_
            refine lv_iload hx hb dX7_shed_60 (lv_at hl 4 rfl) ?_
            refine q_iald hx hb hK hP 1 0 rfl rfl (by omega) (by omega) (by decide) dX7_shed_62 ?_
            have hb62 := hB_st1 k
            refine lv_iconst (v := iI 2) hx hb dX7_shed_63 rfl ?_
            refine q_icmp_ne (tgt := 86) hx hb dX7_shed_64 (by decide) ⟨by omega, by omega⟩ ⟨by decide, by decide⟩ (fun c64 => ?_) (fun c64 => ?_)
            ·
              refine q_iinc (k := 4) (lv' := [(4, .int (iI (k + (-1)))), (0, .ref mo), (1, .int (iI wi)), (2, .int (iI ti)), (3, .int (iI lg))]) hx hb dX7_shed_86 hl rfl (by decide) rfl (fun ls hl => ?_)
              refine lv_goto (tgt := 47) hx hb dX7_shed_89 (by decide) ?_
              exact ih  lg (k + (-1)) st1 sn1 hB_st1 hB_sn1 (by omega) (by rw [show (k + -1 + 1 : Int) = k by omega]; have zs := zl_s sta 2 (k := k) (by omega); unfold tu at hu ⊢; split at zs <;> omega) (by rw [hs, show (k + -1 + 1 : Int) = k by omega]; first | exact fl_lo1 (by omega) (decide_eq_true ⟨by omega, by unfold tu at hu; omega⟩) | exact fl_lo0 (decide_eq_false (by omega))) (by rw [hg, show (k + -1 + 1 : Int) = k by omega]; first | exact fl_lo1 (by omega) (decide_eq_true ⟨by omega, by unfold tu at hu; omega⟩) | exact fl_lo0 (decide_eq_false (by omega))) (by omega) _ _ hP hD hS _ (lv_sub hl [1, 2, 3, 4, 0] rfl)
            ·
              refine lv_aload_n hx hb dX7_shed_67 rfl (lv_at hl 0 rfl) ?_
              refine va_get (D := D) (ci := 7) (v := .ref m7) (C := RX7) (T := TX7) (N := 22) hx hb hts in_X7_shed_X7 hown hK hP 0 rfl rfl 7 (by decide) (hts _ lk_X7_shed_1) (fun _ h9 => h9) rfl dX7_shed_68 ?_
              refine lv_iload hx hb dX7_shed_71 (lv_at hl 4 rfl) ?_
              refine lv_iconst (v := iI 3) hx hb dX7_shed_73 rfl ?_
              refine q_iast hx hb hK hP hD hS 1 0 rfl rfl (by omega) (by omega) (by decide) dX7_shed_74 (fun H locs hP hD hS => ?_)
              have hP : va_P D vwCl [(mo, .inr (7, [.ref m0, .ref m1, .ref m2, .ref m3, .ref m4, .ref m5, .ref m6, .ref m7, .ref m8, .ref m9, .ref m10, .ref m11, .ref m12, .ref m13, .ref m14, .ref m15, .ref m16, .ref m17, .ref m18, .ref m19, .int (iI aa), .ref m21])), (m7, .inl (cI, 12, .inl (ia (uI st1 k 3)))), (m8, .inl (cI, 12, .inl (ia sn1)))] H := hP
              have hD : va_D A [(mo, .inr (7, [.ref m0, .ref m1, .ref m2, .ref m3, .ref m4, .ref m5, .ref m6, .ref m7, .ref m8, .ref m9, .ref m10, .ref m11, .ref m12, .ref m13, .ref m14, .ref m15, .ref m16, .ref m17, .ref m18, .ref m19, .int (iI aa), .ref m21])), (m7, .inl (cI, 12, .inl (ia (uI st1 k 3)))), (m8, .inl (cI, 12, .inl (ia sn1)))] := hD
              have hB_1 : BB 0 3 (uI st1 k 3) := BB_uI hB_st1 (by omega)
              refine lv_aload_n hx hb dX7_shed_75 rfl (lv_at hl 0 rfl) ?_
              refine va_get (D := D) (ci := 7) (v := .ref m8) (C := RX7) (T := TX7) (N := 22) hx hb hts in_X7_shed_X7 hown hK hP 0 rfl rfl 8 (by decide) (hts _ lk_X7_shed_2) (fun _ h9 => h9) rfl dX7_shed_76 ?_
              refine lv_iload hx hb dX7_shed_79 (lv_at hl 4 rfl) ?_
              refine lv_iload_n hx hb dX7_shed_81 rfl (lv_at hl 2 rfl) ?_
              refine q_iast hx hb hK hP hD hS 2 0 rfl rfl (by omega) (by omega) (by decide) dX7_shed_82 (fun H locs hP hD hS => ?_)
              have hP : va_P D vwCl [(mo, .inr (7, [.ref m0, .ref m1, .ref m2, .ref m3, .ref m4, .ref m5, .ref m6, .ref m7, .ref m8, .ref m9, .ref m10, .ref m11, .ref m12, .ref m13, .ref m14, .ref m15, .ref m16, .ref m17, .ref m18, .ref m19, .int (iI aa), .ref m21])), (m7, .inl (cI, 12, .inl (ia (uI st1 k 3)))), (m8, .inl (cI, 12, .inl (ia (uI sn1 k ti))))] H := hP
              have hD : va_D A [(mo, .inr (7, [.ref m0, .ref m1, .ref m2, .ref m3, .ref m4, .ref m5, .ref m6, .ref m7, .ref m8, .ref m9, .ref m10, .ref m11, .ref m12, .ref m13, .ref m14, .ref m15, .ref m16, .ref m17, .ref m18, .ref m19, .int (iI aa), .ref m21])), (m7, .inl (cI, 12, .inl (ia (uI st1 k 3)))), (m8, .inl (cI, 12, .inl (ia (uI sn1 k ti))))] := hD
              have hB_2 : BB 0 200 (uI sn1 k ti) := BB_uI hB_sn1 (by omega)
              refine q_iinc (k := 3) (lv' := [(3, .int (iI (lg + (-1)))), (0, .ref mo), (1, .int (iI wi)), (2, .int (iI ti)), (4, .int (iI k))]) hx hb dX7_shed_83 hl rfl (by decide) rfl (fun ls hl => ?_)
              refine q_iinc (k := 4) (lv' := [(4, .int (iI (k + (-1)))), (3, .int (iI (lg + (-1)))), (0, .ref mo), (1, .int (iI wi)), (2, .int (iI ti))]) hx hb dX7_shed_86 hl rfl (by decide) rfl (fun ls hl => ?_)
              refine lv_goto (tgt := 47) hx hb dX7_shed_89 (by decide) ?_
              exact ih  (lg + (-1)) (k + (-1)) (uI st1 k 3) (uI sn1 k ti) hB_1 hB_2 (by omega) (by rw [show (k + -1 + 1 : Int) = k by omega]; have zs := zl_s sta 2 (k := k) (by omega); unfold tu at hu ⊢; split at zs <;> omega) (by rw [hs, show (k + -1 + 1 : Int) = k by omega]; first | exact fl_lo1 (by omega) (decide_eq_true ⟨by omega, by unfold tu at hu; omega⟩) | exact fl_lo0 (decide_eq_false (by omega))) (by rw [hg, show (k + -1 + 1 : Int) = k by omega]; first | exact fl_lo1 (by omega) (decide_eq_true ⟨by omega, by unfold tu at hu; omega⟩) | exact fl_lo0 (decide_eq_false (by omega))) (by omega) _ _ hP hD hS _ (lv_sub hl [2, 3, 4, 1, 0] rfl)
    exact L47_1 100 lf 11 sta sn hB_sta hB_sn (by omega) (by rw [show (11 : Int) + 1 = 12 by omega]; unfold tu; omega) (by rw [fl_nil (by omega)]) (by rw [fl_nil (by omega)]) (by omega) _ _ hP hD hS _ (lv_sub hl [1, 2, 3, 4, 0] rfl)
  refine lv_bipush (v := iI 11) hx hb dX7_shed_2 (by decide +kernel) ?_
  refine lv_istore (lv' := [(4, .int (iI 11)), (3, .int (iI wi)), (0, .ref mo), (1, .int (iI wi)), (2, .int (iI ti))]) hx hb dX7_shed_4 hl (by decide) rfl (fun ls hl => ?_)
  have L6_1 : ∀ (n : Nat), ∀ (lf : Int) (k : Int) (st1 : Int → Int), (hB_st1 : BB 0 3 st1) → (hk : -1 ≤ k ∧ k ≤ 11) → (ht : lf = wi - tu (zl st 1 12 - zl st 1 (k + 1)) wi) → (hs : st1 = fl (PH st 1 wi) 0 st (k + 1) 12) → (k + 1) < (n : Int) → ∀ (H : Heap) (locs : List Loc), va_P D vwCl [(mo, .inr (7, [.ref m0, .ref m1, .ref m2, .ref m3, .ref m4, .ref m5, .ref m6, .ref m7, .ref m8, .ref m9, .ref m10, .ref m11, .ref m12, .ref m13, .ref m14, .ref m15, .ref m16, .ref m17, .ref m18, .ref m19, .int (iI aa), .ref m21])), (m7, .inl (cI, 12, .inl (ia st1))), (m8, .inl (cI, 12, .inl (ia sn)))] H → va_D A [(mo, .inr (7, [.ref m0, .ref m1, .ref m2, .ref m3, .ref m4, .ref m5, .ref m6, .ref m7, .ref m8, .ref m9, .ref m10, .ref m11, .ref m12, .ref m13, .ref m14, .ref m15, .ref m16, .ref m17, .ref m18, .ref m19, .int (iI aa), .ref m21])), (m7, .inl (cI, 12, .inl (ia st1))), (m8, .inl (cI, 12, .inl (ia sn)))] → va_S A s.heap H locs → ∀ ls : Array Slot, lv_has ls 5 [(0, .ref mo), (1, .int (iI wi)), (2, .int (iI ti)), (3, .int (iI lf)), (4, .int (iI k))] → W p l e R s m args below meth c H locs 0 0 Q (F0 m 6 ls []) := by
    intro n
    induction n with
    | zero => intro lf k st1 hB_st1 hk ht hs hm; exact absurd hm (by omega)
    | succ n ih =>
      intro lf k st1 hB_st1 hk ht hs hm H locs hP hD hS ls hl
      have e0 : st1 k = st k := by rw [hs]; exact fl_out (by omega)
      have hz0 := zl_mono st 1 (show k + 1 ≤ 12 by omega)
      have hz1 := zl_b st 1 (show (0 : Int) ≤ 12 by omega)
      have hz2 := zl_b st 1 (show 0 ≤ k + 1 by omega)
      have htb : -12 ≤ lf - wi ∧ lf - wi ≤ 0 := by unfold tu at ht; omega
      refine lv_iload hx hb dX7_shed_6 (lv_at hl 4 rfl) ?_
      refine q_if_lt (tgt := 43) hx hb dX7_shed_8 (by decide) ⟨by omega, by omega⟩ (fun c8 => ?_) (fun c8 => ?_)
      ·
        exact L43_0  lf st1 hB_st1 (by first | (rw [ht, show k + 1 = 0 by omega, zl_0, Int.sub_zero]) | (have hm2 := zl_b st 1 (show 0 ≤ k + 1 by omega); unfold tu at ht ⊢; omega)) (by rw [hs]; unfold shA; first | (rw [show k + 1 = 0 by omega]) | exact fl_doneLo (by omega) (PH_done (st := st) (v := 1) (wish := wi) (k := k + 1) (by omega) (by omega))) _ _ hP hD hS _ (lv_sub hl [0, 1, 2, 3] rfl)
      ·
        refine lv_iload_n hx hb dX7_shed_11 rfl (lv_at hl 3 rfl) ?_
        refine q_if_le (tgt := 43) hx hb dX7_shed_12 (by decide) ⟨by omega, by omega⟩ (fun c12 => ?_) (fun c12 => ?_)
        ·
          exact L43_0  lf st1 hB_st1 (by first | (rw [ht, show k + 1 = 0 by omega, zl_0, Int.sub_zero]) | (have hm2 := zl_b st 1 (show 0 ≤ k + 1 by omega); unfold tu at ht ⊢; omega)) (by rw [hs]; unfold shA; first | (rw [show k + 1 = 0 by omega]) | exact fl_doneLo (by omega) (PH_done (st := st) (v := 1) (wish := wi) (k := k + 1) (by omega) (by omega))) _ _ hP hD hS _ (lv_sub hl [0, 1, 2, 3] rfl)
        ·
          refine lv_aload_n hx hb dX7_shed_15 rfl (lv_at hl 0 rfl) ?_
          refine va_get (D := D) (ci := 7) (v := .ref m7) (C := RX7) (T := TX7) (N := 22) hx hb hts in_X7_shed_X7 hown hK hP 0 rfl rfl 7 (by decide) (hts _ lk_X7_shed_1) (fun _ h9 => h9) rfl dX7_shed_16 ?_
          refine lv_iload hx hb dX7_shed_19 (lv_at hl 4 rfl) ?_
          refine q_iald hx hb hK hP 1 0 rfl rfl (by omega) (by omega) (by decide) dX7_shed_21 ?_
          have hb21 := hB_st1 k
          refine lv_iconst (v := iI 1) hx hb dX7_shed_22 rfl ?_
          refine q_icmp_ne (tgt := 37) hx hb dX7_shed_23 (by decide) ⟨by omega, by omega⟩ ⟨by decide, by decide⟩ (fun c23 => ?_) (fun c23 => ?_)
          ·
            refine q_iinc (k := 4) (lv' := [(4, .int (iI (k + (-1)))), (0, .ref mo), (1, .int (iI wi)), (2, .int (iI ti)), (3, .int (iI lf))]) hx hb dX7_shed_37 hl rfl (by decide) rfl (fun ls hl => ?_)
            refine lv_goto (tgt := 6) hx hb dX7_shed_40 (by decide) ?_
            exact ih  lf (k + (-1)) st1 hB_st1 (by omega) (by rw [show (k + -1 + 1 : Int) = k by omega]; have zs := zl_s st 1 (k := k) (by omega); unfold tu at ht ⊢; split at zs <;> omega) (by rw [hs, show (k + -1 + 1 : Int) = k by omega]; first | exact fl_lo1 (by omega) (decide_eq_true ⟨by omega, by unfold tu at ht; omega⟩) | exact fl_lo0 (decide_eq_false (by omega))) (by omega) _ _ hP hD hS _ (lv_sub hl [1, 2, 3, 4, 0] rfl)
          ·
            refine lv_aload_n hx hb dX7_shed_26 rfl (lv_at hl 0 rfl) ?_
            refine va_get (D := D) (ci := 7) (v := .ref m7) (C := RX7) (T := TX7) (N := 22) hx hb hts in_X7_shed_X7 hown hK hP 0 rfl rfl 7 (by decide) (hts _ lk_X7_shed_1) (fun _ h9 => h9) rfl dX7_shed_27 ?_
            refine lv_iload hx hb dX7_shed_30 (lv_at hl 4 rfl) ?_
            refine lv_iconst (v := iI 0) hx hb dX7_shed_32 rfl ?_
            refine q_iast hx hb hK hP hD hS 1 0 rfl rfl (by omega) (by omega) (by decide) dX7_shed_33 (fun H locs hP hD hS => ?_)
            have hP : va_P D vwCl [(mo, .inr (7, [.ref m0, .ref m1, .ref m2, .ref m3, .ref m4, .ref m5, .ref m6, .ref m7, .ref m8, .ref m9, .ref m10, .ref m11, .ref m12, .ref m13, .ref m14, .ref m15, .ref m16, .ref m17, .ref m18, .ref m19, .int (iI aa), .ref m21])), (m7, .inl (cI, 12, .inl (ia (uI st1 k 0)))), (m8, .inl (cI, 12, .inl (ia sn)))] H := hP
            have hD : va_D A [(mo, .inr (7, [.ref m0, .ref m1, .ref m2, .ref m3, .ref m4, .ref m5, .ref m6, .ref m7, .ref m8, .ref m9, .ref m10, .ref m11, .ref m12, .ref m13, .ref m14, .ref m15, .ref m16, .ref m17, .ref m18, .ref m19, .int (iI aa), .ref m21])), (m7, .inl (cI, 12, .inl (ia (uI st1 k 0)))), (m8, .inl (cI, 12, .inl (ia sn)))] := hD
            have hB_3 : BB 0 3 (uI st1 k 0) := BB_uI hB_st1 (by omega)
            refine q_iinc (k := 3) (lv' := [(3, .int (iI (lf + (-1)))), (0, .ref mo), (1, .int (iI wi)), (2, .int (iI ti)), (4, .int (iI k))]) hx hb dX7_shed_34 hl rfl (by decide) rfl (fun ls hl => ?_)
            refine q_iinc (k := 4) (lv' := [(4, .int (iI (k + (-1)))), (3, .int (iI (lf + (-1)))), (0, .ref mo), (1, .int (iI wi)), (2, .int (iI ti))]) hx hb dX7_shed_37 hl rfl (by decide) rfl (fun ls hl => ?_)
            refine lv_goto (tgt := 6) hx hb dX7_shed_40 (by decide) ?_
            exact ih  (lf + (-1)) (k + (-1)) (uI st1 k 0) hB_3 (by omega) (by rw [show (k + -1 + 1 : Int) = k by omega]; have zs := zl_s st 1 (k := k) (by omega); unfold tu at ht ⊢; split at zs <;> omega) (by rw [hs, show (k + -1 + 1 : Int) = k by omega]; first | exact fl_lo1 (by omega) (decide_eq_true ⟨by omega, by unfold tu at ht; omega⟩) | exact fl_lo0 (decide_eq_false (by omega))) (by omega) _ _ hP hD hS _ (lv_sub hl [2, 3, 4, 1, 0] rfl)
  exact L6_1 100 wi 11 st hB_st (by omega) (by rw [show (11 : Int) + 1 = 12 by omega]; unfold tu; omega) (by rw [fl_nil (by omega)]) (by omega) _ _ hP hD hS _ (lv_sub hl [2, 3, 4, 1, 0] rfl)

set_option maxHeartbeats 4000000 in
set_option maxRecDepth 100000 in
theorem c_J9_floorMod_7cf53 (l : Launch) (D : va_G) (cI cZ cII : ClassId) (x : Int) (y : Int) (hp_x : 0 ≤ x ∧ x ≤ 2147483647) (hp_y : 1 ≤ y ∧ y ≤ 2147483647) : CtI l yJ9_floorMod_7cf53 wsJ9_floorMod_7cf53 0 0 D (ty3 cI cZ cII) [.int (iI x), .int (iI y)] [] (fun z (u : Unit) => z = (x % y)) (fun u => []) := by
  refine CtI.mkF (cc := cJ9_floorMod_7cf53) (maxL := 3) (ret := (some .int)) (by decide +kernel) rfl (Nat.le_of_ble_eq_true rfl) ?_
  intro p e s m below meth c A ls R args Q hx hb hml hr hts hown hlocks hA hK hP hD hN hS hl hRf hRl hQ
  have hl : lv_has ls 3 [(0, .int (iI x)), (1, .int (iI y))] := hl
  have hown : s.vm.findClass RJ9 = some m.cls := hown
  refine lv_iload_n hx hb dJ9_floorMod_7cf53_0 rfl (lv_at hl 0 rfl) ?_
  refine lv_iload_n hx hb dJ9_floorMod_7cf53_1 rfl (lv_at hl 1 rfl) ?_
  refine q_irem hx hb dJ9_floorMod_7cf53_2 ⟨by omega, by omega⟩ ⟨by omega, by omega⟩ ?_
  refine lv_istore_n (lv' := [(2, .int (iI (x % y))), (0, .int (iI x)), (1, .int (iI y))]) hx hb dJ9_floorMod_7cf53_3 rfl hl (by decide) rfl (fun ls hl => ?_)
  obtain ⟨kx, hk0, hk1, hkx⟩ := iI_xor (a := x) (b := y) (by omega) (by omega)
  refine lv_iload_n hx hb dJ9_floorMod_7cf53_4 rfl (lv_at hl 1 rfl) ?_
  refine lv_iload_n hx hb dJ9_floorMod_7cf53_5 rfl (lv_at hl 2 rfl) ?_
  refine lv_ixor hx hb dJ9_floorMod_7cf53_6 ?_
  refine q_bits (b := kx) hkx ?_
  refine q_if_ge (tgt := 18) hx hb dJ9_floorMod_7cf53_7 (by decide) ⟨by omega, by omega⟩ (fun _ => ?_) (fun h => absurd h (by omega))
  refine lv_iload_n hx hb dJ9_floorMod_7cf53_18 rfl (lv_at hl 0 rfl) ?_
  rw [hQ]
  refine q_retI () hx hb hr hlocks hK hP hD hS dJ9_floorMod_7cf53_19 ?_
  rfl

theorem in_X5_value_X5 : ∀ w ∈ wsX50, w ∈ wsX5_value := fun _ h => List.mem_cons_of_mem _ (List.mem_append_right _ h)
theorem lk_X5_value_1 : Cond.fieldLink RX5 11 "MoreHands$Terms" "values" "[I" ∈ wsX5_value := List.mem_of_getElem? (i := 1) rfl
theorem lk_X5_value_2 : Cond.static yX6_within ∈ wsX5_value := List.mem_of_getElem? (i := 2) rfl
theorem lk_X5_value_3 : Cond.initialized RX6 ∈ wsX5_value := List.mem_of_getElem? (i := 3) rfl
set_option maxHeartbeats 4000000 in
set_option maxRecDepth 100000 in
theorem c_X5_value (l : Launch) (D : va_G) (cI cZ cII : ClassId) (tm : Nat) (tv : Nat) (tp : Nat) (se : Int → Int) (pl : Int → Int) (what : Int) (hB_se : BB 0 1000 se) (hB_pl : BB 0 12 pl) (hp_what : IR what) : CtI l yX5_value wsX5_value 1 22 D (ty3 cI cZ cII) [.ref tm, .int (iI what)] [(tm, .inr (5, [.ref tv, .ref tp])), (tv, .inl (cI, 19, .inl (ia se))), (tp, .inl (cI, 24, .inl (ia pl)))] (fun z (u : Unit) => z = (tvF se what)) (fun u => [(tm, .inr (5, [.ref tv, .ref tp])), (tv, .inl (cI, 19, .inl (ia se))), (tp, .inl (cI, 24, .inl (ia pl)))]) := by
  refine CtI.mk (cc := cX5_value) (maxL := 2) (ret := (some .int)) (by decide) rfl (Nat.le_of_ble_eq_true rfl) ?_
  intro p e s m below meth c A ls R args Q hx hb hml hr hts hown hlocks hA hK hP hD hN hS hl hRf hRl hQ
  have hl : lv_has ls 2 [(0, .ref tm), (1, .int (iI what))] := hl
  have hown : s.vm.findClass RX5 = some m.cls := hown
  refine lv_iload_n hx hb dX5_value_0 rfl (lv_at hl 1 rfl) ?_
  refine lv_iconst (v := iI 0) hx hb dX5_value_1 rfl ?_
  refine lv_bipush (v := iI 18) hx hb dX5_value_2 (by decide +kernel) ?_
  refine q_callNI (wr := [(tm, .inr (5, [.ref tv, .ref tp])), (tv, .inl (cI, 19, .inl (ia se))), (tp, .inl (cI, 24, .inl (ia pl)))]) (wn := fun (u : Unit) => [(tm, .inr (5, [.ref tv, .ref tp])), (tv, .inl (cI, 19, .inl (ia se))), (tp, .inl (cI, 24, .inl (ia pl)))]) (rest := []) [.int (iI what), .int (iI 0), .int (iI 18)] ⟨hx, hb, hml, hown, hts⟩ (c_X6_within l D cI cZ cII what 0 18 ⟨by omega, by omega⟩ ⟨by omega, by omega⟩ ⟨by omega, by omega⟩) ⟨va_cnB 3 hts gX5_value_X6_within_n21 rfl rfl rfl hN.1 (hts _ lk_X5_value_3) (by decide +kernel) (by rw [hRf, hRl]; exact ⟨Nat.le_of_ble_eq_true rfl, Nat.le_of_ble_eq_true rfl⟩), (hts _ lk_X5_value_2), trivial⟩ hK hP hD hS hA hN [] [0, 1, 2] [0, 1, 2] rfl rfl rfl rfl (by decide) rfl (fun u => rfl) rfl hl.1 rfl (Nat.le_of_ble_eq_true rfl) dX5_value_4 ⟨Nat.zero_le _, Nat.zero_le _⟩ (fun z u H locs hw hP hD hS => ?_)
  have hP : va_P D vwCl [(tm, .inr (5, [.ref tv, .ref tp])), (tv, .inl (cI, 19, .inl (ia se))), (tp, .inl (cI, 24, .inl (ia pl)))] H := hP
  have hD : va_D A [(tm, .inr (5, [.ref tv, .ref tp])), (tv, .inl (cI, 19, .inl (ia se))), (tp, .inl (cI, 24, .inl (ia pl)))] := hD
  obtain ⟨z_1, ez⟩ : ∃ y : Int, y = z := ⟨_, rfl⟩
  rw [← ez] at hw ⊢
  clear ez
  rcases hw with ⟨rfl, w4⟩ | ⟨rfl, w4⟩
  ·
    refine q_if_eq (tgt := 19) hx hb dX5_value_7 (by decide) ⟨by decide, by decide⟩ (fun h => absurd h (by decide)) (fun _ => ?_)
    refine lv_aload_n hx hb dX5_value_10 rfl (lv_at hl 0 rfl) ?_
    refine va_get (D := D) (ci := 5) (v := .ref tv) (C := RX5) (T := TX5) (N := 2) hx hb hts in_X5_value_X5 hown hK hP 0 rfl rfl 0 (by decide) (hts _ lk_X5_value_1) (fun _ h9 => h9) rfl dX5_value_11 ?_
    refine lv_iload_n hx hb dX5_value_14 rfl (lv_at hl 1 rfl) ?_
    refine q_iald hx hb hK hP 1 0 rfl rfl (by omega) (by omega) (by decide) dX5_value_15 ?_
    have hb15 := hB_se what
    refine lv_goto (tgt := 22) hx hb dX5_value_16 (by decide) ?_
    rw [hQ]
    refine q_retI () hx hb hr hlocks hK hP hD hS dX5_value_22 ?_
    unfold tvF; first | rw [if_pos w4] | rw [if_neg w4]
  ·
    refine q_if_eq (tgt := 19) hx hb dX5_value_7 (by decide) ⟨by decide, by decide⟩ (fun _ => ?_) (fun h => absurd h (by decide))
    refine lv_sipush (v := iI (-1002)) hx hb dX5_value_19 (by decide +kernel) ?_
    rw [hQ]
    refine q_retI () hx hb hr hlocks hK hP hD hS dX5_value_22 ?_
    unfold tvF; first | rw [if_pos w4] | rw [if_neg w4]

theorem in_X5_change_X5 : ∀ w ∈ wsX50, w ∈ wsX5_change := fun _ h => List.mem_cons_of_mem _ (List.mem_append_right _ h)
theorem lk_X5_change_1 : Cond.fieldLink RX5 11 "MoreHands$Terms" "values" "[I" ∈ wsX5_change := List.mem_of_getElem? (i := 1) rfl
theorem lk_X5_change_2 : Cond.static yX6_within ∈ wsX5_change := List.mem_of_getElem? (i := 2) rfl
theorem lk_X5_change_3 : Cond.initialized RX6 ∈ wsX5_change := List.mem_of_getElem? (i := 3) rfl
set_option maxHeartbeats 4000000 in
set_option maxRecDepth 100000 in
theorem c_X5_change (l : Launch) (D : va_G) (cI cZ cII : ClassId) (tm : Nat) (tv : Nat) (tp : Nat) (se : Int → Int) (pl : Int → Int) (what : Int) (v : Int) (hB_se : BB 0 1000 se) (hB_pl : BB 0 12 pl) (hp_what : IR what) (hp_v : 0 ≤ v ∧ v ≤ 1000) : CtI l yX5_change wsX5_change 1 22 D (ty3 cI cZ cII) [.ref tm, .int (iI what), .int (iI v)] [(tm, .inr (5, [.ref tv, .ref tp])), (tv, .inl (cI, 19, .inl (ia se))), (tp, .inl (cI, 24, .inl (ia pl)))] (fun z (u : (Int → Int)) => z = tvF se what ∧ u = (if 0 ≤ what ∧ what ≤ 18 then uI se what v else se) ∧ BB 0 1000 u) (fun u => [(tm, .inr (5, [.ref tv, .ref tp])), (tv, .inl (cI, 19, .inl (ia u))), (tp, .inl (cI, 24, .inl (ia pl)))]) := by
  refine CtI.mk (cc := cX5_change) (maxL := 4) (ret := (some .int)) (by decide) rfl (Nat.le_of_ble_eq_true rfl) ?_
  intro p e s m below meth c A ls R args Q hx hb hml hr hts hown hlocks hA hK hP hD hN hS hl hRf hRl hQ
  have hl : lv_has ls 4 [(0, .ref tm), (1, .int (iI what)), (2, .int (iI v))] := hl
  have hown : s.vm.findClass RX5 = some m.cls := hown
  refine lv_iload_n hx hb dX5_change_0 rfl (lv_at hl 1 rfl) ?_
  refine lv_iconst (v := iI 0) hx hb dX5_change_1 rfl ?_
  refine lv_bipush (v := iI 18) hx hb dX5_change_2 (by decide +kernel) ?_
  refine q_callNI (wr := [(tm, .inr (5, [.ref tv, .ref tp])), (tv, .inl (cI, 19, .inl (ia se))), (tp, .inl (cI, 24, .inl (ia pl)))]) (wn := fun (u : Unit) => [(tm, .inr (5, [.ref tv, .ref tp])), (tv, .inl (cI, 19, .inl (ia se))), (tp, .inl (cI, 24, .inl (ia pl)))]) (rest := []) [.int (iI what), .int (iI 0), .int (iI 18)] ⟨hx, hb, hml, hown, hts⟩ (c_X6_within l D cI cZ cII what 0 18 ⟨by omega, by omega⟩ ⟨by omega, by omega⟩ ⟨by omega, by omega⟩) ⟨va_cnB 3 hts gX5_change_X6_within_n21 rfl rfl rfl hN.1 (hts _ lk_X5_change_3) (by decide +kernel) (by rw [hRf, hRl]; exact ⟨Nat.le_of_ble_eq_true rfl, Nat.le_of_ble_eq_true rfl⟩), (hts _ lk_X5_change_2), trivial⟩ hK hP hD hS hA hN [] [0, 1, 2] [0, 1, 2] rfl rfl rfl rfl (by decide) rfl (fun u => rfl) rfl hl.1 rfl (Nat.le_of_ble_eq_true rfl) dX5_change_4 ⟨Nat.zero_le _, Nat.zero_le _⟩ (fun z u H locs hw hP hD hS => ?_)
  have hP : va_P D vwCl [(tm, .inr (5, [.ref tv, .ref tp])), (tv, .inl (cI, 19, .inl (ia se))), (tp, .inl (cI, 24, .inl (ia pl)))] H := hP
  have hD : va_D A [(tm, .inr (5, [.ref tv, .ref tp])), (tv, .inl (cI, 19, .inl (ia se))), (tp, .inl (cI, 24, .inl (ia pl)))] := hD
  obtain ⟨z_1, ez⟩ : ∃ y : Int, y = z := ⟨_, rfl⟩
  rw [← ez] at hw ⊢
  clear ez
  rcases hw with ⟨rfl, w4⟩ | ⟨rfl, w4⟩
  ·
    refine q_if_ne (tgt := 14) hx hb dX5_change_7 (by decide) ⟨by decide, by decide⟩ (fun _ => ?_) (fun h => absurd h (by decide))
    refine lv_aload_n hx hb dX5_change_14 rfl (lv_at hl 0 rfl) ?_
    refine va_get (D := D) (ci := 5) (v := .ref tv) (C := RX5) (T := TX5) (N := 2) hx hb hts in_X5_change_X5 hown hK hP 0 rfl rfl 0 (by decide) (hts _ lk_X5_change_1) (fun _ h9 => h9) rfl dX5_change_15 ?_
    refine lv_iload_n hx hb dX5_change_18 rfl (lv_at hl 1 rfl) ?_
    refine q_iald hx hb hK hP 1 0 rfl rfl (by omega) (by omega) (by decide) dX5_change_19 ?_
    have hb19 := hB_se what
    refine lv_istore_n (lv' := [(3, .int (iI (se what))), (0, .ref tm), (1, .int (iI what)), (2, .int (iI v))]) hx hb dX5_change_20 rfl hl (by decide) rfl (fun ls hl => ?_)
    refine lv_aload_n hx hb dX5_change_21 rfl (lv_at hl 1 rfl) ?_
    refine va_get (D := D) (ci := 5) (v := .ref tv) (C := RX5) (T := TX5) (N := 2) hx hb hts in_X5_change_X5 hown hK hP 0 rfl rfl 0 (by decide) (hts _ lk_X5_change_1) (fun _ h9 => h9) rfl dX5_change_22 ?_
    refine lv_iload_n hx hb dX5_change_25 rfl (lv_at hl 2 rfl) ?_
    refine lv_iload_n hx hb dX5_change_26 rfl (lv_at hl 3 rfl) ?_
    refine q_iast hx hb hK hP hD hS 1 0 rfl rfl (by omega) (by omega) (by decide) dX5_change_27 (fun H locs hP hD hS => ?_)
    have hP : va_P D vwCl [(tm, .inr (5, [.ref tv, .ref tp])), (tv, .inl (cI, 19, .inl (ia (uI se what v)))), (tp, .inl (cI, 24, .inl (ia pl)))] H := hP
    have hD : va_D A [(tm, .inr (5, [.ref tv, .ref tp])), (tv, .inl (cI, 19, .inl (ia (uI se what v)))), (tp, .inl (cI, 24, .inl (ia pl)))] := hD
    have hB_2 : BB 0 1000 (uI se what v) := BB_uI hB_se (by omega)
    refine lv_iload_n hx hb dX5_change_28 rfl (lv_at hl 0 rfl) ?_
    rw [hQ]
    refine q_retI (uI se what v) hx hb hr hlocks hK hP hD hS dX5_change_29 ?_
    try dsimp only
    unfold tvF; first | exact ⟨by rw [if_pos w4], by rw [if_pos w4], BB_uI hB_se (by omega)⟩ | exact ⟨by rw [if_neg w4], by rw [if_neg w4], hB_se⟩
  ·
    refine q_if_ne (tgt := 14) hx hb dX5_change_7 (by decide) ⟨by decide, by decide⟩ (fun h => absurd h (by decide)) (fun _ => ?_)
    refine lv_sipush (v := iI (-1002)) hx hb dX5_change_10 (by decide +kernel) ?_
    rw [hQ]
    refine q_retI se hx hb hr hlocks hK hP hD hS dX5_change_13 ?_
    try dsimp only
    unfold tvF; first | exact ⟨by rw [if_pos w4], by rw [if_pos w4], BB_uI hB_se (by omega)⟩ | exact ⟨by rw [if_neg w4], by rw [if_neg w4], hB_se⟩

theorem in_X5_changePlan_X5 : ∀ w ∈ wsX50, w ∈ wsX5_changePlan := fun _ h => List.mem_cons_of_mem _ (List.mem_append_right _ h)
theorem lk_X5_changePlan_1 : Cond.fieldLink RX5 15 "MoreHands$Terms" "plans" "[I" ∈ wsX5_changePlan := List.mem_of_getElem? (i := 1) rfl
theorem lk_X5_changePlan_2 : Cond.static yX6_within ∈ wsX5_changePlan := List.mem_of_getElem? (i := 2) rfl
theorem lk_X5_changePlan_3 : Cond.initialized RX6 ∈ wsX5_changePlan := List.mem_of_getElem? (i := 3) rfl
set_option maxHeartbeats 4000000 in
set_option maxRecDepth 100000 in
theorem c_X5_changePlan (l : Launch) (D : va_G) (cI cZ cII : ClassId) (tm : Nat) (tv : Nat) (tp : Nat) (se : Int → Int) (pl : Int → Int) (h : Int) (v : Int) (hB_se : BB 0 1000 se) (hB_pl : BB 0 12 pl) (hp_h : IR h) (hp_v : 0 ≤ v ∧ v ≤ 12) : CtI l yX5_changePlan wsX5_changePlan 1 22 D (ty3 cI cZ cII) [.ref tm, .int (iI h), .int (iI v)] [(tm, .inr (5, [.ref tv, .ref tp])), (tv, .inl (cI, 19, .inl (ia se))), (tp, .inl (cI, 24, .inl (ia pl)))] (fun z (u : (Int → Int)) => z = (if 0 ≤ h ∧ h ≤ 23 then pl h else -1002) ∧ u = (if 0 ≤ h ∧ h ≤ 23 then uI pl h v else pl) ∧ BB 0 12 u) (fun u => [(tm, .inr (5, [.ref tv, .ref tp])), (tv, .inl (cI, 19, .inl (ia se))), (tp, .inl (cI, 24, .inl (ia u)))]) := by
  refine CtI.mk (cc := cX5_changePlan) (maxL := 4) (ret := (some .int)) (by decide) rfl (Nat.le_of_ble_eq_true rfl) ?_
  intro p e s m below meth c A ls R args Q hx hb hml hr hts hown hlocks hA hK hP hD hN hS hl hRf hRl hQ
  have hl : lv_has ls 4 [(0, .ref tm), (1, .int (iI h)), (2, .int (iI v))] := hl
  have hown : s.vm.findClass RX5 = some m.cls := hown
  refine lv_iload_n hx hb dX5_changePlan_0 rfl (lv_at hl 1 rfl) ?_
  refine lv_iconst (v := iI 0) hx hb dX5_changePlan_1 rfl ?_
  refine lv_bipush (v := iI 23) hx hb dX5_changePlan_2 (by decide +kernel) ?_
  refine q_callNI (wr := [(tm, .inr (5, [.ref tv, .ref tp])), (tv, .inl (cI, 19, .inl (ia se))), (tp, .inl (cI, 24, .inl (ia pl)))]) (wn := fun (u : Unit) => [(tm, .inr (5, [.ref tv, .ref tp])), (tv, .inl (cI, 19, .inl (ia se))), (tp, .inl (cI, 24, .inl (ia pl)))]) (rest := []) [.int (iI h), .int (iI 0), .int (iI 23)] ⟨hx, hb, hml, hown, hts⟩ (c_X6_within l D cI cZ cII h 0 23 ⟨by omega, by omega⟩ ⟨by omega, by omega⟩ ⟨by omega, by omega⟩) ⟨va_cnB 3 hts gX5_changePlan_X6_within_n21 rfl rfl rfl hN.1 (hts _ lk_X5_changePlan_3) (by decide +kernel) (by rw [hRf, hRl]; exact ⟨Nat.le_of_ble_eq_true rfl, Nat.le_of_ble_eq_true rfl⟩), (hts _ lk_X5_changePlan_2), trivial⟩ hK hP hD hS hA hN [] [0, 1, 2] [0, 1, 2] rfl rfl rfl rfl (by decide) rfl (fun u => rfl) rfl hl.1 rfl (Nat.le_of_ble_eq_true rfl) dX5_changePlan_4 ⟨Nat.zero_le _, Nat.zero_le _⟩ (fun z u H locs hw hP hD hS => ?_)
  have hP : va_P D vwCl [(tm, .inr (5, [.ref tv, .ref tp])), (tv, .inl (cI, 19, .inl (ia se))), (tp, .inl (cI, 24, .inl (ia pl)))] H := hP
  have hD : va_D A [(tm, .inr (5, [.ref tv, .ref tp])), (tv, .inl (cI, 19, .inl (ia se))), (tp, .inl (cI, 24, .inl (ia pl)))] := hD
  obtain ⟨z_1, ez⟩ : ∃ y : Int, y = z := ⟨_, rfl⟩
  rw [← ez] at hw ⊢
  clear ez
  rcases hw with ⟨rfl, w4⟩ | ⟨rfl, w4⟩
  ·
    refine q_if_ne (tgt := 14) hx hb dX5_changePlan_7 (by decide) ⟨by decide, by decide⟩ (fun _ => ?_) (fun h => absurd h (by decide))
    refine lv_aload_n hx hb dX5_changePlan_14 rfl (lv_at hl 0 rfl) ?_
    refine va_get (D := D) (ci := 5) (v := .ref tp) (C := RX5) (T := TX5) (N := 2) hx hb hts in_X5_changePlan_X5 hown hK hP 0 rfl rfl 1 (by decide) (hts _ lk_X5_changePlan_1) (fun _ h9 => h9) rfl dX5_changePlan_15 ?_
    refine lv_iload_n hx hb dX5_changePlan_18 rfl (lv_at hl 1 rfl) ?_
    refine q_iald hx hb hK hP 2 0 rfl rfl (by omega) (by omega) (by decide) dX5_changePlan_19 ?_
    have hb19 := hB_pl h
    refine lv_istore_n (lv' := [(3, .int (iI (pl h))), (0, .ref tm), (1, .int (iI h)), (2, .int (iI v))]) hx hb dX5_changePlan_20 rfl hl (by decide) rfl (fun ls hl => ?_)
    refine lv_aload_n hx hb dX5_changePlan_21 rfl (lv_at hl 1 rfl) ?_
    refine va_get (D := D) (ci := 5) (v := .ref tp) (C := RX5) (T := TX5) (N := 2) hx hb hts in_X5_changePlan_X5 hown hK hP 0 rfl rfl 1 (by decide) (hts _ lk_X5_changePlan_1) (fun _ h9 => h9) rfl dX5_changePlan_22 ?_
    refine lv_iload_n hx hb dX5_changePlan_25 rfl (lv_at hl 2 rfl) ?_
    refine lv_iload_n hx hb dX5_changePlan_26 rfl (lv_at hl 3 rfl) ?_
    refine q_iast hx hb hK hP hD hS 2 0 rfl rfl (by omega) (by omega) (by decide) dX5_changePlan_27 (fun H locs hP hD hS => ?_)
    have hP : va_P D vwCl [(tm, .inr (5, [.ref tv, .ref tp])), (tv, .inl (cI, 19, .inl (ia se))), (tp, .inl (cI, 24, .inl (ia (uI pl h v))))] H := hP
    have hD : va_D A [(tm, .inr (5, [.ref tv, .ref tp])), (tv, .inl (cI, 19, .inl (ia se))), (tp, .inl (cI, 24, .inl (ia (uI pl h v))))] := hD
    have hB_2 : BB 0 12 (uI pl h v) := BB_uI hB_pl (by omega)
    refine lv_iload_n hx hb dX5_changePlan_28 rfl (lv_at hl 0 rfl) ?_
    rw [hQ]
    refine q_retI (uI pl h v) hx hb hr hlocks hK hP hD hS dX5_changePlan_29 ?_
    try dsimp only
    first | exact ⟨by rw [if_pos w4], by rw [if_pos w4], BB_uI hB_pl (by omega)⟩ | exact ⟨by rw [if_neg w4], by rw [if_neg w4], hB_pl⟩
  ·
    refine q_if_ne (tgt := 14) hx hb dX5_changePlan_7 (by decide) ⟨by decide, by decide⟩ (fun h => absurd h (by decide)) (fun _ => ?_)
    refine lv_sipush (v := iI (-1002)) hx hb dX5_changePlan_10 (by decide +kernel) ?_
    rw [hQ]
    refine q_retI pl hx hb hr hlocks hK hP hD hS dX5_changePlan_13 ?_
    try dsimp only
    first | exact ⟨by rw [if_pos w4], by rw [if_pos w4], BB_uI hB_pl (by omega)⟩ | exact ⟨by rw [if_neg w4], by rw [if_neg w4], hB_pl⟩

theorem in_X5_bounded_X5 : ∀ w ∈ wsX50, w ∈ wsX5_bounded := fun _ h => List.mem_cons_of_mem _ (List.mem_append_right _ h)
theorem lk_X5_bounded_1 : Cond.fieldLink RX5 15 "MoreHands$Terms" "plans" "[I" ∈ wsX5_bounded := List.mem_of_getElem? (i := 1) rfl
theorem lk_X5_bounded_2 : Cond.fieldLink RX5 11 "MoreHands$Terms" "values" "[I" ∈ wsX5_bounded := List.mem_of_getElem? (i := 2) rfl
theorem lk_X5_bounded_3 : Cond.methodLink RX5 37 Lib.Math.max.name ∈ wsX5_bounded := List.mem_of_getElem? (i := 3) rfl
theorem lk_X5_bounded_4 : Cond.static Lib.Math.max.name ∈ wsX5_bounded := List.mem_of_getElem? (i := 4) rfl
theorem lk_X5_bounded_5 : Cond.initialized "java/lang/Math" ∈ wsX5_bounded := List.mem_of_getElem? (i := 5) rfl
theorem lk_X5_bounded_6 : Cond.code Lib.Math.max.name Lib.Math.max.code 2 (some .int) ∈ wsX5_bounded := List.mem_of_getElem? (i := 6) rfl
theorem lk_X5_bounded_7 : Cond.methodLink RX5 40 Lib.Math.min.name ∈ wsX5_bounded := List.mem_of_getElem? (i := 7) rfl
theorem lk_X5_bounded_8 : Cond.static Lib.Math.min.name ∈ wsX5_bounded := List.mem_of_getElem? (i := 8) rfl
theorem lk_X5_bounded_9 : Cond.code Lib.Math.min.name Lib.Math.min.code 2 (some .int) ∈ wsX5_bounded := List.mem_of_getElem? (i := 9) rfl
set_option maxHeartbeats 4000000 in
set_option maxRecDepth 100000 in
theorem c_X5_bounded (l : Launch) (D : va_G) (cI cZ cII : ClassId) (tm : Nat) (tv : Nat) (tp : Nat) (se : Int → Int) (pl : Int → Int) (wa : Int) (ti : Int) (hB_se : BB 0 1000 se) (hB_pl : BB 0 12 pl) (hp_wa : -100000 ≤ wa ∧ wa ≤ 100000) (hp_ti : 0 ≤ ti ∧ ti ≤ 200) : CtI l yX5_bounded wsX5_bounded 1 22 D (ty3 cI cZ cII) [.ref tm, .int (iI wa), .int (iI ti)] [(tm, .inr (5, [.ref tv, .ref tp])), (tv, .inl (cI, 19, .inl (ia se))), (tp, .inl (cI, 24, .inl (ia pl)))] (fun z (u : Unit) => z = (bdF se pl wa ti)) (fun u => [(tm, .inr (5, [.ref tv, .ref tp])), (tv, .inl (cI, 19, .inl (ia se))), (tp, .inl (cI, 24, .inl (ia pl)))]) := by
  refine CtI.mk (cc := cX5_bounded) (maxL := 5) (ret := (some .int)) (by decide) rfl (Nat.le_of_ble_eq_true rfl) ?_
  intro p e s m below meth c A ls R args Q hx hb hml hr hts hown hlocks hA hK hP hD hN hS hl hRf hRl hQ
  have hl : lv_has ls 5 [(0, .ref tm), (1, .int (iI wa)), (2, .int (iI ti))] := hl
  have hown : s.vm.findClass RX5 = some m.cls := hown
  refine lv_iload_n hx hb dX5_bounded_0 rfl (lv_at hl 2 rfl) ?_
  refine lv_bipush (v := iI 24) hx hb dX5_bounded_1 (by decide +kernel) ?_
  refine q_callSI (wr := [(tm, .inr (5, [.ref tv, .ref tp])), (tv, .inl (cI, 19, .inl (ia se))), (tp, .inl (cI, 24, .inl (ia pl)))]) (wn := fun (u : Unit) => [(tm, .inr (5, [.ref tv, .ref tp])), (tv, .inl (cI, 19, .inl (ia se))), (tp, .inl (cI, 24, .inl (ia pl)))]) (rest := []) [.int (iI ti), .int (iI 24)] ⟨hx, hb, hml, hown, hts⟩ (c_J9_floorMod_7cf53 l D cI cZ cII ti 24 (by omega) (by omega)) (va_cwS 2 hts gX5_bounded_J9_floorMod_7cf53 rfl rfl rfl (by decide +kernel) (by rw [hRf, hRl]; exact ⟨Nat.le_of_ble_eq_true rfl, Nat.le_of_ble_eq_true rfl⟩)) hK hP hD hS hA hN [] [0, 1, 2] [0, 1, 2] rfl rfl rfl rfl (by decide) rfl (fun u => rfl) rfl hl.1 rfl (Nat.le_of_ble_eq_true rfl) dX5_bounded_3 ⟨Nat.zero_le _, Nat.zero_le _⟩ (fun z u H locs hw hP hD hS => ?_)
  have hP : va_P D vwCl [(tm, .inr (5, [.ref tv, .ref tp])), (tv, .inl (cI, 19, .inl (ia se))), (tp, .inl (cI, 24, .inl (ia pl)))] H := hP
  have hD : va_D A [(tm, .inr (5, [.ref tv, .ref tp])), (tv, .inl (cI, 19, .inl (ia se))), (tp, .inl (cI, 24, .inl (ia pl)))] := hD
  obtain ⟨z_1, ez⟩ : ∃ y : Int, y = z := ⟨_, rfl⟩
  rw [← ez] at hw ⊢
  clear ez
  have w3 : z_1 = (ti % (24 : Int)) := hw
  clear hw
  subst w3
  refine lv_istore_n (lv' := [(3, .int (iI (ti % (24 : Int)))), (0, .ref tm), (1, .int (iI wa)), (2, .int (iI ti))]) hx hb dX5_bounded_6 rfl hl (by decide) rfl (fun ls hl => ?_)
  refine lv_aload_n hx hb dX5_bounded_7 rfl (lv_at hl 1 rfl) ?_
  refine va_get (D := D) (ci := 5) (v := .ref tp) (C := RX5) (T := TX5) (N := 2) hx hb hts in_X5_bounded_X5 hown hK hP 0 rfl rfl 1 (by decide) (hts _ lk_X5_bounded_1) (fun _ h9 => h9) rfl dX5_bounded_8 ?_
  refine lv_iload_n hx hb dX5_bounded_11 rfl (lv_at hl 0 rfl) ?_
  refine q_iald hx hb hK hP 2 0 rfl rfl (by omega) (by omega) (by decide) dX5_bounded_12 ?_
  have hb12 := hB_pl (ti % (24 : Int))
  refine lv_aload_n hx hb dX5_bounded_13 rfl (lv_at hl 1 rfl) ?_
  refine va_get (D := D) (ci := 5) (v := .ref tv) (C := RX5) (T := TX5) (N := 2) hx hb hts in_X5_bounded_X5 hown hK hP 0 rfl rfl 0 (by decide) (hts _ lk_X5_bounded_2) (fun _ h9 => h9) rfl dX5_bounded_14 ?_
  refine lv_bipush (v := iI 7) hx hb dX5_bounded_17 (by decide +kernel) ?_
  refine q_iald hx hb hK hP 1 0 rfl rfl (by omega) (by omega) (by decide) dX5_bounded_19 ?_
  have hb19 := hB_se 7
  refine va_mmax hx hb (hml.trans hl.1.symm) hown (hts _ lk_X5_bounded_3) (hts _ lk_X5_bounded_4) (hts _ lk_X5_bounded_5) (hts _ lk_X5_bounded_6) (by rw [hRf]; decide) (by rw [hRl]; exact Nat.le_of_ble_eq_true rfl) (Nat.zero_le _) (Nat.zero_le _) dX5_bounded_20 ?_
  refine q_bits (b := (max (pl (ti % (24 : Int))) (se 7))) (iI_max ⟨by omega, by omega⟩ ⟨by omega, by omega⟩) ?_
  refine lv_istore (lv' := [(4, .int (iI (max (pl (ti % (24 : Int))) (se 7)))), (3, .int (iI (ti % (24 : Int)))), (0, .ref tm), (1, .int (iI wa)), (2, .int (iI ti))]) hx hb dX5_bounded_23 hl (by decide) rfl (fun ls hl => ?_)
  refine lv_iload_n hx hb dX5_bounded_25 rfl (lv_at hl 3 rfl) ?_
  refine lv_iload hx hb dX5_bounded_26 (lv_at hl 0 rfl) ?_
  refine va_mmax hx hb (hml.trans hl.1.symm) hown (hts _ lk_X5_bounded_3) (hts _ lk_X5_bounded_4) (hts _ lk_X5_bounded_5) (hts _ lk_X5_bounded_6) (by rw [hRf]; decide) (by rw [hRl]; exact Nat.le_of_ble_eq_true rfl) (Nat.zero_le _) (Nat.zero_le _) dX5_bounded_28 ?_
  refine q_bits (b := (max wa (max (pl (ti % (24 : Int))) (se 7)))) (iI_max ⟨by omega, by omega⟩ ⟨by omega, by omega⟩) ?_
  refine lv_aload_n hx hb dX5_bounded_31 rfl (lv_at hl 2 rfl) ?_
  refine va_get (D := D) (ci := 5) (v := .ref tv) (C := RX5) (T := TX5) (N := 2) hx hb hts in_X5_bounded_X5 hown hK hP 0 rfl rfl 0 (by decide) (hts _ lk_X5_bounded_2) (fun _ h9 => h9) rfl dX5_bounded_32 ?_
  refine lv_bipush (v := iI 8) hx hb dX5_bounded_35 (by decide +kernel) ?_
  refine q_iald hx hb hK hP 1 0 rfl rfl (by omega) (by omega) (by decide) dX5_bounded_37 ?_
  have hb37 := hB_se 8
  refine va_mmin hx hb (hml.trans hl.1.symm) hown (hts _ lk_X5_bounded_7) (hts _ lk_X5_bounded_8) (hts _ lk_X5_bounded_5) (hts _ lk_X5_bounded_9) (by rw [hRf]; decide) (by rw [hRl]; exact Nat.le_of_ble_eq_true rfl) (Nat.zero_le _) (Nat.zero_le _) dX5_bounded_38 ?_
  refine q_bits (b := (min (max wa (max (pl (ti % (24 : Int))) (se 7))) (se 8))) (iI_min ⟨by omega, by omega⟩ ⟨by omega, by omega⟩) ?_
  rw [hQ]
  refine q_retI () hx hb hr hlocks hK hP hD hS dX5_bounded_41 ?_
  all_goals rfl

theorem in_X1_begin_X1 : ∀ w ∈ wsX10, w ∈ wsX1_begin := fun _ h => List.mem_cons_of_mem _ (List.mem_append_right _ h)
theorem lk_X1_begin_1 : Cond.fieldLink RX1 15 "MoreHands$Meter" "reading" "I" ∈ wsX1_begin := List.mem_of_getElem? (i := 1) rfl
set_option maxHeartbeats 4000000 in
set_option maxRecDepth 100000 in
theorem c_X1_begin (l : Launch) (D : va_G) (cI cZ cII : ClassId) (me : Nat) (mn : Nat) (rd : Int) (no : Int → Int) (hB_no : BB (-1) 12000 no) : CtV l yX1_begin wsX1_begin 0 0 D (ty3 cI cZ cII) [.ref me] [(me, .inr (1, [.ref mn, .int (iI rd)])), (mn, .inl (cI, 200, .inl (ia no)))] (fun (u : Int) => u = 0) (fun u => [(me, .inr (1, [.ref mn, .int (iI u)])), (mn, .inl (cI, 200, .inl (ia no)))]) := by
  refine CtV.mk (cc := cX1_begin) (maxL := 1) (ret := none) (by decide) rfl (Nat.le_of_ble_eq_true rfl) ?_
  intro p e s m below meth c A ls R args Q hx hb hml hr hts hown hlocks hA hK hP hD hN hS hl hRf hRl hQ
  have hl : lv_has ls 1 [(0, .ref me)] := hl
  have hown : s.vm.findClass RX1 = some m.cls := hown
  refine lv_aload_n hx hb dX1_begin_0 rfl (lv_at hl 0 rfl) ?_
  refine lv_iconst (v := iI 0) hx hb dX1_begin_1 rfl ?_
  refine va_put (D := D) (ci := 1) (v := .int (iI 0)) (ty := .int) (C := RX1) (T := TX1) (N := 2) hx hb hts in_X1_begin_X1 tyX1 tyX1_ok nmX1 hown hK hP hD hS 0 rfl rfl 1 (by decide) (hts _ lk_X1_begin_1) (fun _ h9 => h9) rfl (by decide +kernel) rfl rfl (Nat.le_of_ble_eq_true rfl) dX1_begin_2 (fun H locs hP hD hS => ?_)
  have hP : va_P D vwCl [(me, .inr (1, [.ref mn, .int (iI 0)])), (mn, .inl (cI, 200, .inl (ia no)))] H := hP
  have hD : va_D A [(me, .inr (1, [.ref mn, .int (iI 0)])), (mn, .inl (cI, 200, .inl (ia no)))] := hD
  rw [hQ]
  refine q_retV 0 hx hb hr hlocks hK hP hD hS dX1_begin_5 ?_
  try dsimp only
  all_goals rfl

theorem in_X1_note_X1 : ∀ w ∈ wsX10, w ∈ wsX1_note := fun _ h => List.mem_cons_of_mem _ (List.mem_append_right _ h)
theorem lk_X1_note_1 : Cond.fieldLink RX1 9 "MoreHands$Meter" "notes" "[I" ∈ wsX1_note := List.mem_of_getElem? (i := 1) rfl
theorem lk_X1_note_2 : Cond.static yX6_within ∈ wsX1_note := List.mem_of_getElem? (i := 2) rfl
theorem lk_X1_note_3 : Cond.initialized RX6 ∈ wsX1_note := List.mem_of_getElem? (i := 3) rfl
set_option maxHeartbeats 4000000 in
set_option maxRecDepth 100000 in
theorem c_X1_note (l : Launch) (D : va_G) (cI cZ cII : ClassId) (me : Nat) (mn : Nat) (rd : Int) (no : Int → Int) (t : Int) (w : Int) (hB_no : BB (-1) 12000 no) (hp_t : 0 ≤ t ∧ t ≤ 199) (hp_w : -1 ≤ w ∧ w ≤ 12000) : CtV l yX1_note wsX1_note 1 22 D (ty3 cI cZ cII) [.ref me, .int (iI t), .int (iI w)] [(me, .inr (1, [.ref mn, .int (iI rd)])), (mn, .inl (cI, 200, .inl (ia no)))] (fun (u : (Int → Int)) => u = uI no t w ∧ BB (-1) 12000 u) (fun u => [(me, .inr (1, [.ref mn, .int (iI rd)])), (mn, .inl (cI, 200, .inl (ia u)))]) := by
  refine CtV.mk (cc := cX1_note) (maxL := 3) (ret := none) (by decide) rfl (Nat.le_of_ble_eq_true rfl) ?_
  intro p e s m below meth c A ls R args Q hx hb hml hr hts hown hlocks hA hK hP hD hN hS hl hRf hRl hQ
  have hl : lv_has ls 3 [(0, .ref me), (1, .int (iI t)), (2, .int (iI w))] := hl
  have hown : s.vm.findClass RX1 = some m.cls := hown
  refine lv_iload_n hx hb dX1_note_0 rfl (lv_at hl 1 rfl) ?_
  refine lv_iconst (v := iI 0) hx hb dX1_note_1 rfl ?_
  refine lv_sipush (v := iI 199) hx hb dX1_note_2 (by decide +kernel) ?_
  refine q_callNI (wr := [(me, .inr (1, [.ref mn, .int (iI rd)])), (mn, .inl (cI, 200, .inl (ia no)))]) (wn := fun (u : Unit) => [(me, .inr (1, [.ref mn, .int (iI rd)])), (mn, .inl (cI, 200, .inl (ia no)))]) (rest := []) [.int (iI t), .int (iI 0), .int (iI 199)] ⟨hx, hb, hml, hown, hts⟩ (c_X6_within l D cI cZ cII t 0 199 ⟨by omega, by omega⟩ ⟨by omega, by omega⟩ ⟨by omega, by omega⟩) ⟨va_cnB 3 hts gX1_note_X6_within_n19 rfl rfl rfl hN.2.2.2.2.1 (hts _ lk_X1_note_3) (by decide +kernel) (by rw [hRf, hRl]; exact ⟨Nat.le_of_ble_eq_true rfl, Nat.le_of_ble_eq_true rfl⟩), (hts _ lk_X1_note_2), trivial⟩ hK hP hD hS hA hN [] [0, 1] [0, 1] rfl rfl rfl rfl (by decide) rfl (fun u => rfl) rfl hl.1 rfl (Nat.le_of_ble_eq_true rfl) dX1_note_5 ⟨Nat.zero_le _, Nat.zero_le _⟩ (fun z u H locs hw hP hD hS => ?_)
  have hP : va_P D vwCl [(me, .inr (1, [.ref mn, .int (iI rd)])), (mn, .inl (cI, 200, .inl (ia no)))] H := hP
  have hD : va_D A [(me, .inr (1, [.ref mn, .int (iI rd)])), (mn, .inl (cI, 200, .inl (ia no)))] := hD
  obtain ⟨z_1, ez⟩ : ∃ y : Int, y = z := ⟨_, rfl⟩
  rw [← ez] at hw ⊢
  clear ez
  rcases hw with ⟨rfl, w5⟩ | ⟨rfl, w5⟩
  ·
    refine q_if_eq (tgt := 18) hx hb dX1_note_8 (by decide) ⟨by decide, by decide⟩ (fun h => absurd h (by decide)) (fun _ => ?_)
    refine lv_aload_n hx hb dX1_note_11 rfl (lv_at hl 0 rfl) ?_
    refine va_get (D := D) (ci := 1) (v := .ref mn) (C := RX1) (T := TX1) (N := 2) hx hb hts in_X1_note_X1 hown hK hP 0 rfl rfl 0 (by decide) (hts _ lk_X1_note_1) (fun _ h9 => h9) rfl dX1_note_12 ?_
    refine lv_iload_n hx hb dX1_note_15 rfl (lv_at hl 1 rfl) ?_
    refine lv_iload_n hx hb dX1_note_16 rfl (lv_at hl 2 rfl) ?_
    refine q_iast hx hb hK hP hD hS 1 0 rfl rfl (by omega) (by omega) (by decide) dX1_note_17 (fun H locs hP hD hS => ?_)
    have hP : va_P D vwCl [(me, .inr (1, [.ref mn, .int (iI rd)])), (mn, .inl (cI, 200, .inl (ia (uI no t w))))] H := hP
    have hD : va_D A [(me, .inr (1, [.ref mn, .int (iI rd)])), (mn, .inl (cI, 200, .inl (ia (uI no t w))))] := hD
    have hB_2 : BB (-1) 12000 (uI no t w) := BB_uI hB_no (by omega)
    rw [hQ]
    refine q_retV (uI no t w) hx hb hr hlocks hK hP hD hS dX1_note_18 ?_
    try dsimp only
    first | exact ⟨rfl, BB_uI hB_no (by omega)⟩ | omega
  ·
    refine q_if_eq (tgt := 18) hx hb dX1_note_8 (by decide) ⟨by decide, by decide⟩ (fun _ => ?_) (fun h => absurd h (by decide))
    rw [hQ]
    refine q_retV no hx hb hr hlocks hK hP hD hS dX1_note_18 ?_
    try dsimp only
    first | exact ⟨rfl, BB_uI hB_no (by omega)⟩ | omega

theorem in_X1_read_X1 : ∀ w ∈ wsX10, w ∈ wsX1_read := fun _ h => List.mem_cons_of_mem _ (List.mem_append_right _ h)
theorem lk_X1_read_1 : Cond.methodLink RX1 23 Lib.Math.max.name ∈ wsX1_read := List.mem_of_getElem? (i := 1) rfl
theorem lk_X1_read_2 : Cond.static Lib.Math.max.name ∈ wsX1_read := List.mem_of_getElem? (i := 2) rfl
theorem lk_X1_read_3 : Cond.initialized "java/lang/Math" ∈ wsX1_read := List.mem_of_getElem? (i := 3) rfl
theorem lk_X1_read_4 : Cond.code Lib.Math.max.name Lib.Math.max.code 2 (some .int) ∈ wsX1_read := List.mem_of_getElem? (i := 4) rfl
theorem lk_X1_read_5 : Cond.fieldLink RX1 9 "MoreHands$Meter" "notes" "[I" ∈ wsX1_read := List.mem_of_getElem? (i := 5) rfl
theorem lk_X1_read_6 : Cond.fieldLink RX1 15 "MoreHands$Meter" "reading" "I" ∈ wsX1_read := List.mem_of_getElem? (i := 6) rfl
set_option maxHeartbeats 4000000 in
set_option maxRecDepth 100000 in
theorem c_X1_read (l : Launch) (D : va_G) (cI cZ cII : ClassId) (me : Nat) (mn : Nat) (rd : Int) (no : Int → Int) (la : Int) (mn0 : Int) (hB_no : BB (-1) 12000 no) (hp_la : -5 ≤ la ∧ la ≤ 199) (hp_mn0 : 1 ≤ mn0 ∧ mn0 ≤ 5) (hrd : 0 ≤ rd ∧ rd ≤ 12000) : CtV l yX1_read wsX1_read 1 21 D (ty3 cI cZ cII) [.ref me, .int (iI la), .int (iI mn0)] [(me, .inr (1, [.ref mn, .int (iI rd)])), (mn, .inl (cI, 200, .inl (ia no)))] (fun (u : Int) => u = rdF no la mn0 rd ∧ 0 ≤ u ∧ u ≤ 12000) (fun u => [(me, .inr (1, [.ref mn, .int (iI u)])), (mn, .inl (cI, 200, .inl (ia no)))]) := by
  refine CtV.mk (cc := cX1_read) (maxL := 6) (ret := none) (by decide) rfl (Nat.le_of_ble_eq_true rfl) ?_
  intro p e s m below meth c A ls R args Q hx hb hml hr hts hown hlocks hA hK hP hD hN hS hl hRf hRl hQ
  have hl : lv_has ls 6 [(0, .ref me), (1, .int (iI la)), (2, .int (iI mn0))] := hl
  have hown : s.vm.findClass RX1 = some m.cls := hown
  refine lv_iconst (v := iI 0) hx hb dX1_read_0 rfl ?_
  refine lv_istore_n (lv' := [(3, .int (iI 0)), (0, .ref me), (1, .int (iI la)), (2, .int (iI mn0))]) hx hb dX1_read_1 rfl hl (by decide) rfl (fun ls hl => ?_)
  refine lv_iconst (v := iI 0) hx hb dX1_read_2 rfl ?_
  refine lv_istore (lv' := [(4, .int (iI 0)), (3, .int (iI 0)), (0, .ref me), (1, .int (iI la)), (2, .int (iI mn0))]) hx hb dX1_read_3 hl (by decide) rfl (fun ls hl => ?_)
  refine lv_iload_n hx hb dX1_read_5 rfl (lv_at hl 3 rfl) ?_
  refine lv_iload_n hx hb dX1_read_6 rfl (lv_at hl 4 rfl) ?_
  refine q_isub hx hb dX1_read_7 ?_
  refine lv_iconst (v := iI 1) hx hb dX1_read_8 rfl ?_
  refine q_iadd hx hb dX1_read_9 ?_
  refine lv_iconst (v := iI 0) hx hb dX1_read_10 rfl ?_
  refine va_mmax hx hb (hml.trans hl.1.symm) hown (hts _ lk_X1_read_1) (hts _ lk_X1_read_2) (hts _ lk_X1_read_3) (hts _ lk_X1_read_4) (by rw [hRf]; decide) (by rw [hRl]; exact Nat.le_of_ble_eq_true rfl) (Nat.zero_le _) (Nat.zero_le _) dX1_read_11 ?_
  refine q_bits (b := (max ((la - mn0) + 1) 0)) (iI_max ⟨by omega, by omega⟩ ⟨by decide, by decide⟩) ?_
  refine lv_istore (lv' := [(5, .int (iI (max ((la - mn0) + 1) 0))), (4, .int (iI 0)), (3, .int (iI 0)), (0, .ref me), (1, .int (iI la)), (2, .int (iI mn0))]) hx hb dX1_read_14 hl (by decide) rfl (fun ls hl => ?_)
  have L16_0 : ∀ (n : Nat), ∀ (su : Int) (fo : Int) (t : Int), (hk : max (la - mn0 + 1) 0 ≤ t ∧ (t ≤ max (la + 1) 0 ∧ t ≤ 200)) → (hs : su = sI (rdS no) t - sI (rdS no) (la - mn0 + 1)) → (hf : fo = sI (rdN no) t - sI (rdN no) (la - mn0 + 1)) → (hbn : 0 ≤ su ∧ 0 ≤ fo ∧ fo ≤ t ∧ su ≤ 12000 * fo) → (200 - t) < (n : Int) → ∀ (H : Heap) (locs : List Loc), va_P D vwCl [(me, .inr (1, [.ref mn, .int (iI rd)])), (mn, .inl (cI, 200, .inl (ia no)))] H → va_D A [(me, .inr (1, [.ref mn, .int (iI rd)])), (mn, .inl (cI, 200, .inl (ia no)))] → va_S A s.heap H locs → ∀ ls : Array Slot, lv_has ls 6 [(0, .ref me), (1, .int (iI la)), (2, .int (iI mn0)), (3, .int (iI su)), (4, .int (iI fo)), (5, .int (iI t))] → W p l e R s m args below meth c H locs 0 0 Q (F0 m 16 ls []) := by
    intro n
    induction n with
    | zero => intro su fo t hk hs hf hbn hm; exact absurd hm (by omega)
    | succ n ih =>
      intro su fo t hk hs hf hbn hm H locs hP hD hS ls hl
      refine lv_iload hx hb dX1_read_16 (lv_at hl 5 rfl) ?_
      refine lv_iload_n hx hb dX1_read_18 rfl (lv_at hl 1 rfl) ?_
      refine q_icmp_gt (tgt := 60) hx hb dX1_read_19 (by decide) ⟨by omega, by omega⟩ ⟨by omega, by omega⟩ (fun c19 => ?_) (fun c19 => ?_)
      ·
        have et : sI (rdS no) t = sI (rdS no) (la + 1) ∧ sI (rdN no) t = sI (rdN no) (la + 1) := by
          rcases (show t = la + 1 ∨ (t = 0 ∧ la + 1 ≤ 0) by omega) with q | q
          · rw [q]; exact ⟨rfl, rfl⟩
          · rw [q.1, sI_neg _ q.2, sI_neg _ q.2]; exact ⟨rfl, rfl⟩
        refine lv_iload hx hb dX1_read_60 (lv_at hl 4 rfl) ?_
        refine q_if_le (tgt := 73) hx hb dX1_read_62 (by decide) ⟨by omega, by omega⟩ (fun c62 => ?_) (fun c62 => ?_)
        ·
          rw [hQ]
          refine q_retV rd hx hb hr hlocks hK hP hD hS dX1_read_73 ?_
          try dsimp only
          unfold rdF rdNum rdSum
          rw [← et.1, ← et.2, ← hs, ← hf]
          first | (rw [if_pos (by omega)]; exact ⟨rfl, rd_div (by omega) (by omega) (by omega)⟩) | (rw [if_neg (by omega)]; exact ⟨rfl, hrd⟩)
        ·
          refine lv_aload_n hx hb dX1_read_65 rfl (lv_at hl 0 rfl) ?_
          refine lv_iload_n hx hb dX1_read_66 rfl (lv_at hl 3 rfl) ?_
          refine lv_iload hx hb dX1_read_67 (lv_at hl 4 rfl) ?_
          refine q_idiv hx hb dX1_read_69 ⟨by omega, by omega⟩ ⟨by omega, by omega⟩ ?_
          refine va_put (D := D) (ci := 1) (v := .int (iI (su / fo))) (ty := .int) (C := RX1) (T := TX1) (N := 2) hx hb hts in_X1_read_X1 tyX1 tyX1_ok nmX1 hown hK hP hD hS 0 rfl rfl 1 (by decide) (hts _ lk_X1_read_6) (fun _ h9 => h9) rfl (by decide +kernel) rfl rfl (Nat.le_of_ble_eq_true rfl) dX1_read_70 (fun H locs hP hD hS => ?_)
          have hP : va_P D vwCl [(me, .inr (1, [.ref mn, .int (iI (su / fo))])), (mn, .inl (cI, 200, .inl (ia no)))] H := hP
          have hD : va_D A [(me, .inr (1, [.ref mn, .int (iI (su / fo))])), (mn, .inl (cI, 200, .inl (ia no)))] := hD
          rw [hQ]
          refine q_retV (su / fo) hx hb hr hlocks hK hP hD hS dX1_read_73 ?_
          try dsimp only
          unfold rdF rdNum rdSum
          rw [← et.1, ← et.2, ← hs, ← hf]
          first | (rw [if_pos (by omega)]; exact ⟨rfl, rd_div (by omega) (by omega) (by omega)⟩) | (rw [if_neg (by omega)]; exact ⟨rfl, hrd⟩)
      ·
        refine lv_iload hx hb dX1_read_22 (lv_at hl 5 rfl) ?_
        refine lv_sipush (v := iI 200) hx hb dX1_read_24 (by decide +kernel) ?_
        refine q_icmp_ge (tgt := 60) hx hb dX1_read_27 (by decide) ⟨by omega, by omega⟩ ⟨by decide, by decide⟩ (fun c27 => ?_) (fun c27 => ?_)
        ·
          have et : sI (rdS no) t = sI (rdS no) (la + 1) ∧ sI (rdN no) t = sI (rdN no) (la + 1) := by
            rcases (show t = la + 1 ∨ (t = 0 ∧ la + 1 ≤ 0) by omega) with q | q
            · rw [q]; exact ⟨rfl, rfl⟩
            · rw [q.1, sI_neg _ q.2, sI_neg _ q.2]; exact ⟨rfl, rfl⟩
          refine lv_iload hx hb dX1_read_60 (lv_at hl 4 rfl) ?_
          refine q_if_le (tgt := 73) hx hb dX1_read_62 (by decide) ⟨by omega, by omega⟩ (fun c62 => ?_) (fun c62 => ?_)
          ·
            rw [hQ]
            refine q_retV rd hx hb hr hlocks hK hP hD hS dX1_read_73 ?_
            try dsimp only
            unfold rdF rdNum rdSum
            rw [← et.1, ← et.2, ← hs, ← hf]
            first | (rw [if_pos (by omega)]; exact ⟨rfl, rd_div (by omega) (by omega) (by omega)⟩) | (rw [if_neg (by omega)]; exact ⟨rfl, hrd⟩)
          ·
            refine lv_aload_n hx hb dX1_read_65 rfl (lv_at hl 0 rfl) ?_
            refine lv_iload_n hx hb dX1_read_66 rfl (lv_at hl 3 rfl) ?_
            refine lv_iload hx hb dX1_read_67 (lv_at hl 4 rfl) ?_
            refine q_idiv hx hb dX1_read_69 ⟨by omega, by omega⟩ ⟨by omega, by omega⟩ ?_
            refine va_put (D := D) (ci := 1) (v := .int (iI (su / fo))) (ty := .int) (C := RX1) (T := TX1) (N := 2) hx hb hts in_X1_read_X1 tyX1 tyX1_ok nmX1 hown hK hP hD hS 0 rfl rfl 1 (by decide) (hts _ lk_X1_read_6) (fun _ h9 => h9) rfl (by decide +kernel) rfl rfl (Nat.le_of_ble_eq_true rfl) dX1_read_70 (fun H locs hP hD hS => ?_)
            have hP : va_P D vwCl [(me, .inr (1, [.ref mn, .int (iI (su / fo))])), (mn, .inl (cI, 200, .inl (ia no)))] H := hP
            have hD : va_D A [(me, .inr (1, [.ref mn, .int (iI (su / fo))])), (mn, .inl (cI, 200, .inl (ia no)))] := hD
            rw [hQ]
            refine q_retV (su / fo) hx hb hr hlocks hK hP hD hS dX1_read_73 ?_
            try dsimp only
            unfold rdF rdNum rdSum
            rw [← et.1, ← et.2, ← hs, ← hf]
            first | (rw [if_pos (by omega)]; exact ⟨rfl, rd_div (by omega) (by omega) (by omega)⟩) | (rw [if_neg (by omega)]; exact ⟨rfl, hrd⟩)
        ·
          refine lv_aload_n hx hb dX1_read_30 rfl (lv_at hl 0 rfl) ?_
          refine va_get (D := D) (ci := 1) (v := .ref mn) (C := RX1) (T := TX1) (N := 2) hx hb hts in_X1_read_X1 hown hK hP 0 rfl rfl 0 (by decide) (hts _ lk_X1_read_5) (fun _ h9 => h9) rfl dX1_read_31 ?_
          refine lv_iload hx hb dX1_read_34 (lv_at hl 5 rfl) ?_
          refine q_iald hx hb hK hP 1 0 rfl rfl (by omega) (by omega) (by decide) dX1_read_36 ?_
          have hb36 := hB_no t
          refine lv_iconst (v := iI (-1)) hx hb dX1_read_37 rfl ?_
          refine q_icmp_eq (tgt := 54) hx hb dX1_read_38 (by decide) ⟨by omega, by omega⟩ ⟨by decide, by decide⟩ (fun c38 => ?_) (fun c38 => ?_)
          ·
            refine q_iinc (k := 5) (lv' := [(5, .int (iI (t + 1))), (0, .ref me), (1, .int (iI la)), (2, .int (iI mn0)), (3, .int (iI su)), (4, .int (iI fo))]) hx hb dX1_read_54 hl rfl (by decide) rfl (fun ls hl => ?_)
            refine lv_goto (tgt := 16) hx hb dX1_read_57 (by decide) ?_
            exact ih  su fo (t + 1) (by omega) (by rw [sI_s _ (by omega)]; unfold rdS at hs ⊢; split <;> omega) (by rw [sI_s _ (by omega)]; unfold rdN at hf ⊢; split <;> omega) (by omega) (by omega) _ _ hP hD hS _ (lv_sub hl [1, 2, 3, 4, 5, 0] rfl)
          ·
            refine lv_iload_n hx hb dX1_read_41 rfl (lv_at hl 3 rfl) ?_
            refine lv_aload_n hx hb dX1_read_42 rfl (lv_at hl 0 rfl) ?_
            refine va_get (D := D) (ci := 1) (v := .ref mn) (C := RX1) (T := TX1) (N := 2) hx hb hts in_X1_read_X1 hown hK hP 0 rfl rfl 0 (by decide) (hts _ lk_X1_read_5) (fun _ h9 => h9) rfl dX1_read_43 ?_
            refine lv_iload hx hb dX1_read_46 (lv_at hl 5 rfl) ?_
            refine q_iald hx hb hK hP 1 0 rfl rfl (by omega) (by omega) (by decide) dX1_read_48 ?_
            have hb48 := hB_no t
            refine q_iadd hx hb dX1_read_49 ?_
            refine lv_istore_n (lv' := [(3, .int (iI (su + (no t)))), (0, .ref me), (1, .int (iI la)), (2, .int (iI mn0)), (4, .int (iI fo)), (5, .int (iI t))]) hx hb dX1_read_50 rfl hl (by decide) rfl (fun ls hl => ?_)
            refine q_iinc (k := 4) (lv' := [(4, .int (iI (fo + 1))), (3, .int (iI (su + (no t)))), (0, .ref me), (1, .int (iI la)), (2, .int (iI mn0)), (5, .int (iI t))]) hx hb dX1_read_51 hl rfl (by decide) rfl (fun ls hl => ?_)
            refine q_iinc (k := 5) (lv' := [(5, .int (iI (t + 1))), (4, .int (iI (fo + 1))), (3, .int (iI (su + (no t)))), (0, .ref me), (1, .int (iI la)), (2, .int (iI mn0))]) hx hb dX1_read_54 hl rfl (by decide) rfl (fun ls hl => ?_)
            refine lv_goto (tgt := 16) hx hb dX1_read_57 (by decide) ?_
            exact ih  (su + (no t)) (fo + 1) (t + 1) (by omega) (by rw [sI_s _ (by omega)]; unfold rdS at hs ⊢; split <;> omega) (by rw [sI_s _ (by omega)]; unfold rdN at hf ⊢; split <;> omega) (by omega) (by omega) _ _ hP hD hS _ (lv_sub hl [3, 4, 5, 2, 1, 0] rfl)
  exact L16_0 1000 0 0 (max ((la - mn0) + 1) 0) (by omega) (by rw [sI_max]; omega) (by rw [sI_max]; omega) (by omega) (by omega) _ _ hP hD hS _ (lv_sub hl [3, 4, 5, 2, 1, 0] rfl)

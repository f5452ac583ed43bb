theorem in_X4_loadOf_X4 : ∀ w ∈ wsX40, w ∈ wsX4_loadOf := fun _ h => List.mem_cons_of_mem _ (List.mem_append_right _ h)
theorem lk_X4_loadOf_1 : Cond.fieldLink RX4 15 "MoreHands$Service" "loads" "[I" ∈ wsX4_loadOf := List.mem_of_getElem? (i := 1) rfl
theorem lk_X4_loadOf_2 : Cond.static yX6_within ∈ wsX4_loadOf := List.mem_of_getElem? (i := 2) rfl
theorem lk_X4_loadOf_3 : Cond.initialized RX6 ∈ wsX4_loadOf := List.mem_of_getElem? (i := 3) rfl
set_option maxHeartbeats 4000000 in
set_option maxRecDepth 100000 in
theorem c_X4_loadOf (l : Launch) (D : va_G) (cI cZ cII : ClassId) (sc : Nat) (so : Nat) (tm : Nat) (sm : Nat) (sv : Nat) (qu : Nat) (me : Nat) (pa : Nat) (ti : Int) (wa : Int) (lc : Int) (ca : Int) (dn : Int) (lo : Int) (bi : Int) (ld : Int → Int) (t : Int) (hB_ld : BB 0 60 ld) (hp_t : IR t) : CtI l yX4_loadOf wsX4_loadOf 1 22 D (ty3 cI cZ cII) [.ref sc, .int (iI t)] [(sc, .inr (4, [.ref tm, .ref so, .ref sm, .ref sv, .ref qu, .ref me, .ref pa, .int (iI ti), .int (iI wa), .int (iI lc), .int (iI ca), .int (iI dn), .int (iI lo), .int (iI bi)])), (so, .inl (cI, 200, .inl (ia ld)))] (fun z (u : Unit) => z = (if 0 ≤ t ∧ t ≤ 199 then ld t else 0)) (fun u => [(sc, .inr (4, [.ref tm, .ref so, .ref sm, .ref sv, .ref qu, .ref me, .ref pa, .int (iI ti), .int (iI wa), .int (iI lc), .int (iI ca), .int (iI dn), .int (iI lo), .int (iI bi)])), (so, .inl (cI, 200, .inl (ia ld)))]) := by
  refine CtI.mk (cc := cX4_loadOf) (maxL := 2) (ret := (some .int)) (by decide) rfl (Nat.le_of_ble_eq_true rfl) ?_
  intro p e s m below meth c A ls R args Q hx hb hml hr hts hown hlocks hA hK hP hD hN hS hl hRf hRl hQ
  have hl : lv_has ls 2 [(0, .ref sc), (1, .int (iI t))] := hl
  have hown : s.vm.findClass RX4 = some m.cls := hown
  refine lv_iload_n hx hb dX4_loadOf_0 rfl (lv_at hl 1 rfl) ?_
  refine lv_iconst (v := iI 0) hx hb dX4_loadOf_1 rfl ?_
  refine lv_sipush (v := iI 199) hx hb dX4_loadOf_2 (by decide +kernel) ?_
  refine q_callNI (wr := [(sc, .inr (4, [.ref tm, .ref so, .ref sm, .ref sv, .ref qu, .ref me, .ref pa, .int (iI ti), .int (iI wa), .int (iI lc), .int (iI ca), .int (iI dn), .int (iI lo), .int (iI bi)])), (so, .inl (cI, 200, .inl (ia ld)))]) (wn := fun (u : Unit) => [(sc, .inr (4, [.ref tm, .ref so, .ref sm, .ref sv, .ref qu, .ref me, .ref pa, .int (iI ti), .int (iI wa), .int (iI lc), .int (iI ca), .int (iI dn), .int (iI lo), .int (iI bi)])), (so, .inl (cI, 200, .inl (ia ld)))]) (rest := []) [.int (iI t), .int (iI 0), .int (iI 199)] ⟨hx, hb, hml, hown, hts⟩ (c_X6_within l D cI cZ cII t 0 199 ⟨by omega, by omega⟩ ⟨by omega, by omega⟩ ⟨by omega, by omega⟩) ⟨va_cnB 3 hts gX4_loadOf_X6_within_n77 rfl rfl rfl hN.2.1 (hts _ lk_X4_loadOf_3) (by decide +kernel) (by rw [hRf, hRl]; exact ⟨Nat.le_of_ble_eq_true rfl, Nat.le_of_ble_eq_true rfl⟩), (hts _ lk_X4_loadOf_2), trivial⟩ hK hP hD hS hA hN [] [0, 1] [0, 1] rfl rfl rfl rfl (by decide) rfl (fun u => rfl) rfl hl.1 rfl (Nat.le_of_ble_eq_true rfl) dX4_loadOf_5 ⟨Nat.zero_le _, Nat.zero_le _⟩ (fun z u H locs hw hP hD hS => ?_)
  have hP : va_P D vwCl [(sc, .inr (4, [.ref tm, .ref so, .ref sm, .ref sv, .ref qu, .ref me, .ref pa, .int (iI ti), .int (iI wa), .int (iI lc), .int (iI ca), .int (iI dn), .int (iI lo), .int (iI bi)])), (so, .inl (cI, 200, .inl (ia ld)))] H := hP
  have hD : va_D A [(sc, .inr (4, [.ref tm, .ref so, .ref sm, .ref sv, .ref qu, .ref me, .ref pa, .int (iI ti), .int (iI wa), .int (iI lc), .int (iI ca), .int (iI dn), .int (iI lo), .int (iI bi)])), (so, .inl (cI, 200, .inl (ia ld)))] := hD
  obtain ⟨z_1, ez⟩ : ∃ y : Int, y = z := ⟨_, rfl⟩
  rw [← ez] at hw ⊢
  clear ez
  rcases hw with ⟨rfl, w5⟩ | ⟨rfl, w5⟩
  ·
    refine q_if_eq (tgt := 20) hx hb dX4_loadOf_8 (by decide) ⟨by decide, by decide⟩ (fun h => absurd h (by decide)) (fun _ => ?_)
    refine lv_aload_n hx hb dX4_loadOf_11 rfl (lv_at hl 0 rfl) ?_
    refine va_get (D := D) (ci := 4) (v := .ref so) (C := RX4) (T := TX4) (N := 14) hx hb hts in_X4_loadOf_X4 hown hK hP 0 rfl rfl 1 (by decide) (hts _ lk_X4_loadOf_1) (fun _ h9 => h9) rfl dX4_loadOf_12 ?_
    refine lv_iload_n hx hb dX4_loadOf_15 rfl (lv_at hl 1 rfl) ?_
    refine q_iald hx hb hK hP 1 0 rfl rfl (by omega) (by omega) (by decide) dX4_loadOf_16 ?_
    have hb16 := hB_ld t
    refine lv_goto (tgt := 21) hx hb dX4_loadOf_17 (by decide) ?_
    rw [hQ]
    refine q_retI () hx hb hr hlocks hK hP hD hS dX4_loadOf_21 ?_
    first | rw [if_pos w5] | rw [if_neg w5]
  ·
    refine q_if_eq (tgt := 20) hx hb dX4_loadOf_8 (by decide) ⟨by decide, by decide⟩ (fun _ => ?_) (fun h => absurd h (by decide))
    refine lv_iconst (v := iI 0) hx hb dX4_loadOf_20 rfl ?_
    rw [hQ]
    refine q_retI () hx hb hr hlocks hK hP hD hS dX4_loadOf_21 ?_
    first | rw [if_pos w5] | rw [if_neg w5]

theorem in_X4_changeLoad_X4 : ∀ w ∈ wsX40, w ∈ wsX4_changeLoad := fun _ h => List.mem_cons_of_mem _ (List.mem_append_right _ h)
theorem lk_X4_changeLoad_1 : Cond.fieldLink RX4 15 "MoreHands$Service" "loads" "[I" ∈ wsX4_changeLoad := List.mem_of_getElem? (i := 1) rfl
theorem lk_X4_changeLoad_2 : Cond.static yX6_within ∈ wsX4_changeLoad := List.mem_of_getElem? (i := 2) rfl
theorem lk_X4_changeLoad_3 : Cond.initialized RX6 ∈ wsX4_changeLoad := List.mem_of_getElem? (i := 3) rfl
set_option maxHeartbeats 4000000 in
set_option maxRecDepth 100000 in
theorem c_X4_changeLoad (l : Launch) (D : va_G) (cI cZ cII : ClassId) (sc : Nat) (so : Nat) (tm : Nat) (sm : Nat) (sv : Nat) (qu : Nat) (me : Nat) (pa : Nat) (ti : Int) (wa : Int) (lc : Int) (ca : Int) (dn : Int) (lo : Int) (bi : Int) (ld : Int → Int) (t : Int) (v : Int) (hB_ld : BB 0 60 ld) (hp_t : IR t) (hp_v : 0 ≤ v ∧ v ≤ 60) : CtI l yX4_changeLoad wsX4_changeLoad 1 22 D (ty3 cI cZ cII) [.ref sc, .int (iI t), .int (iI v)] [(sc, .inr (4, [.ref tm, .ref so, .ref sm, .ref sv, .ref qu, .ref me, .ref pa, .int (iI ti), .int (iI wa), .int (iI lc), .int (iI ca), .int (iI dn), .int (iI lo), .int (iI bi)])), (so, .inl (cI, 200, .inl (ia ld)))] (fun z (u : (Int → Int)) => z = (if 0 ≤ t ∧ t ≤ 199 then ld t else -1002) ∧ u = (if 0 ≤ t ∧ t ≤ 199 then uI ld t v else ld) ∧ BB 0 60 u) (fun u => [(sc, .inr (4, [.ref tm, .ref so, .ref sm, .ref sv, .ref qu, .ref me, .ref pa, .int (iI ti), .int (iI wa), .int (iI lc), .int (iI ca), .int (iI dn), .int (iI lo), .int (iI bi)])), (so, .inl (cI, 200, .inl (ia u)))]) := by
  refine CtI.mk (cc := cX4_changeLoad) (maxL := 4) (ret := (some .int)) (by decide) rfl (Nat.le_of_ble_eq_true rfl) ?_
  intro p e s m below meth c A ls R args Q hx hb hml hr hts hown hlocks hA hK hP hD hN hS hl hRf hRl hQ
  have hl : lv_has ls 4 [(0, .ref sc), (1, .int (iI t)), (2, .int (iI v))] := hl
  have hown : s.vm.findClass RX4 = some m.cls := hown
  refine lv_iload_n hx hb dX4_changeLoad_0 rfl (lv_at hl 1 rfl) ?_
  refine lv_iconst (v := iI 0) hx hb dX4_changeLoad_1 rfl ?_
  refine lv_sipush (v := iI 199) hx hb dX4_changeLoad_2 (by decide +kernel) ?_
  refine q_callNI (wr := [(sc, .inr (4, [.ref tm, .ref so, .ref sm, .ref sv, .ref qu, .ref me, .ref pa, .int (iI ti), .int (iI wa), .int (iI lc), .int (iI ca), .int (iI dn), .int (iI lo), .int (iI bi)])), (so, .inl (cI, 200, .inl (ia ld)))]) (wn := fun (u : Unit) => [(sc, .inr (4, [.ref tm, .ref so, .ref sm, .ref sv, .ref qu, .ref me, .ref pa, .int (iI ti), .int (iI wa), .int (iI lc), .int (iI ca), .int (iI dn), .int (iI lo), .int (iI bi)])), (so, .inl (cI, 200, .inl (ia ld)))]) (rest := []) [.int (iI t), .int (iI 0), .int (iI 199)] ⟨hx, hb, hml, hown, hts⟩ (c_X6_within l D cI cZ cII t 0 199 ⟨by omega, by omega⟩ ⟨by omega, by omega⟩ ⟨by omega, by omega⟩) ⟨va_cnB 3 hts gX4_changeLoad_X6_within_n77 rfl rfl rfl hN.2.1 (hts _ lk_X4_changeLoad_3) (by decide +kernel) (by rw [hRf, hRl]; exact ⟨Nat.le_of_ble_eq_true rfl, Nat.le_of_ble_eq_true rfl⟩), (hts _ lk_X4_changeLoad_2), trivial⟩ hK hP hD hS hA hN [] [0, 1] [0, 1] rfl rfl rfl rfl (by decide) rfl (fun u => rfl) rfl hl.1 rfl (Nat.le_of_ble_eq_true rfl) dX4_changeLoad_5 ⟨Nat.zero_le _, Nat.zero_le _⟩ (fun z u H locs hw hP hD hS => ?_)
  have hP : va_P D vwCl [(sc, .inr (4, [.ref tm, .ref so, .ref sm, .ref sv, .ref qu, .ref me, .ref pa, .int (iI ti), .int (iI wa), .int (iI lc), .int (iI ca), .int (iI dn), .int (iI lo), .int (iI bi)])), (so, .inl (cI, 200, .inl (ia ld)))] H := hP
  have hD : va_D A [(sc, .inr (4, [.ref tm, .ref so, .ref sm, .ref sv, .ref qu, .ref me, .ref pa, .int (iI ti), .int (iI wa), .int (iI lc), .int (iI ca), .int (iI dn), .int (iI lo), .int (iI bi)])), (so, .inl (cI, 200, .inl (ia ld)))] := hD
  obtain ⟨z_1, ez⟩ : ∃ y : Int, y = z := ⟨_, rfl⟩
  rw [← ez] at hw ⊢
  clear ez
  rcases hw with ⟨rfl, w5⟩ | ⟨rfl, w5⟩
  ·
    refine q_if_ne (tgt := 15) hx hb dX4_changeLoad_8 (by decide) ⟨by decide, by decide⟩ (fun _ => ?_) (fun h => absurd h (by decide))
    refine lv_aload_n hx hb dX4_changeLoad_15 rfl (lv_at hl 0 rfl) ?_
    refine va_get (D := D) (ci := 4) (v := .ref so) (C := RX4) (T := TX4) (N := 14) hx hb hts in_X4_changeLoad_X4 hown hK hP 0 rfl rfl 1 (by decide) (hts _ lk_X4_changeLoad_1) (fun _ h9 => h9) rfl dX4_changeLoad_16 ?_
    refine lv_iload_n hx hb dX4_changeLoad_19 rfl (lv_at hl 1 rfl) ?_
    refine q_iald hx hb hK hP 1 0 rfl rfl (by omega) (by omega) (by decide) dX4_changeLoad_20 ?_
    have hb20 := hB_ld t
    refine lv_istore_n (lv' := [(3, .int (iI (ld t))), (0, .ref sc), (1, .int (iI t)), (2, .int (iI v))]) hx hb dX4_changeLoad_21 rfl hl (by decide) rfl (fun ls hl => ?_)
    refine lv_aload_n hx hb dX4_changeLoad_22 rfl (lv_at hl 1 rfl) ?_
    refine va_get (D := D) (ci := 4) (v := .ref so) (C := RX4) (T := TX4) (N := 14) hx hb hts in_X4_changeLoad_X4 hown hK hP 0 rfl rfl 1 (by decide) (hts _ lk_X4_changeLoad_1) (fun _ h9 => h9) rfl dX4_changeLoad_23 ?_
    refine lv_iload_n hx hb dX4_changeLoad_26 rfl (lv_at hl 2 rfl) ?_
    refine lv_iload_n hx hb dX4_changeLoad_27 rfl (lv_at hl 3 rfl) ?_
    refine q_iast hx hb hK hP hD hS 1 0 rfl rfl (by omega) (by omega) (by decide) dX4_changeLoad_28 (fun H locs hP hD hS => ?_)
    have hP : va_P D vwCl [(sc, .inr (4, [.ref tm, .ref so, .ref sm, .ref sv, .ref qu, .ref me, .ref pa, .int (iI ti), .int (iI wa), .int (iI lc), .int (iI ca), .int (iI dn), .int (iI lo), .int (iI bi)])), (so, .inl (cI, 200, .inl (ia (uI ld t v))))] H := hP
    have hD : va_D A [(sc, .inr (4, [.ref tm, .ref so, .ref sm, .ref sv, .ref qu, .ref me, .ref pa, .int (iI ti), .int (iI wa), .int (iI lc), .int (iI ca), .int (iI dn), .int (iI lo), .int (iI bi)])), (so, .inl (cI, 200, .inl (ia (uI ld t v))))] := hD
    have hB_2 : BB 0 60 (uI ld t v) := BB_uI hB_ld (by omega)
    refine lv_iload_n hx hb dX4_changeLoad_29 rfl (lv_at hl 0 rfl) ?_
    rw [hQ]
    refine q_retI (uI ld t v) hx hb hr hlocks hK hP hD hS dX4_changeLoad_30 ?_
    try dsimp only
    first | exact ⟨by rw [if_pos w5], by rw [if_pos w5], BB_uI hB_ld (by omega)⟩ | exact ⟨by rw [if_neg w5], by rw [if_neg w5], hB_ld⟩
  ·
    refine q_if_ne (tgt := 15) hx hb dX4_changeLoad_8 (by decide) ⟨by decide, by decide⟩ (fun h => absurd h (by decide)) (fun _ => ?_)
    refine lv_sipush (v := iI (-1002)) hx hb dX4_changeLoad_11 (by decide +kernel) ?_
    rw [hQ]
    refine q_retI ld hx hb hr hlocks hK hP hD hS dX4_changeLoad_14 ?_
    try dsimp only
    first | exact ⟨by rw [if_pos w5], by rw [if_pos w5], BB_uI hB_ld (by omega)⟩ | exact ⟨by rw [if_neg w5], by rw [if_neg w5], hB_ld⟩

theorem in_X4_changeMeter_X4 : ∀ w ∈ wsX40, w ∈ wsX4_changeMeter := fun _ h => List.mem_cons_of_mem _ (List.mem_append_right _ h)
theorem lk_X4_changeMeter_1 : Cond.fieldLink RX4 19 "MoreHands$Service" "meterLost" "[Z" ∈ wsX4_changeMeter := List.mem_of_getElem? (i := 1) rfl
theorem lk_X4_changeMeter_2 : Cond.static yX6_within ∈ wsX4_changeMeter := List.mem_of_getElem? (i := 2) rfl
theorem lk_X4_changeMeter_3 : Cond.initialized RX6 ∈ wsX4_changeMeter := List.mem_of_getElem? (i := 3) rfl
set_option maxHeartbeats 4000000 in
set_option maxRecDepth 100000 in
theorem c_X4_changeMeter (l : Launch) (D : va_G) (cI cZ cII : ClassId) (sc : Nat) (sm : Nat) (tm : Nat) (so : Nat) (sv : Nat) (qu : Nat) (me : Nat) (pa : Nat) (ti : Int) (wa : Int) (lc : Int) (ca : Int) (dn : Int) (lo : Int) (bi : Int) (lm : Int → Int) (t : Int) (v : Int) (hB_lm : BB 0 1 lm) (hp_t : IR t) (hp_v : 0 ≤ v ∧ v ≤ 1) : CtI l yX4_changeMeter wsX4_changeMeter 1 22 D (ty3 cI cZ cII) [.ref sc, .int (iI t), .int (iI v)] [(sc, .inr (4, [.ref tm, .ref so, .ref sm, .ref sv, .ref qu, .ref me, .ref pa, .int (iI ti), .int (iI wa), .int (iI lc), .int (iI ca), .int (iI dn), .int (iI lo), .int (iI bi)])), (sm, .inl (cZ, 200, .inl (ia lm)))] (fun z (u : (Int → Int)) => z = (if 0 ≤ t ∧ t ≤ 199 then lm t else -1002) ∧ u = (if 0 ≤ t ∧ t ≤ 199 then uI lm t v else lm) ∧ BB 0 1 u) (fun u => [(sc, .inr (4, [.ref tm, .ref so, .ref sm, .ref sv, .ref qu, .ref me, .ref pa, .int (iI ti), .int (iI wa), .int (iI lc), .int (iI ca), .int (iI dn), .int (iI lo), .int (iI bi)])), (sm, .inl (cZ, 200, .inl (ia u)))]) := by
  refine CtI.mk (cc := cX4_changeMeter) (maxL := 4) (ret := (some .int)) (by decide) rfl (Nat.le_of_ble_eq_true rfl) ?_
  intro p e s m below meth c A ls R args Q hx hb hml hr hts hown hlocks hA hK hP hD hN hS hl hRf hRl hQ
  have hl : lv_has ls 4 [(0, .ref sc), (1, .int (iI t)), (2, .int (iI v))] := hl
  have hown : s.vm.findClass RX4 = some m.cls := hown
  refine lv_iload_n hx hb dX4_changeMeter_0 rfl (lv_at hl 1 rfl) ?_
  refine lv_iconst (v := iI 0) hx hb dX4_changeMeter_1 rfl ?_
  refine lv_sipush (v := iI 199) hx hb dX4_changeMeter_2 (by decide +kernel) ?_
  refine q_callNI (wr := [(sc, .inr (4, [.ref tm, .ref so, .ref sm, .ref sv, .ref qu, .ref me, .ref pa, .int (iI ti), .int (iI wa), .int (iI lc), .int (iI ca), .int (iI dn), .int (iI lo), .int (iI bi)])), (sm, .inl (cZ, 200, .inl (ia lm)))]) (wn := fun (u : Unit) => [(sc, .inr (4, [.ref tm, .ref so, .ref sm, .ref sv, .ref qu, .ref me, .ref pa, .int (iI ti), .int (iI wa), .int (iI lc), .int (iI ca), .int (iI dn), .int (iI lo), .int (iI bi)])), (sm, .inl (cZ, 200, .inl (ia lm)))]) (rest := []) [.int (iI t), .int (iI 0), .int (iI 199)] ⟨hx, hb, hml, hown, hts⟩ (c_X6_within l D cI cZ cII t 0 199 ⟨by omega, by omega⟩ ⟨by omega, by omega⟩ ⟨by omega, by omega⟩) ⟨va_cnB 3 hts gX4_changeMeter_X6_within_n77 rfl rfl rfl hN.2.1 (hts _ lk_X4_changeMeter_3) (by decide +kernel) (by rw [hRf, hRl]; exact ⟨Nat.le_of_ble_eq_true rfl, Nat.le_of_ble_eq_true rfl⟩), (hts _ lk_X4_changeMeter_2), trivial⟩ hK hP hD hS hA hN [] [0, 1] [0, 1] rfl rfl rfl rfl (by decide) rfl (fun u => rfl) rfl hl.1 rfl (Nat.le_of_ble_eq_true rfl) dX4_changeMeter_5 ⟨Nat.zero_le _, Nat.zero_le _⟩ (fun z u H locs hw hP hD hS => ?_)
  have hP : va_P D vwCl [(sc, .inr (4, [.ref tm, .ref so, .ref sm, .ref sv, .ref qu, .ref me, .ref pa, .int (iI ti), .int (iI wa), .int (iI lc), .int (iI ca), .int (iI dn), .int (iI lo), .int (iI bi)])), (sm, .inl (cZ, 200, .inl (ia lm)))] H := hP
  have hD : va_D A [(sc, .inr (4, [.ref tm, .ref so, .ref sm, .ref sv, .ref qu, .ref me, .ref pa, .int (iI ti), .int (iI wa), .int (iI lc), .int (iI ca), .int (iI dn), .int (iI lo), .int (iI bi)])), (sm, .inl (cZ, 200, .inl (ia lm)))] := hD
  obtain ⟨z_1, ez⟩ : ∃ y : Int, y = z := ⟨_, rfl⟩
  rw [← ez] at hw ⊢
  clear ez
  rcases hw with ⟨rfl, w5⟩ | ⟨rfl, w5⟩
  ·
    refine q_if_ne (tgt := 15) hx hb dX4_changeMeter_8 (by decide) ⟨by decide, by decide⟩ (fun _ => ?_) (fun h => absurd h (by decide))
    refine lv_aload_n hx hb dX4_changeMeter_15 rfl (lv_at hl 0 rfl) ?_
    refine va_get (D := D) (ci := 4) (v := .ref sm) (C := RX4) (T := TX4) (N := 14) hx hb hts in_X4_changeMeter_X4 hown hK hP 0 rfl rfl 2 (by decide) (hts _ lk_X4_changeMeter_1) (fun _ h9 => h9) rfl dX4_changeMeter_16 ?_
    refine lv_iload_n hx hb dX4_changeMeter_19 rfl (lv_at hl 1 rfl) ?_
    refine q_zald hx hb hK hP 1 1 rfl rfl (by omega) (by omega) (by decide) dX4_changeMeter_20 ?_
    have hb20 := hB_lm t
    refine q_if_eq (tgt := 28) hx hb dX4_changeMeter_21 (by decide) ⟨by omega, by omega⟩ (fun c21 => ?_) (fun c21 => ?_)
    ·
      refine lv_iconst (v := iI 0) hx hb dX4_changeMeter_28 rfl ?_
      refine lv_istore_n (lv' := [(3, .int (iI 0)), (0, .ref sc), (1, .int (iI t)), (2, .int (iI v))]) hx hb dX4_changeMeter_29 rfl hl (by decide) rfl (fun ls hl => ?_)
      refine lv_aload_n hx hb dX4_changeMeter_30 rfl (lv_at hl 1 rfl) ?_
      refine va_get (D := D) (ci := 4) (v := .ref sm) (C := RX4) (T := TX4) (N := 14) hx hb hts in_X4_changeMeter_X4 hown hK hP 0 rfl rfl 2 (by decide) (hts _ lk_X4_changeMeter_1) (fun _ h9 => h9) rfl dX4_changeMeter_31 ?_
      refine lv_iload_n hx hb dX4_changeMeter_34 rfl (lv_at hl 2 rfl) ?_
      refine lv_iload_n hx hb dX4_changeMeter_35 rfl (lv_at hl 3 rfl) ?_
      refine q_zast hx hb hK hP hD hS 1 1 rfl rfl (by omega) (by omega) (by decide) (by omega) dX4_changeMeter_36 (fun H locs hP hD hS => ?_)
      have hP : va_P D vwCl [(sc, .inr (4, [.ref tm, .ref so, .ref sm, .ref sv, .ref qu, .ref me, .ref pa, .int (iI ti), .int (iI wa), .int (iI lc), .int (iI ca), .int (iI dn), .int (iI lo), .int (iI bi)])), (sm, .inl (cZ, 200, .inl (ia (uI lm t v))))] H := hP
      have hD : va_D A [(sc, .inr (4, [.ref tm, .ref so, .ref sm, .ref sv, .ref qu, .ref me, .ref pa, .int (iI ti), .int (iI wa), .int (iI lc), .int (iI ca), .int (iI dn), .int (iI lo), .int (iI bi)])), (sm, .inl (cZ, 200, .inl (ia (uI lm t v))))] := hD
      have hB_2 : BB 0 1 (uI lm t v) := BB_uI hB_lm (by omega)
      refine lv_iload_n hx hb dX4_changeMeter_37 rfl (lv_at hl 0 rfl) ?_
      rw [hQ]
      refine q_retI (uI lm t v) hx hb hr hlocks hK hP hD hS dX4_changeMeter_38 ?_
      try dsimp only
      first | exact ⟨by rw [if_pos w5]; omega, by rw [if_pos w5], BB_uI hB_lm (by omega)⟩ | exact ⟨by rw [if_neg w5], by rw [if_neg w5], hB_lm⟩
    ·
      refine lv_iconst (v := iI 1) hx hb dX4_changeMeter_24 rfl ?_
      refine lv_goto (tgt := 29) hx hb dX4_changeMeter_25 (by decide) ?_
      refine lv_istore_n (lv' := [(3, .int (iI 1)), (0, .ref sc), (1, .int (iI t)), (2, .int (iI v))]) hx hb dX4_changeMeter_29 rfl hl (by decide) rfl (fun ls hl => ?_)
      refine lv_aload_n hx hb dX4_changeMeter_30 rfl (lv_at hl 1 rfl) ?_
      refine va_get (D := D) (ci := 4) (v := .ref sm) (C := RX4) (T := TX4) (N := 14) hx hb hts in_X4_changeMeter_X4 hown hK hP 0 rfl rfl 2 (by decide) (hts _ lk_X4_changeMeter_1) (fun _ h9 => h9) rfl dX4_changeMeter_31 ?_
      refine lv_iload_n hx hb dX4_changeMeter_34 rfl (lv_at hl 2 rfl) ?_
      refine lv_iload_n hx hb dX4_changeMeter_35 rfl (lv_at hl 3 rfl) ?_
      refine q_zast hx hb hK hP hD hS 1 1 rfl rfl (by omega) (by omega) (by decide) (by omega) dX4_changeMeter_36 (fun H locs hP hD hS => ?_)
      have hP : va_P D vwCl [(sc, .inr (4, [.ref tm, .ref so, .ref sm, .ref sv, .ref qu, .ref me, .ref pa, .int (iI ti), .int (iI wa), .int (iI lc), .int (iI ca), .int (iI dn), .int (iI lo), .int (iI bi)])), (sm, .inl (cZ, 200, .inl (ia (uI lm t v))))] H := hP
      have hD : va_D A [(sc, .inr (4, [.ref tm, .ref so, .ref sm, .ref sv, .ref qu, .ref me, .ref pa, .int (iI ti), .int (iI wa), .int (iI lc), .int (iI ca), .int (iI dn), .int (iI lo), .int (iI bi)])), (sm, .inl (cZ, 200, .inl (ia (uI lm t v))))] := hD
      have hB_3 : BB 0 1 (uI lm t v) := BB_uI hB_lm (by omega)
      refine lv_iload_n hx hb dX4_changeMeter_37 rfl (lv_at hl 0 rfl) ?_
      rw [hQ]
      refine q_retI (uI lm t v) hx hb hr hlocks hK hP hD hS dX4_changeMeter_38 ?_
      try dsimp only
      first | exact ⟨by rw [if_pos w5]; omega, by rw [if_pos w5], BB_uI hB_lm (by omega)⟩ | exact ⟨by rw [if_neg w5], by rw [if_neg w5], hB_lm⟩
  ·
    refine q_if_ne (tgt := 15) hx hb dX4_changeMeter_8 (by decide) ⟨by decide, by decide⟩ (fun h => absurd h (by decide)) (fun _ => ?_)
    refine lv_sipush (v := iI (-1002)) hx hb dX4_changeMeter_11 (by decide +kernel) ?_
    rw [hQ]
    refine q_retI lm hx hb hr hlocks hK hP hD hS dX4_changeMeter_14 ?_
    try dsimp only
    first | exact ⟨by rw [if_pos w5]; omega, by rw [if_pos w5], BB_uI hB_lm (by omega)⟩ | exact ⟨by rw [if_neg w5], by rw [if_neg w5], hB_lm⟩

theorem in_X4_begin_X4 : ∀ w ∈ wsX40, w ∈ wsX4_begin := fun _ h => List.mem_cons_of_mem _ (List.mem_append_left _ (List.mem_append_left _ (List.mem_append_left _ (List.mem_append_right _ h))))
theorem lk_X4_begin_1 : Cond.fieldLink RX4 26 "MoreHands$Service" "servers" "LMoreHands$Servers;" ∈ wsX4_begin := List.mem_of_getElem? (i := 1) rfl
theorem lk_X4_begin_10 : Cond.fieldLink RX4 74 "MoreHands$Service" "bill" "I" ∈ wsX4_begin := List.mem_of_getElem? (i := 10) rfl
theorem lk_X4_begin_2 : Cond.fieldLink RX4 33 "MoreHands$Service" "queue" "LMoreHands$Queue;" ∈ wsX4_begin := List.mem_of_getElem? (i := 2) rfl
theorem lk_X4_begin_3 : Cond.fieldLink RX4 40 "MoreHands$Service" "meter" "LMoreHands$Meter;" ∈ wsX4_begin := List.mem_of_getElem? (i := 3) rfl
theorem lk_X4_begin_4 : Cond.fieldLink RX4 55 "MoreHands$Service" "time" "I" ∈ wsX4_begin := List.mem_of_getElem? (i := 4) rfl
theorem lk_X4_begin_5 : Cond.fieldLink RX4 59 "MoreHands$Service" "wanted" "I" ∈ wsX4_begin := List.mem_of_getElem? (i := 5) rfl
theorem lk_X4_begin_6 : Cond.fieldLink RX4 62 "MoreHands$Service" "latestChange" "I" ∈ wsX4_begin := List.mem_of_getElem? (i := 6) rfl
theorem lk_X4_begin_7 : Cond.fieldLink RX4 65 "MoreHands$Service" "came" "I" ∈ wsX4_begin := List.mem_of_getElem? (i := 7) rfl
theorem lk_X4_begin_8 : Cond.fieldLink RX4 68 "MoreHands$Service" "done" "I" ∈ wsX4_begin := List.mem_of_getElem? (i := 8) rfl
theorem lk_X4_begin_9 : Cond.fieldLink RX4 71 "MoreHands$Service" "lost" "I" ∈ wsX4_begin := List.mem_of_getElem? (i := 9) rfl
set_option maxHeartbeats 4000000 in
set_option maxRecDepth 100000 in
theorem c_X4_begin (l : Launch) (D : va_G) (cI cZ cII : ClassId) (sc : Nat) (sv : Nat) (ss : Nat) (sb : Nat) (qu : Nat) (ql : Nat) (qt : Nat) (qs : Nat) (qr : Nat) (me : Nat) (mn : Nat) (tm : Nat) (so : Nat) (sm : Nat) (pa : Nat) (ti : Int) (wa : Int) (lc : Int) (ca : Int) (dn : Int) (lo : Int) (bi : Int) (st : Int → Int) (bg : Int → Int) (hd : Int) (gr : Int) (wt : Int) (rt : Int) (le : Int → Int) (tr : Int → Int) (si : Int → Int) (rg : Int → Int) (rd : Int) (no : Int → Int) (hB_st : BB 0 3 st) (hB_bg : BB 0 200 bg) (hB_le : BB 0 60 le) (hB_tr : BB 0 4 tr) (hB_si : BB 0 200 si) (hB_rg : BB 0 199 rg) (hB_no : BB (-1) 12000 no) : CtV l yX4_begin wsX4_begin 1 21 D (ty3 cI cZ cII) [.ref sc] [(sc, .inr (4, [.ref tm, .ref so, .ref sm, .ref sv, .ref qu, .ref me, .ref pa, .int (iI ti), .int (iI wa), .int (iI lc), .int (iI ca), .int (iI dn), .int (iI lo), .int (iI bi)])), (sv, .inr (3, [.ref ss, .ref sb])), (ss, .inl (cI, 12, .inl (ia st))), (sb, .inl (cI, 12, .inl (ia bg))), (qu, .inr (2, [.ref ql, .ref qt, .ref qs, .ref qr, .int (iI hd), .int (iI gr), .int (iI wt), .int (iI rt)])), (ql, .inl (cI, 200, .inl (ia le))), (qt, .inl (cI, 200, .inl (ia tr))), (qs, .inl (cI, 200, .inl (ia si))), (qr, .inl (cI, 200, .inl (ia rg))), (me, .inr (1, [.ref mn, .int (iI rd)])), (mn, .inl (cI, 200, .inl (ia no)))] (fun (u : (Int → Int) × Int × Int × Int × Int × Int × Int × Int × Int × Int × Int × Int × Int) => u.1 = fl (fun _ => true) 0 st 0 12 ∧ BB 0 3 u.1 ∧ (u.2.1 = 0 ∧ u.2.2.1 = 0 ∧ u.2.2.2.1 = 0 ∧ u.2.2.2.2.1 = 0 ∧ u.2.2.2.2.2.1 = 0) ∧ (u.2.2.2.2.2.2.1 = 0 ∧ u.2.2.2.2.2.2.2.1 = -1 ∧ u.2.2.2.2.2.2.2.2.1 = -1 ∧ u.2.2.2.2.2.2.2.2.2.1 = 0 ∧ u.2.2.2.2.2.2.2.2.2.2.1 = 0 ∧ u.2.2.2.2.2.2.2.2.2.2.2.1 = 0 ∧ u.2.2.2.2.2.2.2.2.2.2.2.2 = 0)) (fun u => [(sc, .inr (4, [.ref tm, .ref so, .ref sm, .ref sv, .ref qu, .ref me, .ref pa, .int (iI u.2.2.2.2.2.2.1), .int (iI u.2.2.2.2.2.2.2.1), .int (iI u.2.2.2.2.2.2.2.2.1), .int (iI u.2.2.2.2.2.2.2.2.2.1), .int (iI u.2.2.2.2.2.2.2.2.2.2.1), .int (iI u.2.2.2.2.2.2.2.2.2.2.2.1), .int (iI u.2.2.2.2.2.2.2.2.2.2.2.2)])), (sv, .inr (3, [.ref ss, .ref sb])), (ss, .inl (cI, 12, .inl (ia u.1))), (sb, .inl (cI, 12, .inl (ia bg))), (qu, .inr (2, [.ref ql, .ref qt, .ref qs, .ref qr, .int (iI u.2.1), .int (iI u.2.2.1), .int (iI u.2.2.2.1), .int (iI u.2.2.2.2.1)])), (ql, .inl (cI, 200, .inl (ia le))), (qt, .inl (cI, 200, .inl (ia tr))), (qs, .inl (cI, 200, .inl (ia si))), (qr, .inl (cI, 200, .inl (ia rg))), (me, .inr (1, [.ref mn, .int (iI u.2.2.2.2.2.1)])), (mn, .inl (cI, 200, .inl (ia no)))]) := by
  refine CtV.mk (cc := cX4_begin) (maxL := 1) (ret := none) (by decide) rfl (Nat.le_of_ble_eq_true rfl) ?_
  intro p e s m below meth c A ls R args Q hx hb hml hr hts hown hlocks hA hK hP hD hN hS hl hRf hRl hQ
  have hl : lv_has ls 1 [(0, .ref sc)] := hl
  have hown : s.vm.findClass RX4 = some m.cls := hown
  refine lv_aload_n hx hb dX4_begin_0 rfl (lv_at hl 0 rfl) ?_
  refine va_get (D := D) (ci := 4) (v := .ref sv) (C := RX4) (T := TX4) (N := 14) hx hb hts in_X4_begin_X4 hown hK hP 0 rfl rfl 3 (by decide) (hts _ lk_X4_begin_1) (fun _ h9 => h9) rfl dX4_begin_1 ?_
  refine q_callVV (wr := [(sc, .inr (4, [.ref tm, .ref so, .ref sm, .ref sv, .ref qu, .ref me, .ref pa, .int (iI ti), .int (iI wa), .int (iI lc), .int (iI ca), .int (iI dn), .int (iI lo), .int (iI bi)])), (qu, .inr (2, [.ref ql, .ref qt, .ref qs, .ref qr, .int (iI hd), .int (iI gr), .int (iI wt), .int (iI rt)])), (ql, .inl (cI, 200, .inl (ia le))), (qt, .inl (cI, 200, .inl (ia tr))), (qs, .inl (cI, 200, .inl (ia si))), (qr, .inl (cI, 200, .inl (ia rg))), (me, .inr (1, [.ref mn, .int (iI rd)])), (mn, .inl (cI, 200, .inl (ia no)))]) (wn := fun (u : (Int → Int)) => [(sc, .inr (4, [.ref tm, .ref so, .ref sm, .ref sv, .ref qu, .ref me, .ref pa, .int (iI ti), .int (iI wa), .int (iI lc), .int (iI ca), .int (iI dn), .int (iI lo), .int (iI bi)])), (sv, .inr (3, [.ref ss, .ref sb])), (ss, .inl (cI, 12, .inl (ia u))), (sb, .inl (cI, 12, .inl (ia bg))), (qu, .inr (2, [.ref ql, .ref qt, .ref qs, .ref qr, .int (iI hd), .int (iI gr), .int (iI wt), .int (iI rt)])), (ql, .inl (cI, 200, .inl (ia le))), (qt, .inl (cI, 200, .inl (ia tr))), (qs, .inl (cI, 200, .inl (ia si))), (qr, .inl (cI, 200, .inl (ia rg))), (me, .inr (1, [.ref mn, .int (iI rd)])), (mn, .inl (cI, 200, .inl (ia no)))]) (rest := []) [] ⟨hx, hb, hml, hown, hts⟩ (c_X3_begin l D cI cZ cII sv ss sb st bg hB_st hB_bg) (cwV 0 hts gX4_begin_X3_begin rfl rfl rfl (by decide +kernel) (by rw [hRf, hRl]; exact ⟨Nat.le_of_ble_eq_true rfl, Nat.le_of_ble_eq_true rfl⟩)) hK hP hD hS hA hN [1, 2, 3] [0, 4, 5, 6, 7, 8, 9, 10] [0, 8, 9, 10, 1, 2, 3, 4, 5, 6, 7] 1 3 rfl rfl rfl rfl rfl rfl (by decide) rfl (fun u => rfl) rfl hl.1 rfl (Nat.le_of_ble_eq_true rfl) dX4_begin_4 ⟨Nat.zero_le _, Nat.zero_le _⟩ (fun u H locs hw hP hD hS => ?_)
  obtain ⟨st_1, rfl⟩ : ∃ z, z = u := ⟨_, rfl⟩
  try dsimp only at hw
  have hP : va_P D vwCl [(sc, .inr (4, [.ref tm, .ref so, .ref sm, .ref sv, .ref qu, .ref me, .ref pa, .int (iI ti), .int (iI wa), .int (iI lc), .int (iI ca), .int (iI dn), .int (iI lo), .int (iI bi)])), (sv, .inr (3, [.ref ss, .ref sb])), (ss, .inl (cI, 12, .inl (ia st_1))), (sb, .inl (cI, 12, .inl (ia bg))), (qu, .inr (2, [.ref ql, .ref qt, .ref qs, .ref qr, .int (iI hd), .int (iI gr), .int (iI wt), .int (iI rt)])), (ql, .inl (cI, 200, .inl (ia le))), (qt, .inl (cI, 200, .inl (ia tr))), (qs, .inl (cI, 200, .inl (ia si))), (qr, .inl (cI, 200, .inl (ia rg))), (me, .inr (1, [.ref mn, .int (iI rd)])), (mn, .inl (cI, 200, .inl (ia no)))] H := hP
  have hD : va_D A [(sc, .inr (4, [.ref tm, .ref so, .ref sm, .ref sv, .ref qu, .ref me, .ref pa, .int (iI ti), .int (iI wa), .int (iI lc), .int (iI ca), .int (iI dn), .int (iI lo), .int (iI bi)])), (sv, .inr (3, [.ref ss, .ref sb])), (ss, .inl (cI, 12, .inl (ia st_1))), (sb, .inl (cI, 12, .inl (ia bg))), (qu, .inr (2, [.ref ql, .ref qt, .ref qs, .ref qr, .int (iI hd), .int (iI gr), .int (iI wt), .int (iI rt)])), (ql, .inl (cI, 200, .inl (ia le))), (qt, .inl (cI, 200, .inl (ia tr))), (qs, .inl (cI, 200, .inl (ia si))), (qr, .inl (cI, 200, .inl (ia rg))), (me, .inr (1, [.ref mn, .int (iI rd)])), (mn, .inl (cI, 200, .inl (ia no)))] := hD
  obtain ⟨e4, hB_st_1⟩ := hw
  refine lv_aload_n hx hb dX4_begin_7 rfl (lv_at hl 0 rfl) ?_
  refine va_get (D := D) (ci := 4) (v := .ref qu) (C := RX4) (T := TX4) (N := 14) hx hb hts in_X4_begin_X4 hown hK hP 0 rfl rfl 4 (by decide) (hts _ lk_X4_begin_2) (fun _ h9 => h9) rfl dX4_begin_8 ?_
  refine q_callVV (wr := [(sc, .inr (4, [.ref tm, .ref so, .ref sm, .ref sv, .ref qu, .ref me, .ref pa, .int (iI ti), .int (iI wa), .int (iI lc), .int (iI ca), .int (iI dn), .int (iI lo), .int (iI bi)])), (sv, .inr (3, [.ref ss, .ref sb])), (ss, .inl (cI, 12, .inl (ia st_1))), (sb, .inl (cI, 12, .inl (ia bg))), (me, .inr (1, [.ref mn, .int (iI rd)])), (mn, .inl (cI, 200, .inl (ia no)))]) (wn := fun (u : Int × Int × Int × Int) => [(sc, .inr (4, [.ref tm, .ref so, .ref sm, .ref sv, .ref qu, .ref me, .ref pa, .int (iI ti), .int (iI wa), .int (iI lc), .int (iI ca), .int (iI dn), .int (iI lo), .int (iI bi)])), (sv, .inr (3, [.ref ss, .ref sb])), (ss, .inl (cI, 12, .inl (ia st_1))), (sb, .inl (cI, 12, .inl (ia bg))), (qu, .inr (2, [.ref ql, .ref qt, .ref qs, .ref qr, .int (iI u.1), .int (iI u.2.1), .int (iI u.2.2.1), .int (iI u.2.2.2)])), (ql, .inl (cI, 200, .inl (ia le))), (qt, .inl (cI, 200, .inl (ia tr))), (qs, .inl (cI, 200, .inl (ia si))), (qr, .inl (cI, 200, .inl (ia rg))), (me, .inr (1, [.ref mn, .int (iI rd)])), (mn, .inl (cI, 200, .inl (ia no)))]) (rest := []) [] ⟨hx, hb, hml, hown, hts⟩ (c_X2_begin l D cI cZ cII qu ql qt qs qr hd gr wt rt le tr si rg hB_le hB_tr hB_si hB_rg) (cwV 0 hts gX4_begin_X2_begin rfl rfl rfl (by decide +kernel) (by rw [hRf, hRl]; exact ⟨Nat.le_of_ble_eq_true rfl, Nat.le_of_ble_eq_true rfl⟩)) hK hP hD hS hA hN [4, 5, 6, 7, 8] [0, 1, 2, 3, 9, 10] [0, 1, 2, 3, 6, 7, 8, 9, 10, 4, 5] 4 2 rfl rfl rfl rfl rfl rfl (by decide) rfl (fun u => rfl) rfl hl.1 rfl (Nat.le_of_ble_eq_true rfl) dX4_begin_11 ⟨Nat.zero_le _, Nat.zero_le _⟩ (fun u H locs hw hP hD hS => ?_)
  obtain ⟨hd_2, gr_3, wt_4, rt_5⟩ := u
  try dsimp only at hw
  have hP : va_P D vwCl [(sc, .inr (4, [.ref tm, .ref so, .ref sm, .ref sv, .ref qu, .ref me, .ref pa, .int (iI ti), .int (iI wa), .int (iI lc), .int (iI ca), .int (iI dn), .int (iI lo), .int (iI bi)])), (sv, .inr (3, [.ref ss, .ref sb])), (ss, .inl (cI, 12, .inl (ia st_1))), (sb, .inl (cI, 12, .inl (ia bg))), (qu, .inr (2, [.ref ql, .ref qt, .ref qs, .ref qr, .int (iI hd_2), .int (iI gr_3), .int (iI wt_4), .int (iI rt_5)])), (ql, .inl (cI, 200, .inl (ia le))), (qt, .inl (cI, 200, .inl (ia tr))), (qs, .inl (cI, 200, .inl (ia si))), (qr, .inl (cI, 200, .inl (ia rg))), (me, .inr (1, [.ref mn, .int (iI rd)])), (mn, .inl (cI, 200, .inl (ia no)))] H := hP
  have hD : va_D A [(sc, .inr (4, [.ref tm, .ref so, .ref sm, .ref sv, .ref qu, .ref me, .ref pa, .int (iI ti), .int (iI wa), .int (iI lc), .int (iI ca), .int (iI dn), .int (iI lo), .int (iI bi)])), (sv, .inr (3, [.ref ss, .ref sb])), (ss, .inl (cI, 12, .inl (ia st_1))), (sb, .inl (cI, 12, .inl (ia bg))), (qu, .inr (2, [.ref ql, .ref qt, .ref qs, .ref qr, .int (iI hd_2), .int (iI gr_3), .int (iI wt_4), .int (iI rt_5)])), (ql, .inl (cI, 200, .inl (ia le))), (qt, .inl (cI, 200, .inl (ia tr))), (qs, .inl (cI, 200, .inl (ia si))), (qr, .inl (cI, 200, .inl (ia rg))), (me, .inr (1, [.ref mn, .int (iI rd)])), (mn, .inl (cI, 200, .inl (ia no)))] := hD
  obtain ⟨e11, f11, g11, h11⟩ := hw
  refine lv_aload_n hx hb dX4_begin_14 rfl (lv_at hl 0 rfl) ?_
  refine va_get (D := D) (ci := 4) (v := .ref me) (C := RX4) (T := TX4) (N := 14) hx hb hts in_X4_begin_X4 hown hK hP 0 rfl rfl 5 (by decide) (hts _ lk_X4_begin_3) (fun _ h9 => h9) rfl dX4_begin_15 ?_
  refine q_callVV (wr := [(sc, .inr (4, [.ref tm, .ref so, .ref sm, .ref sv, .ref qu, .ref me, .ref pa, .int (iI ti), .int (iI wa), .int (iI lc), .int (iI ca), .int (iI dn), .int (iI lo), .int (iI bi)])), (sv, .inr (3, [.ref ss, .ref sb])), (ss, .inl (cI, 12, .inl (ia st_1))), (sb, .inl (cI, 12, .inl (ia bg))), (qu, .inr (2, [.ref ql, .ref qt, .ref qs, .ref qr, .int (iI hd_2), .int (iI gr_3), .int (iI wt_4), .int (iI rt_5)])), (ql, .inl (cI, 200, .inl (ia le))), (qt, .inl (cI, 200, .inl (ia tr))), (qs, .inl (cI, 200, .inl (ia si))), (qr, .inl (cI, 200, .inl (ia rg)))]) (wn := fun (u : Int) => [(sc, .inr (4, [.ref tm, .ref so, .ref sm, .ref sv, .ref qu, .ref me, .ref pa, .int (iI ti), .int (iI wa), .int (iI lc), .int (iI ca), .int (iI dn), .int (iI lo), .int (iI bi)])), (sv, .inr (3, [.ref ss, .ref sb])), (ss, .inl (cI, 12, .inl (ia st_1))), (sb, .inl (cI, 12, .inl (ia bg))), (qu, .inr (2, [.ref ql, .ref qt, .ref qs, .ref qr, .int (iI hd_2), .int (iI gr_3), .int (iI wt_4), .int (iI rt_5)])), (ql, .inl (cI, 200, .inl (ia le))), (qt, .inl (cI, 200, .inl (ia tr))), (qs, .inl (cI, 200, .inl (ia si))), (qr, .inl (cI, 200, .inl (ia rg))), (me, .inr (1, [.ref mn, .int (iI u)])), (mn, .inl (cI, 200, .inl (ia no)))]) (rest := []) [] ⟨hx, hb, hml, hown, hts⟩ (c_X1_begin l D cI cZ cII me mn rd no hB_no) (cwV 0 hts gX4_begin_X1_begin rfl rfl rfl (by decide +kernel) (by rw [hRf, hRl]; exact ⟨Nat.le_of_ble_eq_true rfl, Nat.le_of_ble_eq_true rfl⟩)) hK hP hD hS hA hN [9, 10] [0, 1, 2, 3, 4, 5, 6, 7, 8] [0, 1, 2, 3, 4, 5, 6, 7, 8, 9, 10] 9 1 rfl rfl rfl rfl rfl rfl (by decide) rfl (fun u => rfl) rfl hl.1 rfl (Nat.le_of_ble_eq_true rfl) dX4_begin_18 ⟨Nat.zero_le _, Nat.zero_le _⟩ (fun u H locs hw hP hD hS => ?_)
  obtain ⟨rd_6, rfl⟩ : ∃ z, z = u := ⟨_, rfl⟩
  try dsimp only at hw
  have hP : va_P D vwCl [(sc, .inr (4, [.ref tm, .ref so, .ref sm, .ref sv, .ref qu, .ref me, .ref pa, .int (iI ti), .int (iI wa), .int (iI lc), .int (iI ca), .int (iI dn), .int (iI lo), .int (iI bi)])), (sv, .inr (3, [.ref ss, .ref sb])), (ss, .inl (cI, 12, .inl (ia st_1))), (sb, .inl (cI, 12, .inl (ia bg))), (qu, .inr (2, [.ref ql, .ref qt, .ref qs, .ref qr, .int (iI hd_2), .int (iI gr_3), .int (iI wt_4), .int (iI rt_5)])), (ql, .inl (cI, 200, .inl (ia le))), (qt, .inl (cI, 200, .inl (ia tr))), (qs, .inl (cI, 200, .inl (ia si))), (qr, .inl (cI, 200, .inl (ia rg))), (me, .inr (1, [.ref mn, .int (iI rd_6)])), (mn, .inl (cI, 200, .inl (ia no)))] H := hP
  have hD : va_D A [(sc, .inr (4, [.ref tm, .ref so, .ref sm, .ref sv, .ref qu, .ref me, .ref pa, .int (iI ti), .int (iI wa), .int (iI lc), .int (iI ca), .int (iI dn), .int (iI lo), .int (iI bi)])), (sv, .inr (3, [.ref ss, .ref sb])), (ss, .inl (cI, 12, .inl (ia st_1))), (sb, .inl (cI, 12, .inl (ia bg))), (qu, .inr (2, [.ref ql, .ref qt, .ref qs, .ref qr, .int (iI hd_2), .int (iI gr_3), .int (iI wt_4), .int (iI rt_5)])), (ql, .inl (cI, 200, .inl (ia le))), (qt, .inl (cI, 200, .inl (ia tr))), (qs, .inl (cI, 200, .inl (ia si))), (qr, .inl (cI, 200, .inl (ia rg))), (me, .inr (1, [.ref mn, .int (iI rd_6)])), (mn, .inl (cI, 200, .inl (ia no)))] := hD
  have w18 := hw
  clear hw
  refine lv_aload_n hx hb dX4_begin_21 rfl (lv_at hl 0 rfl) ?_
  refine lv_iconst (v := iI 0) hx hb dX4_begin_22 rfl ?_
  refine va_put (D := D) (ci := 4) (v := .int (iI 0)) (ty := .int) (C := RX4) (T := TX4) (N := 14) hx hb hts in_X4_begin_X4 tyX4 tyX4_ok nmX4 hown hK hP hD hS 0 rfl rfl 7 (by decide) (hts _ lk_X4_begin_4) (fun _ h9 => h9) rfl (by decide +kernel) rfl rfl (Nat.le_of_ble_eq_true rfl) dX4_begin_23 (fun H locs hP hD hS => ?_)
  have hP : va_P D vwCl [(sc, .inr (4, [.ref tm, .ref so, .ref sm, .ref sv, .ref qu, .ref me, .ref pa, .int (iI 0), .int (iI wa), .int (iI lc), .int (iI ca), .int (iI dn), .int (iI lo), .int (iI bi)])), (sv, .inr (3, [.ref ss, .ref sb])), (ss, .inl (cI, 12, .inl (ia st_1))), (sb, .inl (cI, 12, .inl (ia bg))), (qu, .inr (2, [.ref ql, .ref qt, .ref qs, .ref qr, .int (iI hd_2), .int (iI gr_3), .int (iI wt_4), .int (iI rt_5)])), (ql, .inl (cI, 200, .inl (ia le))), (qt, .inl (cI, 200, .inl (ia tr))), (qs, .inl (cI, 200, .inl (ia si))), (qr, .inl (cI, 200, .inl (ia rg))), (me, .inr (1, [.ref mn, .int (iI rd_6)])), (mn, .inl (cI, 200, .inl (ia no)))] H := hP
  have hD : va_D A [(sc, .inr (4, [.ref tm, .ref so, .ref sm, .ref sv, .ref qu, .ref me, .ref pa, .int (iI 0), .int (iI wa), .int (iI lc), .int (iI ca), .int (iI dn), .int (iI lo), .int (iI bi)])), (sv, .inr (3, [.ref ss, .ref sb])), (ss, .inl (cI, 12, .inl (ia st_1))), (sb, .inl (cI, 12, .inl (ia bg))), (qu, .inr (2, [.ref ql, .ref qt, .ref qs, .ref qr, .int (iI hd_2), .int (iI gr_3), .int (iI wt_4), .int (iI rt_5)])), (ql, .inl (cI, 200, .inl (ia le))), (qt, .inl (cI, 200, .inl (ia tr))), (qs, .inl (cI, 200, .inl (ia si))), (qr, .inl (cI, 200, .inl (ia rg))), (me, .inr (1, [.ref mn, .int (iI rd_6)])), (mn, .inl (cI, 200, .inl (ia no)))] := hD
  refine lv_aload_n hx hb dX4_begin_26 rfl (lv_at hl 0 rfl) ?_
  refine lv_iconst (v := iI (-1)) hx hb dX4_begin_27 rfl ?_
  refine va_put (D := D) (ci := 4) (v := .int (iI (-1))) (ty := .int) (C := RX4) (T := TX4) (N := 14) hx hb hts in_X4_begin_X4 tyX4 tyX4_ok nmX4 hown hK hP hD hS 0 rfl rfl 8 (by decide) (hts _ lk_X4_begin_5) (fun _ h9 => h9) rfl (by decide +kernel) rfl rfl (Nat.le_of_ble_eq_true rfl) dX4_begin_28 (fun H locs hP hD hS => ?_)
  have hP : va_P D vwCl [(sc, .inr (4, [.ref tm, .ref so, .ref sm, .ref sv, .ref qu, .ref me, .ref pa, .int (iI 0), .int (iI (-1)), .int (iI lc), .int (iI ca), .int (iI dn), .int (iI lo), .int (iI bi)])), (sv, .inr (3, [.ref ss, .ref sb])), (ss, .inl (cI, 12, .inl (ia st_1))), (sb, .inl (cI, 12, .inl (ia bg))), (qu, .inr (2, [.ref ql, .ref qt, .ref qs, .ref qr, .int (iI hd_2), .int (iI gr_3), .int (iI wt_4), .int (iI rt_5)])), (ql, .inl (cI, 200, .inl (ia le))), (qt, .inl (cI, 200, .inl (ia tr))), (qs, .inl (cI, 200, .inl (ia si))), (qr, .inl (cI, 200, .inl (ia rg))), (me, .inr (1, [.ref mn, .int (iI rd_6)])), (mn, .inl (cI, 200, .inl (ia no)))] H := hP
  have hD : va_D A [(sc, .inr (4, [.ref tm, .ref so, .ref sm, .ref sv, .ref qu, .ref me, .ref pa, .int (iI 0), .int (iI (-1)), .int (iI lc), .int (iI ca), .int (iI dn), .int (iI lo), .int (iI bi)])), (sv, .inr (3, [.ref ss, .ref sb])), (ss, .inl (cI, 12, .inl (ia st_1))), (sb, .inl (cI, 12, .inl (ia bg))), (qu, .inr (2, [.ref ql, .ref qt, .ref qs, .ref qr, .int (iI hd_2), .int (iI gr_3), .int (iI wt_4), .int (iI rt_5)])), (ql, .inl (cI, 200, .inl (ia le))), (qt, .inl (cI, 200, .inl (ia tr))), (qs, .inl (cI, 200, .inl (ia si))), (qr, .inl (cI, 200, .inl (ia rg))), (me, .inr (1, [.ref mn, .int (iI rd_6)])), (mn, .inl (cI, 200, .inl (ia no)))] := hD
  refine lv_aload_n hx hb dX4_begin_31 rfl (lv_at hl 0 rfl) ?_
  refine lv_iconst (v := iI (-1)) hx hb dX4_begin_32 rfl ?_
  refine va_put (D := D) (ci := 4) (v := .int (iI (-1))) (ty := .int) (C := RX4) (T := TX4) (N := 14) hx hb hts in_X4_begin_X4 tyX4 tyX4_ok nmX4 hown hK hP hD hS 0 rfl rfl 9 (by decide) (hts _ lk_X4_begin_6) (fun _ h9 => h9) rfl (by decide +kernel) rfl rfl (Nat.le_of_ble_eq_true rfl) dX4_begin_33 (fun H locs hP hD hS => ?_)
  have hP : va_P D vwCl [(sc, .inr (4, [.ref tm, .ref so, .ref sm, .ref sv, .ref qu, .ref me, .ref pa, .int (iI 0), .int (iI (-1)), .int (iI (-1)), .int (iI ca), .int (iI dn), .int (iI lo), .int (iI bi)])), (sv, .inr (3, [.ref ss, .ref sb])), (ss, .inl (cI, 12, .inl (ia st_1))), (sb, .inl (cI, 12, .inl (ia bg))), (qu, .inr (2, [.ref ql, .ref qt, .ref qs, .ref qr, .int (iI hd_2), .int (iI gr_3), .int (iI wt_4), .int (iI rt_5)])), (ql, .inl (cI, 200, .inl (ia le))), (qt, .inl (cI, 200, .inl (ia tr))), (qs, .inl (cI, 200, .inl (ia si))), (qr, .inl (cI, 200, .inl (ia rg))), (me, .inr (1, [.ref mn, .int (iI rd_6)])), (mn, .inl (cI, 200, .inl (ia no)))] H := hP
  have hD : va_D A [(sc, .inr (4, [.ref tm, .ref so, .ref sm, .ref sv, .ref qu, .ref me, .ref pa, .int (iI 0), .int (iI (-1)), .int (iI (-1)), .int (iI ca), .int (iI dn), .int (iI lo), .int (iI bi)])), (sv, .inr (3, [.ref ss, .ref sb])), (ss, .inl (cI, 12, .inl (ia st_1))), (sb, .inl (cI, 12, .inl (ia bg))), (qu, .inr (2, [.ref ql, .ref qt, .ref qs, .ref qr, .int (iI hd_2), .int (iI gr_3), .int (iI wt_4), .int (iI rt_5)])), (ql, .inl (cI, 200, .inl (ia le))), (qt, .inl (cI, 200, .inl (ia tr))), (qs, .inl (cI, 200, .inl (ia si))), (qr, .inl (cI, 200, .inl (ia rg))), (me, .inr (1, [.ref mn, .int (iI rd_6)])), (mn, .inl (cI, 200, .inl (ia no)))] := hD
  refine lv_aload_n hx hb dX4_begin_36 rfl (lv_at hl 0 rfl) ?_
  refine lv_iconst (v := iI 0) hx hb dX4_begin_37 rfl ?_
  refine va_put (D := D) (ci := 4) (v := .int (iI 0)) (ty := .int) (C := RX4) (T := TX4) (N := 14) hx hb hts in_X4_begin_X4 tyX4 tyX4_ok nmX4 hown hK hP hD hS 0 rfl rfl 10 (by decide) (hts _ lk_X4_begin_7) (fun _ h9 => h9) rfl (by decide +kernel) rfl rfl (Nat.le_of_ble_eq_true rfl) dX4_begin_38 (fun H locs hP hD hS => ?_)
  have hP : va_P D vwCl [(sc, .inr (4, [.ref tm, .ref so, .ref sm, .ref sv, .ref qu, .ref me, .ref pa, .int (iI 0), .int (iI (-1)), .int (iI (-1)), .int (iI 0), .int (iI dn), .int (iI lo), .int (iI bi)])), (sv, .inr (3, [.ref ss, .ref sb])), (ss, .inl (cI, 12, .inl (ia st_1))), (sb, .inl (cI, 12, .inl (ia bg))), (qu, .inr (2, [.ref ql, .ref qt, .ref qs, .ref qr, .int (iI hd_2), .int (iI gr_3), .int (iI wt_4), .int (iI rt_5)])), (ql, .inl (cI, 200, .inl (ia le))), (qt, .inl (cI, 200, .inl (ia tr))), (qs, .inl (cI, 200, .inl (ia si))), (qr, .inl (cI, 200, .inl (ia rg))), (me, .inr (1, [.ref mn, .int (iI rd_6)])), (mn, .inl (cI, 200, .inl (ia no)))] H := hP
  have hD : va_D A [(sc, .inr (4, [.ref tm, .ref so, .ref sm, .ref sv, .ref qu, .ref me, .ref pa, .int (iI 0), .int (iI (-1)), .int (iI (-1)), .int (iI 0), .int (iI dn), .int (iI lo), .int (iI bi)])), (sv, .inr (3, [.ref ss, .ref sb])), (ss, .inl (cI, 12, .inl (ia st_1))), (sb, .inl (cI, 12, .inl (ia bg))), (qu, .inr (2, [.ref ql, .ref qt, .ref qs, .ref qr, .int (iI hd_2), .int (iI gr_3), .int (iI wt_4), .int (iI rt_5)])), (ql, .inl (cI, 200, .inl (ia le))), (qt, .inl (cI, 200, .inl (ia tr))), (qs, .inl (cI, 200, .inl (ia si))), (qr, .inl (cI, 200, .inl (ia rg))), (me, .inr (1, [.ref mn, .int (iI rd_6)])), (mn, .inl (cI, 200, .inl (ia no)))] := hD
  refine lv_aload_n hx hb dX4_begin_41 rfl (lv_at hl 0 rfl) ?_
  refine lv_iconst (v := iI 0) hx hb dX4_begin_42 rfl ?_
  refine va_put (D := D) (ci := 4) (v := .int (iI 0)) (ty := .int) (C := RX4) (T := TX4) (N := 14) hx hb hts in_X4_begin_X4 tyX4 tyX4_ok nmX4 hown hK hP hD hS 0 rfl rfl 11 (by decide) (hts _ lk_X4_begin_8) (fun _ h9 => h9) rfl (by decide +kernel) rfl rfl (Nat.le_of_ble_eq_true rfl) dX4_begin_43 (fun H locs hP hD hS => ?_)
  have hP : va_P D vwCl [(sc, .inr (4, [.ref tm, .ref so, .ref sm, .ref sv, .ref qu, .ref me, .ref pa, .int (iI 0), .int (iI (-1)), .int (iI (-1)), .int (iI 0), .int (iI 0), .int (iI lo), .int (iI bi)])), (sv, .inr (3, [.ref ss, .ref sb])), (ss, .inl (cI, 12, .inl (ia st_1))), (sb, .inl (cI, 12, .inl (ia bg))), (qu, .inr (2, [.ref ql, .ref qt, .ref qs, .ref qr, .int (iI hd_2), .int (iI gr_3), .int (iI wt_4), .int (iI rt_5)])), (ql, .inl (cI, 200, .inl (ia le))), (qt, .inl (cI, 200, .inl (ia tr))), (qs, .inl (cI, 200, .inl (ia si))), (qr, .inl (cI, 200, .inl (ia rg))), (me, .inr (1, [.ref mn, .int (iI rd_6)])), (mn, .inl (cI, 200, .inl (ia no)))] H := hP
  have hD : va_D A [(sc, .inr (4, [.ref tm, .ref so, .ref sm, .ref sv, .ref qu, .ref me, .ref pa, .int (iI 0), .int (iI (-1)), .int (iI (-1)), .int (iI 0), .int (iI 0), .int (iI lo), .int (iI bi)])), (sv, .inr (3, [.ref ss, .ref sb])), (ss, .inl (cI, 12, .inl (ia st_1))), (sb, .inl (cI, 12, .inl (ia bg))), (qu, .inr (2, [.ref ql, .ref qt, .ref qs, .ref qr, .int (iI hd_2), .int (iI gr_3), .int (iI wt_4), .int (iI rt_5)])), (ql, .inl (cI, 200, .inl (ia le))), (qt, .inl (cI, 200, .inl (ia tr))), (qs, .inl (cI, 200, .inl (ia si))), (qr, .inl (cI, 200, .inl (ia rg))), (me, .inr (1, [.ref mn, .int (iI rd_6)])), (mn, .inl (cI, 200, .inl (ia no)))] := hD
  refine lv_aload_n hx hb dX4_begin_46 rfl (lv_at hl 0 rfl) ?_
  refine lv_iconst (v := iI 0) hx hb dX4_begin_47 rfl ?_
  refine va_put (D := D) (ci := 4) (v := .int (iI 0)) (ty := .int) (C := RX4) (T := TX4) (N := 14) hx hb hts in_X4_begin_X4 tyX4 tyX4_ok nmX4 hown hK hP hD hS 0 rfl rfl 12 (by decide) (hts _ lk_X4_begin_9) (fun _ h9 => h9) rfl (by decide +kernel) rfl rfl (Nat.le_of_ble_eq_true rfl) dX4_begin_48 (fun H locs hP hD hS => ?_)
  have hP : va_P D vwCl [(sc, .inr (4, [.ref tm, .ref so, .ref sm, .ref sv, .ref qu, .ref me, .ref pa, .int (iI 0), .int (iI (-1)), .int (iI (-1)), .int (iI 0), .int (iI 0), .int (iI 0), .int (iI bi)])), (sv, .inr (3, [.ref ss, .ref sb])), (ss, .inl (cI, 12, .inl (ia st_1))), (sb, .inl (cI, 12, .inl (ia bg))), (qu, .inr (2, [.ref ql, .ref qt, .ref qs, .ref qr, .int (iI hd_2), .int (iI gr_3), .int (iI wt_4), .int (iI rt_5)])), (ql, .inl (cI, 200, .inl (ia le))), (qt, .inl (cI, 200, .inl (ia tr))), (qs, .inl (cI, 200, .inl (ia si))), (qr, .inl (cI, 200, .inl (ia rg))), (me, .inr (1, [.ref mn, .int (iI rd_6)])), (mn, .inl (cI, 200, .inl (ia no)))] H := hP
  have hD : va_D A [(sc, .inr (4, [.ref tm, .ref so, .ref sm, .ref sv, .ref qu, .ref me, .ref pa, .int (iI 0), .int (iI (-1)), .int (iI (-1)), .int (iI 0), .int (iI 0), .int (iI 0), .int (iI bi)])), (sv, .inr (3, [.ref ss, .ref sb])), (ss, .inl (cI, 12, .inl (ia st_1))), (sb, .inl (cI, 12, .inl (ia bg))), (qu, .inr (2, [.ref ql, .ref qt, .ref qs, .ref qr, .int (iI hd_2), .int (iI gr_3), .int (iI wt_4), .int (iI rt_5)])), (ql, .inl (cI, 200, .inl (ia le))), (qt, .inl (cI, 200, .inl (ia tr))), (qs, .inl (cI, 200, .inl (ia si))), (qr, .inl (cI, 200, .inl (ia rg))), (me, .inr (1, [.ref mn, .int (iI rd_6)])), (mn, .inl (cI, 200, .inl (ia no)))] := hD
  refine lv_aload_n hx hb dX4_begin_51 rfl (lv_at hl 0 rfl) ?_
  refine lv_iconst (v := iI 0) hx hb dX4_begin_52 rfl ?_
  refine va_put (D := D) (ci := 4) (v := .int (iI 0)) (ty := .int) (C := RX4) (T := TX4) (N := 14) hx hb hts in_X4_begin_X4 tyX4 tyX4_ok nmX4 hown hK hP hD hS 0 rfl rfl 13 (by decide) (hts _ lk_X4_begin_10) (fun _ h9 => h9) rfl (by decide +kernel) rfl rfl (Nat.le_of_ble_eq_true rfl) dX4_begin_53 (fun H locs hP hD hS => ?_)
  have hP : va_P D vwCl [(sc, .inr (4, [.ref tm, .ref so, .ref sm, .ref sv, .ref qu, .ref me, .ref pa, .int (iI 0), .int (iI (-1)), .int (iI (-1)), .int (iI 0), .int (iI 0), .int (iI 0), .int (iI 0)])), (sv, .inr (3, [.ref ss, .ref sb])), (ss, .inl (cI, 12, .inl (ia st_1))), (sb, .inl (cI, 12, .inl (ia bg))), (qu, .inr (2, [.ref ql, .ref qt, .ref qs, .ref qr, .int (iI hd_2), .int (iI gr_3), .int (iI wt_4), .int (iI rt_5)])), (ql, .inl (cI, 200, .inl (ia le))), (qt, .inl (cI, 200, .inl (ia tr))), (qs, .inl (cI, 200, .inl (ia si))), (qr, .inl (cI, 200, .inl (ia rg))), (me, .inr (1, [.ref mn, .int (iI rd_6)])), (mn, .inl (cI, 200, .inl (ia no)))] H := hP
  have hD : va_D A [(sc, .inr (4, [.ref tm, .ref so, .ref sm, .ref sv, .ref qu, .ref me, .ref pa, .int (iI 0), .int (iI (-1)), .int (iI (-1)), .int (iI 0), .int (iI 0), .int (iI 0), .int (iI 0)])), (sv, .inr (3, [.ref ss, .ref sb])), (ss, .inl (cI, 12, .inl (ia st_1))), (sb, .inl (cI, 12, .inl (ia bg))), (qu, .inr (2, [.ref ql, .ref qt, .ref qs, .ref qr, .int (iI hd_2), .int (iI gr_3), .int (iI wt_4), .int (iI rt_5)])), (ql, .inl (cI, 200, .inl (ia le))), (qt, .inl (cI, 200, .inl (ia tr))), (qs, .inl (cI, 200, .inl (ia si))), (qr, .inl (cI, 200, .inl (ia rg))), (me, .inr (1, [.ref mn, .int (iI rd_6)])), (mn, .inl (cI, 200, .inl (ia no)))] := hD
  rw [hQ]
  refine q_retV (st_1, hd_2, gr_3, wt_4, rt_5, rd_6, 0, (-1), (-1), 0, 0, 0, 0) hx hb hr hlocks hK hP hD hS dX4_begin_56 ?_
  try dsimp only
  exact ⟨e4, by assumption, ⟨e11, f11, g11, h11, w18⟩, ⟨rfl, rfl, rfl, rfl, rfl, rfl, rfl⟩⟩

theorem in_X4_wantedByRule_X1 : ∀ w ∈ wsX10, w ∈ wsX4_wantedByRule := fun _ h => List.mem_cons_of_mem _ (List.mem_append_left _ (List.mem_append_left _ (List.mem_append_right _ h)))
theorem in_X4_wantedByRule_X4 : ∀ w ∈ wsX40, w ∈ wsX4_wantedByRule := fun _ h => List.mem_cons_of_mem _ (List.mem_append_left _ (List.mem_append_left _ (List.mem_append_left _ (List.mem_append_right _ h))))
theorem lk_X4_wantedByRule_1 : Cond.fieldLink RX4 9 "MoreHands$Service" "terms" "LMoreHands$Terms;" ∈ wsX4_wantedByRule := List.mem_of_getElem? (i := 1) rfl
theorem lk_X4_wantedByRule_2 : Cond.methodLink RX4 137 Lib.Math.max.name ∈ wsX4_wantedByRule := List.mem_of_getElem? (i := 2) rfl
theorem lk_X4_wantedByRule_3 : Cond.static Lib.Math.max.name ∈ wsX4_wantedByRule := List.mem_of_getElem? (i := 3) rfl
theorem lk_X4_wantedByRule_4 : Cond.initialized "java/lang/Math" ∈ wsX4_wantedByRule := List.mem_of_getElem? (i := 4) rfl
theorem lk_X4_wantedByRule_5 : Cond.code Lib.Math.max.name Lib.Math.max.code 2 (some .int) ∈ wsX4_wantedByRule := List.mem_of_getElem? (i := 5) rfl
theorem lk_X4_wantedByRule_6 : Cond.fieldLink RX4 40 "MoreHands$Service" "meter" "LMoreHands$Meter;" ∈ wsX4_wantedByRule := List.mem_of_getElem? (i := 6) rfl
theorem lk_X4_wantedByRule_7 : Cond.fieldLink RX4 26 "MoreHands$Service" "servers" "LMoreHands$Servers;" ∈ wsX4_wantedByRule := List.mem_of_getElem? (i := 7) rfl
set_option maxHeartbeats 4000000 in
set_option maxRecDepth 100000 in
theorem c_X4_wantedByRule (l : Launch) (D : va_G) (cI cZ cII : ClassId) (sc : Nat) (tm : Nat) (tv : Nat) (tp : Nat) (sv : Nat) (ss : Nat) (sb : Nat) (me : Nat) (mn : Nat) (so : Nat) (sm : Nat) (qu : Nat) (pa : Nat) (ti : Int) (wa : Int) (lc : Int) (ca : Int) (dn : Int) (lo : Int) (bi : Int) (se : Int → Int) (pl : Int → Int) (st : Int → Int) (bg : Int → Int) (rd : Int) (no : Int → Int) (hB_se : BB 0 1000 se) (hB_pl : BB 0 12 pl) (hB_st : BB 0 3 st) (hB_bg : BB 0 200 bg) (hB_no : BB (-1) 12000 no) (hse : SB se) (hrd : 0 ≤ rd ∧ rd ≤ 12000) : CtI l yX4_wantedByRule wsX4_wantedByRule 2 43 D (ty3 cI cZ cII) [.ref sc] [(sc, .inr (4, [.ref tm, .ref so, .ref sm, .ref sv, .ref qu, .ref me, .ref pa, .int (iI ti), .int (iI wa), .int (iI lc), .int (iI ca), .int (iI dn), .int (iI lo), .int (iI bi)])), (tm, .inr (5, [.ref tv, .ref tp])), (tv, .inl (cI, 19, .inl (ia se))), (tp, .inl (cI, 24, .inl (ia pl))), (sv, .inr (3, [.ref ss, .ref sb])), (ss, .inl (cI, 12, .inl (ia st))), (sb, .inl (cI, 12, .inl (ia bg))), (me, .inr (1, [.ref mn, .int (iI rd)])), (mn, .inl (cI, 200, .inl (ia no)))] (fun z (u : Unit) => z = (wbF se st rd)) (fun u => [(sc, .inr (4, [.ref tm, .ref so, .ref sm, .ref sv, .ref qu, .ref me, .ref pa, .int (iI ti), .int (iI wa), .int (iI lc), .int (iI ca), .int (iI dn), .int (iI lo), .int (iI bi)])), (tm, .inr (5, [.ref tv, .ref tp])), (tv, .inl (cI, 19, .inl (ia se))), (tp, .inl (cI, 24, .inl (ia pl))), (sv, .inr (3, [.ref ss, .ref sb])), (ss, .inl (cI, 12, .inl (ia st))), (sb, .inl (cI, 12, .inl (ia bg))), (me, .inr (1, [.ref mn, .int (iI rd)])), (mn, .inl (cI, 200, .inl (ia no)))]) := by
  refine CtI.mk (cc := cX4_wantedByRule) (maxL := 3) (ret := (some .int)) (by decide) rfl (Nat.le_of_ble_eq_true rfl) ?_
  intro p e s m below meth c A ls R args Q hx hb hml hr hts hown hlocks hA hK hP hD hN hS hl hRf hRl hQ
  have hl : lv_has ls 3 [(0, .ref sc)] := hl
  have hown : s.vm.findClass RX4 = some m.cls := hown
  have hsb := hse; unfold SB at hsb
  refine lv_aload_n hx hb dX4_wantedByRule_0 rfl (lv_at hl 0 rfl) ?_
  refine va_get (D := D) (ci := 4) (v := .ref tm) (C := RX4) (T := TX4) (N := 14) hx hb hts in_X4_wantedByRule_X4 hown hK hP 0 rfl rfl 0 (by decide) (hts _ lk_X4_wantedByRule_1) (fun _ h9 => h9) rfl dX4_wantedByRule_1 ?_
  refine lv_bipush (v := iI 10) hx hb dX4_wantedByRule_4 (by decide +kernel) ?_
  refine q_callVI (wr := [(sc, .inr (4, [.ref tm, .ref so, .ref sm, .ref sv, .ref qu, .ref me, .ref pa, .int (iI ti), .int (iI wa), .int (iI lc), .int (iI ca), .int (iI dn), .int (iI lo), .int (iI bi)])), (sv, .inr (3, [.ref ss, .ref sb])), (ss, .inl (cI, 12, .inl (ia st))), (sb, .inl (cI, 12, .inl (ia bg))), (me, .inr (1, [.ref mn, .int (iI rd)])), (mn, .inl (cI, 200, .inl (ia no)))]) (wn := fun (u : Unit) => [(sc, .inr (4, [.ref tm, .ref so, .ref sm, .ref sv, .ref qu, .ref me, .ref pa, .int (iI ti), .int (iI wa), .int (iI lc), .int (iI ca), .int (iI dn), .int (iI lo), .int (iI bi)])), (tm, .inr (5, [.ref tv, .ref tp])), (tv, .inl (cI, 19, .inl (ia se))), (tp, .inl (cI, 24, .inl (ia pl))), (sv, .inr (3, [.ref ss, .ref sb])), (ss, .inl (cI, 12, .inl (ia st))), (sb, .inl (cI, 12, .inl (ia bg))), (me, .inr (1, [.ref mn, .int (iI rd)])), (mn, .inl (cI, 200, .inl (ia no)))]) (rest := []) [.int (iI 10)] ⟨hx, hb, hml, hown, hts⟩ (c_X5_value l D cI cZ cII tm tv tp se pl 10 hB_se hB_pl ⟨by omega, by omega⟩) (cwV 1 hts gX4_wantedByRule_X5_value rfl rfl rfl (by decide +kernel) (by rw [hRf, hRl]; exact ⟨Nat.le_of_ble_eq_true rfl, Nat.le_of_ble_eq_true rfl⟩)) hK hP hD hS hA hN [1, 2, 3] [0, 4, 5, 6, 7, 8] [0, 6, 7, 8, 1, 2, 3, 4, 5] 1 5 rfl rfl rfl rfl rfl rfl (by decide) rfl (fun u => rfl) rfl hl.1 rfl (Nat.le_of_ble_eq_true rfl) dX4_wantedByRule_6 ⟨Nat.zero_le _, Nat.zero_le _⟩ (fun z u H locs hw hP hD hS => ?_)
  have hP : va_P D vwCl [(sc, .inr (4, [.ref tm, .ref so, .ref sm, .ref sv, .ref qu, .ref me, .ref pa, .int (iI ti), .int (iI wa), .int (iI lc), .int (iI ca), .int (iI dn), .int (iI lo), .int (iI bi)])), (tm, .inr (5, [.ref tv, .ref tp])), (tv, .inl (cI, 19, .inl (ia se))), (tp, .inl (cI, 24, .inl (ia pl))), (sv, .inr (3, [.ref ss, .ref sb])), (ss, .inl (cI, 12, .inl (ia st))), (sb, .inl (cI, 12, .inl (ia bg))), (me, .inr (1, [.ref mn, .int (iI rd)])), (mn, .inl (cI, 200, .inl (ia no)))] H := hP
  have hD : va_D A [(sc, .inr (4, [.ref tm, .ref so, .ref sm, .ref sv, .ref qu, .ref me, .ref pa, .int (iI ti), .int (iI wa), .int (iI lc), .int (iI ca), .int (iI dn), .int (iI lo), .int (iI bi)])), (tm, .inr (5, [.ref tv, .ref tp])), (tv, .inl (cI, 19, .inl (ia se))), (tp, .inl (cI, 24, .inl (ia pl))), (sv, .inr (3, [.ref ss, .ref sb])), (ss, .inl (cI, 12, .inl (ia st))), (sb, .inl (cI, 12, .inl (ia bg))), (me, .inr (1, [.ref mn, .int (iI rd)])), (mn, .inl (cI, 200, .inl (ia no)))] := hD
  obtain ⟨z_1, ez⟩ : ∃ y : Int, y = z := ⟨_, rfl⟩
  rw [← ez] at hw ⊢
  clear ez
  have w6 : z_1 = (tvF se (10 : Int)) := hw
  clear hw
  subst w6
  refine q_top (b := (se 10)) (by rfl) ?_
  refine lv_istore_n (lv' := [(1, .int (iI (se 10))), (0, .ref sc)]) hx hb dX4_wantedByRule_9 rfl hl (by decide) rfl (fun ls hl => ?_)
  refine lv_iload_n hx hb dX4_wantedByRule_10 rfl (lv_at hl 0 rfl) ?_
  refine lv_iconst (v := iI 1) hx hb dX4_wantedByRule_11 rfl ?_
  refine q_icmp_ne (tgt := 43) hx hb dX4_wantedByRule_12 (by decide) ⟨by omega, by omega⟩ ⟨by decide, by decide⟩ (fun c12 => ?_) (fun c12 => ?_)
  ·
    refine lv_aload_n hx hb dX4_wantedByRule_43 rfl (lv_at hl 1 rfl) ?_
    refine va_get (D := D) (ci := 4) (v := .ref sv) (C := RX4) (T := TX4) (N := 14) hx hb hts in_X4_wantedByRule_X4 hown hK hP 0 rfl rfl 3 (by decide) (hts _ lk_X4_wantedByRule_7) (fun _ h9 => h9) rfl dX4_wantedByRule_44 ?_
    refine q_callVI (wr := [(sc, .inr (4, [.ref tm, .ref so, .ref sm, .ref sv, .ref qu, .ref me, .ref pa, .int (iI ti), .int (iI wa), .int (iI lc), .int (iI ca), .int (iI dn), .int (iI lo), .int (iI bi)])), (tm, .inr (5, [.ref tv, .ref tp])), (tv, .inl (cI, 19, .inl (ia se))), (tp, .inl (cI, 24, .inl (ia pl))), (me, .inr (1, [.ref mn, .int (iI rd)])), (mn, .inl (cI, 200, .inl (ia no)))]) (wn := fun (u : Unit) => [(sc, .inr (4, [.ref tm, .ref so, .ref sm, .ref sv, .ref qu, .ref me, .ref pa, .int (iI ti), .int (iI wa), .int (iI lc), .int (iI ca), .int (iI dn), .int (iI lo), .int (iI bi)])), (tm, .inr (5, [.ref tv, .ref tp])), (tv, .inl (cI, 19, .inl (ia se))), (tp, .inl (cI, 24, .inl (ia pl))), (sv, .inr (3, [.ref ss, .ref sb])), (ss, .inl (cI, 12, .inl (ia st))), (sb, .inl (cI, 12, .inl (ia bg))), (me, .inr (1, [.ref mn, .int (iI rd)])), (mn, .inl (cI, 200, .inl (ia no)))]) (rest := []) [] ⟨hx, hb, hml, hown, hts⟩ (c_X3_up l D cI cZ cII sv ss sb st bg hB_st hB_bg) (cwV 0 hts gX4_wantedByRule_X3_up rfl rfl rfl (by decide +kernel) (by rw [hRf, hRl]; exact ⟨Nat.le_of_ble_eq_true rfl, Nat.le_of_ble_eq_true rfl⟩)) hK hP hD hS hA hN [4, 5, 6] [0, 1, 2, 3, 7, 8] [0, 1, 2, 3, 6, 7, 8, 4, 5] 4 3 rfl rfl rfl rfl rfl rfl (by decide) rfl (fun u => rfl) rfl hl.1 rfl (Nat.le_of_ble_eq_true rfl) dX4_wantedByRule_47 ⟨Nat.zero_le _, Nat.zero_le _⟩ (fun z u H locs hw hP hD hS => ?_)
    have hP : va_P D vwCl [(sc, .inr (4, [.ref tm, .ref so, .ref sm, .ref sv, .ref qu, .ref me, .ref pa, .int (iI ti), .int (iI wa), .int (iI lc), .int (iI ca), .int (iI dn), .int (iI lo), .int (iI bi)])), (tm, .inr (5, [.ref tv, .ref tp])), (tv, .inl (cI, 19, .inl (ia se))), (tp, .inl (cI, 24, .inl (ia pl))), (sv, .inr (3, [.ref ss, .ref sb])), (ss, .inl (cI, 12, .inl (ia st))), (sb, .inl (cI, 12, .inl (ia bg))), (me, .inr (1, [.ref mn, .int (iI rd)])), (mn, .inl (cI, 200, .inl (ia no)))] H := hP
    have hD : va_D A [(sc, .inr (4, [.ref tm, .ref so, .ref sm, .ref sv, .ref qu, .ref me, .ref pa, .int (iI ti), .int (iI wa), .int (iI lc), .int (iI ca), .int (iI dn), .int (iI lo), .int (iI bi)])), (tm, .inr (5, [.ref tv, .ref tp])), (tv, .inl (cI, 19, .inl (ia se))), (tp, .inl (cI, 24, .inl (ia pl))), (sv, .inr (3, [.ref ss, .ref sb])), (ss, .inl (cI, 12, .inl (ia st))), (sb, .inl (cI, 12, .inl (ia bg))), (me, .inr (1, [.ref mn, .int (iI rd)])), (mn, .inl (cI, 200, .inl (ia no)))] := hD
    obtain ⟨z_2, ez⟩ : ∃ y : Int, y = z := ⟨_, rfl⟩
    rw [← ez] at hw ⊢
    clear ez
    have w47 : z_2 = (upS st) := hw
    clear hw
    subst w47
    refine lv_istore_n (lv' := [(2, .int (iI (upS st))), (1, .int (iI (se 10))), (0, .ref sc)]) hx hb dX4_wantedByRule_50 rfl hl (by decide) rfl (fun ls hl => ?_)
    refine lv_iload_n hx hb dX4_wantedByRule_51 rfl (lv_at hl 1 rfl) ?_
    refine lv_iconst (v := iI 2) hx hb dX4_wantedByRule_52 rfl ?_
    refine q_icmp_ne (tgt := 87) hx hb dX4_wantedByRule_53 (by decide) ⟨by omega, by omega⟩ ⟨by decide, by decide⟩ (fun c53 => ?_) (fun c53 => ?_)
    ·
      refine lv_iload_n hx hb dX4_wantedByRule_87 rfl (lv_at hl 1 rfl) ?_
      refine lv_iconst (v := iI 2) hx hb dX4_wantedByRule_88 rfl ?_
      refine q_icmp_ne (tgt := 123) hx hb dX4_wantedByRule_89 (by decide) ⟨by omega, by omega⟩ ⟨by decide, by decide⟩ (fun c89 => ?_) (fun c89 => ?_)
      ·
        refine lv_iload_n hx hb dX4_wantedByRule_123 rfl (lv_at hl 0 rfl) ?_
        rw [hQ]
        refine q_retI () hx hb hr hlocks hK hP hD hS dX4_wantedByRule_124 ?_
        first | (exfalso; omega) | skip
        all_goals (unfold wbF; first | (rw [if_pos (by omega), show max (se 11) 1 = se 11 by omega]) | (rw [if_neg (by omega), if_pos (by omega)]) | (rw [if_neg (by omega), if_neg (by omega), if_pos (by omega)]) | (rw [if_neg (by omega), if_neg (by omega), if_neg (by omega)]))
      ·
        refine lv_aload_n hx hb dX4_wantedByRule_92 rfl (lv_at hl 2 rfl) ?_
        refine va_get (D := D) (ci := 4) (v := .ref me) (C := RX4) (T := TX4) (N := 14) hx hb hts in_X4_wantedByRule_X4 hown hK hP 0 rfl rfl 5 (by decide) (hts _ lk_X4_wantedByRule_6) (fun _ h9 => h9) rfl dX4_wantedByRule_93 ?_
        refine va_getN (D := D) (ci := 1) (v := .int (iI rd)) (C := RX1) (T := TX1) (N := 2) hx hb hts in_X4_wantedByRule_X1 hown hK hP 7 rfl rfl 1 (by decide) (hN.2.2.2.2.2.2.2.1.use rfl) (fun _ h9 => h9) rfl dX4_wantedByRule_96 ?_
        refine lv_aload_n hx hb dX4_wantedByRule_99 rfl (lv_at hl 2 rfl) ?_
        refine va_get (D := D) (ci := 4) (v := .ref tm) (C := RX4) (T := TX4) (N := 14) hx hb hts in_X4_wantedByRule_X4 hown hK hP 0 rfl rfl 0 (by decide) (hts _ lk_X4_wantedByRule_1) (fun _ h9 => h9) rfl dX4_wantedByRule_100 ?_
        refine lv_bipush (v := iI 13) hx hb dX4_wantedByRule_103 (by decide +kernel) ?_
        refine q_callVI (wr := [(sc, .inr (4, [.ref tm, .ref so, .ref sm, .ref sv, .ref qu, .ref me, .ref pa, .int (iI ti), .int (iI wa), .int (iI lc), .int (iI ca), .int (iI dn), .int (iI lo), .int (iI bi)])), (sv, .inr (3, [.ref ss, .ref sb])), (ss, .inl (cI, 12, .inl (ia st))), (sb, .inl (cI, 12, .inl (ia bg))), (me, .inr (1, [.ref mn, .int (iI rd)])), (mn, .inl (cI, 200, .inl (ia no)))]) (wn := fun (u : Unit) => [(sc, .inr (4, [.ref tm, .ref so, .ref sm, .ref sv, .ref qu, .ref me, .ref pa, .int (iI ti), .int (iI wa), .int (iI lc), .int (iI ca), .int (iI dn), .int (iI lo), .int (iI bi)])), (tm, .inr (5, [.ref tv, .ref tp])), (tv, .inl (cI, 19, .inl (ia se))), (tp, .inl (cI, 24, .inl (ia pl))), (sv, .inr (3, [.ref ss, .ref sb])), (ss, .inl (cI, 12, .inl (ia st))), (sb, .inl (cI, 12, .inl (ia bg))), (me, .inr (1, [.ref mn, .int (iI rd)])), (mn, .inl (cI, 200, .inl (ia no)))]) (rest := [.int (iI rd)]) [.int (iI 13)] ⟨hx, hb, hml, hown, hts⟩ (c_X5_value l D cI cZ cII tm tv tp se pl 13 hB_se hB_pl ⟨by omega, by omega⟩) (cwV 1 hts gX4_wantedByRule_X5_value rfl rfl rfl (by decide +kernel) (by rw [hRf, hRl]; exact ⟨Nat.le_of_ble_eq_true rfl, Nat.le_of_ble_eq_true rfl⟩)) hK hP hD hS hA hN [1, 2, 3] [0, 4, 5, 6, 7, 8] [0, 6, 7, 8, 1, 2, 3, 4, 5] 1 5 rfl rfl rfl rfl rfl rfl (by decide) rfl (fun u => rfl) rfl hl.1 rfl (Nat.le_of_ble_eq_true rfl) dX4_wantedByRule_105 ⟨Nat.zero_le _, Nat.zero_le _⟩ (fun z u H locs hw hP hD hS => ?_)
        have hP : va_P D vwCl [(sc, .inr (4, [.ref tm, .ref so, .ref sm, .ref sv, .ref qu, .ref me, .ref pa, .int (iI ti), .int (iI wa), .int (iI lc), .int (iI ca), .int (iI dn), .int (iI lo), .int (iI bi)])), (tm, .inr (5, [.ref tv, .ref tp])), (tv, .inl (cI, 19, .inl (ia se))), (tp, .inl (cI, 24, .inl (ia pl))), (sv, .inr (3, [.ref ss, .ref sb])), (ss, .inl (cI, 12, .inl (ia st))), (sb, .inl (cI, 12, .inl (ia bg))), (me, .inr (1, [.ref mn, .int (iI rd)])), (mn, .inl (cI, 200, .inl (ia no)))] H := hP
        have hD : va_D A [(sc, .inr (4, [.ref tm, .ref so, .ref sm, .ref sv, .ref qu, .ref me, .ref pa, .int (iI ti), .int (iI wa), .int (iI lc), .int (iI ca), .int (iI dn), .int (iI lo), .int (iI bi)])), (tm, .inr (5, [.ref tv, .ref tp])), (tv, .inl (cI, 19, .inl (ia se))), (tp, .inl (cI, 24, .inl (ia pl))), (sv, .inr (3, [.ref ss, .ref sb])), (ss, .inl (cI, 12, .inl (ia st))), (sb, .inl (cI, 12, .inl (ia bg))), (me, .inr (1, [.ref mn, .int (iI rd)])), (mn, .inl (cI, 200, .inl (ia no)))] := hD
        obtain ⟨z_3, ez⟩ : ∃ y : Int, y = z := ⟨_, rfl⟩
        rw [← ez] at hw ⊢
        clear ez
        have w105 : z_3 = (tvF se (13 : Int)) := hw
        clear hw
        subst w105
        refine q_top (b := (se 13)) (by rfl) ?_
        refine q_icmp_ge (tgt := 123) hx hb dX4_wantedByRule_108 (by decide) ⟨by omega, by omega⟩ ⟨by omega, by omega⟩ (fun c108 => ?_) (fun c108 => ?_)
        ·
          refine lv_iload_n hx hb dX4_wantedByRule_123 rfl (lv_at hl 0 rfl) ?_
          rw [hQ]
          refine q_retI () hx hb hr hlocks hK hP hD hS dX4_wantedByRule_124 ?_
          first | (exfalso; omega) | skip
          all_goals (unfold wbF; first | (rw [if_pos (by omega), show max (se 11) 1 = se 11 by omega]) | (rw [if_neg (by omega), if_pos (by omega)]) | (rw [if_neg (by omega), if_neg (by omega), if_pos (by omega)]) | (rw [if_neg (by omega), if_neg (by omega), if_neg (by omega)]))
        ·
          refine lv_iload_n hx hb dX4_wantedByRule_111 rfl (lv_at hl 0 rfl) ?_
          refine lv_aload_n hx hb dX4_wantedByRule_112 rfl (lv_at hl 2 rfl) ?_
          refine va_get (D := D) (ci := 4) (v := .ref tm) (C := RX4) (T := TX4) (N := 14) hx hb hts in_X4_wantedByRule_X4 hown hK hP 0 rfl rfl 0 (by decide) (hts _ lk_X4_wantedByRule_1) (fun _ h9 => h9) rfl dX4_wantedByRule_113 ?_
          refine lv_bipush (v := iI 15) hx hb dX4_wantedByRule_116 (by decide +kernel) ?_
          refine q_callVI (wr := [(sc, .inr (4, [.ref tm, .ref so, .ref sm, .ref sv, .ref qu, .ref me, .ref pa, .int (iI ti), .int (iI wa), .int (iI lc), .int (iI ca), .int (iI dn), .int (iI lo), .int (iI bi)])), (sv, .inr (3, [.ref ss, .ref sb])), (ss, .inl (cI, 12, .inl (ia st))), (sb, .inl (cI, 12, .inl (ia bg))), (me, .inr (1, [.ref mn, .int (iI rd)])), (mn, .inl (cI, 200, .inl (ia no)))]) (wn := fun (u : Unit) => [(sc, .inr (4, [.ref tm, .ref so, .ref sm, .ref sv, .ref qu, .ref me, .ref pa, .int (iI ti), .int (iI wa), .int (iI lc), .int (iI ca), .int (iI dn), .int (iI lo), .int (iI bi)])), (tm, .inr (5, [.ref tv, .ref tp])), (tv, .inl (cI, 19, .inl (ia se))), (tp, .inl (cI, 24, .inl (ia pl))), (sv, .inr (3, [.ref ss, .ref sb])), (ss, .inl (cI, 12, .inl (ia st))), (sb, .inl (cI, 12, .inl (ia bg))), (me, .inr (1, [.ref mn, .int (iI rd)])), (mn, .inl (cI, 200, .inl (ia no)))]) (rest := [.int (iI (upS st))]) [.int (iI 15)] ⟨hx, hb, hml, hown, hts⟩ (c_X5_value l D cI cZ cII tm tv tp se pl 15 hB_se hB_pl ⟨by omega, by omega⟩) (cwV 1 hts gX4_wantedByRule_X5_value rfl rfl rfl (by decide +kernel) (by rw [hRf, hRl]; exact ⟨Nat.le_of_ble_eq_true rfl, Nat.le_of_ble_eq_true rfl⟩)) hK hP hD hS hA hN [1, 2, 3] [0, 4, 5, 6, 7, 8] [0, 6, 7, 8, 1, 2, 3, 4, 5] 1 5 rfl rfl rfl rfl rfl rfl (by decide) rfl (fun u => rfl) rfl hl.1 rfl (Nat.le_of_ble_eq_true rfl) dX4_wantedByRule_118 ⟨Nat.zero_le _, Nat.zero_le _⟩ (fun z u H locs hw hP hD hS => ?_)
          have hP : va_P D vwCl [(sc, .inr (4, [.ref tm, .ref so, .ref sm, .ref sv, .ref qu, .ref me, .ref pa, .int (iI ti), .int (iI wa), .int (iI lc), .int (iI ca), .int (iI dn), .int (iI lo), .int (iI bi)])), (tm, .inr (5, [.ref tv, .ref tp])), (tv, .inl (cI, 19, .inl (ia se))), (tp, .inl (cI, 24, .inl (ia pl))), (sv, .inr (3, [.ref ss, .ref sb])), (ss, .inl (cI, 12, .inl (ia st))), (sb, .inl (cI, 12, .inl (ia bg))), (me, .inr (1, [.ref mn, .int (iI rd)])), (mn, .inl (cI, 200, .inl (ia no)))] H := hP
          have hD : va_D A [(sc, .inr (4, [.ref tm, .ref so, .ref sm, .ref sv, .ref qu, .ref me, .ref pa, .int (iI ti), .int (iI wa), .int (iI lc), .int (iI ca), .int (iI dn), .int (iI lo), .int (iI bi)])), (tm, .inr (5, [.ref tv, .ref tp])), (tv, .inl (cI, 19, .inl (ia se))), (tp, .inl (cI, 24, .inl (ia pl))), (sv, .inr (3, [.ref ss, .ref sb])), (ss, .inl (cI, 12, .inl (ia st))), (sb, .inl (cI, 12, .inl (ia bg))), (me, .inr (1, [.ref mn, .int (iI rd)])), (mn, .inl (cI, 200, .inl (ia no)))] := hD
          obtain ⟨z_4, ez⟩ : ∃ y : Int, y = z := ⟨_, rfl⟩
          rw [← ez] at hw ⊢
          clear ez
          have w118 : z_4 = (tvF se (15 : Int)) := hw
          clear hw
          subst w118
          refine q_top (b := (se 15)) (by rfl) ?_
          refine q_isub hx hb dX4_wantedByRule_121 ?_
          rw [hQ]
          refine q_retI () hx hb hr hlocks hK hP hD hS dX4_wantedByRule_122 ?_
          first | (exfalso; omega) | skip
          all_goals (unfold wbF; first | (rw [if_pos (by omega), show max (se 11) 1 = se 11 by omega]) | (rw [if_neg (by omega), if_pos (by omega)]) | (rw [if_neg (by omega), if_neg (by omega), if_pos (by omega)]) | (rw [if_neg (by omega), if_neg (by omega), if_neg (by omega)]))
    ·
      refine lv_aload_n hx hb dX4_wantedByRule_56 rfl (lv_at hl 2 rfl) ?_
      refine va_get (D := D) (ci := 4) (v := .ref me) (C := RX4) (T := TX4) (N := 14) hx hb hts in_X4_wantedByRule_X4 hown hK hP 0 rfl rfl 5 (by decide) (hts _ lk_X4_wantedByRule_6) (fun _ h9 => h9) rfl dX4_wantedByRule_57 ?_
      refine va_getN (D := D) (ci := 1) (v := .int (iI rd)) (C := RX1) (T := TX1) (N := 2) hx hb hts in_X4_wantedByRule_X1 hown hK hP 7 rfl rfl 1 (by decide) (hN.2.2.2.2.2.2.2.1.use rfl) (fun _ h9 => h9) rfl dX4_wantedByRule_60 ?_
      refine lv_aload_n hx hb dX4_wantedByRule_63 rfl (lv_at hl 2 rfl) ?_
      refine va_get (D := D) (ci := 4) (v := .ref tm) (C := RX4) (T := TX4) (N := 14) hx hb hts in_X4_wantedByRule_X4 hown hK hP 0 rfl rfl 0 (by decide) (hts _ lk_X4_wantedByRule_1) (fun _ h9 => h9) rfl dX4_wantedByRule_64 ?_
      refine lv_bipush (v := iI 12) hx hb dX4_wantedByRule_67 (by decide +kernel) ?_
      refine q_callVI (wr := [(sc, .inr (4, [.ref tm, .ref so, .ref sm, .ref sv, .ref qu, .ref me, .ref pa, .int (iI ti), .int (iI wa), .int (iI lc), .int (iI ca), .int (iI dn), .int (iI lo), .int (iI bi)])), (sv, .inr (3, [.ref ss, .ref sb])), (ss, .inl (cI, 12, .inl (ia st))), (sb, .inl (cI, 12, .inl (ia bg))), (me, .inr (1, [.ref mn, .int (iI rd)])), (mn, .inl (cI, 200, .inl (ia no)))]) (wn := fun (u : Unit) => [(sc, .inr (4, [.ref tm, .ref so, .ref sm, .ref sv, .ref qu, .ref me, .ref pa, .int (iI ti), .int (iI wa), .int (iI lc), .int (iI ca), .int (iI dn), .int (iI lo), .int (iI bi)])), (tm, .inr (5, [.ref tv, .ref tp])), (tv, .inl (cI, 19, .inl (ia se))), (tp, .inl (cI, 24, .inl (ia pl))), (sv, .inr (3, [.ref ss, .ref sb])), (ss, .inl (cI, 12, .inl (ia st))), (sb, .inl (cI, 12, .inl (ia bg))), (me, .inr (1, [.ref mn, .int (iI rd)])), (mn, .inl (cI, 200, .inl (ia no)))]) (rest := [.int (iI rd)]) [.int (iI 12)] ⟨hx, hb, hml, hown, hts⟩ (c_X5_value l D cI cZ cII tm tv tp se pl 12 hB_se hB_pl ⟨by omega, by omega⟩) (cwV 1 hts gX4_wantedByRule_X5_value rfl rfl rfl (by decide +kernel) (by rw [hRf, hRl]; exact ⟨Nat.le_of_ble_eq_true rfl, Nat.le_of_ble_eq_true rfl⟩)) hK hP hD hS hA hN [1, 2, 3] [0, 4, 5, 6, 7, 8] [0, 6, 7, 8, 1, 2, 3, 4, 5] 1 5 rfl rfl rfl rfl rfl rfl (by decide) rfl (fun u => rfl) rfl hl.1 rfl (Nat.le_of_ble_eq_true rfl) dX4_wantedByRule_69 ⟨Nat.zero_le _, Nat.zero_le _⟩ (fun z u H locs hw hP hD hS => ?_)
      have hP : va_P D vwCl [(sc, .inr (4, [.ref tm, .ref so, .ref sm, .ref sv, .ref qu, .ref me, .ref pa, .int (iI ti), .int (iI wa), .int (iI lc), .int (iI ca), .int (iI dn), .int (iI lo), .int (iI bi)])), (tm, .inr (5, [.ref tv, .ref tp])), (tv, .inl (cI, 19, .inl (ia se))), (tp, .inl (cI, 24, .inl (ia pl))), (sv, .inr (3, [.ref ss, .ref sb])), (ss, .inl (cI, 12, .inl (ia st))), (sb, .inl (cI, 12, .inl (ia bg))), (me, .inr (1, [.ref mn, .int (iI rd)])), (mn, .inl (cI, 200, .inl (ia no)))] H := hP
      have hD : va_D A [(sc, .inr (4, [.ref tm, .ref so, .ref sm, .ref sv, .ref qu, .ref me, .ref pa, .int (iI ti), .int (iI wa), .int (iI lc), .int (iI ca), .int (iI dn), .int (iI lo), .int (iI bi)])), (tm, .inr (5, [.ref tv, .ref tp])), (tv, .inl (cI, 19, .inl (ia se))), (tp, .inl (cI, 24, .inl (ia pl))), (sv, .inr (3, [.ref ss, .ref sb])), (ss, .inl (cI, 12, .inl (ia st))), (sb, .inl (cI, 12, .inl (ia bg))), (me, .inr (1, [.ref mn, .int (iI rd)])), (mn, .inl (cI, 200, .inl (ia no)))] := hD
      obtain ⟨z_5, ez⟩ : ∃ y : Int, y = z := ⟨_, rfl⟩
      rw [← ez] at hw ⊢
      clear ez
      have w69 : z_5 = (tvF se (12 : Int)) := hw
      clear hw
      subst w69
      refine q_top (b := (se 12)) (by rfl) ?_
      refine q_icmp_le (tgt := 87) hx hb dX4_wantedByRule_72 (by decide) ⟨by omega, by omega⟩ ⟨by omega, by omega⟩ (fun c72 => ?_) (fun c72 => ?_)
      ·
        refine lv_iload_n hx hb dX4_wantedByRule_87 rfl (lv_at hl 1 rfl) ?_
        refine lv_iconst (v := iI 2) hx hb dX4_wantedByRule_88 rfl ?_
        refine q_icmp_ne (tgt := 123) hx hb dX4_wantedByRule_89 (by decide) ⟨by omega, by omega⟩ ⟨by decide, by decide⟩ (fun c89 => ?_) (fun c89 => ?_)
        ·
          refine lv_iload_n hx hb dX4_wantedByRule_123 rfl (lv_at hl 0 rfl) ?_
          rw [hQ]
          refine q_retI () hx hb hr hlocks hK hP hD hS dX4_wantedByRule_124 ?_
          first | (exfalso; omega) | skip
          all_goals (unfold wbF; first | (rw [if_pos (by omega), show max (se 11) 1 = se 11 by omega]) | (rw [if_neg (by omega), if_pos (by omega)]) | (rw [if_neg (by omega), if_neg (by omega), if_pos (by omega)]) | (rw [if_neg (by omega), if_neg (by omega), if_neg (by omega)]))
        ·
          refine lv_aload_n hx hb dX4_wantedByRule_92 rfl (lv_at hl 2 rfl) ?_
          refine va_get (D := D) (ci := 4) (v := .ref me) (C := RX4) (T := TX4) (N := 14) hx hb hts in_X4_wantedByRule_X4 hown hK hP 0 rfl rfl 5 (by decide) (hts _ lk_X4_wantedByRule_6) (fun _ h9 => h9) rfl dX4_wantedByRule_93 ?_
          refine va_getN (D := D) (ci := 1) (v := .int (iI rd)) (C := RX1) (T := TX1) (N := 2) hx hb hts in_X4_wantedByRule_X1 hown hK hP 7 rfl rfl 1 (by decide) (hN.2.2.2.2.2.2.2.1.use rfl) (fun _ h9 => h9) rfl dX4_wantedByRule_96 ?_
          refine lv_aload_n hx hb dX4_wantedByRule_99 rfl (lv_at hl 2 rfl) ?_
          refine va_get (D := D) (ci := 4) (v := .ref tm) (C := RX4) (T := TX4) (N := 14) hx hb hts in_X4_wantedByRule_X4 hown hK hP 0 rfl rfl 0 (by decide) (hts _ lk_X4_wantedByRule_1) (fun _ h9 => h9) rfl dX4_wantedByRule_100 ?_
          refine lv_bipush (v := iI 13) hx hb dX4_wantedByRule_103 (by decide +kernel) ?_
          refine q_callVI (wr := [(sc, .inr (4, [.ref tm, .ref so, .ref sm, .ref sv, .ref qu, .ref me, .ref pa, .int (iI ti), .int (iI wa), .int (iI lc), .int (iI ca), .int (iI dn), .int (iI lo), .int (iI bi)])), (sv, .inr (3, [.ref ss, .ref sb])), (ss, .inl (cI, 12, .inl (ia st))), (sb, .inl (cI, 12, .inl (ia bg))), (me, .inr (1, [.ref mn, .int (iI rd)])), (mn, .inl (cI, 200, .inl (ia no)))]) (wn := fun (u : Unit) => [(sc, .inr (4, [.ref tm, .ref so, .ref sm, .ref sv, .ref qu, .ref me, .ref pa, .int (iI ti), .int (iI wa), .int (iI lc), .int (iI ca), .int (iI dn), .int (iI lo), .int (iI bi)])), (tm, .inr (5, [.ref tv, .ref tp])), (tv, .inl (cI, 19, .inl (ia se))), (tp, .inl (cI, 24, .inl (ia pl))), (sv, .inr (3, [.ref ss, .ref sb])), (ss, .inl (cI, 12, .inl (ia st))), (sb, .inl (cI, 12, .inl (ia bg))), (me, .inr (1, [.ref mn, .int (iI rd)])), (mn, .inl (cI, 200, .inl (ia no)))]) (rest := [.int (iI rd)]) [.int (iI 13)] ⟨hx, hb, hml, hown, hts⟩ (c_X5_value l D cI cZ cII tm tv tp se pl 13 hB_se hB_pl ⟨by omega, by omega⟩) (cwV 1 hts gX4_wantedByRule_X5_value rfl rfl rfl (by decide +kernel) (by rw [hRf, hRl]; exact ⟨Nat.le_of_ble_eq_true rfl, Nat.le_of_ble_eq_true rfl⟩)) hK hP hD hS hA hN [1, 2, 3] [0, 4, 5, 6, 7, 8] [0, 6, 7, 8, 1, 2, 3, 4, 5] 1 5 rfl rfl rfl rfl rfl rfl (by decide) rfl (fun u => rfl) rfl hl.1 rfl (Nat.le_of_ble_eq_true rfl) dX4_wantedByRule_105 ⟨Nat.zero_le _, Nat.zero_le _⟩ (fun z u H locs hw hP hD hS => ?_)
          have hP : va_P D vwCl [(sc, .inr (4, [.ref tm, .ref so, .ref sm, .ref sv, .ref qu, .ref me, .ref pa, .int (iI ti), .int (iI wa), .int (iI lc), .int (iI ca), .int (iI dn), .int (iI lo), .int (iI bi)])), (tm, .inr (5, [.ref tv, .ref tp])), (tv, .inl (cI, 19, .inl (ia se))), (tp, .inl (cI, 24, .inl (ia pl))), (sv, .inr (3, [.ref ss, .ref sb])), (ss, .inl (cI, 12, .inl (ia st))), (sb, .inl (cI, 12, .inl (ia bg))), (me, .inr (1, [.ref mn, .int (iI rd)])), (mn, .inl (cI, 200, .inl (ia no)))] H := hP
          have hD : va_D A [(sc, .inr (4, [.ref tm, .ref so, .ref sm, .ref sv, .ref qu, .ref me, .ref pa, .int (iI ti), .int (iI wa), .int (iI lc), .int (iI ca), .int (iI dn), .int (iI lo), .int (iI bi)])), (tm, .inr (5, [.ref tv, .ref tp])), (tv, .inl (cI, 19, .inl (ia se))), (tp, .inl (cI, 24, .inl (ia pl))), (sv, .inr (3, [.ref ss, .ref sb])), (ss, .inl (cI, 12, .inl (ia st))), (sb, .inl (cI, 12, .inl (ia bg))), (me, .inr (1, [.ref mn, .int (iI rd)])), (mn, .inl (cI, 200, .inl (ia no)))] := hD
          obtain ⟨z_6, ez⟩ : ∃ y : Int, y = z := ⟨_, rfl⟩
          rw [← ez] at hw ⊢
          clear ez
          have w105 : z_6 = (tvF se (13 : Int)) := hw
          clear hw
          subst w105
          refine q_top (b := (se 13)) (by rfl) ?_
          refine q_icmp_ge (tgt := 123) hx hb dX4_wantedByRule_108 (by decide) ⟨by omega, by omega⟩ ⟨by omega, by omega⟩ (fun c108 => ?_) (fun c108 => ?_)
          ·
            refine lv_iload_n hx hb dX4_wantedByRule_123 rfl (lv_at hl 0 rfl) ?_
            rw [hQ]
            refine q_retI () hx hb hr hlocks hK hP hD hS dX4_wantedByRule_124 ?_
            first | (exfalso; omega) | skip
            all_goals (unfold wbF; first | (rw [if_pos (by omega), show max (se 11) 1 = se 11 by omega]) | (rw [if_neg (by omega), if_pos (by omega)]) | (rw [if_neg (by omega), if_neg (by omega), if_pos (by omega)]) | (rw [if_neg (by omega), if_neg (by omega), if_neg (by omega)]))
          ·
            refine lv_iload_n hx hb dX4_wantedByRule_111 rfl (lv_at hl 0 rfl) ?_
            refine lv_aload_n hx hb dX4_wantedByRule_112 rfl (lv_at hl 2 rfl) ?_
            refine va_get (D := D) (ci := 4) (v := .ref tm) (C := RX4) (T := TX4) (N := 14) hx hb hts in_X4_wantedByRule_X4 hown hK hP 0 rfl rfl 0 (by decide) (hts _ lk_X4_wantedByRule_1) (fun _ h9 => h9) rfl dX4_wantedByRule_113 ?_
            refine lv_bipush (v := iI 15) hx hb dX4_wantedByRule_116 (by decide +kernel) ?_
            refine q_callVI (wr := [(sc, .inr (4, [.ref tm, .ref so, .ref sm, .ref sv, .ref qu, .ref me, .ref pa, .int (iI ti), .int (iI wa), .int (iI lc), .int (iI ca), .int (iI dn), .int (iI lo), .int (iI bi)])), (sv, .inr (3, [.ref ss, .ref sb])), (ss, .inl (cI, 12, .inl (ia st))), (sb, .inl (cI, 12, .inl (ia bg))), (me, .inr (1, [.ref mn, .int (iI rd)])), (mn, .inl (cI, 200, .inl (ia no)))]) (wn := fun (u : Unit) => [(sc, .inr (4, [.ref tm, .ref so, .ref sm, .ref sv, .ref qu, .ref me, .ref pa, .int (iI ti), .int (iI wa), .int (iI lc), .int (iI ca), .int (iI dn), .int (iI lo), .int (iI bi)])), (tm, .inr (5, [.ref tv, .ref tp])), (tv, .inl (cI, 19, .inl (ia se))), (tp, .inl (cI, 24, .inl (ia pl))), (sv, .inr (3, [.ref ss, .ref sb])), (ss, .inl (cI, 12, .inl (ia st))), (sb, .inl (cI, 12, .inl (ia bg))), (me, .inr (1, [.ref mn, .int (iI rd)])), (mn, .inl (cI, 200, .inl (ia no)))]) (rest := [.int (iI (upS st))]) [.int (iI 15)] ⟨hx, hb, hml, hown, hts⟩ (c_X5_value l D cI cZ cII tm tv tp se pl 15 hB_se hB_pl ⟨by omega, by omega⟩) (cwV 1 hts gX4_wantedByRule_X5_value rfl rfl rfl (by decide +kernel) (by rw [hRf, hRl]; exact ⟨Nat.le_of_ble_eq_true rfl, Nat.le_of_ble_eq_true rfl⟩)) hK hP hD hS hA hN [1, 2, 3] [0, 4, 5, 6, 7, 8] [0, 6, 7, 8, 1, 2, 3, 4, 5] 1 5 rfl rfl rfl rfl rfl rfl (by decide) rfl (fun u => rfl) rfl hl.1 rfl (Nat.le_of_ble_eq_true rfl) dX4_wantedByRule_118 ⟨Nat.zero_le _, Nat.zero_le _⟩ (fun z u H locs hw hP hD hS => ?_)
            have hP : va_P D vwCl [(sc, .inr (4, [.ref tm, .ref so, .ref sm, .ref sv, .ref qu, .ref me, .ref pa, .int (iI ti), .int (iI wa), .int (iI lc), .int (iI ca), .int (iI dn), .int (iI lo), .int (iI bi)])), (tm, .inr (5, [.ref tv, .ref tp])), (tv, .inl (cI, 19, .inl (ia se))), (tp, .inl (cI, 24, .inl (ia pl))), (sv, .inr (3, [.ref ss, .ref sb])), (ss, .inl (cI, 12, .inl (ia st))), (sb, .inl (cI, 12, .inl (ia bg))), (me, .inr (1, [.ref mn, .int (iI rd)])), (mn, .inl (cI, 200, .inl (ia no)))] H := hP
            have hD : va_D A [(sc, .inr (4, [.ref tm, .ref so, .ref sm, .ref sv, .ref qu, .ref me, .ref pa, .int (iI ti), .int (iI wa), .int (iI lc), .int (iI ca), .int (iI dn), .int (iI lo), .int (iI bi)])), (tm, .inr (5, [.ref tv, .ref tp])), (tv, .inl (cI, 19, .inl (ia se))), (tp, .inl (cI, 24, .inl (ia pl))), (sv, .inr (3, [.ref ss, .ref sb])), (ss, .inl (cI, 12, .inl (ia st))), (sb, .inl (cI, 12, .inl (ia bg))), (me, .inr (1, [.ref mn, .int (iI rd)])), (mn, .inl (cI, 200, .inl (ia no)))] := hD
            obtain ⟨z_7, ez⟩ : ∃ y : Int, y = z := ⟨_, rfl⟩
            rw [← ez] at hw ⊢
            clear ez
            have w118 : z_7 = (tvF se (15 : Int)) := hw
            clear hw
            subst w118
            refine q_top (b := (se 15)) (by rfl) ?_
            refine q_isub hx hb dX4_wantedByRule_121 ?_
            rw [hQ]
            refine q_retI () hx hb hr hlocks hK hP hD hS dX4_wantedByRule_122 ?_
            first | (exfalso; omega) | skip
            all_goals (unfold wbF; first | (rw [if_pos (by omega), show max (se 11) 1 = se 11 by omega]) | (rw [if_neg (by omega), if_pos (by omega)]) | (rw [if_neg (by omega), if_neg (by omega), if_pos (by omega)]) | (rw [if_neg (by omega), if_neg (by omega), if_neg (by omega)]))
      ·
        refine lv_iload_n hx hb dX4_wantedByRule_75 rfl (lv_at hl 0 rfl) ?_
        refine lv_aload_n hx hb dX4_wantedByRule_76 rfl (lv_at hl 2 rfl) ?_
        refine va_get (D := D) (ci := 4) (v := .ref tm) (C := RX4) (T := TX4) (N := 14) hx hb hts in_X4_wantedByRule_X4 hown hK hP 0 rfl rfl 0 (by decide) (hts _ lk_X4_wantedByRule_1) (fun _ h9 => h9) rfl dX4_wantedByRule_77 ?_
        refine lv_bipush (v := iI 14) hx hb dX4_wantedByRule_80 (by decide +kernel) ?_
        refine q_callVI (wr := [(sc, .inr (4, [.ref tm, .ref so, .ref sm, .ref sv, .ref qu, .ref me, .ref pa, .int (iI ti), .int (iI wa), .int (iI lc), .int (iI ca), .int (iI dn), .int (iI lo), .int (iI bi)])), (sv, .inr (3, [.ref ss, .ref sb])), (ss, .inl (cI, 12, .inl (ia st))), (sb, .inl (cI, 12, .inl (ia bg))), (me, .inr (1, [.ref mn, .int (iI rd)])), (mn, .inl (cI, 200, .inl (ia no)))]) (wn := fun (u : Unit) => [(sc, .inr (4, [.ref tm, .ref so, .ref sm, .ref sv, .ref qu, .ref me, .ref pa, .int (iI ti), .int (iI wa), .int (iI lc), .int (iI ca), .int (iI dn), .int (iI lo), .int (iI bi)])), (tm, .inr (5, [.ref tv, .ref tp])), (tv, .inl (cI, 19, .inl (ia se))), (tp, .inl (cI, 24, .inl (ia pl))), (sv, .inr (3, [.ref ss, .ref sb])), (ss, .inl (cI, 12, .inl (ia st))), (sb, .inl (cI, 12, .inl (ia bg))), (me, .inr (1, [.ref mn, .int (iI rd)])), (mn, .inl (cI, 200, .inl (ia no)))]) (rest := [.int (iI (upS st))]) [.int (iI 14)] ⟨hx, hb, hml, hown, hts⟩ (c_X5_value l D cI cZ cII tm tv tp se pl 14 hB_se hB_pl ⟨by omega, by omega⟩) (cwV 1 hts gX4_wantedByRule_X5_value rfl rfl rfl (by decide +kernel) (by rw [hRf, hRl]; exact ⟨Nat.le_of_ble_eq_true rfl, Nat.le_of_ble_eq_true rfl⟩)) hK hP hD hS hA hN [1, 2, 3] [0, 4, 5, 6, 7, 8] [0, 6, 7, 8, 1, 2, 3, 4, 5] 1 5 rfl rfl rfl rfl rfl rfl (by decide) rfl (fun u => rfl) rfl hl.1 rfl (Nat.le_of_ble_eq_true rfl) dX4_wantedByRule_82 ⟨Nat.zero_le _, Nat.zero_le _⟩ (fun z u H locs hw hP hD hS => ?_)
        have hP : va_P D vwCl [(sc, .inr (4, [.ref tm, .ref so, .ref sm, .ref sv, .ref qu, .ref me, .ref pa, .int (iI ti), .int (iI wa), .int (iI lc), .int (iI ca), .int (iI dn), .int (iI lo), .int (iI bi)])), (tm, .inr (5, [.ref tv, .ref tp])), (tv, .inl (cI, 19, .inl (ia se))), (tp, .inl (cI, 24, .inl (ia pl))), (sv, .inr (3, [.ref ss, .ref sb])), (ss, .inl (cI, 12, .inl (ia st))), (sb, .inl (cI, 12, .inl (ia bg))), (me, .inr (1, [.ref mn, .int (iI rd)])), (mn, .inl (cI, 200, .inl (ia no)))] H := hP
        have hD : va_D A [(sc, .inr (4, [.ref tm, .ref so, .ref sm, .ref sv, .ref qu, .ref me, .ref pa, .int (iI ti), .int (iI wa), .int (iI lc), .int (iI ca), .int (iI dn), .int (iI lo), .int (iI bi)])), (tm, .inr (5, [.ref tv, .ref tp])), (tv, .inl (cI, 19, .inl (ia se))), (tp, .inl (cI, 24, .inl (ia pl))), (sv, .inr (3, [.ref ss, .ref sb])), (ss, .inl (cI, 12, .inl (ia st))), (sb, .inl (cI, 12, .inl (ia bg))), (me, .inr (1, [.ref mn, .int (iI rd)])), (mn, .inl (cI, 200, .inl (ia no)))] := hD
        obtain ⟨z_8, ez⟩ : ∃ y : Int, y = z := ⟨_, rfl⟩
        rw [← ez] at hw ⊢
        clear ez
        have w82 : z_8 = (tvF se (14 : Int)) := hw
        clear hw
        subst w82
        refine q_top (b := (se 14)) (by rfl) ?_
        refine q_iadd hx hb dX4_wantedByRule_85 ?_
        rw [hQ]
        refine q_retI () hx hb hr hlocks hK hP hD hS dX4_wantedByRule_86 ?_
        first | (exfalso; omega) | skip
        all_goals (unfold wbF; first | (rw [if_pos (by omega), show max (se 11) 1 = se 11 by omega]) | (rw [if_neg (by omega), if_pos (by omega)]) | (rw [if_neg (by omega), if_neg (by omega), if_pos (by omega)]) | (rw [if_neg (by omega), if_neg (by omega), if_neg (by omega)]))
  ·
    refine lv_aload_n hx hb dX4_wantedByRule_15 rfl (lv_at hl 1 rfl) ?_
    refine va_get (D := D) (ci := 4) (v := .ref tm) (C := RX4) (T := TX4) (N := 14) hx hb hts in_X4_wantedByRule_X4 hown hK hP 0 rfl rfl 0 (by decide) (hts _ lk_X4_wantedByRule_1) (fun _ h9 => h9) rfl dX4_wantedByRule_16 ?_
    refine lv_bipush (v := iI 11) hx hb dX4_wantedByRule_19 (by decide +kernel) ?_
    refine q_callVI (wr := [(sc, .inr (4, [.ref tm, .ref so, .ref sm, .ref sv, .ref qu, .ref me, .ref pa, .int (iI ti), .int (iI wa), .int (iI lc), .int (iI ca), .int (iI dn), .int (iI lo), .int (iI bi)])), (sv, .inr (3, [.ref ss, .ref sb])), (ss, .inl (cI, 12, .inl (ia st))), (sb, .inl (cI, 12, .inl (ia bg))), (me, .inr (1, [.ref mn, .int (iI rd)])), (mn, .inl (cI, 200, .inl (ia no)))]) (wn := fun (u : Unit) => [(sc, .inr (4, [.ref tm, .ref so, .ref sm, .ref sv, .ref qu, .ref me, .ref pa, .int (iI ti), .int (iI wa), .int (iI lc), .int (iI ca), .int (iI dn), .int (iI lo), .int (iI bi)])), (tm, .inr (5, [.ref tv, .ref tp])), (tv, .inl (cI, 19, .inl (ia se))), (tp, .inl (cI, 24, .inl (ia pl))), (sv, .inr (3, [.ref ss, .ref sb])), (ss, .inl (cI, 12, .inl (ia st))), (sb, .inl (cI, 12, .inl (ia bg))), (me, .inr (1, [.ref mn, .int (iI rd)])), (mn, .inl (cI, 200, .inl (ia no)))]) (rest := []) [.int (iI 11)] ⟨hx, hb, hml, hown, hts⟩ (c_X5_value l D cI cZ cII tm tv tp se pl 11 hB_se hB_pl ⟨by omega, by omega⟩) (cwV 1 hts gX4_wantedByRule_X5_value rfl rfl rfl (by decide +kernel) (by rw [hRf, hRl]; exact ⟨Nat.le_of_ble_eq_true rfl, Nat.le_of_ble_eq_true rfl⟩)) hK hP hD hS hA hN [1, 2, 3] [0, 4, 5, 6, 7, 8] [0, 6, 7, 8, 1, 2, 3, 4, 5] 1 5 rfl rfl rfl rfl rfl rfl (by decide) rfl (fun u => rfl) rfl hl.1 rfl (Nat.le_of_ble_eq_true rfl) dX4_wantedByRule_21 ⟨Nat.zero_le _, Nat.zero_le _⟩ (fun z u H locs hw hP hD hS => ?_)
    have hP : va_P D vwCl [(sc, .inr (4, [.ref tm, .ref so, .ref sm, .ref sv, .ref qu, .ref me, .ref pa, .int (iI ti), .int (iI wa), .int (iI lc), .int (iI ca), .int (iI dn), .int (iI lo), .int (iI bi)])), (tm, .inr (5, [.ref tv, .ref tp])), (tv, .inl (cI, 19, .inl (ia se))), (tp, .inl (cI, 24, .inl (ia pl))), (sv, .inr (3, [.ref ss, .ref sb])), (ss, .inl (cI, 12, .inl (ia st))), (sb, .inl (cI, 12, .inl (ia bg))), (me, .inr (1, [.ref mn, .int (iI rd)])), (mn, .inl (cI, 200, .inl (ia no)))] H := hP
    have hD : va_D A [(sc, .inr (4, [.ref tm, .ref so, .ref sm, .ref sv, .ref qu, .ref me, .ref pa, .int (iI ti), .int (iI wa), .int (iI lc), .int (iI ca), .int (iI dn), .int (iI lo), .int (iI bi)])), (tm, .inr (5, [.ref tv, .ref tp])), (tv, .inl (cI, 19, .inl (ia se))), (tp, .inl (cI, 24, .inl (ia pl))), (sv, .inr (3, [.ref ss, .ref sb])), (ss, .inl (cI, 12, .inl (ia st))), (sb, .inl (cI, 12, .inl (ia bg))), (me, .inr (1, [.ref mn, .int (iI rd)])), (mn, .inl (cI, 200, .inl (ia no)))] := hD
    obtain ⟨z_9, ez⟩ : ∃ y : Int, y = z := ⟨_, rfl⟩
    rw [← ez] at hw ⊢
    clear ez
    have w21 : z_9 = (tvF se (11 : Int)) := hw
    clear hw
    subst w21
    refine q_top (b := (se 11)) (by rfl) ?_
    refine lv_iconst (v := iI 1) hx hb dX4_wantedByRule_24 rfl ?_
    refine va_mmax hx hb (hml.trans hl.1.symm) hown (hts _ lk_X4_wantedByRule_2) (hts _ lk_X4_wantedByRule_3) (hts _ lk_X4_wantedByRule_4) (hts _ lk_X4_wantedByRule_5) (by rw [hRf]; decide) (by rw [hRl]; exact Nat.le_of_ble_eq_true rfl) (Nat.zero_le _) (Nat.zero_le _) dX4_wantedByRule_25 ?_
    refine q_bits (b := (max (se 11) 1)) (iI_max ⟨by omega, by omega⟩ ⟨by decide, by decide⟩) ?_
    refine lv_istore_n (lv' := [(2, .int (iI (max (se 11) 1))), (1, .int (iI (se 10))), (0, .ref sc)]) hx hb dX4_wantedByRule_28 rfl hl (by decide) rfl (fun ls hl => ?_)
    refine lv_aload_n hx hb dX4_wantedByRule_29 rfl (lv_at hl 2 rfl) ?_
    refine va_get (D := D) (ci := 4) (v := .ref me) (C := RX4) (T := TX4) (N := 14) hx hb hts in_X4_wantedByRule_X4 hown hK hP 0 rfl rfl 5 (by decide) (hts _ lk_X4_wantedByRule_6) (fun _ h9 => h9) rfl dX4_wantedByRule_30 ?_
    refine va_getN (D := D) (ci := 1) (v := .int (iI rd)) (C := RX1) (T := TX1) (N := 2) hx hb hts in_X4_wantedByRule_X1 hown hK hP 7 rfl rfl 1 (by decide) (hN.2.2.2.2.2.2.2.1.use rfl) (fun _ h9 => h9) rfl dX4_wantedByRule_33 ?_
    refine lv_iload_n hx hb dX4_wantedByRule_36 rfl (lv_at hl 0 rfl) ?_
    refine q_iadd hx hb dX4_wantedByRule_37 ?_
    refine lv_iconst (v := iI 1) hx hb dX4_wantedByRule_38 rfl ?_
    refine q_isub hx hb dX4_wantedByRule_39 ?_
    refine lv_iload_n hx hb dX4_wantedByRule_40 rfl (lv_at hl 0 rfl) ?_
    refine q_idiv hx hb dX4_wantedByRule_41 ⟨by omega, by omega⟩ ⟨by omega, by omega⟩ ?_
    rw [hQ]
    refine q_retI () hx hb hr hlocks hK hP hD hS dX4_wantedByRule_42 ?_
    first | (exfalso; omega) | skip
    all_goals (unfold wbF; first | (rw [if_pos (by omega), show max (se 11) 1 = se 11 by omega]) | (rw [if_neg (by omega), if_pos (by omega)]) | (rw [if_neg (by omega), if_neg (by omega), if_pos (by omega)]) | (rw [if_neg (by omega), if_neg (by omega), if_neg (by omega)]))

theorem in_X4_resting_X4 : ∀ w ∈ wsX40, w ∈ wsX4_resting := fun _ h => List.mem_cons_of_mem _ (List.mem_append_left _ (List.mem_append_right _ h))
theorem lk_X4_resting_1 : Cond.fieldLink RX4 62 "MoreHands$Service" "latestChange" "I" ∈ wsX4_resting := List.mem_of_getElem? (i := 1) rfl
theorem lk_X4_resting_2 : Cond.fieldLink RX4 55 "MoreHands$Service" "time" "I" ∈ wsX4_resting := List.mem_of_getElem? (i := 2) rfl
theorem lk_X4_resting_3 : Cond.fieldLink RX4 9 "MoreHands$Service" "terms" "LMoreHands$Terms;" ∈ wsX4_resting := List.mem_of_getElem? (i := 3) rfl
set_option maxHeartbeats 4000000 in
set_option maxRecDepth 100000 in
theorem c_X4_resting (l : Launch) (D : va_G) (cI cZ cII : ClassId) (sc : Nat) (tm : Nat) (tv : Nat) (tp : Nat) (so : Nat) (sm : Nat) (sv : Nat) (qu : Nat) (me : Nat) (pa : Nat) (ti : Int) (wa : Int) (lc : Int) (ca : Int) (dn : Int) (lo : Int) (bi : Int) (se : Int → Int) (pl : Int → Int) (hB_se : BB 0 1000 se) (hB_pl : BB 0 12 pl) (hse : SB se) (hlc : -1 ≤ lc ∧ lc ≤ 200) (hti : 0 ≤ ti ∧ ti ≤ 200) : CtI l yX4_resting wsX4_resting 2 43 D (ty3 cI cZ cII) [.ref sc] [(sc, .inr (4, [.ref tm, .ref so, .ref sm, .ref sv, .ref qu, .ref me, .ref pa, .int (iI ti), .int (iI wa), .int (iI lc), .int (iI ca), .int (iI dn), .int (iI lo), .int (iI bi)])), (tm, .inr (5, [.ref tv, .ref tp])), (tv, .inl (cI, 19, .inl (ia se))), (tp, .inl (cI, 24, .inl (ia pl)))] (fun z (u : Unit) => (z = 1 ∧ (¬ lc = -1 ∧ ti - lc < se 9)) ∨ (z = 0 ∧ ¬ (¬ lc = -1 ∧ ti - lc < se 9))) (fun u => [(sc, .inr (4, [.ref tm, .ref so, .ref sm, .ref sv, .ref qu, .ref me, .ref pa, .int (iI ti), .int (iI wa), .int (iI lc), .int (iI ca), .int (iI dn), .int (iI lo), .int (iI bi)])), (tm, .inr (5, [.ref tv, .ref tp])), (tv, .inl (cI, 19, .inl (ia se))), (tp, .inl (cI, 24, .inl (ia pl)))]) := by
  refine CtI.mk (cc := cX4_resting) (maxL := 1) (ret := (some .boolean)) (by decide) rfl (Nat.le_of_ble_eq_true rfl) ?_
  intro p e s m below meth c A ls R args Q hx hb hml hr hts hown hlocks hA hK hP hD hN hS hl hRf hRl hQ
  have hl : lv_has ls 1 [(0, .ref sc)] := hl
  have hown : s.vm.findClass RX4 = some m.cls := hown
  have hsb := hse; unfold SB at hsb
  refine lv_aload_n hx hb dX4_resting_0 rfl (lv_at hl 0 rfl) ?_
  refine va_get (D := D) (ci := 4) (v := .int (iI lc)) (C := RX4) (T := TX4) (N := 14) hx hb hts in_X4_resting_X4 hown hK hP 0 rfl rfl 9 (by decide) (hts _ lk_X4_resting_1) (fun _ h9 => h9) rfl dX4_resting_1 ?_
  refine lv_iconst (v := iI (-1)) hx hb dX4_resting_4 rfl ?_
  refine q_icmp_eq (tgt := 33) hx hb dX4_resting_5 (by decide) ⟨by omega, by omega⟩ ⟨by decide, by decide⟩ (fun c5 => ?_) (fun c5 => ?_)
  ·
    refine lv_iconst (v := iI 0) hx hb dX4_resting_33 rfl ?_
    rw [hQ]
    refine q_retZ () hx hb hr hlocks hK hP hD hS dX4_resting_34 (by omega) ?_
    omega
  ·
    refine lv_aload_n hx hb dX4_resting_8 rfl (lv_at hl 0 rfl) ?_
    refine va_get (D := D) (ci := 4) (v := .int (iI ti)) (C := RX4) (T := TX4) (N := 14) hx hb hts in_X4_resting_X4 hown hK hP 0 rfl rfl 7 (by decide) (hts _ lk_X4_resting_2) (fun _ h9 => h9) rfl dX4_resting_9 ?_
    refine lv_aload_n hx hb dX4_resting_12 rfl (lv_at hl 0 rfl) ?_
    refine va_get (D := D) (ci := 4) (v := .int (iI lc)) (C := RX4) (T := TX4) (N := 14) hx hb hts in_X4_resting_X4 hown hK hP 0 rfl rfl 9 (by decide) (hts _ lk_X4_resting_1) (fun _ h9 => h9) rfl dX4_resting_13 ?_
    refine q_isub hx hb dX4_resting_16 ?_
    refine lv_aload_n hx hb dX4_resting_17 rfl (lv_at hl 0 rfl) ?_
    refine va_get (D := D) (ci := 4) (v := .ref tm) (C := RX4) (T := TX4) (N := 14) hx hb hts in_X4_resting_X4 hown hK hP 0 rfl rfl 0 (by decide) (hts _ lk_X4_resting_3) (fun _ h9 => h9) rfl dX4_resting_18 ?_
    refine lv_bipush (v := iI 9) hx hb dX4_resting_21 (by decide +kernel) ?_
    refine q_callVI (wr := [(sc, .inr (4, [.ref tm, .ref so, .ref sm, .ref sv, .ref qu, .ref me, .ref pa, .int (iI ti), .int (iI wa), .int (iI lc), .int (iI ca), .int (iI dn), .int (iI lo), .int (iI bi)]))]) (wn := fun (u : Unit) => [(sc, .inr (4, [.ref tm, .ref so, .ref sm, .ref sv, .ref qu, .ref me, .ref pa, .int (iI ti), .int (iI wa), .int (iI lc), .int (iI ca), .int (iI dn), .int (iI lo), .int (iI bi)])), (tm, .inr (5, [.ref tv, .ref tp])), (tv, .inl (cI, 19, .inl (ia se))), (tp, .inl (cI, 24, .inl (ia pl)))]) (rest := [.int (iI (ti - lc))]) [.int (iI 9)] ⟨hx, hb, hml, hown, hts⟩ (c_X5_value l D cI cZ cII tm tv tp se pl 9 hB_se hB_pl ⟨by omega, by omega⟩) (cwV 1 hts gX4_resting_X5_value rfl rfl rfl (by decide +kernel) (by rw [hRf, hRl]; exact ⟨Nat.le_of_ble_eq_true rfl, Nat.le_of_ble_eq_true rfl⟩)) hK hP hD hS hA hN [1, 2, 3] [0] [0, 1, 2, 3] 1 5 rfl rfl rfl rfl rfl rfl (by decide) rfl (fun u => rfl) rfl hl.1 rfl (Nat.le_of_ble_eq_true rfl) dX4_resting_23 ⟨Nat.zero_le _, Nat.zero_le _⟩ (fun z u H locs hw hP hD hS => ?_)
    have hP : va_P D vwCl [(sc, .inr (4, [.ref tm, .ref so, .ref sm, .ref sv, .ref qu, .ref me, .ref pa, .int (iI ti), .int (iI wa), .int (iI lc), .int (iI ca), .int (iI dn), .int (iI lo), .int (iI bi)])), (tm, .inr (5, [.ref tv, .ref tp])), (tv, .inl (cI, 19, .inl (ia se))), (tp, .inl (cI, 24, .inl (ia pl)))] H := hP
    have hD : va_D A [(sc, .inr (4, [.ref tm, .ref so, .ref sm, .ref sv, .ref qu, .ref me, .ref pa, .int (iI ti), .int (iI wa), .int (iI lc), .int (iI ca), .int (iI dn), .int (iI lo), .int (iI bi)])), (tm, .inr (5, [.ref tv, .ref tp])), (tv, .inl (cI, 19, .inl (ia se))), (tp, .inl (cI, 24, .inl (ia pl)))] := hD
    obtain ⟨z_1, ez⟩ : ∃ y : Int, y = z := ⟨_, rfl⟩
    rw [← ez] at hw ⊢
    clear ez
    have w23 : z_1 = (tvF se (9 : Int)) := hw
    clear hw
    subst w23
    refine q_top (b := (se 9)) (by rfl) ?_
    refine q_icmp_ge (tgt := 33) hx hb dX4_resting_26 (by decide) ⟨by omega, by omega⟩ ⟨by omega, by omega⟩ (fun c26 => ?_) (fun c26 => ?_)
    ·
      refine lv_iconst (v := iI 0) hx hb dX4_resting_33 rfl ?_
      rw [hQ]
      refine q_retZ () hx hb hr hlocks hK hP hD hS dX4_resting_34 (by omega) ?_
      omega
    ·
      refine lv_iconst (v := iI 1) hx hb dX4_resting_29 rfl ?_
      refine lv_goto (tgt := 34) hx hb dX4_resting_30 (by decide) ?_
      rw [hQ]
      refine q_retZ () hx hb hr hlocks hK hP hD hS dX4_resting_34 (by omega) ?_
      omega

theorem in_X4_makeChanges_X4 : ∀ w ∈ wsX40, w ∈ wsX4_makeChanges := fun _ h => List.mem_cons_of_mem _ (List.mem_append_left _ (List.mem_append_left _ (List.mem_append_right _ h)))
theorem lk_X4_makeChanges_1 : Cond.fieldLink RX4 26 "MoreHands$Service" "servers" "LMoreHands$Servers;" ∈ wsX4_makeChanges := List.mem_of_getElem? (i := 1) rfl
theorem lk_X4_makeChanges_2 : Cond.fieldLink RX4 9 "MoreHands$Service" "terms" "LMoreHands$Terms;" ∈ wsX4_makeChanges := List.mem_of_getElem? (i := 2) rfl
theorem lk_X4_makeChanges_3 : Cond.fieldLink RX4 55 "MoreHands$Service" "time" "I" ∈ wsX4_makeChanges := List.mem_of_getElem? (i := 3) rfl
theorem lk_X4_makeChanges_4 : Cond.methodLink RX4 137 Lib.Math.max.name ∈ wsX4_makeChanges := List.mem_of_getElem? (i := 4) rfl
theorem lk_X4_makeChanges_5 : Cond.static Lib.Math.max.name ∈ wsX4_makeChanges := List.mem_of_getElem? (i := 5) rfl
theorem lk_X4_makeChanges_6 : Cond.initialized "java/lang/Math" ∈ wsX4_makeChanges := List.mem_of_getElem? (i := 6) rfl
theorem lk_X4_makeChanges_7 : Cond.code Lib.Math.max.name Lib.Math.max.code 2 (some .int) ∈ wsX4_makeChanges := List.mem_of_getElem? (i := 7) rfl
theorem lk_X4_makeChanges_8 : Cond.fieldLink RX4 59 "MoreHands$Service" "wanted" "I" ∈ wsX4_makeChanges := List.mem_of_getElem? (i := 8) rfl
theorem lk_X4_makeChanges_9 : Cond.fieldLink RX4 62 "MoreHands$Service" "latestChange" "I" ∈ wsX4_makeChanges := List.mem_of_getElem? (i := 9) rfl
set_option maxHeartbeats 4000000 in
set_option maxRecDepth 100000 in
theorem c_X4_makeChanges (l : Launch) (D : va_G) (cI cZ cII : ClassId) (sc : Nat) (tm : Nat) (tv : Nat) (tp : Nat) (sv : Nat) (ss : Nat) (sb : Nat) (so : Nat) (sm : Nat) (qu : Nat) (me : Nat) (pa : Nat) (ti : Int) (wa : Int) (lc : Int) (ca : Int) (dn : Int) (lo : Int) (bi : Int) (se : Int → Int) (pl : Int → Int) (st : Int → Int) (bg : Int → Int) (sn : Int → Int) (hB_se : BB 0 1000 se) (hB_pl : BB 0 12 pl) (hB_st : BB 0 3 st) (hB_bg : BB 0 200 bg) (hse : SB se) (hlc : -1 ≤ lc ∧ lc ≤ 200) (hti : 0 ≤ ti ∧ ti ≤ 199) (hwa : -1 ≤ wa ∧ wa ≤ 12) (hag : AG st bg sn) : CtV l yX4_makeChanges wsX4_makeChanges 3 63 D (ty3 cI cZ cII) [.ref sc] [(sc, .inr (4, [.ref tm, .ref so, .ref sm, .ref sv, .ref qu, .ref me, .ref pa, .int (iI ti), .int (iI wa), .int (iI lc), .int (iI ca), .int (iI dn), .int (iI lo), .int (iI bi)])), (tm, .inr (5, [.ref tv, .ref tp])), (tv, .inl (cI, 19, .inl (ia se))), (tp, .inl (cI, 24, .inl (ia pl))), (sv, .inr (3, [.ref ss, .ref sb])), (ss, .inl (cI, 12, .inl (ia st))), (sb, .inl (cI, 12, .inl (ia bg)))] (fun (u : (Int → Int) × (Int → Int) × Int) => u.1 = chS st (glF se pl st wa lc ti) ∧ u.2.2 = (if 0 < chN st (glF se pl st wa lc ti) then ti else lc) ∧ AG u.1 u.2.1 (chG st sn (glF se pl st wa lc ti) ti) ∧ BB 0 3 u.1 ∧ BB 0 200 u.2.1 ∧ (-1 ≤ u.2.2 ∧ u.2.2 ≤ 200)) (fun u => [(sc, .inr (4, [.ref tm, .ref so, .ref sm, .ref sv, .ref qu, .ref me, .ref pa, .int (iI ti), .int (iI wa), .int (iI u.2.2), .int (iI ca), .int (iI dn), .int (iI lo), .int (iI bi)])), (tm, .inr (5, [.ref tv, .ref tp])), (tv, .inl (cI, 19, .inl (ia se))), (tp, .inl (cI, 24, .inl (ia pl))), (sv, .inr (3, [.ref ss, .ref sb])), (ss, .inl (cI, 12, .inl (ia u.1))), (sb, .inl (cI, 12, .inl (ia u.2.1)))]) := by
  refine CtV.mk (cc := cX4_makeChanges) (maxL := 4) (ret := none) (by decide) rfl (Nat.le_of_ble_eq_true rfl) ?_
  intro p e s m below meth c A ls R args Q hx hb hml hr hts hown hlocks hA hK hP hD hN hS hl hRf hRl hQ
  have hl : lv_has ls 4 [(0, .ref sc)] := hl
  have hown : s.vm.findClass RX4 = some m.cls := hown
  have hsb := hse; unfold SB at hsb
  have hub := upS_b st
  have hbd := bdF_b (wa := 0) (ti := ti) hse hB_pl
  refine lv_aload_n hx hb dX4_makeChanges_0 rfl (lv_at hl 0 rfl) ?_
  refine va_get (D := D) (ci := 4) (v := .ref sv) (C := RX4) (T := TX4) (N := 14) hx hb hts in_X4_makeChanges_X4 hown hK hP 0 rfl rfl 3 (by decide) (hts _ lk_X4_makeChanges_1) (fun _ h9 => h9) rfl dX4_makeChanges_1 ?_
  refine q_callVI (wr := [(sc, .inr (4, [.ref tm, .ref so, .ref sm, .ref sv, .ref qu, .ref me, .ref pa, .int (iI ti), .int (iI wa), .int (iI lc), .int (iI ca), .int (iI dn), .int (iI lo), .int (iI bi)])), (tm, .inr (5, [.ref tv, .ref tp])), (tv, .inl (cI, 19, .inl (ia se))), (tp, .inl (cI, 24, .inl (ia pl)))]) (wn := fun (u : Unit) => [(sc, .inr (4, [.ref tm, .ref so, .ref sm, .ref sv, .ref qu, .ref me, .ref pa, .int (iI ti), .int (iI wa), .int (iI lc), .int (iI ca), .int (iI dn), .int (iI lo), .int (iI bi)])), (tm, .inr (5, [.ref tv, .ref tp])), (tv, .inl (cI, 19, .inl (ia se))), (tp, .inl (cI, 24, .inl (ia pl))), (sv, .inr (3, [.ref ss, .ref sb])), (ss, .inl (cI, 12, .inl (ia st))), (sb, .inl (cI, 12, .inl (ia bg)))]) (rest := []) [] ⟨hx, hb, hml, hown, hts⟩ (c_X3_up l D cI cZ cII sv ss sb st bg hB_st hB_bg) (cwV 0 hts gX4_makeChanges_X3_up rfl rfl rfl (by decide +kernel) (by rw [hRf, hRl]; exact ⟨Nat.le_of_ble_eq_true rfl, Nat.le_of_ble_eq_true rfl⟩)) hK hP hD hS hA hN [4, 5, 6] [0, 1, 2, 3] [0, 1, 2, 3, 4, 5, 6] 4 3 rfl rfl rfl rfl rfl rfl (by decide) rfl (fun u => rfl) rfl hl.1 rfl (Nat.le_of_ble_eq_true rfl) dX4_makeChanges_4 ⟨Nat.zero_le _, Nat.zero_le _⟩ (fun z u H locs hw hP hD hS => ?_)
  have hP : va_P D vwCl [(sc, .inr (4, [.ref tm, .ref so, .ref sm, .ref sv, .ref qu, .ref me, .ref pa, .int (iI ti), .int (iI wa), .int (iI lc), .int (iI ca), .int (iI dn), .int (iI lo), .int (iI bi)])), (tm, .inr (5, [.ref tv, .ref tp])), (tv, .inl (cI, 19, .inl (ia se))), (tp, .inl (cI, 24, .inl (ia pl))), (sv, .inr (3, [.ref ss, .ref sb])), (ss, .inl (cI, 12, .inl (ia st))), (sb, .inl (cI, 12, .inl (ia bg)))] H := hP
  have hD : va_D A [(sc, .inr (4, [.ref tm, .ref so, .ref sm, .ref sv, .ref qu, .ref me, .ref pa, .int (iI ti), .int (iI wa), .int (iI lc), .int (iI ca), .int (iI dn), .int (iI lo), .int (iI bi)])), (tm, .inr (5, [.ref tv, .ref tp])), (tv, .inl (cI, 19, .inl (ia se))), (tp, .inl (cI, 24, .inl (ia pl))), (sv, .inr (3, [.ref ss, .ref sb])), (ss, .inl (cI, 12, .inl (ia st))), (sb, .inl (cI, 12, .inl (ia bg)))] := hD
  obtain ⟨z_1, ez⟩ : ∃ y : Int, y = z := ⟨_, rfl⟩
  rw [← ez] at hw ⊢
  clear ez
  have w4 : z_1 = (upS st) := hw
  clear hw
  subst w4
  refine lv_istore_n (lv' := [(1, .int (iI (upS st))), (0, .ref sc)]) hx hb dX4_makeChanges_7 rfl hl (by decide) rfl (fun ls hl => ?_)
  refine lv_aload_n hx hb dX4_makeChanges_8 rfl (lv_at hl 1 rfl) ?_
  have L38_0 : ∀ (go : Int), (hgo : go = glF se pl st wa lc ti) → (hgb : -1 ≤ go ∧ go ≤ 12) → ∀ (H : Heap) (locs : List Loc), va_P D vwCl [(sc, .inr (4, [.ref tm, .ref so, .ref sm, .ref sv, .ref qu, .ref me, .ref pa, .int (iI ti), .int (iI wa), .int (iI lc), .int (iI ca), .int (iI dn), .int (iI lo), .int (iI bi)])), (tm, .inr (5, [.ref tv, .ref tp])), (tv, .inl (cI, 19, .inl (ia se))), (tp, .inl (cI, 24, .inl (ia pl))), (sv, .inr (3, [.ref ss, .ref sb])), (ss, .inl (cI, 12, .inl (ia st))), (sb, .inl (cI, 12, .inl (ia bg)))] H → va_D A [(sc, .inr (4, [.ref tm, .ref so, .ref sm, .ref sv, .ref qu, .ref me, .ref pa, .int (iI ti), .int (iI wa), .int (iI lc), .int (iI ca), .int (iI dn), .int (iI lo), .int (iI bi)])), (tm, .inr (5, [.ref tv, .ref tp])), (tv, .inl (cI, 19, .inl (ia se))), (tp, .inl (cI, 24, .inl (ia pl))), (sv, .inr (3, [.ref ss, .ref sb])), (ss, .inl (cI, 12, .inl (ia st))), (sb, .inl (cI, 12, .inl (ia bg)))] → va_S A s.heap H locs → ∀ ls : Array Slot, lv_has ls 4 [(0, .ref sc), (1, .int (iI (upS st)))] → W p l e R s m args below meth c H locs 0 0 Q (F0 m 38 ls [.int (iI go)]) := by
    intro go hgo hgb H locs hP hD hS ls hl
    refine lv_istore_n (lv' := [(2, .int (iI go)), (0, .ref sc), (1, .int (iI (upS st)))]) hx hb dX4_makeChanges_38 rfl hl (by decide) rfl (fun ls hl => ?_)
    have L75_1 : ∀ (st1 : Int → Int) (bg1 : Int → Int) (cn : Int), (hB_st1 : BB 0 3 st1) → (hB_bg1 : BB 0 200 bg1) → (hcn : cn = chN st go) → (hs1 : st1 = chS st go) → (hg1 : AG st1 bg1 (chG st sn go ti)) → ∀ (H : Heap) (locs : List Loc), va_P D vwCl [(sc, .inr (4, [.ref tm, .ref so, .ref sm, .ref sv, .ref qu, .ref me, .ref pa, .int (iI ti), .int (iI wa), .int (iI lc), .int (iI ca), .int (iI dn), .int (iI lo), .int (iI bi)])), (tm, .inr (5, [.ref tv, .ref tp])), (tv, .inl (cI, 19, .inl (ia se))), (tp, .inl (cI, 24, .inl (ia pl))), (sv, .inr (3, [.ref ss, .ref sb])), (ss, .inl (cI, 12, .inl (ia st1))), (sb, .inl (cI, 12, .inl (ia bg1)))] H → va_D A [(sc, .inr (4, [.ref tm, .ref so, .ref sm, .ref sv, .ref qu, .ref me, .ref pa, .int (iI ti), .int (iI wa), .int (iI lc), .int (iI ca), .int (iI dn), .int (iI lo), .int (iI bi)])), (tm, .inr (5, [.ref tv, .ref tp])), (tv, .inl (cI, 19, .inl (ia se))), (tp, .inl (cI, 24, .inl (ia pl))), (sv, .inr (3, [.ref ss, .ref sb])), (ss, .inl (cI, 12, .inl (ia st1))), (sb, .inl (cI, 12, .inl (ia bg1)))] → va_S A s.heap H locs → ∀ ls : Array Slot, lv_has ls 4 [(0, .ref sc), (1, .int (iI (upS st))), (2, .int (iI go))] → W p l e R s m args below meth c H locs 0 0 Q (F0 m 75 ls [.int (iI cn)]) := by
      intro st1 bg1 cn hB_st1 hB_bg1 hcn hs1 hg1 H locs hP hD hS ls hl
      have hcb := chN_b st go
      rw [← hcn] at hcb
      refine lv_istore_n (lv' := [(3, .int (iI cn)), (0, .ref sc), (1, .int (iI (upS st))), (2, .int (iI go))]) hx hb dX4_makeChanges_75 rfl hl (by decide) rfl (fun ls hl => ?_)
      refine lv_iload_n hx hb dX4_makeChanges_76 rfl (lv_at hl 0 rfl) ?_
      refine q_if_le (tgt := 88) hx hb dX4_makeChanges_77 (by decide) ⟨by omega, by omega⟩ (fun c77 => ?_) (fun c77 => ?_)
      ·
        rw [hQ]
        refine q_retV (st1, bg1, lc) hx hb hr hlocks hK hP hD hS dX4_makeChanges_88 ?_
        try dsimp only
        rw [← hgo]
        first | exact ⟨hs1, by rw [if_pos (by omega)], hg1, hB_st1, hB_bg1, by omega⟩ | exact ⟨hs1, by rw [if_neg (by omega)], hg1, hB_st1, hB_bg1, by omega⟩
      ·
        refine lv_aload_n hx hb dX4_makeChanges_80 rfl (lv_at hl 1 rfl) ?_
        refine lv_aload_n hx hb dX4_makeChanges_81 rfl (lv_at hl 1 rfl) ?_
        refine va_get (D := D) (ci := 4) (v := .int (iI ti)) (C := RX4) (T := TX4) (N := 14) hx hb hts in_X4_makeChanges_X4 hown hK hP 0 rfl rfl 7 (by decide) (hts _ lk_X4_makeChanges_3) (fun _ h9 => h9) rfl dX4_makeChanges_82 ?_
        refine va_put (D := D) (ci := 4) (v := .int (iI ti)) (ty := .int) (C := RX4) (T := TX4) (N := 14) hx hb hts in_X4_makeChanges_X4 tyX4 tyX4_ok nmX4 hown hK hP hD hS 0 rfl rfl 9 (by decide) (hts _ lk_X4_makeChanges_9) (fun _ h9 => h9) rfl (by decide +kernel) rfl rfl (Nat.le_of_ble_eq_true rfl) dX4_makeChanges_85 (fun H locs hP hD hS => ?_)
        have hP : va_P D vwCl [(sc, .inr (4, [.ref tm, .ref so, .ref sm, .ref sv, .ref qu, .ref me, .ref pa, .int (iI ti), .int (iI wa), .int (iI ti), .int (iI ca), .int (iI dn), .int (iI lo), .int (iI bi)])), (tm, .inr (5, [.ref tv, .ref tp])), (tv, .inl (cI, 19, .inl (ia se))), (tp, .inl (cI, 24, .inl (ia pl))), (sv, .inr (3, [.ref ss, .ref sb])), (ss, .inl (cI, 12, .inl (ia st1))), (sb, .inl (cI, 12, .inl (ia bg1)))] H := hP
        have hD : va_D A [(sc, .inr (4, [.ref tm, .ref so, .ref sm, .ref sv, .ref qu, .ref me, .ref pa, .int (iI ti), .int (iI wa), .int (iI ti), .int (iI ca), .int (iI dn), .int (iI lo), .int (iI bi)])), (tm, .inr (5, [.ref tv, .ref tp])), (tv, .inl (cI, 19, .inl (ia se))), (tp, .inl (cI, 24, .inl (ia pl))), (sv, .inr (3, [.ref ss, .ref sb])), (ss, .inl (cI, 12, .inl (ia st1))), (sb, .inl (cI, 12, .inl (ia bg1)))] := hD
        rw [hQ]
        refine q_retV (st1, bg1, ti) hx hb hr hlocks hK hP hD hS dX4_makeChanges_88 ?_
        try dsimp only
        rw [← hgo]
        first | exact ⟨hs1, by rw [if_pos (by omega)], hg1, hB_st1, hB_bg1, by omega⟩ | exact ⟨hs1, by rw [if_neg (by omega)], hg1, hB_st1, hB_bg1, by omega⟩
    refine lv_iload_n hx hb dX4_makeChanges_39 rfl (lv_at hl 0 rfl) ?_
    refine lv_iload_n hx hb dX4_makeChanges_40 rfl (lv_at hl 2 rfl) ?_
    refine q_icmp_le (tgt := 61) hx hb dX4_makeChanges_41 (by decide) ⟨by omega, by omega⟩ ⟨by omega, by omega⟩ (fun c41 => ?_) (fun c41 => ?_)
    ·
      refine lv_aload_n hx hb dX4_makeChanges_61 rfl (lv_at hl 1 rfl) ?_
      refine va_get (D := D) (ci := 4) (v := .ref sv) (C := RX4) (T := TX4) (N := 14) hx hb hts in_X4_makeChanges_X4 hown hK hP 0 rfl rfl 3 (by decide) (hts _ lk_X4_makeChanges_1) (fun _ h9 => h9) rfl dX4_makeChanges_62 ?_
      refine lv_iload_n hx hb dX4_makeChanges_65 rfl (lv_at hl 2 rfl) ?_
      refine lv_iload_n hx hb dX4_makeChanges_66 rfl (lv_at hl 0 rfl) ?_
      refine q_isub hx hb dX4_makeChanges_67 ?_
      refine lv_aload_n hx hb dX4_makeChanges_68 rfl (lv_at hl 1 rfl) ?_
      refine va_get (D := D) (ci := 4) (v := .int (iI ti)) (C := RX4) (T := TX4) (N := 14) hx hb hts in_X4_makeChanges_X4 hown hK hP 0 rfl rfl 7 (by decide) (hts _ lk_X4_makeChanges_3) (fun _ h9 => h9) rfl dX4_makeChanges_69 ?_
      refine q_callVI (wr := [(sc, .inr (4, [.ref tm, .ref so, .ref sm, .ref sv, .ref qu, .ref me, .ref pa, .int (iI ti), .int (iI wa), .int (iI lc), .int (iI ca), .int (iI dn), .int (iI lo), .int (iI bi)])), (tm, .inr (5, [.ref tv, .ref tp])), (tv, .inl (cI, 19, .inl (ia se))), (tp, .inl (cI, 24, .inl (ia pl)))]) (wn := fun (u : (Int → Int) × (Int → Int)) => [(sc, .inr (4, [.ref tm, .ref so, .ref sm, .ref sv, .ref qu, .ref me, .ref pa, .int (iI ti), .int (iI wa), .int (iI lc), .int (iI ca), .int (iI dn), .int (iI lo), .int (iI bi)])), (tm, .inr (5, [.ref tv, .ref tp])), (tv, .inl (cI, 19, .inl (ia se))), (tp, .inl (cI, 24, .inl (ia pl))), (sv, .inr (3, [.ref ss, .ref sb])), (ss, .inl (cI, 12, .inl (ia u.1))), (sb, .inl (cI, 12, .inl (ia u.2)))]) (rest := []) [.int (iI ((upS st) - go)), .int (iI ti)] ⟨hx, hb, hml, hown, hts⟩ (c_X3_shed l D cI cZ cII sv ss sb st bg ((upS st) - go) ti hB_st hB_bg (by omega) (by omega)) (cwV 2 hts gX4_makeChanges_X3_shed rfl rfl rfl (by decide +kernel) (by rw [hRf, hRl]; exact ⟨Nat.le_of_ble_eq_true rfl, Nat.le_of_ble_eq_true rfl⟩)) hK hP hD hS hA hN [4, 5, 6] [0, 1, 2, 3] [0, 1, 2, 3, 4, 5, 6] 4 3 rfl rfl rfl rfl rfl rfl (by decide) rfl (fun u => rfl) rfl hl.1 rfl (Nat.le_of_ble_eq_true rfl) dX4_makeChanges_72 ⟨Nat.zero_le _, Nat.zero_le _⟩ (fun z u H locs hw hP hD hS => ?_)
      obtain ⟨st_2, bg_3⟩ := u
      try dsimp only at hw
      have hP : va_P D vwCl [(sc, .inr (4, [.ref tm, .ref so, .ref sm, .ref sv, .ref qu, .ref me, .ref pa, .int (iI ti), .int (iI wa), .int (iI lc), .int (iI ca), .int (iI dn), .int (iI lo), .int (iI bi)])), (tm, .inr (5, [.ref tv, .ref tp])), (tv, .inl (cI, 19, .inl (ia se))), (tp, .inl (cI, 24, .inl (ia pl))), (sv, .inr (3, [.ref ss, .ref sb])), (ss, .inl (cI, 12, .inl (ia st_2))), (sb, .inl (cI, 12, .inl (ia bg_3)))] H := hP
      have hD : va_D A [(sc, .inr (4, [.ref tm, .ref so, .ref sm, .ref sv, .ref qu, .ref me, .ref pa, .int (iI ti), .int (iI wa), .int (iI lc), .int (iI ca), .int (iI dn), .int (iI lo), .int (iI bi)])), (tm, .inr (5, [.ref tv, .ref tp])), (tv, .inl (cI, 19, .inl (ia se))), (tp, .inl (cI, 24, .inl (ia pl))), (sv, .inr (3, [.ref ss, .ref sb])), (ss, .inl (cI, 12, .inl (ia st_2))), (sb, .inl (cI, 12, .inl (ia bg_3)))] := hD
      obtain ⟨z_4, ez⟩ : ∃ y : Int, y = z := ⟨_, rfl⟩
      rw [← ez] at hw ⊢
      clear ez
      obtain ⟨w72, e72, hB_st_2, hB_bg_3, f72⟩ := hw
      exact L75_1  st_2 bg_3 z_4 hB_st_2 hB_bg_3 (by unfold chN; first | (rw [if_pos (by omega)]; assumption) | (rw [if_neg (by omega)]; unfold shN; assumption)) (by unfold chS; first | (rw [if_pos (by omega)]; assumption) | (rw [if_neg (by omega)]; unfold shS shB; assumption)) (by unfold chG; first | (rw [if_pos (by omega), e55, f55]; exact hag.start) | (rw [if_neg (by omega), e72]; exact hag.shed (fun j hj => f72 j (by rw [e72]; exact hj)))) _ _ hP hD hS _ (lv_sub hl [1, 2, 0] rfl)
    ·
      refine lv_aload_n hx hb dX4_makeChanges_44 rfl (lv_at hl 1 rfl) ?_
      refine va_get (D := D) (ci := 4) (v := .ref sv) (C := RX4) (T := TX4) (N := 14) hx hb hts in_X4_makeChanges_X4 hown hK hP 0 rfl rfl 3 (by decide) (hts _ lk_X4_makeChanges_1) (fun _ h9 => h9) rfl dX4_makeChanges_45 ?_
      refine lv_iload_n hx hb dX4_makeChanges_48 rfl (lv_at hl 0 rfl) ?_
      refine lv_iload_n hx hb dX4_makeChanges_49 rfl (lv_at hl 2 rfl) ?_
      refine q_isub hx hb dX4_makeChanges_50 ?_
      refine lv_aload_n hx hb dX4_makeChanges_51 rfl (lv_at hl 1 rfl) ?_
      refine va_get (D := D) (ci := 4) (v := .int (iI ti)) (C := RX4) (T := TX4) (N := 14) hx hb hts in_X4_makeChanges_X4 hown hK hP 0 rfl rfl 7 (by decide) (hts _ lk_X4_makeChanges_3) (fun _ h9 => h9) rfl dX4_makeChanges_52 ?_
      refine q_callVI (wr := [(sc, .inr (4, [.ref tm, .ref so, .ref sm, .ref sv, .ref qu, .ref me, .ref pa, .int (iI ti), .int (iI wa), .int (iI lc), .int (iI ca), .int (iI dn), .int (iI lo), .int (iI bi)])), (tm, .inr (5, [.ref tv, .ref tp])), (tv, .inl (cI, 19, .inl (ia se))), (tp, .inl (cI, 24, .inl (ia pl)))]) (wn := fun (u : (Int → Int) × (Int → Int)) => [(sc, .inr (4, [.ref tm, .ref so, .ref sm, .ref sv, .ref qu, .ref me, .ref pa, .int (iI ti), .int (iI wa), .int (iI lc), .int (iI ca), .int (iI dn), .int (iI lo), .int (iI bi)])), (tm, .inr (5, [.ref tv, .ref tp])), (tv, .inl (cI, 19, .inl (ia se))), (tp, .inl (cI, 24, .inl (ia pl))), (sv, .inr (3, [.ref ss, .ref sb])), (ss, .inl (cI, 12, .inl (ia u.1))), (sb, .inl (cI, 12, .inl (ia u.2)))]) (rest := []) [.int (iI (go - (upS st))), .int (iI ti)] ⟨hx, hb, hml, hown, hts⟩ (c_X3_start l D cI cZ cII sv ss sb st bg (go - (upS st)) ti hB_st hB_bg (by omega) (by omega)) (cwV 2 hts gX4_makeChanges_X3_start rfl rfl rfl (by decide +kernel) (by rw [hRf, hRl]; exact ⟨Nat.le_of_ble_eq_true rfl, Nat.le_of_ble_eq_true rfl⟩)) hK hP hD hS hA hN [4, 5, 6] [0, 1, 2, 3] [0, 1, 2, 3, 4, 5, 6] 4 3 rfl rfl rfl rfl rfl rfl (by decide) rfl (fun u => rfl) rfl hl.1 rfl (Nat.le_of_ble_eq_true rfl) dX4_makeChanges_55 ⟨Nat.zero_le _, Nat.zero_le _⟩ (fun z u H locs hw hP hD hS => ?_)
      obtain ⟨st_5, bg_6⟩ := u
      try dsimp only at hw
      have hP : va_P D vwCl [(sc, .inr (4, [.ref tm, .ref so, .ref sm, .ref sv, .ref qu, .ref me, .ref pa, .int (iI ti), .int (iI wa), .int (iI lc), .int (iI ca), .int (iI dn), .int (iI lo), .int (iI bi)])), (tm, .inr (5, [.ref tv, .ref tp])), (tv, .inl (cI, 19, .inl (ia se))), (tp, .inl (cI, 24, .inl (ia pl))), (sv, .inr (3, [.ref ss, .ref sb])), (ss, .inl (cI, 12, .inl (ia st_5))), (sb, .inl (cI, 12, .inl (ia bg_6)))] H := hP
      have hD : va_D A [(sc, .inr (4, [.ref tm, .ref so, .ref sm, .ref sv, .ref qu, .ref me, .ref pa, .int (iI ti), .int (iI wa), .int (iI lc), .int (iI ca), .int (iI dn), .int (iI lo), .int (iI bi)])), (tm, .inr (5, [.ref tv, .ref tp])), (tv, .inl (cI, 19, .inl (ia se))), (tp, .inl (cI, 24, .inl (ia pl))), (sv, .inr (3, [.ref ss, .ref sb])), (ss, .inl (cI, 12, .inl (ia st_5))), (sb, .inl (cI, 12, .inl (ia bg_6)))] := hD
      obtain ⟨z_7, ez⟩ : ∃ y : Int, y = z := ⟨_, rfl⟩
      rw [← ez] at hw ⊢
      clear ez
      obtain ⟨w55, e55, f55, hB_st_5, hB_bg_6⟩ := hw
      refine lv_goto (tgt := 75) hx hb dX4_makeChanges_58 (by decide) ?_
      exact L75_1  st_5 bg_6 z_7 hB_st_5 hB_bg_6 (by unfold chN; first | (rw [if_pos (by omega)]; assumption) | (rw [if_neg (by omega)]; unfold shN; assumption)) (by unfold chS; first | (rw [if_pos (by omega)]; assumption) | (rw [if_neg (by omega)]; unfold shS shB; assumption)) (by unfold chG; first | (rw [if_pos (by omega), e55, f55]; exact hag.start) | (rw [if_neg (by omega), e72]; exact hag.shed (fun j hj => f72 j (by rw [e72]; exact hj)))) _ _ hP hD hS _ (lv_sub hl [1, 2, 0] rfl)
  refine q_callVI (wr := [(sv, .inr (3, [.ref ss, .ref sb])), (ss, .inl (cI, 12, .inl (ia st))), (sb, .inl (cI, 12, .inl (ia bg)))]) (wn := fun (u : Unit) => [(sc, .inr (4, [.ref tm, .ref so, .ref sm, .ref sv, .ref qu, .ref me, .ref pa, .int (iI ti), .int (iI wa), .int (iI lc), .int (iI ca), .int (iI dn), .int (iI lo), .int (iI bi)])), (tm, .inr (5, [.ref tv, .ref tp])), (tv, .inl (cI, 19, .inl (ia se))), (tp, .inl (cI, 24, .inl (ia pl))), (sv, .inr (3, [.ref ss, .ref sb])), (ss, .inl (cI, 12, .inl (ia st))), (sb, .inl (cI, 12, .inl (ia bg)))]) (rest := []) [] ⟨hx, hb, hml, hown, hts⟩ (c_X4_resting l D cI cZ cII sc tm tv tp so sm sv qu me pa ti wa lc ca dn lo bi se pl hB_se hB_pl (by assumption) (by omega) (by omega)) (cwV 0 hts gX4_makeChanges_X4_resting rfl rfl rfl (by decide +kernel) (by rw [hRf, hRl]; exact ⟨Nat.le_of_ble_eq_true rfl, Nat.le_of_ble_eq_true rfl⟩)) hK hP hD hS hA hN [0, 1, 2, 3] [4, 5, 6] [3, 4, 5, 6, 0, 1, 2] 0 4 rfl rfl rfl rfl rfl rfl (by decide) rfl (fun u => rfl) rfl hl.1 rfl (Nat.le_of_ble_eq_true rfl) dX4_makeChanges_9 ⟨Nat.zero_le _, Nat.zero_le _⟩ (fun z u H locs hw hP hD hS => ?_)
  have hP : va_P D vwCl [(sc, .inr (4, [.ref tm, .ref so, .ref sm, .ref sv, .ref qu, .ref me, .ref pa, .int (iI ti), .int (iI wa), .int (iI lc), .int (iI ca), .int (iI dn), .int (iI lo), .int (iI bi)])), (tm, .inr (5, [.ref tv, .ref tp])), (tv, .inl (cI, 19, .inl (ia se))), (tp, .inl (cI, 24, .inl (ia pl))), (sv, .inr (3, [.ref ss, .ref sb])), (ss, .inl (cI, 12, .inl (ia st))), (sb, .inl (cI, 12, .inl (ia bg)))] H := hP
  have hD : va_D A [(sc, .inr (4, [.ref tm, .ref so, .ref sm, .ref sv, .ref qu, .ref me, .ref pa, .int (iI ti), .int (iI wa), .int (iI lc), .int (iI ca), .int (iI dn), .int (iI lo), .int (iI bi)])), (tm, .inr (5, [.ref tv, .ref tp])), (tv, .inl (cI, 19, .inl (ia se))), (tp, .inl (cI, 24, .inl (ia pl))), (sv, .inr (3, [.ref ss, .ref sb])), (ss, .inl (cI, 12, .inl (ia st))), (sb, .inl (cI, 12, .inl (ia bg)))] := hD
  obtain ⟨z_8, ez⟩ : ∃ y : Int, y = z := ⟨_, rfl⟩
  rw [← ez] at hw ⊢
  clear ez
  rcases hw with ⟨rfl, w9⟩ | ⟨rfl, w9⟩
  ·
    refine q_if_eq (tgt := 34) hx hb dX4_makeChanges_12 (by decide) ⟨by decide, by decide⟩ (fun h => absurd h (by decide)) (fun _ => ?_)
    refine lv_iload_n hx hb dX4_makeChanges_15 rfl (lv_at hl 0 rfl) ?_
    refine lv_aload_n hx hb dX4_makeChanges_16 rfl (lv_at hl 1 rfl) ?_
    refine va_get (D := D) (ci := 4) (v := .ref tm) (C := RX4) (T := TX4) (N := 14) hx hb hts in_X4_makeChanges_X4 hown hK hP 0 rfl rfl 0 (by decide) (hts _ lk_X4_makeChanges_2) (fun _ h9 => h9) rfl dX4_makeChanges_17 ?_
    refine lv_iconst (v := iI 0) hx hb dX4_makeChanges_20 rfl ?_
    refine lv_aload_n hx hb dX4_makeChanges_21 rfl (lv_at hl 1 rfl) ?_
    refine va_get (D := D) (ci := 4) (v := .int (iI ti)) (C := RX4) (T := TX4) (N := 14) hx hb hts in_X4_makeChanges_X4 hown hK hP 0 rfl rfl 7 (by decide) (hts _ lk_X4_makeChanges_3) (fun _ h9 => h9) rfl dX4_makeChanges_22 ?_
    refine q_callVI (wr := [(sc, .inr (4, [.ref tm, .ref so, .ref sm, .ref sv, .ref qu, .ref me, .ref pa, .int (iI ti), .int (iI wa), .int (iI lc), .int (iI ca), .int (iI dn), .int (iI lo), .int (iI bi)])), (sv, .inr (3, [.ref ss, .ref sb])), (ss, .inl (cI, 12, .inl (ia st))), (sb, .inl (cI, 12, .inl (ia bg)))]) (wn := fun (u : Unit) => [(sc, .inr (4, [.ref tm, .ref so, .ref sm, .ref sv, .ref qu, .ref me, .ref pa, .int (iI ti), .int (iI wa), .int (iI lc), .int (iI ca), .int (iI dn), .int (iI lo), .int (iI bi)])), (tm, .inr (5, [.ref tv, .ref tp])), (tv, .inl (cI, 19, .inl (ia se))), (tp, .inl (cI, 24, .inl (ia pl))), (sv, .inr (3, [.ref ss, .ref sb])), (ss, .inl (cI, 12, .inl (ia st))), (sb, .inl (cI, 12, .inl (ia bg)))]) (rest := [.int (iI (upS st))]) [.int (iI 0), .int (iI ti)] ⟨hx, hb, hml, hown, hts⟩ (c_X5_bounded l D cI cZ cII tm tv tp se pl 0 ti hB_se hB_pl (by omega) (by omega)) (cwV 2 hts gX4_makeChanges_X5_bounded rfl rfl rfl (by decide +kernel) (by rw [hRf, hRl]; exact ⟨Nat.le_of_ble_eq_true rfl, Nat.le_of_ble_eq_true rfl⟩)) hK hP hD hS hA hN [1, 2, 3] [0, 4, 5, 6] [0, 4, 5, 6, 1, 2, 3] 1 5 rfl rfl rfl rfl rfl rfl (by decide) rfl (fun u => rfl) rfl hl.1 rfl (Nat.le_of_ble_eq_true rfl) dX4_makeChanges_25 ⟨Nat.zero_le _, Nat.zero_le _⟩ (fun z u H locs hw hP hD hS => ?_)
    have hP : va_P D vwCl [(sc, .inr (4, [.ref tm, .ref so, .ref sm, .ref sv, .ref qu, .ref me, .ref pa, .int (iI ti), .int (iI wa), .int (iI lc), .int (iI ca), .int (iI dn), .int (iI lo), .int (iI bi)])), (tm, .inr (5, [.ref tv, .ref tp])), (tv, .inl (cI, 19, .inl (ia se))), (tp, .inl (cI, 24, .inl (ia pl))), (sv, .inr (3, [.ref ss, .ref sb])), (ss, .inl (cI, 12, .inl (ia st))), (sb, .inl (cI, 12, .inl (ia bg)))] H := hP
    have hD : va_D A [(sc, .inr (4, [.ref tm, .ref so, .ref sm, .ref sv, .ref qu, .ref me, .ref pa, .int (iI ti), .int (iI wa), .int (iI lc), .int (iI ca), .int (iI dn), .int (iI lo), .int (iI bi)])), (tm, .inr (5, [.ref tv, .ref tp])), (tv, .inl (cI, 19, .inl (ia se))), (tp, .inl (cI, 24, .inl (ia pl))), (sv, .inr (3, [.ref ss, .ref sb])), (ss, .inl (cI, 12, .inl (ia st))), (sb, .inl (cI, 12, .inl (ia bg)))] := hD
    obtain ⟨z_9, ez⟩ : ∃ y : Int, y = z := ⟨_, rfl⟩
    rw [← ez] at hw ⊢
    clear ez
    have w25 : z_9 = (bdF se pl (0 : Int) ti) := hw
    clear hw
    subst w25
    refine va_mmax hx hb (hml.trans hl.1.symm) hown (hts _ lk_X4_makeChanges_4) (hts _ lk_X4_makeChanges_5) (hts _ lk_X4_makeChanges_6) (hts _ lk_X4_makeChanges_7) (by rw [hRf]; decide) (by rw [hRl]; exact Nat.le_of_ble_eq_true rfl) (Nat.zero_le _) (Nat.zero_le _) dX4_makeChanges_28 ?_
    refine q_bits (b := (max (upS st) (bdF se pl (0 : Int) ti))) (iI_max ⟨by omega, by omega⟩ ⟨by omega, by omega⟩) ?_
    refine lv_goto (tgt := 38) hx hb dX4_makeChanges_31 (by decide) ?_
    exact L38_0  (max (upS st) (bdF se pl (0 : Int) ti)) (by unfold glF reF; first | (rw [if_pos (decide_eq_true w9)]) | (rw [if_neg (by rw [decide_eq_true_iff]; exact w9)])) (by omega) _ _ hP hD hS _ (lv_sub hl [1, 0] rfl)
  ·
    refine q_if_eq (tgt := 34) hx hb dX4_makeChanges_12 (by decide) ⟨by decide, by decide⟩ (fun _ => ?_) (fun h => absurd h (by decide))
    refine lv_aload_n hx hb dX4_makeChanges_34 rfl (lv_at hl 1 rfl) ?_
    refine va_get (D := D) (ci := 4) (v := .int (iI wa)) (C := RX4) (T := TX4) (N := 14) hx hb hts in_X4_makeChanges_X4 hown hK hP 0 rfl rfl 8 (by decide) (hts _ lk_X4_makeChanges_8) (fun _ h9 => h9) rfl dX4_makeChanges_35 ?_
    exact L38_0  wa (by unfold glF reF; first | (rw [if_pos (decide_eq_true w9)]) | (rw [if_neg (by rw [decide_eq_true_iff]; exact w9)])) (by omega) _ _ hP hD hS _ (lv_sub hl [1, 0] rfl)

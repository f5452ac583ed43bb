theorem in_X6_plan_X6 : ∀ w ∈ wsX60, w ∈ wsX6_plan := fun _ h => List.mem_cons_of_mem _ (List.mem_append_left _ (List.mem_append_right _ h))
theorem lk_X6_plan_1 : Cond.fieldLink RX6 10 "MoreHands" "terms" "LMoreHands$Terms;" ∈ wsX6_plan := List.mem_of_getElem? (i := 1) rfl
set_option maxHeartbeats 4000000 in
set_option maxRecDepth 100000 in
theorem c_X6_plan (l : Launch) (D : va_G) (cI cZ cII : ClassId) (mh : Nat) (tm : Nat) (tv : Nat) (tp : Nat) (sc : Nat) (sd : Nat) (hi : Nat) (se : Int → Int) (pl : Int → Int) (h : Int) (v : Int) (hB_se : BB 0 1000 se) (hB_pl : BB 0 12 pl) (hp_h : IR h) (hp_v : IR v) : CtI l yX6_plan wsX6_plan 2 45 D (ty3 cI cZ cII) [.ref mh, .int (iI h), .int (iI v)] [(mh, .inr (6, [.ref tm, .ref sc, .ref sd, .ref hi])), (tm, .inr (5, [.ref tv, .ref tp])), (tv, .inl (cI, 19, .inl (ia se))), (tp, .inl (cI, 24, .inl (ia pl)))] (fun z (u : (Int → Int)) => z = plZ pl h v ∧ u = plN pl h v ∧ BB 0 12 u) (fun u => [(mh, .inr (6, [.ref tm, .ref sc, .ref sd, .ref hi])), (tm, .inr (5, [.ref tv, .ref tp])), (tv, .inl (cI, 19, .inl (ia se))), (tp, .inl (cI, 24, .inl (ia u)))]) := by
  refine CtI.mk (cc := cX6_plan) (maxL := 3) (ret := (some .int)) (by decide) rfl (Nat.le_of_ble_eq_true rfl) ?_
  intro p e s m below meth c A ls R args Q hx hb hml hr hts hown hlocks hA hK hP hD hN hS hl hRf hRl hQ
  have hl : lv_has ls 3 [(0, .ref mh), (1, .int (iI h)), (2, .int (iI v))] := hl
  have hown : s.vm.findClass RX6 = some m.cls := hown
  refine lv_iload_n hx hb dX6_plan_0 rfl (lv_at hl 1 rfl) ?_
  refine lv_iconst (v := iI 0) hx hb dX6_plan_1 rfl ?_
  refine lv_bipush (v := iI 23) hx hb dX6_plan_2 (by decide +kernel) ?_
  refine q_callSI (wr := [(mh, .inr (6, [.ref tm, .ref sc, .ref sd, .ref hi])), (tm, .inr (5, [.ref tv, .ref tp])), (tv, .inl (cI, 19, .inl (ia se))), (tp, .inl (cI, 24, .inl (ia pl)))]) (wn := fun (u : Unit) => [(mh, .inr (6, [.ref tm, .ref sc, .ref sd, .ref hi])), (tm, .inr (5, [.ref tv, .ref tp])), (tv, .inl (cI, 19, .inl (ia se))), (tp, .inl (cI, 24, .inl (ia pl)))]) (rest := []) [.int (iI h), .int (iI 0), .int (iI 23)] ⟨hx, hb, hml, hown, hts⟩ (c_X6_within l D cI cZ cII h 0 23 ⟨by omega, by omega⟩ ⟨by omega, by omega⟩ ⟨by omega, by omega⟩) (va_cwS 3 hts gX6_plan_X6_within rfl rfl rfl (by decide +kernel) (by rw [hRf, hRl]; exact ⟨Nat.le_of_ble_eq_true rfl, Nat.le_of_ble_eq_true rfl⟩)) hK hP hD hS hA hN [] [0, 1, 2, 3] [0, 1, 2, 3] rfl rfl rfl rfl (by decide) rfl (fun u => rfl) rfl hl.1 rfl (Nat.le_of_ble_eq_true rfl) dX6_plan_4 ⟨Nat.zero_le _, Nat.zero_le _⟩ (fun z u H locs hw hP hD hS => ?_)
  have hP : va_P D vwCl [(mh, .inr (6, [.ref tm, .ref sc, .ref sd, .ref hi])), (tm, .inr (5, [.ref tv, .ref tp])), (tv, .inl (cI, 19, .inl (ia se))), (tp, .inl (cI, 24, .inl (ia pl)))] H := hP
  have hD : va_D A [(mh, .inr (6, [.ref tm, .ref sc, .ref sd, .ref hi])), (tm, .inr (5, [.ref tv, .ref tp])), (tv, .inl (cI, 19, .inl (ia se))), (tp, .inl (cI, 24, .inl (ia pl)))] := hD
  obtain ⟨z_1, ez⟩ : ∃ y : Int, y = z := ⟨_, rfl⟩
  rw [← ez] at hw ⊢
  clear ez
  rcases hw with ⟨rfl, w4⟩ | ⟨rfl, w4⟩
  ·
    refine q_if_eq (tgt := 20) hx hb dX6_plan_7 (by decide) ⟨by decide, by decide⟩ (fun h => absurd h (by decide)) (fun _ => ?_)
    refine lv_iload_n hx hb dX6_plan_10 rfl (lv_at hl 2 rfl) ?_
    refine lv_iconst (v := iI 0) hx hb dX6_plan_11 rfl ?_
    refine lv_bipush (v := iI 12) hx hb dX6_plan_12 (by decide +kernel) ?_
    refine q_callSI (wr := [(mh, .inr (6, [.ref tm, .ref sc, .ref sd, .ref hi])), (tm, .inr (5, [.ref tv, .ref tp])), (tv, .inl (cI, 19, .inl (ia se))), (tp, .inl (cI, 24, .inl (ia pl)))]) (wn := fun (u : Unit) => [(mh, .inr (6, [.ref tm, .ref sc, .ref sd, .ref hi])), (tm, .inr (5, [.ref tv, .ref tp])), (tv, .inl (cI, 19, .inl (ia se))), (tp, .inl (cI, 24, .inl (ia pl)))]) (rest := []) [.int (iI v), .int (iI 0), .int (iI 12)] ⟨hx, hb, hml, hown, hts⟩ (c_X6_within l D cI cZ cII v 0 12 ⟨by omega, by omega⟩ ⟨by omega, by omega⟩ ⟨by omega, by omega⟩) (va_cwS 3 hts gX6_plan_X6_within rfl rfl rfl (by decide +kernel) (by rw [hRf, hRl]; exact ⟨Nat.le_of_ble_eq_true rfl, Nat.le_of_ble_eq_true rfl⟩)) hK hP hD hS hA hN [] [0, 1, 2, 3] [0, 1, 2, 3] rfl rfl rfl rfl (by decide) rfl (fun u => rfl) rfl hl.1 rfl (Nat.le_of_ble_eq_true rfl) dX6_plan_14 ⟨Nat.zero_le _, Nat.zero_le _⟩ (fun z u H locs hw hP hD hS => ?_)
    have hP : va_P D vwCl [(mh, .inr (6, [.ref tm, .ref sc, .ref sd, .ref hi])), (tm, .inr (5, [.ref tv, .ref tp])), (tv, .inl (cI, 19, .inl (ia se))), (tp, .inl (cI, 24, .inl (ia pl)))] H := hP
    have hD : va_D A [(mh, .inr (6, [.ref tm, .ref sc, .ref sd, .ref hi])), (tm, .inr (5, [.ref tv, .ref tp])), (tv, .inl (cI, 19, .inl (ia se))), (tp, .inl (cI, 24, .inl (ia pl)))] := hD
    obtain ⟨z_2, ez⟩ : ∃ y : Int, y = z := ⟨_, rfl⟩
    rw [← ez] at hw ⊢
    clear ez
    rcases hw with ⟨rfl, w14⟩ | ⟨rfl, w14⟩
    ·
      refine q_if_ne (tgt := 24) hx hb dX6_plan_17 (by decide) ⟨by decide, by decide⟩ (fun _ => ?_) (fun h => absurd h (by decide))
      refine lv_aload_n hx hb dX6_plan_24 rfl (lv_at hl 0 rfl) ?_
      refine va_get (D := D) (ci := 6) (v := .ref tm) (C := RX6) (T := TX6) (N := 4) hx hb hts in_X6_plan_X6 hown hK hP 0 rfl rfl 0 (by decide) (hts _ lk_X6_plan_1) (fun _ h9 => h9) rfl dX6_plan_25 ?_
      refine lv_iload_n hx hb dX6_plan_28 rfl (lv_at hl 1 rfl) ?_
      refine lv_iload_n hx hb dX6_plan_29 rfl (lv_at hl 2 rfl) ?_
      refine q_callVI (wr := [(mh, .inr (6, [.ref tm, .ref sc, .ref sd, .ref hi]))]) (wn := fun (u : (Int → Int)) => [(mh, .inr (6, [.ref tm, .ref sc, .ref sd, .ref hi])), (tm, .inr (5, [.ref tv, .ref tp])), (tv, .inl (cI, 19, .inl (ia se))), (tp, .inl (cI, 24, .inl (ia u)))]) (rest := []) [.int (iI h), .int (iI v)] ⟨hx, hb, hml, hown, hts⟩ (c_X5_changePlan l D cI cZ cII tm tv tp se pl h v hB_se hB_pl ⟨by omega, by omega⟩ (by omega)) (cwV 2 hts gX6_plan_X5_changePlan rfl rfl rfl (by decide +kernel) (by rw [hRf, hRl]; exact ⟨Nat.le_of_ble_eq_true rfl, Nat.le_of_ble_eq_true rfl⟩)) hK hP hD hS hA hN [1, 2, 3] [0] [0, 1, 2, 3] 1 5 rfl rfl rfl rfl rfl rfl (by decide) rfl (fun u => rfl) rfl hl.1 rfl (Nat.le_of_ble_eq_true rfl) dX6_plan_30 ⟨Nat.zero_le _, Nat.zero_le _⟩ (fun z u H locs hw hP hD hS => ?_)
      obtain ⟨pl_3, rfl⟩ : ∃ z, z = u := ⟨_, rfl⟩
      try dsimp only at hw
      have hP : va_P D vwCl [(mh, .inr (6, [.ref tm, .ref sc, .ref sd, .ref hi])), (tm, .inr (5, [.ref tv, .ref tp])), (tv, .inl (cI, 19, .inl (ia se))), (tp, .inl (cI, 24, .inl (ia pl_3)))] H := hP
      have hD : va_D A [(mh, .inr (6, [.ref tm, .ref sc, .ref sd, .ref hi])), (tm, .inr (5, [.ref tv, .ref tp])), (tv, .inl (cI, 19, .inl (ia se))), (tp, .inl (cI, 24, .inl (ia pl_3)))] := hD
      obtain ⟨z_4, ez⟩ : ∃ y : Int, y = z := ⟨_, rfl⟩
      rw [← ez] at hw ⊢
      clear ez
      obtain ⟨w30, e30, hB_pl_3⟩ := hw
      rw [hQ]
      refine q_retI pl_3 hx hb hr hlocks hK hP hD hS dX6_plan_33 ?_
      try dsimp only
      unfold plZ plN
      first | (rw [if_neg (by omega), if_neg (by omega)]; exact ⟨rfl, rfl, hB_pl⟩) | (rw [if_pos (by omega), if_pos (by omega)]; exact ⟨rfl, rfl, BB_uI hB_pl (by omega)⟩) | (rw [if_pos (by omega), if_pos (by omega)]; exact ⟨by rw [w30, if_pos (by omega)], by rw [e30, if_pos (by omega)], by assumption⟩)
    ·
      refine q_if_ne (tgt := 24) hx hb dX6_plan_17 (by decide) ⟨by decide, by decide⟩ (fun h => absurd h (by decide)) (fun _ => ?_)
      refine lv_sipush (v := iI (-1002)) hx hb dX6_plan_20 (by decide +kernel) ?_
      rw [hQ]
      refine q_retI pl hx hb hr hlocks hK hP hD hS dX6_plan_23 ?_
      try dsimp only
      unfold plZ plN
      first | (rw [if_neg (by omega), if_neg (by omega)]; exact ⟨rfl, rfl, hB_pl⟩) | (rw [if_pos (by omega), if_pos (by omega)]; exact ⟨rfl, rfl, BB_uI hB_pl (by omega)⟩) | (rw [if_pos (by omega), if_pos (by omega)]; exact ⟨by rw [w30, if_pos (by omega)], by rw [e30, if_pos (by omega)], by assumption⟩)
  ·
    refine q_if_eq (tgt := 20) hx hb dX6_plan_7 (by decide) ⟨by decide, by decide⟩ (fun _ => ?_) (fun h => absurd h (by decide))
    refine lv_sipush (v := iI (-1002)) hx hb dX6_plan_20 (by decide +kernel) ?_
    rw [hQ]
    refine q_retI pl hx hb hr hlocks hK hP hD hS dX6_plan_23 ?_
    try dsimp only
    unfold plZ plN
    first | (rw [if_neg (by omega), if_neg (by omega)]; exact ⟨rfl, rfl, hB_pl⟩) | (rw [if_pos (by omega), if_pos (by omega)]; exact ⟨rfl, rfl, BB_uI hB_pl (by omega)⟩) | (rw [if_pos (by omega), if_pos (by omega)]; exact ⟨by rw [w30, if_pos (by omega)], by rw [e30, if_pos (by omega)], by assumption⟩)

theorem in_X6_load_X4 : ∀ w ∈ wsX40, w ∈ wsX6_load := fun _ h => List.mem_cons_of_mem _ (List.mem_append_right _ h)
theorem in_X6_load_X6 : ∀ w ∈ wsX60, w ∈ wsX6_load := fun _ h => List.mem_cons_of_mem _ (List.mem_append_left _ (List.mem_append_right _ h))
theorem lk_X6_load_1 : Cond.fieldLink RX6 21 "MoreHands" "live" "LMoreHands$Service;" ∈ wsX6_load := List.mem_of_getElem? (i := 1) rfl
set_option maxHeartbeats 4000000 in
set_option maxRecDepth 100000 in
theorem c_X6_load (l : Launch) (D : va_G) (cI cZ cII : ClassId) (mh : Nat) (sc : Nat) (so : Nat) (tm : Nat) (sd : Nat) (hi : Nat) (sm : Nat) (sv : Nat) (qu : Nat) (me : Nat) (pa : Nat) (ti : Int) (wa : Int) (lc : Int) (ca : Int) (dn : Int) (lo : Int) (bi : Int) (ld : Int → Int) (t : Int) (v : Int) (hB_ld : BB 0 60 ld) (hp_t : IR t) (hp_v : IR v) (hti0 : 0 ≤ ti ∧ ti ≤ 200) : CtI l yX6_load wsX6_load 2 45 D (ty3 cI cZ cII) [.ref mh, .int (iI t), .int (iI v)] [(mh, .inr (6, [.ref tm, .ref sc, .ref sd, .ref hi])), (sc, .inr (4, [.ref tm, .ref so, .ref sm, .ref sv, .ref qu, .ref me, .ref pa, .int (iI ti), .int (iI wa), .int (iI lc), .int (iI ca), .int (iI dn), .int (iI lo), .int (iI bi)])), (so, .inl (cI, 200, .inl (ia ld)))] (fun z (u : (Int → Int)) => z = ldZ ld ti t v ∧ u = ldN ld ti t v ∧ BB 0 60 u) (fun u => [(mh, .inr (6, [.ref tm, .ref sc, .ref sd, .ref hi])), (sc, .inr (4, [.ref tm, .ref so, .ref sm, .ref sv, .ref qu, .ref me, .ref pa, .int (iI ti), .int (iI wa), .int (iI lc), .int (iI ca), .int (iI dn), .int (iI lo), .int (iI bi)])), (so, .inl (cI, 200, .inl (ia u)))]) := by
  refine CtI.mk (cc := cX6_load) (maxL := 3) (ret := (some .int)) (by decide) rfl (Nat.le_of_ble_eq_true rfl) ?_
  intro p e s m below meth c A ls R args Q hx hb hml hr hts hown hlocks hA hK hP hD hN hS hl hRf hRl hQ
  have hl : lv_has ls 3 [(0, .ref mh), (1, .int (iI t)), (2, .int (iI v))] := hl
  have hown : s.vm.findClass RX6 = some m.cls := hown
  refine lv_iload_n hx hb dX6_load_0 rfl (lv_at hl 1 rfl) ?_
  refine lv_iconst (v := iI 0) hx hb dX6_load_1 rfl ?_
  refine lv_sipush (v := iI 199) hx hb dX6_load_2 (by decide +kernel) ?_
  refine q_callSI (wr := [(mh, .inr (6, [.ref tm, .ref sc, .ref sd, .ref hi])), (sc, .inr (4, [.ref tm, .ref so, .ref sm, .ref sv, .ref qu, .ref me, .ref pa, .int (iI ti), .int (iI wa), .int (iI lc), .int (iI ca), .int (iI dn), .int (iI lo), .int (iI bi)])), (so, .inl (cI, 200, .inl (ia ld)))]) (wn := fun (u : Unit) => [(mh, .inr (6, [.ref tm, .ref sc, .ref sd, .ref hi])), (sc, .inr (4, [.ref tm, .ref so, .ref sm, .ref sv, .ref qu, .ref me, .ref pa, .int (iI ti), .int (iI wa), .int (iI lc), .int (iI ca), .int (iI dn), .int (iI lo), .int (iI bi)])), (so, .inl (cI, 200, .inl (ia ld)))]) (rest := []) [.int (iI t), .int (iI 0), .int (iI 199)] ⟨hx, hb, hml, hown, hts⟩ (c_X6_within l D cI cZ cII t 0 199 ⟨by omega, by omega⟩ ⟨by omega, by omega⟩ ⟨by omega, by omega⟩) (va_cwS 3 hts gX6_load_X6_within rfl rfl rfl (by decide +kernel) (by rw [hRf, hRl]; exact ⟨Nat.le_of_ble_eq_true rfl, Nat.le_of_ble_eq_true rfl⟩)) hK hP hD hS hA hN [] [0, 1, 2] [0, 1, 2] rfl rfl rfl rfl (by decide) rfl (fun u => rfl) rfl hl.1 rfl (Nat.le_of_ble_eq_true rfl) dX6_load_5 ⟨Nat.zero_le _, Nat.zero_le _⟩ (fun z u H locs hw hP hD hS => ?_)
  have hP : va_P D vwCl [(mh, .inr (6, [.ref tm, .ref sc, .ref sd, .ref hi])), (sc, .inr (4, [.ref tm, .ref so, .ref sm, .ref sv, .ref qu, .ref me, .ref pa, .int (iI ti), .int (iI wa), .int (iI lc), .int (iI ca), .int (iI dn), .int (iI lo), .int (iI bi)])), (so, .inl (cI, 200, .inl (ia ld)))] H := hP
  have hD : va_D A [(mh, .inr (6, [.ref tm, .ref sc, .ref sd, .ref hi])), (sc, .inr (4, [.ref tm, .ref so, .ref sm, .ref sv, .ref qu, .ref me, .ref pa, .int (iI ti), .int (iI wa), .int (iI lc), .int (iI ca), .int (iI dn), .int (iI lo), .int (iI bi)])), (so, .inl (cI, 200, .inl (ia ld)))] := hD
  obtain ⟨z_1, ez⟩ : ∃ y : Int, y = z := ⟨_, rfl⟩
  rw [← ez] at hw ⊢
  clear ez
  rcases hw with ⟨rfl, w5⟩ | ⟨rfl, w5⟩
  ·
    refine q_if_eq (tgt := 21) hx hb dX6_load_8 (by decide) ⟨by decide, by decide⟩ (fun h => absurd h (by decide)) (fun _ => ?_)
    refine lv_iload_n hx hb dX6_load_11 rfl (lv_at hl 2 rfl) ?_
    refine lv_iconst (v := iI 0) hx hb dX6_load_12 rfl ?_
    refine lv_bipush (v := iI 60) hx hb dX6_load_13 (by decide +kernel) ?_
    refine q_callSI (wr := [(mh, .inr (6, [.ref tm, .ref sc, .ref sd, .ref hi])), (sc, .inr (4, [.ref tm, .ref so, .ref sm, .ref sv, .ref qu, .ref me, .ref pa, .int (iI ti), .int (iI wa), .int (iI lc), .int (iI ca), .int (iI dn), .int (iI lo), .int (iI bi)])), (so, .inl (cI, 200, .inl (ia ld)))]) (wn := fun (u : Unit) => [(mh, .inr (6, [.ref tm, .ref sc, .ref sd, .ref hi])), (sc, .inr (4, [.ref tm, .ref so, .ref sm, .ref sv, .ref qu, .ref me, .ref pa, .int (iI ti), .int (iI wa), .int (iI lc), .int (iI ca), .int (iI dn), .int (iI lo), .int (iI bi)])), (so, .inl (cI, 200, .inl (ia ld)))]) (rest := []) [.int (iI v), .int (iI 0), .int (iI 60)] ⟨hx, hb, hml, hown, hts⟩ (c_X6_within l D cI cZ cII v 0 60 ⟨by omega, by omega⟩ ⟨by omega, by omega⟩ ⟨by omega, by omega⟩) (va_cwS 3 hts gX6_load_X6_within rfl rfl rfl (by decide +kernel) (by rw [hRf, hRl]; exact ⟨Nat.le_of_ble_eq_true rfl, Nat.le_of_ble_eq_true rfl⟩)) hK hP hD hS hA hN [] [0, 1, 2] [0, 1, 2] rfl rfl rfl rfl (by decide) rfl (fun u => rfl) rfl hl.1 rfl (Nat.le_of_ble_eq_true rfl) dX6_load_15 ⟨Nat.zero_le _, Nat.zero_le _⟩ (fun z u H locs hw hP hD hS => ?_)
    have hP : va_P D vwCl [(mh, .inr (6, [.ref tm, .ref sc, .ref sd, .ref hi])), (sc, .inr (4, [.ref tm, .ref so, .ref sm, .ref sv, .ref qu, .ref me, .ref pa, .int (iI ti), .int (iI wa), .int (iI lc), .int (iI ca), .int (iI dn), .int (iI lo), .int (iI bi)])), (so, .inl (cI, 200, .inl (ia ld)))] H := hP
    have hD : va_D A [(mh, .inr (6, [.ref tm, .ref sc, .ref sd, .ref hi])), (sc, .inr (4, [.ref tm, .ref so, .ref sm, .ref sv, .ref qu, .ref me, .ref pa, .int (iI ti), .int (iI wa), .int (iI lc), .int (iI ca), .int (iI dn), .int (iI lo), .int (iI bi)])), (so, .inl (cI, 200, .inl (ia ld)))] := hD
    obtain ⟨z_2, ez⟩ : ∃ y : Int, y = z := ⟨_, rfl⟩
    rw [← ez] at hw ⊢
    clear ez
    rcases hw with ⟨rfl, w15⟩ | ⟨rfl, w15⟩
    ·
      refine q_if_ne (tgt := 25) hx hb dX6_load_18 (by decide) ⟨by decide, by decide⟩ (fun _ => ?_) (fun h => absurd h (by decide))
      refine lv_iload_n hx hb dX6_load_25 rfl (lv_at hl 1 rfl) ?_
      refine lv_aload_n hx hb dX6_load_26 rfl (lv_at hl 0 rfl) ?_
      refine va_get (D := D) (ci := 6) (v := .ref sc) (C := RX6) (T := TX6) (N := 4) hx hb hts in_X6_load_X6 hown hK hP 0 rfl rfl 1 (by decide) (hts _ lk_X6_load_1) (fun _ h9 => h9) rfl dX6_load_27 ?_
      refine va_getN (D := D) (ci := 4) (v := .int (iI ti)) (C := RX4) (T := TX4) (N := 14) hx hb hts in_X6_load_X4 hown hK hP 1 rfl rfl 7 (by decide) (hN.2.2.2.2.2.1.use rfl) (fun _ h9 => h9) rfl dX6_load_30 ?_
      refine q_icmp_ge (tgt := 42) hx hb dX6_load_33 (by decide) ⟨by omega, by omega⟩ ⟨by omega, by omega⟩ (fun c33 => ?_) (fun c33 => ?_)
      ·
        refine lv_aload_n hx hb dX6_load_42 rfl (lv_at hl 0 rfl) ?_
        refine va_get (D := D) (ci := 6) (v := .ref sc) (C := RX6) (T := TX6) (N := 4) hx hb hts in_X6_load_X6 hown hK hP 0 rfl rfl 1 (by decide) (hts _ lk_X6_load_1) (fun _ h9 => h9) rfl dX6_load_43 ?_
        refine lv_iload_n hx hb dX6_load_46 rfl (lv_at hl 1 rfl) ?_
        refine lv_iload_n hx hb dX6_load_47 rfl (lv_at hl 2 rfl) ?_
        refine q_callVI (wr := [(mh, .inr (6, [.ref tm, .ref sc, .ref sd, .ref hi]))]) (wn := fun (u : (Int → Int)) => [(mh, .inr (6, [.ref tm, .ref sc, .ref sd, .ref hi])), (sc, .inr (4, [.ref tm, .ref so, .ref sm, .ref sv, .ref qu, .ref me, .ref pa, .int (iI ti), .int (iI wa), .int (iI lc), .int (iI ca), .int (iI dn), .int (iI lo), .int (iI bi)])), (so, .inl (cI, 200, .inl (ia u)))]) (rest := []) [.int (iI t), .int (iI v)] ⟨hx, hb, hml, hown, hts⟩ (c_X4_changeLoad l D cI cZ cII sc so tm sm sv qu me pa ti wa lc ca dn lo bi ld t v hB_ld ⟨by omega, by omega⟩ (by omega)) (cwV 2 hts gX6_load_X4_changeLoad rfl rfl rfl (by decide +kernel) (by rw [hRf, hRl]; exact ⟨Nat.le_of_ble_eq_true rfl, Nat.le_of_ble_eq_true rfl⟩)) hK hP hD hS hA hN [1, 2] [0] [0, 1, 2] 1 4 rfl rfl rfl rfl rfl rfl (by decide) rfl (fun u => rfl) rfl hl.1 rfl (Nat.le_of_ble_eq_true rfl) dX6_load_48 ⟨Nat.zero_le _, Nat.zero_le _⟩ (fun z u H locs hw hP hD hS => ?_)
        obtain ⟨ld_3, rfl⟩ : ∃ z, z = u := ⟨_, rfl⟩
        try dsimp only at hw
        have hP : va_P D vwCl [(mh, .inr (6, [.ref tm, .ref sc, .ref sd, .ref hi])), (sc, .inr (4, [.ref tm, .ref so, .ref sm, .ref sv, .ref qu, .ref me, .ref pa, .int (iI ti), .int (iI wa), .int (iI lc), .int (iI ca), .int (iI dn), .int (iI lo), .int (iI bi)])), (so, .inl (cI, 200, .inl (ia ld_3)))] H := hP
        have hD : va_D A [(mh, .inr (6, [.ref tm, .ref sc, .ref sd, .ref hi])), (sc, .inr (4, [.ref tm, .ref so, .ref sm, .ref sv, .ref qu, .ref me, .ref pa, .int (iI ti), .int (iI wa), .int (iI lc), .int (iI ca), .int (iI dn), .int (iI lo), .int (iI bi)])), (so, .inl (cI, 200, .inl (ia ld_3)))] := hD
        obtain ⟨z_4, ez⟩ : ∃ y : Int, y = z := ⟨_, rfl⟩
        rw [← ez] at hw ⊢
        clear ez
        obtain ⟨w48, e48, hB_ld_3⟩ := hw
        rw [hQ]
        refine q_retI ld_3 hx hb hr hlocks hK hP hD hS dX6_load_51 ?_
        try dsimp only
        unfold ldZ ldN
        first | (rw [if_neg (by omega), if_neg (by omega)]; exact ⟨rfl, rfl, hB_ld⟩) | (rw [if_pos (by omega), if_pos (by omega), if_neg (by omega)]; exact ⟨rfl, rfl, hB_ld⟩) | (rw [if_pos (by omega), if_neg (by omega), if_pos (by omega)]; exact ⟨by rw [w48, if_pos (by omega)], by rw [e48, if_pos (by omega)], by assumption⟩)
      ·
        refine lv_sipush (v := iI (-1003)) hx hb dX6_load_36 (by decide +kernel) ?_
        refine lv_goto (tgt := 51) hx hb dX6_load_39 (by decide) ?_
        rw [hQ]
        refine q_retI ld hx hb hr hlocks hK hP hD hS dX6_load_51 ?_
        try dsimp only
        unfold ldZ ldN
        first | (rw [if_neg (by omega), if_neg (by omega)]; exact ⟨rfl, rfl, hB_ld⟩) | (rw [if_pos (by omega), if_pos (by omega), if_neg (by omega)]; exact ⟨rfl, rfl, hB_ld⟩) | (rw [if_pos (by omega), if_neg (by omega), if_pos (by omega)]; exact ⟨by rw [w48, if_pos (by omega)], by rw [e48, if_pos (by omega)], by assumption⟩)
    ·
      refine q_if_ne (tgt := 25) hx hb dX6_load_18 (by decide) ⟨by decide, by decide⟩ (fun h => absurd h (by decide)) (fun _ => ?_)
      refine lv_sipush (v := iI (-1002)) hx hb dX6_load_21 (by decide +kernel) ?_
      rw [hQ]
      refine q_retI ld hx hb hr hlocks hK hP hD hS dX6_load_24 ?_
      try dsimp only
      unfold ldZ ldN
      first | (rw [if_neg (by omega), if_neg (by omega)]; exact ⟨rfl, rfl, hB_ld⟩) | (rw [if_pos (by omega), if_pos (by omega), if_neg (by omega)]; exact ⟨rfl, rfl, hB_ld⟩) | (rw [if_pos (by omega), if_neg (by omega), if_pos (by omega)]; exact ⟨by rw [w48, if_pos (by omega)], by rw [e48, if_pos (by omega)], by assumption⟩)
  ·
    refine q_if_eq (tgt := 21) hx hb dX6_load_8 (by decide) ⟨by decide, by decide⟩ (fun _ => ?_) (fun h => absurd h (by decide))
    refine lv_sipush (v := iI (-1002)) hx hb dX6_load_21 (by decide +kernel) ?_
    rw [hQ]
    refine q_retI ld hx hb hr hlocks hK hP hD hS dX6_load_24 ?_
    try dsimp only
    unfold ldZ ldN
    first | (rw [if_neg (by omega), if_neg (by omega)]; exact ⟨rfl, rfl, hB_ld⟩) | (rw [if_pos (by omega), if_pos (by omega), if_neg (by omega)]; exact ⟨rfl, rfl, hB_ld⟩) | (rw [if_pos (by omega), if_neg (by omega), if_pos (by omega)]; exact ⟨by rw [w48, if_pos (by omega)], by rw [e48, if_pos (by omega)], by assumption⟩)

theorem in_X6_lose_X4 : ∀ w ∈ wsX40, w ∈ wsX6_lose := fun _ h => List.mem_cons_of_mem _ (List.mem_append_right _ h)
theorem in_X6_lose_X6 : ∀ w ∈ wsX60, w ∈ wsX6_lose := fun _ h => List.mem_cons_of_mem _ (List.mem_append_left _ (List.mem_append_right _ h))
theorem lk_X6_lose_1 : Cond.fieldLink RX6 21 "MoreHands" "live" "LMoreHands$Service;" ∈ wsX6_lose := List.mem_of_getElem? (i := 1) rfl
set_option maxHeartbeats 4000000 in
set_option maxRecDepth 100000 in
theorem c_X6_lose (l : Launch) (D : va_G) (cI cZ cII : ClassId) (mh : Nat) (sc : Nat) (sm : Nat) (tm : Nat) (sd : Nat) (hi : Nat) (so : Nat) (sv : Nat) (qu : Nat) (me : Nat) (pa : Nat) (ti : Int) (wa : Int) (lc : Int) (ca : Int) (dn : Int) (lo : Int) (bi : Int) (lm : Int → Int) (t : Int) (v : Int) (hB_lm : BB 0 1 lm) (hp_t : IR t) (hp_v : 0 ≤ v ∧ v ≤ 1) (hti0 : 0 ≤ ti ∧ ti ≤ 200) : CtI l yX6_lose wsX6_lose 2 45 D (ty3 cI cZ cII) [.ref mh, .int (iI t), .int (iI v)] [(mh, .inr (6, [.ref tm, .ref sc, .ref sd, .ref hi])), (sc, .inr (4, [.ref tm, .ref so, .ref sm, .ref sv, .ref qu, .ref me, .ref pa, .int (iI ti), .int (iI wa), .int (iI lc), .int (iI ca), .int (iI dn), .int (iI lo), .int (iI bi)])), (sm, .inl (cZ, 200, .inl (ia lm)))] (fun z (u : (Int → Int)) => z = lmZ lm ti t ∧ u = lmN lm ti t v ∧ BB 0 1 u) (fun u => [(mh, .inr (6, [.ref tm, .ref sc, .ref sd, .ref hi])), (sc, .inr (4, [.ref tm, .ref so, .ref sm, .ref sv, .ref qu, .ref me, .ref pa, .int (iI ti), .int (iI wa), .int (iI lc), .int (iI ca), .int (iI dn), .int (iI lo), .int (iI bi)])), (sm, .inl (cZ, 200, .inl (ia u)))]) := by
  refine CtI.mk (cc := cX6_lose) (maxL := 3) (ret := (some .int)) (by decide) rfl (Nat.le_of_ble_eq_true rfl) ?_
  intro p e s m below meth c A ls R args Q hx hb hml hr hts hown hlocks hA hK hP hD hN hS hl hRf hRl hQ
  have hl : lv_has ls 3 [(0, .ref mh), (1, .int (iI t)), (2, .int (iI v))] := hl
  have hown : s.vm.findClass RX6 = some m.cls := hown
  refine lv_iload_n hx hb dX6_lose_0 rfl (lv_at hl 1 rfl) ?_
  refine lv_iconst (v := iI 0) hx hb dX6_lose_1 rfl ?_
  refine lv_sipush (v := iI 199) hx hb dX6_lose_2 (by decide +kernel) ?_
  refine q_callSI (wr := [(mh, .inr (6, [.ref tm, .ref sc, .ref sd, .ref hi])), (sc, .inr (4, [.ref tm, .ref so, .ref sm, .ref sv, .ref qu, .ref me, .ref pa, .int (iI ti), .int (iI wa), .int (iI lc), .int (iI ca), .int (iI dn), .int (iI lo), .int (iI bi)])), (sm, .inl (cZ, 200, .inl (ia lm)))]) (wn := fun (u : Unit) => [(mh, .inr (6, [.ref tm, .ref sc, .ref sd, .ref hi])), (sc, .inr (4, [.ref tm, .ref so, .ref sm, .ref sv, .ref qu, .ref me, .ref pa, .int (iI ti), .int (iI wa), .int (iI lc), .int (iI ca), .int (iI dn), .int (iI lo), .int (iI bi)])), (sm, .inl (cZ, 200, .inl (ia lm)))]) (rest := []) [.int (iI t), .int (iI 0), .int (iI 199)] ⟨hx, hb, hml, hown, hts⟩ (c_X6_within l D cI cZ cII t 0 199 ⟨by omega, by omega⟩ ⟨by omega, by omega⟩ ⟨by omega, by omega⟩) (va_cwS 3 hts gX6_lose_X6_within rfl rfl rfl (by decide +kernel) (by rw [hRf, hRl]; exact ⟨Nat.le_of_ble_eq_true rfl, Nat.le_of_ble_eq_true rfl⟩)) hK hP hD hS hA hN [] [0, 1, 2] [0, 1, 2] rfl rfl rfl rfl (by decide) rfl (fun u => rfl) rfl hl.1 rfl (Nat.le_of_ble_eq_true rfl) dX6_lose_5 ⟨Nat.zero_le _, Nat.zero_le _⟩ (fun z u H locs hw hP hD hS => ?_)
  have hP : va_P D vwCl [(mh, .inr (6, [.ref tm, .ref sc, .ref sd, .ref hi])), (sc, .inr (4, [.ref tm, .ref so, .ref sm, .ref sv, .ref qu, .ref me, .ref pa, .int (iI ti), .int (iI wa), .int (iI lc), .int (iI ca), .int (iI dn), .int (iI lo), .int (iI bi)])), (sm, .inl (cZ, 200, .inl (ia lm)))] H := hP
  have hD : va_D A [(mh, .inr (6, [.ref tm, .ref sc, .ref sd, .ref hi])), (sc, .inr (4, [.ref tm, .ref so, .ref sm, .ref sv, .ref qu, .ref me, .ref pa, .int (iI ti), .int (iI wa), .int (iI lc), .int (iI ca), .int (iI dn), .int (iI lo), .int (iI bi)])), (sm, .inl (cZ, 200, .inl (ia lm)))] := hD
  obtain ⟨z_1, ez⟩ : ∃ y : Int, y = z := ⟨_, rfl⟩
  rw [← ez] at hw ⊢
  clear ez
  rcases hw with ⟨rfl, w5⟩ | ⟨rfl, w5⟩
  ·
    refine q_if_ne (tgt := 15) hx hb dX6_lose_8 (by decide) ⟨by decide, by decide⟩ (fun _ => ?_) (fun h => absurd h (by decide))
    refine lv_iload_n hx hb dX6_lose_15 rfl (lv_at hl 1 rfl) ?_
    refine lv_aload_n hx hb dX6_lose_16 rfl (lv_at hl 0 rfl) ?_
    refine va_get (D := D) (ci := 6) (v := .ref sc) (C := RX6) (T := TX6) (N := 4) hx hb hts in_X6_lose_X6 hown hK hP 0 rfl rfl 1 (by decide) (hts _ lk_X6_lose_1) (fun _ h9 => h9) rfl dX6_lose_17 ?_
    refine va_getN (D := D) (ci := 4) (v := .int (iI ti)) (C := RX4) (T := TX4) (N := 14) hx hb hts in_X6_lose_X4 hown hK hP 1 rfl rfl 7 (by decide) (hN.2.2.2.2.2.1.use rfl) (fun _ h9 => h9) rfl dX6_lose_20 ?_
    refine q_icmp_ge (tgt := 32) hx hb dX6_lose_23 (by decide) ⟨by omega, by omega⟩ ⟨by omega, by omega⟩ (fun c23 => ?_) (fun c23 => ?_)
    ·
      refine lv_aload_n hx hb dX6_lose_32 rfl (lv_at hl 0 rfl) ?_
      refine va_get (D := D) (ci := 6) (v := .ref sc) (C := RX6) (T := TX6) (N := 4) hx hb hts in_X6_lose_X6 hown hK hP 0 rfl rfl 1 (by decide) (hts _ lk_X6_lose_1) (fun _ h9 => h9) rfl dX6_lose_33 ?_
      refine lv_iload_n hx hb dX6_lose_36 rfl (lv_at hl 1 rfl) ?_
      refine lv_iload_n hx hb dX6_lose_37 rfl (lv_at hl 2 rfl) ?_
      refine q_callVI (wr := [(mh, .inr (6, [.ref tm, .ref sc, .ref sd, .ref hi]))]) (wn := fun (u : (Int → Int)) => [(mh, .inr (6, [.ref tm, .ref sc, .ref sd, .ref hi])), (sc, .inr (4, [.ref tm, .ref so, .ref sm, .ref sv, .ref qu, .ref me, .ref pa, .int (iI ti), .int (iI wa), .int (iI lc), .int (iI ca), .int (iI dn), .int (iI lo), .int (iI bi)])), (sm, .inl (cZ, 200, .inl (ia u)))]) (rest := []) [.int (iI t), .int (iI v)] ⟨hx, hb, hml, hown, hts⟩ (c_X4_changeMeter l D cI cZ cII sc sm tm so sv qu me pa ti wa lc ca dn lo bi lm t v hB_lm ⟨by omega, by omega⟩ (by omega)) (cwV 2 hts gX6_lose_X4_changeMeter rfl rfl rfl (by decide +kernel) (by rw [hRf, hRl]; exact ⟨Nat.le_of_ble_eq_true rfl, Nat.le_of_ble_eq_true rfl⟩)) hK hP hD hS hA hN [1, 2] [0] [0, 1, 2] 1 4 rfl rfl rfl rfl rfl rfl (by decide) rfl (fun u => rfl) rfl hl.1 rfl (Nat.le_of_ble_eq_true rfl) dX6_lose_38 ⟨Nat.zero_le _, Nat.zero_le _⟩ (fun z u H locs hw hP hD hS => ?_)
      obtain ⟨lm_2, rfl⟩ : ∃ z, z = u := ⟨_, rfl⟩
      try dsimp only at hw
      have hP : va_P D vwCl [(mh, .inr (6, [.ref tm, .ref sc, .ref sd, .ref hi])), (sc, .inr (4, [.ref tm, .ref so, .ref sm, .ref sv, .ref qu, .ref me, .ref pa, .int (iI ti), .int (iI wa), .int (iI lc), .int (iI ca), .int (iI dn), .int (iI lo), .int (iI bi)])), (sm, .inl (cZ, 200, .inl (ia lm_2)))] H := hP
      have hD : va_D A [(mh, .inr (6, [.ref tm, .ref sc, .ref sd, .ref hi])), (sc, .inr (4, [.ref tm, .ref so, .ref sm, .ref sv, .ref qu, .ref me, .ref pa, .int (iI ti), .int (iI wa), .int (iI lc), .int (iI ca), .int (iI dn), .int (iI lo), .int (iI bi)])), (sm, .inl (cZ, 200, .inl (ia lm_2)))] := hD
      obtain ⟨z_3, ez⟩ : ∃ y : Int, y = z := ⟨_, rfl⟩
      rw [← ez] at hw ⊢
      clear ez
      obtain ⟨w38, e38, hB_lm_2⟩ := hw
      rw [hQ]
      refine q_retI lm_2 hx hb hr hlocks hK hP hD hS dX6_lose_41 ?_
      try dsimp only
      unfold lmZ lmN
      first | (rw [if_neg (by omega), if_neg (by omega)]; exact ⟨rfl, rfl, hB_lm⟩) | (rw [if_pos (by omega), if_pos (by omega), if_neg (by omega)]; exact ⟨rfl, rfl, hB_lm⟩) | (rw [if_pos (by omega), if_neg (by omega), if_pos (by omega)]; exact ⟨by rw [w38, if_pos (by omega)], by rw [e38, if_pos (by omega)], by assumption⟩)
    ·
      refine lv_sipush (v := iI (-1003)) hx hb dX6_lose_26 (by decide +kernel) ?_
      refine lv_goto (tgt := 41) hx hb dX6_lose_29 (by decide) ?_
      rw [hQ]
      refine q_retI lm hx hb hr hlocks hK hP hD hS dX6_lose_41 ?_
      try dsimp only
      unfold lmZ lmN
      first | (rw [if_neg (by omega), if_neg (by omega)]; exact ⟨rfl, rfl, hB_lm⟩) | (rw [if_pos (by omega), if_pos (by omega), if_neg (by omega)]; exact ⟨rfl, rfl, hB_lm⟩) | (rw [if_pos (by omega), if_neg (by omega), if_pos (by omega)]; exact ⟨by rw [w38, if_pos (by omega)], by rw [e38, if_pos (by omega)], by assumption⟩)
  ·
    refine q_if_ne (tgt := 15) hx hb dX6_lose_8 (by decide) ⟨by decide, by decide⟩ (fun h => absurd h (by decide)) (fun _ => ?_)
    refine lv_sipush (v := iI (-1002)) hx hb dX6_lose_11 (by decide +kernel) ?_
    rw [hQ]
    refine q_retI lm hx hb hr hlocks hK hP hD hS dX6_lose_14 ?_
    try dsimp only
    unfold lmZ lmN
    first | (rw [if_neg (by omega), if_neg (by omega)]; exact ⟨rfl, rfl, hB_lm⟩) | (rw [if_pos (by omega), if_pos (by omega), if_neg (by omega)]; exact ⟨rfl, rfl, hB_lm⟩) | (rw [if_pos (by omega), if_neg (by omega), if_pos (by omega)]; exact ⟨by rw [w38, if_pos (by omega)], by rw [e38, if_pos (by omega)], by assumption⟩)

theorem in_X6_fail_X4 : ∀ w ∈ wsX40, w ∈ wsX6_fail := fun _ h => List.mem_cons_of_mem _ (List.mem_append_left _ (List.mem_append_right _ h))
theorem in_X6_fail_X6 : ∀ w ∈ wsX60, w ∈ wsX6_fail := fun _ h => List.mem_cons_of_mem _ (List.mem_append_left _ (List.mem_append_left _ (List.mem_append_right _ h)))
theorem lk_X6_fail_1 : Cond.fieldLink RX6 21 "MoreHands" "live" "LMoreHands$Service;" ∈ wsX6_fail := List.mem_of_getElem? (i := 1) rfl
set_option maxHeartbeats 4000000 in
set_option maxRecDepth 100000 in
theorem c_X6_fail (l : Launch) (D : va_G) (cI cZ cII : ClassId) (mh : Nat) (sc : Nat) (sv : Nat) (ss : Nat) (sb : Nat) (tm : Nat) (sd : Nat) (hi : Nat) (so : Nat) (sm : Nat) (qu : Nat) (me : Nat) (pa : Nat) (ti : Int) (wa : Int) (lc : Int) (ca : Int) (dn : Int) (lo : Int) (bi : Int) (st : Int → Int) (bg : Int → Int) (sr : Int) (b : Int) (hB_st : BB 0 3 st) (hB_bg : BB 0 200 bg) (hp_sr : IR sr) (hp_b : 0 ≤ b ∧ b ≤ 1) : CtI l yX6_fail wsX6_fail 2 44 D (ty3 cI cZ cII) [.ref mh, .int (iI sr), .int (iI b)] [(mh, .inr (6, [.ref tm, .ref sc, .ref sd, .ref hi])), (sc, .inr (4, [.ref tm, .ref so, .ref sm, .ref sv, .ref qu, .ref me, .ref pa, .int (iI ti), .int (iI wa), .int (iI lc), .int (iI ca), .int (iI dn), .int (iI lo), .int (iI bi)])), (sv, .inr (3, [.ref ss, .ref sb])), (ss, .inl (cI, 12, .inl (ia st))), (sb, .inl (cI, 12, .inl (ia bg)))] (fun z (u : (Int → Int)) => z = faZ st sr b ∧ u = faN st sr b ∧ BB 0 3 u) (fun u => [(mh, .inr (6, [.ref tm, .ref sc, .ref sd, .ref hi])), (sc, .inr (4, [.ref tm, .ref so, .ref sm, .ref sv, .ref qu, .ref me, .ref pa, .int (iI ti), .int (iI wa), .int (iI lc), .int (iI ca), .int (iI dn), .int (iI lo), .int (iI bi)])), (sv, .inr (3, [.ref ss, .ref sb])), (ss, .inl (cI, 12, .inl (ia u))), (sb, .inl (cI, 12, .inl (ia bg)))]) := by
  refine CtI.mk (cc := cX6_fail) (maxL := 3) (ret := (some .int)) (by decide) rfl (Nat.le_of_ble_eq_true rfl) ?_
  intro p e s m below meth c A ls R args Q hx hb hml hr hts hown hlocks hA hK hP hD hN hS hl hRf hRl hQ
  have hl : lv_has ls 3 [(0, .ref mh), (1, .int (iI sr)), (2, .int (iI b))] := hl
  have hown : s.vm.findClass RX6 = some m.cls := hown
  refine lv_iload_n hx hb dX6_fail_0 rfl (lv_at hl 1 rfl) ?_
  refine lv_iconst (v := iI 0) hx hb dX6_fail_1 rfl ?_
  refine lv_bipush (v := iI 11) hx hb dX6_fail_2 (by decide +kernel) ?_
  refine q_callSI (wr := [(mh, .inr (6, [.ref tm, .ref sc, .ref sd, .ref hi])), (sc, .inr (4, [.ref tm, .ref so, .ref sm, .ref sv, .ref qu, .ref me, .ref pa, .int (iI ti), .int (iI wa), .int (iI lc), .int (iI ca), .int (iI dn), .int (iI lo), .int (iI bi)])), (sv, .inr (3, [.ref ss, .ref sb])), (ss, .inl (cI, 12, .inl (ia st))), (sb, .inl (cI, 12, .inl (ia bg)))]) (wn := fun (u : Unit) => [(mh, .inr (6, [.ref tm, .ref sc, .ref sd, .ref hi])), (sc, .inr (4, [.ref tm, .ref so, .ref sm, .ref sv, .ref qu, .ref me, .ref pa, .int (iI ti), .int (iI wa), .int (iI lc), .int (iI ca), .int (iI dn), .int (iI lo), .int (iI bi)])), (sv, .inr (3, [.ref ss, .ref sb])), (ss, .inl (cI, 12, .inl (ia st))), (sb, .inl (cI, 12, .inl (ia bg)))]) (rest := []) [.int (iI sr), .int (iI 0), .int (iI 11)] ⟨hx, hb, hml, hown, hts⟩ (c_X6_within l D cI cZ cII sr 0 11 ⟨by omega, by omega⟩ ⟨by omega, by omega⟩ ⟨by omega, by omega⟩) (va_cwS 3 hts gX6_fail_X6_within rfl rfl rfl (by decide +kernel) (by rw [hRf, hRl]; exact ⟨Nat.le_of_ble_eq_true rfl, Nat.le_of_ble_eq_true rfl⟩)) hK hP hD hS hA hN [] [0, 1, 2, 3, 4] [0, 1, 2, 3, 4] rfl rfl rfl rfl (by decide) rfl (fun u => rfl) rfl hl.1 rfl (Nat.le_of_ble_eq_true rfl) dX6_fail_4 ⟨Nat.zero_le _, Nat.zero_le _⟩ (fun z u H locs hw hP hD hS => ?_)
  have hP : va_P D vwCl [(mh, .inr (6, [.ref tm, .ref sc, .ref sd, .ref hi])), (sc, .inr (4, [.ref tm, .ref so, .ref sm, .ref sv, .ref qu, .ref me, .ref pa, .int (iI ti), .int (iI wa), .int (iI lc), .int (iI ca), .int (iI dn), .int (iI lo), .int (iI bi)])), (sv, .inr (3, [.ref ss, .ref sb])), (ss, .inl (cI, 12, .inl (ia st))), (sb, .inl (cI, 12, .inl (ia bg)))] H := hP
  have hD : va_D A [(mh, .inr (6, [.ref tm, .ref sc, .ref sd, .ref hi])), (sc, .inr (4, [.ref tm, .ref so, .ref sm, .ref sv, .ref qu, .ref me, .ref pa, .int (iI ti), .int (iI wa), .int (iI lc), .int (iI ca), .int (iI dn), .int (iI lo), .int (iI bi)])), (sv, .inr (3, [.ref ss, .ref sb])), (ss, .inl (cI, 12, .inl (ia st))), (sb, .inl (cI, 12, .inl (ia bg)))] := hD
  obtain ⟨z_1, ez⟩ : ∃ y : Int, y = z := ⟨_, rfl⟩
  rw [← ez] at hw ⊢
  clear ez
  rcases hw with ⟨rfl, w4⟩ | ⟨rfl, w4⟩
  ·
    refine q_if_ne (tgt := 14) hx hb dX6_fail_7 (by decide) ⟨by decide, by decide⟩ (fun _ => ?_) (fun h => absurd h (by decide))
    refine lv_iload_n hx hb dX6_fail_14 rfl (lv_at hl 2 rfl) ?_
    refine q_if_eq (tgt := 30) hx hb dX6_fail_15 (by decide) ⟨by omega, by omega⟩ (fun c15 => ?_) (fun c15 => ?_)
    ·
      refine lv_aload_n hx hb dX6_fail_30 rfl (lv_at hl 0 rfl) ?_
      refine va_get (D := D) (ci := 6) (v := .ref sc) (C := RX6) (T := TX6) (N := 4) hx hb hts in_X6_fail_X6 hown hK hP 0 rfl rfl 1 (by decide) (hts _ lk_X6_fail_1) (fun _ h9 => h9) rfl dX6_fail_31 ?_
      refine va_getN (D := D) (ci := 4) (v := .ref sv) (C := RX4) (T := TX4) (N := 14) hx hb hts in_X6_fail_X4 hown hK hP 1 rfl rfl 3 (by decide) (hN.2.2.2.2.2.2.1.use rfl) (fun _ h9 => h9) rfl dX6_fail_34 ?_
      refine lv_iload_n hx hb dX6_fail_37 rfl (lv_at hl 1 rfl) ?_
      refine q_callVI (wr := [(mh, .inr (6, [.ref tm, .ref sc, .ref sd, .ref hi])), (sc, .inr (4, [.ref tm, .ref so, .ref sm, .ref sv, .ref qu, .ref me, .ref pa, .int (iI ti), .int (iI wa), .int (iI lc), .int (iI ca), .int (iI dn), .int (iI lo), .int (iI bi)]))]) (wn := fun (u : (Int → Int)) => [(mh, .inr (6, [.ref tm, .ref sc, .ref sd, .ref hi])), (sc, .inr (4, [.ref tm, .ref so, .ref sm, .ref sv, .ref qu, .ref me, .ref pa, .int (iI ti), .int (iI wa), .int (iI lc), .int (iI ca), .int (iI dn), .int (iI lo), .int (iI bi)])), (sv, .inr (3, [.ref ss, .ref sb])), (ss, .inl (cI, 12, .inl (ia u))), (sb, .inl (cI, 12, .inl (ia bg)))]) (rest := []) [.int (iI sr)] ⟨hx, hb, hml, hown, hts⟩ (c_X3_takeOut l D cI cZ cII sv ss sb st bg sr hB_st hB_bg ⟨by omega, by omega⟩) (cwV 1 hts gX6_fail_X3_takeOut rfl rfl rfl (by decide +kernel) (by rw [hRf, hRl]; exact ⟨Nat.le_of_ble_eq_true rfl, Nat.le_of_ble_eq_true rfl⟩)) hK hP hD hS hA hN [2, 3, 4] [0, 1] [0, 1, 2, 3, 4] 2 3 rfl rfl rfl rfl rfl rfl (by decide) rfl (fun u => rfl) rfl hl.1 rfl (Nat.le_of_ble_eq_true rfl) dX6_fail_38 ⟨Nat.zero_le _, Nat.zero_le _⟩ (fun z u H locs hw hP hD hS => ?_)
      obtain ⟨st_2, rfl⟩ : ∃ z, z = u := ⟨_, rfl⟩
      try dsimp only at hw
      have hP : va_P D vwCl [(mh, .inr (6, [.ref tm, .ref sc, .ref sd, .ref hi])), (sc, .inr (4, [.ref tm, .ref so, .ref sm, .ref sv, .ref qu, .ref me, .ref pa, .int (iI ti), .int (iI wa), .int (iI lc), .int (iI ca), .int (iI dn), .int (iI lo), .int (iI bi)])), (sv, .inr (3, [.ref ss, .ref sb])), (ss, .inl (cI, 12, .inl (ia st_2))), (sb, .inl (cI, 12, .inl (ia bg)))] H := hP
      have hD : va_D A [(mh, .inr (6, [.ref tm, .ref sc, .ref sd, .ref hi])), (sc, .inr (4, [.ref tm, .ref so, .ref sm, .ref sv, .ref qu, .ref me, .ref pa, .int (iI ti), .int (iI wa), .int (iI lc), .int (iI ca), .int (iI dn), .int (iI lo), .int (iI bi)])), (sv, .inr (3, [.ref ss, .ref sb])), (ss, .inl (cI, 12, .inl (ia st_2))), (sb, .inl (cI, 12, .inl (ia bg)))] := hD
      obtain ⟨z_3, ez⟩ : ∃ y : Int, y = z := ⟨_, rfl⟩
      rw [← ez] at hw ⊢
      clear ez
      obtain ⟨w38, e38, hB_st_2⟩ := hw
      rw [hQ]
      refine q_retI st_2 hx hb hr hlocks hK hP hD hS dX6_fail_41 ?_
      try dsimp only
      unfold faZ faN
      first | (rw [if_neg (by omega), if_neg (by rw [show faB sr b = false from decide_eq_false (by omega)]; decide)]; exact ⟨rfl, rfl, hB_st⟩) | (rw [if_pos (by omega), if_pos (by omega), if_neg (by rw [show faB sr b = false from decide_eq_false (by omega)]; decide)]; exact ⟨rfl, rfl, hB_st⟩) | (rw [if_pos (by omega), if_neg (by omega), show faB sr b = true from decide_eq_true (by omega)]; exact ⟨by rw [w38, if_pos (by omega)], by rw [e38, if_pos (by omega)]; rfl, by assumption⟩)
    ·
      refine lv_iload_n hx hb dX6_fail_18 rfl (lv_at hl 1 rfl) ?_
      refine lv_bipush (v := iI 8) hx hb dX6_fail_19 (by decide +kernel) ?_
      refine q_icmp_ge (tgt := 30) hx hb dX6_fail_21 (by decide) ⟨by omega, by omega⟩ ⟨by decide, by decide⟩ (fun c21 => ?_) (fun c21 => ?_)
      ·
        refine lv_aload_n hx hb dX6_fail_30 rfl (lv_at hl 0 rfl) ?_
        refine va_get (D := D) (ci := 6) (v := .ref sc) (C := RX6) (T := TX6) (N := 4) hx hb hts in_X6_fail_X6 hown hK hP 0 rfl rfl 1 (by decide) (hts _ lk_X6_fail_1) (fun _ h9 => h9) rfl dX6_fail_31 ?_
        refine va_getN (D := D) (ci := 4) (v := .ref sv) (C := RX4) (T := TX4) (N := 14) hx hb hts in_X6_fail_X4 hown hK hP 1 rfl rfl 3 (by decide) (hN.2.2.2.2.2.2.1.use rfl) (fun _ h9 => h9) rfl dX6_fail_34 ?_
        refine lv_iload_n hx hb dX6_fail_37 rfl (lv_at hl 1 rfl) ?_
        refine q_callVI (wr := [(mh, .inr (6, [.ref tm, .ref sc, .ref sd, .ref hi])), (sc, .inr (4, [.ref tm, .ref so, .ref sm, .ref sv, .ref qu, .ref me, .ref pa, .int (iI ti), .int (iI wa), .int (iI lc), .int (iI ca), .int (iI dn), .int (iI lo), .int (iI bi)]))]) (wn := fun (u : (Int → Int)) => [(mh, .inr (6, [.ref tm, .ref sc, .ref sd, .ref hi])), (sc, .inr (4, [.ref tm, .ref so, .ref sm, .ref sv, .ref qu, .ref me, .ref pa, .int (iI ti), .int (iI wa), .int (iI lc), .int (iI ca), .int (iI dn), .int (iI lo), .int (iI bi)])), (sv, .inr (3, [.ref ss, .ref sb])), (ss, .inl (cI, 12, .inl (ia u))), (sb, .inl (cI, 12, .inl (ia bg)))]) (rest := []) [.int (iI sr)] ⟨hx, hb, hml, hown, hts⟩ (c_X3_takeOut l D cI cZ cII sv ss sb st bg sr hB_st hB_bg ⟨by omega, by omega⟩) (cwV 1 hts gX6_fail_X3_takeOut rfl rfl rfl (by decide +kernel) (by rw [hRf, hRl]; exact ⟨Nat.le_of_ble_eq_true rfl, Nat.le_of_ble_eq_true rfl⟩)) hK hP hD hS hA hN [2, 3, 4] [0, 1] [0, 1, 2, 3, 4] 2 3 rfl rfl rfl rfl rfl rfl (by decide) rfl (fun u => rfl) rfl hl.1 rfl (Nat.le_of_ble_eq_true rfl) dX6_fail_38 ⟨Nat.zero_le _, Nat.zero_le _⟩ (fun z u H locs hw hP hD hS => ?_)
        obtain ⟨st_4, rfl⟩ : ∃ z, z = u := ⟨_, rfl⟩
        try dsimp only at hw
        have hP : va_P D vwCl [(mh, .inr (6, [.ref tm, .ref sc, .ref sd, .ref hi])), (sc, .inr (4, [.ref tm, .ref so, .ref sm, .ref sv, .ref qu, .ref me, .ref pa, .int (iI ti), .int (iI wa), .int (iI lc), .int (iI ca), .int (iI dn), .int (iI lo), .int (iI bi)])), (sv, .inr (3, [.ref ss, .ref sb])), (ss, .inl (cI, 12, .inl (ia st_4))), (sb, .inl (cI, 12, .inl (ia bg)))] H := hP
        have hD : va_D A [(mh, .inr (6, [.ref tm, .ref sc, .ref sd, .ref hi])), (sc, .inr (4, [.ref tm, .ref so, .ref sm, .ref sv, .ref qu, .ref me, .ref pa, .int (iI ti), .int (iI wa), .int (iI lc), .int (iI ca), .int (iI dn), .int (iI lo), .int (iI bi)])), (sv, .inr (3, [.ref ss, .ref sb])), (ss, .inl (cI, 12, .inl (ia st_4))), (sb, .inl (cI, 12, .inl (ia bg)))] := hD
        obtain ⟨z_5, ez⟩ : ∃ y : Int, y = z := ⟨_, rfl⟩
        rw [← ez] at hw ⊢
        clear ez
        obtain ⟨w38, e38, hB_st_4⟩ := hw
        rw [hQ]
        refine q_retI st_4 hx hb hr hlocks hK hP hD hS dX6_fail_41 ?_
        try dsimp only
        unfold faZ faN
        first | (rw [if_neg (by omega), if_neg (by rw [show faB sr b = false from decide_eq_false (by omega)]; decide)]; exact ⟨rfl, rfl, hB_st⟩) | (rw [if_pos (by omega), if_pos (by omega), if_neg (by rw [show faB sr b = false from decide_eq_false (by omega)]; decide)]; exact ⟨rfl, rfl, hB_st⟩) | (rw [if_pos (by omega), if_neg (by omega), show faB sr b = true from decide_eq_true (by omega)]; exact ⟨by rw [w38, if_pos (by omega)], by rw [e38, if_pos (by omega)]; rfl, by assumption⟩)
      ·
        refine lv_sipush (v := iI (-1003)) hx hb dX6_fail_24 (by decide +kernel) ?_
        refine lv_goto (tgt := 41) hx hb dX6_fail_27 (by decide) ?_
        rw [hQ]
        refine q_retI st hx hb hr hlocks hK hP hD hS dX6_fail_41 ?_
        try dsimp only
        unfold faZ faN
        first | (rw [if_neg (by omega), if_neg (by rw [show faB sr b = false from decide_eq_false (by omega)]; decide)]; exact ⟨rfl, rfl, hB_st⟩) | (rw [if_pos (by omega), if_pos (by omega), if_neg (by rw [show faB sr b = false from decide_eq_false (by omega)]; decide)]; exact ⟨rfl, rfl, hB_st⟩) | (rw [if_pos (by omega), if_neg (by omega), show faB sr b = true from decide_eq_true (by omega)]; exact ⟨by rw [w38, if_pos (by omega)], by rw [e38, if_pos (by omega)]; rfl, by assumption⟩)
  ·
    refine q_if_ne (tgt := 14) hx hb dX6_fail_7 (by decide) ⟨by decide, by decide⟩ (fun h => absurd h (by decide)) (fun _ => ?_)
    refine lv_sipush (v := iI (-1001)) hx hb dX6_fail_10 (by decide +kernel) ?_
    rw [hQ]
    refine q_retI st hx hb hr hlocks hK hP hD hS dX6_fail_13 ?_
    try dsimp only
    unfold faZ faN
    first | (rw [if_neg (by omega), if_neg (by rw [show faB sr b = false from decide_eq_false (by omega)]; decide)]; exact ⟨rfl, rfl, hB_st⟩) | (rw [if_pos (by omega), if_pos (by omega), if_neg (by rw [show faB sr b = false from decide_eq_false (by omega)]; decide)]; exact ⟨rfl, rfl, hB_st⟩) | (rw [if_pos (by omega), if_neg (by omega), show faB sr b = true from decide_eq_true (by omega)]; exact ⟨by rw [w38, if_pos (by omega)], by rw [e38, if_pos (by omega)]; rfl, by assumption⟩)

theorem in_X6_server_X4 : ∀ w ∈ wsX40, w ∈ wsX6_server := fun _ h => List.mem_cons_of_mem _ (List.mem_append_left _ (List.mem_append_right _ h))
theorem in_X6_server_X6 : ∀ w ∈ wsX60, w ∈ wsX6_server := fun _ h => List.mem_cons_of_mem _ (List.mem_append_left _ (List.mem_append_left _ (List.mem_append_right _ h)))
theorem lk_X6_server_1 : Cond.fieldLink RX6 21 "MoreHands" "live" "LMoreHands$Service;" ∈ wsX6_server := List.mem_of_getElem? (i := 1) rfl
set_option maxHeartbeats 4000000 in
set_option maxRecDepth 100000 in
theorem c_X6_server (l : Launch) (D : va_G) (cI cZ cII : ClassId) (mh : Nat) (sc : Nat) (sv : Nat) (ss : Nat) (sb : Nat) (tm : Nat) (sd : Nat) (hi : Nat) (so : Nat) (sm : Nat) (qu : Nat) (me : Nat) (pa : Nat) (ti : Int) (wa : Int) (lc : Int) (ca : Int) (dn : Int) (lo : Int) (bi : Int) (st : Int → Int) (bg : Int → Int) (sr : Int) (w0 : Int) (hB_st : BB 0 3 st) (hB_bg : BB 0 200 bg) (hp_sr : IR sr) (hp_w0 : IR w0) (hti0 : 0 ≤ ti ∧ ti ≤ 200) : CtI l yX6_server wsX6_server 2 45 D (ty3 cI cZ cII) [.ref mh, .int (iI sr), .int (iI w0)] [(mh, .inr (6, [.ref tm, .ref sc, .ref sd, .ref hi])), (sc, .inr (4, [.ref tm, .ref so, .ref sm, .ref sv, .ref qu, .ref me, .ref pa, .int (iI ti), .int (iI wa), .int (iI lc), .int (iI ca), .int (iI dn), .int (iI lo), .int (iI bi)])), (sv, .inr (3, [.ref ss, .ref sb])), (ss, .inl (cI, 12, .inl (ia st))), (sb, .inl (cI, 12, .inl (ia bg)))] (fun z (u : Unit) => z = (svZ st bg ti sr w0)) (fun u => [(mh, .inr (6, [.ref tm, .ref sc, .ref sd, .ref hi])), (sc, .inr (4, [.ref tm, .ref so, .ref sm, .ref sv, .ref qu, .ref me, .ref pa, .int (iI ti), .int (iI wa), .int (iI lc), .int (iI ca), .int (iI dn), .int (iI lo), .int (iI bi)])), (sv, .inr (3, [.ref ss, .ref sb])), (ss, .inl (cI, 12, .inl (ia st))), (sb, .inl (cI, 12, .inl (ia bg)))]) := by
  refine CtI.mk (cc := cX6_server) (maxL := 3) (ret := (some .int)) (by decide) rfl (Nat.le_of_ble_eq_true rfl) ?_
  intro p e s m below meth c A ls R args Q hx hb hml hr hts hown hlocks hA hK hP hD hN hS hl hRf hRl hQ
  have hl : lv_has ls 3 [(0, .ref mh), (1, .int (iI sr)), (2, .int (iI w0))] := hl
  have hown : s.vm.findClass RX6 = some m.cls := hown
  refine lv_iload_n hx hb dX6_server_0 rfl (lv_at hl 1 rfl) ?_
  refine lv_iconst (v := iI 0) hx hb dX6_server_1 rfl ?_
  refine lv_bipush (v := iI 11) hx hb dX6_server_2 (by decide +kernel) ?_
  refine q_callSI (wr := [(mh, .inr (6, [.ref tm, .ref sc, .ref sd, .ref hi])), (sc, .inr (4, [.ref tm, .ref so, .ref sm, .ref sv, .ref qu, .ref me, .ref pa, .int (iI ti), .int (iI wa), .int (iI lc), .int (iI ca), .int (iI dn), .int (iI lo), .int (iI bi)])), (sv, .inr (3, [.ref ss, .ref sb])), (ss, .inl (cI, 12, .inl (ia st))), (sb, .inl (cI, 12, .inl (ia bg)))]) (wn := fun (u : Unit) => [(mh, .inr (6, [.ref tm, .ref sc, .ref sd, .ref hi])), (sc, .inr (4, [.ref tm, .ref so, .ref sm, .ref sv, .ref qu, .ref me, .ref pa, .int (iI ti), .int (iI wa), .int (iI lc), .int (iI ca), .int (iI dn), .int (iI lo), .int (iI bi)])), (sv, .inr (3, [.ref ss, .ref sb])), (ss, .inl (cI, 12, .inl (ia st))), (sb, .inl (cI, 12, .inl (ia bg)))]) (rest := []) [.int (iI sr), .int (iI 0), .int (iI 11)] ⟨hx, hb, hml, hown, hts⟩ (c_X6_within l D cI cZ cII sr 0 11 ⟨by omega, by omega⟩ ⟨by omega, by omega⟩ ⟨by omega, by omega⟩) (va_cwS 3 hts gX6_server_X6_within rfl rfl rfl (by decide +kernel) (by rw [hRf, hRl]; exact ⟨Nat.le_of_ble_eq_true rfl, Nat.le_of_ble_eq_true rfl⟩)) hK hP hD hS hA hN [] [0, 1, 2, 3, 4] [0, 1, 2, 3, 4] rfl rfl rfl rfl (by decide) rfl (fun u => rfl) rfl hl.1 rfl (Nat.le_of_ble_eq_true rfl) dX6_server_4 ⟨Nat.zero_le _, Nat.zero_le _⟩ (fun z u H locs hw hP hD hS => ?_)
  have hP : va_P D vwCl [(mh, .inr (6, [.ref tm, .ref sc, .ref sd, .ref hi])), (sc, .inr (4, [.ref tm, .ref so, .ref sm, .ref sv, .ref qu, .ref me, .ref pa, .int (iI ti), .int (iI wa), .int (iI lc), .int (iI ca), .int (iI dn), .int (iI lo), .int (iI bi)])), (sv, .inr (3, [.ref ss, .ref sb])), (ss, .inl (cI, 12, .inl (ia st))), (sb, .inl (cI, 12, .inl (ia bg)))] H := hP
  have hD : va_D A [(mh, .inr (6, [.ref tm, .ref sc, .ref sd, .ref hi])), (sc, .inr (4, [.ref tm, .ref so, .ref sm, .ref sv, .ref qu, .ref me, .ref pa, .int (iI ti), .int (iI wa), .int (iI lc), .int (iI ca), .int (iI dn), .int (iI lo), .int (iI bi)])), (sv, .inr (3, [.ref ss, .ref sb])), (ss, .inl (cI, 12, .inl (ia st))), (sb, .inl (cI, 12, .inl (ia bg)))] := hD
  obtain ⟨z_1, ez⟩ : ∃ y : Int, y = z := ⟨_, rfl⟩
  rw [← ez] at hw ⊢
  clear ez
  rcases hw with ⟨rfl, w4⟩ | ⟨rfl, w4⟩
  ·
    refine q_if_ne (tgt := 14) hx hb dX6_server_7 (by decide) ⟨by decide, by decide⟩ (fun _ => ?_) (fun h => absurd h (by decide))
    refine lv_iload_n hx hb dX6_server_14 rfl (lv_at hl 2 rfl) ?_
    refine lv_iconst (v := iI 0) hx hb dX6_server_15 rfl ?_
    refine lv_iconst (v := iI 1) hx hb dX6_server_16 rfl ?_
    refine q_callSI (wr := [(mh, .inr (6, [.ref tm, .ref sc, .ref sd, .ref hi])), (sc, .inr (4, [.ref tm, .ref so, .ref sm, .ref sv, .ref qu, .ref me, .ref pa, .int (iI ti), .int (iI wa), .int (iI lc), .int (iI ca), .int (iI dn), .int (iI lo), .int (iI bi)])), (sv, .inr (3, [.ref ss, .ref sb])), (ss, .inl (cI, 12, .inl (ia st))), (sb, .inl (cI, 12, .inl (ia bg)))]) (wn := fun (u : Unit) => [(mh, .inr (6, [.ref tm, .ref sc, .ref sd, .ref hi])), (sc, .inr (4, [.ref tm, .ref so, .ref sm, .ref sv, .ref qu, .ref me, .ref pa, .int (iI ti), .int (iI wa), .int (iI lc), .int (iI ca), .int (iI dn), .int (iI lo), .int (iI bi)])), (sv, .inr (3, [.ref ss, .ref sb])), (ss, .inl (cI, 12, .inl (ia st))), (sb, .inl (cI, 12, .inl (ia bg)))]) (rest := []) [.int (iI w0), .int (iI 0), .int (iI 1)] ⟨hx, hb, hml, hown, hts⟩ (c_X6_within l D cI cZ cII w0 0 1 ⟨by omega, by omega⟩ ⟨by omega, by omega⟩ ⟨by omega, by omega⟩) (va_cwS 3 hts gX6_server_X6_within rfl rfl rfl (by decide +kernel) (by rw [hRf, hRl]; exact ⟨Nat.le_of_ble_eq_true rfl, Nat.le_of_ble_eq_true rfl⟩)) hK hP hD hS hA hN [] [0, 1, 2, 3, 4] [0, 1, 2, 3, 4] rfl rfl rfl rfl (by decide) rfl (fun u => rfl) rfl hl.1 rfl (Nat.le_of_ble_eq_true rfl) dX6_server_17 ⟨Nat.zero_le _, Nat.zero_le _⟩ (fun z u H locs hw hP hD hS => ?_)
    have hP : va_P D vwCl [(mh, .inr (6, [.ref tm, .ref sc, .ref sd, .ref hi])), (sc, .inr (4, [.ref tm, .ref so, .ref sm, .ref sv, .ref qu, .ref me, .ref pa, .int (iI ti), .int (iI wa), .int (iI lc), .int (iI ca), .int (iI dn), .int (iI lo), .int (iI bi)])), (sv, .inr (3, [.ref ss, .ref sb])), (ss, .inl (cI, 12, .inl (ia st))), (sb, .inl (cI, 12, .inl (ia bg)))] H := hP
    have hD : va_D A [(mh, .inr (6, [.ref tm, .ref sc, .ref sd, .ref hi])), (sc, .inr (4, [.ref tm, .ref so, .ref sm, .ref sv, .ref qu, .ref me, .ref pa, .int (iI ti), .int (iI wa), .int (iI lc), .int (iI ca), .int (iI dn), .int (iI lo), .int (iI bi)])), (sv, .inr (3, [.ref ss, .ref sb])), (ss, .inl (cI, 12, .inl (ia st))), (sb, .inl (cI, 12, .inl (ia bg)))] := hD
    obtain ⟨z_2, ez⟩ : ∃ y : Int, y = z := ⟨_, rfl⟩
    rw [← ez] at hw ⊢
    clear ez
    rcases hw with ⟨rfl, w17⟩ | ⟨rfl, w17⟩
    ·
      refine q_if_ne (tgt := 27) hx hb dX6_server_20 (by decide) ⟨by decide, by decide⟩ (fun _ => ?_) (fun h => absurd h (by decide))
      refine lv_iload_n hx hb dX6_server_27 rfl (lv_at hl 2 rfl) ?_
      refine q_if_ne (tgt := 45) hx hb dX6_server_28 (by decide) ⟨by omega, by omega⟩ (fun c28 => ?_) (fun c28 => ?_)
      ·
        refine lv_aload_n hx hb dX6_server_45 rfl (lv_at hl 0 rfl) ?_
        refine va_get (D := D) (ci := 6) (v := .ref sc) (C := RX6) (T := TX6) (N := 4) hx hb hts in_X6_server_X6 hown hK hP 0 rfl rfl 1 (by decide) (hts _ lk_X6_server_1) (fun _ h9 => h9) rfl dX6_server_46 ?_
        refine va_getN (D := D) (ci := 4) (v := .ref sv) (C := RX4) (T := TX4) (N := 14) hx hb hts in_X6_server_X4 hown hK hP 1 rfl rfl 3 (by decide) (hN.2.2.2.2.2.2.1.use rfl) (fun _ h9 => h9) rfl dX6_server_49 ?_
        refine lv_iload_n hx hb dX6_server_52 rfl (lv_at hl 1 rfl) ?_
        refine lv_aload_n hx hb dX6_server_53 rfl (lv_at hl 0 rfl) ?_
        refine va_get (D := D) (ci := 6) (v := .ref sc) (C := RX6) (T := TX6) (N := 4) hx hb hts in_X6_server_X6 hown hK hP 0 rfl rfl 1 (by decide) (hts _ lk_X6_server_1) (fun _ h9 => h9) rfl dX6_server_54 ?_
        refine va_getN (D := D) (ci := 4) (v := .int (iI ti)) (C := RX4) (T := TX4) (N := 14) hx hb hts in_X6_server_X4 hown hK hP 1 rfl rfl 7 (by decide) (hN.2.2.2.2.2.1.use rfl) (fun _ h9 => h9) rfl dX6_server_57 ?_
        refine q_callVI (wr := [(mh, .inr (6, [.ref tm, .ref sc, .ref sd, .ref hi])), (sc, .inr (4, [.ref tm, .ref so, .ref sm, .ref sv, .ref qu, .ref me, .ref pa, .int (iI ti), .int (iI wa), .int (iI lc), .int (iI ca), .int (iI dn), .int (iI lo), .int (iI bi)]))]) (wn := fun (u : Unit) => [(mh, .inr (6, [.ref tm, .ref sc, .ref sd, .ref hi])), (sc, .inr (4, [.ref tm, .ref so, .ref sm, .ref sv, .ref qu, .ref me, .ref pa, .int (iI ti), .int (iI wa), .int (iI lc), .int (iI ca), .int (iI dn), .int (iI lo), .int (iI bi)])), (sv, .inr (3, [.ref ss, .ref sb])), (ss, .inl (cI, 12, .inl (ia st))), (sb, .inl (cI, 12, .inl (ia bg)))]) (rest := []) [.int (iI sr), .int (iI ti)] ⟨hx, hb, hml, hown, hts⟩ (c_X3_ticksBehind l D cI cZ cII sv ss sb st bg sr ti hB_st hB_bg ⟨by omega, by omega⟩ (by omega)) (cwV 2 hts gX6_server_X3_ticksBehind rfl rfl rfl (by decide +kernel) (by rw [hRf, hRl]; exact ⟨Nat.le_of_ble_eq_true rfl, Nat.le_of_ble_eq_true rfl⟩)) hK hP hD hS hA hN [2, 3, 4] [0, 1] [0, 1, 2, 3, 4] 2 3 rfl rfl rfl rfl rfl rfl (by decide) rfl (fun u => rfl) rfl hl.1 rfl (Nat.le_of_ble_eq_true rfl) dX6_server_60 ⟨Nat.zero_le _, Nat.zero_le _⟩ (fun z u H locs hw hP hD hS => ?_)
        have hP : va_P D vwCl [(mh, .inr (6, [.ref tm, .ref sc, .ref sd, .ref hi])), (sc, .inr (4, [.ref tm, .ref so, .ref sm, .ref sv, .ref qu, .ref me, .ref pa, .int (iI ti), .int (iI wa), .int (iI lc), .int (iI ca), .int (iI dn), .int (iI lo), .int (iI bi)])), (sv, .inr (3, [.ref ss, .ref sb])), (ss, .inl (cI, 12, .inl (ia st))), (sb, .inl (cI, 12, .inl (ia bg)))] H := hP
        have hD : va_D A [(mh, .inr (6, [.ref tm, .ref sc, .ref sd, .ref hi])), (sc, .inr (4, [.ref tm, .ref so, .ref sm, .ref sv, .ref qu, .ref me, .ref pa, .int (iI ti), .int (iI wa), .int (iI lc), .int (iI ca), .int (iI dn), .int (iI lo), .int (iI bi)])), (sv, .inr (3, [.ref ss, .ref sb])), (ss, .inl (cI, 12, .inl (ia st))), (sb, .inl (cI, 12, .inl (ia bg)))] := hD
        obtain ⟨z_3, ez⟩ : ∃ y : Int, y = z := ⟨_, rfl⟩
        rw [← ez] at hw ⊢
        clear ez
        have w60 := hw
        clear hw
        rw [hQ]
        refine q_retI () hx hb hr hlocks hK hP hD hS dX6_server_63 ?_
        unfold svZ
        first | rw [if_neg (by omega)] | rw [if_pos (by omega), if_neg (by omega)] | (rw [if_pos (by omega), if_pos (by omega), if_pos (by omega)]; first | rfl | omega | (rw [w42, if_pos (by omega)])) | (rw [if_pos (by omega), if_pos (by omega), if_neg (by omega)]; first | rfl | rw [w60, if_pos (by omega)])
      ·
        refine lv_aload_n hx hb dX6_server_31 rfl (lv_at hl 0 rfl) ?_
        refine va_get (D := D) (ci := 6) (v := .ref sc) (C := RX6) (T := TX6) (N := 4) hx hb hts in_X6_server_X6 hown hK hP 0 rfl rfl 1 (by decide) (hts _ lk_X6_server_1) (fun _ h9 => h9) rfl dX6_server_32 ?_
        refine va_getN (D := D) (ci := 4) (v := .ref sv) (C := RX4) (T := TX4) (N := 14) hx hb hts in_X6_server_X4 hown hK hP 1 rfl rfl 3 (by decide) (hN.2.2.2.2.2.2.1.use rfl) (fun _ h9 => h9) rfl dX6_server_35 ?_
        refine lv_iload_n hx hb dX6_server_38 rfl (lv_at hl 1 rfl) ?_
        refine q_callVI (wr := [(mh, .inr (6, [.ref tm, .ref sc, .ref sd, .ref hi])), (sc, .inr (4, [.ref tm, .ref so, .ref sm, .ref sv, .ref qu, .ref me, .ref pa, .int (iI ti), .int (iI wa), .int (iI lc), .int (iI ca), .int (iI dn), .int (iI lo), .int (iI bi)]))]) (wn := fun (u : Unit) => [(mh, .inr (6, [.ref tm, .ref sc, .ref sd, .ref hi])), (sc, .inr (4, [.ref tm, .ref so, .ref sm, .ref sv, .ref qu, .ref me, .ref pa, .int (iI ti), .int (iI wa), .int (iI lc), .int (iI ca), .int (iI dn), .int (iI lo), .int (iI bi)])), (sv, .inr (3, [.ref ss, .ref sb])), (ss, .inl (cI, 12, .inl (ia st))), (sb, .inl (cI, 12, .inl (ia bg)))]) (rest := []) [.int (iI sr)] ⟨hx, hb, hml, hown, hts⟩ (c_X3_stateOf l D cI cZ cII sv ss sb st bg sr hB_st hB_bg ⟨by omega, by omega⟩) (cwV 1 hts gX6_server_X3_stateOf rfl rfl rfl (by decide +kernel) (by rw [hRf, hRl]; exact ⟨Nat.le_of_ble_eq_true rfl, Nat.le_of_ble_eq_true rfl⟩)) hK hP hD hS hA hN [2, 3, 4] [0, 1] [0, 1, 2, 3, 4] 2 3 rfl rfl rfl rfl rfl rfl (by decide) rfl (fun u => rfl) rfl hl.1 rfl (Nat.le_of_ble_eq_true rfl) dX6_server_39 ⟨Nat.zero_le _, Nat.zero_le _⟩ (fun z u H locs hw hP hD hS => ?_)
        have hP : va_P D vwCl [(mh, .inr (6, [.ref tm, .ref sc, .ref sd, .ref hi])), (sc, .inr (4, [.ref tm, .ref so, .ref sm, .ref sv, .ref qu, .ref me, .ref pa, .int (iI ti), .int (iI wa), .int (iI lc), .int (iI ca), .int (iI dn), .int (iI lo), .int (iI bi)])), (sv, .inr (3, [.ref ss, .ref sb])), (ss, .inl (cI, 12, .inl (ia st))), (sb, .inl (cI, 12, .inl (ia bg)))] H := hP
        have hD : va_D A [(mh, .inr (6, [.ref tm, .ref sc, .ref sd, .ref hi])), (sc, .inr (4, [.ref tm, .ref so, .ref sm, .ref sv, .ref qu, .ref me, .ref pa, .int (iI ti), .int (iI wa), .int (iI lc), .int (iI ca), .int (iI dn), .int (iI lo), .int (iI bi)])), (sv, .inr (3, [.ref ss, .ref sb])), (ss, .inl (cI, 12, .inl (ia st))), (sb, .inl (cI, 12, .inl (ia bg)))] := hD
        obtain ⟨z_4, ez⟩ : ∃ y : Int, y = z := ⟨_, rfl⟩
        rw [← ez] at hw ⊢
        clear ez
        have w39 := hw
        clear hw
        refine lv_goto (tgt := 63) hx hb dX6_server_42 (by decide) ?_
        rw [hQ]
        refine q_retI () hx hb hr hlocks hK hP hD hS dX6_server_63 ?_
        unfold svZ
        first | rw [if_neg (by omega)] | rw [if_pos (by omega), if_neg (by omega)] | (rw [if_pos (by omega), if_pos (by omega), if_pos (by omega)]; first | rfl | omega | (rw [w42, if_pos (by omega)])) | (rw [if_pos (by omega), if_pos (by omega), if_neg (by omega)]; first | rfl | rw [w60, if_pos (by omega)])
    ·
      refine q_if_ne (tgt := 27) hx hb dX6_server_20 (by decide) ⟨by decide, by decide⟩ (fun h => absurd h (by decide)) (fun _ => ?_)
      refine lv_sipush (v := iI (-1002)) hx hb dX6_server_23 (by decide +kernel) ?_
      rw [hQ]
      refine q_retI () hx hb hr hlocks hK hP hD hS dX6_server_26 ?_
      unfold svZ
      first | rw [if_neg (by omega)] | rw [if_pos (by omega), if_neg (by omega)] | (rw [if_pos (by omega), if_pos (by omega), if_pos (by omega)]; first | rfl | omega | (rw [w42, if_pos (by omega)])) | (rw [if_pos (by omega), if_pos (by omega), if_neg (by omega)]; first | rfl | rw [w60, if_pos (by omega)])
  ·
    refine q_if_ne (tgt := 14) hx hb dX6_server_7 (by decide) ⟨by decide, by decide⟩ (fun h => absurd h (by decide)) (fun _ => ?_)
    refine lv_sipush (v := iI (-1001)) hx hb dX6_server_10 (by decide +kernel) ?_
    rw [hQ]
    refine q_retI () hx hb hr hlocks hK hP hD hS dX6_server_13 ?_
    unfold svZ
    first | rw [if_neg (by omega)] | rw [if_pos (by omega), if_neg (by omega)] | (rw [if_pos (by omega), if_pos (by omega), if_pos (by omega)]; first | rfl | omega | (rw [w42, if_pos (by omega)])) | (rw [if_pos (by omega), if_pos (by omega), if_neg (by omega)]; first | rfl | rw [w60, if_pos (by omega)])

theorem in_X6_now_X6 : ∀ w ∈ wsX60, w ∈ wsX6_now := fun _ h => List.mem_cons_of_mem _ (List.mem_append_left _ (List.mem_append_left _ (List.mem_append_left _ (List.mem_append_left _ (List.mem_append_right _ h)))))
theorem lk_X6_now_1 : Cond.fieldLink RX6 21 "MoreHands" "live" "LMoreHands$Service;" ∈ wsX6_now := List.mem_of_getElem? (i := 1) rfl
set_option maxHeartbeats 4000000 in
set_option maxRecDepth 100000 in
theorem c_X6_now (l : Launch) (D : va_G) (cI cZ cII : ClassId) (mh : Nat) (sc : Nat) (sv : Nat) (ss : Nat) (sb : Nat) (qu : Nat) (me : Nat) (tm : Nat) (sd : Nat) (hi : Nat) (so : Nat) (sm : Nat) (pa : Nat) (ti : Int) (wa : Int) (lc : Int) (ca : Int) (dn : Int) (lo : Int) (bi : Int) (st : Int → Int) (bg : Int → Int) (ql : Nat) (qt : Nat) (qs : Nat) (qr : Nat) (hd : Int) (gr : Int) (wt : Int) (rt : Int) (mn : Nat) (rd : Int) (k : Int) (hB_st : BB 0 3 st) (hB_bg : BB 0 200 bg) (hp_k : IR k) (hlc : -1 ≤ lc ∧ lc ≤ 200) : CtI l yX6_now wsX6_now 3 64 D (ty3 cI cZ cII) [.ref mh, .int (iI k)] [(mh, .inr (6, [.ref tm, .ref sc, .ref sd, .ref hi])), (sc, .inr (4, [.ref tm, .ref so, .ref sm, .ref sv, .ref qu, .ref me, .ref pa, .int (iI ti), .int (iI wa), .int (iI lc), .int (iI ca), .int (iI dn), .int (iI lo), .int (iI bi)])), (sv, .inr (3, [.ref ss, .ref sb])), (ss, .inl (cI, 12, .inl (ia st))), (sb, .inl (cI, 12, .inl (ia bg))), (qu, .inr (2, [.ref ql, .ref qt, .ref qs, .ref qr, .int (iI hd), .int (iI gr), .int (iI wt), .int (iI rt)])), (me, .inr (1, [.ref mn, .int (iI rd)]))] (fun z (u : Unit) => z = (figF st ti wt rt dn lo bi rd wa lc ca k)) (fun u => [(mh, .inr (6, [.ref tm, .ref sc, .ref sd, .ref hi])), (sc, .inr (4, [.ref tm, .ref so, .ref sm, .ref sv, .ref qu, .ref me, .ref pa, .int (iI ti), .int (iI wa), .int (iI lc), .int (iI ca), .int (iI dn), .int (iI lo), .int (iI bi)])), (sv, .inr (3, [.ref ss, .ref sb])), (ss, .inl (cI, 12, .inl (ia st))), (sb, .inl (cI, 12, .inl (ia bg))), (qu, .inr (2, [.ref ql, .ref qt, .ref qs, .ref qr, .int (iI hd), .int (iI gr), .int (iI wt), .int (iI rt)])), (me, .inr (1, [.ref mn, .int (iI rd)]))]) := by
  refine CtI.mk (cc := cX6_now) (maxL := 2) (ret := (some .int)) (by decide) rfl (Nat.le_of_ble_eq_true rfl) ?_
  intro p e s m below meth c A ls R args Q hx hb hml hr hts hown hlocks hA hK hP hD hN hS hl hRf hRl hQ
  have hl : lv_has ls 2 [(0, .ref mh), (1, .int (iI k))] := hl
  have hown : s.vm.findClass RX6 = some m.cls := hown
  refine lv_aload_n hx hb dX6_now_0 rfl (lv_at hl 0 rfl) ?_
  refine va_get (D := D) (ci := 6) (v := .ref sc) (C := RX6) (T := TX6) (N := 4) hx hb hts in_X6_now_X6 hown hK hP 0 rfl rfl 1 (by decide) (hts _ lk_X6_now_1) (fun _ h9 => h9) rfl dX6_now_1 ?_
  refine lv_iload_n hx hb dX6_now_4 rfl (lv_at hl 1 rfl) ?_
  refine q_callVI (wr := [(mh, .inr (6, [.ref tm, .ref sc, .ref sd, .ref hi]))]) (wn := fun (u : Unit) => [(mh, .inr (6, [.ref tm, .ref sc, .ref sd, .ref hi])), (sc, .inr (4, [.ref tm, .ref so, .ref sm, .ref sv, .ref qu, .ref me, .ref pa, .int (iI ti), .int (iI wa), .int (iI lc), .int (iI ca), .int (iI dn), .int (iI lo), .int (iI bi)])), (sv, .inr (3, [.ref ss, .ref sb])), (ss, .inl (cI, 12, .inl (ia st))), (sb, .inl (cI, 12, .inl (ia bg))), (qu, .inr (2, [.ref ql, .ref qt, .ref qs, .ref qr, .int (iI hd), .int (iI gr), .int (iI wt), .int (iI rt)])), (me, .inr (1, [.ref mn, .int (iI rd)]))]) (rest := []) [.int (iI k)] ⟨hx, hb, hml, hown, hts⟩ (c_X4_figure l D cI cZ cII sc sv ss sb qu me tm so sm pa ti wa lc ca dn lo bi st bg ql qt qs qr hd gr wt rt mn rd k hB_st hB_bg ⟨by omega, by omega⟩ (by omega)) (cwV 1 hts gX6_now_X4_figure rfl rfl rfl (by decide +kernel) (by rw [hRf, hRl]; exact ⟨Nat.le_of_ble_eq_true rfl, Nat.le_of_ble_eq_true rfl⟩)) hK hP hD hS hA hN [1, 2, 3, 4, 5, 6] [0] [0, 1, 2, 3, 4, 5, 6] 1 4 rfl rfl rfl rfl rfl rfl (by decide) rfl (fun u => rfl) rfl hl.1 rfl (Nat.le_of_ble_eq_true rfl) dX6_now_5 ⟨Nat.zero_le _, Nat.zero_le _⟩ (fun z u H locs hw hP hD hS => ?_)
  have hP : va_P D vwCl [(mh, .inr (6, [.ref tm, .ref sc, .ref sd, .ref hi])), (sc, .inr (4, [.ref tm, .ref so, .ref sm, .ref sv, .ref qu, .ref me, .ref pa, .int (iI ti), .int (iI wa), .int (iI lc), .int (iI ca), .int (iI dn), .int (iI lo), .int (iI bi)])), (sv, .inr (3, [.ref ss, .ref sb])), (ss, .inl (cI, 12, .inl (ia st))), (sb, .inl (cI, 12, .inl (ia bg))), (qu, .inr (2, [.ref ql, .ref qt, .ref qs, .ref qr, .int (iI hd), .int (iI gr), .int (iI wt), .int (iI rt)])), (me, .inr (1, [.ref mn, .int (iI rd)]))] H := hP
  have hD : va_D A [(mh, .inr (6, [.ref tm, .ref sc, .ref sd, .ref hi])), (sc, .inr (4, [.ref tm, .ref so, .ref sm, .ref sv, .ref qu, .ref me, .ref pa, .int (iI ti), .int (iI wa), .int (iI lc), .int (iI ca), .int (iI dn), .int (iI lo), .int (iI bi)])), (sv, .inr (3, [.ref ss, .ref sb])), (ss, .inl (cI, 12, .inl (ia st))), (sb, .inl (cI, 12, .inl (ia bg))), (qu, .inr (2, [.ref ql, .ref qt, .ref qs, .ref qr, .int (iI hd), .int (iI gr), .int (iI wt), .int (iI rt)])), (me, .inr (1, [.ref mn, .int (iI rd)]))] := hD
  obtain ⟨z_1, ez⟩ : ∃ y : Int, y = z := ⟨_, rfl⟩
  rw [← ez] at hw ⊢
  clear ez
  have w5 : z_1 = (figF st ti wt rt dn lo bi rd wa lc ca k) := hw
  clear hw
  subst w5
  rw [hQ]
  refine q_retI () hx hb hr hlocks hK hP hD hS dX6_now_8 ?_
  first | rfl | assumption

theorem in_X6_was_X4 : ∀ w ∈ wsX40, w ∈ wsX6_was := fun _ h => List.mem_cons_of_mem _ (List.mem_append_right _ h)
theorem in_X6_was_X6 : ∀ w ∈ wsX60, w ∈ wsX6_was := fun _ h => List.mem_cons_of_mem _ (List.mem_append_left _ (List.mem_append_right _ h))
theorem lk_X6_was_1 : Cond.fieldLink RX6 21 "MoreHands" "live" "LMoreHands$Service;" ∈ wsX6_was := List.mem_of_getElem? (i := 1) rfl
set_option maxHeartbeats 4000000 in
set_option maxRecDepth 100000 in
theorem c_X6_was (l : Launch) (D : va_G) (cI cZ cII : ClassId) (mh : Nat) (sc : Nat) (pa : Nat) (p0 : Nat) (p1 : Nat) (p2 : Nat) (p3 : Nat) (p4 : Nat) (p5 : Nat) (tm : Nat) (sd : Nat) (hi : Nat) (so : Nat) (sm : Nat) (sv : Nat) (qu : Nat) (me : Nat) (ti : Int) (wa : Int) (lc : Int) (ca : Int) (dn : Int) (lo : Int) (bi : Int) (h0 : Int → Int) (h1 : Int → Int) (h2 : Int → Int) (h3 : Int → Int) (h4 : Int → Int) (h5 : Int → Int) (t : Int) (k : Int) (hp_t : IR t) (hp_k : IR k) (hti0 : 0 ≤ ti ∧ ti ≤ 200) : CtI l yX6_was wsX6_was 2 45 D (ty3 cI cZ cII) [.ref mh, .int (iI t), .int (iI k)] [(mh, .inr (6, [.ref tm, .ref sc, .ref sd, .ref hi])), (sc, .inr (4, [.ref tm, .ref so, .ref sm, .ref sv, .ref qu, .ref me, .ref pa, .int (iI ti), .int (iI wa), .int (iI lc), .int (iI ca), .int (iI dn), .int (iI lo), .int (iI bi)])), (pa, .inl (cII, 6, .inr (.inr (.inr (.inr (fun k => [p0, p1, p2, p3, p4, p5][k]?)))))), (p0, .inl (cI, 200, .inl (ia h0))), (p1, .inl (cI, 200, .inl (ia h1))), (p2, .inl (cI, 200, .inl (ia h2))), (p3, .inl (cI, 200, .inl (ia h3))), (p4, .inl (cI, 200, .inl (ia h4))), (p5, .inl (cI, 200, .inl (ia h5)))] (fun z (u : Unit) => z = (if (0 ≤ t ∧ t ≤ 199) ∧ (0 ≤ k ∧ k ≤ 5) then (if t < ti then hkF h0 h1 h2 h3 h4 h5 k t else -1003) else -1002)) (fun u => [(mh, .inr (6, [.ref tm, .ref sc, .ref sd, .ref hi])), (sc, .inr (4, [.ref tm, .ref so, .ref sm, .ref sv, .ref qu, .ref me, .ref pa, .int (iI ti), .int (iI wa), .int (iI lc), .int (iI ca), .int (iI dn), .int (iI lo), .int (iI bi)])), (pa, .inl (cII, 6, .inr (.inr (.inr (.inr (fun k => [p0, p1, p2, p3, p4, p5][k]?)))))), (p0, .inl (cI, 200, .inl (ia h0))), (p1, .inl (cI, 200, .inl (ia h1))), (p2, .inl (cI, 200, .inl (ia h2))), (p3, .inl (cI, 200, .inl (ia h3))), (p4, .inl (cI, 200, .inl (ia h4))), (p5, .inl (cI, 200, .inl (ia h5)))]) := by
  refine CtI.mk (cc := cX6_was) (maxL := 3) (ret := (some .int)) (by decide) rfl (Nat.le_of_ble_eq_true rfl) ?_
  intro p e s m below meth c A ls R args Q hx hb hml hr hts hown hlocks hA hK hP hD hN hS hl hRf hRl hQ
  have hl : lv_has ls 3 [(0, .ref mh), (1, .int (iI t)), (2, .int (iI k))] := hl
  have hown : s.vm.findClass RX6 = some m.cls := hown
  refine lv_iload_n hx hb dX6_was_0 rfl (lv_at hl 1 rfl) ?_
  refine lv_iconst (v := iI 0) hx hb dX6_was_1 rfl ?_
  refine lv_sipush (v := iI 199) hx hb dX6_was_2 (by decide +kernel) ?_
  refine q_callSI (wr := [(mh, .inr (6, [.ref tm, .ref sc, .ref sd, .ref hi])), (sc, .inr (4, [.ref tm, .ref so, .ref sm, .ref sv, .ref qu, .ref me, .ref pa, .int (iI ti), .int (iI wa), .int (iI lc), .int (iI ca), .int (iI dn), .int (iI lo), .int (iI bi)])), (pa, .inl (cII, 6, .inr (.inr (.inr (.inr (fun k => [p0, p1, p2, p3, p4, p5][k]?)))))), (p0, .inl (cI, 200, .inl (ia h0))), (p1, .inl (cI, 200, .inl (ia h1))), (p2, .inl (cI, 200, .inl (ia h2))), (p3, .inl (cI, 200, .inl (ia h3))), (p4, .inl (cI, 200, .inl (ia h4))), (p5, .inl (cI, 200, .inl (ia h5)))]) (wn := fun (u : Unit) => [(mh, .inr (6, [.ref tm, .ref sc, .ref sd, .ref hi])), (sc, .inr (4, [.ref tm, .ref so, .ref sm, .ref sv, .ref qu, .ref me, .ref pa, .int (iI ti), .int (iI wa), .int (iI lc), .int (iI ca), .int (iI dn), .int (iI lo), .int (iI bi)])), (pa, .inl (cII, 6, .inr (.inr (.inr (.inr (fun k => [p0, p1, p2, p3, p4, p5][k]?)))))), (p0, .inl (cI, 200, .inl (ia h0))), (p1, .inl (cI, 200, .inl (ia h1))), (p2, .inl (cI, 200, .inl (ia h2))), (p3, .inl (cI, 200, .inl (ia h3))), (p4, .inl (cI, 200, .inl (ia h4))), (p5, .inl (cI, 200, .inl (ia h5)))]) (rest := []) [.int (iI t), .int (iI 0), .int (iI 199)] ⟨hx, hb, hml, hown, hts⟩ (c_X6_within l D cI cZ cII t 0 199 ⟨by omega, by omega⟩ ⟨by omega, by omega⟩ ⟨by omega, by omega⟩) (va_cwS 3 hts gX6_was_X6_within rfl rfl rfl (by decide +kernel) (by rw [hRf, hRl]; exact ⟨Nat.le_of_ble_eq_true rfl, Nat.le_of_ble_eq_true rfl⟩)) hK hP hD hS hA hN [] [0, 1, 2, 3, 4, 5, 6, 7, 8] [0, 1, 2, 3, 4, 5, 6, 7, 8] rfl rfl rfl rfl (by decide) rfl (fun u => rfl) rfl hl.1 rfl (Nat.le_of_ble_eq_true rfl) dX6_was_5 ⟨Nat.zero_le _, Nat.zero_le _⟩ (fun z u H locs hw hP hD hS => ?_)
  have hP : va_P D vwCl [(mh, .inr (6, [.ref tm, .ref sc, .ref sd, .ref hi])), (sc, .inr (4, [.ref tm, .ref so, .ref sm, .ref sv, .ref qu, .ref me, .ref pa, .int (iI ti), .int (iI wa), .int (iI lc), .int (iI ca), .int (iI dn), .int (iI lo), .int (iI bi)])), (pa, .inl (cII, 6, .inr (.inr (.inr (.inr (fun k => [p0, p1, p2, p3, p4, p5][k]?)))))), (p0, .inl (cI, 200, .inl (ia h0))), (p1, .inl (cI, 200, .inl (ia h1))), (p2, .inl (cI, 200, .inl (ia h2))), (p3, .inl (cI, 200, .inl (ia h3))), (p4, .inl (cI, 200, .inl (ia h4))), (p5, .inl (cI, 200, .inl (ia h5)))] H := hP
  have hD : va_D A [(mh, .inr (6, [.ref tm, .ref sc, .ref sd, .ref hi])), (sc, .inr (4, [.ref tm, .ref so, .ref sm, .ref sv, .ref qu, .ref me, .ref pa, .int (iI ti), .int (iI wa), .int (iI lc), .int (iI ca), .int (iI dn), .int (iI lo), .int (iI bi)])), (pa, .inl (cII, 6, .inr (.inr (.inr (.inr (fun k => [p0, p1, p2, p3, p4, p5][k]?)))))), (p0, .inl (cI, 200, .inl (ia h0))), (p1, .inl (cI, 200, .inl (ia h1))), (p2, .inl (cI, 200, .inl (ia h2))), (p3, .inl (cI, 200, .inl (ia h3))), (p4, .inl (cI, 200, .inl (ia h4))), (p5, .inl (cI, 200, .inl (ia h5)))] := hD
  obtain ⟨z_1, ez⟩ : ∃ y : Int, y = z := ⟨_, rfl⟩
  rw [← ez] at hw ⊢
  clear ez
  rcases hw with ⟨rfl, w5⟩ | ⟨rfl, w5⟩
  ·
    refine q_if_eq (tgt := 20) hx hb dX6_was_8 (by decide) ⟨by decide, by decide⟩ (fun h => absurd h (by decide)) (fun _ => ?_)
    refine lv_iload_n hx hb dX6_was_11 rfl (lv_at hl 2 rfl) ?_
    refine lv_iconst (v := iI 0) hx hb dX6_was_12 rfl ?_
    refine lv_iconst (v := iI 5) hx hb dX6_was_13 rfl ?_
    refine q_callSI (wr := [(mh, .inr (6, [.ref tm, .ref sc, .ref sd, .ref hi])), (sc, .inr (4, [.ref tm, .ref so, .ref sm, .ref sv, .ref qu, .ref me, .ref pa, .int (iI ti), .int (iI wa), .int (iI lc), .int (iI ca), .int (iI dn), .int (iI lo), .int (iI bi)])), (pa, .inl (cII, 6, .inr (.inr (.inr (.inr (fun k => [p0, p1, p2, p3, p4, p5][k]?)))))), (p0, .inl (cI, 200, .inl (ia h0))), (p1, .inl (cI, 200, .inl (ia h1))), (p2, .inl (cI, 200, .inl (ia h2))), (p3, .inl (cI, 200, .inl (ia h3))), (p4, .inl (cI, 200, .inl (ia h4))), (p5, .inl (cI, 200, .inl (ia h5)))]) (wn := fun (u : Unit) => [(mh, .inr (6, [.ref tm, .ref sc, .ref sd, .ref hi])), (sc, .inr (4, [.ref tm, .ref so, .ref sm, .ref sv, .ref qu, .ref me, .ref pa, .int (iI ti), .int (iI wa), .int (iI lc), .int (iI ca), .int (iI dn), .int (iI lo), .int (iI bi)])), (pa, .inl (cII, 6, .inr (.inr (.inr (.inr (fun k => [p0, p1, p2, p3, p4, p5][k]?)))))), (p0, .inl (cI, 200, .inl (ia h0))), (p1, .inl (cI, 200, .inl (ia h1))), (p2, .inl (cI, 200, .inl (ia h2))), (p3, .inl (cI, 200, .inl (ia h3))), (p4, .inl (cI, 200, .inl (ia h4))), (p5, .inl (cI, 200, .inl (ia h5)))]) (rest := []) [.int (iI k), .int (iI 0), .int (iI 5)] ⟨hx, hb, hml, hown, hts⟩ (c_X6_within l D cI cZ cII k 0 5 ⟨by omega, by omega⟩ ⟨by omega, by omega⟩ ⟨by omega, by omega⟩) (va_cwS 3 hts gX6_was_X6_within rfl rfl rfl (by decide +kernel) (by rw [hRf, hRl]; exact ⟨Nat.le_of_ble_eq_true rfl, Nat.le_of_ble_eq_true rfl⟩)) hK hP hD hS hA hN [] [0, 1, 2, 3, 4, 5, 6, 7, 8] [0, 1, 2, 3, 4, 5, 6, 7, 8] rfl rfl rfl rfl (by decide) rfl (fun u => rfl) rfl hl.1 rfl (Nat.le_of_ble_eq_true rfl) dX6_was_14 ⟨Nat.zero_le _, Nat.zero_le _⟩ (fun z u H locs hw hP hD hS => ?_)
    have hP : va_P D vwCl [(mh, .inr (6, [.ref tm, .ref sc, .ref sd, .ref hi])), (sc, .inr (4, [.ref tm, .ref so, .ref sm, .ref sv, .ref qu, .ref me, .ref pa, .int (iI ti), .int (iI wa), .int (iI lc), .int (iI ca), .int (iI dn), .int (iI lo), .int (iI bi)])), (pa, .inl (cII, 6, .inr (.inr (.inr (.inr (fun k => [p0, p1, p2, p3, p4, p5][k]?)))))), (p0, .inl (cI, 200, .inl (ia h0))), (p1, .inl (cI, 200, .inl (ia h1))), (p2, .inl (cI, 200, .inl (ia h2))), (p3, .inl (cI, 200, .inl (ia h3))), (p4, .inl (cI, 200, .inl (ia h4))), (p5, .inl (cI, 200, .inl (ia h5)))] H := hP
    have hD : va_D A [(mh, .inr (6, [.ref tm, .ref sc, .ref sd, .ref hi])), (sc, .inr (4, [.ref tm, .ref so, .ref sm, .ref sv, .ref qu, .ref me, .ref pa, .int (iI ti), .int (iI wa), .int (iI lc), .int (iI ca), .int (iI dn), .int (iI lo), .int (iI bi)])), (pa, .inl (cII, 6, .inr (.inr (.inr (.inr (fun k => [p0, p1, p2, p3, p4, p5][k]?)))))), (p0, .inl (cI, 200, .inl (ia h0))), (p1, .inl (cI, 200, .inl (ia h1))), (p2, .inl (cI, 200, .inl (ia h2))), (p3, .inl (cI, 200, .inl (ia h3))), (p4, .inl (cI, 200, .inl (ia h4))), (p5, .inl (cI, 200, .inl (ia h5)))] := hD
    obtain ⟨z_2, ez⟩ : ∃ y : Int, y = z := ⟨_, rfl⟩
    rw [← ez] at hw ⊢
    clear ez
    rcases hw with ⟨rfl, w14⟩ | ⟨rfl, w14⟩
    ·
      refine q_if_ne (tgt := 24) hx hb dX6_was_17 (by decide) ⟨by decide, by decide⟩ (fun _ => ?_) (fun h => absurd h (by decide))
      refine lv_iload_n hx hb dX6_was_24 rfl (lv_at hl 1 rfl) ?_
      refine lv_aload_n hx hb dX6_was_25 rfl (lv_at hl 0 rfl) ?_
      refine va_get (D := D) (ci := 6) (v := .ref sc) (C := RX6) (T := TX6) (N := 4) hx hb hts in_X6_was_X6 hown hK hP 0 rfl rfl 1 (by decide) (hts _ lk_X6_was_1) (fun _ h9 => h9) rfl dX6_was_26 ?_
      refine va_getN (D := D) (ci := 4) (v := .int (iI ti)) (C := RX4) (T := TX4) (N := 14) hx hb hts in_X6_was_X4 hown hK hP 1 rfl rfl 7 (by decide) (hN.2.2.2.2.2.1.use rfl) (fun _ h9 => h9) rfl dX6_was_29 ?_
      refine q_icmp_lt (tgt := 41) hx hb dX6_was_32 (by decide) ⟨by omega, by omega⟩ ⟨by omega, by omega⟩ (fun c32 => ?_) (fun c32 => ?_)
      ·
        refine lv_aload_n hx hb dX6_was_41 rfl (lv_at hl 0 rfl) ?_
        refine va_get (D := D) (ci := 6) (v := .ref sc) (C := RX6) (T := TX6) (N := 4) hx hb hts in_X6_was_X6 hown hK hP 0 rfl rfl 1 (by decide) (hts _ lk_X6_was_1) (fun _ h9 => h9) rfl dX6_was_42 ?_
        refine lv_iload_n hx hb dX6_was_45 rfl (lv_at hl 1 rfl) ?_
        refine lv_iload_n hx hb dX6_was_46 rfl (lv_at hl 2 rfl) ?_
        refine q_callVI (wr := [(mh, .inr (6, [.ref tm, .ref sc, .ref sd, .ref hi]))]) (wn := fun (u : Unit) => [(mh, .inr (6, [.ref tm, .ref sc, .ref sd, .ref hi])), (sc, .inr (4, [.ref tm, .ref so, .ref sm, .ref sv, .ref qu, .ref me, .ref pa, .int (iI ti), .int (iI wa), .int (iI lc), .int (iI ca), .int (iI dn), .int (iI lo), .int (iI bi)])), (pa, .inl (cII, 6, .inr (.inr (.inr (.inr (fun k => [p0, p1, p2, p3, p4, p5][k]?)))))), (p0, .inl (cI, 200, .inl (ia h0))), (p1, .inl (cI, 200, .inl (ia h1))), (p2, .inl (cI, 200, .inl (ia h2))), (p3, .inl (cI, 200, .inl (ia h3))), (p4, .inl (cI, 200, .inl (ia h4))), (p5, .inl (cI, 200, .inl (ia h5)))]) (rest := []) [.int (iI t), .int (iI k)] ⟨hx, hb, hml, hown, hts⟩ (c_X4_kept l D cI cZ cII sc pa p0 p1 p2 p3 p4 p5 tm so sm sv qu me ti wa lc ca dn lo bi h0 h1 h2 h3 h4 h5 t k ⟨by omega, by omega⟩ ⟨by omega, by omega⟩) (cwV 2 hts gX6_was_X4_kept rfl rfl rfl (by decide +kernel) (by rw [hRf, hRl]; exact ⟨Nat.le_of_ble_eq_true rfl, Nat.le_of_ble_eq_true rfl⟩)) hK hP hD hS hA hN [1, 2, 3, 4, 5, 6, 7, 8] [0] [0, 1, 2, 3, 4, 5, 6, 7, 8] 1 4 rfl rfl rfl rfl rfl rfl (by decide) rfl (fun u => rfl) rfl hl.1 rfl (Nat.le_of_ble_eq_true rfl) dX6_was_47 ⟨Nat.zero_le _, Nat.zero_le _⟩ (fun z u H locs hw hP hD hS => ?_)
        have hP : va_P D vwCl [(mh, .inr (6, [.ref tm, .ref sc, .ref sd, .ref hi])), (sc, .inr (4, [.ref tm, .ref so, .ref sm, .ref sv, .ref qu, .ref me, .ref pa, .int (iI ti), .int (iI wa), .int (iI lc), .int (iI ca), .int (iI dn), .int (iI lo), .int (iI bi)])), (pa, .inl (cII, 6, .inr (.inr (.inr (.inr (fun k => [p0, p1, p2, p3, p4, p5][k]?)))))), (p0, .inl (cI, 200, .inl (ia h0))), (p1, .inl (cI, 200, .inl (ia h1))), (p2, .inl (cI, 200, .inl (ia h2))), (p3, .inl (cI, 200, .inl (ia h3))), (p4, .inl (cI, 200, .inl (ia h4))), (p5, .inl (cI, 200, .inl (ia h5)))] H := hP
        have hD : va_D A [(mh, .inr (6, [.ref tm, .ref sc, .ref sd, .ref hi])), (sc, .inr (4, [.ref tm, .ref so, .ref sm, .ref sv, .ref qu, .ref me, .ref pa, .int (iI ti), .int (iI wa), .int (iI lc), .int (iI ca), .int (iI dn), .int (iI lo), .int (iI bi)])), (pa, .inl (cII, 6, .inr (.inr (.inr (.inr (fun k => [p0, p1, p2, p3, p4, p5][k]?)))))), (p0, .inl (cI, 200, .inl (ia h0))), (p1, .inl (cI, 200, .inl (ia h1))), (p2, .inl (cI, 200, .inl (ia h2))), (p3, .inl (cI, 200, .inl (ia h3))), (p4, .inl (cI, 200, .inl (ia h4))), (p5, .inl (cI, 200, .inl (ia h5)))] := hD
        obtain ⟨z_3, ez⟩ : ∃ y : Int, y = z := ⟨_, rfl⟩
        rw [← ez] at hw ⊢
        clear ez
        have w47 : z_3 = (if (0 ≤ t ∧ t ≤ 199) ∧ (0 ≤ k ∧ k ≤ 5) then hkF h0 h1 h2 h3 h4 h5 k t else -1002) := hw
        clear hw
        subst w47
        rw [hQ]
        refine q_retI () hx hb hr hlocks hK hP hD hS dX6_was_50 ?_
        first | rw [if_neg (by omega)] | rw [if_pos (by omega), if_neg (by omega)] | rw [if_pos (by omega), if_pos (by omega), if_pos (by omega)] | rw [if_pos (by omega), if_pos (by omega)]
      ·
        refine lv_sipush (v := iI (-1003)) hx hb dX6_was_35 (by decide +kernel) ?_
        refine lv_goto (tgt := 50) hx hb dX6_was_38 (by decide) ?_
        rw [hQ]
        refine q_retI () hx hb hr hlocks hK hP hD hS dX6_was_50 ?_
        first | rw [if_neg (by omega)] | rw [if_pos (by omega), if_neg (by omega)] | rw [if_pos (by omega), if_pos (by omega), if_pos (by omega)] | rw [if_pos (by omega), if_pos (by omega)]
    ·
      refine q_if_ne (tgt := 24) hx hb dX6_was_17 (by decide) ⟨by decide, by decide⟩ (fun h => absurd h (by decide)) (fun _ => ?_)
      refine lv_sipush (v := iI (-1002)) hx hb dX6_was_20 (by decide +kernel) ?_
      rw [hQ]
      refine q_retI () hx hb hr hlocks hK hP hD hS dX6_was_23 ?_
      first | rw [if_neg (by omega)] | rw [if_pos (by omega), if_neg (by omega)] | rw [if_pos (by omega), if_pos (by omega), if_pos (by omega)] | rw [if_pos (by omega), if_pos (by omega)]
  ·
    refine q_if_eq (tgt := 20) hx hb dX6_was_8 (by decide) ⟨by decide, by decide⟩ (fun _ => ?_) (fun h => absurd h (by decide))
    refine lv_sipush (v := iI (-1002)) hx hb dX6_was_20 (by decide +kernel) ?_
    rw [hQ]
    refine q_retI () hx hb hr hlocks hK hP hD hS dX6_was_23 ?_
    first | rw [if_neg (by omega)] | rw [if_pos (by omega), if_neg (by omega)] | rw [if_pos (by omega), if_pos (by omega), if_pos (by omega)] | rw [if_pos (by omega), if_pos (by omega)]

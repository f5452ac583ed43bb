theorem in_X2_begin_X2 : ∀ w ∈ wsX20, w ∈ wsX2_begin := fun _ h => List.mem_cons_of_mem _ (List.mem_append_right _ h)
theorem lk_X2_begin_1 : Cond.fieldLink RX2 24 "MoreHands$Queue" "head" "I" ∈ wsX2_begin := List.mem_of_getElem? (i := 1) rfl
theorem lk_X2_begin_2 : Cond.fieldLink RX2 28 "MoreHands$Queue" "groups" "I" ∈ wsX2_begin := List.mem_of_getElem? (i := 2) rfl
theorem lk_X2_begin_3 : Cond.fieldLink RX2 31 "MoreHands$Queue" "waiting" "I" ∈ wsX2_begin := List.mem_of_getElem? (i := 3) rfl
theorem lk_X2_begin_4 : Cond.fieldLink RX2 34 "MoreHands$Queue" "returning" "I" ∈ wsX2_begin := List.mem_of_getElem? (i := 4) rfl
set_option maxHeartbeats 4000000 in
set_option maxRecDepth 100000 in
theorem c_X2_begin (l : Launch) (D : va_G) (cI cZ cII : ClassId) (qu : Nat) (ql : Nat) (qt : Nat) (qs : Nat) (qr : Nat) (hd : Int) (gr : Int) (wt : Int) (rt : Int) (le : Int → Int) (tr : Int → Int) (si : Int → Int) (rg : Int → Int) (hB_le : BB 0 60 le) (hB_tr : BB 0 4 tr) (hB_si : BB 0 200 si) (hB_rg : BB 0 199 rg) : CtV l yX2_begin wsX2_begin 0 0 D (ty3 cI cZ cII) [.ref qu] [(qu, .inr (2, [.ref ql, .ref qt, .ref qs, .ref qr, .int (iI hd), .int (iI gr), .int (iI wt), .int (iI rt)])), (ql, .inl (cI, 200, .inl (ia le))), (qt, .inl (cI, 200, .inl (ia tr))), (qs, .inl (cI, 200, .inl (ia si))), (qr, .inl (cI, 200, .inl (ia rg)))] (fun (u : Int × Int × Int × Int) => u.1 = 0 ∧ u.2.1 = 0 ∧ u.2.2.1 = 0 ∧ u.2.2.2 = 0) (fun u => [(qu, .inr (2, [.ref ql, .ref qt, .ref qs, .ref qr, .int (iI u.1), .int (iI u.2.1), .int (iI u.2.2.1), .int (iI u.2.2.2)])), (ql, .inl (cI, 200, .inl (ia le))), (qt, .inl (cI, 200, .inl (ia tr))), (qs, .inl (cI, 200, .inl (ia si))), (qr, .inl (cI, 200, .inl (ia rg)))]) := by
  refine CtV.mk (cc := cX2_begin) (maxL := 1) (ret := none) (by decide) rfl (Nat.le_of_ble_eq_true rfl) ?_
  intro p e s m below meth c A ls R args Q hx hb hml hr hts hown hlocks hA hK hP hD hN hS hl hRf hRl hQ
  have hl : lv_has ls 1 [(0, .ref qu)] := hl
  have hown : s.vm.findClass RX2 = some m.cls := hown
  refine lv_aload_n hx hb dX2_begin_0 rfl (lv_at hl 0 rfl) ?_
  refine lv_iconst (v := iI 0) hx hb dX2_begin_1 rfl ?_
  refine va_put (D := D) (ci := 2) (v := .int (iI 0)) (ty := .int) (C := RX2) (T := TX2) (N := 8) hx hb hts in_X2_begin_X2 tyX2 tyX2_ok nmX2 hown hK hP hD hS 0 rfl rfl 4 (by decide) (hts _ lk_X2_begin_1) (fun _ h9 => h9) rfl (by decide +kernel) rfl rfl (Nat.le_of_ble_eq_true rfl) dX2_begin_2 (fun H locs hP hD hS => ?_)
  have hP : va_P D vwCl [(qu, .inr (2, [.ref ql, .ref qt, .ref qs, .ref qr, .int (iI 0), .int (iI gr), .int (iI wt), .int (iI rt)])), (ql, .inl (cI, 200, .inl (ia le))), (qt, .inl (cI, 200, .inl (ia tr))), (qs, .inl (cI, 200, .inl (ia si))), (qr, .inl (cI, 200, .inl (ia rg)))] H := hP
  have hD : va_D A [(qu, .inr (2, [.ref ql, .ref qt, .ref qs, .ref qr, .int (iI 0), .int (iI gr), .int (iI wt), .int (iI rt)])), (ql, .inl (cI, 200, .inl (ia le))), (qt, .inl (cI, 200, .inl (ia tr))), (qs, .inl (cI, 200, .inl (ia si))), (qr, .inl (cI, 200, .inl (ia rg)))] := hD
  refine lv_aload_n hx hb dX2_begin_5 rfl (lv_at hl 0 rfl) ?_
  refine lv_iconst (v := iI 0) hx hb dX2_begin_6 rfl ?_
  refine va_put (D := D) (ci := 2) (v := .int (iI 0)) (ty := .int) (C := RX2) (T := TX2) (N := 8) hx hb hts in_X2_begin_X2 tyX2 tyX2_ok nmX2 hown hK hP hD hS 0 rfl rfl 5 (by decide) (hts _ lk_X2_begin_2) (fun _ h9 => h9) rfl (by decide +kernel) rfl rfl (Nat.le_of_ble_eq_true rfl) dX2_begin_7 (fun H locs hP hD hS => ?_)
  have hP : va_P D vwCl [(qu, .inr (2, [.ref ql, .ref qt, .ref qs, .ref qr, .int (iI 0), .int (iI 0), .int (iI wt), .int (iI rt)])), (ql, .inl (cI, 200, .inl (ia le))), (qt, .inl (cI, 200, .inl (ia tr))), (qs, .inl (cI, 200, .inl (ia si))), (qr, .inl (cI, 200, .inl (ia rg)))] H := hP
  have hD : va_D A [(qu, .inr (2, [.ref ql, .ref qt, .ref qs, .ref qr, .int (iI 0), .int (iI 0), .int (iI wt), .int (iI rt)])), (ql, .inl (cI, 200, .inl (ia le))), (qt, .inl (cI, 200, .inl (ia tr))), (qs, .inl (cI, 200, .inl (ia si))), (qr, .inl (cI, 200, .inl (ia rg)))] := hD
  refine lv_aload_n hx hb dX2_begin_10 rfl (lv_at hl 0 rfl) ?_
  refine lv_iconst (v := iI 0) hx hb dX2_begin_11 rfl ?_
  refine va_put (D := D) (ci := 2) (v := .int (iI 0)) (ty := .int) (C := RX2) (T := TX2) (N := 8) hx hb hts in_X2_begin_X2 tyX2 tyX2_ok nmX2 hown hK hP hD hS 0 rfl rfl 6 (by decide) (hts _ lk_X2_begin_3) (fun _ h9 => h9) rfl (by decide +kernel) rfl rfl (Nat.le_of_ble_eq_true rfl) dX2_begin_12 (fun H locs hP hD hS => ?_)
  have hP : va_P D vwCl [(qu, .inr (2, [.ref ql, .ref qt, .ref qs, .ref qr, .int (iI 0), .int (iI 0), .int (iI 0), .int (iI rt)])), (ql, .inl (cI, 200, .inl (ia le))), (qt, .inl (cI, 200, .inl (ia tr))), (qs, .inl (cI, 200, .inl (ia si))), (qr, .inl (cI, 200, .inl (ia rg)))] H := hP
  have hD : va_D A [(qu, .inr (2, [.ref ql, .ref qt, .ref qs, .ref qr, .int (iI 0), .int (iI 0), .int (iI 0), .int (iI rt)])), (ql, .inl (cI, 200, .inl (ia le))), (qt, .inl (cI, 200, .inl (ia tr))), (qs, .inl (cI, 200, .inl (ia si))), (qr, .inl (cI, 200, .inl (ia rg)))] := hD
  refine lv_aload_n hx hb dX2_begin_15 rfl (lv_at hl 0 rfl) ?_
  refine lv_iconst (v := iI 0) hx hb dX2_begin_16 rfl ?_
  refine va_put (D := D) (ci := 2) (v := .int (iI 0)) (ty := .int) (C := RX2) (T := TX2) (N := 8) hx hb hts in_X2_begin_X2 tyX2 tyX2_ok nmX2 hown hK hP hD hS 0 rfl rfl 7 (by decide) (hts _ lk_X2_begin_4) (fun _ h9 => h9) rfl (by decide +kernel) rfl rfl (Nat.le_of_ble_eq_true rfl) dX2_begin_17 (fun H locs hP hD hS => ?_)
  have hP : va_P D vwCl [(qu, .inr (2, [.ref ql, .ref qt, .ref qs, .ref qr, .int (iI 0), .int (iI 0), .int (iI 0), .int (iI 0)])), (ql, .inl (cI, 200, .inl (ia le))), (qt, .inl (cI, 200, .inl (ia tr))), (qs, .inl (cI, 200, .inl (ia si))), (qr, .inl (cI, 200, .inl (ia rg)))] H := hP
  have hD : va_D A [(qu, .inr (2, [.ref ql, .ref qt, .ref qs, .ref qr, .int (iI 0), .int (iI 0), .int (iI 0), .int (iI 0)])), (ql, .inl (cI, 200, .inl (ia le))), (qt, .inl (cI, 200, .inl (ia tr))), (qs, .inl (cI, 200, .inl (ia si))), (qr, .inl (cI, 200, .inl (ia rg)))] := hD
  rw [hQ]
  refine q_retV (0, 0, 0, 0) hx hb hr hlocks hK hP hD hS dX2_begin_20 ?_
  try dsimp only
  exact ⟨rfl, rfl, rfl, rfl⟩

theorem in_X2_first_X2 : ∀ w ∈ wsX20, w ∈ wsX2_first := fun _ h => List.mem_cons_of_mem _ (List.mem_append_right _ h)
theorem lk_X2_first_1 : Cond.fieldLink RX2 24 "MoreHands$Queue" "head" "I" ∈ wsX2_first := List.mem_of_getElem? (i := 1) rfl
theorem lk_X2_first_2 : Cond.fieldLink RX2 21 "MoreHands$Queue" "ring" "[I" ∈ wsX2_first := List.mem_of_getElem? (i := 2) rfl
theorem lk_X2_first_3 : Cond.static yX6_within ∈ wsX2_first := List.mem_of_getElem? (i := 3) rfl
theorem lk_X2_first_4 : Cond.initialized RX6 ∈ wsX2_first := List.mem_of_getElem? (i := 4) rfl
set_option maxHeartbeats 4000000 in
set_option maxRecDepth 100000 in
theorem c_X2_first (l : Launch) (D : va_G) (cI cZ cII : ClassId) (qu : Nat) (ql : Nat) (qt : Nat) (qs : Nat) (qr : Nat) (hd : Int) (gr : Int) (wt : Int) (rt : Int) (le : Int → Int) (tr : Int → Int) (si : Int → Int) (rg : Int → Int) (hB_le : BB 0 60 le) (hB_tr : BB 0 4 tr) (hB_si : BB 0 200 si) (hB_rg : BB 0 199 rg) (hhd : 0 ≤ hd ∧ hd ≤ 199) : CtI l yX2_first wsX2_first 1 22 D (ty3 cI cZ cII) [.ref qu] [(qu, .inr (2, [.ref ql, .ref qt, .ref qs, .ref qr, .int (iI hd), .int (iI gr), .int (iI wt), .int (iI rt)])), (ql, .inl (cI, 200, .inl (ia le))), (qt, .inl (cI, 200, .inl (ia tr))), (qs, .inl (cI, 200, .inl (ia si))), (qr, .inl (cI, 200, .inl (ia rg)))] (fun z (u : Unit) => z = (rg hd)) (fun u => [(qu, .inr (2, [.ref ql, .ref qt, .ref qs, .ref qr, .int (iI hd), .int (iI gr), .int (iI wt), .int (iI rt)])), (ql, .inl (cI, 200, .inl (ia le))), (qt, .inl (cI, 200, .inl (ia tr))), (qs, .inl (cI, 200, .inl (ia si))), (qr, .inl (cI, 200, .inl (ia rg)))]) := by
  refine CtI.mk (cc := cX2_first) (maxL := 1) (ret := (some .int)) (by decide) rfl (Nat.le_of_ble_eq_true rfl) ?_
  intro p e s m below meth c A ls R args Q hx hb hml hr hts hown hlocks hA hK hP hD hN hS hl hRf hRl hQ
  have hl : lv_has ls 1 [(0, .ref qu)] := hl
  have hown : s.vm.findClass RX2 = some m.cls := hown
  refine lv_aload_n hx hb dX2_first_0 rfl (lv_at hl 0 rfl) ?_
  refine va_get (D := D) (ci := 2) (v := .int (iI hd)) (C := RX2) (T := TX2) (N := 8) hx hb hts in_X2_first_X2 hown hK hP 0 rfl rfl 4 (by decide) (hts _ lk_X2_first_1) (fun _ h9 => h9) rfl dX2_first_1 ?_
  refine lv_iconst (v := iI 0) hx hb dX2_first_4 rfl ?_
  refine lv_sipush (v := iI 199) hx hb dX2_first_5 (by decide +kernel) ?_
  refine q_callNI (wr := [(qu, .inr (2, [.ref ql, .ref qt, .ref qs, .ref qr, .int (iI hd), .int (iI gr), .int (iI wt), .int (iI rt)])), (ql, .inl (cI, 200, .inl (ia le))), (qt, .inl (cI, 200, .inl (ia tr))), (qs, .inl (cI, 200, .inl (ia si))), (qr, .inl (cI, 200, .inl (ia rg)))]) (wn := fun (u : Unit) => [(qu, .inr (2, [.ref ql, .ref qt, .ref qs, .ref qr, .int (iI hd), .int (iI gr), .int (iI wt), .int (iI rt)])), (ql, .inl (cI, 200, .inl (ia le))), (qt, .inl (cI, 200, .inl (ia tr))), (qs, .inl (cI, 200, .inl (ia si))), (qr, .inl (cI, 200, .inl (ia rg)))]) (rest := []) [.int (iI hd), .int (iI 0), .int (iI 199)] ⟨hx, hb, hml, hown, hts⟩ (c_X6_within l D cI cZ cII hd 0 199 ⟨by omega, by omega⟩ ⟨by omega, by omega⟩ ⟨by omega, by omega⟩) ⟨va_cnB 3 hts gX2_first_X6_within_n37 rfl rfl rfl hN.2.2.2.1 (hts _ lk_X2_first_4) (by decide +kernel) (by rw [hRf, hRl]; exact ⟨Nat.le_of_ble_eq_true rfl, Nat.le_of_ble_eq_true rfl⟩), (hts _ lk_X2_first_3), trivial⟩ hK hP hD hS hA hN [] [0, 1, 2, 3, 4] [0, 1, 2, 3, 4] rfl rfl rfl rfl (by decide) rfl (fun u => rfl) rfl hl.1 rfl (Nat.le_of_ble_eq_true rfl) dX2_first_8 ⟨Nat.zero_le _, Nat.zero_le _⟩ (fun z u H locs hw hP hD hS => ?_)
  have hP : va_P D vwCl [(qu, .inr (2, [.ref ql, .ref qt, .ref qs, .ref qr, .int (iI hd), .int (iI gr), .int (iI wt), .int (iI rt)])), (ql, .inl (cI, 200, .inl (ia le))), (qt, .inl (cI, 200, .inl (ia tr))), (qs, .inl (cI, 200, .inl (ia si))), (qr, .inl (cI, 200, .inl (ia rg)))] H := hP
  have hD : va_D A [(qu, .inr (2, [.ref ql, .ref qt, .ref qs, .ref qr, .int (iI hd), .int (iI gr), .int (iI wt), .int (iI rt)])), (ql, .inl (cI, 200, .inl (ia le))), (qt, .inl (cI, 200, .inl (ia tr))), (qs, .inl (cI, 200, .inl (ia si))), (qr, .inl (cI, 200, .inl (ia rg)))] := hD
  obtain ⟨z_1, ez⟩ : ∃ y : Int, y = z := ⟨_, rfl⟩
  rw [← ez] at hw ⊢
  clear ez
  rcases hw with ⟨rfl, w8⟩ | ⟨rfl, w8⟩
  ·
    refine q_if_eq (tgt := 32) hx hb dX2_first_11 (by decide) ⟨by decide, by decide⟩ (fun h => absurd h (by decide)) (fun _ => ?_)
    refine lv_aload_n hx hb dX2_first_14 rfl (lv_at hl 0 rfl) ?_
    refine va_get (D := D) (ci := 2) (v := .ref qr) (C := RX2) (T := TX2) (N := 8) hx hb hts in_X2_first_X2 hown hK hP 0 rfl rfl 3 (by decide) (hts _ lk_X2_first_2) (fun _ h9 => h9) rfl dX2_first_15 ?_
    refine lv_aload_n hx hb dX2_first_18 rfl (lv_at hl 0 rfl) ?_
    refine va_get (D := D) (ci := 2) (v := .int (iI hd)) (C := RX2) (T := TX2) (N := 8) hx hb hts in_X2_first_X2 hown hK hP 0 rfl rfl 4 (by decide) (hts _ lk_X2_first_1) (fun _ h9 => h9) rfl dX2_first_19 ?_
    refine q_iald hx hb hK hP 4 0 rfl rfl (by omega) (by omega) (by decide) dX2_first_22 ?_
    have hb22 := hB_rg hd
    refine lv_sipush (v := iI 200) hx hb dX2_first_23 (by decide +kernel) ?_
    refine q_callSI (wr := [(qu, .inr (2, [.ref ql, .ref qt, .ref qs, .ref qr, .int (iI hd), .int (iI gr), .int (iI wt), .int (iI rt)])), (ql, .inl (cI, 200, .inl (ia le))), (qt, .inl (cI, 200, .inl (ia tr))), (qs, .inl (cI, 200, .inl (ia si))), (qr, .inl (cI, 200, .inl (ia rg)))]) (wn := fun (u : Unit) => [(qu, .inr (2, [.ref ql, .ref qt, .ref qs, .ref qr, .int (iI hd), .int (iI gr), .int (iI wt), .int (iI rt)])), (ql, .inl (cI, 200, .inl (ia le))), (qt, .inl (cI, 200, .inl (ia tr))), (qs, .inl (cI, 200, .inl (ia si))), (qr, .inl (cI, 200, .inl (ia rg)))]) (rest := []) [.int (iI (rg hd)), .int (iI 200)] ⟨hx, hb, hml, hown, hts⟩ (c_J9_floorMod_7cf53 l D cI cZ cII (rg hd) 200 (by omega) (by omega)) (va_cwS 2 hts gX2_first_J9_floorMod_7cf53 rfl rfl rfl (by decide +kernel) (by rw [hRf, hRl]; exact ⟨Nat.le_of_ble_eq_true rfl, Nat.le_of_ble_eq_true rfl⟩)) hK hP hD hS hA hN [] [0, 1, 2, 3, 4] [0, 1, 2, 3, 4] rfl rfl rfl rfl (by decide) rfl (fun u => rfl) rfl hl.1 rfl (Nat.le_of_ble_eq_true rfl) dX2_first_26 ⟨Nat.zero_le _, Nat.zero_le _⟩ (fun z u H locs hw hP hD hS => ?_)
    have hP : va_P D vwCl [(qu, .inr (2, [.ref ql, .ref qt, .ref qs, .ref qr, .int (iI hd), .int (iI gr), .int (iI wt), .int (iI rt)])), (ql, .inl (cI, 200, .inl (ia le))), (qt, .inl (cI, 200, .inl (ia tr))), (qs, .inl (cI, 200, .inl (ia si))), (qr, .inl (cI, 200, .inl (ia rg)))] H := hP
    have hD : va_D A [(qu, .inr (2, [.ref ql, .ref qt, .ref qs, .ref qr, .int (iI hd), .int (iI gr), .int (iI wt), .int (iI rt)])), (ql, .inl (cI, 200, .inl (ia le))), (qt, .inl (cI, 200, .inl (ia tr))), (qs, .inl (cI, 200, .inl (ia si))), (qr, .inl (cI, 200, .inl (ia rg)))] := hD
    obtain ⟨z_2, ez⟩ : ∃ y : Int, y = z := ⟨_, rfl⟩
    rw [← ez] at hw ⊢
    clear ez
    have w26 : z_2 = ((rg hd) % (200 : Int)) := hw
    clear hw
    subst w26
    refine q_top (b := (rg hd)) (by omega) ?_
    refine lv_goto (tgt := 33) hx hb dX2_first_29 (by decide) ?_
    rw [hQ]
    refine q_retI () hx hb hr hlocks hK hP hD hS dX2_first_33 ?_
    first | rfl | omega
  ·
    refine q_if_eq (tgt := 32) hx hb dX2_first_11 (by decide) ⟨by decide, by decide⟩ (fun _ => ?_) (fun h => absurd h (by decide))
    refine lv_iconst (v := iI 0) hx hb dX2_first_32 rfl ?_
    rw [hQ]
    refine q_retI () hx hb hr hlocks hK hP hD hS dX2_first_33 ?_
    first | rfl | omega

theorem in_X2_removeFirst_X2 : ∀ w ∈ wsX20, w ∈ wsX2_removeFirst := fun _ h => List.mem_cons_of_mem _ (List.mem_append_right _ h)
theorem lk_X2_removeFirst_1 : Cond.fieldLink RX2 24 "MoreHands$Queue" "head" "I" ∈ wsX2_removeFirst := List.mem_of_getElem? (i := 1) rfl
theorem lk_X2_removeFirst_2 : Cond.fieldLink RX2 28 "MoreHands$Queue" "groups" "I" ∈ wsX2_removeFirst := List.mem_of_getElem? (i := 2) rfl
set_option maxHeartbeats 4000000 in
set_option maxRecDepth 100000 in
theorem c_X2_removeFirst (l : Launch) (D : va_G) (cI cZ cII : ClassId) (qu : Nat) (ql : Nat) (qt : Nat) (qs : Nat) (qr : Nat) (hd : Int) (gr : Int) (wt : Int) (rt : Int) (le : Int → Int) (tr : Int → Int) (si : Int → Int) (rg : Int → Int) (hB_le : BB 0 60 le) (hB_tr : BB 0 4 tr) (hB_si : BB 0 200 si) (hB_rg : BB 0 199 rg) (hhd : 0 ≤ hd ∧ hd ≤ 199) : CtV l yX2_removeFirst wsX2_removeFirst 0 0 D (ty3 cI cZ cII) [.ref qu] [(qu, .inr (2, [.ref ql, .ref qt, .ref qs, .ref qr, .int (iI hd), .int (iI gr), .int (iI wt), .int (iI rt)])), (ql, .inl (cI, 200, .inl (ia le))), (qt, .inl (cI, 200, .inl (ia tr))), (qs, .inl (cI, 200, .inl (ia si))), (qr, .inl (cI, 200, .inl (ia rg)))] (fun (u : Int × Int) => u.1 = (hd + 1) % 200 ∧ u.2 = gr - 1) (fun u => [(qu, .inr (2, [.ref ql, .ref qt, .ref qs, .ref qr, .int (iI u.1), .int (iI u.2), .int (iI wt), .int (iI rt)])), (ql, .inl (cI, 200, .inl (ia le))), (qt, .inl (cI, 200, .inl (ia tr))), (qs, .inl (cI, 200, .inl (ia si))), (qr, .inl (cI, 200, .inl (ia rg)))]) := by
  refine CtV.mk (cc := cX2_removeFirst) (maxL := 1) (ret := none) (by decide) rfl (Nat.le_of_ble_eq_true rfl) ?_
  intro p e s m below meth c A ls R args Q hx hb hml hr hts hown hlocks hA hK hP hD hN hS hl hRf hRl hQ
  have hl : lv_has ls 1 [(0, .ref qu)] := hl
  have hown : s.vm.findClass RX2 = some m.cls := hown
  refine lv_aload_n hx hb dX2_removeFirst_0 rfl (lv_at hl 0 rfl) ?_
  refine lv_aload_n hx hb dX2_removeFirst_1 rfl (lv_at hl 0 rfl) ?_
  refine va_get (D := D) (ci := 2) (v := .int (iI hd)) (C := RX2) (T := TX2) (N := 8) hx hb hts in_X2_removeFirst_X2 hown hK hP 0 rfl rfl 4 (by decide) (hts _ lk_X2_removeFirst_1) (fun _ h9 => h9) rfl dX2_removeFirst_2 ?_
  refine lv_iconst (v := iI 1) hx hb dX2_removeFirst_5 rfl ?_
  refine q_iadd hx hb dX2_removeFirst_6 ?_
  refine lv_sipush (v := iI 200) hx hb dX2_removeFirst_7 (by decide +kernel) ?_
  refine q_irem hx hb dX2_removeFirst_10 ⟨by omega, by omega⟩ ⟨by omega, by omega⟩ ?_
  refine va_put (D := D) (ci := 2) (v := .int (iI ((hd + 1) % 200))) (ty := .int) (C := RX2) (T := TX2) (N := 8) hx hb hts in_X2_removeFirst_X2 tyX2 tyX2_ok nmX2 hown hK hP hD hS 0 rfl rfl 4 (by decide) (hts _ lk_X2_removeFirst_1) (fun _ h9 => h9) rfl (by decide +kernel) rfl rfl (Nat.le_of_ble_eq_true rfl) dX2_removeFirst_11 (fun H locs hP hD hS => ?_)
  have hP : va_P D vwCl [(qu, .inr (2, [.ref ql, .ref qt, .ref qs, .ref qr, .int (iI ((hd + 1) % 200)), .int (iI gr), .int (iI wt), .int (iI rt)])), (ql, .inl (cI, 200, .inl (ia le))), (qt, .inl (cI, 200, .inl (ia tr))), (qs, .inl (cI, 200, .inl (ia si))), (qr, .inl (cI, 200, .inl (ia rg)))] H := hP
  have hD : va_D A [(qu, .inr (2, [.ref ql, .ref qt, .ref qs, .ref qr, .int (iI ((hd + 1) % 200)), .int (iI gr), .int (iI wt), .int (iI rt)])), (ql, .inl (cI, 200, .inl (ia le))), (qt, .inl (cI, 200, .inl (ia tr))), (qs, .inl (cI, 200, .inl (ia si))), (qr, .inl (cI, 200, .inl (ia rg)))] := hD
  refine lv_aload_n hx hb dX2_removeFirst_14 rfl (lv_at hl 0 rfl) ?_
  refine lv_dup hx hb dX2_removeFirst_15 rfl ?_
  refine va_get (D := D) (ci := 2) (v := .int (iI gr)) (C := RX2) (T := TX2) (N := 8) hx hb hts in_X2_removeFirst_X2 hown hK hP 0 rfl rfl 5 (by decide) (hts _ lk_X2_removeFirst_2) (fun _ h9 => h9) rfl dX2_removeFirst_16 ?_
  refine lv_iconst (v := iI 1) hx hb dX2_removeFirst_19 rfl ?_
  refine q_isub hx hb dX2_removeFirst_20 ?_
  refine va_put (D := D) (ci := 2) (v := .int (iI (gr - 1))) (ty := .int) (C := RX2) (T := TX2) (N := 8) hx hb hts in_X2_removeFirst_X2 tyX2 tyX2_ok nmX2 hown hK hP hD hS 0 rfl rfl 5 (by decide) (hts _ lk_X2_removeFirst_2) (fun _ h9 => h9) rfl (by decide +kernel) rfl rfl (Nat.le_of_ble_eq_true rfl) dX2_removeFirst_21 (fun H locs hP hD hS => ?_)
  have hP : va_P D vwCl [(qu, .inr (2, [.ref ql, .ref qt, .ref qs, .ref qr, .int (iI ((hd + 1) % 200)), .int (iI (gr - 1)), .int (iI wt), .int (iI rt)])), (ql, .inl (cI, 200, .inl (ia le))), (qt, .inl (cI, 200, .inl (ia tr))), (qs, .inl (cI, 200, .inl (ia si))), (qr, .inl (cI, 200, .inl (ia rg)))] H := hP
  have hD : va_D A [(qu, .inr (2, [.ref ql, .ref qt, .ref qs, .ref qr, .int (iI ((hd + 1) % 200)), .int (iI (gr - 1)), .int (iI wt), .int (iI rt)])), (ql, .inl (cI, 200, .inl (ia le))), (qt, .inl (cI, 200, .inl (ia tr))), (qs, .inl (cI, 200, .inl (ia si))), (qr, .inl (cI, 200, .inl (ia rg)))] := hD
  rw [hQ]
  refine q_retV (((hd + 1) % 200), (gr - 1)) hx hb hr hlocks hK hP hD hS dX2_removeFirst_24 ?_
  try dsimp only
  exact ⟨rfl, rfl⟩

theorem in_X2_append_X2 : ∀ w ∈ wsX20, w ∈ wsX2_append := fun _ h => List.mem_cons_of_mem _ (List.mem_append_right _ h)
theorem lk_X2_append_1 : Cond.fieldLink RX2 24 "MoreHands$Queue" "head" "I" ∈ wsX2_append := List.mem_of_getElem? (i := 1) rfl
theorem lk_X2_append_2 : Cond.fieldLink RX2 28 "MoreHands$Queue" "groups" "I" ∈ wsX2_append := List.mem_of_getElem? (i := 2) rfl
theorem lk_X2_append_3 : Cond.fieldLink RX2 21 "MoreHands$Queue" "ring" "[I" ∈ wsX2_append := List.mem_of_getElem? (i := 3) rfl
set_option maxHeartbeats 4000000 in
set_option maxRecDepth 100000 in
theorem c_X2_append (l : Launch) (D : va_G) (cI cZ cII : ClassId) (qu : Nat) (ql : Nat) (qt : Nat) (qs : Nat) (qr : Nat) (hd : Int) (gr : Int) (wt : Int) (rt : Int) (le : Int → Int) (tr : Int → Int) (si : Int → Int) (rg : Int → Int) (g : Int) (hB_le : BB 0 60 le) (hB_tr : BB 0 4 tr) (hB_si : BB 0 200 si) (hB_rg : BB 0 199 rg) (hp_g : 0 ≤ g ∧ g ≤ 199) (hhd : 0 ≤ hd ∧ hd ≤ 199) (hgr : 0 ≤ gr ∧ gr ≤ 200) : CtV l yX2_append wsX2_append 1 22 D (ty3 cI cZ cII) [.ref qu, .int (iI g)] [(qu, .inr (2, [.ref ql, .ref qt, .ref qs, .ref qr, .int (iI hd), .int (iI gr), .int (iI wt), .int (iI rt)])), (ql, .inl (cI, 200, .inl (ia le))), (qt, .inl (cI, 200, .inl (ia tr))), (qs, .inl (cI, 200, .inl (ia si))), (qr, .inl (cI, 200, .inl (ia rg)))] (fun (u : (Int → Int) × Int) => u.1 = uI rg ((hd + gr) % 200) g ∧ u.2 = gr + 1 ∧ BB 0 199 u.1) (fun u => [(qu, .inr (2, [.ref ql, .ref qt, .ref qs, .ref qr, .int (iI hd), .int (iI u.2), .int (iI wt), .int (iI rt)])), (ql, .inl (cI, 200, .inl (ia le))), (qt, .inl (cI, 200, .inl (ia tr))), (qs, .inl (cI, 200, .inl (ia si))), (qr, .inl (cI, 200, .inl (ia u.1)))]) := by
  refine CtV.mk (cc := cX2_append) (maxL := 3) (ret := none) (by decide) rfl (Nat.le_of_ble_eq_true rfl) ?_
  intro p e s m below meth c A ls R args Q hx hb hml hr hts hown hlocks hA hK hP hD hN hS hl hRf hRl hQ
  have hl : lv_has ls 3 [(0, .ref qu), (1, .int (iI g))] := hl
  have hown : s.vm.findClass RX2 = some m.cls := hown
  refine lv_aload_n hx hb dX2_append_0 rfl (lv_at hl 0 rfl) ?_
  refine va_get (D := D) (ci := 2) (v := .int (iI hd)) (C := RX2) (T := TX2) (N := 8) hx hb hts in_X2_append_X2 hown hK hP 0 rfl rfl 4 (by decide) (hts _ lk_X2_append_1) (fun _ h9 => h9) rfl dX2_append_1 ?_
  refine lv_aload_n hx hb dX2_append_4 rfl (lv_at hl 0 rfl) ?_
  refine va_get (D := D) (ci := 2) (v := .int (iI gr)) (C := RX2) (T := TX2) (N := 8) hx hb hts in_X2_append_X2 hown hK hP 0 rfl rfl 5 (by decide) (hts _ lk_X2_append_2) (fun _ h9 => h9) rfl dX2_append_5 ?_
  refine q_iadd hx hb dX2_append_8 ?_
  refine lv_sipush (v := iI 200) hx hb dX2_append_9 (by decide +kernel) ?_
  refine q_callSI (wr := [(qu, .inr (2, [.ref ql, .ref qt, .ref qs, .ref qr, .int (iI hd), .int (iI gr), .int (iI wt), .int (iI rt)])), (ql, .inl (cI, 200, .inl (ia le))), (qt, .inl (cI, 200, .inl (ia tr))), (qs, .inl (cI, 200, .inl (ia si))), (qr, .inl (cI, 200, .inl (ia rg)))]) (wn := fun (u : Unit) => [(qu, .inr (2, [.ref ql, .ref qt, .ref qs, .ref qr, .int (iI hd), .int (iI gr), .int (iI wt), .int (iI rt)])), (ql, .inl (cI, 200, .inl (ia le))), (qt, .inl (cI, 200, .inl (ia tr))), (qs, .inl (cI, 200, .inl (ia si))), (qr, .inl (cI, 200, .inl (ia rg)))]) (rest := []) [.int (iI (hd + gr)), .int (iI 200)] ⟨hx, hb, hml, hown, hts⟩ (c_J9_floorMod_7cf53 l D cI cZ cII (hd + gr) 200 (by omega) (by omega)) (va_cwS 2 hts gX2_append_J9_floorMod_7cf53 rfl rfl rfl (by decide +kernel) (by rw [hRf, hRl]; exact ⟨Nat.le_of_ble_eq_true rfl, Nat.le_of_ble_eq_true rfl⟩)) hK hP hD hS hA hN [] [0, 1, 2, 3, 4] [0, 1, 2, 3, 4] rfl rfl rfl rfl (by decide) rfl (fun u => rfl) rfl hl.1 rfl (Nat.le_of_ble_eq_true rfl) dX2_append_12 ⟨Nat.zero_le _, Nat.zero_le _⟩ (fun z u H locs hw hP hD hS => ?_)
  have hP : va_P D vwCl [(qu, .inr (2, [.ref ql, .ref qt, .ref qs, .ref qr, .int (iI hd), .int (iI gr), .int (iI wt), .int (iI rt)])), (ql, .inl (cI, 200, .inl (ia le))), (qt, .inl (cI, 200, .inl (ia tr))), (qs, .inl (cI, 200, .inl (ia si))), (qr, .inl (cI, 200, .inl (ia rg)))] H := hP
  have hD : va_D A [(qu, .inr (2, [.ref ql, .ref qt, .ref qs, .ref qr, .int (iI hd), .int (iI gr), .int (iI wt), .int (iI rt)])), (ql, .inl (cI, 200, .inl (ia le))), (qt, .inl (cI, 200, .inl (ia tr))), (qs, .inl (cI, 200, .inl (ia si))), (qr, .inl (cI, 200, .inl (ia rg)))] := hD
  obtain ⟨z_1, ez⟩ : ∃ y : Int, y = z := ⟨_, rfl⟩
  rw [← ez] at hw ⊢
  clear ez
  have w12 : z_1 = ((hd + gr) % (200 : Int)) := hw
  clear hw
  subst w12
  refine lv_istore_n (lv' := [(2, .int (iI ((hd + gr) % (200 : Int)))), (0, .ref qu), (1, .int (iI g))]) hx hb dX2_append_15 rfl hl (by decide) rfl (fun ls hl => ?_)
  refine lv_aload_n hx hb dX2_append_16 rfl (lv_at hl 1 rfl) ?_
  refine va_get (D := D) (ci := 2) (v := .ref qr) (C := RX2) (T := TX2) (N := 8) hx hb hts in_X2_append_X2 hown hK hP 0 rfl rfl 3 (by decide) (hts _ lk_X2_append_3) (fun _ h9 => h9) rfl dX2_append_17 ?_
  refine lv_iload_n hx hb dX2_append_20 rfl (lv_at hl 0 rfl) ?_
  refine lv_iload_n hx hb dX2_append_21 rfl (lv_at hl 2 rfl) ?_
  refine q_iast hx hb hK hP hD hS 4 0 rfl rfl (by omega) (by omega) (by decide) dX2_append_22 (fun H locs hP hD hS => ?_)
  have hP : va_P D vwCl [(qu, .inr (2, [.ref ql, .ref qt, .ref qs, .ref qr, .int (iI hd), .int (iI gr), .int (iI wt), .int (iI rt)])), (ql, .inl (cI, 200, .inl (ia le))), (qt, .inl (cI, 200, .inl (ia tr))), (qs, .inl (cI, 200, .inl (ia si))), (qr, .inl (cI, 200, .inl (ia (uI rg ((hd + gr) % (200 : Int)) g))))] H := hP
  have hD : va_D A [(qu, .inr (2, [.ref ql, .ref qt, .ref qs, .ref qr, .int (iI hd), .int (iI gr), .int (iI wt), .int (iI rt)])), (ql, .inl (cI, 200, .inl (ia le))), (qt, .inl (cI, 200, .inl (ia tr))), (qs, .inl (cI, 200, .inl (ia si))), (qr, .inl (cI, 200, .inl (ia (uI rg ((hd + gr) % (200 : Int)) g))))] := hD
  have hB_2 : BB 0 199 (uI rg ((hd + gr) % (200 : Int)) g) := BB_uI hB_rg (by omega)
  refine lv_aload_n hx hb dX2_append_23 rfl (lv_at hl 1 rfl) ?_
  refine lv_dup hx hb dX2_append_24 rfl ?_
  refine va_get (D := D) (ci := 2) (v := .int (iI gr)) (C := RX2) (T := TX2) (N := 8) hx hb hts in_X2_append_X2 hown hK hP 0 rfl rfl 5 (by decide) (hts _ lk_X2_append_2) (fun _ h9 => h9) rfl dX2_append_25 ?_
  refine lv_iconst (v := iI 1) hx hb dX2_append_28 rfl ?_
  refine q_iadd hx hb dX2_append_29 ?_
  refine va_put (D := D) (ci := 2) (v := .int (iI (gr + 1))) (ty := .int) (C := RX2) (T := TX2) (N := 8) hx hb hts in_X2_append_X2 tyX2 tyX2_ok nmX2 hown hK hP hD hS 0 rfl rfl 5 (by decide) (hts _ lk_X2_append_2) (fun _ h9 => h9) rfl (by decide +kernel) rfl rfl (Nat.le_of_ble_eq_true rfl) dX2_append_30 (fun H locs hP hD hS => ?_)
  have hP : va_P D vwCl [(qu, .inr (2, [.ref ql, .ref qt, .ref qs, .ref qr, .int (iI hd), .int (iI (gr + 1)), .int (iI wt), .int (iI rt)])), (ql, .inl (cI, 200, .inl (ia le))), (qt, .inl (cI, 200, .inl (ia tr))), (qs, .inl (cI, 200, .inl (ia si))), (qr, .inl (cI, 200, .inl (ia (uI rg ((hd + gr) % (200 : Int)) g))))] H := hP
  have hD : va_D A [(qu, .inr (2, [.ref ql, .ref qt, .ref qs, .ref qr, .int (iI hd), .int (iI (gr + 1)), .int (iI wt), .int (iI rt)])), (ql, .inl (cI, 200, .inl (ia le))), (qt, .inl (cI, 200, .inl (ia tr))), (qs, .inl (cI, 200, .inl (ia si))), (qr, .inl (cI, 200, .inl (ia (uI rg ((hd + gr) % (200 : Int)) g))))] := hD
  rw [hQ]
  refine q_retV ((uI rg ((hd + gr) % (200 : Int)) g), (gr + 1)) hx hb hr hlocks hK hP hD hS dX2_append_33 ?_
  try dsimp only
  exact ⟨rfl, rfl, BB_uI hB_rg (by omega)⟩

theorem in_X2_come_X2 : ∀ w ∈ wsX20, w ∈ wsX2_come := fun _ h => List.mem_cons_of_mem _ (List.mem_append_right _ h)
theorem lk_X2_come_1 : Cond.fieldLink RX2 31 "MoreHands$Queue" "waiting" "I" ∈ wsX2_come := List.mem_of_getElem? (i := 1) rfl
theorem lk_X2_come_2 : Cond.fieldLink RX2 34 "MoreHands$Queue" "returning" "I" ∈ wsX2_come := List.mem_of_getElem? (i := 2) rfl
theorem lk_X2_come_3 : Cond.fieldLink RX2 9 "MoreHands$Queue" "left" "[I" ∈ wsX2_come := List.mem_of_getElem? (i := 3) rfl
theorem lk_X2_come_4 : Cond.fieldLink RX2 15 "MoreHands$Queue" "tries" "[I" ∈ wsX2_come := List.mem_of_getElem? (i := 4) rfl
theorem lk_X2_come_5 : Cond.fieldLink RX2 18 "MoreHands$Queue" "since" "[I" ∈ wsX2_come := List.mem_of_getElem? (i := 5) rfl
theorem lk_X2_come_6 : Cond.static yX6_within ∈ wsX2_come := List.mem_of_getElem? (i := 6) rfl
theorem lk_X2_come_7 : Cond.initialized RX6 ∈ wsX2_come := List.mem_of_getElem? (i := 7) rfl
set_option maxHeartbeats 4000000 in
set_option maxRecDepth 100000 in
theorem c_X2_come (l : Launch) (D : va_G) (cI cZ cII : ClassId) (qu : Nat) (ql : Nat) (qt : Nat) (qs : Nat) (qr : Nat) (hd : Int) (gr : Int) (wt : Int) (rt : Int) (le : Int → Int) (tr : Int → Int) (si : Int → Int) (rg : Int → Int) (tk : Int) (lo : Int) (L : List G3) (hB_le : BB 0 60 le) (hB_tr : BB 0 4 tr) (hB_si : BB 0 200 si) (hB_rg : BB 0 199 rg) (hp_tk : 0 ≤ tk ∧ tk ≤ 199) (hp_lo : 0 ≤ lo ∧ lo ≤ 60) (hq : QC le tr si rg hd gr tk L) : CtV l yX2_come wsX2_come 2 44 D (ty3 cI cZ cII) [.ref qu, .int (iI tk), .int (iI lo)] [(qu, .inr (2, [.ref ql, .ref qt, .ref qs, .ref qr, .int (iI hd), .int (iI gr), .int (iI wt), .int (iI rt)])), (ql, .inl (cI, 200, .inl (ia le))), (qt, .inl (cI, 200, .inl (ia tr))), (qs, .inl (cI, 200, .inl (ia si))), (qr, .inl (cI, 200, .inl (ia rg)))] (fun (u : (Int → Int) × (Int → Int) × (Int → Int) × (Int → Int) × Int × Int × Int) => QC u.1 u.2.1 u.2.2.1 u.2.2.2.1 hd u.2.2.2.2.1 (tk + 1) (L ++ (if 0 < lo then [(tk, 1, lo)] else [])) ∧ u.2.2.2.2.2.1 = wt + rt + lo ∧ u.2.2.2.2.2.2 = 0 ∧ BB 0 60 u.1 ∧ BB 0 4 u.2.1 ∧ BB 0 200 u.2.2.1 ∧ BB 0 199 u.2.2.2.1) (fun u => [(qu, .inr (2, [.ref ql, .ref qt, .ref qs, .ref qr, .int (iI hd), .int (iI u.2.2.2.2.1), .int (iI u.2.2.2.2.2.1), .int (iI u.2.2.2.2.2.2)])), (ql, .inl (cI, 200, .inl (ia u.1))), (qt, .inl (cI, 200, .inl (ia u.2.1))), (qs, .inl (cI, 200, .inl (ia u.2.2.1))), (qr, .inl (cI, 200, .inl (ia u.2.2.2.1)))]) := by
  refine CtV.mk (cc := cX2_come) (maxL := 3) (ret := none) (by decide) rfl (Nat.le_of_ble_eq_true rfl) ?_
  intro p e s m below meth c A ls R args Q hx hb hml hr hts hown hlocks hA hK hP hD hN hS hl hRf hRl hQ
  have hl : lv_has ls 3 [(0, .ref qu), (1, .int (iI tk)), (2, .int (iI lo))] := hl
  have hown : s.vm.findClass RX2 = some m.cls := hown
  have hq0 := hq.1
  refine lv_aload_n hx hb dX2_come_0 rfl (lv_at hl 0 rfl) ?_
  refine lv_dup hx hb dX2_come_1 rfl ?_
  refine va_get (D := D) (ci := 2) (v := .int (iI wt)) (C := RX2) (T := TX2) (N := 8) hx hb hts in_X2_come_X2 hown hK hP 0 rfl rfl 6 (by decide) (hts _ lk_X2_come_1) (fun _ h9 => h9) rfl dX2_come_2 ?_
  refine lv_aload_n hx hb dX2_come_5 rfl (lv_at hl 0 rfl) ?_
  refine va_get (D := D) (ci := 2) (v := .int (iI rt)) (C := RX2) (T := TX2) (N := 8) hx hb hts in_X2_come_X2 hown hK hP 0 rfl rfl 7 (by decide) (hts _ lk_X2_come_2) (fun _ h9 => h9) rfl dX2_come_6 ?_
  refine q_iadd hx hb dX2_come_9 ?_
  refine va_put (D := D) (ci := 2) (v := .int (iI (wt + rt))) (ty := .int) (C := RX2) (T := TX2) (N := 8) hx hb hts in_X2_come_X2 tyX2 tyX2_ok nmX2 hown hK hP hD hS 0 rfl rfl 6 (by decide) (hts _ lk_X2_come_1) (fun _ h9 => h9) rfl (by decide +kernel) rfl rfl (Nat.le_of_ble_eq_true rfl) dX2_come_10 (fun H locs hP hD hS => ?_)
  have hP : va_P D vwCl [(qu, .inr (2, [.ref ql, .ref qt, .ref qs, .ref qr, .int (iI hd), .int (iI gr), .int (iI (wt + rt)), .int (iI rt)])), (ql, .inl (cI, 200, .inl (ia le))), (qt, .inl (cI, 200, .inl (ia tr))), (qs, .inl (cI, 200, .inl (ia si))), (qr, .inl (cI, 200, .inl (ia rg)))] H := hP
  have hD : va_D A [(qu, .inr (2, [.ref ql, .ref qt, .ref qs, .ref qr, .int (iI hd), .int (iI gr), .int (iI (wt + rt)), .int (iI rt)])), (ql, .inl (cI, 200, .inl (ia le))), (qt, .inl (cI, 200, .inl (ia tr))), (qs, .inl (cI, 200, .inl (ia si))), (qr, .inl (cI, 200, .inl (ia rg)))] := hD
  refine lv_aload_n hx hb dX2_come_13 rfl (lv_at hl 0 rfl) ?_
  refine lv_iconst (v := iI 0) hx hb dX2_come_14 rfl ?_
  refine va_put (D := D) (ci := 2) (v := .int (iI 0)) (ty := .int) (C := RX2) (T := TX2) (N := 8) hx hb hts in_X2_come_X2 tyX2 tyX2_ok nmX2 hown hK hP hD hS 0 rfl rfl 7 (by decide) (hts _ lk_X2_come_2) (fun _ h9 => h9) rfl (by decide +kernel) rfl rfl (Nat.le_of_ble_eq_true rfl) dX2_come_15 (fun H locs hP hD hS => ?_)
  have hP : va_P D vwCl [(qu, .inr (2, [.ref ql, .ref qt, .ref qs, .ref qr, .int (iI hd), .int (iI gr), .int (iI (wt + rt)), .int (iI 0)])), (ql, .inl (cI, 200, .inl (ia le))), (qt, .inl (cI, 200, .inl (ia tr))), (qs, .inl (cI, 200, .inl (ia si))), (qr, .inl (cI, 200, .inl (ia rg)))] H := hP
  have hD : va_D A [(qu, .inr (2, [.ref ql, .ref qt, .ref qs, .ref qr, .int (iI hd), .int (iI gr), .int (iI (wt + rt)), .int (iI 0)])), (ql, .inl (cI, 200, .inl (ia le))), (qt, .inl (cI, 200, .inl (ia tr))), (qs, .inl (cI, 200, .inl (ia si))), (qr, .inl (cI, 200, .inl (ia rg)))] := hD
  refine lv_iload_n hx hb dX2_come_18 rfl (lv_at hl 1 rfl) ?_
  refine lv_iconst (v := iI 0) hx hb dX2_come_19 rfl ?_
  refine lv_sipush (v := iI 199) hx hb dX2_come_20 (by decide +kernel) ?_
  refine q_callNI (wr := [(qu, .inr (2, [.ref ql, .ref qt, .ref qs, .ref qr, .int (iI hd), .int (iI gr), .int (iI (wt + rt)), .int (iI 0)])), (ql, .inl (cI, 200, .inl (ia le))), (qt, .inl (cI, 200, .inl (ia tr))), (qs, .inl (cI, 200, .inl (ia si))), (qr, .inl (cI, 200, .inl (ia rg)))]) (wn := fun (u : Unit) => [(qu, .inr (2, [.ref ql, .ref qt, .ref qs, .ref qr, .int (iI hd), .int (iI gr), .int (iI (wt + rt)), .int (iI 0)])), (ql, .inl (cI, 200, .inl (ia le))), (qt, .inl (cI, 200, .inl (ia tr))), (qs, .inl (cI, 200, .inl (ia si))), (qr, .inl (cI, 200, .inl (ia rg)))]) (rest := []) [.int (iI tk), .int (iI 0), .int (iI 199)] ⟨hx, hb, hml, hown, hts⟩ (c_X6_within l D cI cZ cII tk 0 199 ⟨by omega, by omega⟩ ⟨by omega, by omega⟩ ⟨by omega, by omega⟩) ⟨va_cnB 3 hts gX2_come_X6_within_n37 rfl rfl rfl hN.2.2.2.1 (hts _ lk_X2_come_7) (by decide +kernel) (by rw [hRf, hRl]; exact ⟨Nat.le_of_ble_eq_true rfl, Nat.le_of_ble_eq_true rfl⟩), (hts _ lk_X2_come_6), trivial⟩ hK hP hD hS hA hN [] [0, 1, 2, 3, 4] [0, 1, 2, 3, 4] rfl rfl rfl rfl (by decide) rfl (fun u => rfl) rfl hl.1 rfl (Nat.le_of_ble_eq_true rfl) dX2_come_23 ⟨Nat.zero_le _, Nat.zero_le _⟩ (fun z u H locs hw hP hD hS => ?_)
  have hP : va_P D vwCl [(qu, .inr (2, [.ref ql, .ref qt, .ref qs, .ref qr, .int (iI hd), .int (iI gr), .int (iI (wt + rt)), .int (iI 0)])), (ql, .inl (cI, 200, .inl (ia le))), (qt, .inl (cI, 200, .inl (ia tr))), (qs, .inl (cI, 200, .inl (ia si))), (qr, .inl (cI, 200, .inl (ia rg)))] H := hP
  have hD : va_D A [(qu, .inr (2, [.ref ql, .ref qt, .ref qs, .ref qr, .int (iI hd), .int (iI gr), .int (iI (wt + rt)), .int (iI 0)])), (ql, .inl (cI, 200, .inl (ia le))), (qt, .inl (cI, 200, .inl (ia tr))), (qs, .inl (cI, 200, .inl (ia si))), (qr, .inl (cI, 200, .inl (ia rg)))] := hD
  obtain ⟨z_1, ez⟩ : ∃ y : Int, y = z := ⟨_, rfl⟩
  rw [← ez] at hw ⊢
  clear ez
  rcases hw with ⟨rfl, w23⟩ | ⟨rfl, w23⟩
  ·
    refine q_if_eq (tgt := 69) hx hb dX2_come_26 (by decide) ⟨by decide, by decide⟩ (fun h => absurd h (by decide)) (fun _ => ?_)
    refine lv_iload_n hx hb dX2_come_29 rfl (lv_at hl 2 rfl) ?_
    refine q_if_le (tgt := 69) hx hb dX2_come_30 (by decide) ⟨by omega, by omega⟩ (fun c30 => ?_) (fun c30 => ?_)
    ·
      rw [hQ]
      refine q_retV (le, tr, si, rg, gr, (wt + rt), 0) hx hb hr hlocks hK hP hD hS dX2_come_69 ?_
      try dsimp only
      first | omega | (refine ⟨?_, by omega, rfl, hB_le, hB_tr, hB_si, hB_rg⟩; rw [if_neg (by omega), List.append_nil]; exact hq.later (by omega) (by omega)) | (refine ⟨?_, by omega, rfl, BB_uI hB_le (by omega), BB_uI hB_tr (by omega), BB_uI hB_si (by omega), by assumption⟩; rw [if_pos (by omega), e56, f56]; exact hq.come (by omega) (by omega) (by omega))
    ·
      refine lv_aload_n hx hb dX2_come_33 rfl (lv_at hl 0 rfl) ?_
      refine va_get (D := D) (ci := 2) (v := .ref ql) (C := RX2) (T := TX2) (N := 8) hx hb hts in_X2_come_X2 hown hK hP 0 rfl rfl 0 (by decide) (hts _ lk_X2_come_3) (fun _ h9 => h9) rfl dX2_come_34 ?_
      refine lv_iload_n hx hb dX2_come_37 rfl (lv_at hl 1 rfl) ?_
      refine lv_iload_n hx hb dX2_come_38 rfl (lv_at hl 2 rfl) ?_
      refine q_iast hx hb hK hP hD hS 1 0 rfl rfl (by omega) (by omega) (by decide) dX2_come_39 (fun H locs hP hD hS => ?_)
      have hP : va_P D vwCl [(qu, .inr (2, [.ref ql, .ref qt, .ref qs, .ref qr, .int (iI hd), .int (iI gr), .int (iI (wt + rt)), .int (iI 0)])), (ql, .inl (cI, 200, .inl (ia (uI le tk lo)))), (qt, .inl (cI, 200, .inl (ia tr))), (qs, .inl (cI, 200, .inl (ia si))), (qr, .inl (cI, 200, .inl (ia rg)))] H := hP
      have hD : va_D A [(qu, .inr (2, [.ref ql, .ref qt, .ref qs, .ref qr, .int (iI hd), .int (iI gr), .int (iI (wt + rt)), .int (iI 0)])), (ql, .inl (cI, 200, .inl (ia (uI le tk lo)))), (qt, .inl (cI, 200, .inl (ia tr))), (qs, .inl (cI, 200, .inl (ia si))), (qr, .inl (cI, 200, .inl (ia rg)))] := hD
      have hB_2 : BB 0 60 (uI le tk lo) := BB_uI hB_le (by omega)
      refine lv_aload_n hx hb dX2_come_40 rfl (lv_at hl 0 rfl) ?_
      refine va_get (D := D) (ci := 2) (v := .ref qt) (C := RX2) (T := TX2) (N := 8) hx hb hts in_X2_come_X2 hown hK hP 0 rfl rfl 1 (by decide) (hts _ lk_X2_come_4) (fun _ h9 => h9) rfl dX2_come_41 ?_
      refine lv_iload_n hx hb dX2_come_44 rfl (lv_at hl 1 rfl) ?_
      refine lv_iconst (v := iI 1) hx hb dX2_come_45 rfl ?_
      refine q_iast hx hb hK hP hD hS 2 0 rfl rfl (by omega) (by omega) (by decide) dX2_come_46 (fun H locs hP hD hS => ?_)
      have hP : va_P D vwCl [(qu, .inr (2, [.ref ql, .ref qt, .ref qs, .ref qr, .int (iI hd), .int (iI gr), .int (iI (wt + rt)), .int (iI 0)])), (ql, .inl (cI, 200, .inl (ia (uI le tk lo)))), (qt, .inl (cI, 200, .inl (ia (uI tr tk 1)))), (qs, .inl (cI, 200, .inl (ia si))), (qr, .inl (cI, 200, .inl (ia rg)))] H := hP
      have hD : va_D A [(qu, .inr (2, [.ref ql, .ref qt, .ref qs, .ref qr, .int (iI hd), .int (iI gr), .int (iI (wt + rt)), .int (iI 0)])), (ql, .inl (cI, 200, .inl (ia (uI le tk lo)))), (qt, .inl (cI, 200, .inl (ia (uI tr tk 1)))), (qs, .inl (cI, 200, .inl (ia si))), (qr, .inl (cI, 200, .inl (ia rg)))] := hD
      have hB_3 : BB 0 4 (uI tr tk 1) := BB_uI hB_tr (by omega)
      refine lv_aload_n hx hb dX2_come_47 rfl (lv_at hl 0 rfl) ?_
      refine va_get (D := D) (ci := 2) (v := .ref qs) (C := RX2) (T := TX2) (N := 8) hx hb hts in_X2_come_X2 hown hK hP 0 rfl rfl 2 (by decide) (hts _ lk_X2_come_5) (fun _ h9 => h9) rfl dX2_come_48 ?_
      refine lv_iload_n hx hb dX2_come_51 rfl (lv_at hl 1 rfl) ?_
      refine lv_iload_n hx hb dX2_come_52 rfl (lv_at hl 1 rfl) ?_
      refine q_iast hx hb hK hP hD hS 3 0 rfl rfl (by omega) (by omega) (by decide) dX2_come_53 (fun H locs hP hD hS => ?_)
      have hP : va_P D vwCl [(qu, .inr (2, [.ref ql, .ref qt, .ref qs, .ref qr, .int (iI hd), .int (iI gr), .int (iI (wt + rt)), .int (iI 0)])), (ql, .inl (cI, 200, .inl (ia (uI le tk lo)))), (qt, .inl (cI, 200, .inl (ia (uI tr tk 1)))), (qs, .inl (cI, 200, .inl (ia (uI si tk tk)))), (qr, .inl (cI, 200, .inl (ia rg)))] H := hP
      have hD : va_D A [(qu, .inr (2, [.ref ql, .ref qt, .ref qs, .ref qr, .int (iI hd), .int (iI gr), .int (iI (wt + rt)), .int (iI 0)])), (ql, .inl (cI, 200, .inl (ia (uI le tk lo)))), (qt, .inl (cI, 200, .inl (ia (uI tr tk 1)))), (qs, .inl (cI, 200, .inl (ia (uI si tk tk)))), (qr, .inl (cI, 200, .inl (ia rg)))] := hD
      have hB_4 : BB 0 200 (uI si tk tk) := BB_uI hB_si (by omega)
      refine lv_aload_n hx hb dX2_come_54 rfl (lv_at hl 0 rfl) ?_
      refine lv_iload_n hx hb dX2_come_55 rfl (lv_at hl 1 rfl) ?_
      refine q_callVV (wr := []) (wn := fun (u : (Int → Int) × Int) => [(qu, .inr (2, [.ref ql, .ref qt, .ref qs, .ref qr, .int (iI hd), .int (iI u.2), .int (iI (wt + rt)), .int (iI 0)])), (ql, .inl (cI, 200, .inl (ia (uI le tk lo)))), (qt, .inl (cI, 200, .inl (ia (uI tr tk 1)))), (qs, .inl (cI, 200, .inl (ia (uI si tk tk)))), (qr, .inl (cI, 200, .inl (ia u.1)))]) (rest := []) [.int (iI tk)] ⟨hx, hb, hml, hown, hts⟩ (c_X2_append l D cI cZ cII qu ql qt qs qr hd gr (wt + rt) 0 (uI le tk lo) (uI tr tk 1) (uI si tk tk) rg tk hB_2 hB_3 hB_4 hB_rg (by omega) (by omega) (by omega)) (cwV 1 hts gX2_come_X2_append rfl rfl rfl (by decide +kernel) (by rw [hRf, hRl]; exact ⟨Nat.le_of_ble_eq_true rfl, Nat.le_of_ble_eq_true rfl⟩)) hK hP hD hS hA hN [0, 1, 2, 3, 4] [] [0, 1, 2, 3, 4] 0 2 rfl rfl rfl rfl rfl rfl (by decide) rfl (fun u => rfl) rfl hl.1 rfl (Nat.le_of_ble_eq_true rfl) dX2_come_56 ⟨Nat.zero_le _, Nat.zero_le _⟩ (fun u H locs hw hP hD hS => ?_)
      obtain ⟨rg_5, gr_6⟩ := u
      try dsimp only at hw
      have hP : va_P D vwCl [(qu, .inr (2, [.ref ql, .ref qt, .ref qs, .ref qr, .int (iI hd), .int (iI gr_6), .int (iI (wt + rt)), .int (iI 0)])), (ql, .inl (cI, 200, .inl (ia (uI le tk lo)))), (qt, .inl (cI, 200, .inl (ia (uI tr tk 1)))), (qs, .inl (cI, 200, .inl (ia (uI si tk tk)))), (qr, .inl (cI, 200, .inl (ia rg_5)))] H := hP
      have hD : va_D A [(qu, .inr (2, [.ref ql, .ref qt, .ref qs, .ref qr, .int (iI hd), .int (iI gr_6), .int (iI (wt + rt)), .int (iI 0)])), (ql, .inl (cI, 200, .inl (ia (uI le tk lo)))), (qt, .inl (cI, 200, .inl (ia (uI tr tk 1)))), (qs, .inl (cI, 200, .inl (ia (uI si tk tk)))), (qr, .inl (cI, 200, .inl (ia rg_5)))] := hD
      obtain ⟨e56, f56, hB_rg_5⟩ := hw
      refine lv_aload_n hx hb dX2_come_59 rfl (lv_at hl 0 rfl) ?_
      refine lv_dup hx hb dX2_come_60 rfl ?_
      refine va_get (D := D) (ci := 2) (v := .int (iI (wt + rt))) (C := RX2) (T := TX2) (N := 8) hx hb hts in_X2_come_X2 hown hK hP 0 rfl rfl 6 (by decide) (hts _ lk_X2_come_1) (fun _ h9 => h9) rfl dX2_come_61 ?_
      refine lv_iload_n hx hb dX2_come_64 rfl (lv_at hl 2 rfl) ?_
      refine q_iadd hx hb dX2_come_65 ?_
      refine va_put (D := D) (ci := 2) (v := .int (iI ((wt + rt) + lo))) (ty := .int) (C := RX2) (T := TX2) (N := 8) hx hb hts in_X2_come_X2 tyX2 tyX2_ok nmX2 hown hK hP hD hS 0 rfl rfl 6 (by decide) (hts _ lk_X2_come_1) (fun _ h9 => h9) rfl (by decide +kernel) rfl rfl (Nat.le_of_ble_eq_true rfl) dX2_come_66 (fun H locs hP hD hS => ?_)
      have hP : va_P D vwCl [(qu, .inr (2, [.ref ql, .ref qt, .ref qs, .ref qr, .int (iI hd), .int (iI gr_6), .int (iI ((wt + rt) + lo)), .int (iI 0)])), (ql, .inl (cI, 200, .inl (ia (uI le tk lo)))), (qt, .inl (cI, 200, .inl (ia (uI tr tk 1)))), (qs, .inl (cI, 200, .inl (ia (uI si tk tk)))), (qr, .inl (cI, 200, .inl (ia rg_5)))] H := hP
      have hD : va_D A [(qu, .inr (2, [.ref ql, .ref qt, .ref qs, .ref qr, .int (iI hd), .int (iI gr_6), .int (iI ((wt + rt) + lo)), .int (iI 0)])), (ql, .inl (cI, 200, .inl (ia (uI le tk lo)))), (qt, .inl (cI, 200, .inl (ia (uI tr tk 1)))), (qs, .inl (cI, 200, .inl (ia (uI si tk tk)))), (qr, .inl (cI, 200, .inl (ia rg_5)))] := hD
      rw [hQ]
      refine q_retV ((uI le tk lo), (uI tr tk 1), (uI si tk tk), rg_5, gr_6, ((wt + rt) + lo), 0) hx hb hr hlocks hK hP hD hS dX2_come_69 ?_
      try dsimp only
      first | omega | (refine ⟨?_, by omega, rfl, hB_le, hB_tr, hB_si, hB_rg⟩; rw [if_neg (by omega), List.append_nil]; exact hq.later (by omega) (by omega)) | (refine ⟨?_, by omega, rfl, BB_uI hB_le (by omega), BB_uI hB_tr (by omega), BB_uI hB_si (by omega), by assumption⟩; rw [if_pos (by omega), e56, f56]; exact hq.come (by omega) (by omega) (by omega))
  ·
    refine q_if_eq (tgt := 69) hx hb dX2_come_26 (by decide) ⟨by decide, by decide⟩ (fun _ => ?_) (fun h => absurd h (by decide))
    rw [hQ]
    refine q_retV (le, tr, si, rg, gr, (wt + rt), 0) hx hb hr hlocks hK hP hD hS dX2_come_69 ?_
    try dsimp only
    first | omega | (refine ⟨?_, by omega, rfl, hB_le, hB_tr, hB_si, hB_rg⟩; rw [if_neg (by omega), List.append_nil]; exact hq.later (by omega) (by omega)) | (refine ⟨?_, by omega, rfl, BB_uI hB_le (by omega), BB_uI hB_tr (by omega), BB_uI hB_si (by omega), by assumption⟩; rw [if_pos (by omega), e56, f56]; exact hq.come (by omega) (by omega) (by omega))

theorem in_X2_serve_X2 : ∀ w ∈ wsX20, w ∈ wsX2_serve := fun _ h => List.mem_cons_of_mem _ (List.mem_append_right _ h)
theorem lk_X2_serve_1 : Cond.fieldLink RX2 28 "MoreHands$Queue" "groups" "I" ∈ wsX2_serve := List.mem_of_getElem? (i := 1) rfl
theorem lk_X2_serve_2 : Cond.fieldLink RX2 9 "MoreHands$Queue" "left" "[I" ∈ wsX2_serve := List.mem_of_getElem? (i := 2) rfl
theorem lk_X2_serve_3 : Cond.methodLink RX2 49 Lib.Math.min.name ∈ wsX2_serve := List.mem_of_getElem? (i := 3) rfl
theorem lk_X2_serve_4 : Cond.static Lib.Math.min.name ∈ wsX2_serve := List.mem_of_getElem? (i := 4) rfl
theorem lk_X2_serve_5 : Cond.initialized "java/lang/Math" ∈ wsX2_serve := List.mem_of_getElem? (i := 5) rfl
theorem lk_X2_serve_6 : Cond.code Lib.Math.min.name Lib.Math.min.code 2 (some .int) ∈ wsX2_serve := List.mem_of_getElem? (i := 6) rfl
theorem lk_X2_serve_7 : Cond.fieldLink RX2 31 "MoreHands$Queue" "waiting" "I" ∈ wsX2_serve := List.mem_of_getElem? (i := 7) rfl
set_option maxHeartbeats 4000000 in
set_option maxRecDepth 100000 in
theorem c_X2_serve (l : Launch) (D : va_G) (cI cZ cII : ClassId) (qu : Nat) (ql : Nat) (qt : Nat) (qs : Nat) (qr : Nat) (hd : Int) (gr : Int) (wt : Int) (rt : Int) (le : Int → Int) (tr : Int → Int) (si : Int → Int) (rg : Int → Int) (cap : Int) (ti : Int) (L : List G3) (hB_le : BB 0 60 le) (hB_tr : BB 0 4 tr) (hB_si : BB 0 200 si) (hB_rg : BB 0 199 rg) (hp_cap : 0 ≤ cap ∧ cap ≤ 1000) (hq : QC le tr si rg hd gr ti L) : CtI l yX2_serve wsX2_serve 2 42 D (ty3 cI cZ cII) [.ref qu, .int (iI cap)] [(qu, .inr (2, [.ref ql, .ref qt, .ref qs, .ref qr, .int (iI hd), .int (iI gr), .int (iI wt), .int (iI rt)])), (ql, .inl (cI, 200, .inl (ia le))), (qt, .inl (cI, 200, .inl (ia tr))), (qs, .inl (cI, 200, .inl (ia si))), (qr, .inl (cI, 200, .inl (ia rg)))] (fun z (u : (Int → Int) × Int × Int × Int) => z = cap - (srv cap L).2 ∧ u.2.2.2 = wt - (cap - (srv cap L).2) ∧ QC u.1 tr si rg u.2.1 u.2.2.1 ti (srv cap L).1 ∧ BB 0 60 u.1) (fun u => [(qu, .inr (2, [.ref ql, .ref qt, .ref qs, .ref qr, .int (iI u.2.1), .int (iI u.2.2.1), .int (iI u.2.2.2), .int (iI rt)])), (ql, .inl (cI, 200, .inl (ia u.1))), (qt, .inl (cI, 200, .inl (ia tr))), (qs, .inl (cI, 200, .inl (ia si))), (qr, .inl (cI, 200, .inl (ia rg)))]) := by
  refine CtI.mk (cc := cX2_serve) (maxL := 6) (ret := (some .int)) (by decide) rfl (Nat.le_of_ble_eq_true rfl) ?_
  intro p e s m below meth c A ls R args Q hx hb hml hr hts hown hlocks hA hK hP hD hN hS hl hRf hRl hQ
  have hl : lv_has ls 6 [(0, .ref qu), (1, .int (iI cap))] := hl
  have hown : s.vm.findClass RX2 = some m.cls := hown
  have hq0 := hq.1
  refine lv_iload_n hx hb dX2_serve_0 rfl (lv_at hl 1 rfl) ?_
  refine lv_istore_n (lv' := [(2, .int (iI cap)), (0, .ref qu), (1, .int (iI cap))]) hx hb dX2_serve_1 rfl hl (by decide) rfl (fun ls hl => ?_)
  refine lv_aload_n hx hb dX2_serve_2 rfl (lv_at hl 1 rfl) ?_
  refine va_get (D := D) (ci := 2) (v := .int (iI gr)) (C := RX2) (T := TX2) (N := 8) hx hb hts in_X2_serve_X2 hown hK hP 0 rfl rfl 5 (by decide) (hts _ lk_X2_serve_1) (fun _ h9 => h9) rfl dX2_serve_3 ?_
  refine lv_istore_n (lv' := [(3, .int (iI gr)), (2, .int (iI cap)), (0, .ref qu), (1, .int (iI cap))]) hx hb dX2_serve_6 rfl hl (by decide) rfl (fun ls hl => ?_)
  have L7_0 : ∀ (n : Nat), ∀ (re : Int) (nn : Int) (le1 : Int → Int) (hd1 : Int) (gr1 : Int) (L1 : List G3), (hB_le1 : BB 0 60 le1) → (hq1 : QC le1 tr si rg hd1 gr1 ti L1) → (hs : srv re L1 = srv cap L) → (hre : 0 ≤ re ∧ re ≤ cap) → (hn : 0 ≤ nn ∧ nn ≤ gr1 ∧ (0 < re → nn = gr1)) → (nn) < (n : Int) → ∀ (H : Heap) (locs : List Loc), va_P D vwCl [(qu, .inr (2, [.ref ql, .ref qt, .ref qs, .ref qr, .int (iI hd1), .int (iI gr1), .int (iI wt), .int (iI rt)])), (ql, .inl (cI, 200, .inl (ia le1))), (qt, .inl (cI, 200, .inl (ia tr))), (qs, .inl (cI, 200, .inl (ia si))), (qr, .inl (cI, 200, .inl (ia rg)))] H → va_D A [(qu, .inr (2, [.ref ql, .ref qt, .ref qs, .ref qr, .int (iI hd1), .int (iI gr1), .int (iI wt), .int (iI rt)])), (ql, .inl (cI, 200, .inl (ia le1))), (qt, .inl (cI, 200, .inl (ia tr))), (qs, .inl (cI, 200, .inl (ia si))), (qr, .inl (cI, 200, .inl (ia rg)))] → va_S A s.heap H locs → ∀ ls : Array Slot, lv_has ls 6 [(0, .ref qu), (1, .int (iI cap)), (2, .int (iI re)), (3, .int (iI nn))] → W p l e R s m args below meth c H locs 0 0 Q (F0 m 7 ls []) := by
    intro n
    induction n with
    | zero => intro re nn le1 hd1 gr1 L1 hB_le1 hq1 hs hre hn hm; exact absurd hm (by omega)
    | succ n ih =>
      intro re nn le1 hd1 gr1 L1 hB_le1 hq1 hs hre hn hm H locs hP hD hS ls hl
      have hq3 := hq1.1
      refine lv_iload_n hx hb dX2_serve_7 rfl (lv_at hl 3 rfl) ?_
      refine q_if_le (tgt := 71) hx hb dX2_serve_8 (by decide) ⟨by omega, by omega⟩ (fun c8 => ?_) (fun c8 => ?_)
      ·
        refine lv_aload_n hx hb dX2_serve_71 rfl (lv_at hl 0 rfl) ?_
        refine lv_dup hx hb dX2_serve_72 rfl ?_
        refine va_get (D := D) (ci := 2) (v := .int (iI wt)) (C := RX2) (T := TX2) (N := 8) hx hb hts in_X2_serve_X2 hown hK hP 0 rfl rfl 6 (by decide) (hts _ lk_X2_serve_7) (fun _ h9 => h9) rfl dX2_serve_73 ?_
        refine lv_iload_n hx hb dX2_serve_76 rfl (lv_at hl 1 rfl) ?_
        refine lv_iload_n hx hb dX2_serve_77 rfl (lv_at hl 2 rfl) ?_
        refine q_isub hx hb dX2_serve_78 ?_
        refine q_isub hx hb dX2_serve_79 ?_
        refine va_put (D := D) (ci := 2) (v := .int (iI (wt - (cap - re)))) (ty := .int) (C := RX2) (T := TX2) (N := 8) hx hb hts in_X2_serve_X2 tyX2 tyX2_ok nmX2 hown hK hP hD hS 0 rfl rfl 6 (by decide) (hts _ lk_X2_serve_7) (fun _ h9 => h9) rfl (by decide +kernel) rfl rfl (Nat.le_of_ble_eq_true rfl) dX2_serve_80 (fun H locs hP hD hS => ?_)
        have hP : va_P D vwCl [(qu, .inr (2, [.ref ql, .ref qt, .ref qs, .ref qr, .int (iI hd1), .int (iI gr1), .int (iI (wt - (cap - re))), .int (iI rt)])), (ql, .inl (cI, 200, .inl (ia le1))), (qt, .inl (cI, 200, .inl (ia tr))), (qs, .inl (cI, 200, .inl (ia si))), (qr, .inl (cI, 200, .inl (ia rg)))] H := hP
        have hD : va_D A [(qu, .inr (2, [.ref ql, .ref qt, .ref qs, .ref qr, .int (iI hd1), .int (iI gr1), .int (iI (wt - (cap - re))), .int (iI rt)])), (ql, .inl (cI, 200, .inl (ia le1))), (qt, .inl (cI, 200, .inl (ia tr))), (qs, .inl (cI, 200, .inl (ia si))), (qr, .inl (cI, 200, .inl (ia rg)))] := hD
        refine lv_iload_n hx hb dX2_serve_83 rfl (lv_at hl 1 rfl) ?_
        refine lv_iload_n hx hb dX2_serve_84 rfl (lv_at hl 2 rfl) ?_
        refine q_isub hx hb dX2_serve_85 ?_
        rw [hQ]
        refine q_retI (le1, hd1, gr1, (wt - (cap - re))) hx hb hr hlocks hK hP hD hS dX2_serve_86 ?_
        try dsimp only
        have hfin : srv re L1 = (L1, re) := by
          by_cases q : re ≤ 0
          · exact srv_0 q L1
          · have hl := hq1.len
            have : L1 = [] := List.length_eq_zero_iff.mp (by omega)
            rw [this]; rfl
        rw [hfin] at hs
        rw [← hs]
        exact ⟨rfl, rfl, hq1, hB_le1⟩
      ·
        refine lv_iload_n hx hb dX2_serve_11 rfl (lv_at hl 2 rfl) ?_
        refine q_if_le (tgt := 71) hx hb dX2_serve_12 (by decide) ⟨by omega, by omega⟩ (fun c12 => ?_) (fun c12 => ?_)
        ·
          refine lv_aload_n hx hb dX2_serve_71 rfl (lv_at hl 0 rfl) ?_
          refine lv_dup hx hb dX2_serve_72 rfl ?_
          refine va_get (D := D) (ci := 2) (v := .int (iI wt)) (C := RX2) (T := TX2) (N := 8) hx hb hts in_X2_serve_X2 hown hK hP 0 rfl rfl 6 (by decide) (hts _ lk_X2_serve_7) (fun _ h9 => h9) rfl dX2_serve_73 ?_
          refine lv_iload_n hx hb dX2_serve_76 rfl (lv_at hl 1 rfl) ?_
          refine lv_iload_n hx hb dX2_serve_77 rfl (lv_at hl 2 rfl) ?_
          refine q_isub hx hb dX2_serve_78 ?_
          refine q_isub hx hb dX2_serve_79 ?_
          refine va_put (D := D) (ci := 2) (v := .int (iI (wt - (cap - re)))) (ty := .int) (C := RX2) (T := TX2) (N := 8) hx hb hts in_X2_serve_X2 tyX2 tyX2_ok nmX2 hown hK hP hD hS 0 rfl rfl 6 (by decide) (hts _ lk_X2_serve_7) (fun _ h9 => h9) rfl (by decide +kernel) rfl rfl (Nat.le_of_ble_eq_true rfl) dX2_serve_80 (fun H locs hP hD hS => ?_)
          have hP : va_P D vwCl [(qu, .inr (2, [.ref ql, .ref qt, .ref qs, .ref qr, .int (iI hd1), .int (iI gr1), .int (iI (wt - (cap - re))), .int (iI rt)])), (ql, .inl (cI, 200, .inl (ia le1))), (qt, .inl (cI, 200, .inl (ia tr))), (qs, .inl (cI, 200, .inl (ia si))), (qr, .inl (cI, 200, .inl (ia rg)))] H := hP
          have hD : va_D A [(qu, .inr (2, [.ref ql, .ref qt, .ref qs, .ref qr, .int (iI hd1), .int (iI gr1), .int (iI (wt - (cap - re))), .int (iI rt)])), (ql, .inl (cI, 200, .inl (ia le1))), (qt, .inl (cI, 200, .inl (ia tr))), (qs, .inl (cI, 200, .inl (ia si))), (qr, .inl (cI, 200, .inl (ia rg)))] := hD
          refine lv_iload_n hx hb dX2_serve_83 rfl (lv_at hl 1 rfl) ?_
          refine lv_iload_n hx hb dX2_serve_84 rfl (lv_at hl 2 rfl) ?_
          refine q_isub hx hb dX2_serve_85 ?_
          rw [hQ]
          refine q_retI (le1, hd1, gr1, (wt - (cap - re))) hx hb hr hlocks hK hP hD hS dX2_serve_86 ?_
          try dsimp only
          have hfin : srv re L1 = (L1, re) := by
            by_cases q : re ≤ 0
            · exact srv_0 q L1
            · have hl := hq1.len
              have : L1 = [] := List.length_eq_zero_iff.mp (by omega)
              rw [this]; rfl
          rw [hfin] at hs
          rw [← hs]
          exact ⟨rfl, rfl, hq1, hB_le1⟩
        ·
          obtain ⟨Lp, ep, qp, hbp, hnp, hlp⟩ := hq1.pop (by omega)
          refine lv_aload_n hx hb dX2_serve_15 rfl (lv_at hl 0 rfl) ?_
          refine q_callVI (wr := []) (wn := fun (u : Unit) => [(qu, .inr (2, [.ref ql, .ref qt, .ref qs, .ref qr, .int (iI hd1), .int (iI gr1), .int (iI wt), .int (iI rt)])), (ql, .inl (cI, 200, .inl (ia le1))), (qt, .inl (cI, 200, .inl (ia tr))), (qs, .inl (cI, 200, .inl (ia si))), (qr, .inl (cI, 200, .inl (ia rg)))]) (rest := []) [] ⟨hx, hb, hml, hown, hts⟩ (c_X2_first l D cI cZ cII qu ql qt qs qr hd1 gr1 wt rt le1 tr si rg hB_le1 hB_tr hB_si hB_rg (by omega)) (cwV 0 hts gX2_serve_X2_first rfl rfl rfl (by decide +kernel) (by rw [hRf, hRl]; exact ⟨Nat.le_of_ble_eq_true rfl, Nat.le_of_ble_eq_true rfl⟩)) hK hP hD hS hA hN [0, 1, 2, 3, 4] [] [0, 1, 2, 3, 4] 0 2 rfl rfl rfl rfl rfl rfl (by decide) rfl (fun u => rfl) rfl hl.1 rfl (Nat.le_of_ble_eq_true rfl) dX2_serve_16 ⟨Nat.zero_le _, Nat.zero_le _⟩ (fun z u H locs hw hP hD hS => ?_)
          have hP : va_P D vwCl [(qu, .inr (2, [.ref ql, .ref qt, .ref qs, .ref qr, .int (iI hd1), .int (iI gr1), .int (iI wt), .int (iI rt)])), (ql, .inl (cI, 200, .inl (ia le1))), (qt, .inl (cI, 200, .inl (ia tr))), (qs, .inl (cI, 200, .inl (ia si))), (qr, .inl (cI, 200, .inl (ia rg)))] H := hP
          have hD : va_D A [(qu, .inr (2, [.ref ql, .ref qt, .ref qs, .ref qr, .int (iI hd1), .int (iI gr1), .int (iI wt), .int (iI rt)])), (ql, .inl (cI, 200, .inl (ia le1))), (qt, .inl (cI, 200, .inl (ia tr))), (qs, .inl (cI, 200, .inl (ia si))), (qr, .inl (cI, 200, .inl (ia rg)))] := hD
          obtain ⟨z_1, ez⟩ : ∃ y : Int, y = z := ⟨_, rfl⟩
          rw [← ez] at hw ⊢
          clear ez
          have w16 : z_1 = (rg hd1) := hw
          clear hw
          subst w16
          refine lv_istore (lv' := [(4, .int (iI (rg hd1))), (0, .ref qu), (1, .int (iI cap)), (2, .int (iI re)), (3, .int (iI nn))]) hx hb dX2_serve_19 hl (by decide) rfl (fun ls hl => ?_)
          refine lv_aload_n hx hb dX2_serve_21 rfl (lv_at hl 1 rfl) ?_
          refine va_get (D := D) (ci := 2) (v := .ref ql) (C := RX2) (T := TX2) (N := 8) hx hb hts in_X2_serve_X2 hown hK hP 0 rfl rfl 0 (by decide) (hts _ lk_X2_serve_2) (fun _ h9 => h9) rfl dX2_serve_22 ?_
          refine lv_iload hx hb dX2_serve_25 (lv_at hl 0 rfl) ?_
          refine q_iald hx hb hK hP 1 0 rfl rfl (by omega) (by omega) (by decide) dX2_serve_27 ?_
          have hb27 := hB_le1 (rg hd1)
          refine lv_iload_n hx hb dX2_serve_28 rfl (lv_at hl 3 rfl) ?_
          refine va_mmin hx hb (hml.trans hl.1.symm) hown (hts _ lk_X2_serve_3) (hts _ lk_X2_serve_4) (hts _ lk_X2_serve_5) (hts _ lk_X2_serve_6) (by rw [hRf]; decide) (by rw [hRl]; exact Nat.le_of_ble_eq_true rfl) (Nat.zero_le _) (Nat.zero_le _) dX2_serve_29 ?_
          refine q_bits (b := (min (le1 (rg hd1)) re)) (iI_min ⟨by omega, by omega⟩ ⟨by omega, by omega⟩) ?_
          refine lv_istore (lv' := [(5, .int (iI (min (le1 (rg hd1)) re))), (4, .int (iI (rg hd1))), (0, .ref qu), (1, .int (iI cap)), (2, .int (iI re)), (3, .int (iI nn))]) hx hb dX2_serve_32 hl (by decide) rfl (fun ls hl => ?_)
          refine lv_aload_n hx hb dX2_serve_34 rfl (lv_at hl 2 rfl) ?_
          refine va_get (D := D) (ci := 2) (v := .ref ql) (C := RX2) (T := TX2) (N := 8) hx hb hts in_X2_serve_X2 hown hK hP 0 rfl rfl 0 (by decide) (hts _ lk_X2_serve_2) (fun _ h9 => h9) rfl dX2_serve_35 ?_
          refine lv_iload hx hb dX2_serve_38 (lv_at hl 1 rfl) ?_
          refine lv_dup2_11 hx hb dX2_serve_40 rfl rfl ?_
          refine q_iald hx hb hK hP 1 0 rfl rfl (by omega) (by omega) (by decide) dX2_serve_41 ?_
          have hb41 := hB_le1 (rg hd1)
          refine lv_iload hx hb dX2_serve_42 (lv_at hl 0 rfl) ?_
          refine q_isub hx hb dX2_serve_44 ?_
          refine q_iast hx hb hK hP hD hS 1 0 rfl rfl (by omega) (by omega) (by decide) dX2_serve_45 (fun H locs hP hD hS => ?_)
          have hP : va_P D vwCl [(qu, .inr (2, [.ref ql, .ref qt, .ref qs, .ref qr, .int (iI hd1), .int (iI gr1), .int (iI wt), .int (iI rt)])), (ql, .inl (cI, 200, .inl (ia (uI le1 (rg hd1) ((le1 (rg hd1)) - (min (le1 (rg hd1)) re)))))), (qt, .inl (cI, 200, .inl (ia tr))), (qs, .inl (cI, 200, .inl (ia si))), (qr, .inl (cI, 200, .inl (ia rg)))] H := hP
          have hD : va_D A [(qu, .inr (2, [.ref ql, .ref qt, .ref qs, .ref qr, .int (iI hd1), .int (iI gr1), .int (iI wt), .int (iI rt)])), (ql, .inl (cI, 200, .inl (ia (uI le1 (rg hd1) ((le1 (rg hd1)) - (min (le1 (rg hd1)) re)))))), (qt, .inl (cI, 200, .inl (ia tr))), (qs, .inl (cI, 200, .inl (ia si))), (qr, .inl (cI, 200, .inl (ia rg)))] := hD
          have hB_2 : BB 0 60 (uI le1 (rg hd1) ((le1 (rg hd1)) - (min (le1 (rg hd1)) re))) := BB_uI hB_le1 (by omega)
          refine lv_iload_n hx hb dX2_serve_46 rfl (lv_at hl 4 rfl) ?_
          refine lv_iload hx hb dX2_serve_47 (lv_at hl 0 rfl) ?_
          refine q_isub hx hb dX2_serve_49 ?_
          refine lv_istore_n (lv' := [(2, .int (iI (re - (min (le1 (rg hd1)) re)))), (5, .int (iI (min (le1 (rg hd1)) re))), (4, .int (iI (rg hd1))), (0, .ref qu), (1, .int (iI cap)), (3, .int (iI nn))]) hx hb dX2_serve_50 rfl hl (by decide) rfl (fun ls hl => ?_)
          refine lv_aload_n hx hb dX2_serve_51 rfl (lv_at hl 3 rfl) ?_
          refine va_get (D := D) (ci := 2) (v := .ref ql) (C := RX2) (T := TX2) (N := 8) hx hb hts in_X2_serve_X2 hown hK hP 0 rfl rfl 0 (by decide) (hts _ lk_X2_serve_2) (fun _ h9 => h9) rfl dX2_serve_52 ?_
          refine lv_iload hx hb dX2_serve_55 (lv_at hl 2 rfl) ?_
          refine q_iald hx hb hK hP 1 0 rfl rfl (by omega) (by omega) (by decide) dX2_serve_57 ?_
          have hb57 := hB_2 (rg hd1)
          refine q_top (b := (le1 (rg hd1) - min (le1 (rg hd1)) re)) (by rw [uI_s]) ?_
          refine q_if_ne (tgt := 65) hx hb dX2_serve_58 (by decide) ⟨by omega, by omega⟩ (fun c58 => ?_) (fun c58 => ?_)
          ·
            have ev : le1 (rg hd1) - min (le1 (rg hd1)) re = le1 (rg hd1) - re := by omega
            have er : re - min (le1 (rg hd1)) re = 0 := by omega
            obtain ⟨L2, q2, e2⟩ := hq1.sv2 (c := re) (by omega) (by omega) (by omega)
            refine q_iinc (k := 5) (lv' := [(3, .int (iI (nn + (-1)))), (2, .int (iI (re - (min (le1 (rg hd1)) re)))), (5, .int (iI (min (le1 (rg hd1)) re))), (4, .int (iI (rg hd1))), (0, .ref qu), (1, .int (iI cap))]) hx hb dX2_serve_65 hl rfl (by decide) rfl (fun ls hl => ?_)
            refine lv_goto (tgt := 7) hx hb dX2_serve_68 (by decide) ?_
            exact ih  (re - (min (le1 (rg hd1)) re)) (nn + (-1)) (uI le1 (rg hd1) ((le1 (rg hd1)) - (min (le1 (rg hd1)) re))) hd1 gr1 L2 hB_2 (by first | (rw [ev, e62, f62]; exact q2) | (rw [ev]; exact q2)) (by first | (rw [er, srv_0 (Int.le_refl 0), ← e2]; exact hs) | (rw [er, ← e2]; exact hs)) (by omega) (by exact ⟨by omega, by omega, by intro q; omega⟩) (by omega) _ _ hP hD hS _ (lv_sub hl [4, 5, 1, 0] rfl)
          ·
            have ev : le1 (rg hd1) - min (le1 (rg hd1)) re = 0 := by omega
            have er : re - min (le1 (rg hd1)) re = re - le1 (rg hd1) := by omega
            obtain ⟨L2, q2, e2⟩ := hq1.sv1 (c := re) (by omega) (by omega) (by omega)
            refine lv_aload_n hx hb dX2_serve_61 rfl (lv_at hl 3 rfl) ?_
            refine q_callVV (wr := []) (wn := fun (u : Int × Int) => [(qu, .inr (2, [.ref ql, .ref qt, .ref qs, .ref qr, .int (iI u.1), .int (iI u.2), .int (iI wt), .int (iI rt)])), (ql, .inl (cI, 200, .inl (ia (uI le1 (rg hd1) ((le1 (rg hd1)) - (min (le1 (rg hd1)) re)))))), (qt, .inl (cI, 200, .inl (ia tr))), (qs, .inl (cI, 200, .inl (ia si))), (qr, .inl (cI, 200, .inl (ia rg)))]) (rest := []) [] ⟨hx, hb, hml, hown, hts⟩ (c_X2_removeFirst l D cI cZ cII qu ql qt qs qr hd1 gr1 wt rt (uI le1 (rg hd1) ((le1 (rg hd1)) - (min (le1 (rg hd1)) re))) tr si rg hB_2 hB_tr hB_si hB_rg (by omega)) (cwV 0 hts gX2_serve_X2_removeFirst rfl rfl rfl (by decide +kernel) (by rw [hRf, hRl]; exact ⟨Nat.le_of_ble_eq_true rfl, Nat.le_of_ble_eq_true rfl⟩)) hK hP hD hS hA hN [0, 1, 2, 3, 4] [] [0, 1, 2, 3, 4] 0 2 rfl rfl rfl rfl rfl rfl (by decide) rfl (fun u => rfl) rfl hl.1 rfl (Nat.le_of_ble_eq_true rfl) dX2_serve_62 ⟨Nat.zero_le _, Nat.zero_le _⟩ (fun u H locs hw hP hD hS => ?_)
            obtain ⟨hd_3, gr_4⟩ := u
            try dsimp only at hw
            have hP : va_P D vwCl [(qu, .inr (2, [.ref ql, .ref qt, .ref qs, .ref qr, .int (iI hd_3), .int (iI gr_4), .int (iI wt), .int (iI rt)])), (ql, .inl (cI, 200, .inl (ia (uI le1 (rg hd1) ((le1 (rg hd1)) - (min (le1 (rg hd1)) re)))))), (qt, .inl (cI, 200, .inl (ia tr))), (qs, .inl (cI, 200, .inl (ia si))), (qr, .inl (cI, 200, .inl (ia rg)))] H := hP
            have hD : va_D A [(qu, .inr (2, [.ref ql, .ref qt, .ref qs, .ref qr, .int (iI hd_3), .int (iI gr_4), .int (iI wt), .int (iI rt)])), (ql, .inl (cI, 200, .inl (ia (uI le1 (rg hd1) ((le1 (rg hd1)) - (min (le1 (rg hd1)) re)))))), (qt, .inl (cI, 200, .inl (ia tr))), (qs, .inl (cI, 200, .inl (ia si))), (qr, .inl (cI, 200, .inl (ia rg)))] := hD
            obtain ⟨e62, f62⟩ := hw
            refine q_iinc (k := 5) (lv' := [(3, .int (iI (nn + (-1)))), (2, .int (iI (re - (min (le1 (rg hd1)) re)))), (5, .int (iI (min (le1 (rg hd1)) re))), (4, .int (iI (rg hd1))), (0, .ref qu), (1, .int (iI cap))]) hx hb dX2_serve_65 hl rfl (by decide) rfl (fun ls hl => ?_)
            refine lv_goto (tgt := 7) hx hb dX2_serve_68 (by decide) ?_
            exact ih  (re - (min (le1 (rg hd1)) re)) (nn + (-1)) (uI le1 (rg hd1) ((le1 (rg hd1)) - (min (le1 (rg hd1)) re))) hd_3 gr_4 L2 hB_2 (by first | (rw [ev, e62, f62]; exact q2) | (rw [ev]; exact q2)) (by first | (rw [er, srv_0 (Int.le_refl 0), ← e2]; exact hs) | (rw [er, ← e2]; exact hs)) (by omega) (by exact ⟨by omega, by omega, by intro q; omega⟩) (by omega) _ _ hP hD hS _ (lv_sub hl [4, 5, 1, 0] rfl)
  exact L7_0 1000 cap gr le hd gr L hB_le (by exact hq) (by rfl) (by omega) (by exact ⟨by omega, by omega, fun _ => rfl⟩) (by omega) _ _ hP hD hS _ (lv_sub hl [2, 3, 1, 0] rfl)

theorem in_X2_leave_X2 : ∀ w ∈ wsX20, w ∈ wsX2_leave := fun _ h => List.mem_cons_of_mem _ (List.mem_append_right _ h)
theorem lk_X2_leave_1 : Cond.fieldLink RX2 28 "MoreHands$Queue" "groups" "I" ∈ wsX2_leave := List.mem_of_getElem? (i := 1) rfl
theorem lk_X2_leave_2 : Cond.fieldLink RX2 18 "MoreHands$Queue" "since" "[I" ∈ wsX2_leave := List.mem_of_getElem? (i := 2) rfl
theorem lk_X2_leave_3 : Cond.fieldLink RX2 31 "MoreHands$Queue" "waiting" "I" ∈ wsX2_leave := List.mem_of_getElem? (i := 3) rfl
theorem lk_X2_leave_4 : Cond.fieldLink RX2 9 "MoreHands$Queue" "left" "[I" ∈ wsX2_leave := List.mem_of_getElem? (i := 4) rfl
theorem lk_X2_leave_5 : Cond.fieldLink RX2 15 "MoreHands$Queue" "tries" "[I" ∈ wsX2_leave := List.mem_of_getElem? (i := 5) rfl
theorem lk_X2_leave_6 : Cond.fieldLink RX2 34 "MoreHands$Queue" "returning" "I" ∈ wsX2_leave := List.mem_of_getElem? (i := 6) rfl
set_option maxHeartbeats 4000000 in
set_option maxRecDepth 100000 in
theorem c_X2_leave (l : Launch) (D : va_G) (cI cZ cII : ClassId) (qu : Nat) (ql : Nat) (qt : Nat) (qs : Nat) (qr : Nat) (hd : Int) (gr : Int) (wt : Int) (rt : Int) (le : Int → Int) (tr : Int → Int) (si : Int → Int) (rg : Int → Int) (tk : Int) (pa : Int) (tt : Int) (L : List G3) (hB_le : BB 0 60 le) (hB_tr : BB 0 4 tr) (hB_si : BB 0 200 si) (hB_rg : BB 0 199 rg) (hp_tk : 0 ≤ tk ∧ tk ≤ 199) (hp_pa : 1 ≤ pa ∧ pa ≤ 10) (hp_tt : 1 ≤ tt ∧ tt ≤ 4) (hq : QC le tr si rg hd gr (tk + 1) L) (hwt : wt = mny L) (hrt : rt = 0) : CtI l yX2_leave wsX2_leave 2 44 D (ty3 cI cZ cII) [.ref qu, .int (iI tk), .int (iI pa), .int (iI tt)] [(qu, .inr (2, [.ref ql, .ref qt, .ref qs, .ref qr, .int (iI hd), .int (iI gr), .int (iI wt), .int (iI rt)])), (ql, .inl (cI, 200, .inl (ia le))), (qt, .inl (cI, 200, .inl (ia tr))), (qs, .inl (cI, 200, .inl (ia si))), (qr, .inl (cI, 200, .inl (ia rg)))] (fun z (u : (Int → Int) × (Int → Int) × (Int → Int) × Int × Int × Int × Int) => z = (lv tk pa tt L).2.2 ∧ u.2.2.2.2.2.1 = mny (lv tk pa tt L).1 ∧ u.2.2.2.2.2.2 = mny (lv tk pa tt L).2.1 ∧ QC le u.1 u.2.1 u.2.2.1 u.2.2.2.1 u.2.2.2.2.1 (tk + 1) ((lv tk pa tt L).1 ++ (lv tk pa tt L).2.1) ∧ BB 0 4 u.1 ∧ BB 0 200 u.2.1 ∧ BB 0 199 u.2.2.1) (fun u => [(qu, .inr (2, [.ref ql, .ref qt, .ref qs, .ref qr, .int (iI u.2.2.2.1), .int (iI u.2.2.2.2.1), .int (iI u.2.2.2.2.2.1), .int (iI u.2.2.2.2.2.2)])), (ql, .inl (cI, 200, .inl (ia le))), (qt, .inl (cI, 200, .inl (ia u.1))), (qs, .inl (cI, 200, .inl (ia u.2.1))), (qr, .inl (cI, 200, .inl (ia u.2.2.1)))]) := by
  refine CtI.mk (cc := cX2_leave) (maxL := 7) (ret := (some .int)) (by decide) rfl (Nat.le_of_ble_eq_true rfl) ?_
  intro p e s m below meth c A ls R args Q hx hb hml hr hts hown hlocks hA hK hP hD hN hS hl hRf hRl hQ
  have hl : lv_has ls 7 [(0, .ref qu), (1, .int (iI tk)), (2, .int (iI pa)), (3, .int (iI tt))] := hl
  have hown : s.vm.findClass RX2 = some m.cls := hown
  have hq0 := hq.1
  refine lv_iconst (v := iI 0) hx hb dX2_leave_0 rfl ?_
  refine lv_istore (lv' := [(4, .int (iI 0)), (0, .ref qu), (1, .int (iI tk)), (2, .int (iI pa)), (3, .int (iI tt))]) hx hb dX2_leave_1 hl (by decide) rfl (fun ls hl => ?_)
  refine lv_aload_n hx hb dX2_leave_3 rfl (lv_at hl 1 rfl) ?_
  refine va_get (D := D) (ci := 2) (v := .int (iI gr)) (C := RX2) (T := TX2) (N := 8) hx hb hts in_X2_leave_X2 hown hK hP 0 rfl rfl 5 (by decide) (hts _ lk_X2_leave_1) (fun _ h9 => h9) rfl dX2_leave_4 ?_
  refine lv_istore (lv' := [(5, .int (iI gr)), (4, .int (iI 0)), (0, .ref qu), (1, .int (iI tk)), (2, .int (iI pa)), (3, .int (iI tt))]) hx hb dX2_leave_7 hl (by decide) rfl (fun ls hl => ?_)
  have L9_0 : ∀ (n : Nat), ∀ (lo : Int) (nn : Int) (tr1 : Int → Int) (si1 : Int → Int) (rg1 : Int → Int) (hd1 : Int) (gr1 : Int) (wt1 : Int) (rt1 : Int) (P : List G3) (V : List G3), (hB_tr1 : BB 0 4 tr1) → (hB_si1 : BB 0 200 si1) → (hB_rg1 : BB 0 199 rg1) → (hq1 : QC le tr1 si1 rg1 hd1 gr1 (tk + 1) (P ++ V)) → (hn : (P.length : Int) = nn) → (h1 : (lv tk pa tt L).1 = (lv tk pa tt P).1) → (h2 : (lv tk pa tt L).2.1 = V ++ (lv tk pa tt P).2.1) → (h3 : (lv tk pa tt L).2.2 = lo + (lv tk pa tt P).2.2) → (hw1 : wt1 = mny P) → (hr1 : rt1 = mny V) → (nn) < (n : Int) → ∀ (H : Heap) (locs : List Loc), va_P D vwCl [(qu, .inr (2, [.ref ql, .ref qt, .ref qs, .ref qr, .int (iI hd1), .int (iI gr1), .int (iI wt1), .int (iI rt1)])), (ql, .inl (cI, 200, .inl (ia le))), (qt, .inl (cI, 200, .inl (ia tr1))), (qs, .inl (cI, 200, .inl (ia si1))), (qr, .inl (cI, 200, .inl (ia rg1)))] H → va_D A [(qu, .inr (2, [.ref ql, .ref qt, .ref qs, .ref qr, .int (iI hd1), .int (iI gr1), .int (iI wt1), .int (iI rt1)])), (ql, .inl (cI, 200, .inl (ia le))), (qt, .inl (cI, 200, .inl (ia tr1))), (qs, .inl (cI, 200, .inl (ia si1))), (qr, .inl (cI, 200, .inl (ia rg1)))] → va_S A s.heap H locs → ∀ ls : Array Slot, lv_has ls 7 [(0, .ref qu), (1, .int (iI tk)), (2, .int (iI pa)), (3, .int (iI tt)), (4, .int (iI lo)), (5, .int (iI nn))] → W p l e R s m args below meth c H locs 0 0 Q (F0 m 9 ls []) := by
    intro n
    induction n with
    | zero => intro lo nn tr1 si1 rg1 hd1 gr1 wt1 rt1 P V hB_tr1 hB_si1 hB_rg1 hq1 hn h1 h2 h3 hw1 hr1 hm; exact absurd hm (by omega)
    | succ n ih =>
      intro lo nn tr1 si1 rg1 hd1 gr1 wt1 rt1 P V hB_tr1 hB_si1 hB_rg1 hq1 hn h1 h2 h3 hw1 hr1 hm H locs hP hD hS ls hl
      have hq3 := hq1.1
      have hlen := hq1.len
      rw [List.length_append] at hlen
      refine lv_iload hx hb dX2_leave_9 (lv_at hl 5 rfl) ?_
      refine q_if_le (tgt := 132) hx hb dX2_leave_11 (by decide) ⟨by omega, by omega⟩ (fun c11 => ?_) (fun c11 => ?_)
      ·
        have hfin : lv tk pa tt P = (P, [], 0) := by
          have : P = [] := List.length_eq_zero_iff.mp (by omega)
          rw [this]; rfl
        refine lv_iload hx hb dX2_leave_132 (lv_at hl 4 rfl) ?_
        rw [hQ]
        refine q_retI (tr1, si1, rg1, hd1, gr1, wt1, rt1) hx hb hr hlocks hK hP hD hS dX2_leave_134 ?_
        try dsimp only
        rw [hfin] at h1 h2 h3
        simp only [List.append_nil] at h2
        rw [h1, h2, h3]
        exact ⟨by show lo = lo + 0; omega, hw1, hr1, hq1, hB_tr1, hB_si1, hB_rg1⟩
      ·
        obtain ⟨x, P2, eP⟩ : ∃ x P2, P = x :: P2 := by
          cases P with
          | nil => simp at hn; omega
          | cons x r => exact ⟨x, r, rfl⟩
        subst eP
        obtain ⟨hgp, ex, qp, hbp, hnp, hlp⟩ := hq1.pop2
        have hn2 : (P2.length : Int) = nn + -1 := by rw [List.length_cons] at hn; omega
        have ex1 : x.1 = si1 (rg1 hd1) := by rw [ex]; rfl
        have ex2 : x.2.1 = tr1 (rg1 hd1) := by rw [ex]; rfl
        have ex3 : x.2.2 = le (rg1 hd1) := by rw [ex]; rfl
        refine lv_iload_n hx hb dX2_leave_14 rfl (lv_at hl 1 rfl) ?_
        refine lv_aload_n hx hb dX2_leave_15 rfl (lv_at hl 0 rfl) ?_
        refine va_get (D := D) (ci := 2) (v := .ref qs) (C := RX2) (T := TX2) (N := 8) hx hb hts in_X2_leave_X2 hown hK hP 0 rfl rfl 2 (by decide) (hts _ lk_X2_leave_2) (fun _ h9 => h9) rfl dX2_leave_16 ?_
        refine lv_aload_n hx hb dX2_leave_19 rfl (lv_at hl 0 rfl) ?_
        refine q_callVI (wr := []) (wn := fun (u : Unit) => [(qu, .inr (2, [.ref ql, .ref qt, .ref qs, .ref qr, .int (iI hd1), .int (iI gr1), .int (iI wt1), .int (iI rt1)])), (ql, .inl (cI, 200, .inl (ia le))), (qt, .inl (cI, 200, .inl (ia tr1))), (qs, .inl (cI, 200, .inl (ia si1))), (qr, .inl (cI, 200, .inl (ia rg1)))]) (rest := [.ref qs, .int (iI tk)]) [] ⟨hx, hb, hml, hown, hts⟩ (c_X2_first l D cI cZ cII qu ql qt qs qr hd1 gr1 wt1 rt1 le tr1 si1 rg1 hB_le hB_tr1 hB_si1 hB_rg1 (by omega)) (cwV 0 hts gX2_leave_X2_first rfl rfl rfl (by decide +kernel) (by rw [hRf, hRl]; exact ⟨Nat.le_of_ble_eq_true rfl, Nat.le_of_ble_eq_true rfl⟩)) hK hP hD hS hA hN [0, 1, 2, 3, 4] [] [0, 1, 2, 3, 4] 0 2 rfl rfl rfl rfl rfl rfl (by decide) rfl (fun u => rfl) rfl hl.1 rfl (Nat.le_of_ble_eq_true rfl) dX2_leave_20 ⟨Nat.zero_le _, Nat.zero_le _⟩ (fun z u H locs hw hP hD hS => ?_)
        have hP : va_P D vwCl [(qu, .inr (2, [.ref ql, .ref qt, .ref qs, .ref qr, .int (iI hd1), .int (iI gr1), .int (iI wt1), .int (iI rt1)])), (ql, .inl (cI, 200, .inl (ia le))), (qt, .inl (cI, 200, .inl (ia tr1))), (qs, .inl (cI, 200, .inl (ia si1))), (qr, .inl (cI, 200, .inl (ia rg1)))] H := hP
        have hD : va_D A [(qu, .inr (2, [.ref ql, .ref qt, .ref qs, .ref qr, .int (iI hd1), .int (iI gr1), .int (iI wt1), .int (iI rt1)])), (ql, .inl (cI, 200, .inl (ia le))), (qt, .inl (cI, 200, .inl (ia tr1))), (qs, .inl (cI, 200, .inl (ia si1))), (qr, .inl (cI, 200, .inl (ia rg1)))] := hD
        obtain ⟨z_1, ez⟩ : ∃ y : Int, y = z := ⟨_, rfl⟩
        rw [← ez] at hw ⊢
        clear ez
        have w20 : z_1 = (rg1 hd1) := hw
        clear hw
        subst w20
        refine q_iald hx hb hK hP 3 0 rfl rfl (by omega) (by omega) (by decide) dX2_leave_23 ?_
        have hb23 := hB_si1 (rg1 hd1)
        refine q_isub hx hb dX2_leave_24 ?_
        refine lv_iconst (v := iI 1) hx hb dX2_leave_25 rfl ?_
        refine q_iadd hx hb dX2_leave_26 ?_
        refine lv_iload_n hx hb dX2_leave_27 rfl (lv_at hl 2 rfl) ?_
        refine q_icmp_lt (tgt := 132) hx hb dX2_leave_28 (by decide) ⟨by omega, by omega⟩ ⟨by omega, by omega⟩ (fun c28 => ?_) (fun c28 => ?_)
        ·
          have hfin : lv tk pa tt (x :: P2) = (x :: P2, [], 0) := by
            exact lv_stay (by omega)
          refine lv_iload hx hb dX2_leave_132 (lv_at hl 4 rfl) ?_
          rw [hQ]
          refine q_retI (tr1, si1, rg1, hd1, gr1, wt1, rt1) hx hb hr hlocks hK hP hD hS dX2_leave_134 ?_
          try dsimp only
          rw [hfin] at h1 h2 h3
          simp only [List.append_nil] at h2
          rw [h1, h2, h3]
          exact ⟨by show lo = lo + 0; omega, hw1, hr1, hq1, hB_tr1, hB_si1, hB_rg1⟩
        ·
          refine lv_aload_n hx hb dX2_leave_31 rfl (lv_at hl 0 rfl) ?_
          refine q_callVI (wr := []) (wn := fun (u : Unit) => [(qu, .inr (2, [.ref ql, .ref qt, .ref qs, .ref qr, .int (iI hd1), .int (iI gr1), .int (iI wt1), .int (iI rt1)])), (ql, .inl (cI, 200, .inl (ia le))), (qt, .inl (cI, 200, .inl (ia tr1))), (qs, .inl (cI, 200, .inl (ia si1))), (qr, .inl (cI, 200, .inl (ia rg1)))]) (rest := []) [] ⟨hx, hb, hml, hown, hts⟩ (c_X2_first l D cI cZ cII qu ql qt qs qr hd1 gr1 wt1 rt1 le tr1 si1 rg1 hB_le hB_tr1 hB_si1 hB_rg1 (by omega)) (cwV 0 hts gX2_leave_X2_first rfl rfl rfl (by decide +kernel) (by rw [hRf, hRl]; exact ⟨Nat.le_of_ble_eq_true rfl, Nat.le_of_ble_eq_true rfl⟩)) hK hP hD hS hA hN [0, 1, 2, 3, 4] [] [0, 1, 2, 3, 4] 0 2 rfl rfl rfl rfl rfl rfl (by decide) rfl (fun u => rfl) rfl hl.1 rfl (Nat.le_of_ble_eq_true rfl) dX2_leave_32 ⟨Nat.zero_le _, Nat.zero_le _⟩ (fun z u H locs hw hP hD hS => ?_)
          have hP : va_P D vwCl [(qu, .inr (2, [.ref ql, .ref qt, .ref qs, .ref qr, .int (iI hd1), .int (iI gr1), .int (iI wt1), .int (iI rt1)])), (ql, .inl (cI, 200, .inl (ia le))), (qt, .inl (cI, 200, .inl (ia tr1))), (qs, .inl (cI, 200, .inl (ia si1))), (qr, .inl (cI, 200, .inl (ia rg1)))] H := hP
          have hD : va_D A [(qu, .inr (2, [.ref ql, .ref qt, .ref qs, .ref qr, .int (iI hd1), .int (iI gr1), .int (iI wt1), .int (iI rt1)])), (ql, .inl (cI, 200, .inl (ia le))), (qt, .inl (cI, 200, .inl (ia tr1))), (qs, .inl (cI, 200, .inl (ia si1))), (qr, .inl (cI, 200, .inl (ia rg1)))] := hD
          obtain ⟨z_2, ez⟩ : ∃ y : Int, y = z := ⟨_, rfl⟩
          rw [← ez] at hw ⊢
          clear ez
          have w32 : z_2 = (rg1 hd1) := hw
          clear hw
          subst w32
          refine lv_istore (lv' := [(6, .int (iI (rg1 hd1))), (0, .ref qu), (1, .int (iI tk)), (2, .int (iI pa)), (3, .int (iI tt)), (4, .int (iI lo)), (5, .int (iI nn))]) hx hb dX2_leave_35 hl (by decide) rfl (fun ls hl => ?_)
          refine lv_aload_n hx hb dX2_leave_37 rfl (lv_at hl 1 rfl) ?_
          refine q_callVV (wr := []) (wn := fun (u : Int × Int) => [(qu, .inr (2, [.ref ql, .ref qt, .ref qs, .ref qr, .int (iI u.1), .int (iI u.2), .int (iI wt1), .int (iI rt1)])), (ql, .inl (cI, 200, .inl (ia le))), (qt, .inl (cI, 200, .inl (ia tr1))), (qs, .inl (cI, 200, .inl (ia si1))), (qr, .inl (cI, 200, .inl (ia rg1)))]) (rest := []) [] ⟨hx, hb, hml, hown, hts⟩ (c_X2_removeFirst l D cI cZ cII qu ql qt qs qr hd1 gr1 wt1 rt1 le tr1 si1 rg1 hB_le hB_tr1 hB_si1 hB_rg1 (by omega)) (cwV 0 hts gX2_leave_X2_removeFirst rfl rfl rfl (by decide +kernel) (by rw [hRf, hRl]; exact ⟨Nat.le_of_ble_eq_true rfl, Nat.le_of_ble_eq_true rfl⟩)) hK hP hD hS hA hN [0, 1, 2, 3, 4] [] [0, 1, 2, 3, 4] 0 2 rfl rfl rfl rfl rfl rfl (by decide) rfl (fun u => rfl) rfl hl.1 rfl (Nat.le_of_ble_eq_true rfl) dX2_leave_38 ⟨Nat.zero_le _, Nat.zero_le _⟩ (fun u H locs hw hP hD hS => ?_)
          obtain ⟨hd_3, gr_4⟩ := u
          try dsimp only at hw
          have hP : va_P D vwCl [(qu, .inr (2, [.ref ql, .ref qt, .ref qs, .ref qr, .int (iI hd_3), .int (iI gr_4), .int (iI wt1), .int (iI rt1)])), (ql, .inl (cI, 200, .inl (ia le))), (qt, .inl (cI, 200, .inl (ia tr1))), (qs, .inl (cI, 200, .inl (ia si1))), (qr, .inl (cI, 200, .inl (ia rg1)))] H := hP
          have hD : va_D A [(qu, .inr (2, [.ref ql, .ref qt, .ref qs, .ref qr, .int (iI hd_3), .int (iI gr_4), .int (iI wt1), .int (iI rt1)])), (ql, .inl (cI, 200, .inl (ia le))), (qt, .inl (cI, 200, .inl (ia tr1))), (qs, .inl (cI, 200, .inl (ia si1))), (qr, .inl (cI, 200, .inl (ia rg1)))] := hD
          obtain ⟨e38, f38⟩ := hw
          refine lv_aload_n hx hb dX2_leave_41 rfl (lv_at hl 1 rfl) ?_
          refine lv_dup hx hb dX2_leave_42 rfl ?_
          refine va_get (D := D) (ci := 2) (v := .int (iI wt1)) (C := RX2) (T := TX2) (N := 8) hx hb hts in_X2_leave_X2 hown hK hP 0 rfl rfl 6 (by decide) (hts _ lk_X2_leave_3) (fun _ h9 => h9) rfl dX2_leave_43 ?_
          refine lv_aload_n hx hb dX2_leave_46 rfl (lv_at hl 1 rfl) ?_
          refine va_get (D := D) (ci := 2) (v := .ref ql) (C := RX2) (T := TX2) (N := 8) hx hb hts in_X2_leave_X2 hown hK hP 0 rfl rfl 0 (by decide) (hts _ lk_X2_leave_4) (fun _ h9 => h9) rfl dX2_leave_47 ?_
          refine lv_iload hx hb dX2_leave_50 (lv_at hl 0 rfl) ?_
          refine q_iald hx hb hK hP 1 0 rfl rfl (by omega) (by omega) (by decide) dX2_leave_52 ?_
          have hb52 := hB_le (rg1 hd1)
          refine q_isub hx hb dX2_leave_53 ?_
          refine va_put (D := D) (ci := 2) (v := .int (iI (wt1 - (le (rg1 hd1))))) (ty := .int) (C := RX2) (T := TX2) (N := 8) hx hb hts in_X2_leave_X2 tyX2 tyX2_ok nmX2 hown hK hP hD hS 0 rfl rfl 6 (by decide) (hts _ lk_X2_leave_3) (fun _ h9 => h9) rfl (by decide +kernel) rfl rfl (Nat.le_of_ble_eq_true rfl) dX2_leave_54 (fun H locs hP hD hS => ?_)
          have hP : va_P D vwCl [(qu, .inr (2, [.ref ql, .ref qt, .ref qs, .ref qr, .int (iI hd_3), .int (iI gr_4), .int (iI (wt1 - (le (rg1 hd1)))), .int (iI rt1)])), (ql, .inl (cI, 200, .inl (ia le))), (qt, .inl (cI, 200, .inl (ia tr1))), (qs, .inl (cI, 200, .inl (ia si1))), (qr, .inl (cI, 200, .inl (ia rg1)))] H := hP
          have hD : va_D A [(qu, .inr (2, [.ref ql, .ref qt, .ref qs, .ref qr, .int (iI hd_3), .int (iI gr_4), .int (iI (wt1 - (le (rg1 hd1)))), .int (iI rt1)])), (ql, .inl (cI, 200, .inl (ia le))), (qt, .inl (cI, 200, .inl (ia tr1))), (qs, .inl (cI, 200, .inl (ia si1))), (qr, .inl (cI, 200, .inl (ia rg1)))] := hD
          refine lv_aload_n hx hb dX2_leave_57 rfl (lv_at hl 1 rfl) ?_
          refine va_get (D := D) (ci := 2) (v := .ref qt) (C := RX2) (T := TX2) (N := 8) hx hb hts in_X2_leave_X2 hown hK hP 0 rfl rfl 1 (by decide) (hts _ lk_X2_leave_5) (fun _ h9 => h9) rfl dX2_leave_58 ?_
          refine lv_iload hx hb dX2_leave_61 (lv_at hl 0 rfl) ?_
          refine q_iald hx hb hK hP 2 0 rfl rfl (by omega) (by omega) (by decide) dX2_leave_63 ?_
          have hb63 := hB_tr1 (rg1 hd1)
          refine lv_iload_n hx hb dX2_leave_64 rfl (lv_at hl 4 rfl) ?_
          refine q_icmp_ge (tgt := 114) hx hb dX2_leave_65 (by decide) ⟨by omega, by omega⟩ ⟨by omega, by omega⟩ (fun c65 => ?_) (fun c65 => ?_)
          ·
            have eg := lv_go2 (ti := tk) (pa := pa) (tr := tt) (x := x) (r := P2) (by omega) (by omega)
            rw [eg] at h1 h2 h3
            obtain ⟨V2, eV⟩ : ∃ V2, V2 = V := ⟨_, rfl⟩
            have hq2 : QC le tr1 si1 rg1 ((hd1 + 1) % 200) (gr1 - 1) (tk + 1) (P2 ++ V2) := by rw [eV]; exact qp
            rw [← f38, ← e38] at hq2
            have h12 : (lv tk pa tt L).1 = (lv tk pa tt P2).1 := h1
            have h22 : (lv tk pa tt L).2.1 = V2 ++ (lv tk pa tt P2).2.1 := by rw [eV]; exact h2
            have h32 : (lv tk pa tt L).2.2 = lo + le (rg1 hd1) + (lv tk pa tt P2).2.2 := by rw [h3]; show lo + (x.2.2 + _) = _; omega
            have hw2 : wt1 - le (rg1 hd1) = mny P2 := by rw [hw1]; show x.2.2 + mny P2 - _ = _; omega
            have hr2 : rt1 = mny V2 := by rw [eV]; exact hr1
            refine lv_iload hx hb dX2_leave_114 (lv_at hl 5 rfl) ?_
            refine lv_aload_n hx hb dX2_leave_116 rfl (lv_at hl 1 rfl) ?_
            refine va_get (D := D) (ci := 2) (v := .ref ql) (C := RX2) (T := TX2) (N := 8) hx hb hts in_X2_leave_X2 hown hK hP 0 rfl rfl 0 (by decide) (hts _ lk_X2_leave_4) (fun _ h9 => h9) rfl dX2_leave_117 ?_
            refine lv_iload hx hb dX2_leave_120 (lv_at hl 0 rfl) ?_
            refine q_iald hx hb hK hP 1 0 rfl rfl (by omega) (by omega) (by decide) dX2_leave_122 ?_
            have hb122 := hB_le (rg1 hd1)
            refine q_iadd hx hb dX2_leave_123 ?_
            refine lv_istore (lv' := [(4, .int (iI (lo + (le (rg1 hd1))))), (6, .int (iI (rg1 hd1))), (0, .ref qu), (1, .int (iI tk)), (2, .int (iI pa)), (3, .int (iI tt)), (5, .int (iI nn))]) hx hb dX2_leave_124 hl (by decide) rfl (fun ls hl => ?_)
            refine q_iinc (k := 6) (lv' := [(5, .int (iI (nn + (-1)))), (4, .int (iI (lo + (le (rg1 hd1))))), (6, .int (iI (rg1 hd1))), (0, .ref qu), (1, .int (iI tk)), (2, .int (iI pa)), (3, .int (iI tt))]) hx hb dX2_leave_126 hl rfl (by decide) rfl (fun ls hl => ?_)
            refine lv_goto (tgt := 9) hx hb dX2_leave_129 (by decide) ?_
            exact ih  (lo + (le (rg1 hd1))) (nn + (-1)) tr1 si1 rg1 hd_3 gr_4 (wt1 - (le (rg1 hd1))) rt1 P2 V2 hB_tr1 hB_si1 hB_rg1 (by exact hq2) (by exact hn2) (by exact h12) (by exact h22) (by exact h32) (by exact hw2) (by exact hr2) (by omega) _ _ hP hD hS _ (lv_sub hl [3, 4, 5, 6, 1, 0] rfl)
          ·
            refine lv_aload_n hx hb dX2_leave_68 rfl (lv_at hl 1 rfl) ?_
            refine va_get (D := D) (ci := 2) (v := .ref qt) (C := RX2) (T := TX2) (N := 8) hx hb hts in_X2_leave_X2 hown hK hP 0 rfl rfl 1 (by decide) (hts _ lk_X2_leave_5) (fun _ h9 => h9) rfl dX2_leave_69 ?_
            refine lv_iload hx hb dX2_leave_72 (lv_at hl 0 rfl) ?_
            refine lv_dup2_11 hx hb dX2_leave_74 rfl rfl ?_
            refine q_iald hx hb hK hP 2 0 rfl rfl (by omega) (by omega) (by decide) dX2_leave_75 ?_
            have hb75 := hB_tr1 (rg1 hd1)
            refine lv_iconst (v := iI 1) hx hb dX2_leave_76 rfl ?_
            refine q_iadd hx hb dX2_leave_77 ?_
            refine q_iast hx hb hK hP hD hS 2 0 rfl rfl (by omega) (by omega) (by decide) dX2_leave_78 (fun H locs hP hD hS => ?_)
            have hP : va_P D vwCl [(qu, .inr (2, [.ref ql, .ref qt, .ref qs, .ref qr, .int (iI hd_3), .int (iI gr_4), .int (iI (wt1 - (le (rg1 hd1)))), .int (iI rt1)])), (ql, .inl (cI, 200, .inl (ia le))), (qt, .inl (cI, 200, .inl (ia (uI tr1 (rg1 hd1) ((tr1 (rg1 hd1)) + 1))))), (qs, .inl (cI, 200, .inl (ia si1))), (qr, .inl (cI, 200, .inl (ia rg1)))] H := hP
            have hD : va_D A [(qu, .inr (2, [.ref ql, .ref qt, .ref qs, .ref qr, .int (iI hd_3), .int (iI gr_4), .int (iI (wt1 - (le (rg1 hd1)))), .int (iI rt1)])), (ql, .inl (cI, 200, .inl (ia le))), (qt, .inl (cI, 200, .inl (ia (uI tr1 (rg1 hd1) ((tr1 (rg1 hd1)) + 1))))), (qs, .inl (cI, 200, .inl (ia si1))), (qr, .inl (cI, 200, .inl (ia rg1)))] := hD
            have hB_5 : BB 0 4 (uI tr1 (rg1 hd1) ((tr1 (rg1 hd1)) + 1)) := BB_uI hB_tr1 (by omega)
            refine lv_aload_n hx hb dX2_leave_79 rfl (lv_at hl 1 rfl) ?_
            refine va_get (D := D) (ci := 2) (v := .ref qs) (C := RX2) (T := TX2) (N := 8) hx hb hts in_X2_leave_X2 hown hK hP 0 rfl rfl 2 (by decide) (hts _ lk_X2_leave_2) (fun _ h9 => h9) rfl dX2_leave_80 ?_
            refine lv_iload hx hb dX2_leave_83 (lv_at hl 0 rfl) ?_
            refine lv_iload_n hx hb dX2_leave_85 rfl (lv_at hl 2 rfl) ?_
            refine lv_iconst (v := iI 1) hx hb dX2_leave_86 rfl ?_
            refine q_iadd hx hb dX2_leave_87 ?_
            refine q_iast hx hb hK hP hD hS 3 0 rfl rfl (by omega) (by omega) (by decide) dX2_leave_88 (fun H locs hP hD hS => ?_)
            have hP : va_P D vwCl [(qu, .inr (2, [.ref ql, .ref qt, .ref qs, .ref qr, .int (iI hd_3), .int (iI gr_4), .int (iI (wt1 - (le (rg1 hd1)))), .int (iI rt1)])), (ql, .inl (cI, 200, .inl (ia le))), (qt, .inl (cI, 200, .inl (ia (uI tr1 (rg1 hd1) ((tr1 (rg1 hd1)) + 1))))), (qs, .inl (cI, 200, .inl (ia (uI si1 (rg1 hd1) (tk + 1))))), (qr, .inl (cI, 200, .inl (ia rg1)))] H := hP
            have hD : va_D A [(qu, .inr (2, [.ref ql, .ref qt, .ref qs, .ref qr, .int (iI hd_3), .int (iI gr_4), .int (iI (wt1 - (le (rg1 hd1)))), .int (iI rt1)])), (ql, .inl (cI, 200, .inl (ia le))), (qt, .inl (cI, 200, .inl (ia (uI tr1 (rg1 hd1) ((tr1 (rg1 hd1)) + 1))))), (qs, .inl (cI, 200, .inl (ia (uI si1 (rg1 hd1) (tk + 1))))), (qr, .inl (cI, 200, .inl (ia rg1)))] := hD
            have hB_6 : BB 0 200 (uI si1 (rg1 hd1) (tk + 1)) := BB_uI hB_si1 (by omega)
            refine lv_aload_n hx hb dX2_leave_89 rfl (lv_at hl 1 rfl) ?_
            refine lv_iload hx hb dX2_leave_90 (lv_at hl 0 rfl) ?_
            refine q_callVV (wr := []) (wn := fun (u : (Int → Int) × Int) => [(qu, .inr (2, [.ref ql, .ref qt, .ref qs, .ref qr, .int (iI hd_3), .int (iI u.2), .int (iI (wt1 - (le (rg1 hd1)))), .int (iI rt1)])), (ql, .inl (cI, 200, .inl (ia le))), (qt, .inl (cI, 200, .inl (ia (uI tr1 (rg1 hd1) ((tr1 (rg1 hd1)) + 1))))), (qs, .inl (cI, 200, .inl (ia (uI si1 (rg1 hd1) (tk + 1))))), (qr, .inl (cI, 200, .inl (ia u.1)))]) (rest := []) [.int (iI (rg1 hd1))] ⟨hx, hb, hml, hown, hts⟩ (c_X2_append l D cI cZ cII qu ql qt qs qr hd_3 gr_4 (wt1 - (le (rg1 hd1))) rt1 le (uI tr1 (rg1 hd1) ((tr1 (rg1 hd1)) + 1)) (uI si1 (rg1 hd1) (tk + 1)) rg1 (rg1 hd1) hB_le hB_5 hB_6 hB_rg1 (by omega) (by omega) (by omega)) (cwV 1 hts gX2_leave_X2_append rfl rfl rfl (by decide +kernel) (by rw [hRf, hRl]; exact ⟨Nat.le_of_ble_eq_true rfl, Nat.le_of_ble_eq_true rfl⟩)) hK hP hD hS hA hN [0, 1, 2, 3, 4] [] [0, 1, 2, 3, 4] 0 2 rfl rfl rfl rfl rfl rfl (by decide) rfl (fun u => rfl) rfl hl.1 rfl (Nat.le_of_ble_eq_true rfl) dX2_leave_92 ⟨Nat.zero_le _, Nat.zero_le _⟩ (fun u H locs hw hP hD hS => ?_)
            obtain ⟨rg_7, gr_8⟩ := u
            try dsimp only at hw
            have hP : va_P D vwCl [(qu, .inr (2, [.ref ql, .ref qt, .ref qs, .ref qr, .int (iI hd_3), .int (iI gr_8), .int (iI (wt1 - (le (rg1 hd1)))), .int (iI rt1)])), (ql, .inl (cI, 200, .inl (ia le))), (qt, .inl (cI, 200, .inl (ia (uI tr1 (rg1 hd1) ((tr1 (rg1 hd1)) + 1))))), (qs, .inl (cI, 200, .inl (ia (uI si1 (rg1 hd1) (tk + 1))))), (qr, .inl (cI, 200, .inl (ia rg_7)))] H := hP
            have hD : va_D A [(qu, .inr (2, [.ref ql, .ref qt, .ref qs, .ref qr, .int (iI hd_3), .int (iI gr_8), .int (iI (wt1 - (le (rg1 hd1)))), .int (iI rt1)])), (ql, .inl (cI, 200, .inl (ia le))), (qt, .inl (cI, 200, .inl (ia (uI tr1 (rg1 hd1) ((tr1 (rg1 hd1)) + 1))))), (qs, .inl (cI, 200, .inl (ia (uI si1 (rg1 hd1) (tk + 1))))), (qr, .inl (cI, 200, .inl (ia rg_7)))] := hD
            obtain ⟨e92, f92, hB_rg_7⟩ := hw
            refine lv_aload_n hx hb dX2_leave_95 rfl (lv_at hl 1 rfl) ?_
            refine lv_dup hx hb dX2_leave_96 rfl ?_
            refine va_get (D := D) (ci := 2) (v := .int (iI rt1)) (C := RX2) (T := TX2) (N := 8) hx hb hts in_X2_leave_X2 hown hK hP 0 rfl rfl 7 (by decide) (hts _ lk_X2_leave_6) (fun _ h9 => h9) rfl dX2_leave_97 ?_
            refine lv_aload_n hx hb dX2_leave_100 rfl (lv_at hl 1 rfl) ?_
            refine va_get (D := D) (ci := 2) (v := .ref ql) (C := RX2) (T := TX2) (N := 8) hx hb hts in_X2_leave_X2 hown hK hP 0 rfl rfl 0 (by decide) (hts _ lk_X2_leave_4) (fun _ h9 => h9) rfl dX2_leave_101 ?_
            refine lv_iload hx hb dX2_leave_104 (lv_at hl 0 rfl) ?_
            refine q_iald hx hb hK hP 1 0 rfl rfl (by omega) (by omega) (by decide) dX2_leave_106 ?_
            have hb106 := hB_le (rg1 hd1)
            refine q_iadd hx hb dX2_leave_107 ?_
            refine va_put (D := D) (ci := 2) (v := .int (iI (rt1 + (le (rg1 hd1))))) (ty := .int) (C := RX2) (T := TX2) (N := 8) hx hb hts in_X2_leave_X2 tyX2 tyX2_ok nmX2 hown hK hP hD hS 0 rfl rfl 7 (by decide) (hts _ lk_X2_leave_6) (fun _ h9 => h9) rfl (by decide +kernel) rfl rfl (Nat.le_of_ble_eq_true rfl) dX2_leave_108 (fun H locs hP hD hS => ?_)
            have hP : va_P D vwCl [(qu, .inr (2, [.ref ql, .ref qt, .ref qs, .ref qr, .int (iI hd_3), .int (iI gr_8), .int (iI (wt1 - (le (rg1 hd1)))), .int (iI (rt1 + (le (rg1 hd1))))])), (ql, .inl (cI, 200, .inl (ia le))), (qt, .inl (cI, 200, .inl (ia (uI tr1 (rg1 hd1) ((tr1 (rg1 hd1)) + 1))))), (qs, .inl (cI, 200, .inl (ia (uI si1 (rg1 hd1) (tk + 1))))), (qr, .inl (cI, 200, .inl (ia rg_7)))] H := hP
            have hD : va_D A [(qu, .inr (2, [.ref ql, .ref qt, .ref qs, .ref qr, .int (iI hd_3), .int (iI gr_8), .int (iI (wt1 - (le (rg1 hd1)))), .int (iI (rt1 + (le (rg1 hd1))))])), (ql, .inl (cI, 200, .inl (ia le))), (qt, .inl (cI, 200, .inl (ia (uI tr1 (rg1 hd1) ((tr1 (rg1 hd1)) + 1))))), (qs, .inl (cI, 200, .inl (ia (uI si1 (rg1 hd1) (tk + 1))))), (qr, .inl (cI, 200, .inl (ia rg_7)))] := hD
            have eg := lv_go1 (ti := tk) (pa := pa) (tr := tt) (x := x) (r := P2) (by omega) (by omega)
            rw [eg] at h1 h2 h3
            obtain ⟨V2, eV⟩ : ∃ V2, V2 = V ++ [(tk + 1, x.2.1 + 1, x.2.2)] := ⟨_, rfl⟩
            have hq2 : QC le (uI tr1 (rg1 hd1) (tr1 (rg1 hd1) + 1)) (uI si1 (rg1 hd1) (tk + 1)) rg_7 ((hd1 + 1) % 200) (gr1 - 1 + 1) (tk + 1) (P2 ++ V2) := by
              have hm := hq1.move
              rw [eV, e92, e38, f38]; exact hm
            rw [← f38, ← f92, ← e38] at hq2
            have h12 : (lv tk pa tt L).1 = (lv tk pa tt P2).1 := h1
            have h22 : (lv tk pa tt L).2.1 = V2 ++ (lv tk pa tt P2).2.1 := by rw [eV, List.append_assoc]; exact h2
            have h32 : (lv tk pa tt L).2.2 = lo + (lv tk pa tt P2).2.2 := h3
            have hw2 : wt1 - le (rg1 hd1) = mny P2 := by rw [hw1]; show x.2.2 + mny P2 - _ = _; omega
            have hr2 : rt1 + le (rg1 hd1) = mny V2 := by rw [eV, mny_app, hr1]; show _ = mny V + (x.2.2 + 0); omega
            refine lv_goto (tgt := 126) hx hb dX2_leave_111 (by decide) ?_
            refine q_iinc (k := 6) (lv' := [(5, .int (iI (nn + (-1)))), (6, .int (iI (rg1 hd1))), (0, .ref qu), (1, .int (iI tk)), (2, .int (iI pa)), (3, .int (iI tt)), (4, .int (iI lo))]) hx hb dX2_leave_126 hl rfl (by decide) rfl (fun ls hl => ?_)
            refine lv_goto (tgt := 9) hx hb dX2_leave_129 (by decide) ?_
            exact ih  lo (nn + (-1)) (uI tr1 (rg1 hd1) ((tr1 (rg1 hd1)) + 1)) (uI si1 (rg1 hd1) (tk + 1)) rg_7 hd_3 gr_8 (wt1 - (le (rg1 hd1))) (rt1 + (le (rg1 hd1))) P2 V2 hB_5 hB_6 hB_rg_7 (by exact hq2) (by exact hn2) (by exact h12) (by exact h22) (by exact h32) (by exact hw2) (by exact hr2) (by omega) _ _ hP hD hS _ (lv_sub hl [2, 3, 4, 5, 6, 0] rfl)
  exact L9_0 1000 0 gr tr si rg hd gr wt rt L [] hB_tr hB_si hB_rg (by rw [List.append_nil]; exact hq) (by exact hq.len) (by rfl) (by rfl) (by omega) (by exact hwt) (by exact hrt) (by omega) _ _ hP hD hS _ (lv_sub hl [2, 3, 4, 5, 1, 0] rfl)

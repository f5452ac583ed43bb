theorem in_X7_change_X7 : ∀ w ∈ wsX70, w ∈ wsX7_change := fun _ h => List.mem_cons_of_mem _ (List.mem_append_right _ h)
theorem lk_X7_change_1 : Cond.fieldLink RX7 26 "MoreHandsModel" "plan" "[I" ∈ wsX7_change := List.mem_of_getElem? (i := 1) rfl
theorem lk_X7_change_2 : Cond.fieldLink RX7 7 "MoreHandsModel" "settings" "[I" ∈ wsX7_change := List.mem_of_getElem? (i := 2) rfl
theorem lk_X7_change_3 : Cond.fieldLink RX7 29 "MoreHandsModel" "run" "[I" ∈ wsX7_change := List.mem_of_getElem? (i := 3) rfl
set_option maxHeartbeats 4000000 in
set_option maxRecDepth 100000 in
theorem c_X7_change (l : Launch) (D : va_G) (cI cZ cII : ClassId) (mo : Nat) (m0 : Nat) (m5 : Nat) (m6 : Nat) (m7 : Nat) (m8 : Nat) (m1 : Nat) (m2 : Nat) (m3 : Nat) (m4 : Nat) (m9 : Nat) (m10 : Nat) (m11 : Nat) (m12 : Nat) (m13 : Nat) (m14 : Nat) (m15 : Nat) (m16 : Nat) (m17 : Nat) (m18 : Nat) (m19 : Nat) (aa : Int) (m21 : Nat) (se : Int → Int) (pl : Int → Int) (ru : Int → Int) (st : Int → Int) (sn : Int → Int) (ti : Int) (hB_se : BB 0 1000 se) (hB_pl : BB 0 12 pl) (hB_st : BB 0 3 st) (hB_sn : BB 0 200 sn) (hp_ti : 0 ≤ ti ∧ ti ≤ 199) (hse : SB se) (hr4 : 0 ≤ ru 4 ∧ ru 4 ≤ 12000) (hr6 : -1 ≤ ru 6 ∧ ru 6 ≤ 200) : CtV l yX7_change wsX7_change 3 65 D (ty3 cI cZ cII) [.ref mo, .int (iI ti)] [(mo, .inr (7, [.ref m0, .ref m1, .ref m2, .ref m3, .ref m4, .ref m5, .ref m6, .ref m7, .ref m8, .ref m9, .ref m10, .ref m11, .ref m12, .ref m13, .ref m14, .ref m15, .ref m16, .ref m17, .ref m18, .ref m19, .int (iI aa), .ref m21])), (m0, .inl (cI, 19, .inl (ia se))), (m5, .inl (cI, 24, .inl (ia pl))), (m6, .inl (cI, 8, .inl (ia ru))), (m7, .inl (cI, 12, .inl (ia st))), (m8, .inl (cI, 12, .inl (ia sn)))] (fun (u : (Int → Int) × (Int → Int) × (Int → Int)) => u.1 = uI (uI ru 5 (bdF se pl (wbF se st (ru 4)) ti)) 6 (if 0 < chN st (glF se pl st (bdF se pl (wbF se st (ru 4)) ti) (ru 6) ti) then ti else ru 6) ∧ u.2.1 = chS st (glF se pl st (bdF se pl (wbF se st (ru 4)) ti) (ru 6) ti) ∧ u.2.2 = chG st sn (glF se pl st (bdF se pl (wbF se st (ru 4)) ti) (ru 6) ti) ti ∧ BB 0 3 u.2.1 ∧ BB 0 200 u.2.2) (fun u => [(mo, .inr (7, [.ref m0, .ref m1, .ref m2, .ref m3, .ref m4, .ref m5, .ref m6, .ref m7, .ref m8, .ref m9, .ref m10, .ref m11, .ref m12, .ref m13, .ref m14, .ref m15, .ref m16, .ref m17, .ref m18, .ref m19, .int (iI aa), .ref m21])), (m0, .inl (cI, 19, .inl (ia se))), (m5, .inl (cI, 24, .inl (ia pl))), (m6, .inl (cI, 8, .inl (ia u.1))), (m7, .inl (cI, 12, .inl (ia u.2.1))), (m8, .inl (cI, 12, .inl (ia u.2.2)))]) := by
  refine CtV.mk (cc := cX7_change) (maxL := 8) (ret := none) (by decide) rfl (Nat.le_of_ble_eq_true rfl) ?_
  intro p e s m below meth c A ls R args Q hx hb hml hr hts hown hlocks hA hK hP hD hN hS hl hRf hRl hQ
  have hl : lv_has ls 8 [(0, .ref mo), (1, .int (iI ti))] := hl
  have hown : s.vm.findClass RX7 = some m.cls := hown
  have hsb := hse; unfold SB at hsb
  have hub := upS_b st
  have hwb := wbF_b (st := st) hse hr4
  have hbp := hB_pl (ti % 24)
  have hbd := bdF_b (wa := wbF se st (ru 4)) (ti := ti) hse hB_pl
  refine lv_aload_n hx hb dX7_change_0 rfl (lv_at hl 0 rfl) ?_
  refine va_get (D := D) (ci := 7) (v := .ref m5) (C := RX7) (T := TX7) (N := 22) hx hb hts in_X7_change_X7 hown hK hP 0 rfl rfl 5 (by decide) (hts _ lk_X7_change_1) (fun _ h9 => h9) rfl dX7_change_1 ?_
  refine lv_iload_n hx hb dX7_change_4 rfl (lv_at hl 1 rfl) ?_
  refine lv_bipush (v := iI 24) hx hb dX7_change_5 (by decide +kernel) ?_
  refine q_irem hx hb dX7_change_7 ⟨by omega, by omega⟩ ⟨by omega, by omega⟩ ?_
  refine q_iald hx hb hK hP 2 0 rfl rfl (by omega) (by omega) (by decide) dX7_change_8 ?_
  have hb8 := hB_pl (ti % 24)
  refine lv_aload_n hx hb dX7_change_9 rfl (lv_at hl 0 rfl) ?_
  refine va_get (D := D) (ci := 7) (v := .ref m0) (C := RX7) (T := TX7) (N := 22) hx hb hts in_X7_change_X7 hown hK hP 0 rfl rfl 0 (by decide) (hts _ lk_X7_change_2) (fun _ h9 => h9) rfl dX7_change_10 ?_
  refine lv_bipush (v := iI 7) hx hb dX7_change_13 (by decide +kernel) ?_
  refine q_iald hx hb hK hP 1 0 rfl rfl (by omega) (by omega) (by decide) dX7_change_15 ?_
  have hb15 := hB_se 7
  refine q_callSI (wr := [(mo, .inr (7, [.ref m0, .ref m1, .ref m2, .ref m3, .ref m4, .ref m5, .ref m6, .ref m7, .ref m8, .ref m9, .ref m10, .ref m11, .ref m12, .ref m13, .ref m14, .ref m15, .ref m16, .ref m17, .ref m18, .ref m19, .int (iI aa), .ref m21])), (m0, .inl (cI, 19, .inl (ia se))), (m5, .inl (cI, 24, .inl (ia pl))), (m6, .inl (cI, 8, .inl (ia ru))), (m7, .inl (cI, 12, .inl (ia st))), (m8, .inl (cI, 12, .inl (ia sn)))]) (wn := fun (u : Unit) => [(mo, .inr (7, [.ref m0, .ref m1, .ref m2, .ref m3, .ref m4, .ref m5, .ref m6, .ref m7, .ref m8, .ref m9, .ref m10, .ref m11, .ref m12, .ref m13, .ref m14, .ref m15, .ref m16, .ref m17, .ref m18, .ref m19, .int (iI aa), .ref m21])), (m0, .inl (cI, 19, .inl (ia se))), (m5, .inl (cI, 24, .inl (ia pl))), (m6, .inl (cI, 8, .inl (ia ru))), (m7, .inl (cI, 12, .inl (ia st))), (m8, .inl (cI, 12, .inl (ia sn)))]) (rest := []) [.int (iI (pl (ti % 24))), .int (iI (se 7))] ⟨hx, hb, hml, hown, hts⟩ (c_X7_most l D cI cZ cII (pl (ti % 24)) (se 7) ⟨by omega, by omega⟩ ⟨by omega, by omega⟩) (va_cwS 2 hts gX7_change_X7_most rfl rfl rfl (by decide +kernel) (by rw [hRf, hRl]; exact ⟨Nat.le_of_ble_eq_true rfl, Nat.le_of_ble_eq_true rfl⟩)) hK hP hD hS hA hN [] [0, 1, 2, 3, 4, 5] [0, 1, 2, 3, 4, 5] rfl rfl rfl rfl (by decide) rfl (fun u => rfl) rfl hl.1 rfl (Nat.le_of_ble_eq_true rfl) dX7_change_16 ⟨Nat.zero_le _, Nat.zero_le _⟩ (fun z u H locs hw hP hD hS => ?_)
  have hP : va_P D vwCl [(mo, .inr (7, [.ref m0, .ref m1, .ref m2, .ref m3, .ref m4, .ref m5, .ref m6, .ref m7, .ref m8, .ref m9, .ref m10, .ref m11, .ref m12, .ref m13, .ref m14, .ref m15, .ref m16, .ref m17, .ref m18, .ref m19, .int (iI aa), .ref m21])), (m0, .inl (cI, 19, .inl (ia se))), (m5, .inl (cI, 24, .inl (ia pl))), (m6, .inl (cI, 8, .inl (ia ru))), (m7, .inl (cI, 12, .inl (ia st))), (m8, .inl (cI, 12, .inl (ia sn)))] H := hP
  have hD : va_D A [(mo, .inr (7, [.ref m0, .ref m1, .ref m2, .ref m3, .ref m4, .ref m5, .ref m6, .ref m7, .ref m8, .ref m9, .ref m10, .ref m11, .ref m12, .ref m13, .ref m14, .ref m15, .ref m16, .ref m17, .ref m18, .ref m19, .int (iI aa), .ref m21])), (m0, .inl (cI, 19, .inl (ia se))), (m5, .inl (cI, 24, .inl (ia pl))), (m6, .inl (cI, 8, .inl (ia ru))), (m7, .inl (cI, 12, .inl (ia st))), (m8, .inl (cI, 12, .inl (ia sn)))] := hD
  obtain ⟨z_1, ez⟩ : ∃ y : Int, y = z := ⟨_, rfl⟩
  rw [← ez] at hw ⊢
  clear ez
  have w16 : z_1 = (max (pl (ti % 24)) (se 7)) := hw
  clear hw
  subst w16
  refine lv_aload_n hx hb dX7_change_19 rfl (lv_at hl 0 rfl) ?_
  refine va_get (D := D) (ci := 7) (v := .ref m0) (C := RX7) (T := TX7) (N := 22) hx hb hts in_X7_change_X7 hown hK hP 0 rfl rfl 0 (by decide) (hts _ lk_X7_change_2) (fun _ h9 => h9) rfl dX7_change_20 ?_
  refine lv_bipush (v := iI 8) hx hb dX7_change_23 (by decide +kernel) ?_
  refine q_iald hx hb hK hP 1 0 rfl rfl (by omega) (by omega) (by decide) dX7_change_25 ?_
  have hb25 := hB_se 8
  refine q_callSI (wr := [(mo, .inr (7, [.ref m0, .ref m1, .ref m2, .ref m3, .ref m4, .ref m5, .ref m6, .ref m7, .ref m8, .ref m9, .ref m10, .ref m11, .ref m12, .ref m13, .ref m14, .ref m15, .ref m16, .ref m17, .ref m18, .ref m19, .int (iI aa), .ref m21])), (m0, .inl (cI, 19, .inl (ia se))), (m5, .inl (cI, 24, .inl (ia pl))), (m6, .inl (cI, 8, .inl (ia ru))), (m7, .inl (cI, 12, .inl (ia st))), (m8, .inl (cI, 12, .inl (ia sn)))]) (wn := fun (u : Unit) => [(mo, .inr (7, [.ref m0, .ref m1, .ref m2, .ref m3, .ref m4, .ref m5, .ref m6, .ref m7, .ref m8, .ref m9, .ref m10, .ref m11, .ref m12, .ref m13, .ref m14, .ref m15, .ref m16, .ref m17, .ref m18, .ref m19, .int (iI aa), .ref m21])), (m0, .inl (cI, 19, .inl (ia se))), (m5, .inl (cI, 24, .inl (ia pl))), (m6, .inl (cI, 8, .inl (ia ru))), (m7, .inl (cI, 12, .inl (ia st))), (m8, .inl (cI, 12, .inl (ia sn)))]) (rest := []) [.int (iI (max (pl (ti % 24)) (se 7))), .int (iI (se 8))] ⟨hx, hb, hml, hown, hts⟩ (c_X7_least l D cI cZ cII (max (pl (ti % 24)) (se 7)) (se 8) ⟨by omega, by omega⟩ ⟨by omega, by omega⟩) (va_cwS 2 hts gX7_change_X7_least rfl rfl rfl (by decide +kernel) (by rw [hRf, hRl]; exact ⟨Nat.le_of_ble_eq_true rfl, Nat.le_of_ble_eq_true rfl⟩)) hK hP hD hS hA hN [] [0, 1, 2, 3, 4, 5] [0, 1, 2, 3, 4, 5] rfl rfl rfl rfl (by decide) rfl (fun u => rfl) rfl hl.1 rfl (Nat.le_of_ble_eq_true rfl) dX7_change_26 ⟨Nat.zero_le _, Nat.zero_le _⟩ (fun z u H locs hw hP hD hS => ?_)
  have hP : va_P D vwCl [(mo, .inr (7, [.ref m0, .ref m1, .ref m2, .ref m3, .ref m4, .ref m5, .ref m6, .ref m7, .ref m8, .ref m9, .ref m10, .ref m11, .ref m12, .ref m13, .ref m14, .ref m15, .ref m16, .ref m17, .ref m18, .ref m19, .int (iI aa), .ref m21])), (m0, .inl (cI, 19, .inl (ia se))), (m5, .inl (cI, 24, .inl (ia pl))), (m6, .inl (cI, 8, .inl (ia ru))), (m7, .inl (cI, 12, .inl (ia st))), (m8, .inl (cI, 12, .inl (ia sn)))] H := hP
  have hD : va_D A [(mo, .inr (7, [.ref m0, .ref m1, .ref m2, .ref m3, .ref m4, .ref m5, .ref m6, .ref m7, .ref m8, .ref m9, .ref m10, .ref m11, .ref m12, .ref m13, .ref m14, .ref m15, .ref m16, .ref m17, .ref m18, .ref m19, .int (iI aa), .ref m21])), (m0, .inl (cI, 19, .inl (ia se))), (m5, .inl (cI, 24, .inl (ia pl))), (m6, .inl (cI, 8, .inl (ia ru))), (m7, .inl (cI, 12, .inl (ia st))), (m8, .inl (cI, 12, .inl (ia sn)))] := hD
  obtain ⟨z_2, ez⟩ : ∃ y : Int, y = z := ⟨_, rfl⟩
  rw [← ez] at hw ⊢
  clear ez
  have w26 : z_2 = (min (max (pl (ti % 24)) (se 7)) (se 8)) := hw
  clear hw
  subst w26
  refine lv_istore_n (lv' := [(2, .int (iI (min (max (pl (ti % 24)) (se 7)) (se 8)))), (0, .ref mo), (1, .int (iI ti))]) hx hb dX7_change_29 rfl hl (by decide) rfl (fun ls hl => ?_)
  refine lv_aload_n hx hb dX7_change_30 rfl (lv_at hl 1 rfl) ?_
  refine q_callVI (wr := [(m5, .inl (cI, 24, .inl (ia pl))), (m8, .inl (cI, 12, .inl (ia sn)))]) (wn := fun (u : Unit) => [(mo, .inr (7, [.ref m0, .ref m1, .ref m2, .ref m3, .ref m4, .ref m5, .ref m6, .ref m7, .ref m8, .ref m9, .ref m10, .ref m11, .ref m12, .ref m13, .ref m14, .ref m15, .ref m16, .ref m17, .ref m18, .ref m19, .int (iI aa), .ref m21])), (m0, .inl (cI, 19, .inl (ia se))), (m5, .inl (cI, 24, .inl (ia pl))), (m6, .inl (cI, 8, .inl (ia ru))), (m7, .inl (cI, 12, .inl (ia st))), (m8, .inl (cI, 12, .inl (ia sn)))]) (rest := []) [] ⟨hx, hb, hml, hown, hts⟩ (c_X7_wantedBy l D cI cZ cII mo m0 m6 m7 m1 m2 m3 m4 m5 m8 m9 m10 m11 m12 m13 m14 m15 m16 m17 m18 m19 aa m21 se ru st hB_se hB_st (by assumption) (by exact hr4)) (cwV 0 hts gX7_change_X7_wantedBy rfl rfl rfl (by decide +kernel) (by rw [hRf, hRl]; exact ⟨Nat.le_of_ble_eq_true rfl, Nat.le_of_ble_eq_true rfl⟩)) hK hP hD hS hA hN [0, 1, 3, 4] [2, 5] [2, 3, 0, 4, 5, 1] 0 7 rfl rfl rfl rfl rfl rfl (by decide) rfl (fun u => rfl) rfl hl.1 rfl (Nat.le_of_ble_eq_true rfl) dX7_change_31 ⟨Nat.zero_le _, Nat.zero_le _⟩ (fun z u H locs hw hP hD hS => ?_)
  have hP : va_P D vwCl [(mo, .inr (7, [.ref m0, .ref m1, .ref m2, .ref m3, .ref m4, .ref m5, .ref m6, .ref m7, .ref m8, .ref m9, .ref m10, .ref m11, .ref m12, .ref m13, .ref m14, .ref m15, .ref m16, .ref m17, .ref m18, .ref m19, .int (iI aa), .ref m21])), (m0, .inl (cI, 19, .inl (ia se))), (m5, .inl (cI, 24, .inl (ia pl))), (m6, .inl (cI, 8, .inl (ia ru))), (m7, .inl (cI, 12, .inl (ia st))), (m8, .inl (cI, 12, .inl (ia sn)))] H := hP
  have hD : va_D A [(mo, .inr (7, [.ref m0, .ref m1, .ref m2, .ref m3, .ref m4, .ref m5, .ref m6, .ref m7, .ref m8, .ref m9, .ref m10, .ref m11, .ref m12, .ref m13, .ref m14, .ref m15, .ref m16, .ref m17, .ref m18, .ref m19, .int (iI aa), .ref m21])), (m0, .inl (cI, 19, .inl (ia se))), (m5, .inl (cI, 24, .inl (ia pl))), (m6, .inl (cI, 8, .inl (ia ru))), (m7, .inl (cI, 12, .inl (ia st))), (m8, .inl (cI, 12, .inl (ia sn)))] := hD
  obtain ⟨z_3, ez⟩ : ∃ y : Int, y = z := ⟨_, rfl⟩
  rw [← ez] at hw ⊢
  clear ez
  have w31 : z_3 = (wbF se st (ru 4)) := hw
  clear hw
  subst w31
  refine lv_aload_n hx hb dX7_change_34 rfl (lv_at hl 1 rfl) ?_
  refine va_get (D := D) (ci := 7) (v := .ref m5) (C := RX7) (T := TX7) (N := 22) hx hb hts in_X7_change_X7 hown hK hP 0 rfl rfl 5 (by decide) (hts _ lk_X7_change_1) (fun _ h9 => h9) rfl dX7_change_35 ?_
  refine lv_iload_n hx hb dX7_change_38 rfl (lv_at hl 2 rfl) ?_
  refine lv_bipush (v := iI 24) hx hb dX7_change_39 (by decide +kernel) ?_
  refine q_irem hx hb dX7_change_41 ⟨by omega, by omega⟩ ⟨by omega, by omega⟩ ?_
  refine q_iald hx hb hK hP 2 0 rfl rfl (by omega) (by omega) (by decide) dX7_change_42 ?_
  have hb42 := hB_pl (ti % 24)
  refine lv_aload_n hx hb dX7_change_43 rfl (lv_at hl 1 rfl) ?_
  refine va_get (D := D) (ci := 7) (v := .ref m0) (C := RX7) (T := TX7) (N := 22) hx hb hts in_X7_change_X7 hown hK hP 0 rfl rfl 0 (by decide) (hts _ lk_X7_change_2) (fun _ h9 => h9) rfl dX7_change_44 ?_
  refine lv_bipush (v := iI 7) hx hb dX7_change_47 (by decide +kernel) ?_
  refine q_iald hx hb hK hP 1 0 rfl rfl (by omega) (by omega) (by decide) dX7_change_49 ?_
  have hb49 := hB_se 7
  refine q_callSI (wr := [(mo, .inr (7, [.ref m0, .ref m1, .ref m2, .ref m3, .ref m4, .ref m5, .ref m6, .ref m7, .ref m8, .ref m9, .ref m10, .ref m11, .ref m12, .ref m13, .ref m14, .ref m15, .ref m16, .ref m17, .ref m18, .ref m19, .int (iI aa), .ref m21])), (m0, .inl (cI, 19, .inl (ia se))), (m5, .inl (cI, 24, .inl (ia pl))), (m6, .inl (cI, 8, .inl (ia ru))), (m7, .inl (cI, 12, .inl (ia st))), (m8, .inl (cI, 12, .inl (ia sn)))]) (wn := fun (u : Unit) => [(mo, .inr (7, [.ref m0, .ref m1, .ref m2, .ref m3, .ref m4, .ref m5, .ref m6, .ref m7, .ref m8, .ref m9, .ref m10, .ref m11, .ref m12, .ref m13, .ref m14, .ref m15, .ref m16, .ref m17, .ref m18, .ref m19, .int (iI aa), .ref m21])), (m0, .inl (cI, 19, .inl (ia se))), (m5, .inl (cI, 24, .inl (ia pl))), (m6, .inl (cI, 8, .inl (ia ru))), (m7, .inl (cI, 12, .inl (ia st))), (m8, .inl (cI, 12, .inl (ia sn)))]) (rest := [.int (iI (wbF se st (ru 4)))]) [.int (iI (pl (ti % 24))), .int (iI (se 7))] ⟨hx, hb, hml, hown, hts⟩ (c_X7_most l D cI cZ cII (pl (ti % 24)) (se 7) ⟨by omega, by omega⟩ ⟨by omega, by omega⟩) (va_cwS 2 hts gX7_change_X7_most rfl rfl rfl (by decide +kernel) (by rw [hRf, hRl]; exact ⟨Nat.le_of_ble_eq_true rfl, Nat.le_of_ble_eq_true rfl⟩)) hK hP hD hS hA hN [] [0, 1, 2, 3, 4, 5] [0, 1, 2, 3, 4, 5] rfl rfl rfl rfl (by decide) rfl (fun u => rfl) rfl hl.1 rfl (Nat.le_of_ble_eq_true rfl) dX7_change_50 ⟨Nat.zero_le _, Nat.zero_le _⟩ (fun z u H locs hw hP hD hS => ?_)
  have hP : va_P D vwCl [(mo, .inr (7, [.ref m0, .ref m1, .ref m2, .ref m3, .ref m4, .ref m5, .ref m6, .ref m7, .ref m8, .ref m9, .ref m10, .ref m11, .ref m12, .ref m13, .ref m14, .ref m15, .ref m16, .ref m17, .ref m18, .ref m19, .int (iI aa), .ref m21])), (m0, .inl (cI, 19, .inl (ia se))), (m5, .inl (cI, 24, .inl (ia pl))), (m6, .inl (cI, 8, .inl (ia ru))), (m7, .inl (cI, 12, .inl (ia st))), (m8, .inl (cI, 12, .inl (ia sn)))] H := hP
  have hD : va_D A [(mo, .inr (7, [.ref m0, .ref m1, .ref m2, .ref m3, .ref m4, .ref m5, .ref m6, .ref m7, .ref m8, .ref m9, .ref m10, .ref m11, .ref m12, .ref m13, .ref m14, .ref m15, .ref m16, .ref m17, .ref m18, .ref m19, .int (iI aa), .ref m21])), (m0, .inl (cI, 19, .inl (ia se))), (m5, .inl (cI, 24, .inl (ia pl))), (m6, .inl (cI, 8, .inl (ia ru))), (m7, .inl (cI, 12, .inl (ia st))), (m8, .inl (cI, 12, .inl (ia sn)))] := hD
  obtain ⟨z_4, ez⟩ : ∃ y : Int, y = z := ⟨_, rfl⟩
  rw [← ez] at hw ⊢
  clear ez
  have w50 : z_4 = (max (pl (ti % 24)) (se 7)) := hw
  clear hw
  subst w50
  refine q_callSI (wr := [(mo, .inr (7, [.ref m0, .ref m1, .ref m2, .ref m3, .ref m4, .ref m5, .ref m6, .ref m7, .ref m8, .ref m9, .ref m10, .ref m11, .ref m12, .ref m13, .ref m14, .ref m15, .ref m16, .ref m17, .ref m18, .ref m19, .int (iI aa), .ref m21])), (m0, .inl (cI, 19, .inl (ia se))), (m5, .inl (cI, 24, .inl (ia pl))), (m6, .inl (cI, 8, .inl (ia ru))), (m7, .inl (cI, 12, .inl (ia st))), (m8, .inl (cI, 12, .inl (ia sn)))]) (wn := fun (u : Unit) => [(mo, .inr (7, [.ref m0, .ref m1, .ref m2, .ref m3, .ref m4, .ref m5, .ref m6, .ref m7, .ref m8, .ref m9, .ref m10, .ref m11, .ref m12, .ref m13, .ref m14, .ref m15, .ref m16, .ref m17, .ref m18, .ref m19, .int (iI aa), .ref m21])), (m0, .inl (cI, 19, .inl (ia se))), (m5, .inl (cI, 24, .inl (ia pl))), (m6, .inl (cI, 8, .inl (ia ru))), (m7, .inl (cI, 12, .inl (ia st))), (m8, .inl (cI, 12, .inl (ia sn)))]) (rest := []) [.int (iI (wbF se st (ru 4))), .int (iI (max (pl (ti % 24)) (se 7)))] ⟨hx, hb, hml, hown, hts⟩ (c_X7_most l D cI cZ cII (wbF se st (ru 4)) (max (pl (ti % 24)) (se 7)) ⟨by omega, by omega⟩ ⟨by omega, by omega⟩) (va_cwS 2 hts gX7_change_X7_most rfl rfl rfl (by decide +kernel) (by rw [hRf, hRl]; exact ⟨Nat.le_of_ble_eq_true rfl, Nat.le_of_ble_eq_true rfl⟩)) hK hP hD hS hA hN [] [0, 1, 2, 3, 4, 5] [0, 1, 2, 3, 4, 5] rfl rfl rfl rfl (by decide) rfl (fun u => rfl) rfl hl.1 rfl (Nat.le_of_ble_eq_true rfl) dX7_change_53 ⟨Nat.zero_le _, Nat.zero_le _⟩ (fun z u H locs hw hP hD hS => ?_)
  have hP : va_P D vwCl [(mo, .inr (7, [.ref m0, .ref m1, .ref m2, .ref m3, .ref m4, .ref m5, .ref m6, .ref m7, .ref m8, .ref m9, .ref m10, .ref m11, .ref m12, .ref m13, .ref m14, .ref m15, .ref m16, .ref m17, .ref m18, .ref m19, .int (iI aa), .ref m21])), (m0, .inl (cI, 19, .inl (ia se))), (m5, .inl (cI, 24, .inl (ia pl))), (m6, .inl (cI, 8, .inl (ia ru))), (m7, .inl (cI, 12, .inl (ia st))), (m8, .inl (cI, 12, .inl (ia sn)))] H := hP
  have hD : va_D A [(mo, .inr (7, [.ref m0, .ref m1, .ref m2, .ref m3, .ref m4, .ref m5, .ref m6, .ref m7, .ref m8, .ref m9, .ref m10, .ref m11, .ref m12, .ref m13, .ref m14, .ref m15, .ref m16, .ref m17, .ref m18, .ref m19, .int (iI aa), .ref m21])), (m0, .inl (cI, 19, .inl (ia se))), (m5, .inl (cI, 24, .inl (ia pl))), (m6, .inl (cI, 8, .inl (ia ru))), (m7, .inl (cI, 12, .inl (ia st))), (m8, .inl (cI, 12, .inl (ia sn)))] := hD
  obtain ⟨z_5, ez⟩ : ∃ y : Int, y = z := ⟨_, rfl⟩
  rw [← ez] at hw ⊢
  clear ez
  have w53 : z_5 = (max (wbF se st (ru 4)) (max (pl (ti % 24)) (se 7))) := hw
  clear hw
  subst w53
  refine lv_aload_n hx hb dX7_change_56 rfl (lv_at hl 1 rfl) ?_
  refine va_get (D := D) (ci := 7) (v := .ref m0) (C := RX7) (T := TX7) (N := 22) hx hb hts in_X7_change_X7 hown hK hP 0 rfl rfl 0 (by decide) (hts _ lk_X7_change_2) (fun _ h9 => h9) rfl dX7_change_57 ?_
  refine lv_bipush (v := iI 8) hx hb dX7_change_60 (by decide +kernel) ?_
  refine q_iald hx hb hK hP 1 0 rfl rfl (by omega) (by omega) (by decide) dX7_change_62 ?_
  have hb62 := hB_se 8
  refine q_callSI (wr := [(mo, .inr (7, [.ref m0, .ref m1, .ref m2, .ref m3, .ref m4, .ref m5, .ref m6, .ref m7, .ref m8, .ref m9, .ref m10, .ref m11, .ref m12, .ref m13, .ref m14, .ref m15, .ref m16, .ref m17, .ref m18, .ref m19, .int (iI aa), .ref m21])), (m0, .inl (cI, 19, .inl (ia se))), (m5, .inl (cI, 24, .inl (ia pl))), (m6, .inl (cI, 8, .inl (ia ru))), (m7, .inl (cI, 12, .inl (ia st))), (m8, .inl (cI, 12, .inl (ia sn)))]) (wn := fun (u : Unit) => [(mo, .inr (7, [.ref m0, .ref m1, .ref m2, .ref m3, .ref m4, .ref m5, .ref m6, .ref m7, .ref m8, .ref m9, .ref m10, .ref m11, .ref m12, .ref m13, .ref m14, .ref m15, .ref m16, .ref m17, .ref m18, .ref m19, .int (iI aa), .ref m21])), (m0, .inl (cI, 19, .inl (ia se))), (m5, .inl (cI, 24, .inl (ia pl))), (m6, .inl (cI, 8, .inl (ia ru))), (m7, .inl (cI, 12, .inl (ia st))), (m8, .inl (cI, 12, .inl (ia sn)))]) (rest := []) [.int (iI (max (wbF se st (ru 4)) (max (pl (ti % 24)) (se 7)))), .int (iI (se 8))] ⟨hx, hb, hml, hown, hts⟩ (c_X7_least l D cI cZ cII (max (wbF se st (ru 4)) (max (pl (ti % 24)) (se 7))) (se 8) ⟨by omega, by omega⟩ ⟨by omega, by omega⟩) (va_cwS 2 hts gX7_change_X7_least rfl rfl rfl (by decide +kernel) (by rw [hRf, hRl]; exact ⟨Nat.le_of_ble_eq_true rfl, Nat.le_of_ble_eq_true rfl⟩)) hK hP hD hS hA hN [] [0, 1, 2, 3, 4, 5] [0, 1, 2, 3, 4, 5] rfl rfl rfl rfl (by decide) rfl (fun u => rfl) rfl hl.1 rfl (Nat.le_of_ble_eq_true rfl) dX7_change_63 ⟨Nat.zero_le _, Nat.zero_le _⟩ (fun z u H locs hw hP hD hS => ?_)
  have hP : va_P D vwCl [(mo, .inr (7, [.ref m0, .ref m1, .ref m2, .ref m3, .ref m4, .ref m5, .ref m6, .ref m7, .ref m8, .ref m9, .ref m10, .ref m11, .ref m12, .ref m13, .ref m14, .ref m15, .ref m16, .ref m17, .ref m18, .ref m19, .int (iI aa), .ref m21])), (m0, .inl (cI, 19, .inl (ia se))), (m5, .inl (cI, 24, .inl (ia pl))), (m6, .inl (cI, 8, .inl (ia ru))), (m7, .inl (cI, 12, .inl (ia st))), (m8, .inl (cI, 12, .inl (ia sn)))] H := hP
  have hD : va_D A [(mo, .inr (7, [.ref m0, .ref m1, .ref m2, .ref m3, .ref m4, .ref m5, .ref m6, .ref m7, .ref m8, .ref m9, .ref m10, .ref m11, .ref m12, .ref m13, .ref m14, .ref m15, .ref m16, .ref m17, .ref m18, .ref m19, .int (iI aa), .ref m21])), (m0, .inl (cI, 19, .inl (ia se))), (m5, .inl (cI, 24, .inl (ia pl))), (m6, .inl (cI, 8, .inl (ia ru))), (m7, .inl (cI, 12, .inl (ia st))), (m8, .inl (cI, 12, .inl (ia sn)))] := hD
  obtain ⟨z_6, ez⟩ : ∃ y : Int, y = z := ⟨_, rfl⟩
  rw [← ez] at hw ⊢
  clear ez
  have w63 : z_6 = (min (max (wbF se st (ru 4)) (max (pl (ti % 24)) (se 7))) (se 8)) := hw
  clear hw
  subst w63
  have hX : (min (max (wbF se st (ru 4)) (max (pl (ti % 24)) (se 7))) (se 8)) = (bdF se pl (wbF se st (ru 4)) ti) := by unfold bdF; rfl
  refine lv_istore_n (lv' := [(3, .int (iI (min (max (wbF se st (ru 4)) (max (pl (ti % 24)) (se 7))) (se 8)))), (2, .int (iI (min (max (pl (ti % 24)) (se 7)) (se 8)))), (0, .ref mo), (1, .int (iI ti))]) hx hb dX7_change_66 rfl hl (by decide) rfl (fun ls hl => ?_)
  refine lv_aload_n hx hb dX7_change_67 rfl (lv_at hl 2 rfl) ?_
  refine va_get (D := D) (ci := 7) (v := .ref m6) (C := RX7) (T := TX7) (N := 22) hx hb hts in_X7_change_X7 hown hK hP 0 rfl rfl 6 (by decide) (hts _ lk_X7_change_3) (fun _ h9 => h9) rfl dX7_change_68 ?_
  refine lv_iconst (v := iI 5) hx hb dX7_change_71 rfl ?_
  refine lv_iload_n hx hb dX7_change_72 rfl (lv_at hl 0 rfl) ?_
  refine q_iast hx hb hK hP hD hS 3 0 rfl rfl (by omega) (by omega) (by decide) dX7_change_73 (fun H locs hP hD hS => ?_)
  have hP : va_P D vwCl [(mo, .inr (7, [.ref m0, .ref m1, .ref m2, .ref m3, .ref m4, .ref m5, .ref m6, .ref m7, .ref m8, .ref m9, .ref m10, .ref m11, .ref m12, .ref m13, .ref m14, .ref m15, .ref m16, .ref m17, .ref m18, .ref m19, .int (iI aa), .ref m21])), (m0, .inl (cI, 19, .inl (ia se))), (m5, .inl (cI, 24, .inl (ia pl))), (m6, .inl (cI, 8, .inl (ia (uI ru 5 (min (max (wbF se st (ru 4)) (max (pl (ti % 24)) (se 7))) (se 8)))))), (m7, .inl (cI, 12, .inl (ia st))), (m8, .inl (cI, 12, .inl (ia sn)))] H := hP
  have hD : va_D A [(mo, .inr (7, [.ref m0, .ref m1, .ref m2, .ref m3, .ref m4, .ref m5, .ref m6, .ref m7, .ref m8, .ref m9, .ref m10, .ref m11, .ref m12, .ref m13, .ref m14, .ref m15, .ref m16, .ref m17, .ref m18, .ref m19, .int (iI aa), .ref m21])), (m0, .inl (cI, 19, .inl (ia se))), (m5, .inl (cI, 24, .inl (ia pl))), (m6, .inl (cI, 8, .inl (ia (uI ru 5 (min (max (wbF se st (ru 4)) (max (pl (ti % 24)) (se 7))) (se 8)))))), (m7, .inl (cI, 12, .inl (ia st))), (m8, .inl (cI, 12, .inl (ia sn)))] := hD
  refine lv_aload_n hx hb dX7_change_74 rfl (lv_at hl 2 rfl) ?_
  refine q_callVI (wr := [(m0, .inl (cI, 19, .inl (ia se))), (m5, .inl (cI, 24, .inl (ia pl))), (m6, .inl (cI, 8, .inl (ia (uI ru 5 (min (max (wbF se st (ru 4)) (max (pl (ti % 24)) (se 7))) (se 8)))))), (m8, .inl (cI, 12, .inl (ia sn)))]) (wn := fun (u : Unit) => [(mo, .inr (7, [.ref m0, .ref m1, .ref m2, .ref m3, .ref m4, .ref m5, .ref m6, .ref m7, .ref m8, .ref m9, .ref m10, .ref m11, .ref m12, .ref m13, .ref m14, .ref m15, .ref m16, .ref m17, .ref m18, .ref m19, .int (iI aa), .ref m21])), (m0, .inl (cI, 19, .inl (ia se))), (m5, .inl (cI, 24, .inl (ia pl))), (m6, .inl (cI, 8, .inl (ia (uI ru 5 (min (max (wbF se st (ru 4)) (max (pl (ti % 24)) (se 7))) (se 8)))))), (m7, .inl (cI, 12, .inl (ia st))), (m8, .inl (cI, 12, .inl (ia sn)))]) (rest := []) [] ⟨hx, hb, hml, hown, hts⟩ (c_X7_up l D cI cZ cII mo m7 m0 m1 m2 m3 m4 m5 m6 m8 m9 m10 m11 m12 m13 m14 m15 m16 m17 m18 m19 aa m21 st hB_st) (cwV 0 hts gX7_change_X7_up rfl rfl rfl (by decide +kernel) (by rw [hRf, hRl]; exact ⟨Nat.le_of_ble_eq_true rfl, Nat.le_of_ble_eq_true rfl⟩)) hK hP hD hS hA hN [0, 4] [1, 2, 3, 5] [4, 0, 1, 2, 5, 3] 0 7 rfl rfl rfl rfl rfl rfl (by decide) rfl (fun u => rfl) rfl hl.1 rfl (Nat.le_of_ble_eq_true rfl) dX7_change_75 ⟨Nat.zero_le _, Nat.zero_le _⟩ (fun z u H locs hw hP hD hS => ?_)
  have hP : va_P D vwCl [(mo, .inr (7, [.ref m0, .ref m1, .ref m2, .ref m3, .ref m4, .ref m5, .ref m6, .ref m7, .ref m8, .ref m9, .ref m10, .ref m11, .ref m12, .ref m13, .ref m14, .ref m15, .ref m16, .ref m17, .ref m18, .ref m19, .int (iI aa), .ref m21])), (m0, .inl (cI, 19, .inl (ia se))), (m5, .inl (cI, 24, .inl (ia pl))), (m6, .inl (cI, 8, .inl (ia (uI ru 5 (min (max (wbF se st (ru 4)) (max (pl (ti % 24)) (se 7))) (se 8)))))), (m7, .inl (cI, 12, .inl (ia st))), (m8, .inl (cI, 12, .inl (ia sn)))] H := hP
  have hD : va_D A [(mo, .inr (7, [.ref m0, .ref m1, .ref m2, .ref m3, .ref m4, .ref m5, .ref m6, .ref m7, .ref m8, .ref m9, .ref m10, .ref m11, .ref m12, .ref m13, .ref m14, .ref m15, .ref m16, .ref m17, .ref m18, .ref m19, .int (iI aa), .ref m21])), (m0, .inl (cI, 19, .inl (ia se))), (m5, .inl (cI, 24, .inl (ia pl))), (m6, .inl (cI, 8, .inl (ia (uI ru 5 (min (max (wbF se st (ru 4)) (max (pl (ti % 24)) (se 7))) (se 8)))))), (m7, .inl (cI, 12, .inl (ia st))), (m8, .inl (cI, 12, .inl (ia sn)))] := hD
  obtain ⟨z_7, ez⟩ : ∃ y : Int, y = z := ⟨_, rfl⟩
  rw [← ez] at hw ⊢
  clear ez
  have w75 : z_7 = (upS st) := hw
  clear hw
  subst w75
  refine lv_istore (lv' := [(4, .int (iI (upS st))), (3, .int (iI (min (max (wbF se st (ru 4)) (max (pl (ti % 24)) (se 7))) (se 8)))), (2, .int (iI (min (max (pl (ti % 24)) (se 7)) (se 8)))), (0, .ref mo), (1, .int (iI ti))]) hx hb dX7_change_78 hl (by decide) rfl (fun ls hl => ?_)
  have L137_0 : ∀ (go : Int), (hgo : go = (glF se pl st (bdF se pl (wbF se st (ru 4)) ti) (ru 6) ti)) → (hgb : 0 ≤ go ∧ go ≤ 12) → ∀ (H : Heap) (locs : List Loc), va_P D vwCl [(mo, .inr (7, [.ref m0, .ref m1, .ref m2, .ref m3, .ref m4, .ref m5, .ref m6, .ref m7, .ref m8, .ref m9, .ref m10, .ref m11, .ref m12, .ref m13, .ref m14, .ref m15, .ref m16, .ref m17, .ref m18, .ref m19, .int (iI aa), .ref m21])), (m0, .inl (cI, 19, .inl (ia se))), (m5, .inl (cI, 24, .inl (ia pl))), (m6, .inl (cI, 8, .inl (ia (uI ru 5 (min (max (wbF se st (ru 4)) (max (pl (ti % 24)) (se 7))) (se 8)))))), (m7, .inl (cI, 12, .inl (ia st))), (m8, .inl (cI, 12, .inl (ia sn)))] H → va_D A [(mo, .inr (7, [.ref m0, .ref m1, .ref m2, .ref m3, .ref m4, .ref m5, .ref m6, .ref m7, .ref m8, .ref m9, .ref m10, .ref m11, .ref m12, .ref m13, .ref m14, .ref m15, .ref m16, .ref m17, .ref m18, .ref m19, .int (iI aa), .ref m21])), (m0, .inl (cI, 19, .inl (ia se))), (m5, .inl (cI, 24, .inl (ia pl))), (m6, .inl (cI, 8, .inl (ia (uI ru 5 (min (max (wbF se st (ru 4)) (max (pl (ti % 24)) (se 7))) (se 8)))))), (m7, .inl (cI, 12, .inl (ia st))), (m8, .inl (cI, 12, .inl (ia sn)))] → va_S A s.heap H locs → ∀ ls : Array Slot, lv_has ls 8 [(0, .ref mo), (1, .int (iI ti)), (2, .int (iI (min (max (pl (ti % 24)) (se 7)) (se 8)))), (3, .int (iI (min (max (wbF se st (ru 4)) (max (pl (ti % 24)) (se 7))) (se 8)))), (4, .int (iI (upS st)))] → W p l e R s m args below meth c H locs 0 0 Q (F0 m 137 ls [.int (iI go)]) := by
    intro go hgo hgb H locs hP hD hS ls hl
    refine lv_istore (lv' := [(6, .int (iI go)), (0, .ref mo), (1, .int (iI ti)), (2, .int (iI (min (max (pl (ti % 24)) (se 7)) (se 8)))), (3, .int (iI (min (max (wbF se st (ru 4)) (max (pl (ti % 24)) (se 7))) (se 8)))), (4, .int (iI (upS st)))]) hx hb dX7_change_137 hl (by decide) rfl (fun ls hl => ?_)
    have L184_1 : ∀ (cg : Int) (st1 : Int → Int) (sn1 : Int → Int), (hB_st1 : BB 0 3 st1) → (hB_sn1 : BB 0 200 sn1) → (hcg : cg = (if 0 < chN st go then 1 else 0)) → (hcb : 0 ≤ cg ∧ cg ≤ 1) → (hs1 : st1 = chS st go) → (hg1 : sn1 = chG st sn go ti) → ∀ (H : Heap) (locs : List Loc), va_P D vwCl [(mo, .inr (7, [.ref m0, .ref m1, .ref m2, .ref m3, .ref m4, .ref m5, .ref m6, .ref m7, .ref m8, .ref m9, .ref m10, .ref m11, .ref m12, .ref m13, .ref m14, .ref m15, .ref m16, .ref m17, .ref m18, .ref m19, .int (iI aa), .ref m21])), (m0, .inl (cI, 19, .inl (ia se))), (m5, .inl (cI, 24, .inl (ia pl))), (m6, .inl (cI, 8, .inl (ia (uI ru 5 (min (max (wbF se st (ru 4)) (max (pl (ti % 24)) (se 7))) (se 8)))))), (m7, .inl (cI, 12, .inl (ia st1))), (m8, .inl (cI, 12, .inl (ia sn1)))] H → va_D A [(mo, .inr (7, [.ref m0, .ref m1, .ref m2, .ref m3, .ref m4, .ref m5, .ref m6, .ref m7, .ref m8, .ref m9, .ref m10, .ref m11, .ref m12, .ref m13, .ref m14, .ref m15, .ref m16, .ref m17, .ref m18, .ref m19, .int (iI aa), .ref m21])), (m0, .inl (cI, 19, .inl (ia se))), (m5, .inl (cI, 24, .inl (ia pl))), (m6, .inl (cI, 8, .inl (ia (uI ru 5 (min (max (wbF se st (ru 4)) (max (pl (ti % 24)) (se 7))) (se 8)))))), (m7, .inl (cI, 12, .inl (ia st1))), (m8, .inl (cI, 12, .inl (ia sn1)))] → va_S A s.heap H locs → ∀ ls : Array Slot, lv_has ls 8 [(0, .ref mo), (1, .int (iI ti)), (2, .int (iI (min (max (pl (ti % 24)) (se 7)) (se 8)))), (3, .int (iI (min (max (wbF se st (ru 4)) (max (pl (ti % 24)) (se 7))) (se 8)))), (4, .int (iI (upS st))), (6, .int (iI go)), (7, .int (iI cg))] → W p l e R s m args below meth c H locs 0 0 Q (F0 m 184 ls []) := by
      intro cg st1 sn1 hB_st1 hB_sn1 hcg hcb hs1 hg1 H locs hP hD hS ls hl
      refine lv_aload_n hx hb dX7_change_184 rfl (lv_at hl 0 rfl) ?_
      refine va_get (D := D) (ci := 7) (v := .ref m6) (C := RX7) (T := TX7) (N := 22) hx hb hts in_X7_change_X7 hown hK hP 0 rfl rfl 6 (by decide) (hts _ lk_X7_change_3) (fun _ h9 => h9) rfl dX7_change_185 ?_
      refine lv_bipush (v := iI 6) hx hb dX7_change_188 (by decide +kernel) ?_
      refine lv_iload hx hb dX7_change_190 (lv_at hl 6 rfl) ?_
      refine q_if_eq (tgt := 199) hx hb dX7_change_192 (by decide) ⟨by omega, by omega⟩ (fun c192 => ?_) (fun c192 => ?_)
      ·
        refine lv_aload_n hx hb dX7_change_199 rfl (lv_at hl 0 rfl) ?_
        refine va_get (D := D) (ci := 7) (v := .ref m6) (C := RX7) (T := TX7) (N := 22) hx hb hts in_X7_change_X7 hown hK hP 0 rfl rfl 6 (by decide) (hts _ lk_X7_change_3) (fun _ h9 => h9) rfl dX7_change_200 ?_
        refine lv_bipush (v := iI 6) hx hb dX7_change_203 (by decide +kernel) ?_
        refine q_iald hx hb hK hP 3 0 rfl rfl (by omega) (by omega) (by decide) dX7_change_205 ?_
        refine q_top (b := (ru 6)) (by exact uI_n _ _ _ (by decide)) ?_
        refine q_iast hx hb hK hP hD hS 3 0 rfl rfl (by omega) (by omega) (by decide) dX7_change_206 (fun H locs hP hD hS => ?_)
        have hP : va_P D vwCl [(mo, .inr (7, [.ref m0, .ref m1, .ref m2, .ref m3, .ref m4, .ref m5, .ref m6, .ref m7, .ref m8, .ref m9, .ref m10, .ref m11, .ref m12, .ref m13, .ref m14, .ref m15, .ref m16, .ref m17, .ref m18, .ref m19, .int (iI aa), .ref m21])), (m0, .inl (cI, 19, .inl (ia se))), (m5, .inl (cI, 24, .inl (ia pl))), (m6, .inl (cI, 8, .inl (ia (uI (uI ru 5 (min (max (wbF se st (ru 4)) (max (pl (ti % 24)) (se 7))) (se 8))) 6 (ru 6))))), (m7, .inl (cI, 12, .inl (ia st1))), (m8, .inl (cI, 12, .inl (ia sn1)))] H := hP
        have hD : va_D A [(mo, .inr (7, [.ref m0, .ref m1, .ref m2, .ref m3, .ref m4, .ref m5, .ref m6, .ref m7, .ref m8, .ref m9, .ref m10, .ref m11, .ref m12, .ref m13, .ref m14, .ref m15, .ref m16, .ref m17, .ref m18, .ref m19, .int (iI aa), .ref m21])), (m0, .inl (cI, 19, .inl (ia se))), (m5, .inl (cI, 24, .inl (ia pl))), (m6, .inl (cI, 8, .inl (ia (uI (uI ru 5 (min (max (wbF se st (ru 4)) (max (pl (ti % 24)) (se 7))) (se 8))) 6 (ru 6))))), (m7, .inl (cI, 12, .inl (ia st1))), (m8, .inl (cI, 12, .inl (ia sn1)))] := hD
        rw [hQ]
        refine q_retV ((uI (uI ru 5 (min (max (wbF se st (ru 4)) (max (pl (ti % 24)) (se 7))) (se 8))) 6 (ru 6)), st1, sn1) hx hb hr hlocks hK hP hD hS dX7_change_207 ?_
        try dsimp only
        rw [← hgo, ← hX]
        first | (rw [if_pos (by by_cases q : 0 < chN st go; exact q; (rw [if_neg q] at hcg; omega))]; exact ⟨rfl, hs1, hg1, hB_st1, hB_sn1⟩) | (rw [if_neg (by intro q; rw [if_pos q] at hcg; omega)]; exact ⟨rfl, hs1, hg1, hB_st1, hB_sn1⟩)
      ·
        refine lv_iload_n hx hb dX7_change_195 rfl (lv_at hl 1 rfl) ?_
        refine lv_goto (tgt := 206) hx hb dX7_change_196 (by decide) ?_
        refine q_iast hx hb hK hP hD hS 3 0 rfl rfl (by omega) (by omega) (by decide) dX7_change_206 (fun H locs hP hD hS => ?_)
        have hP : va_P D vwCl [(mo, .inr (7, [.ref m0, .ref m1, .ref m2, .ref m3, .ref m4, .ref m5, .ref m6, .ref m7, .ref m8, .ref m9, .ref m10, .ref m11, .ref m12, .ref m13, .ref m14, .ref m15, .ref m16, .ref m17, .ref m18, .ref m19, .int (iI aa), .ref m21])), (m0, .inl (cI, 19, .inl (ia se))), (m5, .inl (cI, 24, .inl (ia pl))), (m6, .inl (cI, 8, .inl (ia (uI (uI ru 5 (min (max (wbF se st (ru 4)) (max (pl (ti % 24)) (se 7))) (se 8))) 6 ti)))), (m7, .inl (cI, 12, .inl (ia st1))), (m8, .inl (cI, 12, .inl (ia sn1)))] H := hP
        have hD : va_D A [(mo, .inr (7, [.ref m0, .ref m1, .ref m2, .ref m3, .ref m4, .ref m5, .ref m6, .ref m7, .ref m8, .ref m9, .ref m10, .ref m11, .ref m12, .ref m13, .ref m14, .ref m15, .ref m16, .ref m17, .ref m18, .ref m19, .int (iI aa), .ref m21])), (m0, .inl (cI, 19, .inl (ia se))), (m5, .inl (cI, 24, .inl (ia pl))), (m6, .inl (cI, 8, .inl (ia (uI (uI ru 5 (min (max (wbF se st (ru 4)) (max (pl (ti % 24)) (se 7))) (se 8))) 6 ti)))), (m7, .inl (cI, 12, .inl (ia st1))), (m8, .inl (cI, 12, .inl (ia sn1)))] := hD
        rw [hQ]
        refine q_retV ((uI (uI ru 5 (min (max (wbF se st (ru 4)) (max (pl (ti % 24)) (se 7))) (se 8))) 6 ti), st1, sn1) hx hb hr hlocks hK hP hD hS dX7_change_207 ?_
        try dsimp only
        rw [← hgo, ← hX]
        first | (rw [if_pos (by by_cases q : 0 < chN st go; exact q; (rw [if_neg q] at hcg; omega))]; exact ⟨rfl, hs1, hg1, hB_st1, hB_sn1⟩) | (rw [if_neg (by intro q; rw [if_pos q] at hcg; omega)]; exact ⟨rfl, hs1, hg1, hB_st1, hB_sn1⟩)
    refine lv_iconst (v := iI 0) hx hb dX7_change_139 rfl ?_
    refine lv_istore (lv' := [(7, .int (iI 0)), (6, .int (iI go)), (0, .ref mo), (1, .int (iI ti)), (2, .int (iI (min (max (pl (ti % 24)) (se 7)) (se 8)))), (3, .int (iI (min (max (wbF se st (ru 4)) (max (pl (ti % 24)) (se 7))) (se 8)))), (4, .int (iI (upS st)))]) hx hb dX7_change_140 hl (by decide) rfl (fun ls hl => ?_)
    refine lv_iload hx hb dX7_change_142 (lv_at hl 1 rfl) ?_
    refine lv_iload hx hb dX7_change_144 (lv_at hl 6 rfl) ?_
    refine q_icmp_le (tgt := 164) hx hb dX7_change_146 (by decide) ⟨by omega, by omega⟩ ⟨by omega, by omega⟩ (fun c146 => ?_) (fun c146 => ?_)
    ·
      refine lv_iload hx hb dX7_change_164 (lv_at hl 1 rfl) ?_
      refine lv_iload hx hb dX7_change_166 (lv_at hl 6 rfl) ?_
      refine q_icmp_ge (tgt := 184) hx hb dX7_change_168 (by decide) ⟨by omega, by omega⟩ ⟨by omega, by omega⟩ (fun c168 => ?_) (fun c168 => ?_)
      ·
        exact L184_1  0 st sn hB_st hB_sn (by first | (rw [show chN st go = tu (zl st 0 12) (go - upS st) from if_pos (by omega)]; exact w156) | (rw [if_pos (by unfold chN; rw [if_neg (by omega)]; exact shN_pos (by omega) (by omega))]) | (rw [if_neg (by unfold chN; rw [if_neg (by omega), show upS st - go = 0 by omega, shN_0]; omega)])) (by first | omega | (rw [w156]; split <;> omega)) (by unfold chS; first | (rw [if_pos (by omega)]; exact e156) | (rw [if_neg (by omega)]; exact e178) | (rw [if_neg (by omega), show upS st - go = 0 by omega, shS_0])) (by unfold chG; first | (rw [if_pos (by omega)]; exact f156) | (rw [if_neg (by omega)]; exact f178) | (rw [if_neg (by omega), show upS st - go = 0 by omega, shG_0])) _ _ hP hD hS _ (lv_sub hl [2, 3, 4, 5, 6, 1, 0] rfl)
      ·
        refine lv_aload_n hx hb dX7_change_171 rfl (lv_at hl 2 rfl) ?_
        refine lv_iload hx hb dX7_change_172 (lv_at hl 6 rfl) ?_
        refine lv_iload hx hb dX7_change_174 (lv_at hl 1 rfl) ?_
        refine q_isub hx hb dX7_change_176 ?_
        refine lv_iload_n hx hb dX7_change_177 rfl (lv_at hl 3 rfl) ?_
        refine q_callVV (wr := [(m0, .inl (cI, 19, .inl (ia se))), (m5, .inl (cI, 24, .inl (ia pl))), (m6, .inl (cI, 8, .inl (ia (uI ru 5 (min (max (wbF se st (ru 4)) (max (pl (ti % 24)) (se 7))) (se 8))))))]) (wn := fun (u : (Int → Int) × (Int → Int)) => [(mo, .inr (7, [.ref m0, .ref m1, .ref m2, .ref m3, .ref m4, .ref m5, .ref m6, .ref m7, .ref m8, .ref m9, .ref m10, .ref m11, .ref m12, .ref m13, .ref m14, .ref m15, .ref m16, .ref m17, .ref m18, .ref m19, .int (iI aa), .ref m21])), (m0, .inl (cI, 19, .inl (ia se))), (m5, .inl (cI, 24, .inl (ia pl))), (m6, .inl (cI, 8, .inl (ia (uI ru 5 (min (max (wbF se st (ru 4)) (max (pl (ti % 24)) (se 7))) (se 8)))))), (m7, .inl (cI, 12, .inl (ia u.1))), (m8, .inl (cI, 12, .inl (ia u.2)))]) (rest := []) [.int (iI ((upS st) - go)), .int (iI ti)] ⟨hx, hb, hml, hown, hts⟩ (c_X7_shed l D cI cZ cII mo m7 m8 m0 m1 m2 m3 m4 m5 m6 m9 m10 m11 m12 m13 m14 m15 m16 m17 m18 m19 aa m21 st sn ((upS st) - go) ti hB_st hB_sn (by omega) (by omega)) (cwV 2 hts gX7_change_X7_shed rfl rfl rfl (by decide +kernel) (by rw [hRf, hRl]; exact ⟨Nat.le_of_ble_eq_true rfl, Nat.le_of_ble_eq_true rfl⟩)) hK hP hD hS hA hN [0, 4, 5] [1, 2, 3] [3, 0, 1, 2, 4, 5] 0 7 rfl rfl rfl rfl rfl rfl (by decide) rfl (fun u => rfl) rfl hl.1 rfl (Nat.le_of_ble_eq_true rfl) dX7_change_178 ⟨Nat.zero_le _, Nat.zero_le _⟩ (fun u H locs hw hP hD hS => ?_)
        obtain ⟨st_8, sn_9⟩ := u
        try dsimp only at hw
        have hP : va_P D vwCl [(mo, .inr (7, [.ref m0, .ref m1, .ref m2, .ref m3, .ref m4, .ref m5, .ref m6, .ref m7, .ref m8, .ref m9, .ref m10, .ref m11, .ref m12, .ref m13, .ref m14, .ref m15, .ref m16, .ref m17, .ref m18, .ref m19, .int (iI aa), .ref m21])), (m0, .inl (cI, 19, .inl (ia se))), (m5, .inl (cI, 24, .inl (ia pl))), (m6, .inl (cI, 8, .inl (ia (uI ru 5 (min (max (wbF se st (ru 4)) (max (pl (ti % 24)) (se 7))) (se 8)))))), (m7, .inl (cI, 12, .inl (ia st_8))), (m8, .inl (cI, 12, .inl (ia sn_9)))] H := hP
        have hD : va_D A [(mo, .inr (7, [.ref m0, .ref m1, .ref m2, .ref m3, .ref m4, .ref m5, .ref m6, .ref m7, .ref m8, .ref m9, .ref m10, .ref m11, .ref m12, .ref m13, .ref m14, .ref m15, .ref m16, .ref m17, .ref m18, .ref m19, .int (iI aa), .ref m21])), (m0, .inl (cI, 19, .inl (ia se))), (m5, .inl (cI, 24, .inl (ia pl))), (m6, .inl (cI, 8, .inl (ia (uI ru 5 (min (max (wbF se st (ru 4)) (max (pl (ti % 24)) (se 7))) (se 8)))))), (m7, .inl (cI, 12, .inl (ia st_8))), (m8, .inl (cI, 12, .inl (ia sn_9)))] := hD
        obtain ⟨e178, f178, hB_st_8, hB_sn_9⟩ := hw
        refine lv_iconst (v := iI 1) hx hb dX7_change_181 rfl ?_
        refine lv_istore (lv' := [(7, .int (iI 1)), (6, .int (iI go)), (0, .ref mo), (1, .int (iI ti)), (2, .int (iI (min (max (pl (ti % 24)) (se 7)) (se 8)))), (3, .int (iI (min (max (wbF se st (ru 4)) (max (pl (ti % 24)) (se 7))) (se 8)))), (4, .int (iI (upS st)))]) hx hb dX7_change_182 hl (by decide) rfl (fun ls hl => ?_)
        exact L184_1  1 st_8 sn_9 hB_st_8 hB_sn_9 (by first | (rw [show chN st go = tu (zl st 0 12) (go - upS st) from if_pos (by omega)]; exact w156) | (rw [if_pos (by unfold chN; rw [if_neg (by omega)]; exact shN_pos (by omega) (by omega))]) | (rw [if_neg (by unfold chN; rw [if_neg (by omega), show upS st - go = 0 by omega, shN_0]; omega)])) (by first | omega | (rw [w156]; split <;> omega)) (by unfold chS; first | (rw [if_pos (by omega)]; exact e156) | (rw [if_neg (by omega)]; exact e178) | (rw [if_neg (by omega), show upS st - go = 0 by omega, shS_0])) (by unfold chG; first | (rw [if_pos (by omega)]; exact f156) | (rw [if_neg (by omega)]; exact f178) | (rw [if_neg (by omega), show upS st - go = 0 by omega, shG_0])) _ _ hP hD hS _ (lv_sub hl [2, 3, 4, 5, 6, 1, 0] rfl)
    ·
      refine lv_aload_n hx hb dX7_change_149 rfl (lv_at hl 2 rfl) ?_
      refine lv_iload hx hb dX7_change_150 (lv_at hl 1 rfl) ?_
      refine lv_iload hx hb dX7_change_152 (lv_at hl 6 rfl) ?_
      refine q_isub hx hb dX7_change_154 ?_
      refine lv_iload_n hx hb dX7_change_155 rfl (lv_at hl 3 rfl) ?_
      refine q_callVI (wr := [(m0, .inl (cI, 19, .inl (ia se))), (m5, .inl (cI, 24, .inl (ia pl))), (m6, .inl (cI, 8, .inl (ia (uI ru 5 (min (max (wbF se st (ru 4)) (max (pl (ti % 24)) (se 7))) (se 8))))))]) (wn := fun (u : (Int → Int) × (Int → Int)) => [(mo, .inr (7, [.ref m0, .ref m1, .ref m2, .ref m3, .ref m4, .ref m5, .ref m6, .ref m7, .ref m8, .ref m9, .ref m10, .ref m11, .ref m12, .ref m13, .ref m14, .ref m15, .ref m16, .ref m17, .ref m18, .ref m19, .int (iI aa), .ref m21])), (m0, .inl (cI, 19, .inl (ia se))), (m5, .inl (cI, 24, .inl (ia pl))), (m6, .inl (cI, 8, .inl (ia (uI ru 5 (min (max (wbF se st (ru 4)) (max (pl (ti % 24)) (se 7))) (se 8)))))), (m7, .inl (cI, 12, .inl (ia u.1))), (m8, .inl (cI, 12, .inl (ia u.2)))]) (rest := []) [.int (iI (go - (upS st))), .int (iI ti)] ⟨hx, hb, hml, hown, hts⟩ (c_X7_add l D cI cZ cII mo m7 m8 m0 m1 m2 m3 m4 m5 m6 m9 m10 m11 m12 m13 m14 m15 m16 m17 m18 m19 aa m21 st sn (go - (upS st)) ti hB_st hB_sn (by omega) (by omega)) (cwV 2 hts gX7_change_X7_add rfl rfl rfl (by decide +kernel) (by rw [hRf, hRl]; exact ⟨Nat.le_of_ble_eq_true rfl, Nat.le_of_ble_eq_true rfl⟩)) hK hP hD hS hA hN [0, 4, 5] [1, 2, 3] [3, 0, 1, 2, 4, 5] 0 7 rfl rfl rfl rfl rfl rfl (by decide) rfl (fun u => rfl) rfl hl.1 rfl (Nat.le_of_ble_eq_true rfl) dX7_change_156 ⟨Nat.zero_le _, Nat.zero_le _⟩ (fun z u H locs hw hP hD hS => ?_)
      obtain ⟨st_10, sn_11⟩ := u
      try dsimp only at hw
      have hP : va_P D vwCl [(mo, .inr (7, [.ref m0, .ref m1, .ref m2, .ref m3, .ref m4, .ref m5, .ref m6, .ref m7, .ref m8, .ref m9, .ref m10, .ref m11, .ref m12, .ref m13, .ref m14, .ref m15, .ref m16, .ref m17, .ref m18, .ref m19, .int (iI aa), .ref m21])), (m0, .inl (cI, 19, .inl (ia se))), (m5, .inl (cI, 24, .inl (ia pl))), (m6, .inl (cI, 8, .inl (ia (uI ru 5 (min (max (wbF se st (ru 4)) (max (pl (ti % 24)) (se 7))) (se 8)))))), (m7, .inl (cI, 12, .inl (ia st_10))), (m8, .inl (cI, 12, .inl (ia sn_11)))] H := hP
      have hD : va_D A [(mo, .inr (7, [.ref m0, .ref m1, .ref m2, .ref m3, .ref m4, .ref m5, .ref m6, .ref m7, .ref m8, .ref m9, .ref m10, .ref m11, .ref m12, .ref m13, .ref m14, .ref m15, .ref m16, .ref m17, .ref m18, .ref m19, .int (iI aa), .ref m21])), (m0, .inl (cI, 19, .inl (ia se))), (m5, .inl (cI, 24, .inl (ia pl))), (m6, .inl (cI, 8, .inl (ia (uI ru 5 (min (max (wbF se st (ru 4)) (max (pl (ti % 24)) (se 7))) (se 8)))))), (m7, .inl (cI, 12, .inl (ia st_10))), (m8, .inl (cI, 12, .inl (ia sn_11)))] := hD
      obtain ⟨z_12, ez⟩ : ∃ y : Int, y = z := ⟨_, rfl⟩
      rw [← ez] at hw ⊢
      clear ez
      obtain ⟨w156, e156, f156, hB_st_10, hB_sn_11⟩ := hw
      refine lv_istore (lv' := [(7, .int (iI z_12)), (6, .int (iI go)), (0, .ref mo), (1, .int (iI ti)), (2, .int (iI (min (max (pl (ti % 24)) (se 7)) (se 8)))), (3, .int (iI (min (max (wbF se st (ru 4)) (max (pl (ti % 24)) (se 7))) (se 8)))), (4, .int (iI (upS st)))]) hx hb dX7_change_159 hl (by decide) rfl (fun ls hl => ?_)
      refine lv_goto (tgt := 184) hx hb dX7_change_161 (by decide) ?_
      exact L184_1  z_12 st_10 sn_11 hB_st_10 hB_sn_11 (by first | (rw [show chN st go = tu (zl st 0 12) (go - upS st) from if_pos (by omega)]; exact w156) | (rw [if_pos (by unfold chN; rw [if_neg (by omega)]; exact shN_pos (by omega) (by omega))]) | (rw [if_neg (by unfold chN; rw [if_neg (by omega), show upS st - go = 0 by omega, shN_0]; omega)])) (by first | omega | (rw [w156]; split <;> omega)) (by unfold chS; first | (rw [if_pos (by omega)]; exact e156) | (rw [if_neg (by omega)]; exact e178) | (rw [if_neg (by omega), show upS st - go = 0 by omega, shS_0])) (by unfold chG; first | (rw [if_pos (by omega)]; exact f156) | (rw [if_neg (by omega)]; exact f178) | (rw [if_neg (by omega), show upS st - go = 0 by omega, shG_0])) _ _ hP hD hS _ (lv_sub hl [2, 3, 4, 5, 6, 1, 0] rfl)
  refine lv_aload_n hx hb dX7_change_80 rfl (lv_at hl 3 rfl) ?_
  refine va_get (D := D) (ci := 7) (v := .ref m6) (C := RX7) (T := TX7) (N := 22) hx hb hts in_X7_change_X7 hown hK hP 0 rfl rfl 6 (by decide) (hts _ lk_X7_change_3) (fun _ h9 => h9) rfl dX7_change_81 ?_
  refine lv_bipush (v := iI 6) hx hb dX7_change_84 (by decide +kernel) ?_
  refine q_iald hx hb hK hP 3 0 rfl rfl (by omega) (by omega) (by decide) dX7_change_86 ?_
  refine q_top (b := (ru 6)) (by exact uI_n _ _ _ (by decide)) ?_
  refine q_if_lt (tgt := 113) hx hb dX7_change_87 (by decide) ⟨by omega, by omega⟩ (fun c87 => ?_) (fun c87 => ?_)
  ·
    refine lv_iconst (v := iI 0) hx hb dX7_change_113 rfl ?_
    refine lv_istore (lv' := [(5, .int (iI 0)), (4, .int (iI (upS st))), (3, .int (iI (min (max (wbF se st (ru 4)) (max (pl (ti % 24)) (se 7))) (se 8)))), (2, .int (iI (min (max (pl (ti % 24)) (se 7)) (se 8)))), (0, .ref mo), (1, .int (iI ti))]) hx hb dX7_change_114 hl (by decide) rfl (fun ls hl => ?_)
    refine lv_iload hx hb dX7_change_116 (lv_at hl 0 rfl) ?_
    refine q_if_ne (tgt := 125) hx hb dX7_change_118 (by decide) ⟨by decide, by decide⟩ (fun h => absurd h (by decide)) (fun _ => ?_)
    refine lv_iload_n hx hb dX7_change_121 rfl (lv_at hl 2 rfl) ?_
    refine lv_goto (tgt := 137) hx hb dX7_change_122 (by decide) ?_
    exact L137_0  (min (max (wbF se st (ru 4)) (max (pl (ti % 24)) (se 7))) (se 8)) (by unfold glF reF; first | (rw [if_pos (decide_eq_true (by omega))]; unfold bdF; omega) | (rw [if_neg (by rw [decide_eq_true_iff]; omega)]; exact hX)) (by omega) _ _ hP hD hS _ (lv_sub hl [4, 5, 3, 2, 1] rfl)
  ·
    refine lv_iload_n hx hb dX7_change_90 rfl (lv_at hl 4 rfl) ?_
    refine lv_aload_n hx hb dX7_change_91 rfl (lv_at hl 3 rfl) ?_
    refine va_get (D := D) (ci := 7) (v := .ref m6) (C := RX7) (T := TX7) (N := 22) hx hb hts in_X7_change_X7 hown hK hP 0 rfl rfl 6 (by decide) (hts _ lk_X7_change_3) (fun _ h9 => h9) rfl dX7_change_92 ?_
    refine lv_bipush (v := iI 6) hx hb dX7_change_95 (by decide +kernel) ?_
    refine q_iald hx hb hK hP 3 0 rfl rfl (by omega) (by omega) (by decide) dX7_change_97 ?_
    refine q_top (b := (ru 6)) (by exact uI_n _ _ _ (by decide)) ?_
    refine q_isub hx hb dX7_change_98 ?_
    refine lv_aload_n hx hb dX7_change_99 rfl (lv_at hl 3 rfl) ?_
    refine va_get (D := D) (ci := 7) (v := .ref m0) (C := RX7) (T := TX7) (N := 22) hx hb hts in_X7_change_X7 hown hK hP 0 rfl rfl 0 (by decide) (hts _ lk_X7_change_2) (fun _ h9 => h9) rfl dX7_change_100 ?_
    refine lv_bipush (v := iI 9) hx hb dX7_change_103 (by decide +kernel) ?_
    refine q_iald hx hb hK hP 1 0 rfl rfl (by omega) (by omega) (by decide) dX7_change_105 ?_
    have hb105 := hB_se 9
    refine q_icmp_ge (tgt := 113) hx hb dX7_change_106 (by decide) ⟨by omega, by omega⟩ ⟨by omega, by omega⟩ (fun c106 => ?_) (fun c106 => ?_)
    ·
      refine lv_iconst (v := iI 0) hx hb dX7_change_113 rfl ?_
      refine lv_istore (lv' := [(5, .int (iI 0)), (4, .int (iI (upS st))), (3, .int (iI (min (max (wbF se st (ru 4)) (max (pl (ti % 24)) (se 7))) (se 8)))), (2, .int (iI (min (max (pl (ti % 24)) (se 7)) (se 8)))), (0, .ref mo), (1, .int (iI ti))]) hx hb dX7_change_114 hl (by decide) rfl (fun ls hl => ?_)
      refine lv_iload hx hb dX7_change_116 (lv_at hl 0 rfl) ?_
      refine q_if_ne (tgt := 125) hx hb dX7_change_118 (by decide) ⟨by decide, by decide⟩ (fun h => absurd h (by decide)) (fun _ => ?_)
      refine lv_iload_n hx hb dX7_change_121 rfl (lv_at hl 2 rfl) ?_
      refine lv_goto (tgt := 137) hx hb dX7_change_122 (by decide) ?_
      exact L137_0  (min (max (wbF se st (ru 4)) (max (pl (ti % 24)) (se 7))) (se 8)) (by unfold glF reF; first | (rw [if_pos (decide_eq_true (by omega))]; unfold bdF; omega) | (rw [if_neg (by rw [decide_eq_true_iff]; omega)]; exact hX)) (by omega) _ _ hP hD hS _ (lv_sub hl [4, 5, 3, 2, 1] rfl)
    ·
      refine lv_iconst (v := iI 1) hx hb dX7_change_109 rfl ?_
      refine lv_goto (tgt := 114) hx hb dX7_change_110 (by decide) ?_
      refine lv_istore (lv' := [(5, .int (iI 1)), (4, .int (iI (upS st))), (3, .int (iI (min (max (wbF se st (ru 4)) (max (pl (ti % 24)) (se 7))) (se 8)))), (2, .int (iI (min (max (pl (ti % 24)) (se 7)) (se 8)))), (0, .ref mo), (1, .int (iI ti))]) hx hb dX7_change_114 hl (by decide) rfl (fun ls hl => ?_)
      refine lv_iload hx hb dX7_change_116 (lv_at hl 0 rfl) ?_
      refine q_if_ne (tgt := 125) hx hb dX7_change_118 (by decide) ⟨by decide, by decide⟩ (fun _ => ?_) (fun h => absurd h (by decide))
      refine lv_iload hx hb dX7_change_125 (lv_at hl 1 rfl) ?_
      refine lv_iload_n hx hb dX7_change_127 rfl (lv_at hl 3 rfl) ?_
      refine q_icmp_ge (tgt := 135) hx hb dX7_change_128 (by decide) ⟨by omega, by omega⟩ ⟨by omega, by omega⟩ (fun c128 => ?_) (fun c128 => ?_)
      ·
        refine lv_iload hx hb dX7_change_135 (lv_at hl 1 rfl) ?_
        exact L137_0  (upS st) (by unfold glF reF; first | (rw [if_pos (decide_eq_true (by omega))]; unfold bdF; omega) | (rw [if_neg (by rw [decide_eq_true_iff]; omega)]; exact hX)) (by omega) _ _ hP hD hS _ (lv_sub hl [4, 5, 3, 2, 1] rfl)
      ·
        refine lv_iload_n hx hb dX7_change_131 rfl (lv_at hl 3 rfl) ?_
        refine lv_goto (tgt := 137) hx hb dX7_change_132 (by decide) ?_
        exact L137_0  (min (max (pl (ti % 24)) (se 7)) (se 8)) (by unfold glF reF; first | (rw [if_pos (decide_eq_true (by omega))]; unfold bdF; omega) | (rw [if_neg (by rw [decide_eq_true_iff]; omega)]; exact hX)) (by omega) _ _ hP hD hS _ (lv_sub hl [4, 5, 3, 2, 1] rfl)

theorem in_X7_serve_X7 : ∀ w ∈ wsX70, w ∈ wsX7_serve := fun _ h => List.mem_cons_of_mem _ (List.mem_append_right _ h)
theorem lk_X7_serve_1 : Cond.fieldLink RX7 53 "MoreHandsModel" "heaps" "[I" ∈ wsX7_serve := List.mem_of_getElem? (i := 1) rfl
theorem lk_X7_serve_2 : Cond.fieldLink RX7 44 "MoreHandsModel" "heapMany" "[I" ∈ wsX7_serve := List.mem_of_getElem? (i := 2) rfl
set_option maxHeartbeats 4000000 in
set_option maxRecDepth 100000 in
theorem c_X7_serve (l : Launch) (D : va_G) (cI cZ cII : ClassId) (mo : Nat) (m11 : Nat) (m14 : Nat) (m0 : Nat) (m1 : Nat) (m2 : Nat) (m3 : Nat) (m4 : Nat) (m5 : Nat) (m6 : Nat) (m7 : Nat) (m8 : Nat) (m9 : Nat) (m10 : Nat) (m12 : Nat) (m13 : Nat) (m15 : Nat) (m16 : Nat) (m17 : Nat) (m18 : Nat) (m19 : Nat) (aa : Int) (m21 : Nat) (km : Int → Int) (hp : Int → Int) (room : Int) (kt : Int → Int) (kr : Int → Int) (hB_km : BB 0 60 km) (hp_room : 0 ≤ room ∧ room ≤ 1000) (hhp : 0 ≤ hp 0 ∧ hp 0 ≤ 200) : CtI l yX7_serve wsX7_serve 1 21 D (ty3 cI cZ cII) [.ref mo, .int (iI room)] [(mo, .inr (7, [.ref m0, .ref m1, .ref m2, .ref m3, .ref m4, .ref m5, .ref m6, .ref m7, .ref m8, .ref m9, .ref m10, .ref m11, .ref m12, .ref m13, .ref m14, .ref m15, .ref m16, .ref m17, .ref m18, .ref m19, .int (iI aa), .ref m21])), (m11, .inl (cI, 200, .inl (ia km))), (m14, .inl (cI, 2, .inl (ia hp)))] (fun z (u : (Int → Int)) => z = room - (srw room (hL kt kr km (hp 0))).2 ∧ hL kt kr u (hp 0) = (srw room (hL kt kr km (hp 0))).1 ∧ BB 0 60 u) (fun u => [(mo, .inr (7, [.ref m0, .ref m1, .ref m2, .ref m3, .ref m4, .ref m5, .ref m6, .ref m7, .ref m8, .ref m9, .ref m10, .ref m11, .ref m12, .ref m13, .ref m14, .ref m15, .ref m16, .ref m17, .ref m18, .ref m19, .int (iI aa), .ref m21])), (m11, .inl (cI, 200, .inl (ia u))), (m14, .inl (cI, 2, .inl (ia hp)))]) := by
  refine CtI.mk (cc := cX7_serve) (maxL := 5) (ret := (some .int)) (by decide) rfl (Nat.le_of_ble_eq_true rfl) ?_
  intro p e s m below meth c A ls R args Q hx hb hml hr hts hown hlocks hA hK hP hD hN hS hl hRf hRl hQ
  have hl : lv_has ls 5 [(0, .ref mo), (1, .int (iI room))] := hl
  have hown : s.vm.findClass RX7 = some m.cls := hown
  refine lv_iload_n hx hb dX7_serve_0 rfl (lv_at hl 1 rfl) ?_
  refine lv_istore_n (lv' := [(2, .int (iI room)), (0, .ref mo), (1, .int (iI room))]) hx hb dX7_serve_1 rfl hl (by decide) rfl (fun ls hl => ?_)
  refine lv_iconst (v := iI 0) hx hb dX7_serve_2 rfl ?_
  refine lv_istore_n (lv' := [(3, .int (iI 0)), (2, .int (iI room)), (0, .ref mo), (1, .int (iI room))]) hx hb dX7_serve_3 rfl hl (by decide) rfl (fun ls hl => ?_)
  have L4_0 : ∀ (n : Nat), ∀ (lf : Int) (k : Int) (km1 : Int → Int), (hB_km1 : BB 0 60 km1) → (hk : 0 ≤ k ∧ k ≤ hp 0) → (hlf : 0 ≤ lf ∧ lf ≤ room) → (hr0 : ∀ j, k ≤ j → km1 j = km j) → (hY : srw room (hL kt kr km (hp 0)) = (hL kt kr km1 k ++ (srw lf (hq kt kr km (hp 0 - k).toNat k)).1, (srw lf (hq kt kr km (hp 0 - k).toNat k)).2)) → (hp 0 - k) < (n : Int) → ∀ (H : Heap) (locs : List Loc), va_P D vwCl [(mo, .inr (7, [.ref m0, .ref m1, .ref m2, .ref m3, .ref m4, .ref m5, .ref m6, .ref m7, .ref m8, .ref m9, .ref m10, .ref m11, .ref m12, .ref m13, .ref m14, .ref m15, .ref m16, .ref m17, .ref m18, .ref m19, .int (iI aa), .ref m21])), (m11, .inl (cI, 200, .inl (ia km1))), (m14, .inl (cI, 2, .inl (ia hp)))] H → va_D A [(mo, .inr (7, [.ref m0, .ref m1, .ref m2, .ref m3, .ref m4, .ref m5, .ref m6, .ref m7, .ref m8, .ref m9, .ref m10, .ref m11, .ref m12, .ref m13, .ref m14, .ref m15, .ref m16, .ref m17, .ref m18, .ref m19, .int (iI aa), .ref m21])), (m11, .inl (cI, 200, .inl (ia km1))), (m14, .inl (cI, 2, .inl (ia hp)))] → va_S A s.heap H locs → ∀ ls : Array Slot, lv_has ls 5 [(0, .ref mo), (1, .int (iI room)), (2, .int (iI lf)), (3, .int (iI k))] → W p l e R s m args below meth c H locs 0 0 Q (F0 m 4 ls []) := by
    intro n
    induction n with
    | zero => intro lf k km1 hB_km1 hk hlf hr0 hY hm; exact absurd hm (by omega)
    | succ n ih =>
      intro lf k km1 hB_km1 hk hlf hr0 hY hm H locs hP hD hS ls hl
      have hre := hr0
      refine lv_iload_n hx hb dX7_serve_4 rfl (lv_at hl 3 rfl) ?_
      refine lv_aload_n hx hb dX7_serve_5 rfl (lv_at hl 0 rfl) ?_
      refine va_get (D := D) (ci := 7) (v := .ref m14) (C := RX7) (T := TX7) (N := 22) hx hb hts in_X7_serve_X7 hown hK hP 0 rfl rfl 14 (by decide) (hts _ lk_X7_serve_1) (fun _ h9 => h9) rfl dX7_serve_6 ?_
      refine lv_iconst (v := iI 0) hx hb dX7_serve_9 rfl ?_
      refine q_iald hx hb hK hP 2 0 rfl rfl (by omega) (by omega) (by decide) dX7_serve_10 ?_
      refine q_icmp_ge (tgt := 48) hx hb dX7_serve_11 (by decide) ⟨by omega, by omega⟩ ⟨by omega, by omega⟩ (fun c11 => ?_) (fun c11 => ?_)
      ·
        refine lv_iload_n hx hb dX7_serve_48 rfl (lv_at hl 1 rfl) ?_
        refine lv_iload_n hx hb dX7_serve_49 rfl (lv_at hl 2 rfl) ?_
        refine q_isub hx hb dX7_serve_50 ?_
        rw [hQ]
        refine q_retI km1 hx hb hr hlocks hK hP hD hS dX7_serve_51 ?_
        try dsimp only
        rw [hY, show (hp 0 - k).toNat = 0 by omega, show k = hp 0 by omega]
        exact ⟨rfl, (List.append_nil _).symm, hB_km1⟩
      ·
        refine lv_iload_n hx hb dX7_serve_14 rfl (lv_at hl 2 rfl) ?_
        refine lv_aload_n hx hb dX7_serve_15 rfl (lv_at hl 0 rfl) ?_
        refine va_get (D := D) (ci := 7) (v := .ref m11) (C := RX7) (T := TX7) (N := 22) hx hb hts in_X7_serve_X7 hown hK hP 0 rfl rfl 11 (by decide) (hts _ lk_X7_serve_2) (fun _ h9 => h9) rfl dX7_serve_16 ?_
        refine lv_iload_n hx hb dX7_serve_19 rfl (lv_at hl 3 rfl) ?_
        refine q_iald hx hb hK hP 1 0 rfl rfl (by omega) (by omega) (by decide) dX7_serve_20 ?_
        have hb20 := hB_km1 k
        refine q_callSI (wr := [(mo, .inr (7, [.ref m0, .ref m1, .ref m2, .ref m3, .ref m4, .ref m5, .ref m6, .ref m7, .ref m8, .ref m9, .ref m10, .ref m11, .ref m12, .ref m13, .ref m14, .ref m15, .ref m16, .ref m17, .ref m18, .ref m19, .int (iI aa), .ref m21])), (m11, .inl (cI, 200, .inl (ia km1))), (m14, .inl (cI, 2, .inl (ia hp)))]) (wn := fun (u : Unit) => [(mo, .inr (7, [.ref m0, .ref m1, .ref m2, .ref m3, .ref m4, .ref m5, .ref m6, .ref m7, .ref m8, .ref m9, .ref m10, .ref m11, .ref m12, .ref m13, .ref m14, .ref m15, .ref m16, .ref m17, .ref m18, .ref m19, .int (iI aa), .ref m21])), (m11, .inl (cI, 200, .inl (ia km1))), (m14, .inl (cI, 2, .inl (ia hp)))]) (rest := []) [.int (iI lf), .int (iI (km1 k))] ⟨hx, hb, hml, hown, hts⟩ (c_X7_least l D cI cZ cII lf (km1 k) ⟨by omega, by omega⟩ ⟨by omega, by omega⟩) (va_cwS 2 hts gX7_serve_X7_least rfl rfl rfl (by decide +kernel) (by rw [hRf, hRl]; exact ⟨Nat.le_of_ble_eq_true rfl, Nat.le_of_ble_eq_true rfl⟩)) hK hP hD hS hA hN [] [0, 1, 2] [0, 1, 2] rfl rfl rfl rfl (by decide) rfl (fun u => rfl) rfl hl.1 rfl (Nat.le_of_ble_eq_true rfl) dX7_serve_21 ⟨Nat.zero_le _, Nat.zero_le _⟩ (fun z u H locs hw hP hD hS => ?_)
        have hP : va_P D vwCl [(mo, .inr (7, [.ref m0, .ref m1, .ref m2, .ref m3, .ref m4, .ref m5, .ref m6, .ref m7, .ref m8, .ref m9, .ref m10, .ref m11, .ref m12, .ref m13, .ref m14, .ref m15, .ref m16, .ref m17, .ref m18, .ref m19, .int (iI aa), .ref m21])), (m11, .inl (cI, 200, .inl (ia km1))), (m14, .inl (cI, 2, .inl (ia hp)))] H := hP
        have hD : va_D A [(mo, .inr (7, [.ref m0, .ref m1, .ref m2, .ref m3, .ref m4, .ref m5, .ref m6, .ref m7, .ref m8, .ref m9, .ref m10, .ref m11, .ref m12, .ref m13, .ref m14, .ref m15, .ref m16, .ref m17, .ref m18, .ref m19, .int (iI aa), .ref m21])), (m11, .inl (cI, 200, .inl (ia km1))), (m14, .inl (cI, 2, .inl (ia hp)))] := hD
        obtain ⟨z_1, ez⟩ : ∃ y : Int, y = z := ⟨_, rfl⟩
        rw [← ez] at hw ⊢
        clear ez
        have w21 : z_1 = (min lf (km1 k)) := hw
        clear hw
        subst w21
        refine lv_istore (lv' := [(4, .int (iI (min lf (km1 k)))), (0, .ref mo), (1, .int (iI room)), (2, .int (iI lf)), (3, .int (iI k))]) hx hb dX7_serve_24 hl (by decide) rfl (fun ls hl => ?_)
        refine lv_aload_n hx hb dX7_serve_26 rfl (lv_at hl 1 rfl) ?_
        refine va_get (D := D) (ci := 7) (v := .ref m11) (C := RX7) (T := TX7) (N := 22) hx hb hts in_X7_serve_X7 hown hK hP 0 rfl rfl 11 (by decide) (hts _ lk_X7_serve_2) (fun _ h9 => h9) rfl dX7_serve_27 ?_
        refine lv_iload_n hx hb dX7_serve_30 rfl (lv_at hl 4 rfl) ?_
        refine lv_dup2_11 hx hb dX7_serve_31 rfl rfl ?_
        refine q_iald hx hb hK hP 1 0 rfl rfl (by omega) (by omega) (by decide) dX7_serve_32 ?_
        have hb32 := hB_km1 k
        refine lv_iload hx hb dX7_serve_33 (lv_at hl 0 rfl) ?_
        refine q_isub hx hb dX7_serve_35 ?_
        refine q_iast hx hb hK hP hD hS 1 0 rfl rfl (by omega) (by omega) (by decide) dX7_serve_36 (fun H locs hP hD hS => ?_)
        have hP : va_P D vwCl [(mo, .inr (7, [.ref m0, .ref m1, .ref m2, .ref m3, .ref m4, .ref m5, .ref m6, .ref m7, .ref m8, .ref m9, .ref m10, .ref m11, .ref m12, .ref m13, .ref m14, .ref m15, .ref m16, .ref m17, .ref m18, .ref m19, .int (iI aa), .ref m21])), (m11, .inl (cI, 200, .inl (ia (uI km1 k ((km1 k) - (min lf (km1 k))))))), (m14, .inl (cI, 2, .inl (ia hp)))] H := hP
        have hD : va_D A [(mo, .inr (7, [.ref m0, .ref m1, .ref m2, .ref m3, .ref m4, .ref m5, .ref m6, .ref m7, .ref m8, .ref m9, .ref m10, .ref m11, .ref m12, .ref m13, .ref m14, .ref m15, .ref m16, .ref m17, .ref m18, .ref m19, .int (iI aa), .ref m21])), (m11, .inl (cI, 200, .inl (ia (uI km1 k ((km1 k) - (min lf (km1 k))))))), (m14, .inl (cI, 2, .inl (ia hp)))] := hD
        have hB_2 : BB 0 60 (uI km1 k ((km1 k) - (min lf (km1 k)))) := BB_uI hB_km1 (by omega)
        refine lv_iload_n hx hb dX7_serve_37 rfl (lv_at hl 3 rfl) ?_
        refine lv_iload hx hb dX7_serve_38 (lv_at hl 0 rfl) ?_
        refine q_isub hx hb dX7_serve_40 ?_
        refine lv_istore_n (lv' := [(2, .int (iI (lf - (min lf (km1 k))))), (4, .int (iI (min lf (km1 k)))), (0, .ref mo), (1, .int (iI room)), (3, .int (iI k))]) hx hb dX7_serve_41 rfl hl (by decide) rfl (fun ls hl => ?_)
        refine q_iinc (k := 4) (lv' := [(3, .int (iI (k + 1))), (2, .int (iI (lf - (min lf (km1 k))))), (4, .int (iI (min lf (km1 k)))), (0, .ref mo), (1, .int (iI room))]) hx hb dX7_serve_42 hl rfl (by decide) rfl (fun ls hl => ?_)
        refine lv_goto (tgt := 4) hx hb dX7_serve_45 (by decide) ?_
        exact ih  (lf - (min lf (km1 k))) (k + 1) (uI km1 k ((km1 k) - (min lf (km1 k)))) hB_2 (by omega) (by omega) (by intro j hj; rw [uI_n _ _ _ (by omega)]; exact hre j (by omega)) (by rw [hY]; exact srw_next hk.1 (by omega) (hre k (Int.le_refl k))) (by omega) _ _ hP hD hS _ (lv_sub hl [3, 4, 1, 0] rfl)
  exact L4_0 1000 room 0 km hB_km (by omega) (by omega) (by intro j _; rfl) (by rw [hL_hq kt kr km (hp 0)]; rfl) (by omega) _ _ hP hD hS _ (lv_sub hl [2, 3, 1, 0] rfl)

theorem in_X7_join_X7 : ∀ w ∈ wsX70, w ∈ wsX7_join := fun _ h => List.mem_cons_of_mem _ (List.mem_append_right _ h)
theorem lk_X7_join_1 : Cond.fieldLink RX7 38 "MoreHandsModel" "heapTick" "[I" ∈ wsX7_join := List.mem_of_getElem? (i := 1) rfl
theorem lk_X7_join_2 : Cond.fieldLink RX7 53 "MoreHandsModel" "heaps" "[I" ∈ wsX7_join := List.mem_of_getElem? (i := 2) rfl
theorem lk_X7_join_3 : Cond.fieldLink RX7 41 "MoreHandsModel" "heapTries" "[I" ∈ wsX7_join := List.mem_of_getElem? (i := 3) rfl
theorem lk_X7_join_4 : Cond.fieldLink RX7 44 "MoreHandsModel" "heapMany" "[I" ∈ wsX7_join := List.mem_of_getElem? (i := 4) rfl
set_option maxHeartbeats 4000000 in
set_option maxRecDepth 100000 in
theorem c_X7_join (l : Launch) (D : va_G) (cI cZ cII : ClassId) (mo : Nat) (m9 : Nat) (m10 : Nat) (m11 : Nat) (m14 : Nat) (m0 : Nat) (m1 : Nat) (m2 : Nat) (m3 : Nat) (m4 : Nat) (m5 : Nat) (m6 : Nat) (m7 : Nat) (m8 : Nat) (m12 : Nat) (m13 : Nat) (m15 : Nat) (m16 : Nat) (m17 : Nat) (m18 : Nat) (m19 : Nat) (aa : Int) (m21 : Nat) (kt : Int → Int) (kr : Int → Int) (km : Int → Int) (hp : Int → Int) (tn : Int) (tt : Int) (mm : Int) (hB_kt : BB 0 200 kt) (hB_kr : BB 0 4 kr) (hB_km : BB 0 60 km) (hp_tn : 0 ≤ tn ∧ tn ≤ 200) (hp_tt : 0 ≤ tt ∧ tt ≤ 4) (hp_mm : 0 ≤ mm ∧ mm ≤ 60) (hhp : 0 ≤ hp 0 ∧ hp 0 ≤ 199) : CtV l yX7_join wsX7_join 0 0 D (ty3 cI cZ cII) [.ref mo, .int (iI tn), .int (iI tt), .int (iI mm)] [(mo, .inr (7, [.ref m0, .ref m1, .ref m2, .ref m3, .ref m4, .ref m5, .ref m6, .ref m7, .ref m8, .ref m9, .ref m10, .ref m11, .ref m12, .ref m13, .ref m14, .ref m15, .ref m16, .ref m17, .ref m18, .ref m19, .int (iI aa), .ref m21])), (m9, .inl (cI, 200, .inl (ia kt))), (m10, .inl (cI, 200, .inl (ia kr))), (m11, .inl (cI, 200, .inl (ia km))), (m14, .inl (cI, 2, .inl (ia hp)))] (fun (u : (Int → Int) × (Int → Int) × (Int → Int) × (Int → Int)) => hL u.1 u.2.1 u.2.2.1 (u.2.2.2 0) = hL kt kr km (hp 0) ++ (if 0 < mm then [(tn, tt, mm)] else []) ∧ u.2.2.2 0 = hp 0 + (if 0 < mm then 1 else 0) ∧ u.2.2.2 1 = hp 1 ∧ BB 0 200 u.1 ∧ BB 0 4 u.2.1 ∧ BB 0 60 u.2.2.1) (fun u => [(mo, .inr (7, [.ref m0, .ref m1, .ref m2, .ref m3, .ref m4, .ref m5, .ref m6, .ref m7, .ref m8, .ref m9, .ref m10, .ref m11, .ref m12, .ref m13, .ref m14, .ref m15, .ref m16, .ref m17, .ref m18, .ref m19, .int (iI aa), .ref m21])), (m9, .inl (cI, 200, .inl (ia u.1))), (m10, .inl (cI, 200, .inl (ia u.2.1))), (m11, .inl (cI, 200, .inl (ia u.2.2.1))), (m14, .inl (cI, 2, .inl (ia u.2.2.2)))]) := by
  refine CtV.mk (cc := cX7_join) (maxL := 4) (ret := none) (by decide) rfl (Nat.le_of_ble_eq_true rfl) ?_
  intro p e s m below meth c A ls R args Q hx hb hml hr hts hown hlocks hA hK hP hD hN hS hl hRf hRl hQ
  have hl : lv_has ls 4 [(0, .ref mo), (1, .int (iI tn)), (2, .int (iI tt)), (3, .int (iI mm))] := hl
  have hown : s.vm.findClass RX7 = some m.cls := hown
  refine lv_iload_n hx hb dX7_join_0 rfl (lv_at hl 3 rfl) ?_
  refine q_if_le (tgt := 50) hx hb dX7_join_1 (by decide) ⟨by omega, by omega⟩ (fun c1 => ?_) (fun c1 => ?_)
  ·
    rw [hQ]
    refine q_retV (kt, kr, km, hp) hx hb hr hlocks hK hP hD hS dX7_join_50 ?_
    try dsimp only
    first | (rw [if_neg (by omega), if_neg (by omega), List.append_nil]; exact ⟨rfl, by omega, rfl, hB_kt, hB_kr, hB_km⟩) | (rw [if_pos (by omega), if_pos (by omega), uI_s, uI_01, hL_s _ _ _ (by omega), uI_s, uI_s, uI_s]; refine ⟨?_, rfl, rfl, by assumption, by assumption, by assumption⟩; rw [hL_congr (kt' := kt) (kr' := kr) (km' := km) (fun j q1 q2 => ⟨uI_n _ _ _ (by omega), uI_n _ _ _ (by omega), uI_n _ _ _ (by omega)⟩)])
  ·
    refine lv_aload_n hx hb dX7_join_4 rfl (lv_at hl 0 rfl) ?_
    refine va_get (D := D) (ci := 7) (v := .ref m9) (C := RX7) (T := TX7) (N := 22) hx hb hts in_X7_join_X7 hown hK hP 0 rfl rfl 9 (by decide) (hts _ lk_X7_join_1) (fun _ h9 => h9) rfl dX7_join_5 ?_
    refine lv_aload_n hx hb dX7_join_8 rfl (lv_at hl 0 rfl) ?_
    refine va_get (D := D) (ci := 7) (v := .ref m14) (C := RX7) (T := TX7) (N := 22) hx hb hts in_X7_join_X7 hown hK hP 0 rfl rfl 14 (by decide) (hts _ lk_X7_join_2) (fun _ h9 => h9) rfl dX7_join_9 ?_
    refine lv_iconst (v := iI 0) hx hb dX7_join_12 rfl ?_
    refine q_iald hx hb hK hP 4 0 rfl rfl (by omega) (by omega) (by decide) dX7_join_13 ?_
    refine lv_iload_n hx hb dX7_join_14 rfl (lv_at hl 1 rfl) ?_
    refine q_iast hx hb hK hP hD hS 1 0 rfl rfl (by omega) (by omega) (by decide) dX7_join_15 (fun H locs hP hD hS => ?_)
    have hP : va_P D vwCl [(mo, .inr (7, [.ref m0, .ref m1, .ref m2, .ref m3, .ref m4, .ref m5, .ref m6, .ref m7, .ref m8, .ref m9, .ref m10, .ref m11, .ref m12, .ref m13, .ref m14, .ref m15, .ref m16, .ref m17, .ref m18, .ref m19, .int (iI aa), .ref m21])), (m9, .inl (cI, 200, .inl (ia (uI kt (hp 0) tn)))), (m10, .inl (cI, 200, .inl (ia kr))), (m11, .inl (cI, 200, .inl (ia km))), (m14, .inl (cI, 2, .inl (ia hp)))] H := hP
    have hD : va_D A [(mo, .inr (7, [.ref m0, .ref m1, .ref m2, .ref m3, .ref m4, .ref m5, .ref m6, .ref m7, .ref m8, .ref m9, .ref m10, .ref m11, .ref m12, .ref m13, .ref m14, .ref m15, .ref m16, .ref m17, .ref m18, .ref m19, .int (iI aa), .ref m21])), (m9, .inl (cI, 200, .inl (ia (uI kt (hp 0) tn)))), (m10, .inl (cI, 200, .inl (ia kr))), (m11, .inl (cI, 200, .inl (ia km))), (m14, .inl (cI, 2, .inl (ia hp)))] := hD
    have hB_1 : BB 0 200 (uI kt (hp 0) tn) := BB_uI hB_kt (by omega)
    refine lv_aload_n hx hb dX7_join_16 rfl (lv_at hl 0 rfl) ?_
    refine va_get (D := D) (ci := 7) (v := .ref m10) (C := RX7) (T := TX7) (N := 22) hx hb hts in_X7_join_X7 hown hK hP 0 rfl rfl 10 (by decide) (hts _ lk_X7_join_3) (fun _ h9 => h9) rfl dX7_join_17 ?_
    refine lv_aload_n hx hb dX7_join_20 rfl (lv_at hl 0 rfl) ?_
    refine va_get (D := D) (ci := 7) (v := .ref m14) (C := RX7) (T := TX7) (N := 22) hx hb hts in_X7_join_X7 hown hK hP 0 rfl rfl 14 (by decide) (hts _ lk_X7_join_2) (fun _ h9 => h9) rfl dX7_join_21 ?_
    refine lv_iconst (v := iI 0) hx hb dX7_join_24 rfl ?_
    refine q_iald hx hb hK hP 4 0 rfl rfl (by omega) (by omega) (by decide) dX7_join_25 ?_
    refine lv_iload_n hx hb dX7_join_26 rfl (lv_at hl 2 rfl) ?_
    refine q_iast hx hb hK hP hD hS 2 0 rfl rfl (by omega) (by omega) (by decide) dX7_join_27 (fun H locs hP hD hS => ?_)
    have hP : va_P D vwCl [(mo, .inr (7, [.ref m0, .ref m1, .ref m2, .ref m3, .ref m4, .ref m5, .ref m6, .ref m7, .ref m8, .ref m9, .ref m10, .ref m11, .ref m12, .ref m13, .ref m14, .ref m15, .ref m16, .ref m17, .ref m18, .ref m19, .int (iI aa), .ref m21])), (m9, .inl (cI, 200, .inl (ia (uI kt (hp 0) tn)))), (m10, .inl (cI, 200, .inl (ia (uI kr (hp 0) tt)))), (m11, .inl (cI, 200, .inl (ia km))), (m14, .inl (cI, 2, .inl (ia hp)))] H := hP
    have hD : va_D A [(mo, .inr (7, [.ref m0, .ref m1, .ref m2, .ref m3, .ref m4, .ref m5, .ref m6, .ref m7, .ref m8, .ref m9, .ref m10, .ref m11, .ref m12, .ref m13, .ref m14, .ref m15, .ref m16, .ref m17, .ref m18, .ref m19, .int (iI aa), .ref m21])), (m9, .inl (cI, 200, .inl (ia (uI kt (hp 0) tn)))), (m10, .inl (cI, 200, .inl (ia (uI kr (hp 0) tt)))), (m11, .inl (cI, 200, .inl (ia km))), (m14, .inl (cI, 2, .inl (ia hp)))] := hD
    have hB_2 : BB 0 4 (uI kr (hp 0) tt) := BB_uI hB_kr (by omega)
    refine lv_aload_n hx hb dX7_join_28 rfl (lv_at hl 0 rfl) ?_
    refine va_get (D := D) (ci := 7) (v := .ref m11) (C := RX7) (T := TX7) (N := 22) hx hb hts in_X7_join_X7 hown hK hP 0 rfl rfl 11 (by decide) (hts _ lk_X7_join_4) (fun _ h9 => h9) rfl dX7_join_29 ?_
    refine lv_aload_n hx hb dX7_join_32 rfl (lv_at hl 0 rfl) ?_
    refine va_get (D := D) (ci := 7) (v := .ref m14) (C := RX7) (T := TX7) (N := 22) hx hb hts in_X7_join_X7 hown hK hP 0 rfl rfl 14 (by decide) (hts _ lk_X7_join_2) (fun _ h9 => h9) rfl dX7_join_33 ?_
    refine lv_iconst (v := iI 0) hx hb dX7_join_36 rfl ?_
    refine q_iald hx hb hK hP 4 0 rfl rfl (by omega) (by omega) (by decide) dX7_join_37 ?_
    refine lv_iload_n hx hb dX7_join_38 rfl (lv_at hl 3 rfl) ?_
    refine q_iast hx hb hK hP hD hS 3 0 rfl rfl (by omega) (by omega) (by decide) dX7_join_39 (fun H locs hP hD hS => ?_)
    have hP : va_P D vwCl [(mo, .inr (7, [.ref m0, .ref m1, .ref m2, .ref m3, .ref m4, .ref m5, .ref m6, .ref m7, .ref m8, .ref m9, .ref m10, .ref m11, .ref m12, .ref m13, .ref m14, .ref m15, .ref m16, .ref m17, .ref m18, .ref m19, .int (iI aa), .ref m21])), (m9, .inl (cI, 200, .inl (ia (uI kt (hp 0) tn)))), (m10, .inl (cI, 200, .inl (ia (uI kr (hp 0) tt)))), (m11, .inl (cI, 200, .inl (ia (uI km (hp 0) mm)))), (m14, .inl (cI, 2, .inl (ia hp)))] H := hP
    have hD : va_D A [(mo, .inr (7, [.ref m0, .ref m1, .ref m2, .ref m3, .ref m4, .ref m5, .ref m6, .ref m7, .ref m8, .ref m9, .ref m10, .ref m11, .ref m12, .ref m13, .ref m14, .ref m15, .ref m16, .ref m17, .ref m18, .ref m19, .int (iI aa), .ref m21])), (m9, .inl (cI, 200, .inl (ia (uI kt (hp 0) tn)))), (m10, .inl (cI, 200, .inl (ia (uI kr (hp 0) tt)))), (m11, .inl (cI, 200, .inl (ia (uI km (hp 0) mm)))), (m14, .inl (cI, 2, .inl (ia hp)))] := hD
    have hB_3 : BB 0 60 (uI km (hp 0) mm) := BB_uI hB_km (by omega)
    refine lv_aload_n hx hb dX7_join_40 rfl (lv_at hl 0 rfl) ?_
    refine va_get (D := D) (ci := 7) (v := .ref m14) (C := RX7) (T := TX7) (N := 22) hx hb hts in_X7_join_X7 hown hK hP 0 rfl rfl 14 (by decide) (hts _ lk_X7_join_2) (fun _ h9 => h9) rfl dX7_join_41 ?_
    refine lv_iconst (v := iI 0) hx hb dX7_join_44 rfl ?_
    refine lv_dup2_11 hx hb dX7_join_45 rfl rfl ?_
    refine q_iald hx hb hK hP 4 0 rfl rfl (by omega) (by omega) (by decide) dX7_join_46 ?_
    refine lv_iconst (v := iI 1) hx hb dX7_join_47 rfl ?_
    refine q_iadd hx hb dX7_join_48 ?_
    refine q_iast hx hb hK hP hD hS 4 0 rfl rfl (by omega) (by omega) (by decide) dX7_join_49 (fun H locs hP hD hS => ?_)
    have hP : va_P D vwCl [(mo, .inr (7, [.ref m0, .ref m1, .ref m2, .ref m3, .ref m4, .ref m5, .ref m6, .ref m7, .ref m8, .ref m9, .ref m10, .ref m11, .ref m12, .ref m13, .ref m14, .ref m15, .ref m16, .ref m17, .ref m18, .ref m19, .int (iI aa), .ref m21])), (m9, .inl (cI, 200, .inl (ia (uI kt (hp 0) tn)))), (m10, .inl (cI, 200, .inl (ia (uI kr (hp 0) tt)))), (m11, .inl (cI, 200, .inl (ia (uI km (hp 0) mm)))), (m14, .inl (cI, 2, .inl (ia (uI hp 0 ((hp 0) + 1)))))] H := hP
    have hD : va_D A [(mo, .inr (7, [.ref m0, .ref m1, .ref m2, .ref m3, .ref m4, .ref m5, .ref m6, .ref m7, .ref m8, .ref m9, .ref m10, .ref m11, .ref m12, .ref m13, .ref m14, .ref m15, .ref m16, .ref m17, .ref m18, .ref m19, .int (iI aa), .ref m21])), (m9, .inl (cI, 200, .inl (ia (uI kt (hp 0) tn)))), (m10, .inl (cI, 200, .inl (ia (uI kr (hp 0) tt)))), (m11, .inl (cI, 200, .inl (ia (uI km (hp 0) mm)))), (m14, .inl (cI, 2, .inl (ia (uI hp 0 ((hp 0) + 1)))))] := hD
    rw [hQ]
    refine q_retV ((uI kt (hp 0) tn), (uI kr (hp 0) tt), (uI km (hp 0) mm), (uI hp 0 ((hp 0) + 1))) hx hb hr hlocks hK hP hD hS dX7_join_50 ?_
    try dsimp only
    first | (rw [if_neg (by omega), if_neg (by omega), List.append_nil]; exact ⟨rfl, by omega, rfl, hB_kt, hB_kr, hB_km⟩) | (rw [if_pos (by omega), if_pos (by omega), uI_s, uI_01, hL_s _ _ _ (by omega), uI_s, uI_s, uI_s]; refine ⟨?_, rfl, rfl, by assumption, by assumption, by assumption⟩; rw [hL_congr (kt' := kt) (kr' := kr) (km' := km) (fun j q1 q2 => ⟨uI_n _ _ _ (by omega), uI_n _ _ _ (by omega), uI_n _ _ _ (by omega)⟩)])

theorem in_X7_goAway_X7 : ∀ w ∈ wsX70, w ∈ wsX7_goAway := fun _ h => List.mem_cons_of_mem _ (List.mem_append_right _ h)
theorem lk_X7_goAway_1 : Cond.fieldLink RX7 53 "MoreHandsModel" "heaps" "[I" ∈ wsX7_goAway := List.mem_of_getElem? (i := 1) rfl
theorem lk_X7_goAway_2 : Cond.fieldLink RX7 38 "MoreHandsModel" "heapTick" "[I" ∈ wsX7_goAway := List.mem_of_getElem? (i := 2) rfl
theorem lk_X7_goAway_3 : Cond.fieldLink RX7 7 "MoreHandsModel" "settings" "[I" ∈ wsX7_goAway := List.mem_of_getElem? (i := 3) rfl
theorem lk_X7_goAway_4 : Cond.fieldLink RX7 41 "MoreHandsModel" "heapTries" "[I" ∈ wsX7_goAway := List.mem_of_getElem? (i := 4) rfl
theorem lk_X7_goAway_5 : Cond.fieldLink RX7 44 "MoreHandsModel" "heapMany" "[I" ∈ wsX7_goAway := List.mem_of_getElem? (i := 5) rfl
theorem lk_X7_goAway_6 : Cond.fieldLink RX7 47 "MoreHandsModel" "againTries" "[I" ∈ wsX7_goAway := List.mem_of_getElem? (i := 6) rfl
theorem lk_X7_goAway_7 : Cond.fieldLink RX7 50 "MoreHandsModel" "againMany" "[I" ∈ wsX7_goAway := List.mem_of_getElem? (i := 7) rfl
set_option maxHeartbeats 4000000 in
set_option maxRecDepth 100000 in
theorem c_X7_goAway (l : Launch) (D : va_G) (cI cZ cII : ClassId) (mo : Nat) (m0 : Nat) (m9 : Nat) (m10 : Nat) (m11 : Nat) (m12 : Nat) (m13 : Nat) (m14 : Nat) (m1 : Nat) (m2 : Nat) (m3 : Nat) (m4 : Nat) (m5 : Nat) (m6 : Nat) (m7 : Nat) (m8 : Nat) (m15 : Nat) (m16 : Nat) (m17 : Nat) (m18 : Nat) (m19 : Nat) (aa : Int) (m21 : Nat) (se : Int → Int) (kt : Int → Int) (kr : Int → Int) (km : Int → Int) (ar : Int → Int) (am : Int → Int) (hp : Int → Int) (ti : Int) (hB_se : BB 0 1000 se) (hB_kt : BB 0 200 kt) (hB_kr : BB 0 4 kr) (hB_km : BB 0 60 km) (hB_ar : BB 0 4 ar) (hB_am : BB 0 60 am) (hp_ti : 0 ≤ ti ∧ ti ≤ 199) (hse : SB se) (hhp : 0 ≤ hp 0 ∧ hp 0 ≤ 200) : CtI l yX7_goAway wsX7_goAway 0 0 D (ty3 cI cZ cII) [.ref mo, .int (iI ti)] [(mo, .inr (7, [.ref m0, .ref m1, .ref m2, .ref m3, .ref m4, .ref m5, .ref m6, .ref m7, .ref m8, .ref m9, .ref m10, .ref m11, .ref m12, .ref m13, .ref m14, .ref m15, .ref m16, .ref m17, .ref m18, .ref m19, .int (iI aa), .ref m21])), (m0, .inl (cI, 19, .inl (ia se))), (m9, .inl (cI, 200, .inl (ia kt))), (m10, .inl (cI, 200, .inl (ia kr))), (m11, .inl (cI, 200, .inl (ia km))), (m12, .inl (cI, 200, .inl (ia ar))), (m13, .inl (cI, 200, .inl (ia am))), (m14, .inl (cI, 2, .inl (ia hp)))] (fun z (u : (Int → Int) × (Int → Int) × (Int → Int) × (Int → Int) × (Int → Int) × (Int → Int)) => z = (lvF ti (se 3) (se 4) (hL kt kr km (hp 0))).2.2 ∧ hL u.1 u.2.1 u.2.2.1 (u.2.2.2.2.2 0) = (lvF ti (se 3) (se 4) (hL kt kr km (hp 0))).1 ∧ hL (fun _ => ti + 1) u.2.2.2.1 u.2.2.2.2.1 (u.2.2.2.2.2 1) = (lvF ti (se 3) (se 4) (hL kt kr km (hp 0))).2.1 ∧ (0 ≤ u.2.2.2.2.2 0 ∧ 0 ≤ u.2.2.2.2.2 1 ∧ u.2.2.2.2.2 0 + u.2.2.2.2.2 1 ≤ hp 0) ∧ BB 0 200 u.1 ∧ BB 0 4 u.2.1 ∧ BB 0 60 u.2.2.1 ∧ BB 0 4 u.2.2.2.1 ∧ BB 0 60 u.2.2.2.2.1) (fun u => [(mo, .inr (7, [.ref m0, .ref m1, .ref m2, .ref m3, .ref m4, .ref m5, .ref m6, .ref m7, .ref m8, .ref m9, .ref m10, .ref m11, .ref m12, .ref m13, .ref m14, .ref m15, .ref m16, .ref m17, .ref m18, .ref m19, .int (iI aa), .ref m21])), (m0, .inl (cI, 19, .inl (ia se))), (m9, .inl (cI, 200, .inl (ia u.1))), (m10, .inl (cI, 200, .inl (ia u.2.1))), (m11, .inl (cI, 200, .inl (ia u.2.2.1))), (m12, .inl (cI, 200, .inl (ia u.2.2.2.1))), (m13, .inl (cI, 200, .inl (ia u.2.2.2.2.1))), (m14, .inl (cI, 2, .inl (ia u.2.2.2.2.2)))]) := by
  refine CtI.mk (cc := cX7_goAway) (maxL := 6) (ret := (some .int)) (by decide) rfl (Nat.le_of_ble_eq_true rfl) ?_
  intro p e s m below meth c A ls R args Q hx hb hml hr hts hown hlocks hA hK hP hD hN hS hl hRf hRl hQ
  have hl : lv_has ls 6 [(0, .ref mo), (1, .int (iI ti))] := hl
  have hown : s.vm.findClass RX7 = some m.cls := hown
  have hsb := hse; unfold SB at hsb
  refine lv_iconst (v := iI 0) hx hb dX7_goAway_0 rfl ?_
  refine lv_istore_n (lv' := [(2, .int (iI 0)), (0, .ref mo), (1, .int (iI ti))]) hx hb dX7_goAway_1 rfl hl (by decide) rfl (fun ls hl => ?_)
  refine lv_iconst (v := iI 0) hx hb dX7_goAway_2 rfl ?_
  refine lv_istore_n (lv' := [(3, .int (iI 0)), (2, .int (iI 0)), (0, .ref mo), (1, .int (iI ti))]) hx hb dX7_goAway_3 rfl hl (by decide) rfl (fun ls hl => ?_)
  refine lv_aload_n hx hb dX7_goAway_4 rfl (lv_at hl 2 rfl) ?_
  refine va_get (D := D) (ci := 7) (v := .ref m14) (C := RX7) (T := TX7) (N := 22) hx hb hts in_X7_goAway_X7 hown hK hP 0 rfl rfl 14 (by decide) (hts _ lk_X7_goAway_1) (fun _ h9 => h9) rfl dX7_goAway_5 ?_
  refine lv_iconst (v := iI 1) hx hb dX7_goAway_8 rfl ?_
  refine lv_iconst (v := iI 0) hx hb dX7_goAway_9 rfl ?_
  refine q_iast hx hb hK hP hD hS 7 0 rfl rfl (by omega) (by omega) (by decide) dX7_goAway_10 (fun H locs hP hD hS => ?_)
  have hP : va_P D vwCl [(mo, .inr (7, [.ref m0, .ref m1, .ref m2, .ref m3, .ref m4, .ref m5, .ref m6, .ref m7, .ref m8, .ref m9, .ref m10, .ref m11, .ref m12, .ref m13, .ref m14, .ref m15, .ref m16, .ref m17, .ref m18, .ref m19, .int (iI aa), .ref m21])), (m0, .inl (cI, 19, .inl (ia se))), (m9, .inl (cI, 200, .inl (ia kt))), (m10, .inl (cI, 200, .inl (ia kr))), (m11, .inl (cI, 200, .inl (ia km))), (m12, .inl (cI, 200, .inl (ia ar))), (m13, .inl (cI, 200, .inl (ia am))), (m14, .inl (cI, 2, .inl (ia (uI hp 1 0))))] H := hP
  have hD : va_D A [(mo, .inr (7, [.ref m0, .ref m1, .ref m2, .ref m3, .ref m4, .ref m5, .ref m6, .ref m7, .ref m8, .ref m9, .ref m10, .ref m11, .ref m12, .ref m13, .ref m14, .ref m15, .ref m16, .ref m17, .ref m18, .ref m19, .int (iI aa), .ref m21])), (m0, .inl (cI, 19, .inl (ia se))), (m9, .inl (cI, 200, .inl (ia kt))), (m10, .inl (cI, 200, .inl (ia kr))), (m11, .inl (cI, 200, .inl (ia km))), (m12, .inl (cI, 200, .inl (ia ar))), (m13, .inl (cI, 200, .inl (ia am))), (m14, .inl (cI, 2, .inl (ia (uI hp 1 0))))] := hD
  refine lv_iconst (v := iI 0) hx hb dX7_goAway_11 rfl ?_
  refine lv_istore (lv' := [(4, .int (iI 0)), (3, .int (iI 0)), (2, .int (iI 0)), (0, .ref mo), (1, .int (iI ti))]) hx hb dX7_goAway_12 hl (by decide) rfl (fun ls hl => ?_)
  have L14_0 : ∀ (n : Nat), ∀ (lo : Int) (sy : Int) (k : Int) (kt1 : Int → Int) (kr1 : Int → Int) (km1 : Int → Int) (ar1 : Int → Int) (am1 : Int → Int) (hp1 : Int → Int), (hB_kt1 : BB 0 200 kt1) → (hB_kr1 : BB 0 4 kr1) → (hB_km1 : BB 0 60 km1) → (hB_ar1 : BB 0 4 ar1) → (hB_am1 : BB 0 60 am1) → (hk : 0 ≤ k ∧ k ≤ hp 0) → (hh0 : hp1 0 = hp 0) → (hh1 : 0 ≤ hp1 1) → (hsy : 0 ≤ sy ∧ sy + hp1 1 ≤ k) → (hrs : ∀ j, k ≤ j → kt1 j = kt j ∧ kr1 j = kr j ∧ km1 j = km j) → (hA2 : lvF ti (se 3) (se 4) (hL kt kr km k) = (hL kt1 kr1 km1 sy, hL (fun _ => ti + 1) ar1 am1 (hp1 1), lo)) → (hp 0 - k) < (n : Int) → ∀ (H : Heap) (locs : List Loc), va_P D vwCl [(mo, .inr (7, [.ref m0, .ref m1, .ref m2, .ref m3, .ref m4, .ref m5, .ref m6, .ref m7, .ref m8, .ref m9, .ref m10, .ref m11, .ref m12, .ref m13, .ref m14, .ref m15, .ref m16, .ref m17, .ref m18, .ref m19, .int (iI aa), .ref m21])), (m0, .inl (cI, 19, .inl (ia se))), (m9, .inl (cI, 200, .inl (ia kt1))), (m10, .inl (cI, 200, .inl (ia kr1))), (m11, .inl (cI, 200, .inl (ia km1))), (m12, .inl (cI, 200, .inl (ia ar1))), (m13, .inl (cI, 200, .inl (ia am1))), (m14, .inl (cI, 2, .inl (ia hp1)))] H → va_D A [(mo, .inr (7, [.ref m0, .ref m1, .ref m2, .ref m3, .ref m4, .ref m5, .ref m6, .ref m7, .ref m8, .ref m9, .ref m10, .ref m11, .ref m12, .ref m13, .ref m14, .ref m15, .ref m16, .ref m17, .ref m18, .ref m19, .int (iI aa), .ref m21])), (m0, .inl (cI, 19, .inl (ia se))), (m9, .inl (cI, 200, .inl (ia kt1))), (m10, .inl (cI, 200, .inl (ia kr1))), (m11, .inl (cI, 200, .inl (ia km1))), (m12, .inl (cI, 200, .inl (ia ar1))), (m13, .inl (cI, 200, .inl (ia am1))), (m14, .inl (cI, 2, .inl (ia hp1)))] → va_S A s.heap H locs → ∀ ls : Array Slot, lv_has ls 6 [(0, .ref mo), (1, .int (iI ti)), (2, .int (iI lo)), (3, .int (iI sy)), (4, .int (iI k))] → W p l e R s m args below meth c H locs 0 0 Q (F0 m 14 ls []) := by
    intro n
    induction n with
    | zero => intro lo sy k kt1 kr1 km1 ar1 am1 hp1 hB_kt1 hB_kr1 hB_km1 hB_ar1 hB_am1 hk hh0 hh1 hsy hrs hA2 hm; exact absurd hm (by omega)
    | succ n ih =>
      intro lo sy k kt1 kr1 km1 ar1 am1 hp1 hB_kt1 hB_kr1 hB_km1 hB_ar1 hB_am1 hk hh0 hh1 hsy hrs hA2 hm H locs hP hD hS ls hl
      have hrs0 := hrs
      have hA0 := hA2
      have hrk := hrs k (Int.le_refl k)
      have hbk1 := hB_kt1 k
      have hbk2 := hB_kr1 k
      have hbk3 := hB_km1 k
      refine lv_iload hx hb dX7_goAway_14 (lv_at hl 4 rfl) ?_
      refine lv_aload_n hx hb dX7_goAway_16 rfl (lv_at hl 0 rfl) ?_
      refine va_get (D := D) (ci := 7) (v := .ref m14) (C := RX7) (T := TX7) (N := 22) hx hb hts in_X7_goAway_X7 hown hK hP 0 rfl rfl 14 (by decide) (hts _ lk_X7_goAway_1) (fun _ h9 => h9) rfl dX7_goAway_17 ?_
      refine lv_iconst (v := iI 0) hx hb dX7_goAway_20 rfl ?_
      refine q_iald hx hb hK hP 7 0 rfl rfl (by omega) (by omega) (by decide) dX7_goAway_21 ?_
      refine q_icmp_ge (tgt := 210) hx hb dX7_goAway_22 (by decide) ⟨by omega, by omega⟩ ⟨by omega, by omega⟩ (fun c22 => ?_) (fun c22 => ?_)
      ·
        refine lv_aload_n hx hb dX7_goAway_210 rfl (lv_at hl 0 rfl) ?_
        refine va_get (D := D) (ci := 7) (v := .ref m14) (C := RX7) (T := TX7) (N := 22) hx hb hts in_X7_goAway_X7 hown hK hP 0 rfl rfl 14 (by decide) (hts _ lk_X7_goAway_1) (fun _ h9 => h9) rfl dX7_goAway_211 ?_
        refine lv_iconst (v := iI 0) hx hb dX7_goAway_214 rfl ?_
        refine lv_iload_n hx hb dX7_goAway_215 rfl (lv_at hl 3 rfl) ?_
        refine q_iast hx hb hK hP hD hS 7 0 rfl rfl (by omega) (by omega) (by decide) dX7_goAway_216 (fun H locs hP hD hS => ?_)
        have hP : va_P D vwCl [(mo, .inr (7, [.ref m0, .ref m1, .ref m2, .ref m3, .ref m4, .ref m5, .ref m6, .ref m7, .ref m8, .ref m9, .ref m10, .ref m11, .ref m12, .ref m13, .ref m14, .ref m15, .ref m16, .ref m17, .ref m18, .ref m19, .int (iI aa), .ref m21])), (m0, .inl (cI, 19, .inl (ia se))), (m9, .inl (cI, 200, .inl (ia kt1))), (m10, .inl (cI, 200, .inl (ia kr1))), (m11, .inl (cI, 200, .inl (ia km1))), (m12, .inl (cI, 200, .inl (ia ar1))), (m13, .inl (cI, 200, .inl (ia am1))), (m14, .inl (cI, 2, .inl (ia (uI hp1 0 sy))))] H := hP
        have hD : va_D A [(mo, .inr (7, [.ref m0, .ref m1, .ref m2, .ref m3, .ref m4, .ref m5, .ref m6, .ref m7, .ref m8, .ref m9, .ref m10, .ref m11, .ref m12, .ref m13, .ref m14, .ref m15, .ref m16, .ref m17, .ref m18, .ref m19, .int (iI aa), .ref m21])), (m0, .inl (cI, 19, .inl (ia se))), (m9, .inl (cI, 200, .inl (ia kt1))), (m10, .inl (cI, 200, .inl (ia kr1))), (m11, .inl (cI, 200, .inl (ia km1))), (m12, .inl (cI, 200, .inl (ia ar1))), (m13, .inl (cI, 200, .inl (ia am1))), (m14, .inl (cI, 2, .inl (ia (uI hp1 0 sy))))] := hD
        refine lv_iload_n hx hb dX7_goAway_217 rfl (lv_at hl 2 rfl) ?_
        rw [hQ]
        refine q_retI (kt1, kr1, km1, ar1, am1, (uI hp1 0 sy)) hx hb hr hlocks hK hP hD hS dX7_goAway_218 ?_
        try dsimp only
        rw [show hp 0 = k by omega, hA2, uI_s, uI_01]
        exact ⟨rfl, rfl, rfl, by omega, hB_kt1, hB_kr1, hB_km1, hB_ar1, hB_am1⟩
      ·
        refine lv_aload_n hx hb dX7_goAway_25 rfl (lv_at hl 0 rfl) ?_
        refine va_get (D := D) (ci := 7) (v := .ref m9) (C := RX7) (T := TX7) (N := 22) hx hb hts in_X7_goAway_X7 hown hK hP 0 rfl rfl 9 (by decide) (hts _ lk_X7_goAway_2) (fun _ h9 => h9) rfl dX7_goAway_26 ?_
        refine lv_iload hx hb dX7_goAway_29 (lv_at hl 4 rfl) ?_
        refine q_iald hx hb hK hP 2 0 rfl rfl (by omega) (by omega) (by decide) dX7_goAway_31 ?_
        have hb31 := hB_kt1 k
        refine lv_iload_n hx hb dX7_goAway_32 rfl (lv_at hl 1 rfl) ?_
        refine lv_aload_n hx hb dX7_goAway_33 rfl (lv_at hl 0 rfl) ?_
        refine va_get (D := D) (ci := 7) (v := .ref m0) (C := RX7) (T := TX7) (N := 22) hx hb hts in_X7_goAway_X7 hown hK hP 0 rfl rfl 0 (by decide) (hts _ lk_X7_goAway_3) (fun _ h9 => h9) rfl dX7_goAway_34 ?_
        refine lv_iconst (v := iI 3) hx hb dX7_goAway_37 rfl ?_
        refine q_iald hx hb hK hP 1 0 rfl rfl (by omega) (by omega) (by decide) dX7_goAway_38 ?_
        have hb38 := hB_se 3
        refine q_isub hx hb dX7_goAway_39 ?_
        refine lv_iconst (v := iI 1) hx hb dX7_goAway_40 rfl ?_
        refine q_iadd hx hb dX7_goAway_41 ?_
        refine q_icmp_gt (tgt := 49) hx hb dX7_goAway_42 (by decide) ⟨by omega, by omega⟩ ⟨by omega, by omega⟩ (fun c42 => ?_) (fun c42 => ?_)
        ·
          refine lv_iconst (v := iI 0) hx hb dX7_goAway_49 rfl ?_
          refine lv_istore (lv' := [(5, .int (iI 0)), (0, .ref mo), (1, .int (iI ti)), (2, .int (iI lo)), (3, .int (iI sy)), (4, .int (iI k))]) hx hb dX7_goAway_50 hl (by decide) rfl (fun ls hl => ?_)
          refine lv_iload hx hb dX7_goAway_52 (lv_at hl 0 rfl) ?_
          refine q_if_eq (tgt := 134) hx hb dX7_goAway_54 (by decide) ⟨by decide, by decide⟩ (fun _ => ?_) (fun h => absurd h (by decide))
          refine lv_iload hx hb dX7_goAway_134 (lv_at hl 0 rfl) ?_
          refine q_if_eq (tgt := 152) hx hb dX7_goAway_136 (by decide) ⟨by decide, by decide⟩ (fun _ => ?_) (fun h => absurd h (by decide))
          refine lv_aload_n hx hb dX7_goAway_152 rfl (lv_at hl 1 rfl) ?_
          refine va_get (D := D) (ci := 7) (v := .ref m11) (C := RX7) (T := TX7) (N := 22) hx hb hts in_X7_goAway_X7 hown hK hP 0 rfl rfl 11 (by decide) (hts _ lk_X7_goAway_5) (fun _ h9 => h9) rfl dX7_goAway_153 ?_
          refine lv_iload hx hb dX7_goAway_156 (lv_at hl 5 rfl) ?_
          refine q_iald hx hb hK hP 4 0 rfl rfl (by omega) (by omega) (by decide) dX7_goAway_158 ?_
          have hb158 := hB_km1 k
          refine q_if_le (tgt := 204) hx hb dX7_goAway_159 (by decide) ⟨by omega, by omega⟩ (fun c159 => ?_) (fun c159 => ?_)
          ·
            refine q_iinc (k := 5) (lv' := [(4, .int (iI (k + 1))), (5, .int (iI 0)), (0, .ref mo), (1, .int (iI ti)), (2, .int (iI lo)), (3, .int (iI sy))]) hx hb dX7_goAway_204 hl rfl (by decide) rfl (fun ls hl => ?_)
            refine lv_goto (tgt := 14) hx hb dX7_goAway_207 (by decide) ?_
            exact ih  lo sy (k + 1) kt1 kr1 km1 ar1 am1 hp1 hB_kt1 hB_kr1 hB_km1 hB_ar1 hB_am1 (by omega) (by first | exact hh0 | (rw [uI_10]; exact hh0)) (by first | exact hh1 | (rw [uI_s]; omega)) (by first | omega | (rw [uI_s]; omega)) (by intro j hj; first | exact hrs0 j (by omega) | (rw [uI_n _ _ _ (by omega), uI_n _ _ _ (by omega), uI_n _ _ _ (by omega)]; exact hrs0 j (by omega))) (by rw [hL_s _ _ _ hk.1, lvF_snoc, hA0]; dsimp only; rw [← hrk.1, ← hrk.2.1, ← hrk.2.2]; first | (rw [if_pos (by omega), if_pos (by omega), if_pos (by omega), uI_s, hL_s _ _ _ hh1, uI_s, uI_s, hL_congr (kt := fun _ => ti + 1) (kt' := fun _ => ti + 1) (kr' := ar1) (km' := am1) (fun j q1 q2 => ⟨rfl, uI_n _ _ _ (by omega), uI_n _ _ _ (by omega)⟩)]; done) | (rw [if_pos (by omega), if_pos (by omega), if_neg (by omega)]; done) | (rw [if_pos (by omega), if_neg (by omega)]; done) | (rw [if_neg (by omega), if_pos (by omega), hL_s _ _ _ hsy.1, uI_s, uI_s, uI_s, hL_congr (kt' := kt1) (kr' := kr1) (km' := km1) (fun j q1 q2 => ⟨uI_n _ _ _ (by omega), uI_n _ _ _ (by omega), uI_n _ _ _ (by omega)⟩)]; done) | (rw [if_neg (by omega), if_neg (by omega)]; done)) (by omega) _ _ hP hD hS _ (lv_sub hl [2, 3, 4, 5, 0] rfl)
          ·
            refine lv_aload_n hx hb dX7_goAway_162 rfl (lv_at hl 1 rfl) ?_
            refine va_get (D := D) (ci := 7) (v := .ref m9) (C := RX7) (T := TX7) (N := 22) hx hb hts in_X7_goAway_X7 hown hK hP 0 rfl rfl 9 (by decide) (hts _ lk_X7_goAway_2) (fun _ h9 => h9) rfl dX7_goAway_163 ?_
            refine lv_iload_n hx hb dX7_goAway_166 rfl (lv_at hl 4 rfl) ?_
            refine lv_aload_n hx hb dX7_goAway_167 rfl (lv_at hl 1 rfl) ?_
            refine va_get (D := D) (ci := 7) (v := .ref m9) (C := RX7) (T := TX7) (N := 22) hx hb hts in_X7_goAway_X7 hown hK hP 0 rfl rfl 9 (by decide) (hts _ lk_X7_goAway_2) (fun _ h9 => h9) rfl dX7_goAway_168 ?_
            refine lv_iload hx hb dX7_goAway_171 (lv_at hl 5 rfl) ?_
            refine q_iald hx hb hK hP 2 0 rfl rfl (by omega) (by omega) (by decide) dX7_goAway_173 ?_
            have hb173 := hB_kt1 k
            refine q_iast hx hb hK hP hD hS 2 0 rfl rfl (by omega) (by omega) (by decide) dX7_goAway_174 (fun H locs hP hD hS => ?_)
            have hP : va_P D vwCl [(mo, .inr (7, [.ref m0, .ref m1, .ref m2, .ref m3, .ref m4, .ref m5, .ref m6, .ref m7, .ref m8, .ref m9, .ref m10, .ref m11, .ref m12, .ref m13, .ref m14, .ref m15, .ref m16, .ref m17, .ref m18, .ref m19, .int (iI aa), .ref m21])), (m0, .inl (cI, 19, .inl (ia se))), (m9, .inl (cI, 200, .inl (ia (uI kt1 sy (kt1 k))))), (m10, .inl (cI, 200, .inl (ia kr1))), (m11, .inl (cI, 200, .inl (ia km1))), (m12, .inl (cI, 200, .inl (ia ar1))), (m13, .inl (cI, 200, .inl (ia am1))), (m14, .inl (cI, 2, .inl (ia hp1)))] H := hP
            have hD : va_D A [(mo, .inr (7, [.ref m0, .ref m1, .ref m2, .ref m3, .ref m4, .ref m5, .ref m6, .ref m7, .ref m8, .ref m9, .ref m10, .ref m11, .ref m12, .ref m13, .ref m14, .ref m15, .ref m16, .ref m17, .ref m18, .ref m19, .int (iI aa), .ref m21])), (m0, .inl (cI, 19, .inl (ia se))), (m9, .inl (cI, 200, .inl (ia (uI kt1 sy (kt1 k))))), (m10, .inl (cI, 200, .inl (ia kr1))), (m11, .inl (cI, 200, .inl (ia km1))), (m12, .inl (cI, 200, .inl (ia ar1))), (m13, .inl (cI, 200, .inl (ia am1))), (m14, .inl (cI, 2, .inl (ia hp1)))] := hD
            have hB_1 : BB 0 200 (uI kt1 sy (kt1 k)) := BB_uI hB_kt1 (by omega)
            refine lv_aload_n hx hb dX7_goAway_175 rfl (lv_at hl 1 rfl) ?_
            refine va_get (D := D) (ci := 7) (v := .ref m10) (C := RX7) (T := TX7) (N := 22) hx hb hts in_X7_goAway_X7 hown hK hP 0 rfl rfl 10 (by decide) (hts _ lk_X7_goAway_4) (fun _ h9 => h9) rfl dX7_goAway_176 ?_
            refine lv_iload_n hx hb dX7_goAway_179 rfl (lv_at hl 4 rfl) ?_
            refine lv_aload_n hx hb dX7_goAway_180 rfl (lv_at hl 1 rfl) ?_
            refine va_get (D := D) (ci := 7) (v := .ref m10) (C := RX7) (T := TX7) (N := 22) hx hb hts in_X7_goAway_X7 hown hK hP 0 rfl rfl 10 (by decide) (hts _ lk_X7_goAway_4) (fun _ h9 => h9) rfl dX7_goAway_181 ?_
            refine lv_iload hx hb dX7_goAway_184 (lv_at hl 5 rfl) ?_
            refine q_iald hx hb hK hP 3 0 rfl rfl (by omega) (by omega) (by decide) dX7_goAway_186 ?_
            have hb186 := hB_kr1 k
            refine q_iast hx hb hK hP hD hS 3 0 rfl rfl (by omega) (by omega) (by decide) dX7_goAway_187 (fun H locs hP hD hS => ?_)
            have hP : va_P D vwCl [(mo, .inr (7, [.ref m0, .ref m1, .ref m2, .ref m3, .ref m4, .ref m5, .ref m6, .ref m7, .ref m8, .ref m9, .ref m10, .ref m11, .ref m12, .ref m13, .ref m14, .ref m15, .ref m16, .ref m17, .ref m18, .ref m19, .int (iI aa), .ref m21])), (m0, .inl (cI, 19, .inl (ia se))), (m9, .inl (cI, 200, .inl (ia (uI kt1 sy (kt1 k))))), (m10, .inl (cI, 200, .inl (ia (uI kr1 sy (kr1 k))))), (m11, .inl (cI, 200, .inl (ia km1))), (m12, .inl (cI, 200, .inl (ia ar1))), (m13, .inl (cI, 200, .inl (ia am1))), (m14, .inl (cI, 2, .inl (ia hp1)))] H := hP
            have hD : va_D A [(mo, .inr (7, [.ref m0, .ref m1, .ref m2, .ref m3, .ref m4, .ref m5, .ref m6, .ref m7, .ref m8, .ref m9, .ref m10, .ref m11, .ref m12, .ref m13, .ref m14, .ref m15, .ref m16, .ref m17, .ref m18, .ref m19, .int (iI aa), .ref m21])), (m0, .inl (cI, 19, .inl (ia se))), (m9, .inl (cI, 200, .inl (ia (uI kt1 sy (kt1 k))))), (m10, .inl (cI, 200, .inl (ia (uI kr1 sy (kr1 k))))), (m11, .inl (cI, 200, .inl (ia km1))), (m12, .inl (cI, 200, .inl (ia ar1))), (m13, .inl (cI, 200, .inl (ia am1))), (m14, .inl (cI, 2, .inl (ia hp1)))] := hD
            have hB_2 : BB 0 4 (uI kr1 sy (kr1 k)) := BB_uI hB_kr1 (by omega)
            refine lv_aload_n hx hb dX7_goAway_188 rfl (lv_at hl 1 rfl) ?_
            refine va_get (D := D) (ci := 7) (v := .ref m11) (C := RX7) (T := TX7) (N := 22) hx hb hts in_X7_goAway_X7 hown hK hP 0 rfl rfl 11 (by decide) (hts _ lk_X7_goAway_5) (fun _ h9 => h9) rfl dX7_goAway_189 ?_
            refine lv_iload_n hx hb dX7_goAway_192 rfl (lv_at hl 4 rfl) ?_
            refine lv_aload_n hx hb dX7_goAway_193 rfl (lv_at hl 1 rfl) ?_
            refine va_get (D := D) (ci := 7) (v := .ref m11) (C := RX7) (T := TX7) (N := 22) hx hb hts in_X7_goAway_X7 hown hK hP 0 rfl rfl 11 (by decide) (hts _ lk_X7_goAway_5) (fun _ h9 => h9) rfl dX7_goAway_194 ?_
            refine lv_iload hx hb dX7_goAway_197 (lv_at hl 5 rfl) ?_
            refine q_iald hx hb hK hP 4 0 rfl rfl (by omega) (by omega) (by decide) dX7_goAway_199 ?_
            have hb199 := hB_km1 k
            refine q_iast hx hb hK hP hD hS 4 0 rfl rfl (by omega) (by omega) (by decide) dX7_goAway_200 (fun H locs hP hD hS => ?_)
            have hP : va_P D vwCl [(mo, .inr (7, [.ref m0, .ref m1, .ref m2, .ref m3, .ref m4, .ref m5, .ref m6, .ref m7, .ref m8, .ref m9, .ref m10, .ref m11, .ref m12, .ref m13, .ref m14, .ref m15, .ref m16, .ref m17, .ref m18, .ref m19, .int (iI aa), .ref m21])), (m0, .inl (cI, 19, .inl (ia se))), (m9, .inl (cI, 200, .inl (ia (uI kt1 sy (kt1 k))))), (m10, .inl (cI, 200, .inl (ia (uI kr1 sy (kr1 k))))), (m11, .inl (cI, 200, .inl (ia (uI km1 sy (km1 k))))), (m12, .inl (cI, 200, .inl (ia ar1))), (m13, .inl (cI, 200, .inl (ia am1))), (m14, .inl (cI, 2, .inl (ia hp1)))] H := hP
            have hD : va_D A [(mo, .inr (7, [.ref m0, .ref m1, .ref m2, .ref m3, .ref m4, .ref m5, .ref m6, .ref m7, .ref m8, .ref m9, .ref m10, .ref m11, .ref m12, .ref m13, .ref m14, .ref m15, .ref m16, .ref m17, .ref m18, .ref m19, .int (iI aa), .ref m21])), (m0, .inl (cI, 19, .inl (ia se))), (m9, .inl (cI, 200, .inl (ia (uI kt1 sy (kt1 k))))), (m10, .inl (cI, 200, .inl (ia (uI kr1 sy (kr1 k))))), (m11, .inl (cI, 200, .inl (ia (uI km1 sy (km1 k))))), (m12, .inl (cI, 200, .inl (ia ar1))), (m13, .inl (cI, 200, .inl (ia am1))), (m14, .inl (cI, 2, .inl (ia hp1)))] := hD
            have hB_3 : BB 0 60 (uI km1 sy (km1 k)) := BB_uI hB_km1 (by omega)
            refine q_iinc (k := 4) (lv' := [(3, .int (iI (sy + 1))), (5, .int (iI 0)), (0, .ref mo), (1, .int (iI ti)), (2, .int (iI lo)), (4, .int (iI k))]) hx hb dX7_goAway_201 hl rfl (by decide) rfl (fun ls hl => ?_)
            refine q_iinc (k := 5) (lv' := [(4, .int (iI (k + 1))), (3, .int (iI (sy + 1))), (5, .int (iI 0)), (0, .ref mo), (1, .int (iI ti)), (2, .int (iI lo))]) hx hb dX7_goAway_204 hl rfl (by decide) rfl (fun ls hl => ?_)
            refine lv_goto (tgt := 14) hx hb dX7_goAway_207 (by decide) ?_
            exact ih  lo (sy + 1) (k + 1) (uI kt1 sy (kt1 k)) (uI kr1 sy (kr1 k)) (uI km1 sy (km1 k)) ar1 am1 hp1 hB_1 hB_2 hB_3 hB_ar1 hB_am1 (by omega) (by first | exact hh0 | (rw [uI_10]; exact hh0)) (by first | exact hh1 | (rw [uI_s]; omega)) (by first | omega | (rw [uI_s]; omega)) (by intro j hj; first | exact hrs0 j (by omega) | (rw [uI_n _ _ _ (by omega), uI_n _ _ _ (by omega), uI_n _ _ _ (by omega)]; exact hrs0 j (by omega))) (by rw [hL_s _ _ _ hk.1, lvF_snoc, hA0]; dsimp only; rw [← hrk.1, ← hrk.2.1, ← hrk.2.2]; first | (rw [if_pos (by omega), if_pos (by omega), if_pos (by omega), uI_s, hL_s _ _ _ hh1, uI_s, uI_s, hL_congr (kt := fun _ => ti + 1) (kt' := fun _ => ti + 1) (kr' := ar1) (km' := am1) (fun j q1 q2 => ⟨rfl, uI_n _ _ _ (by omega), uI_n _ _ _ (by omega)⟩)]; done) | (rw [if_pos (by omega), if_pos (by omega), if_neg (by omega)]; done) | (rw [if_pos (by omega), if_neg (by omega)]; done) | (rw [if_neg (by omega), if_pos (by omega), hL_s _ _ _ hsy.1, uI_s, uI_s, uI_s, hL_congr (kt' := kt1) (kr' := kr1) (km' := km1) (fun j q1 q2 => ⟨uI_n _ _ _ (by omega), uI_n _ _ _ (by omega), uI_n _ _ _ (by omega)⟩)]; done) | (rw [if_neg (by omega), if_neg (by omega)]; done)) (by omega) _ _ hP hD hS _ (lv_sub hl [3, 4, 5, 1, 0] rfl)
        ·
          refine lv_iconst (v := iI 1) hx hb dX7_goAway_45 rfl ?_
          refine lv_goto (tgt := 50) hx hb dX7_goAway_46 (by decide) ?_
          refine lv_istore (lv' := [(5, .int (iI 1)), (0, .ref mo), (1, .int (iI ti)), (2, .int (iI lo)), (3, .int (iI sy)), (4, .int (iI k))]) hx hb dX7_goAway_50 hl (by decide) rfl (fun ls hl => ?_)
          refine lv_iload hx hb dX7_goAway_52 (lv_at hl 0 rfl) ?_
          refine q_if_eq (tgt := 134) hx hb dX7_goAway_54 (by decide) ⟨by decide, by decide⟩ (fun h => absurd h (by decide)) (fun _ => ?_)
          refine lv_aload_n hx hb dX7_goAway_57 rfl (lv_at hl 1 rfl) ?_
          refine va_get (D := D) (ci := 7) (v := .ref m10) (C := RX7) (T := TX7) (N := 22) hx hb hts in_X7_goAway_X7 hown hK hP 0 rfl rfl 10 (by decide) (hts _ lk_X7_goAway_4) (fun _ h9 => h9) rfl dX7_goAway_58 ?_
          refine lv_iload hx hb dX7_goAway_61 (lv_at hl 5 rfl) ?_
          refine q_iald hx hb hK hP 3 0 rfl rfl (by omega) (by omega) (by decide) dX7_goAway_63 ?_
          have hb63 := hB_kr1 k
          refine lv_aload_n hx hb dX7_goAway_64 rfl (lv_at hl 1 rfl) ?_
          refine va_get (D := D) (ci := 7) (v := .ref m0) (C := RX7) (T := TX7) (N := 22) hx hb hts in_X7_goAway_X7 hown hK hP 0 rfl rfl 0 (by decide) (hts _ lk_X7_goAway_3) (fun _ h9 => h9) rfl dX7_goAway_65 ?_
          refine lv_iconst (v := iI 4) hx hb dX7_goAway_68 rfl ?_
          refine q_iald hx hb hK hP 1 0 rfl rfl (by omega) (by omega) (by decide) dX7_goAway_69 ?_
          have hb69 := hB_se 4
          refine q_icmp_ge (tgt := 134) hx hb dX7_goAway_70 (by decide) ⟨by omega, by omega⟩ ⟨by omega, by omega⟩ (fun c70 => ?_) (fun c70 => ?_)
          ·
            refine lv_iload hx hb dX7_goAway_134 (lv_at hl 0 rfl) ?_
            refine q_if_eq (tgt := 152) hx hb dX7_goAway_136 (by decide) ⟨by decide, by decide⟩ (fun h => absurd h (by decide)) (fun _ => ?_)
            refine lv_iload_n hx hb dX7_goAway_139 rfl (lv_at hl 3 rfl) ?_
            refine lv_aload_n hx hb dX7_goAway_140 rfl (lv_at hl 1 rfl) ?_
            refine va_get (D := D) (ci := 7) (v := .ref m11) (C := RX7) (T := TX7) (N := 22) hx hb hts in_X7_goAway_X7 hown hK hP 0 rfl rfl 11 (by decide) (hts _ lk_X7_goAway_5) (fun _ h9 => h9) rfl dX7_goAway_141 ?_
            refine lv_iload hx hb dX7_goAway_144 (lv_at hl 5 rfl) ?_
            refine q_iald hx hb hK hP 4 0 rfl rfl (by omega) (by omega) (by decide) dX7_goAway_146 ?_
            have hb146 := hB_km1 k
            refine q_iadd hx hb dX7_goAway_147 ?_
            refine lv_istore_n (lv' := [(2, .int (iI (lo + (km1 k)))), (5, .int (iI 1)), (0, .ref mo), (1, .int (iI ti)), (3, .int (iI sy)), (4, .int (iI k))]) hx hb dX7_goAway_148 rfl hl (by decide) rfl (fun ls hl => ?_)
            refine lv_goto (tgt := 204) hx hb dX7_goAway_149 (by decide) ?_
            refine q_iinc (k := 5) (lv' := [(4, .int (iI (k + 1))), (2, .int (iI (lo + (km1 k)))), (5, .int (iI 1)), (0, .ref mo), (1, .int (iI ti)), (3, .int (iI sy))]) hx hb dX7_goAway_204 hl rfl (by decide) rfl (fun ls hl => ?_)
            refine lv_goto (tgt := 14) hx hb dX7_goAway_207 (by decide) ?_
            exact ih  (lo + (km1 k)) sy (k + 1) kt1 kr1 km1 ar1 am1 hp1 hB_kt1 hB_kr1 hB_km1 hB_ar1 hB_am1 (by omega) (by first | exact hh0 | (rw [uI_10]; exact hh0)) (by first | exact hh1 | (rw [uI_s]; omega)) (by first | omega | (rw [uI_s]; omega)) (by intro j hj; first | exact hrs0 j (by omega) | (rw [uI_n _ _ _ (by omega), uI_n _ _ _ (by omega), uI_n _ _ _ (by omega)]; exact hrs0 j (by omega))) (by rw [hL_s _ _ _ hk.1, lvF_snoc, hA0]; dsimp only; rw [← hrk.1, ← hrk.2.1, ← hrk.2.2]; first | (rw [if_pos (by omega), if_pos (by omega), if_pos (by omega), uI_s, hL_s _ _ _ hh1, uI_s, uI_s, hL_congr (kt := fun _ => ti + 1) (kt' := fun _ => ti + 1) (kr' := ar1) (km' := am1) (fun j q1 q2 => ⟨rfl, uI_n _ _ _ (by omega), uI_n _ _ _ (by omega)⟩)]; done) | (rw [if_pos (by omega), if_pos (by omega), if_neg (by omega)]; done) | (rw [if_pos (by omega), if_neg (by omega)]; done) | (rw [if_neg (by omega), if_pos (by omega), hL_s _ _ _ hsy.1, uI_s, uI_s, uI_s, hL_congr (kt' := kt1) (kr' := kr1) (km' := km1) (fun j q1 q2 => ⟨uI_n _ _ _ (by omega), uI_n _ _ _ (by omega), uI_n _ _ _ (by omega)⟩)]; done) | (rw [if_neg (by omega), if_neg (by omega)]; done)) (by omega) _ _ hP hD hS _ (lv_sub hl [3, 4, 1, 5, 0] rfl)
          ·
            refine lv_aload_n hx hb dX7_goAway_73 rfl (lv_at hl 1 rfl) ?_
            refine va_get (D := D) (ci := 7) (v := .ref m11) (C := RX7) (T := TX7) (N := 22) hx hb hts in_X7_goAway_X7 hown hK hP 0 rfl rfl 11 (by decide) (hts _ lk_X7_goAway_5) (fun _ h9 => h9) rfl dX7_goAway_74 ?_
            refine lv_iload hx hb dX7_goAway_77 (lv_at hl 5 rfl) ?_
            refine q_iald hx hb hK hP 4 0 rfl rfl (by omega) (by omega) (by decide) dX7_goAway_79 ?_
            have hb79 := hB_km1 k
            refine q_if_le (tgt := 204) hx hb dX7_goAway_80 (by decide) ⟨by omega, by omega⟩ (fun c80 => ?_) (fun c80 => ?_)
            ·
              refine q_iinc (k := 5) (lv' := [(4, .int (iI (k + 1))), (5, .int (iI 1)), (0, .ref mo), (1, .int (iI ti)), (2, .int (iI lo)), (3, .int (iI sy))]) hx hb dX7_goAway_204 hl rfl (by decide) rfl (fun ls hl => ?_)
              refine lv_goto (tgt := 14) hx hb dX7_goAway_207 (by decide) ?_
              exact ih  lo sy (k + 1) kt1 kr1 km1 ar1 am1 hp1 hB_kt1 hB_kr1 hB_km1 hB_ar1 hB_am1 (by omega) (by first | exact hh0 | (rw [uI_10]; exact hh0)) (by first | exact hh1 | (rw [uI_s]; omega)) (by first | omega | (rw [uI_s]; omega)) (by intro j hj; first | exact hrs0 j (by omega) | (rw [uI_n _ _ _ (by omega), uI_n _ _ _ (by omega), uI_n _ _ _ (by omega)]; exact hrs0 j (by omega))) (by rw [hL_s _ _ _ hk.1, lvF_snoc, hA0]; dsimp only; rw [← hrk.1, ← hrk.2.1, ← hrk.2.2]; first | (rw [if_pos (by omega), if_pos (by omega), if_pos (by omega), uI_s, hL_s _ _ _ hh1, uI_s, uI_s, hL_congr (kt := fun _ => ti + 1) (kt' := fun _ => ti + 1) (kr' := ar1) (km' := am1) (fun j q1 q2 => ⟨rfl, uI_n _ _ _ (by omega), uI_n _ _ _ (by omega)⟩)]; done) | (rw [if_pos (by omega), if_pos (by omega), if_neg (by omega)]; done) | (rw [if_pos (by omega), if_neg (by omega)]; done) | (rw [if_neg (by omega), if_pos (by omega), hL_s _ _ _ hsy.1, uI_s, uI_s, uI_s, hL_congr (kt' := kt1) (kr' := kr1) (km' := km1) (fun j q1 q2 => ⟨uI_n _ _ _ (by omega), uI_n _ _ _ (by omega), uI_n _ _ _ (by omega)⟩)]; done) | (rw [if_neg (by omega), if_neg (by omega)]; done)) (by omega) _ _ hP hD hS _ (lv_sub hl [2, 3, 4, 5, 0] rfl)
            ·
              refine lv_aload_n hx hb dX7_goAway_83 rfl (lv_at hl 1 rfl) ?_
              refine va_get (D := D) (ci := 7) (v := .ref m12) (C := RX7) (T := TX7) (N := 22) hx hb hts in_X7_goAway_X7 hown hK hP 0 rfl rfl 12 (by decide) (hts _ lk_X7_goAway_6) (fun _ h9 => h9) rfl dX7_goAway_84 ?_
              refine lv_aload_n hx hb dX7_goAway_87 rfl (lv_at hl 1 rfl) ?_
              refine va_get (D := D) (ci := 7) (v := .ref m14) (C := RX7) (T := TX7) (N := 22) hx hb hts in_X7_goAway_X7 hown hK hP 0 rfl rfl 14 (by decide) (hts _ lk_X7_goAway_1) (fun _ h9 => h9) rfl dX7_goAway_88 ?_
              refine lv_iconst (v := iI 1) hx hb dX7_goAway_91 rfl ?_
              refine q_iald hx hb hK hP 7 0 rfl rfl (by omega) (by omega) (by decide) dX7_goAway_92 ?_
              refine lv_aload_n hx hb dX7_goAway_93 rfl (lv_at hl 1 rfl) ?_
              refine va_get (D := D) (ci := 7) (v := .ref m10) (C := RX7) (T := TX7) (N := 22) hx hb hts in_X7_goAway_X7 hown hK hP 0 rfl rfl 10 (by decide) (hts _ lk_X7_goAway_4) (fun _ h9 => h9) rfl dX7_goAway_94 ?_
              refine lv_iload hx hb dX7_goAway_97 (lv_at hl 5 rfl) ?_
              refine q_iald hx hb hK hP 3 0 rfl rfl (by omega) (by omega) (by decide) dX7_goAway_99 ?_
              have hb99 := hB_kr1 k
              refine lv_iconst (v := iI 1) hx hb dX7_goAway_100 rfl ?_
              refine q_iadd hx hb dX7_goAway_101 ?_
              refine q_iast hx hb hK hP hD hS 5 0 rfl rfl (by omega) (by omega) (by decide) dX7_goAway_102 (fun H locs hP hD hS => ?_)
              have hP : va_P D vwCl [(mo, .inr (7, [.ref m0, .ref m1, .ref m2, .ref m3, .ref m4, .ref m5, .ref m6, .ref m7, .ref m8, .ref m9, .ref m10, .ref m11, .ref m12, .ref m13, .ref m14, .ref m15, .ref m16, .ref m17, .ref m18, .ref m19, .int (iI aa), .ref m21])), (m0, .inl (cI, 19, .inl (ia se))), (m9, .inl (cI, 200, .inl (ia kt1))), (m10, .inl (cI, 200, .inl (ia kr1))), (m11, .inl (cI, 200, .inl (ia km1))), (m12, .inl (cI, 200, .inl (ia (uI ar1 (hp1 1) ((kr1 k) + 1))))), (m13, .inl (cI, 200, .inl (ia am1))), (m14, .inl (cI, 2, .inl (ia hp1)))] H := hP
              have hD : va_D A [(mo, .inr (7, [.ref m0, .ref m1, .ref m2, .ref m3, .ref m4, .ref m5, .ref m6, .ref m7, .ref m8, .ref m9, .ref m10, .ref m11, .ref m12, .ref m13, .ref m14, .ref m15, .ref m16, .ref m17, .ref m18, .ref m19, .int (iI aa), .ref m21])), (m0, .inl (cI, 19, .inl (ia se))), (m9, .inl (cI, 200, .inl (ia kt1))), (m10, .inl (cI, 200, .inl (ia kr1))), (m11, .inl (cI, 200, .inl (ia km1))), (m12, .inl (cI, 200, .inl (ia (uI ar1 (hp1 1) ((kr1 k) + 1))))), (m13, .inl (cI, 200, .inl (ia am1))), (m14, .inl (cI, 2, .inl (ia hp1)))] := hD
              have hB_4 : BB 0 4 (uI ar1 (hp1 1) ((kr1 k) + 1)) := BB_uI hB_ar1 (by omega)
              refine lv_aload_n hx hb dX7_goAway_103 rfl (lv_at hl 1 rfl) ?_
              refine va_get (D := D) (ci := 7) (v := .ref m13) (C := RX7) (T := TX7) (N := 22) hx hb hts in_X7_goAway_X7 hown hK hP 0 rfl rfl 13 (by decide) (hts _ lk_X7_goAway_7) (fun _ h9 => h9) rfl dX7_goAway_104 ?_
              refine lv_aload_n hx hb dX7_goAway_107 rfl (lv_at hl 1 rfl) ?_
              refine va_get (D := D) (ci := 7) (v := .ref m14) (C := RX7) (T := TX7) (N := 22) hx hb hts in_X7_goAway_X7 hown hK hP 0 rfl rfl 14 (by decide) (hts _ lk_X7_goAway_1) (fun _ h9 => h9) rfl dX7_goAway_108 ?_
              refine lv_iconst (v := iI 1) hx hb dX7_goAway_111 rfl ?_
              refine q_iald hx hb hK hP 7 0 rfl rfl (by omega) (by omega) (by decide) dX7_goAway_112 ?_
              refine lv_aload_n hx hb dX7_goAway_113 rfl (lv_at hl 1 rfl) ?_
              refine va_get (D := D) (ci := 7) (v := .ref m11) (C := RX7) (T := TX7) (N := 22) hx hb hts in_X7_goAway_X7 hown hK hP 0 rfl rfl 11 (by decide) (hts _ lk_X7_goAway_5) (fun _ h9 => h9) rfl dX7_goAway_114 ?_
              refine lv_iload hx hb dX7_goAway_117 (lv_at hl 5 rfl) ?_
              refine q_iald hx hb hK hP 4 0 rfl rfl (by omega) (by omega) (by decide) dX7_goAway_119 ?_
              have hb119 := hB_km1 k
              refine q_iast hx hb hK hP hD hS 6 0 rfl rfl (by omega) (by omega) (by decide) dX7_goAway_120 (fun H locs hP hD hS => ?_)
              have hP : va_P D vwCl [(mo, .inr (7, [.ref m0, .ref m1, .ref m2, .ref m3, .ref m4, .ref m5, .ref m6, .ref m7, .ref m8, .ref m9, .ref m10, .ref m11, .ref m12, .ref m13, .ref m14, .ref m15, .ref m16, .ref m17, .ref m18, .ref m19, .int (iI aa), .ref m21])), (m0, .inl (cI, 19, .inl (ia se))), (m9, .inl (cI, 200, .inl (ia kt1))), (m10, .inl (cI, 200, .inl (ia kr1))), (m11, .inl (cI, 200, .inl (ia km1))), (m12, .inl (cI, 200, .inl (ia (uI ar1 (hp1 1) ((kr1 k) + 1))))), (m13, .inl (cI, 200, .inl (ia (uI am1 (hp1 1) (km1 k))))), (m14, .inl (cI, 2, .inl (ia hp1)))] H := hP
              have hD : va_D A [(mo, .inr (7, [.ref m0, .ref m1, .ref m2, .ref m3, .ref m4, .ref m5, .ref m6, .ref m7, .ref m8, .ref m9, .ref m10, .ref m11, .ref m12, .ref m13, .ref m14, .ref m15, .ref m16, .ref m17, .ref m18, .ref m19, .int (iI aa), .ref m21])), (m0, .inl (cI, 19, .inl (ia se))), (m9, .inl (cI, 200, .inl (ia kt1))), (m10, .inl (cI, 200, .inl (ia kr1))), (m11, .inl (cI, 200, .inl (ia km1))), (m12, .inl (cI, 200, .inl (ia (uI ar1 (hp1 1) ((kr1 k) + 1))))), (m13, .inl (cI, 200, .inl (ia (uI am1 (hp1 1) (km1 k))))), (m14, .inl (cI, 2, .inl (ia hp1)))] := hD
              have hB_5 : BB 0 60 (uI am1 (hp1 1) (km1 k)) := BB_uI hB_am1 (by omega)
              refine lv_aload_n hx hb dX7_goAway_121 rfl (lv_at hl 1 rfl) ?_
              refine va_get (D := D) (ci := 7) (v := .ref m14) (C := RX7) (T := TX7) (N := 22) hx hb hts in_X7_goAway_X7 hown hK hP 0 rfl rfl 14 (by decide) (hts _ lk_X7_goAway_1) (fun _ h9 => h9) rfl dX7_goAway_122 ?_
              refine lv_iconst (v := iI 1) hx hb dX7_goAway_125 rfl ?_
              refine lv_dup2_11 hx hb dX7_goAway_126 rfl rfl ?_
              refine q_iald hx hb hK hP 7 0 rfl rfl (by omega) (by omega) (by decide) dX7_goAway_127 ?_
              refine lv_iconst (v := iI 1) hx hb dX7_goAway_128 rfl ?_
              refine q_iadd hx hb dX7_goAway_129 ?_
              refine q_iast hx hb hK hP hD hS 7 0 rfl rfl (by omega) (by omega) (by decide) dX7_goAway_130 (fun H locs hP hD hS => ?_)
              have hP : va_P D vwCl [(mo, .inr (7, [.ref m0, .ref m1, .ref m2, .ref m3, .ref m4, .ref m5, .ref m6, .ref m7, .ref m8, .ref m9, .ref m10, .ref m11, .ref m12, .ref m13, .ref m14, .ref m15, .ref m16, .ref m17, .ref m18, .ref m19, .int (iI aa), .ref m21])), (m0, .inl (cI, 19, .inl (ia se))), (m9, .inl (cI, 200, .inl (ia kt1))), (m10, .inl (cI, 200, .inl (ia kr1))), (m11, .inl (cI, 200, .inl (ia km1))), (m12, .inl (cI, 200, .inl (ia (uI ar1 (hp1 1) ((kr1 k) + 1))))), (m13, .inl (cI, 200, .inl (ia (uI am1 (hp1 1) (km1 k))))), (m14, .inl (cI, 2, .inl (ia (uI hp1 1 ((hp1 1) + 1)))))] H := hP
              have hD : va_D A [(mo, .inr (7, [.ref m0, .ref m1, .ref m2, .ref m3, .ref m4, .ref m5, .ref m6, .ref m7, .ref m8, .ref m9, .ref m10, .ref m11, .ref m12, .ref m13, .ref m14, .ref m15, .ref m16, .ref m17, .ref m18, .ref m19, .int (iI aa), .ref m21])), (m0, .inl (cI, 19, .inl (ia se))), (m9, .inl (cI, 200, .inl (ia kt1))), (m10, .inl (cI, 200, .inl (ia kr1))), (m11, .inl (cI, 200, .inl (ia km1))), (m12, .inl (cI, 200, .inl (ia (uI ar1 (hp1 1) ((kr1 k) + 1))))), (m13, .inl (cI, 200, .inl (ia (uI am1 (hp1 1) (km1 k))))), (m14, .inl (cI, 2, .inl (ia (uI hp1 1 ((hp1 1) + 1)))))] := hD
              refine lv_goto (tgt := 204) hx hb dX7_goAway_131 (by decide) ?_
              refine q_iinc (k := 5) (lv' := [(4, .int (iI (k + 1))), (5, .int (iI 1)), (0, .ref mo), (1, .int (iI ti)), (2, .int (iI lo)), (3, .int (iI sy))]) hx hb dX7_goAway_204 hl rfl (by decide) rfl (fun ls hl => ?_)
              refine lv_goto (tgt := 14) hx hb dX7_goAway_207 (by decide) ?_
              exact ih  lo sy (k + 1) kt1 kr1 km1 (uI ar1 (hp1 1) ((kr1 k) + 1)) (uI am1 (hp1 1) (km1 k)) (uI hp1 1 ((hp1 1) + 1)) hB_kt1 hB_kr1 hB_km1 hB_4 hB_5 (by omega) (by first | exact hh0 | (rw [uI_10]; exact hh0)) (by first | exact hh1 | (rw [uI_s]; omega)) (by first | omega | (rw [uI_s]; omega)) (by intro j hj; first | exact hrs0 j (by omega) | (rw [uI_n _ _ _ (by omega), uI_n _ _ _ (by omega), uI_n _ _ _ (by omega)]; exact hrs0 j (by omega))) (by rw [hL_s _ _ _ hk.1, lvF_snoc, hA0]; dsimp only; rw [← hrk.1, ← hrk.2.1, ← hrk.2.2]; first | (rw [if_pos (by omega), if_pos (by omega), if_pos (by omega), uI_s, hL_s _ _ _ hh1, uI_s, uI_s, hL_congr (kt := fun _ => ti + 1) (kt' := fun _ => ti + 1) (kr' := ar1) (km' := am1) (fun j q1 q2 => ⟨rfl, uI_n _ _ _ (by omega), uI_n _ _ _ (by omega)⟩)]; done) | (rw [if_pos (by omega), if_pos (by omega), if_neg (by omega)]; done) | (rw [if_pos (by omega), if_neg (by omega)]; done) | (rw [if_neg (by omega), if_pos (by omega), hL_s _ _ _ hsy.1, uI_s, uI_s, uI_s, hL_congr (kt' := kt1) (kr' := kr1) (km' := km1) (fun j q1 q2 => ⟨uI_n _ _ _ (by omega), uI_n _ _ _ (by omega), uI_n _ _ _ (by omega)⟩)]; done) | (rw [if_neg (by omega), if_neg (by omega)]; done)) (by omega) _ _ hP hD hS _ (lv_sub hl [2, 3, 4, 5, 0] rfl)
  exact L14_0 1000 0 0 0 kt kr km ar am (uI hp 1 0) hB_kt hB_kr hB_km hB_ar hB_am (by omega) (by exact uI_10) (by rw [uI_s]; omega) (by rw [uI_s]; omega) (by intro j _; exact ⟨rfl, rfl, rfl⟩) (by rw [uI_s]; rfl) (by omega) _ _ hP hD hS _ (lv_sub hl [3, 4, 2, 1, 0] rfl)

theorem in_X7_first_X7 : ∀ w ∈ wsX70, w ∈ wsX7_first := fun _ h => List.mem_cons_of_mem _ (List.mem_append_right _ h)
theorem lk_X7_first_1 : Cond.fieldLink RX7 13 "MoreHandsModel" "lows" "[I" ∈ wsX7_first := List.mem_of_getElem? (i := 1) rfl
theorem lk_X7_first_2 : Cond.fieldLink RX7 16 "MoreHandsModel" "highs" "[I" ∈ wsX7_first := List.mem_of_getElem? (i := 2) rfl
theorem lk_X7_first_3 : Cond.fieldLink RX7 7 "MoreHandsModel" "settings" "[I" ∈ wsX7_first := List.mem_of_getElem? (i := 3) rfl
set_option maxHeartbeats 4000000 in
set_option maxRecDepth 100000 in
theorem c_X7_first (l : Launch) (D : va_G) (cI cZ cII : ClassId) (mo : Nat) (m0 : Nat) (m1 : Nat) (m2 : Nat) (m3 : Nat) (m4 : Nat) (m5 : Nat) (m6 : Nat) (m7 : Nat) (m8 : Nat) (m9 : Nat) (m10 : Nat) (m11 : Nat) (m12 : Nat) (m13 : Nat) (m14 : Nat) (m15 : Nat) (m16 : Nat) (m17 : Nat) (m18 : Nat) (m19 : Nat) (aa : Int) (m21 : Nat) (se : Int → Int) (lw : Int → Int) (hg : Int → Int) (w0 : Int) (x1 : Int) (x2 : Int) (x3 : Int) (hB_se : BB 0 1000 se) (hB_lw : BB 0 1000 lw) (hB_hg : BB 0 1000 hg) (hp_w0 : 0 ≤ w0 ∧ w0 ≤ 18) (hp_x1 : 0 ≤ x1 ∧ x1 ≤ 1000) (hp_x2 : 0 ≤ x2 ∧ x2 ≤ 1000) (hp_x3 : 0 ≤ x3 ∧ x3 ≤ 1000) : CtV l yX7_first wsX7_first 0 0 D (ty3 cI cZ cII) [.ref mo, .int (iI w0), .int (iI x1), .int (iI x2), .int (iI x3)] [(mo, .inr (7, [.ref m0, .ref m1, .ref m2, .ref m3, .ref m4, .ref m5, .ref m6, .ref m7, .ref m8, .ref m9, .ref m10, .ref m11, .ref m12, .ref m13, .ref m14, .ref m15, .ref m16, .ref m17, .ref m18, .ref m19, .int (iI aa), .ref m21])), (m0, .inl (cI, 19, .inl (ia se))), (m1, .inl (cI, 19, .inl (ia lw))), (m2, .inl (cI, 19, .inl (ia hg)))] (fun (u : (Int → Int) × (Int → Int) × (Int → Int)) => u.1 = uI se w0 x3 ∧ u.2.1 = uI lw w0 x1 ∧ u.2.2 = uI hg w0 x2 ∧ BB 0 1000 u.1 ∧ BB 0 1000 u.2.1 ∧ BB 0 1000 u.2.2) (fun u => [(mo, .inr (7, [.ref m0, .ref m1, .ref m2, .ref m3, .ref m4, .ref m5, .ref m6, .ref m7, .ref m8, .ref m9, .ref m10, .ref m11, .ref m12, .ref m13, .ref m14, .ref m15, .ref m16, .ref m17, .ref m18, .ref m19, .int (iI aa), .ref m21])), (m0, .inl (cI, 19, .inl (ia u.1))), (m1, .inl (cI, 19, .inl (ia u.2.1))), (m2, .inl (cI, 19, .inl (ia u.2.2)))]) := by
  refine CtV.mk (cc := cX7_first) (maxL := 5) (ret := none) (by decide) rfl (Nat.le_of_ble_eq_true rfl) ?_
  intro p e s m below meth c A ls R args Q hx hb hml hr hts hown hlocks hA hK hP hD hN hS hl hRf hRl hQ
  have hl : lv_has ls 5 [(0, .ref mo), (1, .int (iI w0)), (2, .int (iI x1)), (3, .int (iI x2)), (4, .int (iI x3))] := hl
  have hown : s.vm.findClass RX7 = some m.cls := hown
  refine lv_aload_n hx hb dX7_first_0 rfl (lv_at hl 0 rfl) ?_
  refine va_get (D := D) (ci := 7) (v := .ref m1) (C := RX7) (T := TX7) (N := 22) hx hb hts in_X7_first_X7 hown hK hP 0 rfl rfl 1 (by decide) (hts _ lk_X7_first_1) (fun _ h9 => h9) rfl dX7_first_1 ?_
  refine lv_iload_n hx hb dX7_first_4 rfl (lv_at hl 1 rfl) ?_
  refine lv_iload_n hx hb dX7_first_5 rfl (lv_at hl 2 rfl) ?_
  refine q_iast hx hb hK hP hD hS 2 0 rfl rfl (by omega) (by omega) (by decide) dX7_first_6 (fun H locs hP hD hS => ?_)
  have hP : va_P D vwCl [(mo, .inr (7, [.ref m0, .ref m1, .ref m2, .ref m3, .ref m4, .ref m5, .ref m6, .ref m7, .ref m8, .ref m9, .ref m10, .ref m11, .ref m12, .ref m13, .ref m14, .ref m15, .ref m16, .ref m17, .ref m18, .ref m19, .int (iI aa), .ref m21])), (m0, .inl (cI, 19, .inl (ia se))), (m1, .inl (cI, 19, .inl (ia (uI lw w0 x1)))), (m2, .inl (cI, 19, .inl (ia hg)))] H := hP
  have hD : va_D A [(mo, .inr (7, [.ref m0, .ref m1, .ref m2, .ref m3, .ref m4, .ref m5, .ref m6, .ref m7, .ref m8, .ref m9, .ref m10, .ref m11, .ref m12, .ref m13, .ref m14, .ref m15, .ref m16, .ref m17, .ref m18, .ref m19, .int (iI aa), .ref m21])), (m0, .inl (cI, 19, .inl (ia se))), (m1, .inl (cI, 19, .inl (ia (uI lw w0 x1)))), (m2, .inl (cI, 19, .inl (ia hg)))] := hD
  have hB_1 : BB 0 1000 (uI lw w0 x1) := BB_uI hB_lw (by omega)
  refine lv_aload_n hx hb dX7_first_7 rfl (lv_at hl 0 rfl) ?_
  refine va_get (D := D) (ci := 7) (v := .ref m2) (C := RX7) (T := TX7) (N := 22) hx hb hts in_X7_first_X7 hown hK hP 0 rfl rfl 2 (by decide) (hts _ lk_X7_first_2) (fun _ h9 => h9) rfl dX7_first_8 ?_
  refine lv_iload_n hx hb dX7_first_11 rfl (lv_at hl 1 rfl) ?_
  refine lv_iload_n hx hb dX7_first_12 rfl (lv_at hl 3 rfl) ?_
  refine q_iast hx hb hK hP hD hS 3 0 rfl rfl (by omega) (by omega) (by decide) dX7_first_13 (fun H locs hP hD hS => ?_)
  have hP : va_P D vwCl [(mo, .inr (7, [.ref m0, .ref m1, .ref m2, .ref m3, .ref m4, .ref m5, .ref m6, .ref m7, .ref m8, .ref m9, .ref m10, .ref m11, .ref m12, .ref m13, .ref m14, .ref m15, .ref m16, .ref m17, .ref m18, .ref m19, .int (iI aa), .ref m21])), (m0, .inl (cI, 19, .inl (ia se))), (m1, .inl (cI, 19, .inl (ia (uI lw w0 x1)))), (m2, .inl (cI, 19, .inl (ia (uI hg w0 x2))))] H := hP
  have hD : va_D A [(mo, .inr (7, [.ref m0, .ref m1, .ref m2, .ref m3, .ref m4, .ref m5, .ref m6, .ref m7, .ref m8, .ref m9, .ref m10, .ref m11, .ref m12, .ref m13, .ref m14, .ref m15, .ref m16, .ref m17, .ref m18, .ref m19, .int (iI aa), .ref m21])), (m0, .inl (cI, 19, .inl (ia se))), (m1, .inl (cI, 19, .inl (ia (uI lw w0 x1)))), (m2, .inl (cI, 19, .inl (ia (uI hg w0 x2))))] := hD
  have hB_2 : BB 0 1000 (uI hg w0 x2) := BB_uI hB_hg (by omega)
  refine lv_aload_n hx hb dX7_first_14 rfl (lv_at hl 0 rfl) ?_
  refine va_get (D := D) (ci := 7) (v := .ref m0) (C := RX7) (T := TX7) (N := 22) hx hb hts in_X7_first_X7 hown hK hP 0 rfl rfl 0 (by decide) (hts _ lk_X7_first_3) (fun _ h9 => h9) rfl dX7_first_15 ?_
  refine lv_iload_n hx hb dX7_first_18 rfl (lv_at hl 1 rfl) ?_
  refine lv_iload hx hb dX7_first_19 (lv_at hl 4 rfl) ?_
  refine q_iast hx hb hK hP hD hS 1 0 rfl rfl (by omega) (by omega) (by decide) dX7_first_21 (fun H locs hP hD hS => ?_)
  have hP : va_P D vwCl [(mo, .inr (7, [.ref m0, .ref m1, .ref m2, .ref m3, .ref m4, .ref m5, .ref m6, .ref m7, .ref m8, .ref m9, .ref m10, .ref m11, .ref m12, .ref m13, .ref m14, .ref m15, .ref m16, .ref m17, .ref m18, .ref m19, .int (iI aa), .ref m21])), (m0, .inl (cI, 19, .inl (ia (uI se w0 x3)))), (m1, .inl (cI, 19, .inl (ia (uI lw w0 x1)))), (m2, .inl (cI, 19, .inl (ia (uI hg w0 x2))))] H := hP
  have hD : va_D A [(mo, .inr (7, [.ref m0, .ref m1, .ref m2, .ref m3, .ref m4, .ref m5, .ref m6, .ref m7, .ref m8, .ref m9, .ref m10, .ref m11, .ref m12, .ref m13, .ref m14, .ref m15, .ref m16, .ref m17, .ref m18, .ref m19, .int (iI aa), .ref m21])), (m0, .inl (cI, 19, .inl (ia (uI se w0 x3)))), (m1, .inl (cI, 19, .inl (ia (uI lw w0 x1)))), (m2, .inl (cI, 19, .inl (ia (uI hg w0 x2))))] := hD
  have hB_3 : BB 0 1000 (uI se w0 x3) := BB_uI hB_se (by omega)
  rw [hQ]
  refine q_retV ((uI se w0 x3), (uI lw w0 x1), (uI hg w0 x2)) hx hb hr hlocks hK hP hD hS dX7_first_22 ?_
  try dsimp only
  exact ⟨rfl, rfl, rfl, by assumption, by assumption, by assumption⟩

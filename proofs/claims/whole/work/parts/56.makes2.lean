set_option maxHeartbeats 4000000 in
set_option maxRecDepth 100000 in
theorem c_X1_init (l : Launch) (D : va_G) (cI cZ cII : ClassId) (me : Nat) : CtM (S := Nat) l yX1_init wsX1_init 1 24 1 200 D (ty3 cI cZ cII) [.ref me] [(me, .inr (1, [.null, .int (iI 0)]))] (fun _ => True) (fun u => [(me, .inr (1, [.ref (u), .int (iI 0)])), (u, .inl (cI, 200, .inl (ia (fun _ => 0))))]) := by
  refine CtM.mk (cc := cX1_init) (maxL := 1) (ret := none) (by decide) rfl (Nat.le_of_ble_eq_true rfl) ?_
  intro p e s m below meth c A ls R args Q hx hb hml hr hts hown hlocks hA hK hP hD hN hS hl hin hRf hRl hRc hRs hQ
  have hl : lv_has ls 1 [(0, .ref me)] := hl
  have hown : s.vm.findClass RX1 = some m.cls := hown
  refine lv_aload_n hx hb dX1_init_0 rfl (lv_at hl 0 rfl) ?_
  refine W.objInit hx hb hown (hts _ (List.mem_of_getElem? (i := 1) rfl)) (hts _ (List.mem_of_getElem? (i := 2) rfl)) (hts _ (List.mem_of_getElem? (i := 3) rfl)) rfl (by rw [hml]; exact hl.1) rfl dX1_init_1 (by rw [hRf]; decide) (by rw [hRl]; exact Nat.le_of_ble_eq_true rfl) ?_
  refine W.eq (g2 := F0 m 4 ls []) rfl ?_
  refine lv_aload_n hx hb dX1_init_4 rfl (lv_at hl 0 rfl) ?_
  refine lv_sipush (v := iI 200) hx hb dX1_init_5 rfl ?_
  refine q_newI hx hb (n := 200) 200 (hts _ (List.mem_of_getElem? (i := 4) rfl)) hK hP hD hS hA (by decide) (by decide) (by decide) (by rw [hRc]; decide) (by rw [hRs]; decide) dX1_init_8 (fun mn H hP hD hS => ?_)
  refine va_putF (D := D) (ci := 1) (v := .ref mn) (ty := .array .int) (C := RX1) (T := TX1) (N := 2) hx hb hts (fun _ h => List.mem_cons_of_mem _ (List.mem_append_right _ h)) tyX1 tyX1_ok nmX1 hown hK hP hD hS 0 rfl rfl 0 (by decide) (hts _ (List.mem_of_getElem? (i := 5) rfl)) (fun _ h9 => h9) rfl hin rfl (by decide +kernel) rfl rfl (Nat.le_of_ble_eq_true rfl) dX1_init_10 (fun H locs hP hD hS => ?_)
  rw [hQ]
  exact q_retM mn hx hb hr hlocks hK hP hD hS dX1_init_13 trivial
set_option maxHeartbeats 4000000 in
set_option maxRecDepth 100000 in
theorem c_X3_init (l : Launch) (D : va_G) (cI cZ cII : ClassId) (sv : Nat) : CtM (S := Nat × Nat) l yX3_init wsX3_init 1 24 2 24 D (ty3 cI cZ cII) [.ref sv] [(sv, .inr (3, [.null, .null]))] (fun _ => True) (fun u => [(sv, .inr (3, [.ref (u.1), .ref (u.2)])), (u.1, .inl (cI, 12, .inl (ia (fun _ => 0)))), (u.2, .inl (cI, 12, .inl (ia (fun _ => 0))))]) := by
  refine CtM.mk (cc := cX3_init) (maxL := 1) (ret := none) (by decide) rfl (Nat.le_of_ble_eq_true rfl) ?_
  intro p e s m below meth c A ls R args Q hx hb hml hr hts hown hlocks hA hK hP hD hN hS hl hin hRf hRl hRc hRs hQ
  have hl : lv_has ls 1 [(0, .ref sv)] := hl
  have hown : s.vm.findClass RX3 = some m.cls := hown
  refine lv_aload_n hx hb dX3_init_0 rfl (lv_at hl 0 rfl) ?_
  refine W.objInit hx hb hown (hts _ (List.mem_of_getElem? (i := 1) rfl)) (hts _ (List.mem_of_getElem? (i := 2) rfl)) (hts _ (List.mem_of_getElem? (i := 3) rfl)) rfl (by rw [hml]; exact hl.1) rfl dX3_init_1 (by rw [hRf]; decide) (by rw [hRl]; exact Nat.le_of_ble_eq_true rfl) ?_
  refine W.eq (g2 := F0 m 4 ls []) rfl ?_
  refine lv_aload_n hx hb dX3_init_4 rfl (lv_at hl 0 rfl) ?_
  refine lv_bipush (v := iI 12) hx hb dX3_init_5 rfl ?_
  refine q_newI hx hb (n := 12) 12 (hts _ (List.mem_of_getElem? (i := 4) rfl)) hK hP hD hS hA (by decide) (by decide) (by decide) (by rw [hRc]; decide) (by rw [hRs]; decide) dX3_init_7 (fun ss H hP hD hS => ?_)
  refine va_putF (D := D) (ci := 3) (v := .ref ss) (ty := .array .int) (C := RX3) (T := TX3) (N := 2) hx hb hts (fun _ h => List.mem_cons_of_mem _ (List.mem_append_right _ h)) tyX3 tyX3_ok nmX3 hown hK hP hD hS 0 rfl rfl 0 (by decide) (hts _ (List.mem_of_getElem? (i := 5) rfl)) (fun _ h9 => h9) rfl hin rfl (by decide +kernel) rfl rfl (Nat.le_of_ble_eq_true rfl) dX3_init_9 (fun H locs hP hD hS => ?_)
  refine lv_aload_n hx hb dX3_init_12 rfl (lv_at hl 0 rfl) ?_
  refine lv_bipush (v := iI 12) hx hb dX3_init_13 rfl ?_
  refine q_newI hx hb (n := 12) 12 (hts _ (List.mem_of_getElem? (i := 4) rfl)) hK hP hD hS hA (by decide) (by decide) (by decide) (by rw [hRc]; decide) (by rw [hRs]; decide) dX3_init_15 (fun sb H hP hD hS => ?_)
  refine va_putF (D := D) (ci := 3) (v := .ref sb) (ty := .array .int) (C := RX3) (T := TX3) (N := 2) hx hb hts (fun _ h => List.mem_cons_of_mem _ (List.mem_append_right _ h)) tyX3 tyX3_ok nmX3 hown hK hP hD hS 0 rfl rfl 1 (by decide) (hts _ (List.mem_of_getElem? (i := 6) rfl)) (fun _ h9 => h9) rfl hin rfl (by decide +kernel) rfl rfl (Nat.le_of_ble_eq_true rfl) dX3_init_17 (fun H locs hP hD hS => ?_)
  rw [hQ]
  exact q_retM (ss, sb) hx hb hr hlocks hK hP hD hS dX3_init_20 trivial
set_option maxHeartbeats 4000000 in
set_option maxRecDepth 100000 in
theorem c_X2_init (l : Launch) (D : va_G) (cI cZ cII : ClassId) (qu : Nat) : CtM (S := Nat × Nat × Nat × Nat) l yX2_init wsX2_init 1 24 4 800 D (ty3 cI cZ cII) [.ref qu] [(qu, .inr (2, [.null, .null, .null, .null, .int (iI 0), .int (iI 0), .int (iI 0), .int (iI 0)]))] (fun _ => True) (fun u => [(qu, .inr (2, [.ref (u.1), .ref (u.2.1), .ref (u.2.2.1), .ref (u.2.2.2), .int (iI 0), .int (iI 0), .int (iI 0), .int (iI 0)])), (u.1, .inl (cI, 200, .inl (ia (fun _ => 0)))), (u.2.1, .inl (cI, 200, .inl (ia (fun _ => 0)))), (u.2.2.1, .inl (cI, 200, .inl (ia (fun _ => 0)))), (u.2.2.2, .inl (cI, 200, .inl (ia (fun _ => 0))))]) := by
  refine CtM.mk (cc := cX2_init) (maxL := 1) (ret := none) (by decide) rfl (Nat.le_of_ble_eq_true rfl) ?_
  intro p e s m below meth c A ls R args Q hx hb hml hr hts hown hlocks hA hK hP hD hN hS hl hin hRf hRl hRc hRs hQ
  have hl : lv_has ls 1 [(0, .ref qu)] := hl
  have hown : s.vm.findClass RX2 = some m.cls := hown
  refine lv_aload_n hx hb dX2_init_0 rfl (lv_at hl 0 rfl) ?_
  refine W.objInit hx hb hown (hts _ (List.mem_of_getElem? (i := 1) rfl)) (hts _ (List.mem_of_getElem? (i := 2) rfl)) (hts _ (List.mem_of_getElem? (i := 3) rfl)) rfl (by rw [hml]; exact hl.1) rfl dX2_init_1 (by rw [hRf]; decide) (by rw [hRl]; exact Nat.le_of_ble_eq_true rfl) ?_
  refine W.eq (g2 := F0 m 4 ls []) rfl ?_
  refine lv_aload_n hx hb dX2_init_4 rfl (lv_at hl 0 rfl) ?_
  refine lv_sipush (v := iI 200) hx hb dX2_init_5 rfl ?_
  refine q_newI hx hb (n := 200) 200 (hts _ (List.mem_of_getElem? (i := 4) rfl)) hK hP hD hS hA (by decide) (by decide) (by decide) (by rw [hRc]; decide) (by rw [hRs]; decide) dX2_init_8 (fun ql H hP hD hS => ?_)
  refine va_putF (D := D) (ci := 2) (v := .ref ql) (ty := .array .int) (C := RX2) (T := TX2) (N := 8) hx hb hts (fun _ h => List.mem_cons_of_mem _ (List.mem_append_right _ h)) tyX2 tyX2_ok nmX2 hown hK hP hD hS 0 rfl rfl 0 (by decide) (hts _ (List.mem_of_getElem? (i := 5) rfl)) (fun _ h9 => h9) rfl hin rfl (by decide +kernel) rfl rfl (Nat.le_of_ble_eq_true rfl) dX2_init_10 (fun H locs hP hD hS => ?_)
  refine lv_aload_n hx hb dX2_init_13 rfl (lv_at hl 0 rfl) ?_
  refine lv_sipush (v := iI 200) hx hb dX2_init_14 rfl ?_
  refine q_newI hx hb (n := 200) 200 (hts _ (List.mem_of_getElem? (i := 4) rfl)) hK hP hD hS hA (by decide) (by decide) (by decide) (by rw [hRc]; decide) (by rw [hRs]; decide) dX2_init_17 (fun qt H hP hD hS => ?_)
  refine va_putF (D := D) (ci := 2) (v := .ref qt) (ty := .array .int) (C := RX2) (T := TX2) (N := 8) hx hb hts (fun _ h => List.mem_cons_of_mem _ (List.mem_append_right _ h)) tyX2 tyX2_ok nmX2 hown hK hP hD hS 0 rfl rfl 1 (by decide) (hts _ (List.mem_of_getElem? (i := 6) rfl)) (fun _ h9 => h9) rfl hin rfl (by decide +kernel) rfl rfl (Nat.le_of_ble_eq_true rfl) dX2_init_19 (fun H locs hP hD hS => ?_)
  refine lv_aload_n hx hb dX2_init_22 rfl (lv_at hl 0 rfl) ?_
  refine lv_sipush (v := iI 200) hx hb dX2_init_23 rfl ?_
  refine q_newI hx hb (n := 200) 200 (hts _ (List.mem_of_getElem? (i := 4) rfl)) hK hP hD hS hA (by decide) (by decide) (by decide) (by rw [hRc]; decide) (by rw [hRs]; decide) dX2_init_26 (fun qs H hP hD hS => ?_)
  refine va_putF (D := D) (ci := 2) (v := .ref qs) (ty := .array .int) (C := RX2) (T := TX2) (N := 8) hx hb hts (fun _ h => List.mem_cons_of_mem _ (List.mem_append_right _ h)) tyX2 tyX2_ok nmX2 hown hK hP hD hS 0 rfl rfl 2 (by decide) (hts _ (List.mem_of_getElem? (i := 7) rfl)) (fun _ h9 => h9) rfl hin rfl (by decide +kernel) rfl rfl (Nat.le_of_ble_eq_true rfl) dX2_init_28 (fun H locs hP hD hS => ?_)
  refine lv_aload_n hx hb dX2_init_31 rfl (lv_at hl 0 rfl) ?_
  refine lv_sipush (v := iI 200) hx hb dX2_init_32 rfl ?_
  refine q_newI hx hb (n := 200) 200 (hts _ (List.mem_of_getElem? (i := 4) rfl)) hK hP hD hS hA (by decide) (by decide) (by decide) (by rw [hRc]; decide) (by rw [hRs]; decide) dX2_init_35 (fun qr H hP hD hS => ?_)
  refine va_putF (D := D) (ci := 2) (v := .ref qr) (ty := .array .int) (C := RX2) (T := TX2) (N := 8) hx hb hts (fun _ h => List.mem_cons_of_mem _ (List.mem_append_right _ h)) tyX2 tyX2_ok nmX2 hown hK hP hD hS 0 rfl rfl 3 (by decide) (hts _ (List.mem_of_getElem? (i := 8) rfl)) (fun _ h9 => h9) rfl hin rfl (by decide +kernel) rfl rfl (Nat.le_of_ble_eq_true rfl) dX2_init_37 (fun H locs hP hD hS => ?_)
  rw [hQ]
  exact q_retM (ql, qt, qs, qr) hx hb hr hlocks hK hP hD hS dX2_init_40 trivial

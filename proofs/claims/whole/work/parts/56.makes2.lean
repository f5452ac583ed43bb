set_option maxHeartbeats 4000000 in
set_option maxRecDepth 100000 in
theorem c_X1_init (l : Launch) (D : va_G) (cI cZ cII : ClassId) (me : Nat) : CtM (S := Nat) l yX1_init wsX1_init 1 24 1 200 D (ty3 cI cZ cII) [.ref me] [(me, .inr (1, [.null, .int (iI 0)]))] (fun _ => True) (fun mn => [(me, .inr (1, [.ref mn, .int (iI 0)])), (mn, .inl (cI, 200, .inl (ia (fun _ => 0))))]) := by
  refine CtM.mk (cc := cX1_init) (maxL := 1) (ret := none) (by decide) rfl (Nat.le_of_ble_eq_true rfl) ?_
  intro p e s m below meth c A ls R args Q hx hb hml hr hts hown hlocks hA hK hP hD hN hS hl hin hRf hRl hRc hRs hQ
  have hl : lv_has ls 1 [(0, .ref me)] := hl
  have hown : s.vm.findClass RX1 = some m.cls := hown
  refine lv_aload_n hx hb dX1_init_0 rfl (lv_at hl 0 rfl) ?_
  refine W.objInit hx hb hown (hts _ (List.mem_of_getElem? (i := 1) rfl)) (hts _ (List.mem_of_getElem? (i := 2) rfl)) (hts _ (List.mem_of_getElem? (i := 3) rfl)) rfl (by rw [hml]; exact hl.1) rfl dX1_init_1 (by rw [hRf]; decide) (by rw [hRl]; exact Nat.le_of_ble_eq_true rfl) ?_
  refine W.eq (g2 := F0 m 4 ls []) rfl ?_
  refine lv_aload_n hx hb dX1_init_4 rfl (lv_at hl 0 rfl) ?_
  refine lv_sipush (v := iI 200) hx hb dX1_init_5 rfl ?_
  refine q_newI hx hb (n := 200) 200 (hts _ (List.mem_of_getElem? (i := 4) rfl)) hK hP hD hS hA (by decide) (by decide) (by decide) (by rw [hRc]; decide) (by rw [hRs]; decide) dX1_init_8 (fun mn H hP hD hS => ?_)
  refine va_putF (D := D) (ci := 1) (v := .ref mn) (ty := .array .int) (C := RX1) (T := TX1) (N := 2) hx hb hts (fun _ h => List.mem_cons_of_mem _ (List.mem_append_right _ h)) tyX1 tyX1_ok nmX1 hown hK hP hD hS 0 rfl rfl 0 (by decide) (hts _ (List.mem_of_getElem? (i := 5) rfl)) (fun _ h9 => h9) rfl hin rfl (by decide +kernel) rfl rfl (Nat.le_of_ble_eq_true rfl) dX1_init_10 (fun H locs hP hD hS => ?_)
  rw [hQ]
  exact q_retM mn hx hb hr hlocks hK hP hD hS dX1_init_13 trivial

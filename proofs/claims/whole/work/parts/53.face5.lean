theorem in_X5_allows_X5 : ∀ w ∈ wsX50, w ∈ wsX5_allows := fun _ h => List.mem_cons_of_mem _ (List.mem_append_right _ h)
theorem lk_X5_allows_1 : Cond.fieldLink RX5 25 "MoreHands$Terms" "LOWEST" "[I" ∈ wsX5_allows := List.mem_of_getElem? (i := 1) rfl
theorem lk_X5_allows_2 : Cond.fieldLink RX5 28 "MoreHands$Terms" "HIGHEST" "[I" ∈ wsX5_allows := List.mem_of_getElem? (i := 2) rfl
theorem lk_X5_allows_3 : Cond.fieldLink RX5 11 "MoreHands$Terms" "values" "[I" ∈ wsX5_allows := List.mem_of_getElem? (i := 3) rfl
theorem lk_X5_allows_4 : Cond.static yX6_within ∈ wsX5_allows := List.mem_of_getElem? (i := 4) rfl
theorem lk_X5_allows_5 : Cond.initialized RX6 ∈ wsX5_allows := List.mem_of_getElem? (i := 5) rfl
set_option maxHeartbeats 4000000 in
set_option maxRecDepth 100000 in
theorem c_X5_allows (l : Launch) (D : va_G) (cI cZ cII : ClassId) (tm : Nat) (tv : Nat) (tp : Nat) (la : Nat) (ha : Nat) (se : Int → Int) (pl : Int → Int) (lw : Int → Int) (hg : Int → Int) (what : Int) (v : Int) (hB_se : BB 0 1000 se) (hB_pl : BB 0 12 pl) (hB_lw : BB 0 1000 lw) (hB_hg : BB 0 1000 hg) (hp_what : IR what) (hp_v : IR v) (hse : SB se) (hlh : ∀ j, 0 ≤ j → j ≤ 18 → lw j = loF j ∧ hg j = hiF j) : CtIz la ha lw hg l yX5_allows wsX5_allows 1 22 D (ty3 cI cZ cII) [.ref tm, .int (iI what), .int (iI v)] [(tm, .inr (5, [.ref tv, .ref tp])), (tv, .inl (cI, 19, .inl (ia se))), (tp, .inl (cI, 24, .inl (ia pl)))] (fun z (u : Unit) => (z = 1 ∧ (okS se what v = true)) ∨ (z = 0 ∧ ¬ (okS se what v = true))) (fun u => [(tm, .inr (5, [.ref tv, .ref tp])), (tv, .inl (cI, 19, .inl (ia se))), (tp, .inl (cI, 24, .inl (ia pl)))]) := by
  refine CtIz.mk (cc := cX5_allows) (maxL := 4) (ret := (some .boolean)) (by decide) rfl (Nat.le_of_ble_eq_true rfl) ?_
  intro p e s m below meth c A ls R args Q hx hb hml hr hts hown hlocks hA hK hP hD hN hZ hS hl hRf hRl hQ
  have hl : lv_has ls 4 [(0, .ref tm), (1, .int (iI what)), (2, .int (iI v))] := hl
  have hown : s.vm.findClass RX5 = some m.cls := hown
  have hsb := hse; unfold SB at hsb
  refine lv_iload_n hx hb dX5_allows_0 rfl (lv_at hl 1 rfl) ?_
  refine lv_iconst (v := iI 0) hx hb dX5_allows_1 rfl ?_
  refine lv_bipush (v := iI 18) hx hb dX5_allows_2 (by decide +kernel) ?_
  refine q_callNI (wr := [(tm, .inr (5, [.ref tv, .ref tp])), (tv, .inl (cI, 19, .inl (ia se))), (tp, .inl (cI, 24, .inl (ia pl)))]) (wn := fun (u : Unit) => [(tm, .inr (5, [.ref tv, .ref tp])), (tv, .inl (cI, 19, .inl (ia se))), (tp, .inl (cI, 24, .inl (ia pl)))]) (rest := []) [.int (iI what), .int (iI 0), .int (iI 18)] ⟨hx, hb, hml, hown, hts⟩ (c_X6_within l D cI cZ cII what 0 18 ⟨by omega, by omega⟩ ⟨by omega, by omega⟩ ⟨by omega, by omega⟩) ⟨va_cnB 3 hts gX5_allows_X6_within_n21 rfl rfl rfl hN.1 (hts _ lk_X5_allows_5) (by decide +kernel) (by rw [hRf, hRl]; exact ⟨Nat.le_of_ble_eq_true rfl, Nat.le_of_ble_eq_true rfl⟩), (hts _ lk_X5_allows_4), trivial⟩ hK hP hD hS hA hN [] [0, 1, 2] [0, 1, 2] rfl rfl rfl rfl (by decide) rfl (fun u => rfl) rfl hl.1 rfl (Nat.le_of_ble_eq_true rfl) dX5_allows_4 ⟨Nat.zero_le _, Nat.zero_le _⟩ (fun z u H locs hw hP hD hS => ?_)
  have hP : va_P D vwCl [(tm, .inr (5, [.ref tv, .ref tp])), (tv, .inl (cI, 19, .inl (ia se))), (tp, .inl (cI, 24, .inl (ia pl)))] H := hP
  have hD : va_D A [(tm, .inr (5, [.ref tv, .ref tp])), (tv, .inl (cI, 19, .inl (ia se))), (tp, .inl (cI, 24, .inl (ia pl)))] := hD
  obtain ⟨z_1, ez⟩ : ∃ y : Int, y = z := ⟨_, rfl⟩
  rw [← ez] at hw ⊢
  clear ez
  rcases hw with ⟨rfl, w4⟩ | ⟨rfl, w4⟩
  ·
    refine q_if_eq (tgt := 27) hx hb dX5_allows_7 (by decide) ⟨by decide, by decide⟩ (fun h => absurd h (by decide)) (fun _ => ?_)
    refine lv_iload_n hx hb dX5_allows_10 rfl (lv_at hl 2 rfl) ?_
    have hlh2 := hlh what w4.1 w4.2
    refine va_gets (v := .ref la) hx hb hZ.1.1 hS hown (hts _ lk_X5_allows_1) (fun _ h9 => h9) dX5_allows_11 ?_
    refine lv_iload_n hx hb dX5_allows_14 rfl (lv_at hl 1 rfl) ?_
    refine q_sld hx hb hZ.1.2 hS (by omega) (by omega) (by decide) dX5_allows_15 ?_
    have hb15 := hB_lw what
    refine va_gets (v := .ref ha) hx hb hZ.2.1 hS hown (hts _ lk_X5_allows_2) (fun _ h9 => h9) dX5_allows_16 ?_
    refine lv_iload_n hx hb dX5_allows_19 rfl (lv_at hl 1 rfl) ?_
    refine q_sld hx hb hZ.2.2 hS (by omega) (by omega) (by decide) dX5_allows_20 ?_
    have hb20 := hB_hg what
    refine q_callNI (wr := [(tm, .inr (5, [.ref tv, .ref tp])), (tv, .inl (cI, 19, .inl (ia se))), (tp, .inl (cI, 24, .inl (ia pl)))]) (wn := fun (u : Unit) => [(tm, .inr (5, [.ref tv, .ref tp])), (tv, .inl (cI, 19, .inl (ia se))), (tp, .inl (cI, 24, .inl (ia pl)))]) (rest := []) [.int (iI v), .int (iI (lw what)), .int (iI (hg what))] ⟨hx, hb, hml, hown, hts⟩ (c_X6_within l D cI cZ cII v (lw what) (hg what) ⟨by omega, by omega⟩ ⟨by omega, by omega⟩ ⟨by omega, by omega⟩) ⟨va_cnB 3 hts gX5_allows_X6_within_n21 rfl rfl rfl hN.1 (hts _ lk_X5_allows_5) (by decide +kernel) (by rw [hRf, hRl]; exact ⟨Nat.le_of_ble_eq_true rfl, Nat.le_of_ble_eq_true rfl⟩), (hts _ lk_X5_allows_4), trivial⟩ hK hP hD hS hA hN [] [0, 1, 2] [0, 1, 2] rfl rfl rfl rfl (by decide) rfl (fun u => rfl) rfl hl.1 rfl (Nat.le_of_ble_eq_true rfl) dX5_allows_21 ⟨Nat.zero_le _, Nat.zero_le _⟩ (fun z u H locs hw hP hD hS => ?_)
    have hP : va_P D vwCl [(tm, .inr (5, [.ref tv, .ref tp])), (tv, .inl (cI, 19, .inl (ia se))), (tp, .inl (cI, 24, .inl (ia pl)))] H := hP
    have hD : va_D A [(tm, .inr (5, [.ref tv, .ref tp])), (tv, .inl (cI, 19, .inl (ia se))), (tp, .inl (cI, 24, .inl (ia pl)))] := hD
    obtain ⟨z_2, ez⟩ : ∃ y : Int, y = z := ⟨_, rfl⟩
    rw [← ez] at hw ⊢
    clear ez
    rcases hw with ⟨rfl, w21⟩ | ⟨rfl, w21⟩
    ·
      refine q_if_ne (tgt := 29) hx hb dX5_allows_24 (by decide) ⟨by decide, by decide⟩ (fun _ => ?_) (fun h => absurd h (by decide))
      refine lv_iload_n hx hb dX5_allows_29 rfl (lv_at hl 1 rfl) ?_
      refine lv_bipush (v := iI 7) hx hb dX5_allows_30 (by decide +kernel) ?_
      refine q_icmp_ne (tgt := 46) hx hb dX5_allows_32 (by decide) ⟨by omega, by omega⟩ ⟨by decide, by decide⟩ (fun c32 => ?_) (fun c32 => ?_)
      ·
        refine lv_iload_n hx hb dX5_allows_46 rfl (lv_at hl 1 rfl) ?_
        refine lv_bipush (v := iI 8) hx hb dX5_allows_47 (by decide +kernel) ?_
        refine q_icmp_ne (tgt := 67) hx hb dX5_allows_49 (by decide) ⟨by omega, by omega⟩ ⟨by decide, by decide⟩ (fun c49 => ?_) (fun c49 => ?_)
        ·
          refine lv_iconst (v := iI 0) hx hb dX5_allows_67 rfl ?_
          refine lv_istore_n (lv' := [(3, .int (iI 0)), (0, .ref tm), (1, .int (iI what)), (2, .int (iI v))]) hx hb dX5_allows_68 rfl hl (by decide) rfl (fun ls hl => ?_)
          refine lv_iload_n hx hb dX5_allows_69 rfl (lv_at hl 0 rfl) ?_
          refine q_if_ne (tgt := 77) hx hb dX5_allows_70 (by decide) ⟨by decide, by decide⟩ (fun h => absurd h (by decide)) (fun _ => ?_)
          refine lv_iconst (v := iI 1) hx hb dX5_allows_73 rfl ?_
          refine lv_goto (tgt := 78) hx hb dX5_allows_74 (by decide) ?_
          rw [hQ]
          refine q_retZ () hx hb hr hlocks hK hP hD hS dX5_allows_78 (by omega) ?_
          first | exact Or.inl ⟨rfl, decide_eq_true (by omega)⟩ | exact Or.inr ⟨rfl, fun q9 => by have q8 := of_decide_eq_true q9; omega⟩
        ·
          refine lv_iload_n hx hb dX5_allows_52 rfl (lv_at hl 2 rfl) ?_
          refine lv_aload_n hx hb dX5_allows_53 rfl (lv_at hl 0 rfl) ?_
          refine va_get (D := D) (ci := 5) (v := .ref tv) (C := RX5) (T := TX5) (N := 2) hx hb hts in_X5_allows_X5 hown hK hP 0 rfl rfl 0 (by decide) (hts _ lk_X5_allows_3) (fun _ h9 => h9) rfl dX5_allows_54 ?_
          refine lv_bipush (v := iI 7) hx hb dX5_allows_57 (by decide +kernel) ?_
          refine q_iald hx hb hK hP 1 0 rfl rfl (by omega) (by omega) (by decide) dX5_allows_59 ?_
          have hb59 := hB_se 7
          refine q_icmp_ge (tgt := 67) hx hb dX5_allows_60 (by decide) ⟨by omega, by omega⟩ ⟨by omega, by omega⟩ (fun c60 => ?_) (fun c60 => ?_)
          ·
            refine lv_iconst (v := iI 0) hx hb dX5_allows_67 rfl ?_
            refine lv_istore_n (lv' := [(3, .int (iI 0)), (0, .ref tm), (1, .int (iI what)), (2, .int (iI v))]) hx hb dX5_allows_68 rfl hl (by decide) rfl (fun ls hl => ?_)
            refine lv_iload_n hx hb dX5_allows_69 rfl (lv_at hl 0 rfl) ?_
            refine q_if_ne (tgt := 77) hx hb dX5_allows_70 (by decide) ⟨by decide, by decide⟩ (fun h => absurd h (by decide)) (fun _ => ?_)
            refine lv_iconst (v := iI 1) hx hb dX5_allows_73 rfl ?_
            refine lv_goto (tgt := 78) hx hb dX5_allows_74 (by decide) ?_
            rw [hQ]
            refine q_retZ () hx hb hr hlocks hK hP hD hS dX5_allows_78 (by omega) ?_
            first | exact Or.inl ⟨rfl, decide_eq_true (by omega)⟩ | exact Or.inr ⟨rfl, fun q9 => by have q8 := of_decide_eq_true q9; omega⟩
          ·
            refine lv_iconst (v := iI 1) hx hb dX5_allows_63 rfl ?_
            refine lv_goto (tgt := 68) hx hb dX5_allows_64 (by decide) ?_
            refine lv_istore_n (lv' := [(3, .int (iI 1)), (0, .ref tm), (1, .int (iI what)), (2, .int (iI v))]) hx hb dX5_allows_68 rfl hl (by decide) rfl (fun ls hl => ?_)
            refine lv_iload_n hx hb dX5_allows_69 rfl (lv_at hl 0 rfl) ?_
            refine q_if_ne (tgt := 77) hx hb dX5_allows_70 (by decide) ⟨by decide, by decide⟩ (fun _ => ?_) (fun h => absurd h (by decide))
            refine lv_iconst (v := iI 0) hx hb dX5_allows_77 rfl ?_
            rw [hQ]
            refine q_retZ () hx hb hr hlocks hK hP hD hS dX5_allows_78 (by omega) ?_
            first | exact Or.inl ⟨rfl, decide_eq_true (by omega)⟩ | exact Or.inr ⟨rfl, fun q9 => by have q8 := of_decide_eq_true q9; omega⟩
      ·
        refine lv_iload_n hx hb dX5_allows_35 rfl (lv_at hl 2 rfl) ?_
        refine lv_aload_n hx hb dX5_allows_36 rfl (lv_at hl 0 rfl) ?_
        refine va_get (D := D) (ci := 5) (v := .ref tv) (C := RX5) (T := TX5) (N := 2) hx hb hts in_X5_allows_X5 hown hK hP 0 rfl rfl 0 (by decide) (hts _ lk_X5_allows_3) (fun _ h9 => h9) rfl dX5_allows_37 ?_
        refine lv_bipush (v := iI 8) hx hb dX5_allows_40 (by decide +kernel) ?_
        refine q_iald hx hb hK hP 1 0 rfl rfl (by omega) (by omega) (by decide) dX5_allows_42 ?_
        have hb42 := hB_se 8
        refine q_icmp_gt (tgt := 63) hx hb dX5_allows_43 (by decide) ⟨by omega, by omega⟩ ⟨by omega, by omega⟩ (fun c43 => ?_) (fun c43 => ?_)
        ·
          refine lv_iconst (v := iI 1) hx hb dX5_allows_63 rfl ?_
          refine lv_goto (tgt := 68) hx hb dX5_allows_64 (by decide) ?_
          refine lv_istore_n (lv' := [(3, .int (iI 1)), (0, .ref tm), (1, .int (iI what)), (2, .int (iI v))]) hx hb dX5_allows_68 rfl hl (by decide) rfl (fun ls hl => ?_)
          refine lv_iload_n hx hb dX5_allows_69 rfl (lv_at hl 0 rfl) ?_
          refine q_if_ne (tgt := 77) hx hb dX5_allows_70 (by decide) ⟨by decide, by decide⟩ (fun _ => ?_) (fun h => absurd h (by decide))
          refine lv_iconst (v := iI 0) hx hb dX5_allows_77 rfl ?_
          rw [hQ]
          refine q_retZ () hx hb hr hlocks hK hP hD hS dX5_allows_78 (by omega) ?_
          first | exact Or.inl ⟨rfl, decide_eq_true (by omega)⟩ | exact Or.inr ⟨rfl, fun q9 => by have q8 := of_decide_eq_true q9; omega⟩
        ·
          refine lv_iload_n hx hb dX5_allows_46 rfl (lv_at hl 1 rfl) ?_
          refine lv_bipush (v := iI 8) hx hb dX5_allows_47 (by decide +kernel) ?_
          refine q_icmp_ne (tgt := 67) hx hb dX5_allows_49 (by decide) ⟨by omega, by omega⟩ ⟨by decide, by decide⟩ (fun c49 => ?_) (fun c49 => ?_)
          ·
            refine lv_iconst (v := iI 0) hx hb dX5_allows_67 rfl ?_
            refine lv_istore_n (lv' := [(3, .int (iI 0)), (0, .ref tm), (1, .int (iI what)), (2, .int (iI v))]) hx hb dX5_allows_68 rfl hl (by decide) rfl (fun ls hl => ?_)
            refine lv_iload_n hx hb dX5_allows_69 rfl (lv_at hl 0 rfl) ?_
            refine q_if_ne (tgt := 77) hx hb dX5_allows_70 (by decide) ⟨by decide, by decide⟩ (fun h => absurd h (by decide)) (fun _ => ?_)
            refine lv_iconst (v := iI 1) hx hb dX5_allows_73 rfl ?_
            refine lv_goto (tgt := 78) hx hb dX5_allows_74 (by decide) ?_
            rw [hQ]
            refine q_retZ () hx hb hr hlocks hK hP hD hS dX5_allows_78 (by omega) ?_
            first | exact Or.inl ⟨rfl, decide_eq_true (by omega)⟩ | exact Or.inr ⟨rfl, fun q9 => by have q8 := of_decide_eq_true q9; omega⟩
          ·
            refine lv_iload_n hx hb dX5_allows_52 rfl (lv_at hl 2 rfl) ?_
            refine lv_aload_n hx hb dX5_allows_53 rfl (lv_at hl 0 rfl) ?_
            refine va_get (D := D) (ci := 5) (v := .ref tv) (C := RX5) (T := TX5) (N := 2) hx hb hts in_X5_allows_X5 hown hK hP 0 rfl rfl 0 (by decide) (hts _ lk_X5_allows_3) (fun _ h9 => h9) rfl dX5_allows_54 ?_
            refine lv_bipush (v := iI 7) hx hb dX5_allows_57 (by decide +kernel) ?_
            refine q_iald hx hb hK hP 1 0 rfl rfl (by omega) (by omega) (by decide) dX5_allows_59 ?_
            have hb59 := hB_se 7
            refine q_icmp_ge (tgt := 67) hx hb dX5_allows_60 (by decide) ⟨by omega, by omega⟩ ⟨by omega, by omega⟩ (fun c60 => ?_) (fun c60 => ?_)
            ·
              refine lv_iconst (v := iI 0) hx hb dX5_allows_67 rfl ?_
              refine lv_istore_n (lv' := [(3, .int (iI 0)), (0, .ref tm), (1, .int (iI what)), (2, .int (iI v))]) hx hb dX5_allows_68 rfl hl (by decide) rfl (fun ls hl => ?_)
              refine lv_iload_n hx hb dX5_allows_69 rfl (lv_at hl 0 rfl) ?_
              refine q_if_ne (tgt := 77) hx hb dX5_allows_70 (by decide) ⟨by decide, by decide⟩ (fun h => absurd h (by decide)) (fun _ => ?_)
              refine lv_iconst (v := iI 1) hx hb dX5_allows_73 rfl ?_
              refine lv_goto (tgt := 78) hx hb dX5_allows_74 (by decide) ?_
              rw [hQ]
              refine q_retZ () hx hb hr hlocks hK hP hD hS dX5_allows_78 (by omega) ?_
              first | exact Or.inl ⟨rfl, decide_eq_true (by omega)⟩ | exact Or.inr ⟨rfl, fun q9 => by have q8 := of_decide_eq_true q9; omega⟩
            ·
              refine lv_iconst (v := iI 1) hx hb dX5_allows_63 rfl ?_
              refine lv_goto (tgt := 68) hx hb dX5_allows_64 (by decide) ?_
              refine lv_istore_n (lv' := [(3, .int (iI 1)), (0, .ref tm), (1, .int (iI what)), (2, .int (iI v))]) hx hb dX5_allows_68 rfl hl (by decide) rfl (fun ls hl => ?_)
              refine lv_iload_n hx hb dX5_allows_69 rfl (lv_at hl 0 rfl) ?_
              refine q_if_ne (tgt := 77) hx hb dX5_allows_70 (by decide) ⟨by decide, by decide⟩ (fun _ => ?_) (fun h => absurd h (by decide))
              refine lv_iconst (v := iI 0) hx hb dX5_allows_77 rfl ?_
              rw [hQ]
              refine q_retZ () hx hb hr hlocks hK hP hD hS dX5_allows_78 (by omega) ?_
              first | exact Or.inl ⟨rfl, decide_eq_true (by omega)⟩ | exact Or.inr ⟨rfl, fun q9 => by have q8 := of_decide_eq_true q9; omega⟩
    ·
      refine q_if_ne (tgt := 29) hx hb dX5_allows_24 (by decide) ⟨by decide, by decide⟩ (fun h => absurd h (by decide)) (fun _ => ?_)
      refine lv_iconst (v := iI 0) hx hb dX5_allows_27 rfl ?_
      rw [hQ]
      refine q_retZ () hx hb hr hlocks hK hP hD hS dX5_allows_28 (by omega) ?_
      first | exact Or.inl ⟨rfl, decide_eq_true (by omega)⟩ | exact Or.inr ⟨rfl, fun q9 => by have q8 := of_decide_eq_true q9; omega⟩
  ·
    refine q_if_eq (tgt := 27) hx hb dX5_allows_7 (by decide) ⟨by decide, by decide⟩ (fun _ => ?_) (fun h => absurd h (by decide))
    refine lv_iconst (v := iI 0) hx hb dX5_allows_27 rfl ?_
    rw [hQ]
    refine q_retZ () hx hb hr hlocks hK hP hD hS dX5_allows_28 (by omega) ?_
    first | exact Or.inl ⟨rfl, decide_eq_true (by omega)⟩ | exact Or.inr ⟨rfl, fun q9 => by have q8 := of_decide_eq_true q9; omega⟩

theorem in_X6_setting_X6 : ∀ w ∈ wsX60, w ∈ wsX6_setting := fun _ h => List.mem_cons_of_mem _ (List.mem_append_left _ (List.mem_append_right _ h))
theorem lk_X6_setting_1 : Cond.fieldLink RX6 10 "MoreHands" "terms" "LMoreHands$Terms;" ∈ wsX6_setting := List.mem_of_getElem? (i := 1) rfl
set_option maxHeartbeats 4000000 in
set_option maxRecDepth 100000 in
theorem c_X6_setting (l : Launch) (D : va_G) (cI cZ cII : ClassId) (mh : Nat) (tm : Nat) (tv : Nat) (tp : Nat) (la : Nat) (ha : Nat) (sc : Nat) (sd : Nat) (hi : Nat) (se : Int → Int) (pl : Int → Int) (lw : Int → Int) (hg : Int → Int) (what : Int) (v : Int) (hB_se : BB 0 1000 se) (hB_pl : BB 0 12 pl) (hB_lw : BB 0 1000 lw) (hB_hg : BB 0 1000 hg) (hp_what : IR what) (hp_v : IR v) (hse : SB se) (hlh : ∀ j, 0 ≤ j → j ≤ 18 → lw j = loF j ∧ hg j = hiF j) : CtIz la ha lw hg l yX6_setting wsX6_setting 2 45 D (ty3 cI cZ cII) [.ref mh, .int (iI what), .int (iI v)] [(mh, .inr (6, [.ref tm, .ref sc, .ref sd, .ref hi])), (tm, .inr (5, [.ref tv, .ref tp])), (tv, .inl (cI, 19, .inl (ia se))), (tp, .inl (cI, 24, .inl (ia pl)))] (fun z (u : (Int → Int)) => z = seZ se what v ∧ u = seN se what v ∧ BB 0 1000 u) (fun u => [(mh, .inr (6, [.ref tm, .ref sc, .ref sd, .ref hi])), (tm, .inr (5, [.ref tv, .ref tp])), (tv, .inl (cI, 19, .inl (ia u))), (tp, .inl (cI, 24, .inl (ia pl)))]) := by
  refine CtIz.mk (cc := cX6_setting) (maxL := 3) (ret := (some .int)) (by decide) rfl (Nat.le_of_ble_eq_true rfl) ?_
  intro p e s m below meth c A ls R args Q hx hb hml hr hts hown hlocks hA hK hP hD hN hZ hS hl hRf hRl hQ
  have hl : lv_has ls 3 [(0, .ref mh), (1, .int (iI what)), (2, .int (iI v))] := hl
  have hown : s.vm.findClass RX6 = some m.cls := hown
  refine lv_aload_n hx hb dX6_setting_0 rfl (lv_at hl 0 rfl) ?_
  refine va_get (D := D) (ci := 6) (v := .ref tm) (C := RX6) (T := TX6) (N := 4) hx hb hts in_X6_setting_X6 hown hK hP 0 rfl rfl 0 (by decide) (hts _ lk_X6_setting_1) (fun _ h9 => h9) rfl dX6_setting_1 ?_
  refine lv_iload_n hx hb dX6_setting_4 rfl (lv_at hl 1 rfl) ?_
  refine lv_iload_n hx hb dX6_setting_5 rfl (lv_at hl 2 rfl) ?_
  refine q_callVIz (wr := [(mh, .inr (6, [.ref tm, .ref sc, .ref sd, .ref hi]))]) (wn := fun (u : Unit) => [(mh, .inr (6, [.ref tm, .ref sc, .ref sd, .ref hi])), (tm, .inr (5, [.ref tv, .ref tp])), (tv, .inl (cI, 19, .inl (ia se))), (tp, .inl (cI, 24, .inl (ia pl)))]) (rest := []) [.int (iI what), .int (iI v)] ⟨hx, hb, hml, hown, hts⟩ hZ (c_X5_allows l D cI cZ cII tm tv tp la ha se pl lw hg what v hB_se hB_pl hB_lw hB_hg ⟨by omega, by omega⟩ ⟨by omega, by omega⟩ (by assumption) (by assumption)) (cwV 2 hts gX6_setting_X5_allows rfl rfl rfl (by decide +kernel) (by rw [hRf, hRl]; exact ⟨Nat.le_of_ble_eq_true rfl, Nat.le_of_ble_eq_true rfl⟩)) hK hP hD hS hA hN [1, 2, 3] [0] [0, 1, 2, 3] 1 5 rfl rfl rfl rfl rfl rfl (by decide) rfl (fun u => rfl) rfl hl.1 rfl (Nat.le_of_ble_eq_true rfl) dX6_setting_6 ⟨Nat.zero_le _, Nat.zero_le _⟩ (fun z u H locs hw hP hD hS => ?_)
  have hP : va_P D vwCl [(mh, .inr (6, [.ref tm, .ref sc, .ref sd, .ref hi])), (tm, .inr (5, [.ref tv, .ref tp])), (tv, .inl (cI, 19, .inl (ia se))), (tp, .inl (cI, 24, .inl (ia pl)))] H := hP
  have hD : va_D A [(mh, .inr (6, [.ref tm, .ref sc, .ref sd, .ref hi])), (tm, .inr (5, [.ref tv, .ref tp])), (tv, .inl (cI, 19, .inl (ia se))), (tp, .inl (cI, 24, .inl (ia pl)))] := hD
  obtain ⟨z_1, ez⟩ : ∃ y : Int, y = z := ⟨_, rfl⟩
  rw [← ez] at hw ⊢
  clear ez
  rcases hw with ⟨rfl, w6⟩ | ⟨rfl, w6⟩
  ·
    refine q_if_eq (tgt := 24) hx hb dX6_setting_9 (by decide) ⟨by decide, by decide⟩ (fun h => absurd h (by decide)) (fun _ => ?_)
    have hokb := okS_b w6
    refine lv_aload_n hx hb dX6_setting_12 rfl (lv_at hl 0 rfl) ?_
    refine va_get (D := D) (ci := 6) (v := .ref tm) (C := RX6) (T := TX6) (N := 4) hx hb hts in_X6_setting_X6 hown hK hP 0 rfl rfl 0 (by decide) (hts _ lk_X6_setting_1) (fun _ h9 => h9) rfl dX6_setting_13 ?_
    refine lv_iload_n hx hb dX6_setting_16 rfl (lv_at hl 1 rfl) ?_
    refine lv_iload_n hx hb dX6_setting_17 rfl (lv_at hl 2 rfl) ?_
    refine q_callVI (wr := [(mh, .inr (6, [.ref tm, .ref sc, .ref sd, .ref hi]))]) (wn := fun (u : (Int → Int)) => [(mh, .inr (6, [.ref tm, .ref sc, .ref sd, .ref hi])), (tm, .inr (5, [.ref tv, .ref tp])), (tv, .inl (cI, 19, .inl (ia u))), (tp, .inl (cI, 24, .inl (ia pl)))]) (rest := []) [.int (iI what), .int (iI v)] ⟨hx, hb, hml, hown, hts⟩ (c_X5_change l D cI cZ cII tm tv tp se pl what v hB_se hB_pl ⟨by omega, by omega⟩ (by omega)) (cwV 2 hts gX6_setting_X5_change rfl rfl rfl (by decide +kernel) (by rw [hRf, hRl]; exact ⟨Nat.le_of_ble_eq_true rfl, Nat.le_of_ble_eq_true rfl⟩)) hK hP hD hS hA hN [1, 2, 3] [0] [0, 1, 2, 3] 1 5 rfl rfl rfl rfl rfl rfl (by decide) rfl (fun u => rfl) rfl hl.1 rfl (Nat.le_of_ble_eq_true rfl) dX6_setting_18 ⟨Nat.zero_le _, Nat.zero_le _⟩ (fun z u H locs hw hP hD hS => ?_)
    obtain ⟨se_2, rfl⟩ : ∃ z, z = u := ⟨_, rfl⟩
    try dsimp only at hw
    have hP : va_P D vwCl [(mh, .inr (6, [.ref tm, .ref sc, .ref sd, .ref hi])), (tm, .inr (5, [.ref tv, .ref tp])), (tv, .inl (cI, 19, .inl (ia se_2))), (tp, .inl (cI, 24, .inl (ia pl)))] H := hP
    have hD : va_D A [(mh, .inr (6, [.ref tm, .ref sc, .ref sd, .ref hi])), (tm, .inr (5, [.ref tv, .ref tp])), (tv, .inl (cI, 19, .inl (ia se_2))), (tp, .inl (cI, 24, .inl (ia pl)))] := hD
    obtain ⟨z_3, ez⟩ : ∃ y : Int, y = z := ⟨_, rfl⟩
    rw [← ez] at hw ⊢
    clear ez
    obtain ⟨w18, e18, hB_se_2⟩ := hw
    refine lv_goto (tgt := 27) hx hb dX6_setting_21 (by decide) ?_
    rw [hQ]
    refine q_retI se_2 hx hb hr hlocks hK hP hD hS dX6_setting_27 ?_
    try dsimp only
    unfold seZ seN
    first | (rw [if_neg (by assumption), if_neg (by assumption)]; exact ⟨rfl, rfl, hB_se⟩) | (rw [if_pos w6, if_pos w6]; exact ⟨by rw [w18]; unfold tvF; rw [if_pos (by omega)], by rw [e18, if_pos (by omega)], by assumption⟩)
  ·
    refine q_if_eq (tgt := 24) hx hb dX6_setting_9 (by decide) ⟨by decide, by decide⟩ (fun _ => ?_) (fun h => absurd h (by decide))
    refine lv_sipush (v := iI (-1002)) hx hb dX6_setting_24 (by decide +kernel) ?_
    rw [hQ]
    refine q_retI se hx hb hr hlocks hK hP hD hS dX6_setting_27 ?_
    try dsimp only
    unfold seZ seN
    first | (rw [if_neg (by assumption), if_neg (by assumption)]; exact ⟨rfl, rfl, hB_se⟩) | (rw [if_pos w6, if_pos w6]; exact ⟨by rw [w18]; unfold tvF; rw [if_pos (by omega)], by rw [e18, if_pos (by omega)], by assumption⟩)

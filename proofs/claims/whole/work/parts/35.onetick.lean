theorem in_X7_oneTick_X7 : ∀ w ∈ wsX70, w ∈ wsX7_oneTick := fun _ h => List.mem_cons_of_mem _ (List.mem_append_right _ h)
theorem lk_X7_oneTick_1 : Cond.fieldLink RX7 29 "MoreHandsModel" "run" "[I" ∈ wsX7_oneTick := List.mem_of_getElem? (i := 1) rfl
theorem lk_X7_oneTick_10 : Cond.fieldLink RX7 59 "MoreHandsModel" "was" "[I" ∈ wsX7_oneTick := List.mem_of_getElem? (i := 10) rfl
theorem lk_X7_oneTick_2 : Cond.fieldLink RX7 53 "MoreHandsModel" "heaps" "[I" ∈ wsX7_oneTick := List.mem_of_getElem? (i := 2) rfl
theorem lk_X7_oneTick_3 : Cond.fieldLink RX7 47 "MoreHandsModel" "againTries" "[I" ∈ wsX7_oneTick := List.mem_of_getElem? (i := 3) rfl
theorem lk_X7_oneTick_4 : Cond.fieldLink RX7 50 "MoreHandsModel" "againMany" "[I" ∈ wsX7_oneTick := List.mem_of_getElem? (i := 4) rfl
theorem lk_X7_oneTick_5 : Cond.fieldLink RX7 19 "MoreHandsModel" "loads" "[I" ∈ wsX7_oneTick := List.mem_of_getElem? (i := 5) rfl
theorem lk_X7_oneTick_6 : Cond.fieldLink RX7 56 "MoreHandsModel" "notes" "[I" ∈ wsX7_oneTick := List.mem_of_getElem? (i := 6) rfl
theorem lk_X7_oneTick_7 : Cond.fieldLink RX7 32 "MoreHandsModel" "states" "[I" ∈ wsX7_oneTick := List.mem_of_getElem? (i := 7) rfl
theorem lk_X7_oneTick_8 : Cond.fieldLink RX7 35 "MoreHandsModel" "since" "[I" ∈ wsX7_oneTick := List.mem_of_getElem? (i := 8) rfl
theorem lk_X7_oneTick_9 : Cond.fieldLink RX7 7 "MoreHandsModel" "settings" "[I" ∈ wsX7_oneTick := List.mem_of_getElem? (i := 9) rfl
set_option maxHeartbeats 4000000 in
set_option maxRecDepth 100000 in
theorem c_X7_oneTick (l : Launch) (D : va_G) (cI cZ cII : ClassId) (mo : Nat) (m0 : Nat) (m5 : Nat) (m6 : Nat) (m7 : Nat) (m8 : Nat) (m9 : Nat) (m10 : Nat) (m11 : Nat) (m12 : Nat) (m13 : Nat) (m14 : Nat) (m15 : Nat) (m16 : Nat) (m3 : Nat) (m1 : Nat) (m2 : Nat) (m4 : Nat) (m17 : Nat) (m18 : Nat) (m19 : Nat) (aa : Int) (m21 : Nat) (se : Int → Int) (pl : Int → Int) (ru : Int → Int) (st : Int → Int) (sn : Int → Int) (kt : Int → Int) (kr : Int → Int) (km : Int → Int) (ar : Int → Int) (am : Int → Int) (hp : Int → Int) (no : Int → Int) (ws : Int → Int) (ld : Int → Int) (lmv : Int) (a : Ab) (hB_se : BB 0 1000 se) (hB_pl : BB 0 12 pl) (hB_st : BB 0 3 st) (hB_sn : BB 0 200 sn) (hB_kt : BB 0 200 kt) (hB_kr : BB 0 4 kr) (hB_km : BB 0 60 km) (hB_ar : BB 0 4 ar) (hB_am : BB 0 60 am) (hB_no : BB (-1) 12000 no) (hB_ld : BB 0 60 ld) (hp_lmv : 0 ≤ lmv ∧ lmv ≤ 1) (hse : SB se) (hmr : MR ru st sn kt kr km ar am hp no ws a) (h199 : ru 0 ≤ 199) : CtV l yX7_oneTick wsX7_oneTick 4 92 D (ty3 cI cZ cII) [.ref mo, .int (iI lmv)] [(mo, .inr (7, [.ref m0, .ref m1, .ref m2, .ref m3, .ref m4, .ref m5, .ref m6, .ref m7, .ref m8, .ref m9, .ref m10, .ref m11, .ref m12, .ref m13, .ref m14, .ref m15, .ref m16, .ref m17, .ref m18, .ref m19, .int (iI aa), .ref m21])), (m0, .inl (cI, 19, .inl (ia se))), (m5, .inl (cI, 24, .inl (ia pl))), (m6, .inl (cI, 8, .inl (ia ru))), (m7, .inl (cI, 12, .inl (ia st))), (m8, .inl (cI, 12, .inl (ia sn))), (m9, .inl (cI, 200, .inl (ia kt))), (m10, .inl (cI, 200, .inl (ia kr))), (m11, .inl (cI, 200, .inl (ia km))), (m12, .inl (cI, 200, .inl (ia ar))), (m13, .inl (cI, 200, .inl (ia am))), (m14, .inl (cI, 2, .inl (ia hp))), (m15, .inl (cI, 200, .inl (ia no))), (m16, .inl (cI, 1200, .inl (ia ws))), (m3, .inl (cI, 200, .inl (ia ld)))] (fun (u : (Int → Int) × (Int → Int) × (Int → Int) × (Int → Int) × (Int → Int) × (Int → Int) × (Int → Int) × (Int → Int) × (Int → Int) × (Int → Int) × (Int → Int)) => MR u.1 u.2.1 u.2.2.1 u.2.2.2.1 u.2.2.2.2.1 u.2.2.2.2.2.1 u.2.2.2.2.2.2.1 u.2.2.2.2.2.2.2.1 u.2.2.2.2.2.2.2.2.1 u.2.2.2.2.2.2.2.2.2.1 u.2.2.2.2.2.2.2.2.2.2 (tk se pl (ld (ru 0)) lmv a) ∧ BB 0 3 u.2.1 ∧ BB 0 200 u.2.2.1 ∧ BB 0 200 u.2.2.2.1 ∧ BB 0 4 u.2.2.2.2.1 ∧ BB 0 60 u.2.2.2.2.2.1 ∧ BB 0 4 u.2.2.2.2.2.2.1 ∧ BB 0 60 u.2.2.2.2.2.2.2.1 ∧ BB (-1) 12000 u.2.2.2.2.2.2.2.2.2.1) (fun u => [(mo, .inr (7, [.ref m0, .ref m1, .ref m2, .ref m3, .ref m4, .ref m5, .ref m6, .ref m7, .ref m8, .ref m9, .ref m10, .ref m11, .ref m12, .ref m13, .ref m14, .ref m15, .ref m16, .ref m17, .ref m18, .ref m19, .int (iI aa), .ref m21])), (m0, .inl (cI, 19, .inl (ia se))), (m5, .inl (cI, 24, .inl (ia pl))), (m6, .inl (cI, 8, .inl (ia u.1))), (m7, .inl (cI, 12, .inl (ia u.2.1))), (m8, .inl (cI, 12, .inl (ia u.2.2.1))), (m9, .inl (cI, 200, .inl (ia u.2.2.2.1))), (m10, .inl (cI, 200, .inl (ia u.2.2.2.2.1))), (m11, .inl (cI, 200, .inl (ia u.2.2.2.2.2.1))), (m12, .inl (cI, 200, .inl (ia u.2.2.2.2.2.2.1))), (m13, .inl (cI, 200, .inl (ia u.2.2.2.2.2.2.2.1))), (m14, .inl (cI, 2, .inl (ia u.2.2.2.2.2.2.2.2.1))), (m15, .inl (cI, 200, .inl (ia u.2.2.2.2.2.2.2.2.2.1))), (m16, .inl (cI, 1200, .inl (ia u.2.2.2.2.2.2.2.2.2.2))), (m3, .inl (cI, 200, .inl (ia ld)))]) := by
  refine CtV.mk (cc := cX7_oneTick) (maxL := 8) (ret := none) (by decide) rfl (Nat.le_of_ble_eq_true rfl) ?_
  intro p e s m below meth c A ls R args Q hx hb hml hr hts hown hlocks hA hK hP hD hN hS hl hRf hRl hQ
  have hl : lv_has ls 8 [(0, .ref mo), (1, .int (iI lmv))] := hl
  have hown : s.vm.findClass RX7 = some m.cls := hown
  have hsb := hse; unfold SB at hsb
  obtain ⟨hru, hst, hag, hno, hws, ⟨hp0, hp1, hp01⟩, hW, hR, ⟨hr0, hr4, hr6⟩, hai⟩ := hmr
  obtain ⟨ti, eti⟩ : ∃ t : Int, t = ru 0 := ⟨_, rfl⟩
  rw [← eti] at hno hws hp01 hR hr0 h199
  have eta : ti = a.1 0 := by rw [eti]; exact hru 0 (by decide) (by decide)
  have hbld := hB_ld ti
  have hpR := hai.1
  rw [← hR] at hpR
  obtain ⟨hW1p, hW1s, hW1b⟩ := W1_ok (ld := ld ti) hai hbld.2
  refine lv_aload_n hx hb dX7_oneTick_0 rfl (lv_at hl 0 rfl) ?_
  refine va_get (D := D) (ci := 7) (v := .ref m6) (C := RX7) (T := TX7) (N := 22) hx hb hts in_X7_oneTick_X7 hown hK hP 0 rfl rfl 6 (by decide) (hts _ lk_X7_oneTick_1) (fun _ h9 => h9) rfl dX7_oneTick_1 ?_
  refine lv_iconst (v := iI 0) hx hb dX7_oneTick_4 rfl ?_
  refine q_iald hx hb hK hP 3 0 rfl rfl (by omega) (by omega) (by decide) dX7_oneTick_5 ?_
  refine q_top (b := ti) (by exact eti.symm) ?_
  refine lv_istore_n (lv' := [(2, .int (iI ti)), (0, .ref mo), (1, .int (iI lmv))]) hx hb dX7_oneTick_6 rfl hl (by decide) rfl (fun ls hl => ?_)
  refine lv_iconst (v := iI 0) hx hb dX7_oneTick_7 rfl ?_
  refine lv_istore_n (lv' := [(3, .int (iI 0)), (2, .int (iI ti)), (0, .ref mo), (1, .int (iI lmv))]) hx hb dX7_oneTick_8 rfl hl (by decide) rfl (fun ls hl => ?_)
  have L9_0 : ∀ (n : Nat), ∀ (k : Int) (kt1 : Int → Int) (kr1 : Int → Int) (km1 : Int → Int) (hpk : Int → Int), (hB_kt1 : BB 0 200 kt1) → (hB_kr1 : BB 0 4 kr1) → (hB_km1 : BB 0 60 km1) → (hk : 0 ≤ k ∧ k ≤ hp 1) → (hh1 : hpk 1 = hp 1) → (hh0 : hpk 0 = hp 0 + k) → (hL1 : hL kt1 kr1 km1 (hpk 0) = a.2.2.2.2.2.1 ++ hL (fun _ => ti) ar am k) → (hp 1 - k) < (n : Int) → ∀ (H : Heap) (locs : List Loc), va_P D vwCl [(mo, .inr (7, [.ref m0, .ref m1, .ref m2, .ref m3, .ref m4, .ref m5, .ref m6, .ref m7, .ref m8, .ref m9, .ref m10, .ref m11, .ref m12, .ref m13, .ref m14, .ref m15, .ref m16, .ref m17, .ref m18, .ref m19, .int (iI aa), .ref m21])), (m0, .inl (cI, 19, .inl (ia se))), (m5, .inl (cI, 24, .inl (ia pl))), (m6, .inl (cI, 8, .inl (ia ru))), (m7, .inl (cI, 12, .inl (ia st))), (m8, .inl (cI, 12, .inl (ia sn))), (m9, .inl (cI, 200, .inl (ia kt1))), (m10, .inl (cI, 200, .inl (ia kr1))), (m11, .inl (cI, 200, .inl (ia km1))), (m12, .inl (cI, 200, .inl (ia ar))), (m13, .inl (cI, 200, .inl (ia am))), (m14, .inl (cI, 2, .inl (ia hpk))), (m15, .inl (cI, 200, .inl (ia no))), (m16, .inl (cI, 1200, .inl (ia ws))), (m3, .inl (cI, 200, .inl (ia ld)))] H → va_D A [(mo, .inr (7, [.ref m0, .ref m1, .ref m2, .ref m3, .ref m4, .ref m5, .ref m6, .ref m7, .ref m8, .ref m9, .ref m10, .ref m11, .ref m12, .ref m13, .ref m14, .ref m15, .ref m16, .ref m17, .ref m18, .ref m19, .int (iI aa), .ref m21])), (m0, .inl (cI, 19, .inl (ia se))), (m5, .inl (cI, 24, .inl (ia pl))), (m6, .inl (cI, 8, .inl (ia ru))), (m7, .inl (cI, 12, .inl (ia st))), (m8, .inl (cI, 12, .inl (ia sn))), (m9, .inl (cI, 200, .inl (ia kt1))), (m10, .inl (cI, 200, .inl (ia kr1))), (m11, .inl (cI, 200, .inl (ia km1))), (m12, .inl (cI, 200, .inl (ia ar))), (m13, .inl (cI, 200, .inl (ia am))), (m14, .inl (cI, 2, .inl (ia hpk))), (m15, .inl (cI, 200, .inl (ia no))), (m16, .inl (cI, 1200, .inl (ia ws))), (m3, .inl (cI, 200, .inl (ia ld)))] → va_S A s.heap H locs → ∀ ls : Array Slot, lv_has ls 8 [(0, .ref mo), (1, .int (iI lmv)), (2, .int (iI ti)), (3, .int (iI k))] → W p l e R s m args below meth c H locs 0 0 Q (F0 m 9 ls []) := by
    intro n
    induction n with
    | zero => intro k kt1 kr1 km1 hpk hB_kt1 hB_kr1 hB_km1 hk hh1 hh0 hL1 hm; exact absurd hm (by omega)
    | succ n ih =>
      intro k kt1 kr1 km1 hpk hB_kt1 hB_kr1 hB_km1 hk hh1 hh0 hL1 hm H locs hP hD hS ls hl
      refine lv_iload_n hx hb dX7_oneTick_9 rfl (lv_at hl 3 rfl) ?_
      refine lv_aload_n hx hb dX7_oneTick_10 rfl (lv_at hl 0 rfl) ?_
      refine va_get (D := D) (ci := 7) (v := .ref m14) (C := RX7) (T := TX7) (N := 22) hx hb hts in_X7_oneTick_X7 hown hK hP 0 rfl rfl 14 (by decide) (hts _ lk_X7_oneTick_2) (fun _ h9 => h9) rfl dX7_oneTick_11 ?_
      refine lv_iconst (v := iI 1) hx hb dX7_oneTick_14 rfl ?_
      refine q_iald hx hb hK hP 11 0 rfl rfl (by omega) (by omega) (by decide) dX7_oneTick_15 ?_
      refine q_icmp_ge (tgt := 42) hx hb dX7_oneTick_16 (by decide) ⟨by omega, by omega⟩ ⟨by omega, by omega⟩ (fun c16 => ?_) (fun c16 => ?_)
      ·
        have ek1 : k = hp 1 := by omega
        refine lv_aload_n hx hb dX7_oneTick_42 rfl (lv_at hl 0 rfl) ?_
        refine lv_iload_n hx hb dX7_oneTick_43 rfl (lv_at hl 2 rfl) ?_
        refine lv_iconst (v := iI 1) hx hb dX7_oneTick_44 rfl ?_
        refine lv_aload_n hx hb dX7_oneTick_45 rfl (lv_at hl 0 rfl) ?_
        refine va_get (D := D) (ci := 7) (v := .ref m3) (C := RX7) (T := TX7) (N := 22) hx hb hts in_X7_oneTick_X7 hown hK hP 0 rfl rfl 3 (by decide) (hts _ lk_X7_oneTick_5) (fun _ h9 => h9) rfl dX7_oneTick_46 ?_
        refine lv_iload_n hx hb dX7_oneTick_49 rfl (lv_at hl 2 rfl) ?_
        refine q_iald hx hb hK hP 14 0 rfl rfl (by omega) (by omega) (by decide) dX7_oneTick_50 ?_
        have hb50 := hB_ld ti
        refine q_callVV (wr := [(m0, .inl (cI, 19, .inl (ia se))), (m5, .inl (cI, 24, .inl (ia pl))), (m6, .inl (cI, 8, .inl (ia ru))), (m7, .inl (cI, 12, .inl (ia st))), (m8, .inl (cI, 12, .inl (ia sn))), (m12, .inl (cI, 200, .inl (ia ar))), (m13, .inl (cI, 200, .inl (ia am))), (m15, .inl (cI, 200, .inl (ia no))), (m16, .inl (cI, 1200, .inl (ia ws))), (m3, .inl (cI, 200, .inl (ia ld)))]) (wn := fun (u : (Int → Int) × (Int → Int) × (Int → Int) × (Int → Int)) => [(mo, .inr (7, [.ref m0, .ref m1, .ref m2, .ref m3, .ref m4, .ref m5, .ref m6, .ref m7, .ref m8, .ref m9, .ref m10, .ref m11, .ref m12, .ref m13, .ref m14, .ref m15, .ref m16, .ref m17, .ref m18, .ref m19, .int (iI aa), .ref m21])), (m0, .inl (cI, 19, .inl (ia se))), (m5, .inl (cI, 24, .inl (ia pl))), (m6, .inl (cI, 8, .inl (ia ru))), (m7, .inl (cI, 12, .inl (ia st))), (m8, .inl (cI, 12, .inl (ia sn))), (m9, .inl (cI, 200, .inl (ia u.1))), (m10, .inl (cI, 200, .inl (ia u.2.1))), (m11, .inl (cI, 200, .inl (ia u.2.2.1))), (m12, .inl (cI, 200, .inl (ia ar))), (m13, .inl (cI, 200, .inl (ia am))), (m14, .inl (cI, 2, .inl (ia u.2.2.2))), (m15, .inl (cI, 200, .inl (ia no))), (m16, .inl (cI, 1200, .inl (ia ws))), (m3, .inl (cI, 200, .inl (ia ld)))]) (rest := []) [.int (iI ti), .int (iI 1), .int (iI (ld ti))] ⟨hx, hb, hml, hown, hts⟩ (c_X7_join l D cI cZ cII mo m9 m10 m11 m14 m0 m1 m2 m3 m4 m5 m6 m7 m8 m12 m13 m15 m16 m17 m18 m19 aa m21 kt1 kr1 km1 hpk ti 1 (ld ti) hB_kt1 hB_kr1 hB_km1 (by omega) (by omega) (by omega) (by omega)) (cwV 3 hts gX7_oneTick_X7_join rfl rfl rfl (by decide +kernel) (by rw [hRf, hRl]; exact ⟨Nat.le_of_ble_eq_true rfl, Nat.le_of_ble_eq_true rfl⟩)) hK hP hD hS hA hN [0, 6, 7, 8, 11] [1, 2, 3, 4, 5, 9, 10, 12, 13, 14] [10, 0, 1, 2, 3, 4, 11, 12, 13, 5, 6, 14, 7, 8, 9] 0 7 rfl rfl rfl rfl rfl rfl (by decide) rfl (fun u => rfl) rfl hl.1 rfl (Nat.le_of_ble_eq_true rfl) dX7_oneTick_51 ⟨Nat.zero_le _, Nat.zero_le _⟩ (fun u H locs hw hP hD hS => ?_)
        obtain ⟨ktc, krc, kmc, hpc⟩ := u
        try dsimp only at hw
        have hP : va_P D vwCl [(mo, .inr (7, [.ref m0, .ref m1, .ref m2, .ref m3, .ref m4, .ref m5, .ref m6, .ref m7, .ref m8, .ref m9, .ref m10, .ref m11, .ref m12, .ref m13, .ref m14, .ref m15, .ref m16, .ref m17, .ref m18, .ref m19, .int (iI aa), .ref m21])), (m0, .inl (cI, 19, .inl (ia se))), (m5, .inl (cI, 24, .inl (ia pl))), (m6, .inl (cI, 8, .inl (ia ru))), (m7, .inl (cI, 12, .inl (ia st))), (m8, .inl (cI, 12, .inl (ia sn))), (m9, .inl (cI, 200, .inl (ia ktc))), (m10, .inl (cI, 200, .inl (ia krc))), (m11, .inl (cI, 200, .inl (ia kmc))), (m12, .inl (cI, 200, .inl (ia ar))), (m13, .inl (cI, 200, .inl (ia am))), (m14, .inl (cI, 2, .inl (ia hpc))), (m15, .inl (cI, 200, .inl (ia no))), (m16, .inl (cI, 1200, .inl (ia ws))), (m3, .inl (cI, 200, .inl (ia ld)))] H := hP
        have hD : va_D A [(mo, .inr (7, [.ref m0, .ref m1, .ref m2, .ref m3, .ref m4, .ref m5, .ref m6, .ref m7, .ref m8, .ref m9, .ref m10, .ref m11, .ref m12, .ref m13, .ref m14, .ref m15, .ref m16, .ref m17, .ref m18, .ref m19, .int (iI aa), .ref m21])), (m0, .inl (cI, 19, .inl (ia se))), (m5, .inl (cI, 24, .inl (ia pl))), (m6, .inl (cI, 8, .inl (ia ru))), (m7, .inl (cI, 12, .inl (ia st))), (m8, .inl (cI, 12, .inl (ia sn))), (m9, .inl (cI, 200, .inl (ia ktc))), (m10, .inl (cI, 200, .inl (ia krc))), (m11, .inl (cI, 200, .inl (ia kmc))), (m12, .inl (cI, 200, .inl (ia ar))), (m13, .inl (cI, 200, .inl (ia am))), (m14, .inl (cI, 2, .inl (ia hpc))), (m15, .inl (cI, 200, .inl (ia no))), (m16, .inl (cI, 1200, .inl (ia ws))), (m3, .inl (cI, 200, .inl (ia ld)))] := hD
        obtain ⟨e51, f51, g51, hB_ktc, hB_krc, hB_kmc⟩ := hw
        have hW1 : hL ktc krc kmc (hpc 0) = tkW1 (ld ti) a := by unfold tkW1 tW; rw [e51, hL1, ek1, hR, ← eta]
        have hpc0 : 0 ≤ hpc 0 ∧ hpc 0 ≤ ti + 1 := by rw [f51]; split <;> omega
        obtain ⟨wtd, ewt⟩ : ∃ w : Int, w = mny (tkW1 (ld ti) a) := ⟨_, rfl⟩
        have hwm : sI kmc (hpc 0) = wtd := by rw [ewt, ← hW1]; exact (mny_hL _ _ _ hpc0.1).symm
        have hwb : 0 ≤ wtd ∧ wtd ≤ 12000 := by rw [ewt]; exact mny_len (n := hpc 0) hW1p (by rw [← hW1]; exact hL_len _ _ _ hpc0.1) (by omega)
        refine lv_aload_n hx hb dX7_oneTick_54 rfl (lv_at hl 0 rfl) ?_
        refine va_get (D := D) (ci := 7) (v := .ref m6) (C := RX7) (T := TX7) (N := 22) hx hb hts in_X7_oneTick_X7 hown hK hP 0 rfl rfl 6 (by decide) (hts _ lk_X7_oneTick_1) (fun _ h9 => h9) rfl dX7_oneTick_55 ?_
        refine lv_bipush (v := iI 7) hx hb dX7_oneTick_58 (by decide +kernel) ?_
        refine lv_dup2_11 hx hb dX7_oneTick_60 rfl rfl ?_
        refine q_iald hx hb hK hP 3 0 rfl rfl (by omega) (by omega) (by decide) dX7_oneTick_61 ?_
        refine lv_aload_n hx hb dX7_oneTick_62 rfl (lv_at hl 0 rfl) ?_
        refine va_get (D := D) (ci := 7) (v := .ref m3) (C := RX7) (T := TX7) (N := 22) hx hb hts in_X7_oneTick_X7 hown hK hP 0 rfl rfl 3 (by decide) (hts _ lk_X7_oneTick_5) (fun _ h9 => h9) rfl dX7_oneTick_63 ?_
        refine lv_iload_n hx hb dX7_oneTick_66 rfl (lv_at hl 2 rfl) ?_
        refine q_iald hx hb hK hP 14 0 rfl rfl (by omega) (by omega) (by decide) dX7_oneTick_67 ?_
        have hb67 := hB_ld ti
        refine q_iadd hx hb dX7_oneTick_68 ?_
        refine q_iast hx hb hK hP hD hS 3 0 rfl rfl (by omega) (by omega) (by decide) dX7_oneTick_69 (fun H locs hP hD hS => ?_)
        have hP : va_P D vwCl [(mo, .inr (7, [.ref m0, .ref m1, .ref m2, .ref m3, .ref m4, .ref m5, .ref m6, .ref m7, .ref m8, .ref m9, .ref m10, .ref m11, .ref m12, .ref m13, .ref m14, .ref m15, .ref m16, .ref m17, .ref m18, .ref m19, .int (iI aa), .ref m21])), (m0, .inl (cI, 19, .inl (ia se))), (m5, .inl (cI, 24, .inl (ia pl))), (m6, .inl (cI, 8, .inl (ia (uI ru 7 ((ru 7) + (ld ti)))))), (m7, .inl (cI, 12, .inl (ia st))), (m8, .inl (cI, 12, .inl (ia sn))), (m9, .inl (cI, 200, .inl (ia ktc))), (m10, .inl (cI, 200, .inl (ia krc))), (m11, .inl (cI, 200, .inl (ia kmc))), (m12, .inl (cI, 200, .inl (ia ar))), (m13, .inl (cI, 200, .inl (ia am))), (m14, .inl (cI, 2, .inl (ia hpc))), (m15, .inl (cI, 200, .inl (ia no))), (m16, .inl (cI, 1200, .inl (ia ws))), (m3, .inl (cI, 200, .inl (ia ld)))] H := hP
        have hD : va_D A [(mo, .inr (7, [.ref m0, .ref m1, .ref m2, .ref m3, .ref m4, .ref m5, .ref m6, .ref m7, .ref m8, .ref m9, .ref m10, .ref m11, .ref m12, .ref m13, .ref m14, .ref m15, .ref m16, .ref m17, .ref m18, .ref m19, .int (iI aa), .ref m21])), (m0, .inl (cI, 19, .inl (ia se))), (m5, .inl (cI, 24, .inl (ia pl))), (m6, .inl (cI, 8, .inl (ia (uI ru 7 ((ru 7) + (ld ti)))))), (m7, .inl (cI, 12, .inl (ia st))), (m8, .inl (cI, 12, .inl (ia sn))), (m9, .inl (cI, 200, .inl (ia ktc))), (m10, .inl (cI, 200, .inl (ia krc))), (m11, .inl (cI, 200, .inl (ia kmc))), (m12, .inl (cI, 200, .inl (ia ar))), (m13, .inl (cI, 200, .inl (ia am))), (m14, .inl (cI, 2, .inl (ia hpc))), (m15, .inl (cI, 200, .inl (ia no))), (m16, .inl (cI, 1200, .inl (ia ws))), (m3, .inl (cI, 200, .inl (ia ld)))] := hD
        refine lv_aload_n hx hb dX7_oneTick_70 rfl (lv_at hl 0 rfl) ?_
        refine q_callVI (wr := [(m0, .inl (cI, 19, .inl (ia se))), (m5, .inl (cI, 24, .inl (ia pl))), (m6, .inl (cI, 8, .inl (ia (uI ru 7 ((ru 7) + (ld ti)))))), (m7, .inl (cI, 12, .inl (ia st))), (m8, .inl (cI, 12, .inl (ia sn))), (m9, .inl (cI, 200, .inl (ia ktc))), (m10, .inl (cI, 200, .inl (ia krc))), (m12, .inl (cI, 200, .inl (ia ar))), (m13, .inl (cI, 200, .inl (ia am))), (m15, .inl (cI, 200, .inl (ia no))), (m16, .inl (cI, 1200, .inl (ia ws))), (m3, .inl (cI, 200, .inl (ia ld)))]) (wn := fun (u : Unit) => [(mo, .inr (7, [.ref m0, .ref m1, .ref m2, .ref m3, .ref m4, .ref m5, .ref m6, .ref m7, .ref m8, .ref m9, .ref m10, .ref m11, .ref m12, .ref m13, .ref m14, .ref m15, .ref m16, .ref m17, .ref m18, .ref m19, .int (iI aa), .ref m21])), (m0, .inl (cI, 19, .inl (ia se))), (m5, .inl (cI, 24, .inl (ia pl))), (m6, .inl (cI, 8, .inl (ia (uI ru 7 ((ru 7) + (ld ti)))))), (m7, .inl (cI, 12, .inl (ia st))), (m8, .inl (cI, 12, .inl (ia sn))), (m9, .inl (cI, 200, .inl (ia ktc))), (m10, .inl (cI, 200, .inl (ia krc))), (m11, .inl (cI, 200, .inl (ia kmc))), (m12, .inl (cI, 200, .inl (ia ar))), (m13, .inl (cI, 200, .inl (ia am))), (m14, .inl (cI, 2, .inl (ia hpc))), (m15, .inl (cI, 200, .inl (ia no))), (m16, .inl (cI, 1200, .inl (ia ws))), (m3, .inl (cI, 200, .inl (ia ld)))]) (rest := []) [] ⟨hx, hb, hml, hown, hts⟩ (c_X7_waiting l D cI cZ cII mo m11 m14 m0 m1 m2 m3 m4 m5 m6 m7 m8 m9 m10 m12 m13 m15 m16 m17 m18 m19 aa m21 kmc hpc hB_kmc (by omega)) (cwV 0 hts gX7_oneTick_X7_waiting rfl rfl rfl (by decide +kernel) (by rw [hRf, hRl]; exact ⟨Nat.le_of_ble_eq_true rfl, Nat.le_of_ble_eq_true rfl⟩)) hK hP hD hS hA hN [0, 8, 11] [1, 2, 3, 4, 5, 6, 7, 9, 10, 12, 13, 14] [12, 0, 1, 2, 3, 4, 5, 6, 13, 7, 8, 14, 9, 10, 11] 0 7 rfl rfl rfl rfl rfl rfl (by decide) rfl (fun u => rfl) rfl hl.1 rfl (Nat.le_of_ble_eq_true rfl) dX7_oneTick_71 ⟨Nat.zero_le _, Nat.zero_le _⟩ (fun z u H locs hw hP hD hS => ?_)
        have hP : va_P D vwCl [(mo, .inr (7, [.ref m0, .ref m1, .ref m2, .ref m3, .ref m4, .ref m5, .ref m6, .ref m7, .ref m8, .ref m9, .ref m10, .ref m11, .ref m12, .ref m13, .ref m14, .ref m15, .ref m16, .ref m17, .ref m18, .ref m19, .int (iI aa), .ref m21])), (m0, .inl (cI, 19, .inl (ia se))), (m5, .inl (cI, 24, .inl (ia pl))), (m6, .inl (cI, 8, .inl (ia (uI ru 7 ((ru 7) + (ld ti)))))), (m7, .inl (cI, 12, .inl (ia st))), (m8, .inl (cI, 12, .inl (ia sn))), (m9, .inl (cI, 200, .inl (ia ktc))), (m10, .inl (cI, 200, .inl (ia krc))), (m11, .inl (cI, 200, .inl (ia kmc))), (m12, .inl (cI, 200, .inl (ia ar))), (m13, .inl (cI, 200, .inl (ia am))), (m14, .inl (cI, 2, .inl (ia hpc))), (m15, .inl (cI, 200, .inl (ia no))), (m16, .inl (cI, 1200, .inl (ia ws))), (m3, .inl (cI, 200, .inl (ia ld)))] H := hP
        have hD : va_D A [(mo, .inr (7, [.ref m0, .ref m1, .ref m2, .ref m3, .ref m4, .ref m5, .ref m6, .ref m7, .ref m8, .ref m9, .ref m10, .ref m11, .ref m12, .ref m13, .ref m14, .ref m15, .ref m16, .ref m17, .ref m18, .ref m19, .int (iI aa), .ref m21])), (m0, .inl (cI, 19, .inl (ia se))), (m5, .inl (cI, 24, .inl (ia pl))), (m6, .inl (cI, 8, .inl (ia (uI ru 7 ((ru 7) + (ld ti)))))), (m7, .inl (cI, 12, .inl (ia st))), (m8, .inl (cI, 12, .inl (ia sn))), (m9, .inl (cI, 200, .inl (ia ktc))), (m10, .inl (cI, 200, .inl (ia krc))), (m11, .inl (cI, 200, .inl (ia kmc))), (m12, .inl (cI, 200, .inl (ia ar))), (m13, .inl (cI, 200, .inl (ia am))), (m14, .inl (cI, 2, .inl (ia hpc))), (m15, .inl (cI, 200, .inl (ia no))), (m16, .inl (cI, 1200, .inl (ia ws))), (m3, .inl (cI, 200, .inl (ia ld)))] := hD
        obtain ⟨z_1, ez⟩ : ∃ y : Int, y = z := ⟨_, rfl⟩
        rw [← ez] at hw ⊢
        clear ez
        have w71 : z_1 = (sI kmc (hpc 0)) := hw
        clear hw
        subst w71
        refine q_top (b := wtd) (by exact hwm) ?_
        refine lv_istore_n (lv' := [(3, .int (iI wtd)), (0, .ref mo), (1, .int (iI lmv)), (2, .int (iI ti))]) hx hb dX7_oneTick_74 rfl hl (by decide) rfl (fun ls hl => ?_)
        refine lv_aload_n hx hb dX7_oneTick_75 rfl (lv_at hl 1 rfl) ?_
        refine va_get (D := D) (ci := 7) (v := .ref m15) (C := RX7) (T := TX7) (N := 22) hx hb hts in_X7_oneTick_X7 hown hK hP 0 rfl rfl 15 (by decide) (hts _ lk_X7_oneTick_6) (fun _ h9 => h9) rfl dX7_oneTick_76 ?_
        refine lv_iload_n hx hb dX7_oneTick_79 rfl (lv_at hl 3 rfl) ?_
        have L89_1 : ∀ (nv : Int), (hnv : nv = (if lmv = 0 then wtd else -1)) → (hnb : -1 ≤ nv ∧ nv ≤ 12000) → ∀ (H : Heap) (locs : List Loc), va_P D vwCl [(mo, .inr (7, [.ref m0, .ref m1, .ref m2, .ref m3, .ref m4, .ref m5, .ref m6, .ref m7, .ref m8, .ref m9, .ref m10, .ref m11, .ref m12, .ref m13, .ref m14, .ref m15, .ref m16, .ref m17, .ref m18, .ref m19, .int (iI aa), .ref m21])), (m0, .inl (cI, 19, .inl (ia se))), (m5, .inl (cI, 24, .inl (ia pl))), (m6, .inl (cI, 8, .inl (ia (uI ru 7 ((ru 7) + (ld ti)))))), (m7, .inl (cI, 12, .inl (ia st))), (m8, .inl (cI, 12, .inl (ia sn))), (m9, .inl (cI, 200, .inl (ia ktc))), (m10, .inl (cI, 200, .inl (ia krc))), (m11, .inl (cI, 200, .inl (ia kmc))), (m12, .inl (cI, 200, .inl (ia ar))), (m13, .inl (cI, 200, .inl (ia am))), (m14, .inl (cI, 2, .inl (ia hpc))), (m15, .inl (cI, 200, .inl (ia no))), (m16, .inl (cI, 1200, .inl (ia ws))), (m3, .inl (cI, 200, .inl (ia ld)))] H → va_D A [(mo, .inr (7, [.ref m0, .ref m1, .ref m2, .ref m3, .ref m4, .ref m5, .ref m6, .ref m7, .ref m8, .ref m9, .ref m10, .ref m11, .ref m12, .ref m13, .ref m14, .ref m15, .ref m16, .ref m17, .ref m18, .ref m19, .int (iI aa), .ref m21])), (m0, .inl (cI, 19, .inl (ia se))), (m5, .inl (cI, 24, .inl (ia pl))), (m6, .inl (cI, 8, .inl (ia (uI ru 7 ((ru 7) + (ld ti)))))), (m7, .inl (cI, 12, .inl (ia st))), (m8, .inl (cI, 12, .inl (ia sn))), (m9, .inl (cI, 200, .inl (ia ktc))), (m10, .inl (cI, 200, .inl (ia krc))), (m11, .inl (cI, 200, .inl (ia kmc))), (m12, .inl (cI, 200, .inl (ia ar))), (m13, .inl (cI, 200, .inl (ia am))), (m14, .inl (cI, 2, .inl (ia hpc))), (m15, .inl (cI, 200, .inl (ia no))), (m16, .inl (cI, 1200, .inl (ia ws))), (m3, .inl (cI, 200, .inl (ia ld)))] → va_S A s.heap H locs → ∀ ls : Array Slot, lv_has ls 8 [(0, .ref mo), (1, .int (iI lmv)), (2, .int (iI ti)), (3, .int (iI wtd))] → W p l e R s m args below meth c H locs 0 0 Q (F0 m 89 ls [.int (iI nv), .int (iI ti), .ref m15]) := by
          intro nv hnv hnb H locs hP hD hS ls hl
          refine q_iast hx hb hK hP hD hS 12 0 rfl rfl (by omega) (by omega) (by decide) dX7_oneTick_89 (fun H locs hP hD hS => ?_)
          have hP : va_P D vwCl [(mo, .inr (7, [.ref m0, .ref m1, .ref m2, .ref m3, .ref m4, .ref m5, .ref m6, .ref m7, .ref m8, .ref m9, .ref m10, .ref m11, .ref m12, .ref m13, .ref m14, .ref m15, .ref m16, .ref m17, .ref m18, .ref m19, .int (iI aa), .ref m21])), (m0, .inl (cI, 19, .inl (ia se))), (m5, .inl (cI, 24, .inl (ia pl))), (m6, .inl (cI, 8, .inl (ia (uI ru 7 ((ru 7) + (ld ti)))))), (m7, .inl (cI, 12, .inl (ia st))), (m8, .inl (cI, 12, .inl (ia sn))), (m9, .inl (cI, 200, .inl (ia ktc))), (m10, .inl (cI, 200, .inl (ia krc))), (m11, .inl (cI, 200, .inl (ia kmc))), (m12, .inl (cI, 200, .inl (ia ar))), (m13, .inl (cI, 200, .inl (ia am))), (m14, .inl (cI, 2, .inl (ia hpc))), (m15, .inl (cI, 200, .inl (ia (uI no ti nv)))), (m16, .inl (cI, 1200, .inl (ia ws))), (m3, .inl (cI, 200, .inl (ia ld)))] H := hP
          have hD : va_D A [(mo, .inr (7, [.ref m0, .ref m1, .ref m2, .ref m3, .ref m4, .ref m5, .ref m6, .ref m7, .ref m8, .ref m9, .ref m10, .ref m11, .ref m12, .ref m13, .ref m14, .ref m15, .ref m16, .ref m17, .ref m18, .ref m19, .int (iI aa), .ref m21])), (m0, .inl (cI, 19, .inl (ia se))), (m5, .inl (cI, 24, .inl (ia pl))), (m6, .inl (cI, 8, .inl (ia (uI ru 7 ((ru 7) + (ld ti)))))), (m7, .inl (cI, 12, .inl (ia st))), (m8, .inl (cI, 12, .inl (ia sn))), (m9, .inl (cI, 200, .inl (ia ktc))), (m10, .inl (cI, 200, .inl (ia krc))), (m11, .inl (cI, 200, .inl (ia kmc))), (m12, .inl (cI, 200, .inl (ia ar))), (m13, .inl (cI, 200, .inl (ia am))), (m14, .inl (cI, 2, .inl (ia hpc))), (m15, .inl (cI, 200, .inl (ia (uI no ti nv)))), (m16, .inl (cI, 1200, .inl (ia ws))), (m3, .inl (cI, 200, .inl (ia ld)))] := hD
          have hB_2 : BB (-1) 12000 (uI no ti nv) := BB_uI hB_no (by omega)
          refine lv_aload_n hx hb dX7_oneTick_90 rfl (lv_at hl 0 rfl) ?_
          refine lv_iload_n hx hb dX7_oneTick_91 rfl (lv_at hl 2 rfl) ?_
          refine q_callVV (wr := [(m5, .inl (cI, 24, .inl (ia pl))), (m7, .inl (cI, 12, .inl (ia st))), (m8, .inl (cI, 12, .inl (ia sn))), (m9, .inl (cI, 200, .inl (ia ktc))), (m10, .inl (cI, 200, .inl (ia krc))), (m11, .inl (cI, 200, .inl (ia kmc))), (m12, .inl (cI, 200, .inl (ia ar))), (m13, .inl (cI, 200, .inl (ia am))), (m14, .inl (cI, 2, .inl (ia hpc))), (m16, .inl (cI, 1200, .inl (ia ws))), (m3, .inl (cI, 200, .inl (ia ld)))]) (wn := fun (u : (Int → Int)) => [(mo, .inr (7, [.ref m0, .ref m1, .ref m2, .ref m3, .ref m4, .ref m5, .ref m6, .ref m7, .ref m8, .ref m9, .ref m10, .ref m11, .ref m12, .ref m13, .ref m14, .ref m15, .ref m16, .ref m17, .ref m18, .ref m19, .int (iI aa), .ref m21])), (m0, .inl (cI, 19, .inl (ia se))), (m5, .inl (cI, 24, .inl (ia pl))), (m6, .inl (cI, 8, .inl (ia u))), (m7, .inl (cI, 12, .inl (ia st))), (m8, .inl (cI, 12, .inl (ia sn))), (m9, .inl (cI, 200, .inl (ia ktc))), (m10, .inl (cI, 200, .inl (ia krc))), (m11, .inl (cI, 200, .inl (ia kmc))), (m12, .inl (cI, 200, .inl (ia ar))), (m13, .inl (cI, 200, .inl (ia am))), (m14, .inl (cI, 2, .inl (ia hpc))), (m15, .inl (cI, 200, .inl (ia (uI no ti nv)))), (m16, .inl (cI, 1200, .inl (ia ws))), (m3, .inl (cI, 200, .inl (ia ld)))]) (rest := []) [.int (iI ti)] ⟨hx, hb, hml, hown, hts⟩ (c_X7_read l D cI cZ cII mo m0 m6 m15 m1 m2 m3 m4 m5 m7 m8 m9 m10 m11 m12 m13 m14 m16 m17 m18 m19 aa m21 se (uI ru 7 ((ru 7) + (ld ti))) (uI no ti nv) ti hB_se hB_2 (by omega) (by assumption) (by rw [uI_n _ _ _ (by decide)]; exact hr4)) (cwV 1 hts gX7_oneTick_X7_read rfl rfl rfl (by decide +kernel) (by rw [hRf, hRl]; exact ⟨Nat.le_of_ble_eq_true rfl, Nat.le_of_ble_eq_true rfl⟩)) hK hP hD hS hA hN [0, 1, 3, 12] [2, 4, 5, 6, 7, 8, 9, 10, 11, 13, 14] [11, 12, 0, 13, 1, 2, 3, 4, 5, 6, 7, 8, 14, 9, 10] 0 7 rfl rfl rfl rfl rfl rfl (by decide) rfl (fun u => rfl) rfl hl.1 rfl (Nat.le_of_ble_eq_true rfl) dX7_oneTick_92 ⟨Nat.zero_le _, Nat.zero_le _⟩ (fun u H locs hw hP hD hS => ?_)
          obtain ⟨rub, rfl⟩ : ∃ z, z = u := ⟨_, rfl⟩
          try dsimp only at hw
          have hP : va_P D vwCl [(mo, .inr (7, [.ref m0, .ref m1, .ref m2, .ref m3, .ref m4, .ref m5, .ref m6, .ref m7, .ref m8, .ref m9, .ref m10, .ref m11, .ref m12, .ref m13, .ref m14, .ref m15, .ref m16, .ref m17, .ref m18, .ref m19, .int (iI aa), .ref m21])), (m0, .inl (cI, 19, .inl (ia se))), (m5, .inl (cI, 24, .inl (ia pl))), (m6, .inl (cI, 8, .inl (ia rub))), (m7, .inl (cI, 12, .inl (ia st))), (m8, .inl (cI, 12, .inl (ia sn))), (m9, .inl (cI, 200, .inl (ia ktc))), (m10, .inl (cI, 200, .inl (ia krc))), (m11, .inl (cI, 200, .inl (ia kmc))), (m12, .inl (cI, 200, .inl (ia ar))), (m13, .inl (cI, 200, .inl (ia am))), (m14, .inl (cI, 2, .inl (ia hpc))), (m15, .inl (cI, 200, .inl (ia (uI no ti nv)))), (m16, .inl (cI, 1200, .inl (ia ws))), (m3, .inl (cI, 200, .inl (ia ld)))] H := hP
          have hD : va_D A [(mo, .inr (7, [.ref m0, .ref m1, .ref m2, .ref m3, .ref m4, .ref m5, .ref m6, .ref m7, .ref m8, .ref m9, .ref m10, .ref m11, .ref m12, .ref m13, .ref m14, .ref m15, .ref m16, .ref m17, .ref m18, .ref m19, .int (iI aa), .ref m21])), (m0, .inl (cI, 19, .inl (ia se))), (m5, .inl (cI, 24, .inl (ia pl))), (m6, .inl (cI, 8, .inl (ia rub))), (m7, .inl (cI, 12, .inl (ia st))), (m8, .inl (cI, 12, .inl (ia sn))), (m9, .inl (cI, 200, .inl (ia ktc))), (m10, .inl (cI, 200, .inl (ia krc))), (m11, .inl (cI, 200, .inl (ia kmc))), (m12, .inl (cI, 200, .inl (ia ar))), (m13, .inl (cI, 200, .inl (ia am))), (m14, .inl (cI, 2, .inl (ia hpc))), (m15, .inl (cI, 200, .inl (ia (uI no ti nv)))), (m16, .inl (cI, 1200, .inl (ia ws))), (m3, .inl (cI, 200, .inl (ia ld)))] := hD
          obtain ⟨e92, f92⟩ := hw
          have hno1 : ∀ j, 0 ≤ j → j < ti + 1 → (uI no ti nv) j = tkNo (ld ti) lmv a j := by
            intro j q1 q2
            unfold tkNo
            rw [← eta, ← ewt, ← hnv]
            by_cases q : j = ti
            · rw [q, uI_s, uI_s]
            · rw [uI_n _ _ _ q, uI_n _ _ _ q]; exact hno j q1 (by omega)
          have hrd1 : rdF (uI no ti nv) (ti - se 5) (se 6) (ru 4) = tkRd se (ld ti) lmv a := by
            unfold tkRd
            rw [← eta, ← hru 4 (by decide) (by decide)]
            exact rdF_congr hno1 (by omega) (by omega)
          rw [uI_n _ _ _ (by decide), hrd1] at e92 f92
          have hrd2 := f92
          have hb4 : rub 4 = tkRd se (ld ti) lmv a := by rw [e92, uI_s]
          have hb6 : rub 6 = ru 6 := by rw [e92, uI_n _ _ _ (by decide), uI_n _ _ _ (by decide)]
          have hbj : ∀ j, j ≠ 4 → j ≠ 7 → rub j = ru j := fun j q1 q2 => by rw [e92, uI_n _ _ _ q1, uI_n _ _ _ q2]
          have hb7 : rub 7 = ru 7 + ld ti := by rw [e92, uI_n _ _ _ (by decide), uI_s]
          refine lv_aload_n hx hb dX7_oneTick_95 rfl (lv_at hl 0 rfl) ?_
          refine lv_iload_n hx hb dX7_oneTick_96 rfl (lv_at hl 2 rfl) ?_
          refine q_callVV (wr := [(m9, .inl (cI, 200, .inl (ia ktc))), (m10, .inl (cI, 200, .inl (ia krc))), (m11, .inl (cI, 200, .inl (ia kmc))), (m12, .inl (cI, 200, .inl (ia ar))), (m13, .inl (cI, 200, .inl (ia am))), (m14, .inl (cI, 2, .inl (ia hpc))), (m15, .inl (cI, 200, .inl (ia (uI no ti nv)))), (m16, .inl (cI, 1200, .inl (ia ws))), (m3, .inl (cI, 200, .inl (ia ld)))]) (wn := fun (u : (Int → Int) × (Int → Int) × (Int → Int)) => [(mo, .inr (7, [.ref m0, .ref m1, .ref m2, .ref m3, .ref m4, .ref m5, .ref m6, .ref m7, .ref m8, .ref m9, .ref m10, .ref m11, .ref m12, .ref m13, .ref m14, .ref m15, .ref m16, .ref m17, .ref m18, .ref m19, .int (iI aa), .ref m21])), (m0, .inl (cI, 19, .inl (ia se))), (m5, .inl (cI, 24, .inl (ia pl))), (m6, .inl (cI, 8, .inl (ia u.1))), (m7, .inl (cI, 12, .inl (ia u.2.1))), (m8, .inl (cI, 12, .inl (ia u.2.2))), (m9, .inl (cI, 200, .inl (ia ktc))), (m10, .inl (cI, 200, .inl (ia krc))), (m11, .inl (cI, 200, .inl (ia kmc))), (m12, .inl (cI, 200, .inl (ia ar))), (m13, .inl (cI, 200, .inl (ia am))), (m14, .inl (cI, 2, .inl (ia hpc))), (m15, .inl (cI, 200, .inl (ia (uI no ti nv)))), (m16, .inl (cI, 1200, .inl (ia ws))), (m3, .inl (cI, 200, .inl (ia ld)))]) (rest := []) [.int (iI ti)] ⟨hx, hb, hml, hown, hts⟩ (c_X7_change l D cI cZ cII mo m0 m5 m6 m7 m8 m1 m2 m3 m4 m9 m10 m11 m12 m13 m14 m15 m16 m17 m18 m19 aa m21 se pl rub st sn ti hB_se hB_pl hB_st hB_sn (by omega) (by assumption) (by rw [hb4]; exact hrd2) (by rw [hb6]; exact hr6)) (cwV 1 hts gX7_oneTick_X7_change rfl rfl rfl (by decide +kernel) (by rw [hRf, hRl]; exact ⟨Nat.le_of_ble_eq_true rfl, Nat.le_of_ble_eq_true rfl⟩)) hK hP hD hS hA hN [0, 1, 2, 3, 4, 5] [6, 7, 8, 9, 10, 11, 12, 13, 14] [9, 10, 11, 12, 13, 14, 0, 1, 2, 3, 4, 5, 6, 7, 8] 0 7 rfl rfl rfl rfl rfl rfl (by decide) rfl (fun u => rfl) rfl hl.1 rfl (Nat.le_of_ble_eq_true rfl) dX7_oneTick_97 ⟨Nat.zero_le _, Nat.zero_le _⟩ (fun u H locs hw hP hD hS => ?_)
          obtain ⟨ruc, stc, snc⟩ := u
          try dsimp only at hw
          have hP : va_P D vwCl [(mo, .inr (7, [.ref m0, .ref m1, .ref m2, .ref m3, .ref m4, .ref m5, .ref m6, .ref m7, .ref m8, .ref m9, .ref m10, .ref m11, .ref m12, .ref m13, .ref m14, .ref m15, .ref m16, .ref m17, .ref m18, .ref m19, .int (iI aa), .ref m21])), (m0, .inl (cI, 19, .inl (ia se))), (m5, .inl (cI, 24, .inl (ia pl))), (m6, .inl (cI, 8, .inl (ia ruc))), (m7, .inl (cI, 12, .inl (ia stc))), (m8, .inl (cI, 12, .inl (ia snc))), (m9, .inl (cI, 200, .inl (ia ktc))), (m10, .inl (cI, 200, .inl (ia krc))), (m11, .inl (cI, 200, .inl (ia kmc))), (m12, .inl (cI, 200, .inl (ia ar))), (m13, .inl (cI, 200, .inl (ia am))), (m14, .inl (cI, 2, .inl (ia hpc))), (m15, .inl (cI, 200, .inl (ia (uI no ti nv)))), (m16, .inl (cI, 1200, .inl (ia ws))), (m3, .inl (cI, 200, .inl (ia ld)))] H := hP
          have hD : va_D A [(mo, .inr (7, [.ref m0, .ref m1, .ref m2, .ref m3, .ref m4, .ref m5, .ref m6, .ref m7, .ref m8, .ref m9, .ref m10, .ref m11, .ref m12, .ref m13, .ref m14, .ref m15, .ref m16, .ref m17, .ref m18, .ref m19, .int (iI aa), .ref m21])), (m0, .inl (cI, 19, .inl (ia se))), (m5, .inl (cI, 24, .inl (ia pl))), (m6, .inl (cI, 8, .inl (ia ruc))), (m7, .inl (cI, 12, .inl (ia stc))), (m8, .inl (cI, 12, .inl (ia snc))), (m9, .inl (cI, 200, .inl (ia ktc))), (m10, .inl (cI, 200, .inl (ia krc))), (m11, .inl (cI, 200, .inl (ia kmc))), (m12, .inl (cI, 200, .inl (ia ar))), (m13, .inl (cI, 200, .inl (ia am))), (m14, .inl (cI, 2, .inl (ia hpc))), (m15, .inl (cI, 200, .inl (ia (uI no ti nv)))), (m16, .inl (cI, 1200, .inl (ia ws))), (m3, .inl (cI, 200, .inl (ia ld)))] := hD
          obtain ⟨e97, f97, g97, hB_stc, hB_snc⟩ := hw
          rw [hb4, hb6] at e97 f97 g97
          have hwa1 : bdF se pl (wbF se st (tkRd se (ld ti) lmv a)) ti = tkWa se pl (ld ti) lmv a := by unfold tkWa; rw [← eta, ← hst]
          rw [hwa1] at e97 f97 g97
          have hgo : glF se pl st (tkWa se pl (ld ti) lmv a) (ru 6) ti = tkGo se pl (ld ti) lmv a := by unfold tkGo; rw [← eta, ← hst, hru 6 (by decide) (by decide)]
          rw [hgo] at e97 f97 g97
          have hS1 : stc = tkS1 se pl (ld ti) lmv a := by rw [f97]; unfold tkS1; rw [← hst]
          have hG1 : AG stc snc (tkN1 se pl (ld ti) lmv a) := by rw [f97, g97]; unfold tkN1; rw [← hst, ← eta]; exact hag.change
          have hc0 : ruc 0 = ti := by rw [e97, uI_n _ _ _ (by decide), uI_n _ _ _ (by decide), hbj 0 (by decide) (by decide)]; exact eti.symm
          have hc4 : ruc 4 = tkRd se (ld ti) lmv a := by rw [e97, uI_n _ _ _ (by decide), uI_n _ _ _ (by decide)]; exact hb4
          have hc5 : ruc 5 = tkWa se pl (ld ti) lmv a := by rw [e97, uI_n _ _ _ (by decide), uI_s]
          have hc6 : ruc 6 = tkCh se pl (ld ti) lmv a := by rw [e97, uI_s]; unfold tkCh; rw [← eta, ← hst, hru 6 (by decide) (by decide)]
          have hc7 : ruc 7 = ru 7 + ld ti := by rw [e97, uI_n _ _ _ (by decide), uI_n _ _ _ (by decide)]; exact hb7
          have hc : ∀ j, j ≠ 4 → j ≠ 7 → j ≠ 5 → j ≠ 6 → ruc j = ru j := fun j q1 q2 q3 q4 => by rw [e97, uI_n _ _ _ q4, uI_n _ _ _ q3]; exact hbj j q1 q2
          obtain ⟨S2, hS2d⟩ : ∃ g : Int → Int, g = fl (PE stc snc 1 (ti - se 0)) 2 stc 0 12 := ⟨_, rfl⟩
          have hS2 : S2 = tkS2 se pl (ld ti) lmv a := by rw [hS2d, PE_ag hG1 (Or.inl rfl), hS1]; unfold tkS2; rw [← eta]
          have hG2 : AG S2 snc (tkN1 se pl (ld ti) lmv a) := by rw [hS2d]; exact hG1.ended (Or.inr rfl)
          have hB_S2 : BB 0 3 S2 := by rw [hS2d]; exact BB_fl hB_stc (by omega)
          obtain ⟨S3, hS3d⟩ : ∃ g : Int → Int, g = fl (PE S2 snc 3 (ti - se 1)) 0 S2 0 12 := ⟨_, rfl⟩
          have hS3 : S3 = tkS3 se pl (ld ti) lmv a := by rw [hS3d, PE_ag hG2 (Or.inr rfl), hS2]; unfold tkS3; rw [← eta]
          have hG3 : AG S3 snc (tkN1 se pl (ld ti) lmv a) := by rw [hS3d]; exact hG2.ended (Or.inl rfl)
          refine lv_iconst (v := iI 0) hx hb dX7_oneTick_100 rfl ?_
          refine lv_istore (lv' := [(4, .int (iI 0)), (0, .ref mo), (1, .int (iI lmv)), (2, .int (iI ti)), (3, .int (iI wtd))]) hx hb dX7_oneTick_101 hl (by decide) rfl (fun ls hl => ?_)
          refine lv_iconst (v := iI 0) hx hb dX7_oneTick_103 rfl ?_
          refine lv_istore (lv' := [(5, .int (iI 0)), (4, .int (iI 0)), (0, .ref mo), (1, .int (iI lmv)), (2, .int (iI ti)), (3, .int (iI wtd))]) hx hb dX7_oneTick_104 hl (by decide) rfl (fun ls hl => ?_)
          refine lv_iconst (v := iI 0) hx hb dX7_oneTick_106 rfl ?_
          refine lv_istore (lv' := [(6, .int (iI 0)), (5, .int (iI 0)), (4, .int (iI 0)), (0, .ref mo), (1, .int (iI lmv)), (2, .int (iI ti)), (3, .int (iI wtd))]) hx hb dX7_oneTick_107 hl (by decide) rfl (fun ls hl => ?_)
          have L109_2 : ∀ (n : Nat), ∀ (wk : Int) (bl : Int) (k : Int) (st1 : Int → Int), (hB_st1 : BB 0 3 st1) → (hk : 0 ≤ k ∧ k ≤ 12) → (hs : st1 = fl (PE stc snc 1 (ti - se 0)) 2 stc 0 k) → (hwk : wk = zl S2 2 k + zl S2 3 k) → (hbl : bl = sI (costF S2 (se 16) (se 17)) k) → (12 - k) < (n : Int) → ∀ (H : Heap) (locs : List Loc), va_P D vwCl [(mo, .inr (7, [.ref m0, .ref m1, .ref m2, .ref m3, .ref m4, .ref m5, .ref m6, .ref m7, .ref m8, .ref m9, .ref m10, .ref m11, .ref m12, .ref m13, .ref m14, .ref m15, .ref m16, .ref m17, .ref m18, .ref m19, .int (iI aa), .ref m21])), (m0, .inl (cI, 19, .inl (ia se))), (m5, .inl (cI, 24, .inl (ia pl))), (m6, .inl (cI, 8, .inl (ia ruc))), (m7, .inl (cI, 12, .inl (ia st1))), (m8, .inl (cI, 12, .inl (ia snc))), (m9, .inl (cI, 200, .inl (ia ktc))), (m10, .inl (cI, 200, .inl (ia krc))), (m11, .inl (cI, 200, .inl (ia kmc))), (m12, .inl (cI, 200, .inl (ia ar))), (m13, .inl (cI, 200, .inl (ia am))), (m14, .inl (cI, 2, .inl (ia hpc))), (m15, .inl (cI, 200, .inl (ia (uI no ti nv)))), (m16, .inl (cI, 1200, .inl (ia ws))), (m3, .inl (cI, 200, .inl (ia ld)))] H → va_D A [(mo, .inr (7, [.ref m0, .ref m1, .ref m2, .ref m3, .ref m4, .ref m5, .ref m6, .ref m7, .ref m8, .ref m9, .ref m10, .ref m11, .ref m12, .ref m13, .ref m14, .ref m15, .ref m16, .ref m17, .ref m18, .ref m19, .int (iI aa), .ref m21])), (m0, .inl (cI, 19, .inl (ia se))), (m5, .inl (cI, 24, .inl (ia pl))), (m6, .inl (cI, 8, .inl (ia ruc))), (m7, .inl (cI, 12, .inl (ia st1))), (m8, .inl (cI, 12, .inl (ia snc))), (m9, .inl (cI, 200, .inl (ia ktc))), (m10, .inl (cI, 200, .inl (ia krc))), (m11, .inl (cI, 200, .inl (ia kmc))), (m12, .inl (cI, 200, .inl (ia ar))), (m13, .inl (cI, 200, .inl (ia am))), (m14, .inl (cI, 2, .inl (ia hpc))), (m15, .inl (cI, 200, .inl (ia (uI no ti nv)))), (m16, .inl (cI, 1200, .inl (ia ws))), (m3, .inl (cI, 200, .inl (ia ld)))] → va_S A s.heap H locs → ∀ ls : Array Slot, lv_has ls 8 [(0, .ref mo), (1, .int (iI lmv)), (2, .int (iI ti)), (3, .int (iI wtd)), (4, .int (iI wk)), (5, .int (iI bl)), (6, .int (iI k))] → W p l e R s m args below meth c H locs 0 0 Q (F0 m 109 ls []) := by
            intro n
            induction n with
            | zero => intro wk bl k st1 hB_st1 hk hs hwk hbl hm; exact absurd hm (by omega)
            | succ n ih =>
              intro wk bl k st1 hB_st1 hk hs hwk hbl hm H locs hP hD hS ls hl
              have e0 : st1 k = stc k := by rw [hs]; exact fl_out (by omega)
              have hbs := hB_snc k
              have hbt := hB_stc k
              refine lv_iload hx hb dX7_oneTick_109 (lv_at hl 6 rfl) ?_
              refine lv_bipush (v := iI 12) hx hb dX7_oneTick_111 (by decide +kernel) ?_
              refine q_icmp_ge (tgt := 244) hx hb dX7_oneTick_113 (by decide) ⟨by omega, by omega⟩ ⟨by decide, by decide⟩ (fun c113 => ?_) (fun c113 => ?_)
              ·
                have ek : k = 12 := by omega
                have est : st1 = S2 := by rw [hs, hS2d, ek]
                have hcap := cap_b (st := S2) hse
                have ewk : wk * se 2 = tkCap se pl (ld ti) lmv a := by rw [hwk, ek]; unfold tkCap; rw [← hS2]; rfl
                have hcp2 : 0 ≤ tkCap se pl (ld ti) lmv a ∧ tkCap se pl (ld ti) lmv a ≤ 240 := by unfold tkCap; rw [← hS2]; exact hcap
                have hbl2 : bl = costS S2 (se 16) (se 17) := by rw [hbl, ek]; rfl
                refine lv_aload_n hx hb dX7_oneTick_244 rfl (lv_at hl 0 rfl) ?_
                refine lv_iload hx hb dX7_oneTick_245 (lv_at hl 4 rfl) ?_
                refine lv_aload_n hx hb dX7_oneTick_247 rfl (lv_at hl 0 rfl) ?_
                refine va_get (D := D) (ci := 7) (v := .ref m0) (C := RX7) (T := TX7) (N := 22) hx hb hts in_X7_oneTick_X7 hown hK hP 0 rfl rfl 0 (by decide) (hts _ lk_X7_oneTick_9) (fun _ h9 => h9) rfl dX7_oneTick_248 ?_
                refine lv_iconst (v := iI 2) hx hb dX7_oneTick_251 rfl ?_
                refine q_iald hx hb hK hP 1 0 rfl rfl (by omega) (by omega) (by decide) dX7_oneTick_252 ?_
                have hb252 := hB_se 2
                refine q_imul hx hb dX7_oneTick_253 ?_
                refine q_top (b := (tkCap se pl (ld ti) lmv a)) (by exact ewk) ?_
                refine q_callVI (wr := [(m0, .inl (cI, 19, .inl (ia se))), (m5, .inl (cI, 24, .inl (ia pl))), (m6, .inl (cI, 8, .inl (ia ruc))), (m7, .inl (cI, 12, .inl (ia st1))), (m8, .inl (cI, 12, .inl (ia snc))), (m9, .inl (cI, 200, .inl (ia ktc))), (m10, .inl (cI, 200, .inl (ia krc))), (m12, .inl (cI, 200, .inl (ia ar))), (m13, .inl (cI, 200, .inl (ia am))), (m15, .inl (cI, 200, .inl (ia (uI no ti nv)))), (m16, .inl (cI, 1200, .inl (ia ws))), (m3, .inl (cI, 200, .inl (ia ld)))]) (wn := fun (u : (Int → Int)) => [(mo, .inr (7, [.ref m0, .ref m1, .ref m2, .ref m3, .ref m4, .ref m5, .ref m6, .ref m7, .ref m8, .ref m9, .ref m10, .ref m11, .ref m12, .ref m13, .ref m14, .ref m15, .ref m16, .ref m17, .ref m18, .ref m19, .int (iI aa), .ref m21])), (m0, .inl (cI, 19, .inl (ia se))), (m5, .inl (cI, 24, .inl (ia pl))), (m6, .inl (cI, 8, .inl (ia ruc))), (m7, .inl (cI, 12, .inl (ia st1))), (m8, .inl (cI, 12, .inl (ia snc))), (m9, .inl (cI, 200, .inl (ia ktc))), (m10, .inl (cI, 200, .inl (ia krc))), (m11, .inl (cI, 200, .inl (ia u))), (m12, .inl (cI, 200, .inl (ia ar))), (m13, .inl (cI, 200, .inl (ia am))), (m14, .inl (cI, 2, .inl (ia hpc))), (m15, .inl (cI, 200, .inl (ia (uI no ti nv)))), (m16, .inl (cI, 1200, .inl (ia ws))), (m3, .inl (cI, 200, .inl (ia ld)))]) (rest := []) [.int (iI (tkCap se pl (ld ti) lmv a))] ⟨hx, hb, hml, hown, hts⟩ (c_X7_serve l D cI cZ cII mo m11 m14 m0 m1 m2 m3 m4 m5 m6 m7 m8 m9 m10 m12 m13 m15 m16 m17 m18 m19 aa m21 kmc hpc (tkCap se pl (ld ti) lmv a) (ktc) (krc) hB_kmc (by omega) (by omega)) (cwV 1 hts gX7_oneTick_X7_serve rfl rfl rfl (by decide +kernel) (by rw [hRf, hRl]; exact ⟨Nat.le_of_ble_eq_true rfl, Nat.le_of_ble_eq_true rfl⟩)) hK hP hD hS hA hN [0, 8, 11] [1, 2, 3, 4, 5, 6, 7, 9, 10, 12, 13, 14] [12, 0, 1, 2, 3, 4, 5, 6, 13, 7, 8, 14, 9, 10, 11] 0 7 rfl rfl rfl rfl rfl rfl (by decide) rfl (fun u => rfl) rfl hl.1 rfl (Nat.le_of_ble_eq_true rfl) dX7_oneTick_254 ⟨Nat.zero_le _, Nat.zero_le _⟩ (fun z u H locs hw hP hD hS => ?_)
                obtain ⟨kmd, rfl⟩ : ∃ z, z = u := ⟨_, rfl⟩
                try dsimp only at hw
                have hP : va_P D vwCl [(mo, .inr (7, [.ref m0, .ref m1, .ref m2, .ref m3, .ref m4, .ref m5, .ref m6, .ref m7, .ref m8, .ref m9, .ref m10, .ref m11, .ref m12, .ref m13, .ref m14, .ref m15, .ref m16, .ref m17, .ref m18, .ref m19, .int (iI aa), .ref m21])), (m0, .inl (cI, 19, .inl (ia se))), (m5, .inl (cI, 24, .inl (ia pl))), (m6, .inl (cI, 8, .inl (ia ruc))), (m7, .inl (cI, 12, .inl (ia st1))), (m8, .inl (cI, 12, .inl (ia snc))), (m9, .inl (cI, 200, .inl (ia ktc))), (m10, .inl (cI, 200, .inl (ia krc))), (m11, .inl (cI, 200, .inl (ia kmd))), (m12, .inl (cI, 200, .inl (ia ar))), (m13, .inl (cI, 200, .inl (ia am))), (m14, .inl (cI, 2, .inl (ia hpc))), (m15, .inl (cI, 200, .inl (ia (uI no ti nv)))), (m16, .inl (cI, 1200, .inl (ia ws))), (m3, .inl (cI, 200, .inl (ia ld)))] H := hP
                have hD : va_D A [(mo, .inr (7, [.ref m0, .ref m1, .ref m2, .ref m3, .ref m4, .ref m5, .ref m6, .ref m7, .ref m8, .ref m9, .ref m10, .ref m11, .ref m12, .ref m13, .ref m14, .ref m15, .ref m16, .ref m17, .ref m18, .ref m19, .int (iI aa), .ref m21])), (m0, .inl (cI, 19, .inl (ia se))), (m5, .inl (cI, 24, .inl (ia pl))), (m6, .inl (cI, 8, .inl (ia ruc))), (m7, .inl (cI, 12, .inl (ia st1))), (m8, .inl (cI, 12, .inl (ia snc))), (m9, .inl (cI, 200, .inl (ia ktc))), (m10, .inl (cI, 200, .inl (ia krc))), (m11, .inl (cI, 200, .inl (ia kmd))), (m12, .inl (cI, 200, .inl (ia ar))), (m13, .inl (cI, 200, .inl (ia am))), (m14, .inl (cI, 2, .inl (ia hpc))), (m15, .inl (cI, 200, .inl (ia (uI no ti nv)))), (m16, .inl (cI, 1200, .inl (ia ws))), (m3, .inl (cI, 200, .inl (ia ld)))] := hD
                obtain ⟨z_3, ez⟩ : ∃ y : Int, y = z := ⟨_, rfl⟩
                rw [← ez] at hw ⊢
                clear ez
                obtain ⟨w254, e254, hB_kmd⟩ := hw
                rw [hW1] at w254 e254
                have hsr := srw_srv _ hW1p (tkCap se pl (ld ti) lmv a) hcp2.1
                have hDo : z_3 = tkDo se pl (ld ti) lmv a := by rw [w254, hsr.2]; rfl
                refine lv_istore (lv' := [(6, .int (iI z_3)), (0, .ref mo), (1, .int (iI lmv)), (2, .int (iI ti)), (3, .int (iI wtd)), (4, .int (iI wk)), (5, .int (iI bl))]) hx hb dX7_oneTick_257 hl (by decide) rfl (fun ls hl => ?_)
                refine lv_iconst (v := iI 0) hx hb dX7_oneTick_259 rfl ?_
                refine lv_istore (lv' := [(7, .int (iI 0)), (6, .int (iI z_3)), (0, .ref mo), (1, .int (iI lmv)), (2, .int (iI ti)), (3, .int (iI wtd)), (4, .int (iI wk)), (5, .int (iI bl))]) hx hb dX7_oneTick_260 hl (by decide) rfl (fun ls hl => ?_)
                have L262_3 : ∀ (n : Nat), ∀ (k : Int) (st3 : Int → Int), (hB_st3 : BB 0 3 st3) → (hk3 : 0 ≤ k ∧ k ≤ 12) → (hs3 : st3 = fl (PE S2 snc 3 (ti - se 1)) 0 S2 0 k) → (12 - k) < (n : Int) → ∀ (H : Heap) (locs : List Loc), va_P D vwCl [(mo, .inr (7, [.ref m0, .ref m1, .ref m2, .ref m3, .ref m4, .ref m5, .ref m6, .ref m7, .ref m8, .ref m9, .ref m10, .ref m11, .ref m12, .ref m13, .ref m14, .ref m15, .ref m16, .ref m17, .ref m18, .ref m19, .int (iI aa), .ref m21])), (m0, .inl (cI, 19, .inl (ia se))), (m5, .inl (cI, 24, .inl (ia pl))), (m6, .inl (cI, 8, .inl (ia ruc))), (m7, .inl (cI, 12, .inl (ia st3))), (m8, .inl (cI, 12, .inl (ia snc))), (m9, .inl (cI, 200, .inl (ia ktc))), (m10, .inl (cI, 200, .inl (ia krc))), (m11, .inl (cI, 200, .inl (ia kmd))), (m12, .inl (cI, 200, .inl (ia ar))), (m13, .inl (cI, 200, .inl (ia am))), (m14, .inl (cI, 2, .inl (ia hpc))), (m15, .inl (cI, 200, .inl (ia (uI no ti nv)))), (m16, .inl (cI, 1200, .inl (ia ws))), (m3, .inl (cI, 200, .inl (ia ld)))] H → va_D A [(mo, .inr (7, [.ref m0, .ref m1, .ref m2, .ref m3, .ref m4, .ref m5, .ref m6, .ref m7, .ref m8, .ref m9, .ref m10, .ref m11, .ref m12, .ref m13, .ref m14, .ref m15, .ref m16, .ref m17, .ref m18, .ref m19, .int (iI aa), .ref m21])), (m0, .inl (cI, 19, .inl (ia se))), (m5, .inl (cI, 24, .inl (ia pl))), (m6, .inl (cI, 8, .inl (ia ruc))), (m7, .inl (cI, 12, .inl (ia st3))), (m8, .inl (cI, 12, .inl (ia snc))), (m9, .inl (cI, 200, .inl (ia ktc))), (m10, .inl (cI, 200, .inl (ia krc))), (m11, .inl (cI, 200, .inl (ia kmd))), (m12, .inl (cI, 200, .inl (ia ar))), (m13, .inl (cI, 200, .inl (ia am))), (m14, .inl (cI, 2, .inl (ia hpc))), (m15, .inl (cI, 200, .inl (ia (uI no ti nv)))), (m16, .inl (cI, 1200, .inl (ia ws))), (m3, .inl (cI, 200, .inl (ia ld)))] → va_S A s.heap H locs → ∀ ls : Array Slot, lv_has ls 8 [(0, .ref mo), (1, .int (iI lmv)), (2, .int (iI ti)), (3, .int (iI wtd)), (4, .int (iI wk)), (5, .int (iI bl)), (6, .int (iI z_3)), (7, .int (iI k))] → W p l e R s m args below meth c H locs 0 0 Q (F0 m 262 ls []) := by
                  intro n
                  induction n with
                  | zero => intro k st3 hB_st3 hk3 hs3 hm; exact absurd hm (by omega)
                  | succ n ih =>
                    intro k st3 hB_st3 hk3 hs3 hm H locs hP hD hS ls hl
                    have e3 : st3 k = S2 k := by rw [hs3]; exact fl_out (by omega)
                    have hbs3 := hB_snc k
                    have hbt3 := hB_S2 k
                    refine lv_iload hx hb dX7_oneTick_262 (lv_at hl 7 rfl) ?_
                    refine lv_bipush (v := iI 12) hx hb dX7_oneTick_264 (by decide +kernel) ?_
                    refine q_icmp_ge (tgt := 322) hx hb dX7_oneTick_266 (by decide) ⟨by omega, by omega⟩ ⟨by decide, by decide⟩ (fun c266 => ?_) (fun c266 => ?_)
                    ·
                      have ek3 : st3 = S3 := by rw [hs3, hS3d, show k = 12 by omega]
                      refine lv_aload_n hx hb dX7_oneTick_322 rfl (lv_at hl 0 rfl) ?_
                      refine lv_iload_n hx hb dX7_oneTick_323 rfl (lv_at hl 2 rfl) ?_
                      refine q_callVI (wr := [(m5, .inl (cI, 24, .inl (ia pl))), (m6, .inl (cI, 8, .inl (ia ruc))), (m7, .inl (cI, 12, .inl (ia st3))), (m8, .inl (cI, 12, .inl (ia snc))), (m15, .inl (cI, 200, .inl (ia (uI no ti nv)))), (m16, .inl (cI, 1200, .inl (ia ws))), (m3, .inl (cI, 200, .inl (ia ld)))]) (wn := fun (u : (Int → Int) × (Int → Int) × (Int → Int) × (Int → Int) × (Int → Int) × (Int → Int)) => [(mo, .inr (7, [.ref m0, .ref m1, .ref m2, .ref m3, .ref m4, .ref m5, .ref m6, .ref m7, .ref m8, .ref m9, .ref m10, .ref m11, .ref m12, .ref m13, .ref m14, .ref m15, .ref m16, .ref m17, .ref m18, .ref m19, .int (iI aa), .ref m21])), (m0, .inl (cI, 19, .inl (ia se))), (m5, .inl (cI, 24, .inl (ia pl))), (m6, .inl (cI, 8, .inl (ia ruc))), (m7, .inl (cI, 12, .inl (ia st3))), (m8, .inl (cI, 12, .inl (ia snc))), (m9, .inl (cI, 200, .inl (ia u.1))), (m10, .inl (cI, 200, .inl (ia u.2.1))), (m11, .inl (cI, 200, .inl (ia u.2.2.1))), (m12, .inl (cI, 200, .inl (ia u.2.2.2.1))), (m13, .inl (cI, 200, .inl (ia u.2.2.2.2.1))), (m14, .inl (cI, 2, .inl (ia u.2.2.2.2.2))), (m15, .inl (cI, 200, .inl (ia (uI no ti nv)))), (m16, .inl (cI, 1200, .inl (ia ws))), (m3, .inl (cI, 200, .inl (ia ld)))]) (rest := []) [.int (iI ti)] ⟨hx, hb, hml, hown, hts⟩ (c_X7_goAway l D cI cZ cII mo m0 m9 m10 m11 m12 m13 m14 m1 m2 m3 m4 m5 m6 m7 m8 m15 m16 m17 m18 m19 aa m21 se ktc krc kmd ar am hpc ti hB_se hB_ktc hB_krc hB_kmd hB_ar hB_am (by omega) (by assumption) (by omega)) (cwV 1 hts gX7_oneTick_X7_goAway rfl rfl rfl (by decide +kernel) (by rw [hRf, hRl]; exact ⟨Nat.le_of_ble_eq_true rfl, Nat.le_of_ble_eq_true rfl⟩)) hK hP hD hS hA hN [0, 1, 6, 7, 8, 9, 10, 11] [2, 3, 4, 5, 12, 13, 14] [7, 8, 0, 1, 2, 3, 9, 10, 11, 12, 13, 14, 4, 5, 6] 0 7 rfl rfl rfl rfl rfl rfl (by decide) rfl (fun u => rfl) rfl hl.1 rfl (Nat.le_of_ble_eq_true rfl) dX7_oneTick_324 ⟨Nat.zero_le _, Nat.zero_le _⟩ (fun z u H locs hw hP hD hS => ?_)
                      obtain ⟨kt_4, kr_5, km_6, ar_7, am_8, hp_9⟩ := u
                      try dsimp only at hw
                      have hP : va_P D vwCl [(mo, .inr (7, [.ref m0, .ref m1, .ref m2, .ref m3, .ref m4, .ref m5, .ref m6, .ref m7, .ref m8, .ref m9, .ref m10, .ref m11, .ref m12, .ref m13, .ref m14, .ref m15, .ref m16, .ref m17, .ref m18, .ref m19, .int (iI aa), .ref m21])), (m0, .inl (cI, 19, .inl (ia se))), (m5, .inl (cI, 24, .inl (ia pl))), (m6, .inl (cI, 8, .inl (ia ruc))), (m7, .inl (cI, 12, .inl (ia st3))), (m8, .inl (cI, 12, .inl (ia snc))), (m9, .inl (cI, 200, .inl (ia kt_4))), (m10, .inl (cI, 200, .inl (ia kr_5))), (m11, .inl (cI, 200, .inl (ia km_6))), (m12, .inl (cI, 200, .inl (ia ar_7))), (m13, .inl (cI, 200, .inl (ia am_8))), (m14, .inl (cI, 2, .inl (ia hp_9))), (m15, .inl (cI, 200, .inl (ia (uI no ti nv)))), (m16, .inl (cI, 1200, .inl (ia ws))), (m3, .inl (cI, 200, .inl (ia ld)))] H := hP
                      have hD : va_D A [(mo, .inr (7, [.ref m0, .ref m1, .ref m2, .ref m3, .ref m4, .ref m5, .ref m6, .ref m7, .ref m8, .ref m9, .ref m10, .ref m11, .ref m12, .ref m13, .ref m14, .ref m15, .ref m16, .ref m17, .ref m18, .ref m19, .int (iI aa), .ref m21])), (m0, .inl (cI, 19, .inl (ia se))), (m5, .inl (cI, 24, .inl (ia pl))), (m6, .inl (cI, 8, .inl (ia ruc))), (m7, .inl (cI, 12, .inl (ia st3))), (m8, .inl (cI, 12, .inl (ia snc))), (m9, .inl (cI, 200, .inl (ia kt_4))), (m10, .inl (cI, 200, .inl (ia kr_5))), (m11, .inl (cI, 200, .inl (ia km_6))), (m12, .inl (cI, 200, .inl (ia ar_7))), (m13, .inl (cI, 200, .inl (ia am_8))), (m14, .inl (cI, 2, .inl (ia hp_9))), (m15, .inl (cI, 200, .inl (ia (uI no ti nv)))), (m16, .inl (cI, 1200, .inl (ia ws))), (m3, .inl (cI, 200, .inl (ia ld)))] := hD
                      obtain ⟨z_10, ez⟩ : ∃ y : Int, y = z := ⟨_, rfl⟩
                      rw [← ez] at hw ⊢
                      clear ez
                      obtain ⟨w324, e324, f324, g324, hB_kt_4, hB_kr_5, hB_km_6, hB_ar_7, hB_am_8⟩ := hw
                      have hsk := srv_ok _ hW1p hW1s hW1b (tkCap se pl (ld ti) lmv a) hcp2.1
                      have hlv : lvF ti (se 3) (se 4) (hL ktc krc kmd (hpc 0)) = tkLv se pl (ld ti) lmv a := by
                        rw [← lvF_nz _ _ _ _ (nneg_hL hpc0.1 hB_kmd), e254, hsr.1, lvF_lv _ _ _ _ hsk.1 hsk.2.1, eta]; rfl
                      rw [hlv] at w324 e324 f324
                      refine lv_istore (lv' := [(7, .int (iI z_10)), (0, .ref mo), (1, .int (iI lmv)), (2, .int (iI ti)), (3, .int (iI wtd)), (4, .int (iI wk)), (5, .int (iI bl)), (6, .int (iI z_3))]) hx hb dX7_oneTick_327 hl (by decide) rfl (fun ls hl => ?_)
                      refine lv_iload hx hb dX7_oneTick_329 (lv_at hl 6 rfl) ?_
                      refine lv_iload hx hb dX7_oneTick_331 (lv_at hl 0 rfl) ?_
                      refine lv_aload_n hx hb dX7_oneTick_333 rfl (lv_at hl 1 rfl) ?_
                      refine va_get (D := D) (ci := 7) (v := .ref m0) (C := RX7) (T := TX7) (N := 22) hx hb hts in_X7_oneTick_X7 hown hK hP 0 rfl rfl 0 (by decide) (hts _ lk_X7_oneTick_9) (fun _ h9 => h9) rfl dX7_oneTick_334 ?_
                      refine lv_bipush (v := iI 18) hx hb dX7_oneTick_337 (by decide +kernel) ?_
                      refine q_iald hx hb hK hP 1 0 rfl rfl (by omega) (by omega) (by decide) dX7_oneTick_339 ?_
                      have hb339 := hB_se 18
                      refine q_imul hx hb dX7_oneTick_340 ?_
                      refine q_iadd hx hb dX7_oneTick_341 ?_
                      refine lv_istore (lv' := [(5, .int (iI (bl + (z_10 * (se 18))))), (7, .int (iI z_10)), (0, .ref mo), (1, .int (iI lmv)), (2, .int (iI ti)), (3, .int (iI wtd)), (4, .int (iI wk)), (6, .int (iI z_3))]) hx hb dX7_oneTick_342 hl (by decide) rfl (fun ls hl => ?_)
                      refine lv_aload_n hx hb dX7_oneTick_344 rfl (lv_at hl 2 rfl) ?_
                      refine va_get (D := D) (ci := 7) (v := .ref m6) (C := RX7) (T := TX7) (N := 22) hx hb hts in_X7_oneTick_X7 hown hK hP 0 rfl rfl 6 (by decide) (hts _ lk_X7_oneTick_1) (fun _ h9 => h9) rfl dX7_oneTick_345 ?_
                      refine lv_iconst (v := iI 1) hx hb dX7_oneTick_348 rfl ?_
                      refine lv_dup2_11 hx hb dX7_oneTick_349 rfl rfl ?_
                      refine q_iald hx hb hK hP 3 0 rfl rfl (by omega) (by omega) (by decide) dX7_oneTick_350 ?_
                      refine lv_iload hx hb dX7_oneTick_351 (lv_at hl 7 rfl) ?_
                      refine q_iadd hx hb dX7_oneTick_353 ?_
                      refine q_iast hx hb hK hP hD hS 3 0 rfl rfl (by omega) (by omega) (by decide) dX7_oneTick_354 (fun H locs hP hD hS => ?_)
                      have hP : va_P D vwCl [(mo, .inr (7, [.ref m0, .ref m1, .ref m2, .ref m3, .ref m4, .ref m5, .ref m6, .ref m7, .ref m8, .ref m9, .ref m10, .ref m11, .ref m12, .ref m13, .ref m14, .ref m15, .ref m16, .ref m17, .ref m18, .ref m19, .int (iI aa), .ref m21])), (m0, .inl (cI, 19, .inl (ia se))), (m5, .inl (cI, 24, .inl (ia pl))), (m6, .inl (cI, 8, .inl (ia (uI ruc 1 ((ruc 1) + z_3))))), (m7, .inl (cI, 12, .inl (ia st3))), (m8, .inl (cI, 12, .inl (ia snc))), (m9, .inl (cI, 200, .inl (ia kt_4))), (m10, .inl (cI, 200, .inl (ia kr_5))), (m11, .inl (cI, 200, .inl (ia km_6))), (m12, .inl (cI, 200, .inl (ia ar_7))), (m13, .inl (cI, 200, .inl (ia am_8))), (m14, .inl (cI, 2, .inl (ia hp_9))), (m15, .inl (cI, 200, .inl (ia (uI no ti nv)))), (m16, .inl (cI, 1200, .inl (ia ws))), (m3, .inl (cI, 200, .inl (ia ld)))] H := hP
                      have hD : va_D A [(mo, .inr (7, [.ref m0, .ref m1, .ref m2, .ref m3, .ref m4, .ref m5, .ref m6, .ref m7, .ref m8, .ref m9, .ref m10, .ref m11, .ref m12, .ref m13, .ref m14, .ref m15, .ref m16, .ref m17, .ref m18, .ref m19, .int (iI aa), .ref m21])), (m0, .inl (cI, 19, .inl (ia se))), (m5, .inl (cI, 24, .inl (ia pl))), (m6, .inl (cI, 8, .inl (ia (uI ruc 1 ((ruc 1) + z_3))))), (m7, .inl (cI, 12, .inl (ia st3))), (m8, .inl (cI, 12, .inl (ia snc))), (m9, .inl (cI, 200, .inl (ia kt_4))), (m10, .inl (cI, 200, .inl (ia kr_5))), (m11, .inl (cI, 200, .inl (ia km_6))), (m12, .inl (cI, 200, .inl (ia ar_7))), (m13, .inl (cI, 200, .inl (ia am_8))), (m14, .inl (cI, 2, .inl (ia hp_9))), (m15, .inl (cI, 200, .inl (ia (uI no ti nv)))), (m16, .inl (cI, 1200, .inl (ia ws))), (m3, .inl (cI, 200, .inl (ia ld)))] := hD
                      refine lv_aload_n hx hb dX7_oneTick_355 rfl (lv_at hl 2 rfl) ?_
                      refine va_get (D := D) (ci := 7) (v := .ref m6) (C := RX7) (T := TX7) (N := 22) hx hb hts in_X7_oneTick_X7 hown hK hP 0 rfl rfl 6 (by decide) (hts _ lk_X7_oneTick_1) (fun _ h9 => h9) rfl dX7_oneTick_356 ?_
                      refine lv_iconst (v := iI 2) hx hb dX7_oneTick_359 rfl ?_
                      refine lv_dup2_11 hx hb dX7_oneTick_360 rfl rfl ?_
                      refine q_iald hx hb hK hP 3 0 rfl rfl (by omega) (by omega) (by decide) dX7_oneTick_361 ?_
                      refine q_top (b := (ruc 2)) (by exact uI_n _ _ _ (by decide)) ?_
                      refine lv_iload hx hb dX7_oneTick_362 (lv_at hl 1 rfl) ?_
                      refine q_iadd hx hb dX7_oneTick_364 ?_
                      refine q_iast hx hb hK hP hD hS 3 0 rfl rfl (by omega) (by omega) (by decide) dX7_oneTick_365 (fun H locs hP hD hS => ?_)
                      have hP : va_P D vwCl [(mo, .inr (7, [.ref m0, .ref m1, .ref m2, .ref m3, .ref m4, .ref m5, .ref m6, .ref m7, .ref m8, .ref m9, .ref m10, .ref m11, .ref m12, .ref m13, .ref m14, .ref m15, .ref m16, .ref m17, .ref m18, .ref m19, .int (iI aa), .ref m21])), (m0, .inl (cI, 19, .inl (ia se))), (m5, .inl (cI, 24, .inl (ia pl))), (m6, .inl (cI, 8, .inl (ia (uI (uI ruc 1 ((ruc 1) + z_3)) 2 ((ruc 2) + z_10))))), (m7, .inl (cI, 12, .inl (ia st3))), (m8, .inl (cI, 12, .inl (ia snc))), (m9, .inl (cI, 200, .inl (ia kt_4))), (m10, .inl (cI, 200, .inl (ia kr_5))), (m11, .inl (cI, 200, .inl (ia km_6))), (m12, .inl (cI, 200, .inl (ia ar_7))), (m13, .inl (cI, 200, .inl (ia am_8))), (m14, .inl (cI, 2, .inl (ia hp_9))), (m15, .inl (cI, 200, .inl (ia (uI no ti nv)))), (m16, .inl (cI, 1200, .inl (ia ws))), (m3, .inl (cI, 200, .inl (ia ld)))] H := hP
                      have hD : va_D A [(mo, .inr (7, [.ref m0, .ref m1, .ref m2, .ref m3, .ref m4, .ref m5, .ref m6, .ref m7, .ref m8, .ref m9, .ref m10, .ref m11, .ref m12, .ref m13, .ref m14, .ref m15, .ref m16, .ref m17, .ref m18, .ref m19, .int (iI aa), .ref m21])), (m0, .inl (cI, 19, .inl (ia se))), (m5, .inl (cI, 24, .inl (ia pl))), (m6, .inl (cI, 8, .inl (ia (uI (uI ruc 1 ((ruc 1) + z_3)) 2 ((ruc 2) + z_10))))), (m7, .inl (cI, 12, .inl (ia st3))), (m8, .inl (cI, 12, .inl (ia snc))), (m9, .inl (cI, 200, .inl (ia kt_4))), (m10, .inl (cI, 200, .inl (ia kr_5))), (m11, .inl (cI, 200, .inl (ia km_6))), (m12, .inl (cI, 200, .inl (ia ar_7))), (m13, .inl (cI, 200, .inl (ia am_8))), (m14, .inl (cI, 2, .inl (ia hp_9))), (m15, .inl (cI, 200, .inl (ia (uI no ti nv)))), (m16, .inl (cI, 1200, .inl (ia ws))), (m3, .inl (cI, 200, .inl (ia ld)))] := hD
                      refine lv_aload_n hx hb dX7_oneTick_366 rfl (lv_at hl 2 rfl) ?_
                      refine va_get (D := D) (ci := 7) (v := .ref m6) (C := RX7) (T := TX7) (N := 22) hx hb hts in_X7_oneTick_X7 hown hK hP 0 rfl rfl 6 (by decide) (hts _ lk_X7_oneTick_1) (fun _ h9 => h9) rfl dX7_oneTick_367 ?_
                      refine lv_iconst (v := iI 3) hx hb dX7_oneTick_370 rfl ?_
                      refine lv_dup2_11 hx hb dX7_oneTick_371 rfl rfl ?_
                      refine q_iald hx hb hK hP 3 0 rfl rfl (by omega) (by omega) (by decide) dX7_oneTick_372 ?_
                      refine q_top (b := (ruc 3)) (by rw [uI_n _ _ _ (by decide), uI_n _ _ _ (by decide)]) ?_
                      refine lv_iload hx hb dX7_oneTick_373 (lv_at hl 0 rfl) ?_
                      refine q_iadd hx hb dX7_oneTick_375 ?_
                      refine q_iast hx hb hK hP hD hS 3 0 rfl rfl (by omega) (by omega) (by decide) dX7_oneTick_376 (fun H locs hP hD hS => ?_)
                      have hP : va_P D vwCl [(mo, .inr (7, [.ref m0, .ref m1, .ref m2, .ref m3, .ref m4, .ref m5, .ref m6, .ref m7, .ref m8, .ref m9, .ref m10, .ref m11, .ref m12, .ref m13, .ref m14, .ref m15, .ref m16, .ref m17, .ref m18, .ref m19, .int (iI aa), .ref m21])), (m0, .inl (cI, 19, .inl (ia se))), (m5, .inl (cI, 24, .inl (ia pl))), (m6, .inl (cI, 8, .inl (ia (uI (uI (uI ruc 1 ((ruc 1) + z_3)) 2 ((ruc 2) + z_10)) 3 ((ruc 3) + (bl + (z_10 * (se 18)))))))), (m7, .inl (cI, 12, .inl (ia st3))), (m8, .inl (cI, 12, .inl (ia snc))), (m9, .inl (cI, 200, .inl (ia kt_4))), (m10, .inl (cI, 200, .inl (ia kr_5))), (m11, .inl (cI, 200, .inl (ia km_6))), (m12, .inl (cI, 200, .inl (ia ar_7))), (m13, .inl (cI, 200, .inl (ia am_8))), (m14, .inl (cI, 2, .inl (ia hp_9))), (m15, .inl (cI, 200, .inl (ia (uI no ti nv)))), (m16, .inl (cI, 1200, .inl (ia ws))), (m3, .inl (cI, 200, .inl (ia ld)))] H := hP
                      have hD : va_D A [(mo, .inr (7, [.ref m0, .ref m1, .ref m2, .ref m3, .ref m4, .ref m5, .ref m6, .ref m7, .ref m8, .ref m9, .ref m10, .ref m11, .ref m12, .ref m13, .ref m14, .ref m15, .ref m16, .ref m17, .ref m18, .ref m19, .int (iI aa), .ref m21])), (m0, .inl (cI, 19, .inl (ia se))), (m5, .inl (cI, 24, .inl (ia pl))), (m6, .inl (cI, 8, .inl (ia (uI (uI (uI ruc 1 ((ruc 1) + z_3)) 2 ((ruc 2) + z_10)) 3 ((ruc 3) + (bl + (z_10 * (se 18)))))))), (m7, .inl (cI, 12, .inl (ia st3))), (m8, .inl (cI, 12, .inl (ia snc))), (m9, .inl (cI, 200, .inl (ia kt_4))), (m10, .inl (cI, 200, .inl (ia kr_5))), (m11, .inl (cI, 200, .inl (ia km_6))), (m12, .inl (cI, 200, .inl (ia ar_7))), (m13, .inl (cI, 200, .inl (ia am_8))), (m14, .inl (cI, 2, .inl (ia hp_9))), (m15, .inl (cI, 200, .inl (ia (uI no ti nv)))), (m16, .inl (cI, 1200, .inl (ia ws))), (m3, .inl (cI, 200, .inl (ia ld)))] := hD
                      refine lv_aload_n hx hb dX7_oneTick_377 rfl (lv_at hl 2 rfl) ?_
                      refine va_get (D := D) (ci := 7) (v := .ref m16) (C := RX7) (T := TX7) (N := 22) hx hb hts in_X7_oneTick_X7 hown hK hP 0 rfl rfl 16 (by decide) (hts _ lk_X7_oneTick_10) (fun _ h9 => h9) rfl dX7_oneTick_378 ?_
                      refine lv_bipush (v := iI 6) hx hb dX7_oneTick_381 (by decide +kernel) ?_
                      refine lv_iload_n hx hb dX7_oneTick_383 rfl (lv_at hl 4 rfl) ?_
                      refine q_imul hx hb dX7_oneTick_384 ?_
                      refine lv_iload_n hx hb dX7_oneTick_385 rfl (lv_at hl 5 rfl) ?_
                      refine q_iast hx hb hK hP hD hS 13 0 rfl rfl (by omega) (by omega) (by decide) dX7_oneTick_386 (fun H locs hP hD hS => ?_)
                      have hP : va_P D vwCl [(mo, .inr (7, [.ref m0, .ref m1, .ref m2, .ref m3, .ref m4, .ref m5, .ref m6, .ref m7, .ref m8, .ref m9, .ref m10, .ref m11, .ref m12, .ref m13, .ref m14, .ref m15, .ref m16, .ref m17, .ref m18, .ref m19, .int (iI aa), .ref m21])), (m0, .inl (cI, 19, .inl (ia se))), (m5, .inl (cI, 24, .inl (ia pl))), (m6, .inl (cI, 8, .inl (ia (uI (uI (uI ruc 1 ((ruc 1) + z_3)) 2 ((ruc 2) + z_10)) 3 ((ruc 3) + (bl + (z_10 * (se 18)))))))), (m7, .inl (cI, 12, .inl (ia st3))), (m8, .inl (cI, 12, .inl (ia snc))), (m9, .inl (cI, 200, .inl (ia kt_4))), (m10, .inl (cI, 200, .inl (ia kr_5))), (m11, .inl (cI, 200, .inl (ia km_6))), (m12, .inl (cI, 200, .inl (ia ar_7))), (m13, .inl (cI, 200, .inl (ia am_8))), (m14, .inl (cI, 2, .inl (ia hp_9))), (m15, .inl (cI, 200, .inl (ia (uI no ti nv)))), (m16, .inl (cI, 1200, .inl (ia (uI ws (6 * ti) wtd)))), (m3, .inl (cI, 200, .inl (ia ld)))] H := hP
                      have hD : va_D A [(mo, .inr (7, [.ref m0, .ref m1, .ref m2, .ref m3, .ref m4, .ref m5, .ref m6, .ref m7, .ref m8, .ref m9, .ref m10, .ref m11, .ref m12, .ref m13, .ref m14, .ref m15, .ref m16, .ref m17, .ref m18, .ref m19, .int (iI aa), .ref m21])), (m0, .inl (cI, 19, .inl (ia se))), (m5, .inl (cI, 24, .inl (ia pl))), (m6, .inl (cI, 8, .inl (ia (uI (uI (uI ruc 1 ((ruc 1) + z_3)) 2 ((ruc 2) + z_10)) 3 ((ruc 3) + (bl + (z_10 * (se 18)))))))), (m7, .inl (cI, 12, .inl (ia st3))), (m8, .inl (cI, 12, .inl (ia snc))), (m9, .inl (cI, 200, .inl (ia kt_4))), (m10, .inl (cI, 200, .inl (ia kr_5))), (m11, .inl (cI, 200, .inl (ia km_6))), (m12, .inl (cI, 200, .inl (ia ar_7))), (m13, .inl (cI, 200, .inl (ia am_8))), (m14, .inl (cI, 2, .inl (ia hp_9))), (m15, .inl (cI, 200, .inl (ia (uI no ti nv)))), (m16, .inl (cI, 1200, .inl (ia (uI ws (6 * ti) wtd)))), (m3, .inl (cI, 200, .inl (ia ld)))] := hD
                      refine lv_aload_n hx hb dX7_oneTick_387 rfl (lv_at hl 2 rfl) ?_
                      refine va_get (D := D) (ci := 7) (v := .ref m16) (C := RX7) (T := TX7) (N := 22) hx hb hts in_X7_oneTick_X7 hown hK hP 0 rfl rfl 16 (by decide) (hts _ lk_X7_oneTick_10) (fun _ h9 => h9) rfl dX7_oneTick_388 ?_
                      refine lv_bipush (v := iI 6) hx hb dX7_oneTick_391 (by decide +kernel) ?_
                      refine lv_iload_n hx hb dX7_oneTick_393 rfl (lv_at hl 4 rfl) ?_
                      refine q_imul hx hb dX7_oneTick_394 ?_
                      refine lv_iconst (v := iI 1) hx hb dX7_oneTick_395 rfl ?_
                      refine q_iadd hx hb dX7_oneTick_396 ?_
                      refine lv_iload hx hb dX7_oneTick_397 (lv_at hl 7 rfl) ?_
                      refine q_iast hx hb hK hP hD hS 13 0 rfl rfl (by omega) (by omega) (by decide) dX7_oneTick_399 (fun H locs hP hD hS => ?_)
                      have hP : va_P D vwCl [(mo, .inr (7, [.ref m0, .ref m1, .ref m2, .ref m3, .ref m4, .ref m5, .ref m6, .ref m7, .ref m8, .ref m9, .ref m10, .ref m11, .ref m12, .ref m13, .ref m14, .ref m15, .ref m16, .ref m17, .ref m18, .ref m19, .int (iI aa), .ref m21])), (m0, .inl (cI, 19, .inl (ia se))), (m5, .inl (cI, 24, .inl (ia pl))), (m6, .inl (cI, 8, .inl (ia (uI (uI (uI ruc 1 ((ruc 1) + z_3)) 2 ((ruc 2) + z_10)) 3 ((ruc 3) + (bl + (z_10 * (se 18)))))))), (m7, .inl (cI, 12, .inl (ia st3))), (m8, .inl (cI, 12, .inl (ia snc))), (m9, .inl (cI, 200, .inl (ia kt_4))), (m10, .inl (cI, 200, .inl (ia kr_5))), (m11, .inl (cI, 200, .inl (ia km_6))), (m12, .inl (cI, 200, .inl (ia ar_7))), (m13, .inl (cI, 200, .inl (ia am_8))), (m14, .inl (cI, 2, .inl (ia hp_9))), (m15, .inl (cI, 200, .inl (ia (uI no ti nv)))), (m16, .inl (cI, 1200, .inl (ia (uI (uI ws (6 * ti) wtd) ((6 * ti) + 1) z_3)))), (m3, .inl (cI, 200, .inl (ia ld)))] H := hP
                      have hD : va_D A [(mo, .inr (7, [.ref m0, .ref m1, .ref m2, .ref m3, .ref m4, .ref m5, .ref m6, .ref m7, .ref m8, .ref m9, .ref m10, .ref m11, .ref m12, .ref m13, .ref m14, .ref m15, .ref m16, .ref m17, .ref m18, .ref m19, .int (iI aa), .ref m21])), (m0, .inl (cI, 19, .inl (ia se))), (m5, .inl (cI, 24, .inl (ia pl))), (m6, .inl (cI, 8, .inl (ia (uI (uI (uI ruc 1 ((ruc 1) + z_3)) 2 ((ruc 2) + z_10)) 3 ((ruc 3) + (bl + (z_10 * (se 18)))))))), (m7, .inl (cI, 12, .inl (ia st3))), (m8, .inl (cI, 12, .inl (ia snc))), (m9, .inl (cI, 200, .inl (ia kt_4))), (m10, .inl (cI, 200, .inl (ia kr_5))), (m11, .inl (cI, 200, .inl (ia km_6))), (m12, .inl (cI, 200, .inl (ia ar_7))), (m13, .inl (cI, 200, .inl (ia am_8))), (m14, .inl (cI, 2, .inl (ia hp_9))), (m15, .inl (cI, 200, .inl (ia (uI no ti nv)))), (m16, .inl (cI, 1200, .inl (ia (uI (uI ws (6 * ti) wtd) ((6 * ti) + 1) z_3)))), (m3, .inl (cI, 200, .inl (ia ld)))] := hD
                      refine lv_aload_n hx hb dX7_oneTick_400 rfl (lv_at hl 2 rfl) ?_
                      refine va_get (D := D) (ci := 7) (v := .ref m16) (C := RX7) (T := TX7) (N := 22) hx hb hts in_X7_oneTick_X7 hown hK hP 0 rfl rfl 16 (by decide) (hts _ lk_X7_oneTick_10) (fun _ h9 => h9) rfl dX7_oneTick_401 ?_
                      refine lv_bipush (v := iI 6) hx hb dX7_oneTick_404 (by decide +kernel) ?_
                      refine lv_iload_n hx hb dX7_oneTick_406 rfl (lv_at hl 4 rfl) ?_
                      refine q_imul hx hb dX7_oneTick_407 ?_
                      refine lv_iconst (v := iI 2) hx hb dX7_oneTick_408 rfl ?_
                      refine q_iadd hx hb dX7_oneTick_409 ?_
                      refine lv_iload hx hb dX7_oneTick_410 (lv_at hl 1 rfl) ?_
                      refine q_iast hx hb hK hP hD hS 13 0 rfl rfl (by omega) (by omega) (by decide) dX7_oneTick_412 (fun H locs hP hD hS => ?_)
                      have hP : va_P D vwCl [(mo, .inr (7, [.ref m0, .ref m1, .ref m2, .ref m3, .ref m4, .ref m5, .ref m6, .ref m7, .ref m8, .ref m9, .ref m10, .ref m11, .ref m12, .ref m13, .ref m14, .ref m15, .ref m16, .ref m17, .ref m18, .ref m19, .int (iI aa), .ref m21])), (m0, .inl (cI, 19, .inl (ia se))), (m5, .inl (cI, 24, .inl (ia pl))), (m6, .inl (cI, 8, .inl (ia (uI (uI (uI ruc 1 ((ruc 1) + z_3)) 2 ((ruc 2) + z_10)) 3 ((ruc 3) + (bl + (z_10 * (se 18)))))))), (m7, .inl (cI, 12, .inl (ia st3))), (m8, .inl (cI, 12, .inl (ia snc))), (m9, .inl (cI, 200, .inl (ia kt_4))), (m10, .inl (cI, 200, .inl (ia kr_5))), (m11, .inl (cI, 200, .inl (ia km_6))), (m12, .inl (cI, 200, .inl (ia ar_7))), (m13, .inl (cI, 200, .inl (ia am_8))), (m14, .inl (cI, 2, .inl (ia hp_9))), (m15, .inl (cI, 200, .inl (ia (uI no ti nv)))), (m16, .inl (cI, 1200, .inl (ia (uI (uI (uI ws (6 * ti) wtd) ((6 * ti) + 1) z_3) ((6 * ti) + 2) z_10)))), (m3, .inl (cI, 200, .inl (ia ld)))] H := hP
                      have hD : va_D A [(mo, .inr (7, [.ref m0, .ref m1, .ref m2, .ref m3, .ref m4, .ref m5, .ref m6, .ref m7, .ref m8, .ref m9, .ref m10, .ref m11, .ref m12, .ref m13, .ref m14, .ref m15, .ref m16, .ref m17, .ref m18, .ref m19, .int (iI aa), .ref m21])), (m0, .inl (cI, 19, .inl (ia se))), (m5, .inl (cI, 24, .inl (ia pl))), (m6, .inl (cI, 8, .inl (ia (uI (uI (uI ruc 1 ((ruc 1) + z_3)) 2 ((ruc 2) + z_10)) 3 ((ruc 3) + (bl + (z_10 * (se 18)))))))), (m7, .inl (cI, 12, .inl (ia st3))), (m8, .inl (cI, 12, .inl (ia snc))), (m9, .inl (cI, 200, .inl (ia kt_4))), (m10, .inl (cI, 200, .inl (ia kr_5))), (m11, .inl (cI, 200, .inl (ia km_6))), (m12, .inl (cI, 200, .inl (ia ar_7))), (m13, .inl (cI, 200, .inl (ia am_8))), (m14, .inl (cI, 2, .inl (ia hp_9))), (m15, .inl (cI, 200, .inl (ia (uI no ti nv)))), (m16, .inl (cI, 1200, .inl (ia (uI (uI (uI ws (6 * ti) wtd) ((6 * ti) + 1) z_3) ((6 * ti) + 2) z_10)))), (m3, .inl (cI, 200, .inl (ia ld)))] := hD
                      refine lv_aload_n hx hb dX7_oneTick_413 rfl (lv_at hl 2 rfl) ?_
                      refine va_get (D := D) (ci := 7) (v := .ref m16) (C := RX7) (T := TX7) (N := 22) hx hb hts in_X7_oneTick_X7 hown hK hP 0 rfl rfl 16 (by decide) (hts _ lk_X7_oneTick_10) (fun _ h9 => h9) rfl dX7_oneTick_414 ?_
                      refine lv_bipush (v := iI 6) hx hb dX7_oneTick_417 (by decide +kernel) ?_
                      refine lv_iload_n hx hb dX7_oneTick_419 rfl (lv_at hl 4 rfl) ?_
                      refine q_imul hx hb dX7_oneTick_420 ?_
                      refine lv_iconst (v := iI 3) hx hb dX7_oneTick_421 rfl ?_
                      refine q_iadd hx hb dX7_oneTick_422 ?_
                      refine lv_aload_n hx hb dX7_oneTick_423 rfl (lv_at hl 2 rfl) ?_
                      refine q_callVI (wr := [(m0, .inl (cI, 19, .inl (ia se))), (m5, .inl (cI, 24, .inl (ia pl))), (m6, .inl (cI, 8, .inl (ia (uI (uI (uI ruc 1 ((ruc 1) + z_3)) 2 ((ruc 2) + z_10)) 3 ((ruc 3) + (bl + (z_10 * (se 18)))))))), (m8, .inl (cI, 12, .inl (ia snc))), (m9, .inl (cI, 200, .inl (ia kt_4))), (m10, .inl (cI, 200, .inl (ia kr_5))), (m11, .inl (cI, 200, .inl (ia km_6))), (m12, .inl (cI, 200, .inl (ia ar_7))), (m13, .inl (cI, 200, .inl (ia am_8))), (m14, .inl (cI, 2, .inl (ia hp_9))), (m15, .inl (cI, 200, .inl (ia (uI no ti nv)))), (m16, .inl (cI, 1200, .inl (ia (uI (uI (uI ws (6 * ti) wtd) ((6 * ti) + 1) z_3) ((6 * ti) + 2) z_10)))), (m3, .inl (cI, 200, .inl (ia ld)))]) (wn := fun (u : Unit) => [(mo, .inr (7, [.ref m0, .ref m1, .ref m2, .ref m3, .ref m4, .ref m5, .ref m6, .ref m7, .ref m8, .ref m9, .ref m10, .ref m11, .ref m12, .ref m13, .ref m14, .ref m15, .ref m16, .ref m17, .ref m18, .ref m19, .int (iI aa), .ref m21])), (m0, .inl (cI, 19, .inl (ia se))), (m5, .inl (cI, 24, .inl (ia pl))), (m6, .inl (cI, 8, .inl (ia (uI (uI (uI ruc 1 ((ruc 1) + z_3)) 2 ((ruc 2) + z_10)) 3 ((ruc 3) + (bl + (z_10 * (se 18)))))))), (m7, .inl (cI, 12, .inl (ia st3))), (m8, .inl (cI, 12, .inl (ia snc))), (m9, .inl (cI, 200, .inl (ia kt_4))), (m10, .inl (cI, 200, .inl (ia kr_5))), (m11, .inl (cI, 200, .inl (ia km_6))), (m12, .inl (cI, 200, .inl (ia ar_7))), (m13, .inl (cI, 200, .inl (ia am_8))), (m14, .inl (cI, 2, .inl (ia hp_9))), (m15, .inl (cI, 200, .inl (ia (uI no ti nv)))), (m16, .inl (cI, 1200, .inl (ia (uI (uI (uI ws (6 * ti) wtd) ((6 * ti) + 1) z_3) ((6 * ti) + 2) z_10)))), (m3, .inl (cI, 200, .inl (ia ld)))]) (rest := [.int (iI ((6 * ti) + 3)), .ref m16]) [] ⟨hx, hb, hml, hown, hts⟩ (c_X7_up l D cI cZ cII mo m7 m0 m1 m2 m3 m4 m5 m6 m8 m9 m10 m11 m12 m13 m14 m15 m16 m17 m18 m19 aa m21 st3 hB_st3) (cwV 0 hts gX7_oneTick_X7_up rfl rfl rfl (by decide +kernel) (by rw [hRf, hRl]; exact ⟨Nat.le_of_ble_eq_true rfl, Nat.le_of_ble_eq_true rfl⟩)) hK hP hD hS hA hN [0, 4] [1, 2, 3, 5, 6, 7, 8, 9, 10, 11, 12, 13, 14] [13, 0, 1, 2, 14, 3, 4, 5, 6, 7, 8, 9, 10, 11, 12] 0 7 rfl rfl rfl rfl rfl rfl (by decide) rfl (fun u => rfl) rfl hl.1 rfl (Nat.le_of_ble_eq_true rfl) dX7_oneTick_424 ⟨Nat.zero_le _, Nat.zero_le _⟩ (fun z u H locs hw hP hD hS => ?_)
                      have hP : va_P D vwCl [(mo, .inr (7, [.ref m0, .ref m1, .ref m2, .ref m3, .ref m4, .ref m5, .ref m6, .ref m7, .ref m8, .ref m9, .ref m10, .ref m11, .ref m12, .ref m13, .ref m14, .ref m15, .ref m16, .ref m17, .ref m18, .ref m19, .int (iI aa), .ref m21])), (m0, .inl (cI, 19, .inl (ia se))), (m5, .inl (cI, 24, .inl (ia pl))), (m6, .inl (cI, 8, .inl (ia (uI (uI (uI ruc 1 ((ruc 1) + z_3)) 2 ((ruc 2) + z_10)) 3 ((ruc 3) + (bl + (z_10 * (se 18)))))))), (m7, .inl (cI, 12, .inl (ia st3))), (m8, .inl (cI, 12, .inl (ia snc))), (m9, .inl (cI, 200, .inl (ia kt_4))), (m10, .inl (cI, 200, .inl (ia kr_5))), (m11, .inl (cI, 200, .inl (ia km_6))), (m12, .inl (cI, 200, .inl (ia ar_7))), (m13, .inl (cI, 200, .inl (ia am_8))), (m14, .inl (cI, 2, .inl (ia hp_9))), (m15, .inl (cI, 200, .inl (ia (uI no ti nv)))), (m16, .inl (cI, 1200, .inl (ia (uI (uI (uI ws (6 * ti) wtd) ((6 * ti) + 1) z_3) ((6 * ti) + 2) z_10)))), (m3, .inl (cI, 200, .inl (ia ld)))] H := hP
                      have hD : va_D A [(mo, .inr (7, [.ref m0, .ref m1, .ref m2, .ref m3, .ref m4, .ref m5, .ref m6, .ref m7, .ref m8, .ref m9, .ref m10, .ref m11, .ref m12, .ref m13, .ref m14, .ref m15, .ref m16, .ref m17, .ref m18, .ref m19, .int (iI aa), .ref m21])), (m0, .inl (cI, 19, .inl (ia se))), (m5, .inl (cI, 24, .inl (ia pl))), (m6, .inl (cI, 8, .inl (ia (uI (uI (uI ruc 1 ((ruc 1) + z_3)) 2 ((ruc 2) + z_10)) 3 ((ruc 3) + (bl + (z_10 * (se 18)))))))), (m7, .inl (cI, 12, .inl (ia st3))), (m8, .inl (cI, 12, .inl (ia snc))), (m9, .inl (cI, 200, .inl (ia kt_4))), (m10, .inl (cI, 200, .inl (ia kr_5))), (m11, .inl (cI, 200, .inl (ia km_6))), (m12, .inl (cI, 200, .inl (ia ar_7))), (m13, .inl (cI, 200, .inl (ia am_8))), (m14, .inl (cI, 2, .inl (ia hp_9))), (m15, .inl (cI, 200, .inl (ia (uI no ti nv)))), (m16, .inl (cI, 1200, .inl (ia (uI (uI (uI ws (6 * ti) wtd) ((6 * ti) + 1) z_3) ((6 * ti) + 2) z_10)))), (m3, .inl (cI, 200, .inl (ia ld)))] := hD
                      obtain ⟨z_11, ez⟩ : ∃ y : Int, y = z := ⟨_, rfl⟩
                      rw [← ez] at hw ⊢
                      clear ez
                      have w424 : z_11 = (upS st3) := hw
                      clear hw
                      subst w424
                      refine q_iast hx hb hK hP hD hS 13 0 rfl rfl (by omega) (by omega) (by decide) dX7_oneTick_427 (fun H locs hP hD hS => ?_)
                      have hP : va_P D vwCl [(mo, .inr (7, [.ref m0, .ref m1, .ref m2, .ref m3, .ref m4, .ref m5, .ref m6, .ref m7, .ref m8, .ref m9, .ref m10, .ref m11, .ref m12, .ref m13, .ref m14, .ref m15, .ref m16, .ref m17, .ref m18, .ref m19, .int (iI aa), .ref m21])), (m0, .inl (cI, 19, .inl (ia se))), (m5, .inl (cI, 24, .inl (ia pl))), (m6, .inl (cI, 8, .inl (ia (uI (uI (uI ruc 1 ((ruc 1) + z_3)) 2 ((ruc 2) + z_10)) 3 ((ruc 3) + (bl + (z_10 * (se 18)))))))), (m7, .inl (cI, 12, .inl (ia st3))), (m8, .inl (cI, 12, .inl (ia snc))), (m9, .inl (cI, 200, .inl (ia kt_4))), (m10, .inl (cI, 200, .inl (ia kr_5))), (m11, .inl (cI, 200, .inl (ia km_6))), (m12, .inl (cI, 200, .inl (ia ar_7))), (m13, .inl (cI, 200, .inl (ia am_8))), (m14, .inl (cI, 2, .inl (ia hp_9))), (m15, .inl (cI, 200, .inl (ia (uI no ti nv)))), (m16, .inl (cI, 1200, .inl (ia (uI (uI (uI (uI ws (6 * ti) wtd) ((6 * ti) + 1) z_3) ((6 * ti) + 2) z_10) ((6 * ti) + 3) (upS st3))))), (m3, .inl (cI, 200, .inl (ia ld)))] H := hP
                      have hD : va_D A [(mo, .inr (7, [.ref m0, .ref m1, .ref m2, .ref m3, .ref m4, .ref m5, .ref m6, .ref m7, .ref m8, .ref m9, .ref m10, .ref m11, .ref m12, .ref m13, .ref m14, .ref m15, .ref m16, .ref m17, .ref m18, .ref m19, .int (iI aa), .ref m21])), (m0, .inl (cI, 19, .inl (ia se))), (m5, .inl (cI, 24, .inl (ia pl))), (m6, .inl (cI, 8, .inl (ia (uI (uI (uI ruc 1 ((ruc 1) + z_3)) 2 ((ruc 2) + z_10)) 3 ((ruc 3) + (bl + (z_10 * (se 18)))))))), (m7, .inl (cI, 12, .inl (ia st3))), (m8, .inl (cI, 12, .inl (ia snc))), (m9, .inl (cI, 200, .inl (ia kt_4))), (m10, .inl (cI, 200, .inl (ia kr_5))), (m11, .inl (cI, 200, .inl (ia km_6))), (m12, .inl (cI, 200, .inl (ia ar_7))), (m13, .inl (cI, 200, .inl (ia am_8))), (m14, .inl (cI, 2, .inl (ia hp_9))), (m15, .inl (cI, 200, .inl (ia (uI no ti nv)))), (m16, .inl (cI, 1200, .inl (ia (uI (uI (uI (uI ws (6 * ti) wtd) ((6 * ti) + 1) z_3) ((6 * ti) + 2) z_10) ((6 * ti) + 3) (upS st3))))), (m3, .inl (cI, 200, .inl (ia ld)))] := hD
                      refine lv_aload_n hx hb dX7_oneTick_428 rfl (lv_at hl 2 rfl) ?_
                      refine va_get (D := D) (ci := 7) (v := .ref m16) (C := RX7) (T := TX7) (N := 22) hx hb hts in_X7_oneTick_X7 hown hK hP 0 rfl rfl 16 (by decide) (hts _ lk_X7_oneTick_10) (fun _ h9 => h9) rfl dX7_oneTick_429 ?_
                      refine lv_bipush (v := iI 6) hx hb dX7_oneTick_432 (by decide +kernel) ?_
                      refine lv_iload_n hx hb dX7_oneTick_434 rfl (lv_at hl 4 rfl) ?_
                      refine q_imul hx hb dX7_oneTick_435 ?_
                      refine lv_iconst (v := iI 4) hx hb dX7_oneTick_436 rfl ?_
                      refine q_iadd hx hb dX7_oneTick_437 ?_
                      refine lv_aload_n hx hb dX7_oneTick_438 rfl (lv_at hl 2 rfl) ?_
                      refine va_get (D := D) (ci := 7) (v := .ref m6) (C := RX7) (T := TX7) (N := 22) hx hb hts in_X7_oneTick_X7 hown hK hP 0 rfl rfl 6 (by decide) (hts _ lk_X7_oneTick_1) (fun _ h9 => h9) rfl dX7_oneTick_439 ?_
                      refine lv_iconst (v := iI 5) hx hb dX7_oneTick_442 rfl ?_
                      refine q_iald hx hb hK hP 3 0 rfl rfl (by omega) (by omega) (by decide) dX7_oneTick_443 ?_
                      refine q_top (b := (ruc 5)) (by rw [uI_n _ _ _ (by decide), uI_n _ _ _ (by decide), uI_n _ _ _ (by decide)]) ?_
                      refine q_iast hx hb hK hP hD hS 13 0 rfl rfl (by omega) (by omega) (by decide) dX7_oneTick_444 (fun H locs hP hD hS => ?_)
                      have hP : va_P D vwCl [(mo, .inr (7, [.ref m0, .ref m1, .ref m2, .ref m3, .ref m4, .ref m5, .ref m6, .ref m7, .ref m8, .ref m9, .ref m10, .ref m11, .ref m12, .ref m13, .ref m14, .ref m15, .ref m16, .ref m17, .ref m18, .ref m19, .int (iI aa), .ref m21])), (m0, .inl (cI, 19, .inl (ia se))), (m5, .inl (cI, 24, .inl (ia pl))), (m6, .inl (cI, 8, .inl (ia (uI (uI (uI ruc 1 ((ruc 1) + z_3)) 2 ((ruc 2) + z_10)) 3 ((ruc 3) + (bl + (z_10 * (se 18)))))))), (m7, .inl (cI, 12, .inl (ia st3))), (m8, .inl (cI, 12, .inl (ia snc))), (m9, .inl (cI, 200, .inl (ia kt_4))), (m10, .inl (cI, 200, .inl (ia kr_5))), (m11, .inl (cI, 200, .inl (ia km_6))), (m12, .inl (cI, 200, .inl (ia ar_7))), (m13, .inl (cI, 200, .inl (ia am_8))), (m14, .inl (cI, 2, .inl (ia hp_9))), (m15, .inl (cI, 200, .inl (ia (uI no ti nv)))), (m16, .inl (cI, 1200, .inl (ia (uI (uI (uI (uI (uI ws (6 * ti) wtd) ((6 * ti) + 1) z_3) ((6 * ti) + 2) z_10) ((6 * ti) + 3) (upS st3)) ((6 * ti) + 4) (ruc 5))))), (m3, .inl (cI, 200, .inl (ia ld)))] H := hP
                      have hD : va_D A [(mo, .inr (7, [.ref m0, .ref m1, .ref m2, .ref m3, .ref m4, .ref m5, .ref m6, .ref m7, .ref m8, .ref m9, .ref m10, .ref m11, .ref m12, .ref m13, .ref m14, .ref m15, .ref m16, .ref m17, .ref m18, .ref m19, .int (iI aa), .ref m21])), (m0, .inl (cI, 19, .inl (ia se))), (m5, .inl (cI, 24, .inl (ia pl))), (m6, .inl (cI, 8, .inl (ia (uI (uI (uI ruc 1 ((ruc 1) + z_3)) 2 ((ruc 2) + z_10)) 3 ((ruc 3) + (bl + (z_10 * (se 18)))))))), (m7, .inl (cI, 12, .inl (ia st3))), (m8, .inl (cI, 12, .inl (ia snc))), (m9, .inl (cI, 200, .inl (ia kt_4))), (m10, .inl (cI, 200, .inl (ia kr_5))), (m11, .inl (cI, 200, .inl (ia km_6))), (m12, .inl (cI, 200, .inl (ia ar_7))), (m13, .inl (cI, 200, .inl (ia am_8))), (m14, .inl (cI, 2, .inl (ia hp_9))), (m15, .inl (cI, 200, .inl (ia (uI no ti nv)))), (m16, .inl (cI, 1200, .inl (ia (uI (uI (uI (uI (uI ws (6 * ti) wtd) ((6 * ti) + 1) z_3) ((6 * ti) + 2) z_10) ((6 * ti) + 3) (upS st3)) ((6 * ti) + 4) (ruc 5))))), (m3, .inl (cI, 200, .inl (ia ld)))] := hD
                      refine lv_aload_n hx hb dX7_oneTick_445 rfl (lv_at hl 2 rfl) ?_
                      refine va_get (D := D) (ci := 7) (v := .ref m16) (C := RX7) (T := TX7) (N := 22) hx hb hts in_X7_oneTick_X7 hown hK hP 0 rfl rfl 16 (by decide) (hts _ lk_X7_oneTick_10) (fun _ h9 => h9) rfl dX7_oneTick_446 ?_
                      refine lv_bipush (v := iI 6) hx hb dX7_oneTick_449 (by decide +kernel) ?_
                      refine lv_iload_n hx hb dX7_oneTick_451 rfl (lv_at hl 4 rfl) ?_
                      refine q_imul hx hb dX7_oneTick_452 ?_
                      refine lv_iconst (v := iI 5) hx hb dX7_oneTick_453 rfl ?_
                      refine q_iadd hx hb dX7_oneTick_454 ?_
                      refine lv_iload hx hb dX7_oneTick_455 (lv_at hl 0 rfl) ?_
                      refine q_iast hx hb hK hP hD hS 13 0 rfl rfl (by omega) (by omega) (by decide) dX7_oneTick_457 (fun H locs hP hD hS => ?_)
                      have hP : va_P D vwCl [(mo, .inr (7, [.ref m0, .ref m1, .ref m2, .ref m3, .ref m4, .ref m5, .ref m6, .ref m7, .ref m8, .ref m9, .ref m10, .ref m11, .ref m12, .ref m13, .ref m14, .ref m15, .ref m16, .ref m17, .ref m18, .ref m19, .int (iI aa), .ref m21])), (m0, .inl (cI, 19, .inl (ia se))), (m5, .inl (cI, 24, .inl (ia pl))), (m6, .inl (cI, 8, .inl (ia (uI (uI (uI ruc 1 ((ruc 1) + z_3)) 2 ((ruc 2) + z_10)) 3 ((ruc 3) + (bl + (z_10 * (se 18)))))))), (m7, .inl (cI, 12, .inl (ia st3))), (m8, .inl (cI, 12, .inl (ia snc))), (m9, .inl (cI, 200, .inl (ia kt_4))), (m10, .inl (cI, 200, .inl (ia kr_5))), (m11, .inl (cI, 200, .inl (ia km_6))), (m12, .inl (cI, 200, .inl (ia ar_7))), (m13, .inl (cI, 200, .inl (ia am_8))), (m14, .inl (cI, 2, .inl (ia hp_9))), (m15, .inl (cI, 200, .inl (ia (uI no ti nv)))), (m16, .inl (cI, 1200, .inl (ia (uI (uI (uI (uI (uI (uI ws (6 * ti) wtd) ((6 * ti) + 1) z_3) ((6 * ti) + 2) z_10) ((6 * ti) + 3) (upS st3)) ((6 * ti) + 4) (ruc 5)) ((6 * ti) + 5) (bl + (z_10 * (se 18))))))), (m3, .inl (cI, 200, .inl (ia ld)))] H := hP
                      have hD : va_D A [(mo, .inr (7, [.ref m0, .ref m1, .ref m2, .ref m3, .ref m4, .ref m5, .ref m6, .ref m7, .ref m8, .ref m9, .ref m10, .ref m11, .ref m12, .ref m13, .ref m14, .ref m15, .ref m16, .ref m17, .ref m18, .ref m19, .int (iI aa), .ref m21])), (m0, .inl (cI, 19, .inl (ia se))), (m5, .inl (cI, 24, .inl (ia pl))), (m6, .inl (cI, 8, .inl (ia (uI (uI (uI ruc 1 ((ruc 1) + z_3)) 2 ((ruc 2) + z_10)) 3 ((ruc 3) + (bl + (z_10 * (se 18)))))))), (m7, .inl (cI, 12, .inl (ia st3))), (m8, .inl (cI, 12, .inl (ia snc))), (m9, .inl (cI, 200, .inl (ia kt_4))), (m10, .inl (cI, 200, .inl (ia kr_5))), (m11, .inl (cI, 200, .inl (ia km_6))), (m12, .inl (cI, 200, .inl (ia ar_7))), (m13, .inl (cI, 200, .inl (ia am_8))), (m14, .inl (cI, 2, .inl (ia hp_9))), (m15, .inl (cI, 200, .inl (ia (uI no ti nv)))), (m16, .inl (cI, 1200, .inl (ia (uI (uI (uI (uI (uI (uI ws (6 * ti) wtd) ((6 * ti) + 1) z_3) ((6 * ti) + 2) z_10) ((6 * ti) + 3) (upS st3)) ((6 * ti) + 4) (ruc 5)) ((6 * ti) + 5) (bl + (z_10 * (se 18))))))), (m3, .inl (cI, 200, .inl (ia ld)))] := hD
                      refine lv_aload_n hx hb dX7_oneTick_458 rfl (lv_at hl 2 rfl) ?_
                      refine va_get (D := D) (ci := 7) (v := .ref m6) (C := RX7) (T := TX7) (N := 22) hx hb hts in_X7_oneTick_X7 hown hK hP 0 rfl rfl 6 (by decide) (hts _ lk_X7_oneTick_1) (fun _ h9 => h9) rfl dX7_oneTick_459 ?_
                      refine lv_iconst (v := iI 0) hx hb dX7_oneTick_462 rfl ?_
                      refine lv_dup2_11 hx hb dX7_oneTick_463 rfl rfl ?_
                      refine q_iald hx hb hK hP 3 0 rfl rfl (by omega) (by omega) (by decide) dX7_oneTick_464 ?_
                      refine q_top (b := ti) (by rw [uI_n _ _ _ (by decide), uI_n _ _ _ (by decide), uI_n _ _ _ (by decide)]; exact hc0) ?_
                      refine lv_iconst (v := iI 1) hx hb dX7_oneTick_465 rfl ?_
                      refine q_iadd hx hb dX7_oneTick_466 ?_
                      refine q_iast hx hb hK hP hD hS 3 0 rfl rfl (by omega) (by omega) (by decide) dX7_oneTick_467 (fun H locs hP hD hS => ?_)
                      have hP : va_P D vwCl [(mo, .inr (7, [.ref m0, .ref m1, .ref m2, .ref m3, .ref m4, .ref m5, .ref m6, .ref m7, .ref m8, .ref m9, .ref m10, .ref m11, .ref m12, .ref m13, .ref m14, .ref m15, .ref m16, .ref m17, .ref m18, .ref m19, .int (iI aa), .ref m21])), (m0, .inl (cI, 19, .inl (ia se))), (m5, .inl (cI, 24, .inl (ia pl))), (m6, .inl (cI, 8, .inl (ia (uI (uI (uI (uI ruc 1 ((ruc 1) + z_3)) 2 ((ruc 2) + z_10)) 3 ((ruc 3) + (bl + (z_10 * (se 18))))) 0 (ti + 1))))), (m7, .inl (cI, 12, .inl (ia st3))), (m8, .inl (cI, 12, .inl (ia snc))), (m9, .inl (cI, 200, .inl (ia kt_4))), (m10, .inl (cI, 200, .inl (ia kr_5))), (m11, .inl (cI, 200, .inl (ia km_6))), (m12, .inl (cI, 200, .inl (ia ar_7))), (m13, .inl (cI, 200, .inl (ia am_8))), (m14, .inl (cI, 2, .inl (ia hp_9))), (m15, .inl (cI, 200, .inl (ia (uI no ti nv)))), (m16, .inl (cI, 1200, .inl (ia (uI (uI (uI (uI (uI (uI ws (6 * ti) wtd) ((6 * ti) + 1) z_3) ((6 * ti) + 2) z_10) ((6 * ti) + 3) (upS st3)) ((6 * ti) + 4) (ruc 5)) ((6 * ti) + 5) (bl + (z_10 * (se 18))))))), (m3, .inl (cI, 200, .inl (ia ld)))] H := hP
                      have hD : va_D A [(mo, .inr (7, [.ref m0, .ref m1, .ref m2, .ref m3, .ref m4, .ref m5, .ref m6, .ref m7, .ref m8, .ref m9, .ref m10, .ref m11, .ref m12, .ref m13, .ref m14, .ref m15, .ref m16, .ref m17, .ref m18, .ref m19, .int (iI aa), .ref m21])), (m0, .inl (cI, 19, .inl (ia se))), (m5, .inl (cI, 24, .inl (ia pl))), (m6, .inl (cI, 8, .inl (ia (uI (uI (uI (uI ruc 1 ((ruc 1) + z_3)) 2 ((ruc 2) + z_10)) 3 ((ruc 3) + (bl + (z_10 * (se 18))))) 0 (ti + 1))))), (m7, .inl (cI, 12, .inl (ia st3))), (m8, .inl (cI, 12, .inl (ia snc))), (m9, .inl (cI, 200, .inl (ia kt_4))), (m10, .inl (cI, 200, .inl (ia kr_5))), (m11, .inl (cI, 200, .inl (ia km_6))), (m12, .inl (cI, 200, .inl (ia ar_7))), (m13, .inl (cI, 200, .inl (ia am_8))), (m14, .inl (cI, 2, .inl (ia hp_9))), (m15, .inl (cI, 200, .inl (ia (uI no ti nv)))), (m16, .inl (cI, 1200, .inl (ia (uI (uI (uI (uI (uI (uI ws (6 * ti) wtd) ((6 * ti) + 1) z_3) ((6 * ti) + 2) z_10) ((6 * ti) + 3) (upS st3)) ((6 * ti) + 4) (ruc 5)) ((6 * ti) + 5) (bl + (z_10 * (se 18))))))), (m3, .inl (cI, 200, .inl (ia ld)))] := hD
                      rw [hQ]
                      refine q_retV ((uI (uI (uI (uI ruc 1 ((ruc 1) + z_3)) 2 ((ruc 2) + z_10)) 3 ((ruc 3) + (bl + (z_10 * (se 18))))) 0 (ti + 1)), st3, snc, kt_4, kr_5, km_6, ar_7, am_8, hp_9, (uI no ti nv), (uI (uI (uI (uI (uI (uI ws (6 * ti) wtd) ((6 * ti) + 1) z_3) ((6 * ti) + 2) z_10) ((6 * ti) + 3) (upS st3)) ((6 * ti) + 4) (ruc 5)) ((6 * ti) + 5) (bl + (z_10 * (se 18))))) hx hb hr hlocks hK hP hD hS dX7_oneTick_468 ?_
                      try dsimp only
                      rw [← eti]
                      refine ⟨⟨?_, by rw [ek3]; exact hS3, by rw [ek3]; exact hG3, ?_, ?_, ?_, e324, ?_, ?_, AI_tk hse hai hbld.2 (by omega)⟩, by assumption, by assumption, by assumption, by assumption, by assumption, by assumption, by assumption, by assumption⟩
                      · intro j q1 q2
                        rcases (show j = 0 ∨ j = 1 ∨ j = 2 ∨ j = 3 ∨ j = 4 ∨ j = 5 ∨ j = 6 ∨ j = 7 by omega) with rfl | rfl | rfl | rfl | rfl | rfl | rfl | rfl
                        · rw [uI_s]; rw [tk_ru0, ← eta]
                        · rw [uI_n _ _ _ (by decide), uI_n _ _ _ (by decide), uI_n _ _ _ (by decide), uI_s]; rw [tk_ru1, hc 1 (by decide) (by decide) (by decide) (by decide), hDo, hru 1 (by decide) (by decide)]
                        · rw [uI_n _ _ _ (by decide), uI_n _ _ _ (by decide), uI_s]; rw [tk_ru2, hc 2 (by decide) (by decide) (by decide) (by decide), w324, hru 2 (by decide) (by decide)]
                        · rw [uI_n _ _ _ (by decide), uI_s]; rw [tk_ru3, hc 3 (by decide) (by decide) (by decide) (by decide), hru 3 (by decide) (by decide)]; unfold tkBi; rw [← hS2, ← w324, hbl2]
                        · rw [uI_n _ _ _ (by decide), uI_n _ _ _ (by decide), uI_n _ _ _ (by decide), uI_n _ _ _ (by decide)]; rw [tk_ru4]; exact hc4
                        · rw [uI_n _ _ _ (by decide), uI_n _ _ _ (by decide), uI_n _ _ _ (by decide), uI_n _ _ _ (by decide)]; rw [tk_ru5]; exact hc5
                        · rw [uI_n _ _ _ (by decide), uI_n _ _ _ (by decide), uI_n _ _ _ (by decide), uI_n _ _ _ (by decide)]; rw [tk_ru6]; exact hc6
                        · rw [uI_n _ _ _ (by decide), uI_n _ _ _ (by decide), uI_n _ _ _ (by decide), uI_n _ _ _ (by decide)]; rw [tk_ru7, ← hru 7 (by decide) (by decide)]; exact hc7
                      · rw [uI_s]; exact hno1
                      · rw [uI_s]
                        intro j q1 q2
                        by_cases q : j < 6 * ti
                        · rw [uI_n _ _ _ (by omega), uI_n _ _ _ (by omega), uI_n _ _ _ (by omega), uI_n _ _ _ (by omega), uI_n _ _ _ (by omega), uI_n _ _ _ (by omega), tk_hiA (by omega)]
                          exact hws j q1 q
                        · rcases (show j = 6 * ti ∨ j = 6 * ti + 1 ∨ j = 6 * ti + 2 ∨ j = 6 * ti + 3 ∨ j = 6 * ti + 4 ∨ j = 6 * ti + 5 by omega) with e | e | e | e | e | e
                          · rw [e, uI_n _ _ _ (by omega), uI_n _ _ _ (by omega), uI_n _ _ _ (by omega), uI_n _ _ _ (by omega), uI_n _ _ _ (by omega), uI_s, eta, tk_hi0, ← eta]; exact ewt
                          · rw [e, uI_n _ _ _ (by omega), uI_n _ _ _ (by omega), uI_n _ _ _ (by omega), uI_n _ _ _ (by omega), uI_s, eta, tk_hi1, ← eta]; exact hDo
                          · rw [e, uI_n _ _ _ (by omega), uI_n _ _ _ (by omega), uI_n _ _ _ (by omega), uI_s, eta, tk_hi2, ← eta]; exact w324
                          · rw [e, uI_n _ _ _ (by omega), uI_n _ _ _ (by omega), uI_s, eta, tk_hi3, ← eta, ek3, hS3]
                          · rw [e, uI_n _ _ _ (by omega), uI_s, eta, tk_hi4, ← eta]; exact hc5
                          · rw [e, uI_s, eta, tk_hi5, ← eta]; unfold tkBi; rw [← hS2, ← w324, hbl2]
                      · rw [uI_s]; exact ⟨g324.1, g324.2.1, by have := g324.2.2; omega⟩
                      · rw [uI_s]; exact f324
                      · rw [uI_s, uI_n _ _ _ (by decide), uI_n _ _ _ (by decide), uI_n _ _ _ (by decide), uI_n _ _ _ (by decide), uI_n _ _ _ (by decide), uI_n _ _ _ (by decide), uI_n _ _ _ (by decide), uI_n _ _ _ (by decide)]; exact ⟨by omega, by rw [hc4]; exact hrd2, by rw [hc6]; unfold tkCh; rw [← eta, ← hru 6 (by decide) (by decide)]; split <;> omega⟩
                    ·
                      refine lv_aload_n hx hb dX7_oneTick_269 rfl (lv_at hl 0 rfl) ?_
                      refine va_get (D := D) (ci := 7) (v := .ref m7) (C := RX7) (T := TX7) (N := 22) hx hb hts in_X7_oneTick_X7 hown hK hP 0 rfl rfl 7 (by decide) (hts _ lk_X7_oneTick_7) (fun _ h9 => h9) rfl dX7_oneTick_270 ?_
                      refine lv_iload hx hb dX7_oneTick_273 (lv_at hl 7 rfl) ?_
                      refine lv_aload_n hx hb dX7_oneTick_275 rfl (lv_at hl 0 rfl) ?_
                      have L315_4 : ∀ (v : Int), (hv3 : v = S3 k) → (hvb : 0 ≤ v ∧ v ≤ 3) → ∀ (H : Heap) (locs : List Loc), va_P D vwCl [(mo, .inr (7, [.ref m0, .ref m1, .ref m2, .ref m3, .ref m4, .ref m5, .ref m6, .ref m7, .ref m8, .ref m9, .ref m10, .ref m11, .ref m12, .ref m13, .ref m14, .ref m15, .ref m16, .ref m17, .ref m18, .ref m19, .int (iI aa), .ref m21])), (m0, .inl (cI, 19, .inl (ia se))), (m5, .inl (cI, 24, .inl (ia pl))), (m6, .inl (cI, 8, .inl (ia ruc))), (m7, .inl (cI, 12, .inl (ia st3))), (m8, .inl (cI, 12, .inl (ia snc))), (m9, .inl (cI, 200, .inl (ia ktc))), (m10, .inl (cI, 200, .inl (ia krc))), (m11, .inl (cI, 200, .inl (ia kmd))), (m12, .inl (cI, 200, .inl (ia ar))), (m13, .inl (cI, 200, .inl (ia am))), (m14, .inl (cI, 2, .inl (ia hpc))), (m15, .inl (cI, 200, .inl (ia (uI no ti nv)))), (m16, .inl (cI, 1200, .inl (ia ws))), (m3, .inl (cI, 200, .inl (ia ld)))] H → va_D A [(mo, .inr (7, [.ref m0, .ref m1, .ref m2, .ref m3, .ref m4, .ref m5, .ref m6, .ref m7, .ref m8, .ref m9, .ref m10, .ref m11, .ref m12, .ref m13, .ref m14, .ref m15, .ref m16, .ref m17, .ref m18, .ref m19, .int (iI aa), .ref m21])), (m0, .inl (cI, 19, .inl (ia se))), (m5, .inl (cI, 24, .inl (ia pl))), (m6, .inl (cI, 8, .inl (ia ruc))), (m7, .inl (cI, 12, .inl (ia st3))), (m8, .inl (cI, 12, .inl (ia snc))), (m9, .inl (cI, 200, .inl (ia ktc))), (m10, .inl (cI, 200, .inl (ia krc))), (m11, .inl (cI, 200, .inl (ia kmd))), (m12, .inl (cI, 200, .inl (ia ar))), (m13, .inl (cI, 200, .inl (ia am))), (m14, .inl (cI, 2, .inl (ia hpc))), (m15, .inl (cI, 200, .inl (ia (uI no ti nv)))), (m16, .inl (cI, 1200, .inl (ia ws))), (m3, .inl (cI, 200, .inl (ia ld)))] → va_S A s.heap H locs → ∀ ls : Array Slot, lv_has ls 8 [(0, .ref mo), (1, .int (iI lmv)), (2, .int (iI ti)), (3, .int (iI wtd)), (4, .int (iI wk)), (5, .int (iI bl)), (6, .int (iI z_3)), (7, .int (iI k))] → W p l e R s m args below meth c H locs 0 0 Q (F0 m 315 ls [.int (iI v), .int (iI k), .ref m7]) := by
                        intro v hv3 hvb H locs hP hD hS ls hl
                        refine q_iast hx hb hK hP hD hS 4 0 rfl rfl (by omega) (by omega) (by decide) dX7_oneTick_315 (fun H locs hP hD hS => ?_)
                        have hP : va_P D vwCl [(mo, .inr (7, [.ref m0, .ref m1, .ref m2, .ref m3, .ref m4, .ref m5, .ref m6, .ref m7, .ref m8, .ref m9, .ref m10, .ref m11, .ref m12, .ref m13, .ref m14, .ref m15, .ref m16, .ref m17, .ref m18, .ref m19, .int (iI aa), .ref m21])), (m0, .inl (cI, 19, .inl (ia se))), (m5, .inl (cI, 24, .inl (ia pl))), (m6, .inl (cI, 8, .inl (ia ruc))), (m7, .inl (cI, 12, .inl (ia (uI st3 k v)))), (m8, .inl (cI, 12, .inl (ia snc))), (m9, .inl (cI, 200, .inl (ia ktc))), (m10, .inl (cI, 200, .inl (ia krc))), (m11, .inl (cI, 200, .inl (ia kmd))), (m12, .inl (cI, 200, .inl (ia ar))), (m13, .inl (cI, 200, .inl (ia am))), (m14, .inl (cI, 2, .inl (ia hpc))), (m15, .inl (cI, 200, .inl (ia (uI no ti nv)))), (m16, .inl (cI, 1200, .inl (ia ws))), (m3, .inl (cI, 200, .inl (ia ld)))] H := hP
                        have hD : va_D A [(mo, .inr (7, [.ref m0, .ref m1, .ref m2, .ref m3, .ref m4, .ref m5, .ref m6, .ref m7, .ref m8, .ref m9, .ref m10, .ref m11, .ref m12, .ref m13, .ref m14, .ref m15, .ref m16, .ref m17, .ref m18, .ref m19, .int (iI aa), .ref m21])), (m0, .inl (cI, 19, .inl (ia se))), (m5, .inl (cI, 24, .inl (ia pl))), (m6, .inl (cI, 8, .inl (ia ruc))), (m7, .inl (cI, 12, .inl (ia (uI st3 k v)))), (m8, .inl (cI, 12, .inl (ia snc))), (m9, .inl (cI, 200, .inl (ia ktc))), (m10, .inl (cI, 200, .inl (ia krc))), (m11, .inl (cI, 200, .inl (ia kmd))), (m12, .inl (cI, 200, .inl (ia ar))), (m13, .inl (cI, 200, .inl (ia am))), (m14, .inl (cI, 2, .inl (ia hpc))), (m15, .inl (cI, 200, .inl (ia (uI no ti nv)))), (m16, .inl (cI, 1200, .inl (ia ws))), (m3, .inl (cI, 200, .inl (ia ld)))] := hD
                        have hB_12 : BB 0 3 (uI st3 k v) := BB_uI hB_st3 (by omega)
                        refine q_iinc (k := 7) (lv' := [(7, .int (iI (k + 1))), (0, .ref mo), (1, .int (iI lmv)), (2, .int (iI ti)), (3, .int (iI wtd)), (4, .int (iI wk)), (5, .int (iI bl)), (6, .int (iI z_3))]) hx hb dX7_oneTick_316 hl rfl (by decide) rfl (fun ls hl => ?_)
                        refine lv_goto (tgt := 262) hx hb dX7_oneTick_319 (by decide) ?_
                        exact ih  (k + 1) (uI st3 k v) hB_12 (by omega) (by rw [hs3, hv3, hS3d]; exact fl_any hk3.1 (by omega)) (by omega) _ _ hP hD hS _ (lv_sub hl [1, 2, 3, 4, 5, 6, 7, 0] rfl)
                      refine va_get (D := D) (ci := 7) (v := .ref m7) (C := RX7) (T := TX7) (N := 22) hx hb hts in_X7_oneTick_X7 hown hK hP 0 rfl rfl 7 (by decide) (hts _ lk_X7_oneTick_7) (fun _ h9 => h9) rfl dX7_oneTick_276 ?_
                      refine lv_iload hx hb dX7_oneTick_279 (lv_at hl 7 rfl) ?_
                      refine q_iald hx hb hK hP 4 0 rfl rfl (by omega) (by omega) (by decide) dX7_oneTick_281 ?_
                      have hb281 := hB_st3 k
                      refine lv_iconst (v := iI 3) hx hb dX7_oneTick_282 rfl ?_
                      refine q_icmp_ne (tgt := 308) hx hb dX7_oneTick_283 (by decide) ⟨by omega, by omega⟩ ⟨by decide, by decide⟩ (fun c283 => ?_) (fun c283 => ?_)
                      ·
                        refine lv_aload_n hx hb dX7_oneTick_308 rfl (lv_at hl 0 rfl) ?_
                        refine va_get (D := D) (ci := 7) (v := .ref m7) (C := RX7) (T := TX7) (N := 22) hx hb hts in_X7_oneTick_X7 hown hK hP 0 rfl rfl 7 (by decide) (hts _ lk_X7_oneTick_7) (fun _ h9 => h9) rfl dX7_oneTick_309 ?_
                        refine lv_iload hx hb dX7_oneTick_312 (lv_at hl 7 rfl) ?_
                        refine q_iald hx hb hK hP 4 0 rfl rfl (by omega) (by omega) (by decide) dX7_oneTick_314 ?_
                        have hb314 := hB_st3 k
                        exact L315_4  (st3 k) (by rw [hS3d]; first | exact (fl_yes hk3.1 (by omega) (decide_eq_true ⟨by omega, by omega⟩)).symm | (rw [fl_no (decide_eq_false (by omega))]; exact e3)) (by omega) _ _ hP hD hS _ (lv_sub hl [0, 1, 2, 3, 4, 5, 6, 7] rfl)
                      ·
                        refine lv_iload_n hx hb dX7_oneTick_286 rfl (lv_at hl 2 rfl) ?_
                        refine lv_aload_n hx hb dX7_oneTick_287 rfl (lv_at hl 0 rfl) ?_
                        refine va_get (D := D) (ci := 7) (v := .ref m8) (C := RX7) (T := TX7) (N := 22) hx hb hts in_X7_oneTick_X7 hown hK hP 0 rfl rfl 8 (by decide) (hts _ lk_X7_oneTick_8) (fun _ h9 => h9) rfl dX7_oneTick_288 ?_
                        refine lv_iload hx hb dX7_oneTick_291 (lv_at hl 7 rfl) ?_
                        refine q_iald hx hb hK hP 5 0 rfl rfl (by omega) (by omega) (by decide) dX7_oneTick_293 ?_
                        have hb293 := hB_snc k
                        refine q_isub hx hb dX7_oneTick_294 ?_
                        refine lv_aload_n hx hb dX7_oneTick_295 rfl (lv_at hl 0 rfl) ?_
                        refine va_get (D := D) (ci := 7) (v := .ref m0) (C := RX7) (T := TX7) (N := 22) hx hb hts in_X7_oneTick_X7 hown hK hP 0 rfl rfl 0 (by decide) (hts _ lk_X7_oneTick_9) (fun _ h9 => h9) rfl dX7_oneTick_296 ?_
                        refine lv_iconst (v := iI 1) hx hb dX7_oneTick_299 rfl ?_
                        refine q_iald hx hb hK hP 1 0 rfl rfl (by omega) (by omega) (by decide) dX7_oneTick_300 ?_
                        have hb300 := hB_se 1
                        refine q_icmp_lt (tgt := 308) hx hb dX7_oneTick_301 (by decide) ⟨by omega, by omega⟩ ⟨by omega, by omega⟩ (fun c301 => ?_) (fun c301 => ?_)
                        ·
                          refine lv_aload_n hx hb dX7_oneTick_308 rfl (lv_at hl 0 rfl) ?_
                          refine va_get (D := D) (ci := 7) (v := .ref m7) (C := RX7) (T := TX7) (N := 22) hx hb hts in_X7_oneTick_X7 hown hK hP 0 rfl rfl 7 (by decide) (hts _ lk_X7_oneTick_7) (fun _ h9 => h9) rfl dX7_oneTick_309 ?_
                          refine lv_iload hx hb dX7_oneTick_312 (lv_at hl 7 rfl) ?_
                          refine q_iald hx hb hK hP 4 0 rfl rfl (by omega) (by omega) (by decide) dX7_oneTick_314 ?_
                          have hb314 := hB_st3 k
                          exact L315_4  (st3 k) (by rw [hS3d]; first | exact (fl_yes hk3.1 (by omega) (decide_eq_true ⟨by omega, by omega⟩)).symm | (rw [fl_no (decide_eq_false (by omega))]; exact e3)) (by omega) _ _ hP hD hS _ (lv_sub hl [0, 1, 2, 3, 4, 5, 6, 7] rfl)
                        ·
                          refine lv_iconst (v := iI 0) hx hb dX7_oneTick_304 rfl ?_
                          refine lv_goto (tgt := 315) hx hb dX7_oneTick_305 (by decide) ?_
                          exact L315_4  0 (by rw [hS3d]; first | exact (fl_yes hk3.1 (by omega) (decide_eq_true ⟨by omega, by omega⟩)).symm | (rw [fl_no (decide_eq_false (by omega))]; exact e3)) (by omega) _ _ hP hD hS _ (lv_sub hl [0, 1, 2, 3, 4, 5, 6, 7] rfl)
                exact L262_3 100 0 st1 hB_st1 (by omega) (by rw [fl_nil (by omega)]; exact est) (by omega) _ _ hP hD hS _ (lv_sub hl [2, 3, 4, 5, 6, 7, 1, 0] rfl)
              ·
                refine lv_aload_n hx hb dX7_oneTick_116 rfl (lv_at hl 0 rfl) ?_
                refine va_get (D := D) (ci := 7) (v := .ref m7) (C := RX7) (T := TX7) (N := 22) hx hb hts in_X7_oneTick_X7 hown hK hP 0 rfl rfl 7 (by decide) (hts _ lk_X7_oneTick_7) (fun _ h9 => h9) rfl dX7_oneTick_117 ?_
                refine lv_iload hx hb dX7_oneTick_120 (lv_at hl 6 rfl) ?_
                refine lv_aload_n hx hb dX7_oneTick_122 rfl (lv_at hl 0 rfl) ?_
                have L162_3 : ∀ (v : Int), (hv : v = S2 k) → (hvb : 0 ≤ v ∧ v ≤ 3) → ∀ (H : Heap) (locs : List Loc), va_P D vwCl [(mo, .inr (7, [.ref m0, .ref m1, .ref m2, .ref m3, .ref m4, .ref m5, .ref m6, .ref m7, .ref m8, .ref m9, .ref m10, .ref m11, .ref m12, .ref m13, .ref m14, .ref m15, .ref m16, .ref m17, .ref m18, .ref m19, .int (iI aa), .ref m21])), (m0, .inl (cI, 19, .inl (ia se))), (m5, .inl (cI, 24, .inl (ia pl))), (m6, .inl (cI, 8, .inl (ia ruc))), (m7, .inl (cI, 12, .inl (ia st1))), (m8, .inl (cI, 12, .inl (ia snc))), (m9, .inl (cI, 200, .inl (ia ktc))), (m10, .inl (cI, 200, .inl (ia krc))), (m11, .inl (cI, 200, .inl (ia kmc))), (m12, .inl (cI, 200, .inl (ia ar))), (m13, .inl (cI, 200, .inl (ia am))), (m14, .inl (cI, 2, .inl (ia hpc))), (m15, .inl (cI, 200, .inl (ia (uI no ti nv)))), (m16, .inl (cI, 1200, .inl (ia ws))), (m3, .inl (cI, 200, .inl (ia ld)))] H → va_D A [(mo, .inr (7, [.ref m0, .ref m1, .ref m2, .ref m3, .ref m4, .ref m5, .ref m6, .ref m7, .ref m8, .ref m9, .ref m10, .ref m11, .ref m12, .ref m13, .ref m14, .ref m15, .ref m16, .ref m17, .ref m18, .ref m19, .int (iI aa), .ref m21])), (m0, .inl (cI, 19, .inl (ia se))), (m5, .inl (cI, 24, .inl (ia pl))), (m6, .inl (cI, 8, .inl (ia ruc))), (m7, .inl (cI, 12, .inl (ia st1))), (m8, .inl (cI, 12, .inl (ia snc))), (m9, .inl (cI, 200, .inl (ia ktc))), (m10, .inl (cI, 200, .inl (ia krc))), (m11, .inl (cI, 200, .inl (ia kmc))), (m12, .inl (cI, 200, .inl (ia ar))), (m13, .inl (cI, 200, .inl (ia am))), (m14, .inl (cI, 2, .inl (ia hpc))), (m15, .inl (cI, 200, .inl (ia (uI no ti nv)))), (m16, .inl (cI, 1200, .inl (ia ws))), (m3, .inl (cI, 200, .inl (ia ld)))] → va_S A s.heap H locs → ∀ ls : Array Slot, lv_has ls 8 [(0, .ref mo), (1, .int (iI lmv)), (2, .int (iI ti)), (3, .int (iI wtd)), (4, .int (iI wk)), (5, .int (iI bl)), (6, .int (iI k))] → W p l e R s m args below meth c H locs 0 0 Q (F0 m 162 ls [.int (iI v), .int (iI k), .ref m7]) := by
                  intro v hv hvb H locs hP hD hS ls hl
                  refine q_iast hx hb hK hP hD hS 4 0 rfl rfl (by omega) (by omega) (by decide) dX7_oneTick_162 (fun H locs hP hD hS => ?_)
                  have hP : va_P D vwCl [(mo, .inr (7, [.ref m0, .ref m1, .ref m2, .ref m3, .ref m4, .ref m5, .ref m6, .ref m7, .ref m8, .ref m9, .ref m10, .ref m11, .ref m12, .ref m13, .ref m14, .ref m15, .ref m16, .ref m17, .ref m18, .ref m19, .int (iI aa), .ref m21])), (m0, .inl (cI, 19, .inl (ia se))), (m5, .inl (cI, 24, .inl (ia pl))), (m6, .inl (cI, 8, .inl (ia ruc))), (m7, .inl (cI, 12, .inl (ia (uI st1 k v)))), (m8, .inl (cI, 12, .inl (ia snc))), (m9, .inl (cI, 200, .inl (ia ktc))), (m10, .inl (cI, 200, .inl (ia krc))), (m11, .inl (cI, 200, .inl (ia kmc))), (m12, .inl (cI, 200, .inl (ia ar))), (m13, .inl (cI, 200, .inl (ia am))), (m14, .inl (cI, 2, .inl (ia hpc))), (m15, .inl (cI, 200, .inl (ia (uI no ti nv)))), (m16, .inl (cI, 1200, .inl (ia ws))), (m3, .inl (cI, 200, .inl (ia ld)))] H := hP
                  have hD : va_D A [(mo, .inr (7, [.ref m0, .ref m1, .ref m2, .ref m3, .ref m4, .ref m5, .ref m6, .ref m7, .ref m8, .ref m9, .ref m10, .ref m11, .ref m12, .ref m13, .ref m14, .ref m15, .ref m16, .ref m17, .ref m18, .ref m19, .int (iI aa), .ref m21])), (m0, .inl (cI, 19, .inl (ia se))), (m5, .inl (cI, 24, .inl (ia pl))), (m6, .inl (cI, 8, .inl (ia ruc))), (m7, .inl (cI, 12, .inl (ia (uI st1 k v)))), (m8, .inl (cI, 12, .inl (ia snc))), (m9, .inl (cI, 200, .inl (ia ktc))), (m10, .inl (cI, 200, .inl (ia krc))), (m11, .inl (cI, 200, .inl (ia kmc))), (m12, .inl (cI, 200, .inl (ia ar))), (m13, .inl (cI, 200, .inl (ia am))), (m14, .inl (cI, 2, .inl (ia hpc))), (m15, .inl (cI, 200, .inl (ia (uI no ti nv)))), (m16, .inl (cI, 1200, .inl (ia ws))), (m3, .inl (cI, 200, .inl (ia ld)))] := hD
                  have hB_13 : BB 0 3 (uI st1 k v) := BB_uI hB_st1 (by omega)
                  refine lv_iload hx hb dX7_oneTick_163 (lv_at hl 4 rfl) ?_
                  refine lv_aload_n hx hb dX7_oneTick_165 rfl (lv_at hl 0 rfl) ?_
                  refine va_get (D := D) (ci := 7) (v := .ref m7) (C := RX7) (T := TX7) (N := 22) hx hb hts in_X7_oneTick_X7 hown hK hP 0 rfl rfl 7 (by decide) (hts _ lk_X7_oneTick_7) (fun _ h9 => h9) rfl dX7_oneTick_166 ?_
                  refine lv_iload hx hb dX7_oneTick_169 (lv_at hl 6 rfl) ?_
                  refine q_iald hx hb hK hP 4 0 rfl rfl (by omega) (by omega) (by decide) dX7_oneTick_171 ?_
                  have hb171 := hB_13 k
                  refine q_top (b := v) (by exact uI_s _ _ _) ?_
                  refine lv_iconst (v := iI 2) hx hb dX7_oneTick_172 rfl ?_
                  refine q_icmp_eq (tgt := 187) hx hb dX7_oneTick_173 (by decide) ⟨by omega, by omega⟩ ⟨by decide, by decide⟩ (fun c173 => ?_) (fun c173 => ?_)
                  ·
                    refine lv_iconst (v := iI 1) hx hb dX7_oneTick_187 rfl ?_
                    refine lv_goto (tgt := 192) hx hb dX7_oneTick_188 (by decide) ?_
                    refine q_iadd hx hb dX7_oneTick_192 ?_
                    refine lv_istore (lv' := [(4, .int (iI (wk + 1))), (0, .ref mo), (1, .int (iI lmv)), (2, .int (iI ti)), (3, .int (iI wtd)), (5, .int (iI bl)), (6, .int (iI k))]) hx hb dX7_oneTick_193 hl (by decide) rfl (fun ls hl => ?_)
                    refine lv_iload hx hb dX7_oneTick_195 (lv_at hl 5 rfl) ?_
                    refine lv_aload_n hx hb dX7_oneTick_197 rfl (lv_at hl 1 rfl) ?_
                    refine va_get (D := D) (ci := 7) (v := .ref m7) (C := RX7) (T := TX7) (N := 22) hx hb hts in_X7_oneTick_X7 hown hK hP 0 rfl rfl 7 (by decide) (hts _ lk_X7_oneTick_7) (fun _ h9 => h9) rfl dX7_oneTick_198 ?_
                    refine lv_iload hx hb dX7_oneTick_201 (lv_at hl 6 rfl) ?_
                    refine q_iald hx hb hK hP 4 0 rfl rfl (by omega) (by omega) (by decide) dX7_oneTick_203 ?_
                    have hb203 := hB_13 k
                    refine q_top (b := v) (by exact uI_s _ _ _) ?_
                    refine q_if_ne (tgt := 211) hx hb dX7_oneTick_204 (by decide) ⟨by omega, by omega⟩ (fun c204 => ?_) (fun c204 => ?_)
                    ·
                      refine lv_iload hx hb dX7_oneTick_211 (lv_at hl 6 rfl) ?_
                      refine lv_bipush (v := iI 8) hx hb dX7_oneTick_213 (by decide +kernel) ?_
                      refine q_icmp_ge (tgt := 228) hx hb dX7_oneTick_215 (by decide) ⟨by omega, by omega⟩ ⟨by decide, by decide⟩ (fun c215 => ?_) (fun c215 => ?_)
                      ·
                        refine lv_aload_n hx hb dX7_oneTick_228 rfl (lv_at hl 1 rfl) ?_
                        refine va_get (D := D) (ci := 7) (v := .ref m0) (C := RX7) (T := TX7) (N := 22) hx hb hts in_X7_oneTick_X7 hown hK hP 0 rfl rfl 0 (by decide) (hts _ lk_X7_oneTick_9) (fun _ h9 => h9) rfl dX7_oneTick_229 ?_
                        refine lv_bipush (v := iI 17) hx hb dX7_oneTick_232 (by decide +kernel) ?_
                        refine q_iald hx hb hK hP 1 0 rfl rfl (by omega) (by omega) (by decide) dX7_oneTick_234 ?_
                        have hb234 := hB_se 17
                        refine q_iadd hx hb dX7_oneTick_235 ?_
                        refine lv_istore (lv' := [(5, .int (iI (bl + (se 17)))), (4, .int (iI (wk + 1))), (0, .ref mo), (1, .int (iI lmv)), (2, .int (iI ti)), (3, .int (iI wtd)), (6, .int (iI k))]) hx hb dX7_oneTick_236 hl (by decide) rfl (fun ls hl => ?_)
                        refine q_iinc (k := 6) (lv' := [(6, .int (iI (k + 1))), (5, .int (iI (bl + (se 17)))), (4, .int (iI (wk + 1))), (0, .ref mo), (1, .int (iI lmv)), (2, .int (iI ti)), (3, .int (iI wtd))]) hx hb dX7_oneTick_238 hl rfl (by decide) rfl (fun ls hl => ?_)
                        refine lv_goto (tgt := 109) hx hb dX7_oneTick_241 (by decide) ?_
                        exact ih  (wk + 1) (bl + (se 17)) (k + 1) (uI st1 k v) hB_13 (by omega) (by rw [hs, hv, hS2d]; exact fl_any hk.1 (by omega)) (by rw [zl_s _ _ hk.1, zl_s _ _ hk.1, ← hv]; split <;> first | omega | (split <;> omega)) (by rw [sI_s _ hk.1, ← hbl]; unfold costF; rw [← hv]; split <;> first | omega | (split <;> omega)) (by omega) _ _ hP hD hS _ (lv_sub hl [3, 4, 5, 6, 2, 1, 0] rfl)
                      ·
                        refine lv_aload_n hx hb dX7_oneTick_218 rfl (lv_at hl 1 rfl) ?_
                        refine va_get (D := D) (ci := 7) (v := .ref m0) (C := RX7) (T := TX7) (N := 22) hx hb hts in_X7_oneTick_X7 hown hK hP 0 rfl rfl 0 (by decide) (hts _ lk_X7_oneTick_9) (fun _ h9 => h9) rfl dX7_oneTick_219 ?_
                        refine lv_bipush (v := iI 16) hx hb dX7_oneTick_222 (by decide +kernel) ?_
                        refine q_iald hx hb hK hP 1 0 rfl rfl (by omega) (by omega) (by decide) dX7_oneTick_224 ?_
                        have hb224 := hB_se 16
                        refine lv_goto (tgt := 235) hx hb dX7_oneTick_225 (by decide) ?_
                        refine q_iadd hx hb dX7_oneTick_235 ?_
                        refine lv_istore (lv' := [(5, .int (iI (bl + (se 16)))), (4, .int (iI (wk + 1))), (0, .ref mo), (1, .int (iI lmv)), (2, .int (iI ti)), (3, .int (iI wtd)), (6, .int (iI k))]) hx hb dX7_oneTick_236 hl (by decide) rfl (fun ls hl => ?_)
                        refine q_iinc (k := 6) (lv' := [(6, .int (iI (k + 1))), (5, .int (iI (bl + (se 16)))), (4, .int (iI (wk + 1))), (0, .ref mo), (1, .int (iI lmv)), (2, .int (iI ti)), (3, .int (iI wtd))]) hx hb dX7_oneTick_238 hl rfl (by decide) rfl (fun ls hl => ?_)
                        refine lv_goto (tgt := 109) hx hb dX7_oneTick_241 (by decide) ?_
                        exact ih  (wk + 1) (bl + (se 16)) (k + 1) (uI st1 k v) hB_13 (by omega) (by rw [hs, hv, hS2d]; exact fl_any hk.1 (by omega)) (by rw [zl_s _ _ hk.1, zl_s _ _ hk.1, ← hv]; split <;> first | omega | (split <;> omega)) (by rw [sI_s _ hk.1, ← hbl]; unfold costF; rw [← hv]; split <;> first | omega | (split <;> omega)) (by omega) _ _ hP hD hS _ (lv_sub hl [3, 4, 5, 6, 2, 1, 0] rfl)
                    ·
                      refine lv_iconst (v := iI 0) hx hb dX7_oneTick_207 rfl ?_
                      refine lv_goto (tgt := 235) hx hb dX7_oneTick_208 (by decide) ?_
                      refine q_iadd hx hb dX7_oneTick_235 ?_
                      refine lv_istore (lv' := [(5, .int (iI (bl + 0))), (4, .int (iI (wk + 1))), (0, .ref mo), (1, .int (iI lmv)), (2, .int (iI ti)), (3, .int (iI wtd)), (6, .int (iI k))]) hx hb dX7_oneTick_236 hl (by decide) rfl (fun ls hl => ?_)
                      refine q_iinc (k := 6) (lv' := [(6, .int (iI (k + 1))), (5, .int (iI (bl + 0))), (4, .int (iI (wk + 1))), (0, .ref mo), (1, .int (iI lmv)), (2, .int (iI ti)), (3, .int (iI wtd))]) hx hb dX7_oneTick_238 hl rfl (by decide) rfl (fun ls hl => ?_)
                      refine lv_goto (tgt := 109) hx hb dX7_oneTick_241 (by decide) ?_
                      exact ih  (wk + 1) (bl + 0) (k + 1) (uI st1 k v) hB_13 (by omega) (by rw [hs, hv, hS2d]; exact fl_any hk.1 (by omega)) (by rw [zl_s _ _ hk.1, zl_s _ _ hk.1, ← hv]; split <;> first | omega | (split <;> omega)) (by rw [sI_s _ hk.1, ← hbl]; unfold costF; rw [← hv]; split <;> first | omega | (split <;> omega)) (by omega) _ _ hP hD hS _ (lv_sub hl [3, 4, 5, 6, 2, 1, 0] rfl)
                  ·
                    refine lv_aload_n hx hb dX7_oneTick_176 rfl (lv_at hl 0 rfl) ?_
                    refine va_get (D := D) (ci := 7) (v := .ref m7) (C := RX7) (T := TX7) (N := 22) hx hb hts in_X7_oneTick_X7 hown hK hP 0 rfl rfl 7 (by decide) (hts _ lk_X7_oneTick_7) (fun _ h9 => h9) rfl dX7_oneTick_177 ?_
                    refine lv_iload hx hb dX7_oneTick_180 (lv_at hl 6 rfl) ?_
                    refine q_iald hx hb hK hP 4 0 rfl rfl (by omega) (by omega) (by decide) dX7_oneTick_182 ?_
                    have hb182 := hB_13 k
                    refine q_top (b := v) (by exact uI_s _ _ _) ?_
                    refine lv_iconst (v := iI 3) hx hb dX7_oneTick_183 rfl ?_
                    refine q_icmp_ne (tgt := 191) hx hb dX7_oneTick_184 (by decide) ⟨by omega, by omega⟩ ⟨by decide, by decide⟩ (fun c184 => ?_) (fun c184 => ?_)
                    ·
                      refine lv_iconst (v := iI 0) hx hb dX7_oneTick_191 rfl ?_
                      refine q_iadd hx hb dX7_oneTick_192 ?_
                      refine lv_istore (lv' := [(4, .int (iI (wk + 0))), (0, .ref mo), (1, .int (iI lmv)), (2, .int (iI ti)), (3, .int (iI wtd)), (5, .int (iI bl)), (6, .int (iI k))]) hx hb dX7_oneTick_193 hl (by decide) rfl (fun ls hl => ?_)
                      refine lv_iload hx hb dX7_oneTick_195 (lv_at hl 5 rfl) ?_
                      refine lv_aload_n hx hb dX7_oneTick_197 rfl (lv_at hl 1 rfl) ?_
                      refine va_get (D := D) (ci := 7) (v := .ref m7) (C := RX7) (T := TX7) (N := 22) hx hb hts in_X7_oneTick_X7 hown hK hP 0 rfl rfl 7 (by decide) (hts _ lk_X7_oneTick_7) (fun _ h9 => h9) rfl dX7_oneTick_198 ?_
                      refine lv_iload hx hb dX7_oneTick_201 (lv_at hl 6 rfl) ?_
                      refine q_iald hx hb hK hP 4 0 rfl rfl (by omega) (by omega) (by decide) dX7_oneTick_203 ?_
                      have hb203 := hB_13 k
                      refine q_top (b := v) (by exact uI_s _ _ _) ?_
                      refine q_if_ne (tgt := 211) hx hb dX7_oneTick_204 (by decide) ⟨by omega, by omega⟩ (fun c204 => ?_) (fun c204 => ?_)
                      ·
                        refine lv_iload hx hb dX7_oneTick_211 (lv_at hl 6 rfl) ?_
                        refine lv_bipush (v := iI 8) hx hb dX7_oneTick_213 (by decide +kernel) ?_
                        refine q_icmp_ge (tgt := 228) hx hb dX7_oneTick_215 (by decide) ⟨by omega, by omega⟩ ⟨by decide, by decide⟩ (fun c215 => ?_) (fun c215 => ?_)
                        ·
                          refine lv_aload_n hx hb dX7_oneTick_228 rfl (lv_at hl 1 rfl) ?_
                          refine va_get (D := D) (ci := 7) (v := .ref m0) (C := RX7) (T := TX7) (N := 22) hx hb hts in_X7_oneTick_X7 hown hK hP 0 rfl rfl 0 (by decide) (hts _ lk_X7_oneTick_9) (fun _ h9 => h9) rfl dX7_oneTick_229 ?_
                          refine lv_bipush (v := iI 17) hx hb dX7_oneTick_232 (by decide +kernel) ?_
                          refine q_iald hx hb hK hP 1 0 rfl rfl (by omega) (by omega) (by decide) dX7_oneTick_234 ?_
                          have hb234 := hB_se 17
                          refine q_iadd hx hb dX7_oneTick_235 ?_
                          refine lv_istore (lv' := [(5, .int (iI (bl + (se 17)))), (4, .int (iI (wk + 0))), (0, .ref mo), (1, .int (iI lmv)), (2, .int (iI ti)), (3, .int (iI wtd)), (6, .int (iI k))]) hx hb dX7_oneTick_236 hl (by decide) rfl (fun ls hl => ?_)
                          refine q_iinc (k := 6) (lv' := [(6, .int (iI (k + 1))), (5, .int (iI (bl + (se 17)))), (4, .int (iI (wk + 0))), (0, .ref mo), (1, .int (iI lmv)), (2, .int (iI ti)), (3, .int (iI wtd))]) hx hb dX7_oneTick_238 hl rfl (by decide) rfl (fun ls hl => ?_)
                          refine lv_goto (tgt := 109) hx hb dX7_oneTick_241 (by decide) ?_
                          exact ih  (wk + 0) (bl + (se 17)) (k + 1) (uI st1 k v) hB_13 (by omega) (by rw [hs, hv, hS2d]; exact fl_any hk.1 (by omega)) (by rw [zl_s _ _ hk.1, zl_s _ _ hk.1, ← hv]; split <;> first | omega | (split <;> omega)) (by rw [sI_s _ hk.1, ← hbl]; unfold costF; rw [← hv]; split <;> first | omega | (split <;> omega)) (by omega) _ _ hP hD hS _ (lv_sub hl [3, 4, 5, 6, 2, 1, 0] rfl)
                        ·
                          refine lv_aload_n hx hb dX7_oneTick_218 rfl (lv_at hl 1 rfl) ?_
                          refine va_get (D := D) (ci := 7) (v := .ref m0) (C := RX7) (T := TX7) (N := 22) hx hb hts in_X7_oneTick_X7 hown hK hP 0 rfl rfl 0 (by decide) (hts _ lk_X7_oneTick_9) (fun _ h9 => h9) rfl dX7_oneTick_219 ?_
                          refine lv_bipush (v := iI 16) hx hb dX7_oneTick_222 (by decide +kernel) ?_
                          refine q_iald hx hb hK hP 1 0 rfl rfl (by omega) (by omega) (by decide) dX7_oneTick_224 ?_
                          have hb224 := hB_se 16
                          refine lv_goto (tgt := 235) hx hb dX7_oneTick_225 (by decide) ?_
                          refine q_iadd hx hb dX7_oneTick_235 ?_
                          refine lv_istore (lv' := [(5, .int (iI (bl + (se 16)))), (4, .int (iI (wk + 0))), (0, .ref mo), (1, .int (iI lmv)), (2, .int (iI ti)), (3, .int (iI wtd)), (6, .int (iI k))]) hx hb dX7_oneTick_236 hl (by decide) rfl (fun ls hl => ?_)
                          refine q_iinc (k := 6) (lv' := [(6, .int (iI (k + 1))), (5, .int (iI (bl + (se 16)))), (4, .int (iI (wk + 0))), (0, .ref mo), (1, .int (iI lmv)), (2, .int (iI ti)), (3, .int (iI wtd))]) hx hb dX7_oneTick_238 hl rfl (by decide) rfl (fun ls hl => ?_)
                          refine lv_goto (tgt := 109) hx hb dX7_oneTick_241 (by decide) ?_
                          exact ih  (wk + 0) (bl + (se 16)) (k + 1) (uI st1 k v) hB_13 (by omega) (by rw [hs, hv, hS2d]; exact fl_any hk.1 (by omega)) (by rw [zl_s _ _ hk.1, zl_s _ _ hk.1, ← hv]; split <;> first | omega | (split <;> omega)) (by rw [sI_s _ hk.1, ← hbl]; unfold costF; rw [← hv]; split <;> first | omega | (split <;> omega)) (by omega) _ _ hP hD hS _ (lv_sub hl [3, 4, 5, 6, 2, 1, 0] rfl)
                      ·
                        refine lv_iconst (v := iI 0) hx hb dX7_oneTick_207 rfl ?_
                        refine lv_goto (tgt := 235) hx hb dX7_oneTick_208 (by decide) ?_
                        refine q_iadd hx hb dX7_oneTick_235 ?_
                        refine lv_istore (lv' := [(5, .int (iI (bl + 0))), (4, .int (iI (wk + 0))), (0, .ref mo), (1, .int (iI lmv)), (2, .int (iI ti)), (3, .int (iI wtd)), (6, .int (iI k))]) hx hb dX7_oneTick_236 hl (by decide) rfl (fun ls hl => ?_)
                        refine q_iinc (k := 6) (lv' := [(6, .int (iI (k + 1))), (5, .int (iI (bl + 0))), (4, .int (iI (wk + 0))), (0, .ref mo), (1, .int (iI lmv)), (2, .int (iI ti)), (3, .int (iI wtd))]) hx hb dX7_oneTick_238 hl rfl (by decide) rfl (fun ls hl => ?_)
                        refine lv_goto (tgt := 109) hx hb dX7_oneTick_241 (by decide) ?_
                        exact ih  (wk + 0) (bl + 0) (k + 1) (uI st1 k v) hB_13 (by omega) (by rw [hs, hv, hS2d]; exact fl_any hk.1 (by omega)) (by rw [zl_s _ _ hk.1, zl_s _ _ hk.1, ← hv]; split <;> first | omega | (split <;> omega)) (by rw [sI_s _ hk.1, ← hbl]; unfold costF; rw [← hv]; split <;> first | omega | (split <;> omega)) (by omega) _ _ hP hD hS _ (lv_sub hl [3, 4, 5, 6, 2, 1, 0] rfl)
                    ·
                      refine lv_iconst (v := iI 1) hx hb dX7_oneTick_187 rfl ?_
                      refine lv_goto (tgt := 192) hx hb dX7_oneTick_188 (by decide) ?_
                      refine q_iadd hx hb dX7_oneTick_192 ?_
                      refine lv_istore (lv' := [(4, .int (iI (wk + 1))), (0, .ref mo), (1, .int (iI lmv)), (2, .int (iI ti)), (3, .int (iI wtd)), (5, .int (iI bl)), (6, .int (iI k))]) hx hb dX7_oneTick_193 hl (by decide) rfl (fun ls hl => ?_)
                      refine lv_iload hx hb dX7_oneTick_195 (lv_at hl 5 rfl) ?_
                      refine lv_aload_n hx hb dX7_oneTick_197 rfl (lv_at hl 1 rfl) ?_
                      refine va_get (D := D) (ci := 7) (v := .ref m7) (C := RX7) (T := TX7) (N := 22) hx hb hts in_X7_oneTick_X7 hown hK hP 0 rfl rfl 7 (by decide) (hts _ lk_X7_oneTick_7) (fun _ h9 => h9) rfl dX7_oneTick_198 ?_
                      refine lv_iload hx hb dX7_oneTick_201 (lv_at hl 6 rfl) ?_
                      refine q_iald hx hb hK hP 4 0 rfl rfl (by omega) (by omega) (by decide) dX7_oneTick_203 ?_
                      have hb203 := hB_13 k
                      refine q_top (b := v) (by exact uI_s _ _ _) ?_
                      refine q_if_ne (tgt := 211) hx hb dX7_oneTick_204 (by decide) ⟨by omega, by omega⟩ (fun c204 => ?_) (fun c204 => ?_)
                      ·
                        refine lv_iload hx hb dX7_oneTick_211 (lv_at hl 6 rfl) ?_
                        refine lv_bipush (v := iI 8) hx hb dX7_oneTick_213 (by decide +kernel) ?_
                        refine q_icmp_ge (tgt := 228) hx hb dX7_oneTick_215 (by decide) ⟨by omega, by omega⟩ ⟨by decide, by decide⟩ (fun c215 => ?_) (fun c215 => ?_)
                        ·
                          refine lv_aload_n hx hb dX7_oneTick_228 rfl (lv_at hl 1 rfl) ?_
                          refine va_get (D := D) (ci := 7) (v := .ref m0) (C := RX7) (T := TX7) (N := 22) hx hb hts in_X7_oneTick_X7 hown hK hP 0 rfl rfl 0 (by decide) (hts _ lk_X7_oneTick_9) (fun _ h9 => h9) rfl dX7_oneTick_229 ?_
                          refine lv_bipush (v := iI 17) hx hb dX7_oneTick_232 (by decide +kernel) ?_
                          refine q_iald hx hb hK hP 1 0 rfl rfl (by omega) (by omega) (by decide) dX7_oneTick_234 ?_
                          have hb234 := hB_se 17
                          refine q_iadd hx hb dX7_oneTick_235 ?_
                          refine lv_istore (lv' := [(5, .int (iI (bl + (se 17)))), (4, .int (iI (wk + 1))), (0, .ref mo), (1, .int (iI lmv)), (2, .int (iI ti)), (3, .int (iI wtd)), (6, .int (iI k))]) hx hb dX7_oneTick_236 hl (by decide) rfl (fun ls hl => ?_)
                          refine q_iinc (k := 6) (lv' := [(6, .int (iI (k + 1))), (5, .int (iI (bl + (se 17)))), (4, .int (iI (wk + 1))), (0, .ref mo), (1, .int (iI lmv)), (2, .int (iI ti)), (3, .int (iI wtd))]) hx hb dX7_oneTick_238 hl rfl (by decide) rfl (fun ls hl => ?_)
                          refine lv_goto (tgt := 109) hx hb dX7_oneTick_241 (by decide) ?_
                          exact ih  (wk + 1) (bl + (se 17)) (k + 1) (uI st1 k v) hB_13 (by omega) (by rw [hs, hv, hS2d]; exact fl_any hk.1 (by omega)) (by rw [zl_s _ _ hk.1, zl_s _ _ hk.1, ← hv]; split <;> first | omega | (split <;> omega)) (by rw [sI_s _ hk.1, ← hbl]; unfold costF; rw [← hv]; split <;> first | omega | (split <;> omega)) (by omega) _ _ hP hD hS _ (lv_sub hl [3, 4, 5, 6, 2, 1, 0] rfl)
                        ·
                          refine lv_aload_n hx hb dX7_oneTick_218 rfl (lv_at hl 1 rfl) ?_
                          refine va_get (D := D) (ci := 7) (v := .ref m0) (C := RX7) (T := TX7) (N := 22) hx hb hts in_X7_oneTick_X7 hown hK hP 0 rfl rfl 0 (by decide) (hts _ lk_X7_oneTick_9) (fun _ h9 => h9) rfl dX7_oneTick_219 ?_
                          refine lv_bipush (v := iI 16) hx hb dX7_oneTick_222 (by decide +kernel) ?_
                          refine q_iald hx hb hK hP 1 0 rfl rfl (by omega) (by omega) (by decide) dX7_oneTick_224 ?_
                          have hb224 := hB_se 16
                          refine lv_goto (tgt := 235) hx hb dX7_oneTick_225 (by decide) ?_
                          refine q_iadd hx hb dX7_oneTick_235 ?_
                          refine lv_istore (lv' := [(5, .int (iI (bl + (se 16)))), (4, .int (iI (wk + 1))), (0, .ref mo), (1, .int (iI lmv)), (2, .int (iI ti)), (3, .int (iI wtd)), (6, .int (iI k))]) hx hb dX7_oneTick_236 hl (by decide) rfl (fun ls hl => ?_)
                          refine q_iinc (k := 6) (lv' := [(6, .int (iI (k + 1))), (5, .int (iI (bl + (se 16)))), (4, .int (iI (wk + 1))), (0, .ref mo), (1, .int (iI lmv)), (2, .int (iI ti)), (3, .int (iI wtd))]) hx hb dX7_oneTick_238 hl rfl (by decide) rfl (fun ls hl => ?_)
                          refine lv_goto (tgt := 109) hx hb dX7_oneTick_241 (by decide) ?_
                          exact ih  (wk + 1) (bl + (se 16)) (k + 1) (uI st1 k v) hB_13 (by omega) (by rw [hs, hv, hS2d]; exact fl_any hk.1 (by omega)) (by rw [zl_s _ _ hk.1, zl_s _ _ hk.1, ← hv]; split <;> first | omega | (split <;> omega)) (by rw [sI_s _ hk.1, ← hbl]; unfold costF; rw [← hv]; split <;> first | omega | (split <;> omega)) (by omega) _ _ hP hD hS _ (lv_sub hl [3, 4, 5, 6, 2, 1, 0] rfl)
                      ·
                        refine lv_iconst (v := iI 0) hx hb dX7_oneTick_207 rfl ?_
                        refine lv_goto (tgt := 235) hx hb dX7_oneTick_208 (by decide) ?_
                        refine q_iadd hx hb dX7_oneTick_235 ?_
                        refine lv_istore (lv' := [(5, .int (iI (bl + 0))), (4, .int (iI (wk + 1))), (0, .ref mo), (1, .int (iI lmv)), (2, .int (iI ti)), (3, .int (iI wtd)), (6, .int (iI k))]) hx hb dX7_oneTick_236 hl (by decide) rfl (fun ls hl => ?_)
                        refine q_iinc (k := 6) (lv' := [(6, .int (iI (k + 1))), (5, .int (iI (bl + 0))), (4, .int (iI (wk + 1))), (0, .ref mo), (1, .int (iI lmv)), (2, .int (iI ti)), (3, .int (iI wtd))]) hx hb dX7_oneTick_238 hl rfl (by decide) rfl (fun ls hl => ?_)
                        refine lv_goto (tgt := 109) hx hb dX7_oneTick_241 (by decide) ?_
                        exact ih  (wk + 1) (bl + 0) (k + 1) (uI st1 k v) hB_13 (by omega) (by rw [hs, hv, hS2d]; exact fl_any hk.1 (by omega)) (by rw [zl_s _ _ hk.1, zl_s _ _ hk.1, ← hv]; split <;> first | omega | (split <;> omega)) (by rw [sI_s _ hk.1, ← hbl]; unfold costF; rw [← hv]; split <;> first | omega | (split <;> omega)) (by omega) _ _ hP hD hS _ (lv_sub hl [3, 4, 5, 6, 2, 1, 0] rfl)
                refine va_get (D := D) (ci := 7) (v := .ref m7) (C := RX7) (T := TX7) (N := 22) hx hb hts in_X7_oneTick_X7 hown hK hP 0 rfl rfl 7 (by decide) (hts _ lk_X7_oneTick_7) (fun _ h9 => h9) rfl dX7_oneTick_123 ?_
                refine lv_iload hx hb dX7_oneTick_126 (lv_at hl 6 rfl) ?_
                refine q_iald hx hb hK hP 4 0 rfl rfl (by omega) (by omega) (by decide) dX7_oneTick_128 ?_
                have hb128 := hB_st1 k
                refine lv_iconst (v := iI 1) hx hb dX7_oneTick_129 rfl ?_
                refine q_icmp_ne (tgt := 155) hx hb dX7_oneTick_130 (by decide) ⟨by omega, by omega⟩ ⟨by decide, by decide⟩ (fun c130 => ?_) (fun c130 => ?_)
                ·
                  refine lv_aload_n hx hb dX7_oneTick_155 rfl (lv_at hl 0 rfl) ?_
                  refine va_get (D := D) (ci := 7) (v := .ref m7) (C := RX7) (T := TX7) (N := 22) hx hb hts in_X7_oneTick_X7 hown hK hP 0 rfl rfl 7 (by decide) (hts _ lk_X7_oneTick_7) (fun _ h9 => h9) rfl dX7_oneTick_156 ?_
                  refine lv_iload hx hb dX7_oneTick_159 (lv_at hl 6 rfl) ?_
                  refine q_iald hx hb hK hP 4 0 rfl rfl (by omega) (by omega) (by decide) dX7_oneTick_161 ?_
                  have hb161 := hB_st1 k
                  exact L162_3  (st1 k) (by rw [hS2d]; first | exact (fl_yes hk.1 (by omega) (decide_eq_true ⟨by omega, by omega⟩)).symm | (rw [fl_no (decide_eq_false (by omega))]; exact e0)) (by omega) _ _ hP hD hS _ (lv_sub hl [0, 1, 2, 3, 4, 5, 6] rfl)
                ·
                  refine lv_iload_n hx hb dX7_oneTick_133 rfl (lv_at hl 2 rfl) ?_
                  refine lv_aload_n hx hb dX7_oneTick_134 rfl (lv_at hl 0 rfl) ?_
                  refine va_get (D := D) (ci := 7) (v := .ref m8) (C := RX7) (T := TX7) (N := 22) hx hb hts in_X7_oneTick_X7 hown hK hP 0 rfl rfl 8 (by decide) (hts _ lk_X7_oneTick_8) (fun _ h9 => h9) rfl dX7_oneTick_135 ?_
                  refine lv_iload hx hb dX7_oneTick_138 (lv_at hl 6 rfl) ?_
                  refine q_iald hx hb hK hP 5 0 rfl rfl (by omega) (by omega) (by decide) dX7_oneTick_140 ?_
                  have hb140 := hB_snc k
                  refine q_isub hx hb dX7_oneTick_141 ?_
                  refine lv_aload_n hx hb dX7_oneTick_142 rfl (lv_at hl 0 rfl) ?_
                  refine va_get (D := D) (ci := 7) (v := .ref m0) (C := RX7) (T := TX7) (N := 22) hx hb hts in_X7_oneTick_X7 hown hK hP 0 rfl rfl 0 (by decide) (hts _ lk_X7_oneTick_9) (fun _ h9 => h9) rfl dX7_oneTick_143 ?_
                  refine lv_iconst (v := iI 0) hx hb dX7_oneTick_146 rfl ?_
                  refine q_iald hx hb hK hP 1 0 rfl rfl (by omega) (by omega) (by decide) dX7_oneTick_147 ?_
                  have hb147 := hB_se 0
                  refine q_icmp_lt (tgt := 155) hx hb dX7_oneTick_148 (by decide) ⟨by omega, by omega⟩ ⟨by omega, by omega⟩ (fun c148 => ?_) (fun c148 => ?_)
                  ·
                    refine lv_aload_n hx hb dX7_oneTick_155 rfl (lv_at hl 0 rfl) ?_
                    refine va_get (D := D) (ci := 7) (v := .ref m7) (C := RX7) (T := TX7) (N := 22) hx hb hts in_X7_oneTick_X7 hown hK hP 0 rfl rfl 7 (by decide) (hts _ lk_X7_oneTick_7) (fun _ h9 => h9) rfl dX7_oneTick_156 ?_
                    refine lv_iload hx hb dX7_oneTick_159 (lv_at hl 6 rfl) ?_
                    refine q_iald hx hb hK hP 4 0 rfl rfl (by omega) (by omega) (by decide) dX7_oneTick_161 ?_
                    have hb161 := hB_st1 k
                    exact L162_3  (st1 k) (by rw [hS2d]; first | exact (fl_yes hk.1 (by omega) (decide_eq_true ⟨by omega, by omega⟩)).symm | (rw [fl_no (decide_eq_false (by omega))]; exact e0)) (by omega) _ _ hP hD hS _ (lv_sub hl [0, 1, 2, 3, 4, 5, 6] rfl)
                  ·
                    refine lv_iconst (v := iI 2) hx hb dX7_oneTick_151 rfl ?_
                    refine lv_goto (tgt := 162) hx hb dX7_oneTick_152 (by decide) ?_
                    exact L162_3  2 (by rw [hS2d]; first | exact (fl_yes hk.1 (by omega) (decide_eq_true ⟨by omega, by omega⟩)).symm | (rw [fl_no (decide_eq_false (by omega))]; exact e0)) (by omega) _ _ hP hD hS _ (lv_sub hl [0, 1, 2, 3, 4, 5, 6] rfl)
          exact L109_2 100 0 0 0 stc hB_stc (by omega) (by rw [fl_nil (by omega)]) (by rfl) (by rfl) (by omega) _ _ hP hD hS _ (lv_sub hl [3, 4, 5, 6, 2, 1, 0] rfl)
        refine lv_iload_n hx hb dX7_oneTick_80 rfl (lv_at hl 2 rfl) ?_
        refine q_if_eq (tgt := 88) hx hb dX7_oneTick_81 (by decide) ⟨by omega, by omega⟩ (fun c81 => ?_) (fun c81 => ?_)
        ·
          refine lv_iload_n hx hb dX7_oneTick_88 rfl (lv_at hl 0 rfl) ?_
          exact L89_1  wtd (by first | (rw [if_neg (by omega)]) | (rw [if_pos (by omega)])) (by omega) _ _ hP hD hS _ (lv_sub hl [1, 2, 3, 0] rfl)
        ·
          refine lv_iconst (v := iI (-1)) hx hb dX7_oneTick_84 rfl ?_
          refine lv_goto (tgt := 89) hx hb dX7_oneTick_85 (by decide) ?_
          exact L89_1  (-1) (by first | (rw [if_neg (by omega)]) | (rw [if_pos (by omega)])) (by omega) _ _ hP hD hS _ (lv_sub hl [1, 2, 3, 0] rfl)
      ·
        refine lv_aload_n hx hb dX7_oneTick_19 rfl (lv_at hl 0 rfl) ?_
        refine lv_iload_n hx hb dX7_oneTick_20 rfl (lv_at hl 2 rfl) ?_
        refine lv_aload_n hx hb dX7_oneTick_21 rfl (lv_at hl 0 rfl) ?_
        refine va_get (D := D) (ci := 7) (v := .ref m12) (C := RX7) (T := TX7) (N := 22) hx hb hts in_X7_oneTick_X7 hown hK hP 0 rfl rfl 12 (by decide) (hts _ lk_X7_oneTick_3) (fun _ h9 => h9) rfl dX7_oneTick_22 ?_
        refine lv_iload_n hx hb dX7_oneTick_25 rfl (lv_at hl 3 rfl) ?_
        refine q_iald hx hb hK hP 9 0 rfl rfl (by omega) (by omega) (by decide) dX7_oneTick_26 ?_
        have hb26 := hB_ar k
        refine lv_aload_n hx hb dX7_oneTick_27 rfl (lv_at hl 0 rfl) ?_
        refine va_get (D := D) (ci := 7) (v := .ref m13) (C := RX7) (T := TX7) (N := 22) hx hb hts in_X7_oneTick_X7 hown hK hP 0 rfl rfl 13 (by decide) (hts _ lk_X7_oneTick_4) (fun _ h9 => h9) rfl dX7_oneTick_28 ?_
        refine lv_iload_n hx hb dX7_oneTick_31 rfl (lv_at hl 3 rfl) ?_
        refine q_iald hx hb hK hP 10 0 rfl rfl (by omega) (by omega) (by decide) dX7_oneTick_32 ?_
        have hb32 := hB_am k
        have hrp := R_pos hpR hk.1 (by omega)
        refine q_callVV (wr := [(m0, .inl (cI, 19, .inl (ia se))), (m5, .inl (cI, 24, .inl (ia pl))), (m6, .inl (cI, 8, .inl (ia ru))), (m7, .inl (cI, 12, .inl (ia st))), (m8, .inl (cI, 12, .inl (ia sn))), (m12, .inl (cI, 200, .inl (ia ar))), (m13, .inl (cI, 200, .inl (ia am))), (m15, .inl (cI, 200, .inl (ia no))), (m16, .inl (cI, 1200, .inl (ia ws))), (m3, .inl (cI, 200, .inl (ia ld)))]) (wn := fun (u : (Int → Int) × (Int → Int) × (Int → Int) × (Int → Int)) => [(mo, .inr (7, [.ref m0, .ref m1, .ref m2, .ref m3, .ref m4, .ref m5, .ref m6, .ref m7, .ref m8, .ref m9, .ref m10, .ref m11, .ref m12, .ref m13, .ref m14, .ref m15, .ref m16, .ref m17, .ref m18, .ref m19, .int (iI aa), .ref m21])), (m0, .inl (cI, 19, .inl (ia se))), (m5, .inl (cI, 24, .inl (ia pl))), (m6, .inl (cI, 8, .inl (ia ru))), (m7, .inl (cI, 12, .inl (ia st))), (m8, .inl (cI, 12, .inl (ia sn))), (m9, .inl (cI, 200, .inl (ia u.1))), (m10, .inl (cI, 200, .inl (ia u.2.1))), (m11, .inl (cI, 200, .inl (ia u.2.2.1))), (m12, .inl (cI, 200, .inl (ia ar))), (m13, .inl (cI, 200, .inl (ia am))), (m14, .inl (cI, 2, .inl (ia u.2.2.2))), (m15, .inl (cI, 200, .inl (ia no))), (m16, .inl (cI, 1200, .inl (ia ws))), (m3, .inl (cI, 200, .inl (ia ld)))]) (rest := []) [.int (iI ti), .int (iI (ar k)), .int (iI (am k))] ⟨hx, hb, hml, hown, hts⟩ (c_X7_join l D cI cZ cII mo m9 m10 m11 m14 m0 m1 m2 m3 m4 m5 m6 m7 m8 m12 m13 m15 m16 m17 m18 m19 aa m21 kt1 kr1 km1 hpk ti (ar k) (am k) hB_kt1 hB_kr1 hB_km1 (by omega) (by omega) (by omega) (by omega)) (cwV 3 hts gX7_oneTick_X7_join rfl rfl rfl (by decide +kernel) (by rw [hRf, hRl]; exact ⟨Nat.le_of_ble_eq_true rfl, Nat.le_of_ble_eq_true rfl⟩)) hK hP hD hS hA hN [0, 6, 7, 8, 11] [1, 2, 3, 4, 5, 9, 10, 12, 13, 14] [10, 0, 1, 2, 3, 4, 11, 12, 13, 5, 6, 14, 7, 8, 9] 0 7 rfl rfl rfl rfl rfl rfl (by decide) rfl (fun u => rfl) rfl hl.1 rfl (Nat.le_of_ble_eq_true rfl) dX7_oneTick_33 ⟨Nat.zero_le _, Nat.zero_le _⟩ (fun u H locs hw hP hD hS => ?_)
        obtain ⟨kt_14, kr_15, km_16, hp_17⟩ := u
        try dsimp only at hw
        have hP : va_P D vwCl [(mo, .inr (7, [.ref m0, .ref m1, .ref m2, .ref m3, .ref m4, .ref m5, .ref m6, .ref m7, .ref m8, .ref m9, .ref m10, .ref m11, .ref m12, .ref m13, .ref m14, .ref m15, .ref m16, .ref m17, .ref m18, .ref m19, .int (iI aa), .ref m21])), (m0, .inl (cI, 19, .inl (ia se))), (m5, .inl (cI, 24, .inl (ia pl))), (m6, .inl (cI, 8, .inl (ia ru))), (m7, .inl (cI, 12, .inl (ia st))), (m8, .inl (cI, 12, .inl (ia sn))), (m9, .inl (cI, 200, .inl (ia kt_14))), (m10, .inl (cI, 200, .inl (ia kr_15))), (m11, .inl (cI, 200, .inl (ia km_16))), (m12, .inl (cI, 200, .inl (ia ar))), (m13, .inl (cI, 200, .inl (ia am))), (m14, .inl (cI, 2, .inl (ia hp_17))), (m15, .inl (cI, 200, .inl (ia no))), (m16, .inl (cI, 1200, .inl (ia ws))), (m3, .inl (cI, 200, .inl (ia ld)))] H := hP
        have hD : va_D A [(mo, .inr (7, [.ref m0, .ref m1, .ref m2, .ref m3, .ref m4, .ref m5, .ref m6, .ref m7, .ref m8, .ref m9, .ref m10, .ref m11, .ref m12, .ref m13, .ref m14, .ref m15, .ref m16, .ref m17, .ref m18, .ref m19, .int (iI aa), .ref m21])), (m0, .inl (cI, 19, .inl (ia se))), (m5, .inl (cI, 24, .inl (ia pl))), (m6, .inl (cI, 8, .inl (ia ru))), (m7, .inl (cI, 12, .inl (ia st))), (m8, .inl (cI, 12, .inl (ia sn))), (m9, .inl (cI, 200, .inl (ia kt_14))), (m10, .inl (cI, 200, .inl (ia kr_15))), (m11, .inl (cI, 200, .inl (ia km_16))), (m12, .inl (cI, 200, .inl (ia ar))), (m13, .inl (cI, 200, .inl (ia am))), (m14, .inl (cI, 2, .inl (ia hp_17))), (m15, .inl (cI, 200, .inl (ia no))), (m16, .inl (cI, 1200, .inl (ia ws))), (m3, .inl (cI, 200, .inl (ia ld)))] := hD
        obtain ⟨e33, f33, g33, hB_kt_14, hB_kr_15, hB_km_16⟩ := hw
        refine q_iinc (k := 3) (lv' := [(3, .int (iI (k + 1))), (0, .ref mo), (1, .int (iI lmv)), (2, .int (iI ti))]) hx hb dX7_oneTick_36 hl rfl (by decide) rfl (fun ls hl => ?_)
        refine lv_goto (tgt := 9) hx hb dX7_oneTick_39 (by decide) ?_
        exact ih  (k + 1) kt_14 kr_15 km_16 hp_17 hB_kt_14 hB_kr_15 hB_km_16 (by omega) (by rw [g33]; exact hh1) (by rw [f33, if_pos (by omega)]; omega) (by rw [e33, if_pos (by omega), hL1, hL_s _ _ _ hk.1, List.append_assoc]) (by omega) _ _ hP hD hS _ (lv_sub hl [1, 2, 3, 0] rfl)
  exact L9_0 1000 0 kt kr km hp hB_kt hB_kr hB_km (by omega) (by rfl) (by omega) (by rw [hW, hL_0, List.append_nil]) (by omega) _ _ hP hD hS _ (lv_sub hl [2, 3, 1, 0] rfl)

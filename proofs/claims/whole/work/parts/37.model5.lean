theorem in_X7_begin_X7 : ∀ w ∈ wsX70, w ∈ wsX7_begin := fun _ h => List.mem_cons_of_mem _ (List.mem_append_right _ h)
theorem lk_X7_begin_1 : Cond.fieldLink RX7 29 "MoreHandsModel" "run" "[I" ∈ wsX7_begin := List.mem_of_getElem? (i := 1) rfl
theorem lk_X7_begin_2 : Cond.fieldLink RX7 32 "MoreHandsModel" "states" "[I" ∈ wsX7_begin := List.mem_of_getElem? (i := 2) rfl
theorem lk_X7_begin_3 : Cond.fieldLink RX7 35 "MoreHandsModel" "since" "[I" ∈ wsX7_begin := List.mem_of_getElem? (i := 3) rfl
theorem lk_X7_begin_4 : Cond.fieldLink RX7 53 "MoreHandsModel" "heaps" "[I" ∈ wsX7_begin := List.mem_of_getElem? (i := 4) rfl
set_option maxHeartbeats 4000000 in
set_option maxRecDepth 100000 in
theorem c_X7_begin (l : Launch) (D : va_G) (cI cZ cII : ClassId) (mo : Nat) (m6 : Nat) (m7 : Nat) (m8 : Nat) (m14 : Nat) (m0 : Nat) (m1 : Nat) (m2 : Nat) (m3 : Nat) (m4 : Nat) (m5 : Nat) (m9 : Nat) (m10 : Nat) (m11 : Nat) (m12 : Nat) (m13 : Nat) (m15 : Nat) (m16 : Nat) (m17 : Nat) (m18 : Nat) (m19 : Nat) (aa : Int) (m21 : Nat) (ru : Int → Int) (st : Int → Int) (sn : Int → Int) (hp : Int → Int) (hB_st : BB 0 3 st) (hB_sn : BB 0 200 sn) : CtV l yX7_begin wsX7_begin 0 0 D (ty3 cI cZ cII) [.ref mo] [(mo, .inr (7, [.ref m0, .ref m1, .ref m2, .ref m3, .ref m4, .ref m5, .ref m6, .ref m7, .ref m8, .ref m9, .ref m10, .ref m11, .ref m12, .ref m13, .ref m14, .ref m15, .ref m16, .ref m17, .ref m18, .ref m19, .int (iI aa), .ref m21])), (m6, .inl (cI, 8, .inl (ia ru))), (m7, .inl (cI, 12, .inl (ia st))), (m8, .inl (cI, 12, .inl (ia sn))), (m14, .inl (cI, 2, .inl (ia hp)))] (fun (u : (Int → Int) × (Int → Int) × (Int → Int) × (Int → Int)) => (∀ j, 0 ≤ j → j < 8 → u.1 j = (if j = 5 ∨ j = 6 then -1 else 0)) ∧ u.2.1 = fl (fun _ => true) 0 st 0 12 ∧ u.2.2.1 = fl (fun _ => true) 0 sn 0 12 ∧ u.2.2.2 0 = 0 ∧ u.2.2.2 1 = 0 ∧ BB 0 3 u.2.1 ∧ BB 0 200 u.2.2.1) (fun u => [(mo, .inr (7, [.ref m0, .ref m1, .ref m2, .ref m3, .ref m4, .ref m5, .ref m6, .ref m7, .ref m8, .ref m9, .ref m10, .ref m11, .ref m12, .ref m13, .ref m14, .ref m15, .ref m16, .ref m17, .ref m18, .ref m19, .int (iI aa), .ref m21])), (m6, .inl (cI, 8, .inl (ia u.1))), (m7, .inl (cI, 12, .inl (ia u.2.1))), (m8, .inl (cI, 12, .inl (ia u.2.2.1))), (m14, .inl (cI, 2, .inl (ia u.2.2.2)))]) := by
  refine CtV.mk (cc := cX7_begin) (maxL := 2) (ret := none) (by decide) rfl (Nat.le_of_ble_eq_true rfl) ?_
  intro p e s m below meth c A ls R args Q hx hb hml hr hts hown hlocks hA hK hP hD hN hS hl hRf hRl hQ
  have hl : lv_has ls 2 [(0, .ref mo)] := hl
  have hown : s.vm.findClass RX7 = some m.cls := hown
  refine lv_iconst (v := iI 0) hx hb dX7_begin_0 rfl ?_
  refine lv_istore_n (lv' := [(1, .int (iI 0)), (0, .ref mo)]) hx hb dX7_begin_1 rfl hl (by decide) rfl (fun ls hl => ?_)
  have L2_0 : ∀ (n : Nat), ∀ (k : Int) (ru1 : Int → Int), (hk : 0 ≤ k ∧ k ≤ 8) → (hrk : ∀ j, 0 ≤ j → j < k → ru1 j = (if j = 5 ∨ j = 6 then -1 else 0)) → (8 - k) < (n : Int) → ∀ (H : Heap) (locs : List Loc), va_P D vwCl [(mo, .inr (7, [.ref m0, .ref m1, .ref m2, .ref m3, .ref m4, .ref m5, .ref m6, .ref m7, .ref m8, .ref m9, .ref m10, .ref m11, .ref m12, .ref m13, .ref m14, .ref m15, .ref m16, .ref m17, .ref m18, .ref m19, .int (iI aa), .ref m21])), (m6, .inl (cI, 8, .inl (ia ru1))), (m7, .inl (cI, 12, .inl (ia st))), (m8, .inl (cI, 12, .inl (ia sn))), (m14, .inl (cI, 2, .inl (ia hp)))] H → va_D A [(mo, .inr (7, [.ref m0, .ref m1, .ref m2, .ref m3, .ref m4, .ref m5, .ref m6, .ref m7, .ref m8, .ref m9, .ref m10, .ref m11, .ref m12, .ref m13, .ref m14, .ref m15, .ref m16, .ref m17, .ref m18, .ref m19, .int (iI aa), .ref m21])), (m6, .inl (cI, 8, .inl (ia ru1))), (m7, .inl (cI, 12, .inl (ia st))), (m8, .inl (cI, 12, .inl (ia sn))), (m14, .inl (cI, 2, .inl (ia hp)))] → va_S A s.heap H locs → ∀ ls : Array Slot, lv_has ls 2 [(0, .ref mo), (1, .int (iI k))] → W p l e R s m args below meth c H locs 0 0 Q (F0 m 2 ls []) := by
    intro n
    induction n with
    | zero => intro k ru1 hk hrk hm; exact absurd hm (by omega)
    | succ n ih =>
      intro k ru1 hk hrk hm H locs hP hD hS ls hl
      refine lv_iload_n hx hb dX7_begin_2 rfl (lv_at hl 1 rfl) ?_
      refine lv_bipush (v := iI 8) hx hb dX7_begin_3 (by decide +kernel) ?_
      refine q_icmp_ge (tgt := 36) hx hb dX7_begin_5 (by decide) ⟨by omega, by omega⟩ ⟨by decide, by decide⟩ (fun c5 => ?_) (fun c5 => ?_)
      ·
        refine lv_iconst (v := iI 0) hx hb dX7_begin_36 rfl ?_
        refine lv_istore_n (lv' := [(1, .int (iI 0)), (0, .ref mo)]) hx hb dX7_begin_37 rfl hl (by decide) rfl (fun ls hl => ?_)
        have L38_1 : ∀ (n : Nat), ∀ (k : Int) (st1 : Int → Int) (sn1 : Int → Int), (hB_st1 : BB 0 3 st1) → (hB_sn1 : BB 0 200 sn1) → (hk2 : 0 ≤ k ∧ k ≤ 12) → (hs : st1 = fl (fun _ => true) 0 st 0 k) → (hg : sn1 = fl (fun _ => true) 0 sn 0 k) → (12 - k) < (n : Int) → ∀ (H : Heap) (locs : List Loc), va_P D vwCl [(mo, .inr (7, [.ref m0, .ref m1, .ref m2, .ref m3, .ref m4, .ref m5, .ref m6, .ref m7, .ref m8, .ref m9, .ref m10, .ref m11, .ref m12, .ref m13, .ref m14, .ref m15, .ref m16, .ref m17, .ref m18, .ref m19, .int (iI aa), .ref m21])), (m6, .inl (cI, 8, .inl (ia ru1))), (m7, .inl (cI, 12, .inl (ia st1))), (m8, .inl (cI, 12, .inl (ia sn1))), (m14, .inl (cI, 2, .inl (ia hp)))] H → va_D A [(mo, .inr (7, [.ref m0, .ref m1, .ref m2, .ref m3, .ref m4, .ref m5, .ref m6, .ref m7, .ref m8, .ref m9, .ref m10, .ref m11, .ref m12, .ref m13, .ref m14, .ref m15, .ref m16, .ref m17, .ref m18, .ref m19, .int (iI aa), .ref m21])), (m6, .inl (cI, 8, .inl (ia ru1))), (m7, .inl (cI, 12, .inl (ia st1))), (m8, .inl (cI, 12, .inl (ia sn1))), (m14, .inl (cI, 2, .inl (ia hp)))] → va_S A s.heap H locs → ∀ ls : Array Slot, lv_has ls 2 [(0, .ref mo), (1, .int (iI k))] → W p l e R s m args below meth c H locs 0 0 Q (F0 m 38 ls []) := by
          intro n
          induction n with
          | zero => intro k st1 sn1 hB_st1 hB_sn1 hk2 hs hg hm; exact absurd hm (by omega)
          | succ n ih =>
            intro k st1 sn1 hB_st1 hB_sn1 hk2 hs hg hm H locs hP hD hS ls hl
            refine lv_iload_n hx hb dX7_begin_38 rfl (lv_at hl 1 rfl) ?_
            refine lv_bipush (v := iI 12) hx hb dX7_begin_39 (by decide +kernel) ?_
            refine q_icmp_ge (tgt := 64) hx hb dX7_begin_41 (by decide) ⟨by omega, by omega⟩ ⟨by decide, by decide⟩ (fun c41 => ?_) (fun c41 => ?_)
            ·
              refine lv_aload_n hx hb dX7_begin_64 rfl (lv_at hl 0 rfl) ?_
              refine va_get (D := D) (ci := 7) (v := .ref m14) (C := RX7) (T := TX7) (N := 22) hx hb hts in_X7_begin_X7 hown hK hP 0 rfl rfl 14 (by decide) (hts _ lk_X7_begin_4) (fun _ h9 => h9) rfl dX7_begin_65 ?_
              refine lv_iconst (v := iI 0) hx hb dX7_begin_68 rfl ?_
              refine lv_iconst (v := iI 0) hx hb dX7_begin_69 rfl ?_
              refine q_iast hx hb hK hP hD hS 4 0 rfl rfl (by omega) (by omega) (by decide) dX7_begin_70 (fun H locs hP hD hS => ?_)
              have hP : va_P D vwCl [(mo, .inr (7, [.ref m0, .ref m1, .ref m2, .ref m3, .ref m4, .ref m5, .ref m6, .ref m7, .ref m8, .ref m9, .ref m10, .ref m11, .ref m12, .ref m13, .ref m14, .ref m15, .ref m16, .ref m17, .ref m18, .ref m19, .int (iI aa), .ref m21])), (m6, .inl (cI, 8, .inl (ia ru1))), (m7, .inl (cI, 12, .inl (ia st1))), (m8, .inl (cI, 12, .inl (ia sn1))), (m14, .inl (cI, 2, .inl (ia (uI hp 0 0))))] H := hP
              have hD : va_D A [(mo, .inr (7, [.ref m0, .ref m1, .ref m2, .ref m3, .ref m4, .ref m5, .ref m6, .ref m7, .ref m8, .ref m9, .ref m10, .ref m11, .ref m12, .ref m13, .ref m14, .ref m15, .ref m16, .ref m17, .ref m18, .ref m19, .int (iI aa), .ref m21])), (m6, .inl (cI, 8, .inl (ia ru1))), (m7, .inl (cI, 12, .inl (ia st1))), (m8, .inl (cI, 12, .inl (ia sn1))), (m14, .inl (cI, 2, .inl (ia (uI hp 0 0))))] := hD
              refine lv_aload_n hx hb dX7_begin_71 rfl (lv_at hl 0 rfl) ?_
              refine va_get (D := D) (ci := 7) (v := .ref m14) (C := RX7) (T := TX7) (N := 22) hx hb hts in_X7_begin_X7 hown hK hP 0 rfl rfl 14 (by decide) (hts _ lk_X7_begin_4) (fun _ h9 => h9) rfl dX7_begin_72 ?_
              refine lv_iconst (v := iI 1) hx hb dX7_begin_75 rfl ?_
              refine lv_iconst (v := iI 0) hx hb dX7_begin_76 rfl ?_
              refine q_iast hx hb hK hP hD hS 4 0 rfl rfl (by omega) (by omega) (by decide) dX7_begin_77 (fun H locs hP hD hS => ?_)
              have hP : va_P D vwCl [(mo, .inr (7, [.ref m0, .ref m1, .ref m2, .ref m3, .ref m4, .ref m5, .ref m6, .ref m7, .ref m8, .ref m9, .ref m10, .ref m11, .ref m12, .ref m13, .ref m14, .ref m15, .ref m16, .ref m17, .ref m18, .ref m19, .int (iI aa), .ref m21])), (m6, .inl (cI, 8, .inl (ia ru1))), (m7, .inl (cI, 12, .inl (ia st1))), (m8, .inl (cI, 12, .inl (ia sn1))), (m14, .inl (cI, 2, .inl (ia (uI (uI hp 0 0) 1 0))))] H := hP
              have hD : va_D A [(mo, .inr (7, [.ref m0, .ref m1, .ref m2, .ref m3, .ref m4, .ref m5, .ref m6, .ref m7, .ref m8, .ref m9, .ref m10, .ref m11, .ref m12, .ref m13, .ref m14, .ref m15, .ref m16, .ref m17, .ref m18, .ref m19, .int (iI aa), .ref m21])), (m6, .inl (cI, 8, .inl (ia ru1))), (m7, .inl (cI, 12, .inl (ia st1))), (m8, .inl (cI, 12, .inl (ia sn1))), (m14, .inl (cI, 2, .inl (ia (uI (uI hp 0 0) 1 0))))] := hD
              rw [hQ]
              refine q_retV (ru1, st1, sn1, (uI (uI hp 0 0) 1 0)) hx hb hr hlocks hK hP hD hS dX7_begin_78 ?_
              try dsimp only
              refine ⟨fun j q1 q2 => hrk j q1 (by omega), by rw [hs, show k = 12 by omega], by rw [hg, show k = 12 by omega], ?_, uI_s _ _ _, hB_st1, hB_sn1⟩
              rw [uI_10, uI_s]
            ·
              refine lv_aload_n hx hb dX7_begin_44 rfl (lv_at hl 0 rfl) ?_
              refine va_get (D := D) (ci := 7) (v := .ref m7) (C := RX7) (T := TX7) (N := 22) hx hb hts in_X7_begin_X7 hown hK hP 0 rfl rfl 7 (by decide) (hts _ lk_X7_begin_2) (fun _ h9 => h9) rfl dX7_begin_45 ?_
              refine lv_iload_n hx hb dX7_begin_48 rfl (lv_at hl 1 rfl) ?_
              refine lv_iconst (v := iI 0) hx hb dX7_begin_49 rfl ?_
              refine q_iast hx hb hK hP hD hS 2 0 rfl rfl (by omega) (by omega) (by decide) dX7_begin_50 (fun H locs hP hD hS => ?_)
              have hP : va_P D vwCl [(mo, .inr (7, [.ref m0, .ref m1, .ref m2, .ref m3, .ref m4, .ref m5, .ref m6, .ref m7, .ref m8, .ref m9, .ref m10, .ref m11, .ref m12, .ref m13, .ref m14, .ref m15, .ref m16, .ref m17, .ref m18, .ref m19, .int (iI aa), .ref m21])), (m6, .inl (cI, 8, .inl (ia ru1))), (m7, .inl (cI, 12, .inl (ia (uI st1 k 0)))), (m8, .inl (cI, 12, .inl (ia sn1))), (m14, .inl (cI, 2, .inl (ia hp)))] H := hP
              have hD : va_D A [(mo, .inr (7, [.ref m0, .ref m1, .ref m2, .ref m3, .ref m4, .ref m5, .ref m6, .ref m7, .ref m8, .ref m9, .ref m10, .ref m11, .ref m12, .ref m13, .ref m14, .ref m15, .ref m16, .ref m17, .ref m18, .ref m19, .int (iI aa), .ref m21])), (m6, .inl (cI, 8, .inl (ia ru1))), (m7, .inl (cI, 12, .inl (ia (uI st1 k 0)))), (m8, .inl (cI, 12, .inl (ia sn1))), (m14, .inl (cI, 2, .inl (ia hp)))] := hD
              have hB_1 : BB 0 3 (uI st1 k 0) := BB_uI hB_st1 (by omega)
              refine lv_aload_n hx hb dX7_begin_51 rfl (lv_at hl 0 rfl) ?_
              refine va_get (D := D) (ci := 7) (v := .ref m8) (C := RX7) (T := TX7) (N := 22) hx hb hts in_X7_begin_X7 hown hK hP 0 rfl rfl 8 (by decide) (hts _ lk_X7_begin_3) (fun _ h9 => h9) rfl dX7_begin_52 ?_
              refine lv_iload_n hx hb dX7_begin_55 rfl (lv_at hl 1 rfl) ?_
              refine lv_iconst (v := iI 0) hx hb dX7_begin_56 rfl ?_
              refine q_iast hx hb hK hP hD hS 3 0 rfl rfl (by omega) (by omega) (by decide) dX7_begin_57 (fun H locs hP hD hS => ?_)
              have hP : va_P D vwCl [(mo, .inr (7, [.ref m0, .ref m1, .ref m2, .ref m3, .ref m4, .ref m5, .ref m6, .ref m7, .ref m8, .ref m9, .ref m10, .ref m11, .ref m12, .ref m13, .ref m14, .ref m15, .ref m16, .ref m17, .ref m18, .ref m19, .int (iI aa), .ref m21])), (m6, .inl (cI, 8, .inl (ia ru1))), (m7, .inl (cI, 12, .inl (ia (uI st1 k 0)))), (m8, .inl (cI, 12, .inl (ia (uI sn1 k 0)))), (m14, .inl (cI, 2, .inl (ia hp)))] H := hP
              have hD : va_D A [(mo, .inr (7, [.ref m0, .ref m1, .ref m2, .ref m3, .ref m4, .ref m5, .ref m6, .ref m7, .ref m8, .ref m9, .ref m10, .ref m11, .ref m12, .ref m13, .ref m14, .ref m15, .ref m16, .ref m17, .ref m18, .ref m19, .int (iI aa), .ref m21])), (m6, .inl (cI, 8, .inl (ia ru1))), (m7, .inl (cI, 12, .inl (ia (uI st1 k 0)))), (m8, .inl (cI, 12, .inl (ia (uI sn1 k 0)))), (m14, .inl (cI, 2, .inl (ia hp)))] := hD
              have hB_2 : BB 0 200 (uI sn1 k 0) := BB_uI hB_sn1 (by omega)
              refine q_iinc (k := 1) (lv' := [(1, .int (iI (k + 1))), (0, .ref mo)]) hx hb dX7_begin_58 hl rfl (by decide) rfl (fun ls hl => ?_)
              refine lv_goto (tgt := 38) hx hb dX7_begin_61 (by decide) ?_
              exact ih  (k + 1) (uI st1 k 0) (uI sn1 k 0) hB_1 hB_2 (by omega) (by rw [hs]; exact fl_hi1 hk2.1 rfl) (by rw [hg]; exact fl_hi1 hk2.1 rfl) (by omega) _ _ hP hD hS _ (lv_sub hl [1, 0] rfl)
        exact L38_1 100 0 st sn hB_st hB_sn (by omega) (by rw [fl_nil (by omega)]) (by rw [fl_nil (by omega)]) (by omega) _ _ hP hD hS _ (lv_sub hl [1, 0] rfl)
      ·
        refine lv_aload_n hx hb dX7_begin_8 rfl (lv_at hl 0 rfl) ?_
        refine va_get (D := D) (ci := 7) (v := .ref m6) (C := RX7) (T := TX7) (N := 22) hx hb hts in_X7_begin_X7 hown hK hP 0 rfl rfl 6 (by decide) (hts _ lk_X7_begin_1) (fun _ h9 => h9) rfl dX7_begin_9 ?_
        refine lv_iload_n hx hb dX7_begin_12 rfl (lv_at hl 1 rfl) ?_
        refine lv_iload_n hx hb dX7_begin_13 rfl (lv_at hl 1 rfl) ?_
        refine lv_iconst (v := iI 5) hx hb dX7_begin_14 rfl ?_
        refine q_icmp_eq (tgt := 24) hx hb dX7_begin_15 (by decide) ⟨by omega, by omega⟩ ⟨by decide, by decide⟩ (fun c15 => ?_) (fun c15 => ?_)
        ·
          refine lv_iconst (v := iI (-1)) hx hb dX7_begin_24 rfl ?_
          refine lv_goto (tgt := 29) hx hb dX7_begin_25 (by decide) ?_
          refine q_iast hx hb hK hP hD hS 1 0 rfl rfl (by omega) (by omega) (by decide) dX7_begin_29 (fun H locs hP hD hS => ?_)
          have hP : va_P D vwCl [(mo, .inr (7, [.ref m0, .ref m1, .ref m2, .ref m3, .ref m4, .ref m5, .ref m6, .ref m7, .ref m8, .ref m9, .ref m10, .ref m11, .ref m12, .ref m13, .ref m14, .ref m15, .ref m16, .ref m17, .ref m18, .ref m19, .int (iI aa), .ref m21])), (m6, .inl (cI, 8, .inl (ia (uI ru1 k (-1))))), (m7, .inl (cI, 12, .inl (ia st))), (m8, .inl (cI, 12, .inl (ia sn))), (m14, .inl (cI, 2, .inl (ia hp)))] H := hP
          have hD : va_D A [(mo, .inr (7, [.ref m0, .ref m1, .ref m2, .ref m3, .ref m4, .ref m5, .ref m6, .ref m7, .ref m8, .ref m9, .ref m10, .ref m11, .ref m12, .ref m13, .ref m14, .ref m15, .ref m16, .ref m17, .ref m18, .ref m19, .int (iI aa), .ref m21])), (m6, .inl (cI, 8, .inl (ia (uI ru1 k (-1))))), (m7, .inl (cI, 12, .inl (ia st))), (m8, .inl (cI, 12, .inl (ia sn))), (m14, .inl (cI, 2, .inl (ia hp)))] := hD
          refine q_iinc (k := 1) (lv' := [(1, .int (iI (k + 1))), (0, .ref mo)]) hx hb dX7_begin_30 hl rfl (by decide) rfl (fun ls hl => ?_)
          refine lv_goto (tgt := 2) hx hb dX7_begin_33 (by decide) ?_
          exact ih  (k + 1) (uI ru1 k (-1)) (by omega) (by intro j q1 q2; by_cases q : j = k; (rw [q, uI_s]; first | rw [if_pos (by omega)] | rw [if_neg (by omega)]); (rw [uI_n _ _ _ q]; exact hrk j q1 (by omega))) (by omega) _ _ hP hD hS _ (lv_sub hl [1, 0] rfl)
        ·
          refine lv_iload_n hx hb dX7_begin_18 rfl (lv_at hl 1 rfl) ?_
          refine lv_bipush (v := iI 6) hx hb dX7_begin_19 (by decide +kernel) ?_
          refine q_icmp_ne (tgt := 28) hx hb dX7_begin_21 (by decide) ⟨by omega, by omega⟩ ⟨by decide, by decide⟩ (fun c21 => ?_) (fun c21 => ?_)
          ·
            refine lv_iconst (v := iI 0) hx hb dX7_begin_28 rfl ?_
            refine q_iast hx hb hK hP hD hS 1 0 rfl rfl (by omega) (by omega) (by decide) dX7_begin_29 (fun H locs hP hD hS => ?_)
            have hP : va_P D vwCl [(mo, .inr (7, [.ref m0, .ref m1, .ref m2, .ref m3, .ref m4, .ref m5, .ref m6, .ref m7, .ref m8, .ref m9, .ref m10, .ref m11, .ref m12, .ref m13, .ref m14, .ref m15, .ref m16, .ref m17, .ref m18, .ref m19, .int (iI aa), .ref m21])), (m6, .inl (cI, 8, .inl (ia (uI ru1 k 0)))), (m7, .inl (cI, 12, .inl (ia st))), (m8, .inl (cI, 12, .inl (ia sn))), (m14, .inl (cI, 2, .inl (ia hp)))] H := hP
            have hD : va_D A [(mo, .inr (7, [.ref m0, .ref m1, .ref m2, .ref m3, .ref m4, .ref m5, .ref m6, .ref m7, .ref m8, .ref m9, .ref m10, .ref m11, .ref m12, .ref m13, .ref m14, .ref m15, .ref m16, .ref m17, .ref m18, .ref m19, .int (iI aa), .ref m21])), (m6, .inl (cI, 8, .inl (ia (uI ru1 k 0)))), (m7, .inl (cI, 12, .inl (ia st))), (m8, .inl (cI, 12, .inl (ia sn))), (m14, .inl (cI, 2, .inl (ia hp)))] := hD
            refine q_iinc (k := 1) (lv' := [(1, .int (iI (k + 1))), (0, .ref mo)]) hx hb dX7_begin_30 hl rfl (by decide) rfl (fun ls hl => ?_)
            refine lv_goto (tgt := 2) hx hb dX7_begin_33 (by decide) ?_
            exact ih  (k + 1) (uI ru1 k 0) (by omega) (by intro j q1 q2; by_cases q : j = k; (rw [q, uI_s]; first | rw [if_pos (by omega)] | rw [if_neg (by omega)]); (rw [uI_n _ _ _ q]; exact hrk j q1 (by omega))) (by omega) _ _ hP hD hS _ (lv_sub hl [1, 0] rfl)
          ·
            refine lv_iconst (v := iI (-1)) hx hb dX7_begin_24 rfl ?_
            refine lv_goto (tgt := 29) hx hb dX7_begin_25 (by decide) ?_
            refine q_iast hx hb hK hP hD hS 1 0 rfl rfl (by omega) (by omega) (by decide) dX7_begin_29 (fun H locs hP hD hS => ?_)
            have hP : va_P D vwCl [(mo, .inr (7, [.ref m0, .ref m1, .ref m2, .ref m3, .ref m4, .ref m5, .ref m6, .ref m7, .ref m8, .ref m9, .ref m10, .ref m11, .ref m12, .ref m13, .ref m14, .ref m15, .ref m16, .ref m17, .ref m18, .ref m19, .int (iI aa), .ref m21])), (m6, .inl (cI, 8, .inl (ia (uI ru1 k (-1))))), (m7, .inl (cI, 12, .inl (ia st))), (m8, .inl (cI, 12, .inl (ia sn))), (m14, .inl (cI, 2, .inl (ia hp)))] H := hP
            have hD : va_D A [(mo, .inr (7, [.ref m0, .ref m1, .ref m2, .ref m3, .ref m4, .ref m5, .ref m6, .ref m7, .ref m8, .ref m9, .ref m10, .ref m11, .ref m12, .ref m13, .ref m14, .ref m15, .ref m16, .ref m17, .ref m18, .ref m19, .int (iI aa), .ref m21])), (m6, .inl (cI, 8, .inl (ia (uI ru1 k (-1))))), (m7, .inl (cI, 12, .inl (ia st))), (m8, .inl (cI, 12, .inl (ia sn))), (m14, .inl (cI, 2, .inl (ia hp)))] := hD
            refine q_iinc (k := 1) (lv' := [(1, .int (iI (k + 1))), (0, .ref mo)]) hx hb dX7_begin_30 hl rfl (by decide) rfl (fun ls hl => ?_)
            refine lv_goto (tgt := 2) hx hb dX7_begin_33 (by decide) ?_
            exact ih  (k + 1) (uI ru1 k (-1)) (by omega) (by intro j q1 q2; by_cases q : j = k; (rw [q, uI_s]; first | rw [if_pos (by omega)] | rw [if_neg (by omega)]); (rw [uI_n _ _ _ q]; exact hrk j q1 (by omega))) (by omega) _ _ hP hD hS _ (lv_sub hl [1, 0] rfl)
  exact L2_0 100 0 ru (by omega) (by intro j q1 q2; omega) (by omega) _ _ hP hD hS _ (lv_sub hl [1, 0] rfl)

theorem in_X7_setting_X7 : ∀ w ∈ wsX70, w ∈ wsX7_setting := fun _ h => List.mem_cons_of_mem _ (List.mem_append_right _ h)
theorem lk_X7_setting_1 : Cond.constantLong RX7 81 (18) ∈ wsX7_setting := List.mem_of_getElem? (i := 1) rfl
theorem lk_X7_setting_2 : Cond.fieldLink RX7 13 "MoreHandsModel" "lows" "[I" ∈ wsX7_setting := List.mem_of_getElem? (i := 2) rfl
theorem lk_X7_setting_3 : Cond.fieldLink RX7 16 "MoreHandsModel" "highs" "[I" ∈ wsX7_setting := List.mem_of_getElem? (i := 3) rfl
theorem lk_X7_setting_4 : Cond.fieldLink RX7 7 "MoreHandsModel" "settings" "[I" ∈ wsX7_setting := List.mem_of_getElem? (i := 4) rfl
set_option maxHeartbeats 4000000 in
set_option maxRecDepth 100000 in
theorem c_X7_setting (l : Launch) (D : va_G) (cI cZ cII : ClassId) (mo : Nat) (m0 : Nat) (m1 : Nat) (m2 : Nat) (m3 : Nat) (m4 : Nat) (m5 : Nat) (m6 : Nat) (m7 : Nat) (m8 : Nat) (m9 : Nat) (m10 : Nat) (m11 : Nat) (m12 : Nat) (m13 : Nat) (m14 : Nat) (m15 : Nat) (m16 : Nat) (m17 : Nat) (m18 : Nat) (m19 : Nat) (aa : Int) (m21 : Nat) (se : Int → Int) (lw : Int → Int) (hg : Int → Int) (what : Int) (v : Int) (hB_se : BB 0 1000 se) (hB_lw : BB 0 1000 lw) (hB_hg : BB 0 1000 hg) (hp_what : IR what) (hp_v : IR v) (hse : SB se) (hlh : ∀ j, 0 ≤ j → j ≤ 18 → lw j = loF j ∧ hg j = hiF j) : CtI l yX7_setting wsX7_setting 1 25 D (ty3 cI cZ cII) [.ref mo, .int (iI what), .int (iI v)] [(mo, .inr (7, [.ref m0, .ref m1, .ref m2, .ref m3, .ref m4, .ref m5, .ref m6, .ref m7, .ref m8, .ref m9, .ref m10, .ref m11, .ref m12, .ref m13, .ref m14, .ref m15, .ref m16, .ref m17, .ref m18, .ref m19, .int (iI aa), .ref m21])), (m0, .inl (cI, 19, .inl (ia se))), (m1, .inl (cI, 19, .inl (ia lw))), (m2, .inl (cI, 19, .inl (ia hg)))] (fun z (u : (Int → Int)) => z = seZ se what v ∧ u = seN se what v) (fun u => [(mo, .inr (7, [.ref m0, .ref m1, .ref m2, .ref m3, .ref m4, .ref m5, .ref m6, .ref m7, .ref m8, .ref m9, .ref m10, .ref m11, .ref m12, .ref m13, .ref m14, .ref m15, .ref m16, .ref m17, .ref m18, .ref m19, .int (iI aa), .ref m21])), (m0, .inl (cI, 19, .inl (ia u))), (m1, .inl (cI, 19, .inl (ia lw))), (m2, .inl (cI, 19, .inl (ia hg)))]) := by
  refine CtI.mk (cc := cX7_setting) (maxL := 4) (ret := (some .int)) (by decide) rfl (Nat.le_of_ble_eq_true rfl) ?_
  intro p e s m below meth c A ls R args Q hx hb hml hr hts hown hlocks hA hK hP hD hN hS hl hRf hRl hQ
  have hl : lv_has ls 4 [(0, .ref mo), (1, .int (iI what)), (2, .int (iI v))] := hl
  have hown : s.vm.findClass RX7 = some m.cls := hown
  have hsb := hse; unfold SB at hsb
  refine lv_iload_n hx hb dX7_setting_0 rfl (lv_at hl 1 rfl) ?_
  refine lv_i2l (v := lI what) hx hb dX7_setting_1 (iI_long ⟨by omega, by omega⟩) ?_
  refine lv_lconst (v := lI 0) hx hb dX7_setting_2 (by decide +kernel) ?_
  refine lv_ldc2 (v := lI 18) hx hb hown (hts _ lk_X7_setting_1) dX7_setting_3 ?_
  refine q_callSI (wr := [(mo, .inr (7, [.ref m0, .ref m1, .ref m2, .ref m3, .ref m4, .ref m5, .ref m6, .ref m7, .ref m8, .ref m9, .ref m10, .ref m11, .ref m12, .ref m13, .ref m14, .ref m15, .ref m16, .ref m17, .ref m18, .ref m19, .int (iI aa), .ref m21])), (m0, .inl (cI, 19, .inl (ia se))), (m1, .inl (cI, 19, .inl (ia lw))), (m2, .inl (cI, 19, .inl (ia hg)))]) (wn := fun (u : Unit) => [(mo, .inr (7, [.ref m0, .ref m1, .ref m2, .ref m3, .ref m4, .ref m5, .ref m6, .ref m7, .ref m8, .ref m9, .ref m10, .ref m11, .ref m12, .ref m13, .ref m14, .ref m15, .ref m16, .ref m17, .ref m18, .ref m19, .int (iI aa), .ref m21])), (m0, .inl (cI, 19, .inl (ia se))), (m1, .inl (cI, 19, .inl (ia lw))), (m2, .inl (cI, 19, .inl (ia hg)))]) (rest := []) [.long (lI what), .long (lI 0), .long (lI 18)] ⟨hx, hb, hml, hown, hts⟩ (c_X7_in l D cI cZ cII what 0 18 ⟨by omega, by omega⟩ ⟨by omega, by omega⟩ ⟨by omega, by omega⟩) (va_cwS 3 hts gX7_setting_X7_in rfl rfl rfl (by decide +kernel) (by rw [hRf, hRl]; exact ⟨Nat.le_of_ble_eq_true rfl, Nat.le_of_ble_eq_true rfl⟩)) hK hP hD hS hA hN [] [0, 1, 2, 3] [0, 1, 2, 3] rfl rfl rfl rfl (by decide) rfl (fun u => rfl) rfl hl.1 rfl (Nat.le_of_ble_eq_true rfl) dX7_setting_6 ⟨Nat.zero_le _, Nat.zero_le _⟩ (fun z u H locs hw hP hD hS => ?_)
  have hP : va_P D vwCl [(mo, .inr (7, [.ref m0, .ref m1, .ref m2, .ref m3, .ref m4, .ref m5, .ref m6, .ref m7, .ref m8, .ref m9, .ref m10, .ref m11, .ref m12, .ref m13, .ref m14, .ref m15, .ref m16, .ref m17, .ref m18, .ref m19, .int (iI aa), .ref m21])), (m0, .inl (cI, 19, .inl (ia se))), (m1, .inl (cI, 19, .inl (ia lw))), (m2, .inl (cI, 19, .inl (ia hg)))] H := hP
  have hD : va_D A [(mo, .inr (7, [.ref m0, .ref m1, .ref m2, .ref m3, .ref m4, .ref m5, .ref m6, .ref m7, .ref m8, .ref m9, .ref m10, .ref m11, .ref m12, .ref m13, .ref m14, .ref m15, .ref m16, .ref m17, .ref m18, .ref m19, .int (iI aa), .ref m21])), (m0, .inl (cI, 19, .inl (ia se))), (m1, .inl (cI, 19, .inl (ia lw))), (m2, .inl (cI, 19, .inl (ia hg)))] := hD
  obtain ⟨z_1, ez⟩ : ∃ y : Int, y = z := ⟨_, rfl⟩
  rw [← ez] at hw ⊢
  clear ez
  rcases hw with ⟨rfl, w6⟩ | ⟨rfl, w6⟩
  ·
    refine q_if_eq (tgt := 68) hx hb dX7_setting_9 (by decide) ⟨by decide, by decide⟩ (fun h => absurd h (by decide)) (fun _ => ?_)
    have hlh2 := hlh what w6.1 w6.2
    refine lv_iload_n hx hb dX7_setting_12 rfl (lv_at hl 2 rfl) ?_
    refine lv_i2l (v := lI v) hx hb dX7_setting_13 (iI_long ⟨by omega, by omega⟩) ?_
    refine lv_aload_n hx hb dX7_setting_14 rfl (lv_at hl 0 rfl) ?_
    refine va_get (D := D) (ci := 7) (v := .ref m1) (C := RX7) (T := TX7) (N := 22) hx hb hts in_X7_setting_X7 hown hK hP 0 rfl rfl 1 (by decide) (hts _ lk_X7_setting_2) (fun _ h9 => h9) rfl dX7_setting_15 ?_
    refine lv_iload_n hx hb dX7_setting_18 rfl (lv_at hl 1 rfl) ?_
    refine q_iald hx hb hK hP 2 0 rfl rfl (by omega) (by omega) (by decide) dX7_setting_19 ?_
    have hb19 := hB_lw what
    refine lv_i2l (v := lI (lw what)) hx hb dX7_setting_20 (iI_long ⟨by omega, by omega⟩) ?_
    refine lv_aload_n hx hb dX7_setting_21 rfl (lv_at hl 0 rfl) ?_
    refine va_get (D := D) (ci := 7) (v := .ref m2) (C := RX7) (T := TX7) (N := 22) hx hb hts in_X7_setting_X7 hown hK hP 0 rfl rfl 2 (by decide) (hts _ lk_X7_setting_3) (fun _ h9 => h9) rfl dX7_setting_22 ?_
    refine lv_iload_n hx hb dX7_setting_25 rfl (lv_at hl 1 rfl) ?_
    refine q_iald hx hb hK hP 3 0 rfl rfl (by omega) (by omega) (by decide) dX7_setting_26 ?_
    have hb26 := hB_hg what
    refine lv_i2l (v := lI (hg what)) hx hb dX7_setting_27 (iI_long ⟨by omega, by omega⟩) ?_
    refine q_callSI (wr := [(mo, .inr (7, [.ref m0, .ref m1, .ref m2, .ref m3, .ref m4, .ref m5, .ref m6, .ref m7, .ref m8, .ref m9, .ref m10, .ref m11, .ref m12, .ref m13, .ref m14, .ref m15, .ref m16, .ref m17, .ref m18, .ref m19, .int (iI aa), .ref m21])), (m0, .inl (cI, 19, .inl (ia se))), (m1, .inl (cI, 19, .inl (ia lw))), (m2, .inl (cI, 19, .inl (ia hg)))]) (wn := fun (u : Unit) => [(mo, .inr (7, [.ref m0, .ref m1, .ref m2, .ref m3, .ref m4, .ref m5, .ref m6, .ref m7, .ref m8, .ref m9, .ref m10, .ref m11, .ref m12, .ref m13, .ref m14, .ref m15, .ref m16, .ref m17, .ref m18, .ref m19, .int (iI aa), .ref m21])), (m0, .inl (cI, 19, .inl (ia se))), (m1, .inl (cI, 19, .inl (ia lw))), (m2, .inl (cI, 19, .inl (ia hg)))]) (rest := []) [.long (lI v), .long (lI (lw what)), .long (lI (hg what))] ⟨hx, hb, hml, hown, hts⟩ (c_X7_in l D cI cZ cII v (lw what) (hg what) ⟨by omega, by omega⟩ ⟨by omega, by omega⟩ ⟨by omega, by omega⟩) (va_cwS 3 hts gX7_setting_X7_in rfl rfl rfl (by decide +kernel) (by rw [hRf, hRl]; exact ⟨Nat.le_of_ble_eq_true rfl, Nat.le_of_ble_eq_true rfl⟩)) hK hP hD hS hA hN [] [0, 1, 2, 3] [0, 1, 2, 3] rfl rfl rfl rfl (by decide) rfl (fun u => rfl) rfl hl.1 rfl (Nat.le_of_ble_eq_true rfl) dX7_setting_28 ⟨Nat.zero_le _, Nat.zero_le _⟩ (fun z u H locs hw hP hD hS => ?_)
    have hP : va_P D vwCl [(mo, .inr (7, [.ref m0, .ref m1, .ref m2, .ref m3, .ref m4, .ref m5, .ref m6, .ref m7, .ref m8, .ref m9, .ref m10, .ref m11, .ref m12, .ref m13, .ref m14, .ref m15, .ref m16, .ref m17, .ref m18, .ref m19, .int (iI aa), .ref m21])), (m0, .inl (cI, 19, .inl (ia se))), (m1, .inl (cI, 19, .inl (ia lw))), (m2, .inl (cI, 19, .inl (ia hg)))] H := hP
    have hD : va_D A [(mo, .inr (7, [.ref m0, .ref m1, .ref m2, .ref m3, .ref m4, .ref m5, .ref m6, .ref m7, .ref m8, .ref m9, .ref m10, .ref m11, .ref m12, .ref m13, .ref m14, .ref m15, .ref m16, .ref m17, .ref m18, .ref m19, .int (iI aa), .ref m21])), (m0, .inl (cI, 19, .inl (ia se))), (m1, .inl (cI, 19, .inl (ia lw))), (m2, .inl (cI, 19, .inl (ia hg)))] := hD
    obtain ⟨z_2, ez⟩ : ∃ y : Int, y = z := ⟨_, rfl⟩
    rw [← ez] at hw ⊢
    clear ez
    rcases hw with ⟨rfl, w28⟩ | ⟨rfl, w28⟩
    ·
      refine q_if_eq (tgt := 68) hx hb dX7_setting_31 (by decide) ⟨by decide, by decide⟩ (fun h => absurd h (by decide)) (fun _ => ?_)
      refine lv_iload_n hx hb dX7_setting_34 rfl (lv_at hl 1 rfl) ?_
      refine lv_bipush (v := iI 7) hx hb dX7_setting_35 (by decide +kernel) ?_
      refine q_icmp_ne (tgt := 51) hx hb dX7_setting_37 (by decide) ⟨by omega, by omega⟩ ⟨by decide, by decide⟩ (fun c37 => ?_) (fun c37 => ?_)
      ·
        refine lv_iload_n hx hb dX7_setting_51 rfl (lv_at hl 1 rfl) ?_
        refine lv_bipush (v := iI 8) hx hb dX7_setting_52 (by decide +kernel) ?_
        refine q_icmp_ne (tgt := 72) hx hb dX7_setting_54 (by decide) ⟨by omega, by omega⟩ ⟨by decide, by decide⟩ (fun c54 => ?_) (fun c54 => ?_)
        ·
          refine lv_aload_n hx hb dX7_setting_72 rfl (lv_at hl 0 rfl) ?_
          refine va_get (D := D) (ci := 7) (v := .ref m0) (C := RX7) (T := TX7) (N := 22) hx hb hts in_X7_setting_X7 hown hK hP 0 rfl rfl 0 (by decide) (hts _ lk_X7_setting_4) (fun _ h9 => h9) rfl dX7_setting_73 ?_
          refine lv_iload_n hx hb dX7_setting_76 rfl (lv_at hl 1 rfl) ?_
          refine q_iald hx hb hK hP 1 0 rfl rfl (by omega) (by omega) (by decide) dX7_setting_77 ?_
          have hb77 := hB_se what
          refine lv_istore_n (lv' := [(3, .int (iI (se what))), (0, .ref mo), (1, .int (iI what)), (2, .int (iI v))]) hx hb dX7_setting_78 rfl hl (by decide) rfl (fun ls hl => ?_)
          refine lv_aload_n hx hb dX7_setting_79 rfl (lv_at hl 1 rfl) ?_
          refine va_get (D := D) (ci := 7) (v := .ref m0) (C := RX7) (T := TX7) (N := 22) hx hb hts in_X7_setting_X7 hown hK hP 0 rfl rfl 0 (by decide) (hts _ lk_X7_setting_4) (fun _ h9 => h9) rfl dX7_setting_80 ?_
          refine lv_iload_n hx hb dX7_setting_83 rfl (lv_at hl 2 rfl) ?_
          refine lv_iload_n hx hb dX7_setting_84 rfl (lv_at hl 3 rfl) ?_
          refine q_iast hx hb hK hP hD hS 1 0 rfl rfl (by omega) (by omega) (by decide) dX7_setting_85 (fun H locs hP hD hS => ?_)
          have hP : va_P D vwCl [(mo, .inr (7, [.ref m0, .ref m1, .ref m2, .ref m3, .ref m4, .ref m5, .ref m6, .ref m7, .ref m8, .ref m9, .ref m10, .ref m11, .ref m12, .ref m13, .ref m14, .ref m15, .ref m16, .ref m17, .ref m18, .ref m19, .int (iI aa), .ref m21])), (m0, .inl (cI, 19, .inl (ia (uI se what v)))), (m1, .inl (cI, 19, .inl (ia lw))), (m2, .inl (cI, 19, .inl (ia hg)))] H := hP
          have hD : va_D A [(mo, .inr (7, [.ref m0, .ref m1, .ref m2, .ref m3, .ref m4, .ref m5, .ref m6, .ref m7, .ref m8, .ref m9, .ref m10, .ref m11, .ref m12, .ref m13, .ref m14, .ref m15, .ref m16, .ref m17, .ref m18, .ref m19, .int (iI aa), .ref m21])), (m0, .inl (cI, 19, .inl (ia (uI se what v)))), (m1, .inl (cI, 19, .inl (ia lw))), (m2, .inl (cI, 19, .inl (ia hg)))] := hD
          have hB_3 : BB 0 1000 (uI se what v) := BB_uI hB_se (by omega)
          refine lv_iload_n hx hb dX7_setting_86 rfl (lv_at hl 0 rfl) ?_
          rw [hQ]
          refine q_retI (uI se what v) hx hb hr hlocks hK hP hD hS dX7_setting_87 ?_
          try dsimp only
          unfold seZ seN
          first | (rw [show okS se what v = true from decide_eq_true (by omega)]; exact ⟨rfl, rfl⟩) | (rw [show okS se what v = false from decide_eq_false (by omega)]; exact ⟨rfl, rfl⟩)
        ·
          refine lv_iload_n hx hb dX7_setting_57 rfl (lv_at hl 2 rfl) ?_
          refine lv_aload_n hx hb dX7_setting_58 rfl (lv_at hl 0 rfl) ?_
          refine va_get (D := D) (ci := 7) (v := .ref m0) (C := RX7) (T := TX7) (N := 22) hx hb hts in_X7_setting_X7 hown hK hP 0 rfl rfl 0 (by decide) (hts _ lk_X7_setting_4) (fun _ h9 => h9) rfl dX7_setting_59 ?_
          refine lv_bipush (v := iI 7) hx hb dX7_setting_62 (by decide +kernel) ?_
          refine q_iald hx hb hK hP 1 0 rfl rfl (by omega) (by omega) (by decide) dX7_setting_64 ?_
          have hb64 := hB_se 7
          refine q_icmp_ge (tgt := 72) hx hb dX7_setting_65 (by decide) ⟨by omega, by omega⟩ ⟨by omega, by omega⟩ (fun c65 => ?_) (fun c65 => ?_)
          ·
            refine lv_aload_n hx hb dX7_setting_72 rfl (lv_at hl 0 rfl) ?_
            refine va_get (D := D) (ci := 7) (v := .ref m0) (C := RX7) (T := TX7) (N := 22) hx hb hts in_X7_setting_X7 hown hK hP 0 rfl rfl 0 (by decide) (hts _ lk_X7_setting_4) (fun _ h9 => h9) rfl dX7_setting_73 ?_
            refine lv_iload_n hx hb dX7_setting_76 rfl (lv_at hl 1 rfl) ?_
            refine q_iald hx hb hK hP 1 0 rfl rfl (by omega) (by omega) (by decide) dX7_setting_77 ?_
            have hb77 := hB_se what
            refine lv_istore_n (lv' := [(3, .int (iI (se what))), (0, .ref mo), (1, .int (iI what)), (2, .int (iI v))]) hx hb dX7_setting_78 rfl hl (by decide) rfl (fun ls hl => ?_)
            refine lv_aload_n hx hb dX7_setting_79 rfl (lv_at hl 1 rfl) ?_
            refine va_get (D := D) (ci := 7) (v := .ref m0) (C := RX7) (T := TX7) (N := 22) hx hb hts in_X7_setting_X7 hown hK hP 0 rfl rfl 0 (by decide) (hts _ lk_X7_setting_4) (fun _ h9 => h9) rfl dX7_setting_80 ?_
            refine lv_iload_n hx hb dX7_setting_83 rfl (lv_at hl 2 rfl) ?_
            refine lv_iload_n hx hb dX7_setting_84 rfl (lv_at hl 3 rfl) ?_
            refine q_iast hx hb hK hP hD hS 1 0 rfl rfl (by omega) (by omega) (by decide) dX7_setting_85 (fun H locs hP hD hS => ?_)
            have hP : va_P D vwCl [(mo, .inr (7, [.ref m0, .ref m1, .ref m2, .ref m3, .ref m4, .ref m5, .ref m6, .ref m7, .ref m8, .ref m9, .ref m10, .ref m11, .ref m12, .ref m13, .ref m14, .ref m15, .ref m16, .ref m17, .ref m18, .ref m19, .int (iI aa), .ref m21])), (m0, .inl (cI, 19, .inl (ia (uI se what v)))), (m1, .inl (cI, 19, .inl (ia lw))), (m2, .inl (cI, 19, .inl (ia hg)))] H := hP
            have hD : va_D A [(mo, .inr (7, [.ref m0, .ref m1, .ref m2, .ref m3, .ref m4, .ref m5, .ref m6, .ref m7, .ref m8, .ref m9, .ref m10, .ref m11, .ref m12, .ref m13, .ref m14, .ref m15, .ref m16, .ref m17, .ref m18, .ref m19, .int (iI aa), .ref m21])), (m0, .inl (cI, 19, .inl (ia (uI se what v)))), (m1, .inl (cI, 19, .inl (ia lw))), (m2, .inl (cI, 19, .inl (ia hg)))] := hD
            have hB_4 : BB 0 1000 (uI se what v) := BB_uI hB_se (by omega)
            refine lv_iload_n hx hb dX7_setting_86 rfl (lv_at hl 0 rfl) ?_
            rw [hQ]
            refine q_retI (uI se what v) hx hb hr hlocks hK hP hD hS dX7_setting_87 ?_
            try dsimp only
            unfold seZ seN
            first | (rw [show okS se what v = true from decide_eq_true (by omega)]; exact ⟨rfl, rfl⟩) | (rw [show okS se what v = false from decide_eq_false (by omega)]; exact ⟨rfl, rfl⟩)
          ·
            refine lv_sipush (v := iI (-1002)) hx hb dX7_setting_68 (by decide +kernel) ?_
            rw [hQ]
            refine q_retI se hx hb hr hlocks hK hP hD hS dX7_setting_71 ?_
            try dsimp only
            unfold seZ seN
            first | (rw [show okS se what v = true from decide_eq_true (by omega)]; exact ⟨rfl, rfl⟩) | (rw [show okS se what v = false from decide_eq_false (by omega)]; exact ⟨rfl, rfl⟩)
      ·
        refine lv_iload_n hx hb dX7_setting_40 rfl (lv_at hl 2 rfl) ?_
        refine lv_aload_n hx hb dX7_setting_41 rfl (lv_at hl 0 rfl) ?_
        refine va_get (D := D) (ci := 7) (v := .ref m0) (C := RX7) (T := TX7) (N := 22) hx hb hts in_X7_setting_X7 hown hK hP 0 rfl rfl 0 (by decide) (hts _ lk_X7_setting_4) (fun _ h9 => h9) rfl dX7_setting_42 ?_
        refine lv_bipush (v := iI 8) hx hb dX7_setting_45 (by decide +kernel) ?_
        refine q_iald hx hb hK hP 1 0 rfl rfl (by omega) (by omega) (by decide) dX7_setting_47 ?_
        have hb47 := hB_se 8
        refine q_icmp_gt (tgt := 68) hx hb dX7_setting_48 (by decide) ⟨by omega, by omega⟩ ⟨by omega, by omega⟩ (fun c48 => ?_) (fun c48 => ?_)
        ·
          refine lv_sipush (v := iI (-1002)) hx hb dX7_setting_68 (by decide +kernel) ?_
          rw [hQ]
          refine q_retI se hx hb hr hlocks hK hP hD hS dX7_setting_71 ?_
          try dsimp only
          unfold seZ seN
          first | (rw [show okS se what v = true from decide_eq_true (by omega)]; exact ⟨rfl, rfl⟩) | (rw [show okS se what v = false from decide_eq_false (by omega)]; exact ⟨rfl, rfl⟩)
        ·
          refine lv_iload_n hx hb dX7_setting_51 rfl (lv_at hl 1 rfl) ?_
          refine lv_bipush (v := iI 8) hx hb dX7_setting_52 (by decide +kernel) ?_
          refine q_icmp_ne (tgt := 72) hx hb dX7_setting_54 (by decide) ⟨by omega, by omega⟩ ⟨by decide, by decide⟩ (fun c54 => ?_) (fun c54 => ?_)
          ·
            refine lv_aload_n hx hb dX7_setting_72 rfl (lv_at hl 0 rfl) ?_
            refine va_get (D := D) (ci := 7) (v := .ref m0) (C := RX7) (T := TX7) (N := 22) hx hb hts in_X7_setting_X7 hown hK hP 0 rfl rfl 0 (by decide) (hts _ lk_X7_setting_4) (fun _ h9 => h9) rfl dX7_setting_73 ?_
            refine lv_iload_n hx hb dX7_setting_76 rfl (lv_at hl 1 rfl) ?_
            refine q_iald hx hb hK hP 1 0 rfl rfl (by omega) (by omega) (by decide) dX7_setting_77 ?_
            have hb77 := hB_se what
            refine lv_istore_n (lv' := [(3, .int (iI (se what))), (0, .ref mo), (1, .int (iI what)), (2, .int (iI v))]) hx hb dX7_setting_78 rfl hl (by decide) rfl (fun ls hl => ?_)
            refine lv_aload_n hx hb dX7_setting_79 rfl (lv_at hl 1 rfl) ?_
            refine va_get (D := D) (ci := 7) (v := .ref m0) (C := RX7) (T := TX7) (N := 22) hx hb hts in_X7_setting_X7 hown hK hP 0 rfl rfl 0 (by decide) (hts _ lk_X7_setting_4) (fun _ h9 => h9) rfl dX7_setting_80 ?_
            refine lv_iload_n hx hb dX7_setting_83 rfl (lv_at hl 2 rfl) ?_
            refine lv_iload_n hx hb dX7_setting_84 rfl (lv_at hl 3 rfl) ?_
            refine q_iast hx hb hK hP hD hS 1 0 rfl rfl (by omega) (by omega) (by decide) dX7_setting_85 (fun H locs hP hD hS => ?_)
            have hP : va_P D vwCl [(mo, .inr (7, [.ref m0, .ref m1, .ref m2, .ref m3, .ref m4, .ref m5, .ref m6, .ref m7, .ref m8, .ref m9, .ref m10, .ref m11, .ref m12, .ref m13, .ref m14, .ref m15, .ref m16, .ref m17, .ref m18, .ref m19, .int (iI aa), .ref m21])), (m0, .inl (cI, 19, .inl (ia (uI se what v)))), (m1, .inl (cI, 19, .inl (ia lw))), (m2, .inl (cI, 19, .inl (ia hg)))] H := hP
            have hD : va_D A [(mo, .inr (7, [.ref m0, .ref m1, .ref m2, .ref m3, .ref m4, .ref m5, .ref m6, .ref m7, .ref m8, .ref m9, .ref m10, .ref m11, .ref m12, .ref m13, .ref m14, .ref m15, .ref m16, .ref m17, .ref m18, .ref m19, .int (iI aa), .ref m21])), (m0, .inl (cI, 19, .inl (ia (uI se what v)))), (m1, .inl (cI, 19, .inl (ia lw))), (m2, .inl (cI, 19, .inl (ia hg)))] := hD
            have hB_5 : BB 0 1000 (uI se what v) := BB_uI hB_se (by omega)
            refine lv_iload_n hx hb dX7_setting_86 rfl (lv_at hl 0 rfl) ?_
            rw [hQ]
            refine q_retI (uI se what v) hx hb hr hlocks hK hP hD hS dX7_setting_87 ?_
            try dsimp only
            unfold seZ seN
            first | (rw [show okS se what v = true from decide_eq_true (by omega)]; exact ⟨rfl, rfl⟩) | (rw [show okS se what v = false from decide_eq_false (by omega)]; exact ⟨rfl, rfl⟩)
          ·
            refine lv_iload_n hx hb dX7_setting_57 rfl (lv_at hl 2 rfl) ?_
            refine lv_aload_n hx hb dX7_setting_58 rfl (lv_at hl 0 rfl) ?_
            refine va_get (D := D) (ci := 7) (v := .ref m0) (C := RX7) (T := TX7) (N := 22) hx hb hts in_X7_setting_X7 hown hK hP 0 rfl rfl 0 (by decide) (hts _ lk_X7_setting_4) (fun _ h9 => h9) rfl dX7_setting_59 ?_
            refine lv_bipush (v := iI 7) hx hb dX7_setting_62 (by decide +kernel) ?_
            refine q_iald hx hb hK hP 1 0 rfl rfl (by omega) (by omega) (by decide) dX7_setting_64 ?_
            have hb64 := hB_se 7
            refine q_icmp_ge (tgt := 72) hx hb dX7_setting_65 (by decide) ⟨by omega, by omega⟩ ⟨by omega, by omega⟩ (fun c65 => ?_) (fun c65 => ?_)
            ·
              refine lv_aload_n hx hb dX7_setting_72 rfl (lv_at hl 0 rfl) ?_
              refine va_get (D := D) (ci := 7) (v := .ref m0) (C := RX7) (T := TX7) (N := 22) hx hb hts in_X7_setting_X7 hown hK hP 0 rfl rfl 0 (by decide) (hts _ lk_X7_setting_4) (fun _ h9 => h9) rfl dX7_setting_73 ?_
              refine lv_iload_n hx hb dX7_setting_76 rfl (lv_at hl 1 rfl) ?_
              refine q_iald hx hb hK hP 1 0 rfl rfl (by omega) (by omega) (by decide) dX7_setting_77 ?_
              have hb77 := hB_se what
              refine lv_istore_n (lv' := [(3, .int (iI (se what))), (0, .ref mo), (1, .int (iI what)), (2, .int (iI v))]) hx hb dX7_setting_78 rfl hl (by decide) rfl (fun ls hl => ?_)
              refine lv_aload_n hx hb dX7_setting_79 rfl (lv_at hl 1 rfl) ?_
              refine va_get (D := D) (ci := 7) (v := .ref m0) (C := RX7) (T := TX7) (N := 22) hx hb hts in_X7_setting_X7 hown hK hP 0 rfl rfl 0 (by decide) (hts _ lk_X7_setting_4) (fun _ h9 => h9) rfl dX7_setting_80 ?_
              refine lv_iload_n hx hb dX7_setting_83 rfl (lv_at hl 2 rfl) ?_
              refine lv_iload_n hx hb dX7_setting_84 rfl (lv_at hl 3 rfl) ?_
              refine q_iast hx hb hK hP hD hS 1 0 rfl rfl (by omega) (by omega) (by decide) dX7_setting_85 (fun H locs hP hD hS => ?_)
              have hP : va_P D vwCl [(mo, .inr (7, [.ref m0, .ref m1, .ref m2, .ref m3, .ref m4, .ref m5, .ref m6, .ref m7, .ref m8, .ref m9, .ref m10, .ref m11, .ref m12, .ref m13, .ref m14, .ref m15, .ref m16, .ref m17, .ref m18, .ref m19, .int (iI aa), .ref m21])), (m0, .inl (cI, 19, .inl (ia (uI se what v)))), (m1, .inl (cI, 19, .inl (ia lw))), (m2, .inl (cI, 19, .inl (ia hg)))] H := hP
              have hD : va_D A [(mo, .inr (7, [.ref m0, .ref m1, .ref m2, .ref m3, .ref m4, .ref m5, .ref m6, .ref m7, .ref m8, .ref m9, .ref m10, .ref m11, .ref m12, .ref m13, .ref m14, .ref m15, .ref m16, .ref m17, .ref m18, .ref m19, .int (iI aa), .ref m21])), (m0, .inl (cI, 19, .inl (ia (uI se what v)))), (m1, .inl (cI, 19, .inl (ia lw))), (m2, .inl (cI, 19, .inl (ia hg)))] := hD
              have hB_6 : BB 0 1000 (uI se what v) := BB_uI hB_se (by omega)
              refine lv_iload_n hx hb dX7_setting_86 rfl (lv_at hl 0 rfl) ?_
              rw [hQ]
              refine q_retI (uI se what v) hx hb hr hlocks hK hP hD hS dX7_setting_87 ?_
              try dsimp only
              unfold seZ seN
              first | (rw [show okS se what v = true from decide_eq_true (by omega)]; exact ⟨rfl, rfl⟩) | (rw [show okS se what v = false from decide_eq_false (by omega)]; exact ⟨rfl, rfl⟩)
            ·
              refine lv_sipush (v := iI (-1002)) hx hb dX7_setting_68 (by decide +kernel) ?_
              rw [hQ]
              refine q_retI se hx hb hr hlocks hK hP hD hS dX7_setting_71 ?_
              try dsimp only
              unfold seZ seN
              first | (rw [show okS se what v = true from decide_eq_true (by omega)]; exact ⟨rfl, rfl⟩) | (rw [show okS se what v = false from decide_eq_false (by omega)]; exact ⟨rfl, rfl⟩)
    ·
      refine q_if_eq (tgt := 68) hx hb dX7_setting_31 (by decide) ⟨by decide, by decide⟩ (fun _ => ?_) (fun h => absurd h (by decide))
      refine lv_sipush (v := iI (-1002)) hx hb dX7_setting_68 (by decide +kernel) ?_
      rw [hQ]
      refine q_retI se hx hb hr hlocks hK hP hD hS dX7_setting_71 ?_
      try dsimp only
      unfold seZ seN
      first | (rw [show okS se what v = true from decide_eq_true (by omega)]; exact ⟨rfl, rfl⟩) | (rw [show okS se what v = false from decide_eq_false (by omega)]; exact ⟨rfl, rfl⟩)
  ·
    refine q_if_eq (tgt := 68) hx hb dX7_setting_9 (by decide) ⟨by decide, by decide⟩ (fun _ => ?_) (fun h => absurd h (by decide))
    refine lv_sipush (v := iI (-1002)) hx hb dX7_setting_68 (by decide +kernel) ?_
    rw [hQ]
    refine q_retI se hx hb hr hlocks hK hP hD hS dX7_setting_71 ?_
    try dsimp only
    unfold seZ seN
    first | (rw [show okS se what v = true from decide_eq_true (by omega)]; exact ⟨rfl, rfl⟩) | (rw [show okS se what v = false from decide_eq_false (by omega)]; exact ⟨rfl, rfl⟩)

theorem in_X7_load_X7 : ∀ w ∈ wsX70, w ∈ wsX7_load := fun _ h => List.mem_cons_of_mem _ (List.mem_append_right _ h)
theorem lk_X7_load_1 : Cond.constantLong RX7 93 (60) ∈ wsX7_load := List.mem_of_getElem? (i := 1) rfl
theorem lk_X7_load_2 : Cond.fieldLink RX7 29 "MoreHandsModel" "run" "[I" ∈ wsX7_load := List.mem_of_getElem? (i := 2) rfl
theorem lk_X7_load_3 : Cond.fieldLink RX7 19 "MoreHandsModel" "loads" "[I" ∈ wsX7_load := List.mem_of_getElem? (i := 3) rfl
set_option maxHeartbeats 4000000 in
set_option maxRecDepth 100000 in
theorem c_X7_load (l : Launch) (D : va_G) (cI cZ cII : ClassId) (mo : Nat) (m3 : Nat) (m6 : Nat) (m0 : Nat) (m1 : Nat) (m2 : Nat) (m4 : Nat) (m5 : Nat) (m7 : Nat) (m8 : Nat) (m9 : Nat) (m10 : Nat) (m11 : Nat) (m12 : Nat) (m13 : Nat) (m14 : Nat) (m15 : Nat) (m16 : Nat) (m17 : Nat) (m18 : Nat) (m19 : Nat) (aa : Int) (m21 : Nat) (ld : Int → Int) (ru : Int → Int) (t : Int) (v : Int) (hB_ld : BB 0 60 ld) (hp_t : IR t) (hp_v : IR v) (hr0 : 0 ≤ ru 0 ∧ ru 0 ≤ 200) : CtI l yX7_load wsX7_load 2 45 D (ty3 cI cZ cII) [.ref mo, .int (iI t), .int (iI v)] [(mo, .inr (7, [.ref m0, .ref m1, .ref m2, .ref m3, .ref m4, .ref m5, .ref m6, .ref m7, .ref m8, .ref m9, .ref m10, .ref m11, .ref m12, .ref m13, .ref m14, .ref m15, .ref m16, .ref m17, .ref m18, .ref m19, .int (iI aa), .ref m21])), (m3, .inl (cI, 200, .inl (ia ld))), (m6, .inl (cI, 8, .inl (ia ru)))] (fun z (u : (Int → Int)) => z = ldZ ld (ru 0) t v ∧ u = ldN ld (ru 0) t v ∧ BB 0 60 u) (fun u => [(mo, .inr (7, [.ref m0, .ref m1, .ref m2, .ref m3, .ref m4, .ref m5, .ref m6, .ref m7, .ref m8, .ref m9, .ref m10, .ref m11, .ref m12, .ref m13, .ref m14, .ref m15, .ref m16, .ref m17, .ref m18, .ref m19, .int (iI aa), .ref m21])), (m3, .inl (cI, 200, .inl (ia u))), (m6, .inl (cI, 8, .inl (ia ru)))]) := by
  refine CtI.mk (cc := cX7_load) (maxL := 4) (ret := (some .int)) (by decide) rfl (Nat.le_of_ble_eq_true rfl) ?_
  intro p e s m below meth c A ls R args Q hx hb hml hr hts hown hlocks hA hK hP hD hN hS hl hRf hRl hQ
  have hl : lv_has ls 4 [(0, .ref mo), (1, .int (iI t)), (2, .int (iI v))] := hl
  have hown : s.vm.findClass RX7 = some m.cls := hown
  refine lv_iload_n hx hb dX7_load_0 rfl (lv_at hl 1 rfl) ?_
  refine q_callSI (wr := [(mo, .inr (7, [.ref m0, .ref m1, .ref m2, .ref m3, .ref m4, .ref m5, .ref m6, .ref m7, .ref m8, .ref m9, .ref m10, .ref m11, .ref m12, .ref m13, .ref m14, .ref m15, .ref m16, .ref m17, .ref m18, .ref m19, .int (iI aa), .ref m21])), (m3, .inl (cI, 200, .inl (ia ld))), (m6, .inl (cI, 8, .inl (ia ru)))]) (wn := fun (u : Unit) => [(mo, .inr (7, [.ref m0, .ref m1, .ref m2, .ref m3, .ref m4, .ref m5, .ref m6, .ref m7, .ref m8, .ref m9, .ref m10, .ref m11, .ref m12, .ref m13, .ref m14, .ref m15, .ref m16, .ref m17, .ref m18, .ref m19, .int (iI aa), .ref m21])), (m3, .inl (cI, 200, .inl (ia ld))), (m6, .inl (cI, 8, .inl (ia ru)))]) (rest := []) [.int (iI t)] ⟨hx, hb, hml, hown, hts⟩ (c_X7_isTick l D cI cZ cII t ⟨by omega, by omega⟩) (va_cwS 1 hts gX7_load_X7_isTick rfl rfl rfl (by decide +kernel) (by rw [hRf, hRl]; exact ⟨Nat.le_of_ble_eq_true rfl, Nat.le_of_ble_eq_true rfl⟩)) hK hP hD hS hA hN [] [0, 1, 2] [0, 1, 2] rfl rfl rfl rfl (by decide) rfl (fun u => rfl) rfl hl.1 rfl (Nat.le_of_ble_eq_true rfl) dX7_load_1 ⟨Nat.zero_le _, Nat.zero_le _⟩ (fun z u H locs hw hP hD hS => ?_)
  have hP : va_P D vwCl [(mo, .inr (7, [.ref m0, .ref m1, .ref m2, .ref m3, .ref m4, .ref m5, .ref m6, .ref m7, .ref m8, .ref m9, .ref m10, .ref m11, .ref m12, .ref m13, .ref m14, .ref m15, .ref m16, .ref m17, .ref m18, .ref m19, .int (iI aa), .ref m21])), (m3, .inl (cI, 200, .inl (ia ld))), (m6, .inl (cI, 8, .inl (ia ru)))] H := hP
  have hD : va_D A [(mo, .inr (7, [.ref m0, .ref m1, .ref m2, .ref m3, .ref m4, .ref m5, .ref m6, .ref m7, .ref m8, .ref m9, .ref m10, .ref m11, .ref m12, .ref m13, .ref m14, .ref m15, .ref m16, .ref m17, .ref m18, .ref m19, .int (iI aa), .ref m21])), (m3, .inl (cI, 200, .inl (ia ld))), (m6, .inl (cI, 8, .inl (ia ru)))] := hD
  obtain ⟨z_1, ez⟩ : ∃ y : Int, y = z := ⟨_, rfl⟩
  rw [← ez] at hw ⊢
  clear ez
  rcases hw with ⟨rfl, w1⟩ | ⟨rfl, w1⟩
  ·
    refine q_if_eq (tgt := 19) hx hb dX7_load_4 (by decide) ⟨by decide, by decide⟩ (fun h => absurd h (by decide)) (fun _ => ?_)
    refine lv_iload_n hx hb dX7_load_7 rfl (lv_at hl 2 rfl) ?_
    refine lv_i2l (v := lI v) hx hb dX7_load_8 (iI_long ⟨by omega, by omega⟩) ?_
    refine lv_lconst (v := lI 0) hx hb dX7_load_9 (by decide +kernel) ?_
    refine lv_ldc2 (v := lI 60) hx hb hown (hts _ lk_X7_load_1) dX7_load_10 ?_
    refine q_callSI (wr := [(mo, .inr (7, [.ref m0, .ref m1, .ref m2, .ref m3, .ref m4, .ref m5, .ref m6, .ref m7, .ref m8, .ref m9, .ref m10, .ref m11, .ref m12, .ref m13, .ref m14, .ref m15, .ref m16, .ref m17, .ref m18, .ref m19, .int (iI aa), .ref m21])), (m3, .inl (cI, 200, .inl (ia ld))), (m6, .inl (cI, 8, .inl (ia ru)))]) (wn := fun (u : Unit) => [(mo, .inr (7, [.ref m0, .ref m1, .ref m2, .ref m3, .ref m4, .ref m5, .ref m6, .ref m7, .ref m8, .ref m9, .ref m10, .ref m11, .ref m12, .ref m13, .ref m14, .ref m15, .ref m16, .ref m17, .ref m18, .ref m19, .int (iI aa), .ref m21])), (m3, .inl (cI, 200, .inl (ia ld))), (m6, .inl (cI, 8, .inl (ia ru)))]) (rest := []) [.long (lI v), .long (lI 0), .long (lI 60)] ⟨hx, hb, hml, hown, hts⟩ (c_X7_in l D cI cZ cII v 0 60 ⟨by omega, by omega⟩ ⟨by omega, by omega⟩ ⟨by omega, by omega⟩) (va_cwS 3 hts gX7_load_X7_in rfl rfl rfl (by decide +kernel) (by rw [hRf, hRl]; exact ⟨Nat.le_of_ble_eq_true rfl, Nat.le_of_ble_eq_true rfl⟩)) hK hP hD hS hA hN [] [0, 1, 2] [0, 1, 2] rfl rfl rfl rfl (by decide) rfl (fun u => rfl) rfl hl.1 rfl (Nat.le_of_ble_eq_true rfl) dX7_load_13 ⟨Nat.zero_le _, Nat.zero_le _⟩ (fun z u H locs hw hP hD hS => ?_)
    have hP : va_P D vwCl [(mo, .inr (7, [.ref m0, .ref m1, .ref m2, .ref m3, .ref m4, .ref m5, .ref m6, .ref m7, .ref m8, .ref m9, .ref m10, .ref m11, .ref m12, .ref m13, .ref m14, .ref m15, .ref m16, .ref m17, .ref m18, .ref m19, .int (iI aa), .ref m21])), (m3, .inl (cI, 200, .inl (ia ld))), (m6, .inl (cI, 8, .inl (ia ru)))] H := hP
    have hD : va_D A [(mo, .inr (7, [.ref m0, .ref m1, .ref m2, .ref m3, .ref m4, .ref m5, .ref m6, .ref m7, .ref m8, .ref m9, .ref m10, .ref m11, .ref m12, .ref m13, .ref m14, .ref m15, .ref m16, .ref m17, .ref m18, .ref m19, .int (iI aa), .ref m21])), (m3, .inl (cI, 200, .inl (ia ld))), (m6, .inl (cI, 8, .inl (ia ru)))] := hD
    obtain ⟨z_2, ez⟩ : ∃ y : Int, y = z := ⟨_, rfl⟩
    rw [← ez] at hw ⊢
    clear ez
    rcases hw with ⟨rfl, w13⟩ | ⟨rfl, w13⟩
    ·
      refine q_if_ne (tgt := 23) hx hb dX7_load_16 (by decide) ⟨by decide, by decide⟩ (fun _ => ?_) (fun h => absurd h (by decide))
      refine lv_iload_n hx hb dX7_load_23 rfl (lv_at hl 1 rfl) ?_
      refine lv_aload_n hx hb dX7_load_24 rfl (lv_at hl 0 rfl) ?_
      refine va_get (D := D) (ci := 7) (v := .ref m6) (C := RX7) (T := TX7) (N := 22) hx hb hts in_X7_load_X7 hown hK hP 0 rfl rfl 6 (by decide) (hts _ lk_X7_load_2) (fun _ h9 => h9) rfl dX7_load_25 ?_
      refine lv_iconst (v := iI 0) hx hb dX7_load_28 rfl ?_
      refine q_iald hx hb hK hP 2 0 rfl rfl (by omega) (by omega) (by decide) dX7_load_29 ?_
      refine q_icmp_ge (tgt := 37) hx hb dX7_load_30 (by decide) ⟨by omega, by omega⟩ ⟨by omega, by omega⟩ (fun c30 => ?_) (fun c30 => ?_)
      ·
        refine lv_aload_n hx hb dX7_load_37 rfl (lv_at hl 0 rfl) ?_
        refine va_get (D := D) (ci := 7) (v := .ref m3) (C := RX7) (T := TX7) (N := 22) hx hb hts in_X7_load_X7 hown hK hP 0 rfl rfl 3 (by decide) (hts _ lk_X7_load_3) (fun _ h9 => h9) rfl dX7_load_38 ?_
        refine lv_iload_n hx hb dX7_load_41 rfl (lv_at hl 1 rfl) ?_
        refine q_iald hx hb hK hP 1 0 rfl rfl (by omega) (by omega) (by decide) dX7_load_42 ?_
        have hb42 := hB_ld t
        refine lv_istore_n (lv' := [(3, .int (iI (ld t))), (0, .ref mo), (1, .int (iI t)), (2, .int (iI v))]) hx hb dX7_load_43 rfl hl (by decide) rfl (fun ls hl => ?_)
        refine lv_aload_n hx hb dX7_load_44 rfl (lv_at hl 1 rfl) ?_
        refine va_get (D := D) (ci := 7) (v := .ref m3) (C := RX7) (T := TX7) (N := 22) hx hb hts in_X7_load_X7 hown hK hP 0 rfl rfl 3 (by decide) (hts _ lk_X7_load_3) (fun _ h9 => h9) rfl dX7_load_45 ?_
        refine lv_iload_n hx hb dX7_load_48 rfl (lv_at hl 2 rfl) ?_
        refine lv_iload_n hx hb dX7_load_49 rfl (lv_at hl 3 rfl) ?_
        refine q_iast hx hb hK hP hD hS 1 0 rfl rfl (by omega) (by omega) (by decide) dX7_load_50 (fun H locs hP hD hS => ?_)
        have hP : va_P D vwCl [(mo, .inr (7, [.ref m0, .ref m1, .ref m2, .ref m3, .ref m4, .ref m5, .ref m6, .ref m7, .ref m8, .ref m9, .ref m10, .ref m11, .ref m12, .ref m13, .ref m14, .ref m15, .ref m16, .ref m17, .ref m18, .ref m19, .int (iI aa), .ref m21])), (m3, .inl (cI, 200, .inl (ia (uI ld t v)))), (m6, .inl (cI, 8, .inl (ia ru)))] H := hP
        have hD : va_D A [(mo, .inr (7, [.ref m0, .ref m1, .ref m2, .ref m3, .ref m4, .ref m5, .ref m6, .ref m7, .ref m8, .ref m9, .ref m10, .ref m11, .ref m12, .ref m13, .ref m14, .ref m15, .ref m16, .ref m17, .ref m18, .ref m19, .int (iI aa), .ref m21])), (m3, .inl (cI, 200, .inl (ia (uI ld t v)))), (m6, .inl (cI, 8, .inl (ia ru)))] := hD
        have hB_3 : BB 0 60 (uI ld t v) := BB_uI hB_ld (by omega)
        refine lv_iload_n hx hb dX7_load_51 rfl (lv_at hl 0 rfl) ?_
        rw [hQ]
        refine q_retI (uI ld t v) hx hb hr hlocks hK hP hD hS dX7_load_52 ?_
        try dsimp only
        unfold ldZ ldN
        first | (rw [if_neg (by omega), if_neg (by omega)]; exact ⟨rfl, rfl, hB_ld⟩) | (rw [if_pos (by omega), if_pos (by omega), if_neg (by omega)]; exact ⟨rfl, rfl, hB_ld⟩) | (rw [if_pos (by omega), if_neg (by omega), if_pos (by omega)]; exact ⟨rfl, rfl, BB_uI hB_ld (by omega)⟩)
      ·
        refine lv_sipush (v := iI (-1003)) hx hb dX7_load_33 (by decide +kernel) ?_
        rw [hQ]
        refine q_retI ld hx hb hr hlocks hK hP hD hS dX7_load_36 ?_
        try dsimp only
        unfold ldZ ldN
        first | (rw [if_neg (by omega), if_neg (by omega)]; exact ⟨rfl, rfl, hB_ld⟩) | (rw [if_pos (by omega), if_pos (by omega), if_neg (by omega)]; exact ⟨rfl, rfl, hB_ld⟩) | (rw [if_pos (by omega), if_neg (by omega), if_pos (by omega)]; exact ⟨rfl, rfl, BB_uI hB_ld (by omega)⟩)
    ·
      refine q_if_ne (tgt := 23) hx hb dX7_load_16 (by decide) ⟨by decide, by decide⟩ (fun h => absurd h (by decide)) (fun _ => ?_)
      refine lv_sipush (v := iI (-1002)) hx hb dX7_load_19 (by decide +kernel) ?_
      rw [hQ]
      refine q_retI ld hx hb hr hlocks hK hP hD hS dX7_load_22 ?_
      try dsimp only
      unfold ldZ ldN
      first | (rw [if_neg (by omega), if_neg (by omega)]; exact ⟨rfl, rfl, hB_ld⟩) | (rw [if_pos (by omega), if_pos (by omega), if_neg (by omega)]; exact ⟨rfl, rfl, hB_ld⟩) | (rw [if_pos (by omega), if_neg (by omega), if_pos (by omega)]; exact ⟨rfl, rfl, BB_uI hB_ld (by omega)⟩)
  ·
    refine q_if_eq (tgt := 19) hx hb dX7_load_4 (by decide) ⟨by decide, by decide⟩ (fun _ => ?_) (fun h => absurd h (by decide))
    refine lv_sipush (v := iI (-1002)) hx hb dX7_load_19 (by decide +kernel) ?_
    rw [hQ]
    refine q_retI ld hx hb hr hlocks hK hP hD hS dX7_load_22 ?_
    try dsimp only
    unfold ldZ ldN
    first | (rw [if_neg (by omega), if_neg (by omega)]; exact ⟨rfl, rfl, hB_ld⟩) | (rw [if_pos (by omega), if_pos (by omega), if_neg (by omega)]; exact ⟨rfl, rfl, hB_ld⟩) | (rw [if_pos (by omega), if_neg (by omega), if_pos (by omega)]; exact ⟨rfl, rfl, BB_uI hB_ld (by omega)⟩)

theorem in_X7_plan_X7 : ∀ w ∈ wsX70, w ∈ wsX7_plan := fun _ h => List.mem_cons_of_mem _ (List.mem_append_right _ h)
theorem lk_X7_plan_1 : Cond.constantLong RX7 95 (23) ∈ wsX7_plan := List.mem_of_getElem? (i := 1) rfl
theorem lk_X7_plan_2 : Cond.constantLong RX7 97 (12) ∈ wsX7_plan := List.mem_of_getElem? (i := 2) rfl
theorem lk_X7_plan_3 : Cond.fieldLink RX7 26 "MoreHandsModel" "plan" "[I" ∈ wsX7_plan := List.mem_of_getElem? (i := 3) rfl
set_option maxHeartbeats 4000000 in
set_option maxRecDepth 100000 in
theorem c_X7_plan (l : Launch) (D : va_G) (cI cZ cII : ClassId) (mo : Nat) (m5 : Nat) (m0 : Nat) (m1 : Nat) (m2 : Nat) (m3 : Nat) (m4 : Nat) (m6 : Nat) (m7 : Nat) (m8 : Nat) (m9 : Nat) (m10 : Nat) (m11 : Nat) (m12 : Nat) (m13 : Nat) (m14 : Nat) (m15 : Nat) (m16 : Nat) (m17 : Nat) (m18 : Nat) (m19 : Nat) (aa : Int) (m21 : Nat) (pl : Int → Int) (h : Int) (v : Int) (hB_pl : BB 0 12 pl) (hp_h : IR h) (hp_v : IR v) : CtI l yX7_plan wsX7_plan 1 25 D (ty3 cI cZ cII) [.ref mo, .int (iI h), .int (iI v)] [(mo, .inr (7, [.ref m0, .ref m1, .ref m2, .ref m3, .ref m4, .ref m5, .ref m6, .ref m7, .ref m8, .ref m9, .ref m10, .ref m11, .ref m12, .ref m13, .ref m14, .ref m15, .ref m16, .ref m17, .ref m18, .ref m19, .int (iI aa), .ref m21])), (m5, .inl (cI, 24, .inl (ia pl)))] (fun z (u : (Int → Int)) => z = plZ pl h v ∧ u = plN pl h v ∧ BB 0 12 u) (fun u => [(mo, .inr (7, [.ref m0, .ref m1, .ref m2, .ref m3, .ref m4, .ref m5, .ref m6, .ref m7, .ref m8, .ref m9, .ref m10, .ref m11, .ref m12, .ref m13, .ref m14, .ref m15, .ref m16, .ref m17, .ref m18, .ref m19, .int (iI aa), .ref m21])), (m5, .inl (cI, 24, .inl (ia u)))]) := by
  refine CtI.mk (cc := cX7_plan) (maxL := 4) (ret := (some .int)) (by decide) rfl (Nat.le_of_ble_eq_true rfl) ?_
  intro p e s m below meth c A ls R args Q hx hb hml hr hts hown hlocks hA hK hP hD hN hS hl hRf hRl hQ
  have hl : lv_has ls 4 [(0, .ref mo), (1, .int (iI h)), (2, .int (iI v))] := hl
  have hown : s.vm.findClass RX7 = some m.cls := hown
  refine lv_iload_n hx hb dX7_plan_0 rfl (lv_at hl 1 rfl) ?_
  refine lv_i2l (v := lI h) hx hb dX7_plan_1 (iI_long ⟨by omega, by omega⟩) ?_
  refine lv_lconst (v := lI 0) hx hb dX7_plan_2 (by decide +kernel) ?_
  refine lv_ldc2 (v := lI 23) hx hb hown (hts _ lk_X7_plan_1) dX7_plan_3 ?_
  refine q_callSI (wr := [(mo, .inr (7, [.ref m0, .ref m1, .ref m2, .ref m3, .ref m4, .ref m5, .ref m6, .ref m7, .ref m8, .ref m9, .ref m10, .ref m11, .ref m12, .ref m13, .ref m14, .ref m15, .ref m16, .ref m17, .ref m18, .ref m19, .int (iI aa), .ref m21])), (m5, .inl (cI, 24, .inl (ia pl)))]) (wn := fun (u : Unit) => [(mo, .inr (7, [.ref m0, .ref m1, .ref m2, .ref m3, .ref m4, .ref m5, .ref m6, .ref m7, .ref m8, .ref m9, .ref m10, .ref m11, .ref m12, .ref m13, .ref m14, .ref m15, .ref m16, .ref m17, .ref m18, .ref m19, .int (iI aa), .ref m21])), (m5, .inl (cI, 24, .inl (ia pl)))]) (rest := []) [.long (lI h), .long (lI 0), .long (lI 23)] ⟨hx, hb, hml, hown, hts⟩ (c_X7_in l D cI cZ cII h 0 23 ⟨by omega, by omega⟩ ⟨by omega, by omega⟩ ⟨by omega, by omega⟩) (va_cwS 3 hts gX7_plan_X7_in rfl rfl rfl (by decide +kernel) (by rw [hRf, hRl]; exact ⟨Nat.le_of_ble_eq_true rfl, Nat.le_of_ble_eq_true rfl⟩)) hK hP hD hS hA hN [] [0, 1] [0, 1] rfl rfl rfl rfl (by decide) rfl (fun u => rfl) rfl hl.1 rfl (Nat.le_of_ble_eq_true rfl) dX7_plan_6 ⟨Nat.zero_le _, Nat.zero_le _⟩ (fun z u H locs hw hP hD hS => ?_)
  have hP : va_P D vwCl [(mo, .inr (7, [.ref m0, .ref m1, .ref m2, .ref m3, .ref m4, .ref m5, .ref m6, .ref m7, .ref m8, .ref m9, .ref m10, .ref m11, .ref m12, .ref m13, .ref m14, .ref m15, .ref m16, .ref m17, .ref m18, .ref m19, .int (iI aa), .ref m21])), (m5, .inl (cI, 24, .inl (ia pl)))] H := hP
  have hD : va_D A [(mo, .inr (7, [.ref m0, .ref m1, .ref m2, .ref m3, .ref m4, .ref m5, .ref m6, .ref m7, .ref m8, .ref m9, .ref m10, .ref m11, .ref m12, .ref m13, .ref m14, .ref m15, .ref m16, .ref m17, .ref m18, .ref m19, .int (iI aa), .ref m21])), (m5, .inl (cI, 24, .inl (ia pl)))] := hD
  obtain ⟨z_1, ez⟩ : ∃ y : Int, y = z := ⟨_, rfl⟩
  rw [← ez] at hw ⊢
  clear ez
  rcases hw with ⟨rfl, w6⟩ | ⟨rfl, w6⟩
  ·
    refine q_if_eq (tgt := 24) hx hb dX7_plan_9 (by decide) ⟨by decide, by decide⟩ (fun h => absurd h (by decide)) (fun _ => ?_)
    refine lv_iload_n hx hb dX7_plan_12 rfl (lv_at hl 2 rfl) ?_
    refine lv_i2l (v := lI v) hx hb dX7_plan_13 (iI_long ⟨by omega, by omega⟩) ?_
    refine lv_lconst (v := lI 0) hx hb dX7_plan_14 (by decide +kernel) ?_
    refine lv_ldc2 (v := lI 12) hx hb hown (hts _ lk_X7_plan_2) dX7_plan_15 ?_
    refine q_callSI (wr := [(mo, .inr (7, [.ref m0, .ref m1, .ref m2, .ref m3, .ref m4, .ref m5, .ref m6, .ref m7, .ref m8, .ref m9, .ref m10, .ref m11, .ref m12, .ref m13, .ref m14, .ref m15, .ref m16, .ref m17, .ref m18, .ref m19, .int (iI aa), .ref m21])), (m5, .inl (cI, 24, .inl (ia pl)))]) (wn := fun (u : Unit) => [(mo, .inr (7, [.ref m0, .ref m1, .ref m2, .ref m3, .ref m4, .ref m5, .ref m6, .ref m7, .ref m8, .ref m9, .ref m10, .ref m11, .ref m12, .ref m13, .ref m14, .ref m15, .ref m16, .ref m17, .ref m18, .ref m19, .int (iI aa), .ref m21])), (m5, .inl (cI, 24, .inl (ia pl)))]) (rest := []) [.long (lI v), .long (lI 0), .long (lI 12)] ⟨hx, hb, hml, hown, hts⟩ (c_X7_in l D cI cZ cII v 0 12 ⟨by omega, by omega⟩ ⟨by omega, by omega⟩ ⟨by omega, by omega⟩) (va_cwS 3 hts gX7_plan_X7_in rfl rfl rfl (by decide +kernel) (by rw [hRf, hRl]; exact ⟨Nat.le_of_ble_eq_true rfl, Nat.le_of_ble_eq_true rfl⟩)) hK hP hD hS hA hN [] [0, 1] [0, 1] rfl rfl rfl rfl (by decide) rfl (fun u => rfl) rfl hl.1 rfl (Nat.le_of_ble_eq_true rfl) dX7_plan_18 ⟨Nat.zero_le _, Nat.zero_le _⟩ (fun z u H locs hw hP hD hS => ?_)
    have hP : va_P D vwCl [(mo, .inr (7, [.ref m0, .ref m1, .ref m2, .ref m3, .ref m4, .ref m5, .ref m6, .ref m7, .ref m8, .ref m9, .ref m10, .ref m11, .ref m12, .ref m13, .ref m14, .ref m15, .ref m16, .ref m17, .ref m18, .ref m19, .int (iI aa), .ref m21])), (m5, .inl (cI, 24, .inl (ia pl)))] H := hP
    have hD : va_D A [(mo, .inr (7, [.ref m0, .ref m1, .ref m2, .ref m3, .ref m4, .ref m5, .ref m6, .ref m7, .ref m8, .ref m9, .ref m10, .ref m11, .ref m12, .ref m13, .ref m14, .ref m15, .ref m16, .ref m17, .ref m18, .ref m19, .int (iI aa), .ref m21])), (m5, .inl (cI, 24, .inl (ia pl)))] := hD
    obtain ⟨z_2, ez⟩ : ∃ y : Int, y = z := ⟨_, rfl⟩
    rw [← ez] at hw ⊢
    clear ez
    rcases hw with ⟨rfl, w18⟩ | ⟨rfl, w18⟩
    ·
      refine q_if_ne (tgt := 28) hx hb dX7_plan_21 (by decide) ⟨by decide, by decide⟩ (fun _ => ?_) (fun h => absurd h (by decide))
      refine lv_aload_n hx hb dX7_plan_28 rfl (lv_at hl 0 rfl) ?_
      refine va_get (D := D) (ci := 7) (v := .ref m5) (C := RX7) (T := TX7) (N := 22) hx hb hts in_X7_plan_X7 hown hK hP 0 rfl rfl 5 (by decide) (hts _ lk_X7_plan_3) (fun _ h9 => h9) rfl dX7_plan_29 ?_
      refine lv_iload_n hx hb dX7_plan_32 rfl (lv_at hl 1 rfl) ?_
      refine q_iald hx hb hK hP 1 0 rfl rfl (by omega) (by omega) (by decide) dX7_plan_33 ?_
      have hb33 := hB_pl h
      refine lv_istore_n (lv' := [(3, .int (iI (pl h))), (0, .ref mo), (1, .int (iI h)), (2, .int (iI v))]) hx hb dX7_plan_34 rfl hl (by decide) rfl (fun ls hl => ?_)
      refine lv_aload_n hx hb dX7_plan_35 rfl (lv_at hl 1 rfl) ?_
      refine va_get (D := D) (ci := 7) (v := .ref m5) (C := RX7) (T := TX7) (N := 22) hx hb hts in_X7_plan_X7 hown hK hP 0 rfl rfl 5 (by decide) (hts _ lk_X7_plan_3) (fun _ h9 => h9) rfl dX7_plan_36 ?_
      refine lv_iload_n hx hb dX7_plan_39 rfl (lv_at hl 2 rfl) ?_
      refine lv_iload_n hx hb dX7_plan_40 rfl (lv_at hl 3 rfl) ?_
      refine q_iast hx hb hK hP hD hS 1 0 rfl rfl (by omega) (by omega) (by decide) dX7_plan_41 (fun H locs hP hD hS => ?_)
      have hP : va_P D vwCl [(mo, .inr (7, [.ref m0, .ref m1, .ref m2, .ref m3, .ref m4, .ref m5, .ref m6, .ref m7, .ref m8, .ref m9, .ref m10, .ref m11, .ref m12, .ref m13, .ref m14, .ref m15, .ref m16, .ref m17, .ref m18, .ref m19, .int (iI aa), .ref m21])), (m5, .inl (cI, 24, .inl (ia (uI pl h v))))] H := hP
      have hD : va_D A [(mo, .inr (7, [.ref m0, .ref m1, .ref m2, .ref m3, .ref m4, .ref m5, .ref m6, .ref m7, .ref m8, .ref m9, .ref m10, .ref m11, .ref m12, .ref m13, .ref m14, .ref m15, .ref m16, .ref m17, .ref m18, .ref m19, .int (iI aa), .ref m21])), (m5, .inl (cI, 24, .inl (ia (uI pl h v))))] := hD
      have hB_3 : BB 0 12 (uI pl h v) := BB_uI hB_pl (by omega)
      refine lv_iload_n hx hb dX7_plan_42 rfl (lv_at hl 0 rfl) ?_
      rw [hQ]
      refine q_retI (uI pl h v) hx hb hr hlocks hK hP hD hS dX7_plan_43 ?_
      try dsimp only
      unfold plZ plN
      first | (rw [if_neg (by omega), if_neg (by omega)]; exact ⟨rfl, rfl, hB_pl⟩) | (rw [if_pos (by omega), if_pos (by omega)]; exact ⟨rfl, rfl, BB_uI hB_pl (by omega)⟩)
    ·
      refine q_if_ne (tgt := 28) hx hb dX7_plan_21 (by decide) ⟨by decide, by decide⟩ (fun h => absurd h (by decide)) (fun _ => ?_)
      refine lv_sipush (v := iI (-1002)) hx hb dX7_plan_24 (by decide +kernel) ?_
      rw [hQ]
      refine q_retI pl hx hb hr hlocks hK hP hD hS dX7_plan_27 ?_
      try dsimp only
      unfold plZ plN
      first | (rw [if_neg (by omega), if_neg (by omega)]; exact ⟨rfl, rfl, hB_pl⟩) | (rw [if_pos (by omega), if_pos (by omega)]; exact ⟨rfl, rfl, BB_uI hB_pl (by omega)⟩)
  ·
    refine q_if_eq (tgt := 24) hx hb dX7_plan_9 (by decide) ⟨by decide, by decide⟩ (fun _ => ?_) (fun h => absurd h (by decide))
    refine lv_sipush (v := iI (-1002)) hx hb dX7_plan_24 (by decide +kernel) ?_
    rw [hQ]
    refine q_retI pl hx hb hr hlocks hK hP hD hS dX7_plan_27 ?_
    try dsimp only
    unfold plZ plN
    first | (rw [if_neg (by omega), if_neg (by omega)]; exact ⟨rfl, rfl, hB_pl⟩) | (rw [if_pos (by omega), if_pos (by omega)]; exact ⟨rfl, rfl, BB_uI hB_pl (by omega)⟩)

theorem in_X7_lose_X7 : ∀ w ∈ wsX70, w ∈ wsX7_lose := fun _ h => List.mem_cons_of_mem _ (List.mem_append_right _ h)
theorem lk_X7_lose_1 : Cond.fieldLink RX7 29 "MoreHandsModel" "run" "[I" ∈ wsX7_lose := List.mem_of_getElem? (i := 1) rfl
theorem lk_X7_lose_2 : Cond.fieldLink RX7 22 "MoreHandsModel" "isLost" "[Z" ∈ wsX7_lose := List.mem_of_getElem? (i := 2) rfl
set_option maxHeartbeats 4000000 in
set_option maxRecDepth 100000 in
theorem c_X7_lose (l : Launch) (D : va_G) (cI cZ cII : ClassId) (mo : Nat) (m4 : Nat) (m6 : Nat) (m0 : Nat) (m1 : Nat) (m2 : Nat) (m3 : Nat) (m5 : Nat) (m7 : Nat) (m8 : Nat) (m9 : Nat) (m10 : Nat) (m11 : Nat) (m12 : Nat) (m13 : Nat) (m14 : Nat) (m15 : Nat) (m16 : Nat) (m17 : Nat) (m18 : Nat) (m19 : Nat) (aa : Int) (m21 : Nat) (lm : Int → Int) (ru : Int → Int) (t : Int) (v : Int) (hB_lm : BB 0 1 lm) (hp_t : IR t) (hp_v : 0 ≤ v ∧ v ≤ 1) (hr0 : 0 ≤ ru 0 ∧ ru 0 ≤ 200) : CtI l yX7_lose wsX7_lose 2 45 D (ty3 cI cZ cII) [.ref mo, .int (iI t), .int (iI v)] [(mo, .inr (7, [.ref m0, .ref m1, .ref m2, .ref m3, .ref m4, .ref m5, .ref m6, .ref m7, .ref m8, .ref m9, .ref m10, .ref m11, .ref m12, .ref m13, .ref m14, .ref m15, .ref m16, .ref m17, .ref m18, .ref m19, .int (iI aa), .ref m21])), (m4, .inl (cZ, 200, .inl (ia lm))), (m6, .inl (cI, 8, .inl (ia ru)))] (fun z (u : (Int → Int)) => z = lmZ lm (ru 0) t ∧ u = lmN lm (ru 0) t v ∧ BB 0 1 u) (fun u => [(mo, .inr (7, [.ref m0, .ref m1, .ref m2, .ref m3, .ref m4, .ref m5, .ref m6, .ref m7, .ref m8, .ref m9, .ref m10, .ref m11, .ref m12, .ref m13, .ref m14, .ref m15, .ref m16, .ref m17, .ref m18, .ref m19, .int (iI aa), .ref m21])), (m4, .inl (cZ, 200, .inl (ia u))), (m6, .inl (cI, 8, .inl (ia ru)))]) := by
  refine CtI.mk (cc := cX7_lose) (maxL := 4) (ret := (some .int)) (by decide) rfl (Nat.le_of_ble_eq_true rfl) ?_
  intro p e s m below meth c A ls R args Q hx hb hml hr hts hown hlocks hA hK hP hD hN hS hl hRf hRl hQ
  have hl : lv_has ls 4 [(0, .ref mo), (1, .int (iI t)), (2, .int (iI v))] := hl
  have hown : s.vm.findClass RX7 = some m.cls := hown
  refine lv_iload_n hx hb dX7_lose_0 rfl (lv_at hl 1 rfl) ?_
  refine q_callSI (wr := [(mo, .inr (7, [.ref m0, .ref m1, .ref m2, .ref m3, .ref m4, .ref m5, .ref m6, .ref m7, .ref m8, .ref m9, .ref m10, .ref m11, .ref m12, .ref m13, .ref m14, .ref m15, .ref m16, .ref m17, .ref m18, .ref m19, .int (iI aa), .ref m21])), (m4, .inl (cZ, 200, .inl (ia lm))), (m6, .inl (cI, 8, .inl (ia ru)))]) (wn := fun (u : Unit) => [(mo, .inr (7, [.ref m0, .ref m1, .ref m2, .ref m3, .ref m4, .ref m5, .ref m6, .ref m7, .ref m8, .ref m9, .ref m10, .ref m11, .ref m12, .ref m13, .ref m14, .ref m15, .ref m16, .ref m17, .ref m18, .ref m19, .int (iI aa), .ref m21])), (m4, .inl (cZ, 200, .inl (ia lm))), (m6, .inl (cI, 8, .inl (ia ru)))]) (rest := []) [.int (iI t)] ⟨hx, hb, hml, hown, hts⟩ (c_X7_isTick l D cI cZ cII t ⟨by omega, by omega⟩) (va_cwS 1 hts gX7_lose_X7_isTick rfl rfl rfl (by decide +kernel) (by rw [hRf, hRl]; exact ⟨Nat.le_of_ble_eq_true rfl, Nat.le_of_ble_eq_true rfl⟩)) hK hP hD hS hA hN [] [0, 1, 2] [0, 1, 2] rfl rfl rfl rfl (by decide) rfl (fun u => rfl) rfl hl.1 rfl (Nat.le_of_ble_eq_true rfl) dX7_lose_1 ⟨Nat.zero_le _, Nat.zero_le _⟩ (fun z u H locs hw hP hD hS => ?_)
  have hP : va_P D vwCl [(mo, .inr (7, [.ref m0, .ref m1, .ref m2, .ref m3, .ref m4, .ref m5, .ref m6, .ref m7, .ref m8, .ref m9, .ref m10, .ref m11, .ref m12, .ref m13, .ref m14, .ref m15, .ref m16, .ref m17, .ref m18, .ref m19, .int (iI aa), .ref m21])), (m4, .inl (cZ, 200, .inl (ia lm))), (m6, .inl (cI, 8, .inl (ia ru)))] H := hP
  have hD : va_D A [(mo, .inr (7, [.ref m0, .ref m1, .ref m2, .ref m3, .ref m4, .ref m5, .ref m6, .ref m7, .ref m8, .ref m9, .ref m10, .ref m11, .ref m12, .ref m13, .ref m14, .ref m15, .ref m16, .ref m17, .ref m18, .ref m19, .int (iI aa), .ref m21])), (m4, .inl (cZ, 200, .inl (ia lm))), (m6, .inl (cI, 8, .inl (ia ru)))] := hD
  obtain ⟨z_1, ez⟩ : ∃ y : Int, y = z := ⟨_, rfl⟩
  rw [← ez] at hw ⊢
  clear ez
  rcases hw with ⟨rfl, w1⟩ | ⟨rfl, w1⟩
  ·
    refine q_if_ne (tgt := 11) hx hb dX7_lose_4 (by decide) ⟨by decide, by decide⟩ (fun _ => ?_) (fun h => absurd h (by decide))
    refine lv_iload_n hx hb dX7_lose_11 rfl (lv_at hl 1 rfl) ?_
    refine lv_aload_n hx hb dX7_lose_12 rfl (lv_at hl 0 rfl) ?_
    refine va_get (D := D) (ci := 7) (v := .ref m6) (C := RX7) (T := TX7) (N := 22) hx hb hts in_X7_lose_X7 hown hK hP 0 rfl rfl 6 (by decide) (hts _ lk_X7_lose_1) (fun _ h9 => h9) rfl dX7_lose_13 ?_
    refine lv_iconst (v := iI 0) hx hb dX7_lose_16 rfl ?_
    refine q_iald hx hb hK hP 2 0 rfl rfl (by omega) (by omega) (by decide) dX7_lose_17 ?_
    refine q_icmp_ge (tgt := 25) hx hb dX7_lose_18 (by decide) ⟨by omega, by omega⟩ ⟨by omega, by omega⟩ (fun c18 => ?_) (fun c18 => ?_)
    ·
      refine lv_aload_n hx hb dX7_lose_25 rfl (lv_at hl 0 rfl) ?_
      refine va_get (D := D) (ci := 7) (v := .ref m4) (C := RX7) (T := TX7) (N := 22) hx hb hts in_X7_lose_X7 hown hK hP 0 rfl rfl 4 (by decide) (hts _ lk_X7_lose_2) (fun _ h9 => h9) rfl dX7_lose_26 ?_
      refine lv_iload_n hx hb dX7_lose_29 rfl (lv_at hl 1 rfl) ?_
      refine q_zald hx hb hK hP 1 1 rfl rfl (by omega) (by omega) (by decide) dX7_lose_30 ?_
      have hb30 := hB_lm t
      refine q_if_eq (tgt := 38) hx hb dX7_lose_31 (by decide) ⟨by omega, by omega⟩ (fun c31 => ?_) (fun c31 => ?_)
      ·
        refine lv_iconst (v := iI 0) hx hb dX7_lose_38 rfl ?_
        refine lv_istore_n (lv' := [(3, .int (iI 0)), (0, .ref mo), (1, .int (iI t)), (2, .int (iI v))]) hx hb dX7_lose_39 rfl hl (by decide) rfl (fun ls hl => ?_)
        refine lv_aload_n hx hb dX7_lose_40 rfl (lv_at hl 1 rfl) ?_
        refine va_get (D := D) (ci := 7) (v := .ref m4) (C := RX7) (T := TX7) (N := 22) hx hb hts in_X7_lose_X7 hown hK hP 0 rfl rfl 4 (by decide) (hts _ lk_X7_lose_2) (fun _ h9 => h9) rfl dX7_lose_41 ?_
        refine lv_iload_n hx hb dX7_lose_44 rfl (lv_at hl 2 rfl) ?_
        refine lv_iload_n hx hb dX7_lose_45 rfl (lv_at hl 3 rfl) ?_
        refine q_zast hx hb hK hP hD hS 1 1 rfl rfl (by omega) (by omega) (by decide) (by omega) dX7_lose_46 (fun H locs hP hD hS => ?_)
        have hP : va_P D vwCl [(mo, .inr (7, [.ref m0, .ref m1, .ref m2, .ref m3, .ref m4, .ref m5, .ref m6, .ref m7, .ref m8, .ref m9, .ref m10, .ref m11, .ref m12, .ref m13, .ref m14, .ref m15, .ref m16, .ref m17, .ref m18, .ref m19, .int (iI aa), .ref m21])), (m4, .inl (cZ, 200, .inl (ia (uI lm t v)))), (m6, .inl (cI, 8, .inl (ia ru)))] H := hP
        have hD : va_D A [(mo, .inr (7, [.ref m0, .ref m1, .ref m2, .ref m3, .ref m4, .ref m5, .ref m6, .ref m7, .ref m8, .ref m9, .ref m10, .ref m11, .ref m12, .ref m13, .ref m14, .ref m15, .ref m16, .ref m17, .ref m18, .ref m19, .int (iI aa), .ref m21])), (m4, .inl (cZ, 200, .inl (ia (uI lm t v)))), (m6, .inl (cI, 8, .inl (ia ru)))] := hD
        have hB_2 : BB 0 1 (uI lm t v) := BB_uI hB_lm (by omega)
        refine lv_iload_n hx hb dX7_lose_47 rfl (lv_at hl 0 rfl) ?_
        rw [hQ]
        refine q_retI (uI lm t v) hx hb hr hlocks hK hP hD hS dX7_lose_48 ?_
        try dsimp only
        unfold lmZ lmN
        first | (rw [if_neg (by omega), if_neg (by omega)]; exact ⟨rfl, rfl, hB_lm⟩) | (rw [if_pos (by omega), if_pos (by omega), if_neg (by omega)]; exact ⟨rfl, rfl, hB_lm⟩) | (rw [if_pos (by omega), if_neg (by omega), if_pos (by omega)]; exact ⟨by omega, rfl, BB_uI hB_lm (by omega)⟩)
      ·
        refine lv_iconst (v := iI 1) hx hb dX7_lose_34 rfl ?_
        refine lv_goto (tgt := 39) hx hb dX7_lose_35 (by decide) ?_
        refine lv_istore_n (lv' := [(3, .int (iI 1)), (0, .ref mo), (1, .int (iI t)), (2, .int (iI v))]) hx hb dX7_lose_39 rfl hl (by decide) rfl (fun ls hl => ?_)
        refine lv_aload_n hx hb dX7_lose_40 rfl (lv_at hl 1 rfl) ?_
        refine va_get (D := D) (ci := 7) (v := .ref m4) (C := RX7) (T := TX7) (N := 22) hx hb hts in_X7_lose_X7 hown hK hP 0 rfl rfl 4 (by decide) (hts _ lk_X7_lose_2) (fun _ h9 => h9) rfl dX7_lose_41 ?_
        refine lv_iload_n hx hb dX7_lose_44 rfl (lv_at hl 2 rfl) ?_
        refine lv_iload_n hx hb dX7_lose_45 rfl (lv_at hl 3 rfl) ?_
        refine q_zast hx hb hK hP hD hS 1 1 rfl rfl (by omega) (by omega) (by decide) (by omega) dX7_lose_46 (fun H locs hP hD hS => ?_)
        have hP : va_P D vwCl [(mo, .inr (7, [.ref m0, .ref m1, .ref m2, .ref m3, .ref m4, .ref m5, .ref m6, .ref m7, .ref m8, .ref m9, .ref m10, .ref m11, .ref m12, .ref m13, .ref m14, .ref m15, .ref m16, .ref m17, .ref m18, .ref m19, .int (iI aa), .ref m21])), (m4, .inl (cZ, 200, .inl (ia (uI lm t v)))), (m6, .inl (cI, 8, .inl (ia ru)))] H := hP
        have hD : va_D A [(mo, .inr (7, [.ref m0, .ref m1, .ref m2, .ref m3, .ref m4, .ref m5, .ref m6, .ref m7, .ref m8, .ref m9, .ref m10, .ref m11, .ref m12, .ref m13, .ref m14, .ref m15, .ref m16, .ref m17, .ref m18, .ref m19, .int (iI aa), .ref m21])), (m4, .inl (cZ, 200, .inl (ia (uI lm t v)))), (m6, .inl (cI, 8, .inl (ia ru)))] := hD
        have hB_3 : BB 0 1 (uI lm t v) := BB_uI hB_lm (by omega)
        refine lv_iload_n hx hb dX7_lose_47 rfl (lv_at hl 0 rfl) ?_
        rw [hQ]
        refine q_retI (uI lm t v) hx hb hr hlocks hK hP hD hS dX7_lose_48 ?_
        try dsimp only
        unfold lmZ lmN
        first | (rw [if_neg (by omega), if_neg (by omega)]; exact ⟨rfl, rfl, hB_lm⟩) | (rw [if_pos (by omega), if_pos (by omega), if_neg (by omega)]; exact ⟨rfl, rfl, hB_lm⟩) | (rw [if_pos (by omega), if_neg (by omega), if_pos (by omega)]; exact ⟨by omega, rfl, BB_uI hB_lm (by omega)⟩)
    ·
      refine lv_sipush (v := iI (-1003)) hx hb dX7_lose_21 (by decide +kernel) ?_
      rw [hQ]
      refine q_retI lm hx hb hr hlocks hK hP hD hS dX7_lose_24 ?_
      try dsimp only
      unfold lmZ lmN
      first | (rw [if_neg (by omega), if_neg (by omega)]; exact ⟨rfl, rfl, hB_lm⟩) | (rw [if_pos (by omega), if_pos (by omega), if_neg (by omega)]; exact ⟨rfl, rfl, hB_lm⟩) | (rw [if_pos (by omega), if_neg (by omega), if_pos (by omega)]; exact ⟨by omega, rfl, BB_uI hB_lm (by omega)⟩)
  ·
    refine q_if_ne (tgt := 11) hx hb dX7_lose_4 (by decide) ⟨by decide, by decide⟩ (fun h => absurd h (by decide)) (fun _ => ?_)
    refine lv_sipush (v := iI (-1002)) hx hb dX7_lose_7 (by decide +kernel) ?_
    rw [hQ]
    refine q_retI lm hx hb hr hlocks hK hP hD hS dX7_lose_10 ?_
    try dsimp only
    unfold lmZ lmN
    first | (rw [if_neg (by omega), if_neg (by omega)]; exact ⟨rfl, rfl, hB_lm⟩) | (rw [if_pos (by omega), if_pos (by omega), if_neg (by omega)]; exact ⟨rfl, rfl, hB_lm⟩) | (rw [if_pos (by omega), if_neg (by omega), if_pos (by omega)]; exact ⟨by omega, rfl, BB_uI hB_lm (by omega)⟩)

theorem in_X7_tick_X7 : ∀ w ∈ wsX70, w ∈ wsX7_tick := fun _ h => List.mem_cons_of_mem _ (List.mem_append_right _ h)
theorem lk_X7_tick_1 : Cond.constantLong RX7 145 (200) ∈ wsX7_tick := List.mem_of_getElem? (i := 1) rfl
theorem lk_X7_tick_2 : Cond.fieldLink RX7 29 "MoreHandsModel" "run" "[I" ∈ wsX7_tick := List.mem_of_getElem? (i := 2) rfl
theorem lk_X7_tick_3 : Cond.fieldLink RX7 22 "MoreHandsModel" "isLost" "[Z" ∈ wsX7_tick := List.mem_of_getElem? (i := 3) rfl
set_option maxHeartbeats 4000000 in
set_option maxRecDepth 100000 in
theorem c_X7_tick (l : Launch) (D : va_G) (cI cZ cII : ClassId) (mo : Nat) (m0 : Nat) (m5 : Nat) (m6 : Nat) (m7 : Nat) (m8 : Nat) (m9 : Nat) (m10 : Nat) (m11 : Nat) (m12 : Nat) (m13 : Nat) (m14 : Nat) (m15 : Nat) (m16 : Nat) (m3 : Nat) (m4 : Nat) (m1 : Nat) (m2 : Nat) (m17 : Nat) (m18 : Nat) (m19 : Nat) (aa : Int) (m21 : Nat) (se : Int → Int) (pl : Int → Int) (ru : Int → Int) (st : Int → Int) (sn : Int → Int) (kt : Int → Int) (kr : Int → Int) (km : Int → Int) (ar : Int → Int) (am : Int → Int) (hp : Int → Int) (no : Int → Int) (ws : Int → Int) (ld : Int → Int) (lm : Int → Int) (cn : Int) (a : Ab) (hB_se : BB 0 1000 se) (hB_pl : BB 0 12 pl) (hB_st : BB 0 3 st) (hB_sn : BB 0 200 sn) (hB_kt : BB 0 200 kt) (hB_kr : BB 0 4 kr) (hB_km : BB 0 60 km) (hB_ar : BB 0 4 ar) (hB_am : BB 0 60 am) (hB_no : BB (-1) 12000 no) (hB_ld : BB 0 60 ld) (hB_lm : BB 0 1 lm) (hp_cn : IR cn) (hse : SB se) (hmr : MR ru st sn kt kr km ar am hp no ws a) : CtI l yX7_tick wsX7_tick 5 119 D (ty3 cI cZ cII) [.ref mo, .int (iI cn)] [(mo, .inr (7, [.ref m0, .ref m1, .ref m2, .ref m3, .ref m4, .ref m5, .ref m6, .ref m7, .ref m8, .ref m9, .ref m10, .ref m11, .ref m12, .ref m13, .ref m14, .ref m15, .ref m16, .ref m17, .ref m18, .ref m19, .int (iI aa), .ref m21])), (m0, .inl (cI, 19, .inl (ia se))), (m5, .inl (cI, 24, .inl (ia pl))), (m6, .inl (cI, 8, .inl (ia ru))), (m7, .inl (cI, 12, .inl (ia st))), (m8, .inl (cI, 12, .inl (ia sn))), (m9, .inl (cI, 200, .inl (ia kt))), (m10, .inl (cI, 200, .inl (ia kr))), (m11, .inl (cI, 200, .inl (ia km))), (m12, .inl (cI, 200, .inl (ia ar))), (m13, .inl (cI, 200, .inl (ia am))), (m14, .inl (cI, 2, .inl (ia hp))), (m15, .inl (cI, 200, .inl (ia no))), (m16, .inl (cI, 1200, .inl (ia ws))), (m3, .inl (cI, 200, .inl (ia ld))), (m4, .inl (cZ, 200, .inl (ia lm)))] (fun z (u : (Int → Int) × (Int → Int) × (Int → Int) × (Int → Int) × (Int → Int) × (Int → Int) × (Int → Int) × (Int → Int) × (Int → Int) × (Int → Int) × (Int → Int)) => z = tiZ (ru 0) cn ∧ MR u.1 u.2.1 u.2.2.1 u.2.2.2.1 u.2.2.2.2.1 u.2.2.2.2.2.1 u.2.2.2.2.2.2.1 u.2.2.2.2.2.2.2.1 u.2.2.2.2.2.2.2.2.1 u.2.2.2.2.2.2.2.2.2.1 u.2.2.2.2.2.2.2.2.2.2 (tkI se pl ld lm (tiC (ru 0) cn) a) ∧ BB 0 3 u.2.1 ∧ BB 0 200 u.2.2.1 ∧ BB 0 200 u.2.2.2.1 ∧ BB 0 4 u.2.2.2.2.1 ∧ BB 0 60 u.2.2.2.2.2.1 ∧ BB 0 4 u.2.2.2.2.2.2.1 ∧ BB 0 60 u.2.2.2.2.2.2.2.1 ∧ BB (-1) 12000 u.2.2.2.2.2.2.2.2.2.1) (fun u => [(mo, .inr (7, [.ref m0, .ref m1, .ref m2, .ref m3, .ref m4, .ref m5, .ref m6, .ref m7, .ref m8, .ref m9, .ref m10, .ref m11, .ref m12, .ref m13, .ref m14, .ref m15, .ref m16, .ref m17, .ref m18, .ref m19, .int (iI aa), .ref m21])), (m0, .inl (cI, 19, .inl (ia se))), (m5, .inl (cI, 24, .inl (ia pl))), (m6, .inl (cI, 8, .inl (ia u.1))), (m7, .inl (cI, 12, .inl (ia u.2.1))), (m8, .inl (cI, 12, .inl (ia u.2.2.1))), (m9, .inl (cI, 200, .inl (ia u.2.2.2.1))), (m10, .inl (cI, 200, .inl (ia u.2.2.2.2.1))), (m11, .inl (cI, 200, .inl (ia u.2.2.2.2.2.1))), (m12, .inl (cI, 200, .inl (ia u.2.2.2.2.2.2.1))), (m13, .inl (cI, 200, .inl (ia u.2.2.2.2.2.2.2.1))), (m14, .inl (cI, 2, .inl (ia u.2.2.2.2.2.2.2.2.1))), (m15, .inl (cI, 200, .inl (ia u.2.2.2.2.2.2.2.2.2.1))), (m16, .inl (cI, 1200, .inl (ia u.2.2.2.2.2.2.2.2.2.2))), (m3, .inl (cI, 200, .inl (ia ld))), (m4, .inl (cZ, 200, .inl (ia lm)))]) := by
  refine CtI.mk (cc := cX7_tick) (maxL := 3) (ret := (some .int)) (by decide) rfl (Nat.le_of_ble_eq_true rfl) ?_
  intro p e s m below meth c A ls R args Q hx hb hml hr hts hown hlocks hA hK hP hD hN hS hl hRf hRl hQ
  have hl : lv_has ls 3 [(0, .ref mo), (1, .int (iI cn))] := hl
  have hown : s.vm.findClass RX7 = some m.cls := hown
  have hr0 := hmr.2.2.2.2.2.2.2.2.1.1
  refine lv_iload_n hx hb dX7_tick_0 rfl (lv_at hl 1 rfl) ?_
  refine lv_i2l (v := lI cn) hx hb dX7_tick_1 (iI_long ⟨by omega, by omega⟩) ?_
  refine lv_lconst (v := lI 0) hx hb dX7_tick_2 (by decide +kernel) ?_
  refine lv_ldc2 (v := lI 200) hx hb hown (hts _ lk_X7_tick_1) dX7_tick_3 ?_
  refine q_callSI (wr := [(mo, .inr (7, [.ref m0, .ref m1, .ref m2, .ref m3, .ref m4, .ref m5, .ref m6, .ref m7, .ref m8, .ref m9, .ref m10, .ref m11, .ref m12, .ref m13, .ref m14, .ref m15, .ref m16, .ref m17, .ref m18, .ref m19, .int (iI aa), .ref m21])), (m0, .inl (cI, 19, .inl (ia se))), (m5, .inl (cI, 24, .inl (ia pl))), (m6, .inl (cI, 8, .inl (ia ru))), (m7, .inl (cI, 12, .inl (ia st))), (m8, .inl (cI, 12, .inl (ia sn))), (m9, .inl (cI, 200, .inl (ia kt))), (m10, .inl (cI, 200, .inl (ia kr))), (m11, .inl (cI, 200, .inl (ia km))), (m12, .inl (cI, 200, .inl (ia ar))), (m13, .inl (cI, 200, .inl (ia am))), (m14, .inl (cI, 2, .inl (ia hp))), (m15, .inl (cI, 200, .inl (ia no))), (m16, .inl (cI, 1200, .inl (ia ws))), (m3, .inl (cI, 200, .inl (ia ld))), (m4, .inl (cZ, 200, .inl (ia lm)))]) (wn := fun (u : Unit) => [(mo, .inr (7, [.ref m0, .ref m1, .ref m2, .ref m3, .ref m4, .ref m5, .ref m6, .ref m7, .ref m8, .ref m9, .ref m10, .ref m11, .ref m12, .ref m13, .ref m14, .ref m15, .ref m16, .ref m17, .ref m18, .ref m19, .int (iI aa), .ref m21])), (m0, .inl (cI, 19, .inl (ia se))), (m5, .inl (cI, 24, .inl (ia pl))), (m6, .inl (cI, 8, .inl (ia ru))), (m7, .inl (cI, 12, .inl (ia st))), (m8, .inl (cI, 12, .inl (ia sn))), (m9, .inl (cI, 200, .inl (ia kt))), (m10, .inl (cI, 200, .inl (ia kr))), (m11, .inl (cI, 200, .inl (ia km))), (m12, .inl (cI, 200, .inl (ia ar))), (m13, .inl (cI, 200, .inl (ia am))), (m14, .inl (cI, 2, .inl (ia hp))), (m15, .inl (cI, 200, .inl (ia no))), (m16, .inl (cI, 1200, .inl (ia ws))), (m3, .inl (cI, 200, .inl (ia ld))), (m4, .inl (cZ, 200, .inl (ia lm)))]) (rest := []) [.long (lI cn), .long (lI 0), .long (lI 200)] ⟨hx, hb, hml, hown, hts⟩ (c_X7_in l D cI cZ cII cn 0 200 ⟨by omega, by omega⟩ ⟨by omega, by omega⟩ ⟨by omega, by omega⟩) (va_cwS 3 hts gX7_tick_X7_in rfl rfl rfl (by decide +kernel) (by rw [hRf, hRl]; exact ⟨Nat.le_of_ble_eq_true rfl, Nat.le_of_ble_eq_true rfl⟩)) hK hP hD hS hA hN [] [0, 1, 2, 3, 4, 5, 6, 7, 8, 9, 10, 11, 12, 13, 14, 15] [0, 1, 2, 3, 4, 5, 6, 7, 8, 9, 10, 11, 12, 13, 14, 15] rfl rfl rfl rfl (by decide) rfl (fun u => rfl) rfl hl.1 rfl (Nat.le_of_ble_eq_true rfl) dX7_tick_6 ⟨Nat.zero_le _, Nat.zero_le _⟩ (fun z u H locs hw hP hD hS => ?_)
  have hP : va_P D vwCl [(mo, .inr (7, [.ref m0, .ref m1, .ref m2, .ref m3, .ref m4, .ref m5, .ref m6, .ref m7, .ref m8, .ref m9, .ref m10, .ref m11, .ref m12, .ref m13, .ref m14, .ref m15, .ref m16, .ref m17, .ref m18, .ref m19, .int (iI aa), .ref m21])), (m0, .inl (cI, 19, .inl (ia se))), (m5, .inl (cI, 24, .inl (ia pl))), (m6, .inl (cI, 8, .inl (ia ru))), (m7, .inl (cI, 12, .inl (ia st))), (m8, .inl (cI, 12, .inl (ia sn))), (m9, .inl (cI, 200, .inl (ia kt))), (m10, .inl (cI, 200, .inl (ia kr))), (m11, .inl (cI, 200, .inl (ia km))), (m12, .inl (cI, 200, .inl (ia ar))), (m13, .inl (cI, 200, .inl (ia am))), (m14, .inl (cI, 2, .inl (ia hp))), (m15, .inl (cI, 200, .inl (ia no))), (m16, .inl (cI, 1200, .inl (ia ws))), (m3, .inl (cI, 200, .inl (ia ld))), (m4, .inl (cZ, 200, .inl (ia lm)))] H := hP
  have hD : va_D A [(mo, .inr (7, [.ref m0, .ref m1, .ref m2, .ref m3, .ref m4, .ref m5, .ref m6, .ref m7, .ref m8, .ref m9, .ref m10, .ref m11, .ref m12, .ref m13, .ref m14, .ref m15, .ref m16, .ref m17, .ref m18, .ref m19, .int (iI aa), .ref m21])), (m0, .inl (cI, 19, .inl (ia se))), (m5, .inl (cI, 24, .inl (ia pl))), (m6, .inl (cI, 8, .inl (ia ru))), (m7, .inl (cI, 12, .inl (ia st))), (m8, .inl (cI, 12, .inl (ia sn))), (m9, .inl (cI, 200, .inl (ia kt))), (m10, .inl (cI, 200, .inl (ia kr))), (m11, .inl (cI, 200, .inl (ia km))), (m12, .inl (cI, 200, .inl (ia ar))), (m13, .inl (cI, 200, .inl (ia am))), (m14, .inl (cI, 2, .inl (ia hp))), (m15, .inl (cI, 200, .inl (ia no))), (m16, .inl (cI, 1200, .inl (ia ws))), (m3, .inl (cI, 200, .inl (ia ld))), (m4, .inl (cZ, 200, .inl (ia lm)))] := hD
  obtain ⟨z_1, ez⟩ : ∃ y : Int, y = z := ⟨_, rfl⟩
  rw [← ez] at hw ⊢
  clear ez
  rcases hw with ⟨rfl, w6⟩ | ⟨rfl, w6⟩
  ·
    refine q_if_ne (tgt := 16) hx hb dX7_tick_9 (by decide) ⟨by decide, by decide⟩ (fun _ => ?_) (fun h => absurd h (by decide))
    refine lv_aload_n hx hb dX7_tick_16 rfl (lv_at hl 0 rfl) ?_
    refine va_get (D := D) (ci := 7) (v := .ref m6) (C := RX7) (T := TX7) (N := 22) hx hb hts in_X7_tick_X7 hown hK hP 0 rfl rfl 6 (by decide) (hts _ lk_X7_tick_2) (fun _ h9 => h9) rfl dX7_tick_17 ?_
    refine lv_iconst (v := iI 0) hx hb dX7_tick_20 rfl ?_
    refine q_iald hx hb hK hP 3 0 rfl rfl (by omega) (by omega) (by decide) dX7_tick_21 ?_
    refine lv_iload_n hx hb dX7_tick_22 rfl (lv_at hl 1 rfl) ?_
    refine q_iadd hx hb dX7_tick_23 ?_
    refine lv_sipush (v := iI 200) hx hb dX7_tick_24 (by decide +kernel) ?_
    refine q_icmp_le (tgt := 34) hx hb dX7_tick_27 (by decide) ⟨by omega, by omega⟩ ⟨by decide, by decide⟩ (fun c27 => ?_) (fun c27 => ?_)
    ·
      refine lv_iconst (v := iI 0) hx hb dX7_tick_34 rfl ?_
      refine lv_istore_n (lv' := [(2, .int (iI 0)), (0, .ref mo), (1, .int (iI cn))]) hx hb dX7_tick_35 rfl hl (by decide) rfl (fun ls hl => ?_)
      have L36_0 : ∀ (n : Nat), ∀ (i : Int) (ru1 : Int → Int) (st1 : Int → Int) (sn1 : Int → Int) (kt1 : Int → Int) (kr1 : Int → Int) (km1 : Int → Int) (ar1 : Int → Int) (am1 : Int → Int) (hp1 : Int → Int) (no1 : Int → Int) (ws1 : Int → Int) (a1 : Ab), (hB_st1 : BB 0 3 st1) → (hB_sn1 : BB 0 200 sn1) → (hB_kt1 : BB 0 200 kt1) → (hB_kr1 : BB 0 4 kr1) → (hB_km1 : BB 0 60 km1) → (hB_ar1 : BB 0 4 ar1) → (hB_am1 : BB 0 60 am1) → (hB_no1 : BB (-1) 12000 no1) → (hi : 0 ≤ i ∧ i ≤ cn) → (hmr1 : MR ru1 st1 sn1 kt1 kr1 km1 ar1 am1 hp1 no1 ws1 a1) → (hti1 : ru1 0 = ru 0 + i) → (hI : tkI se pl ld lm (cn - i).toNat a1 = tkI se pl ld lm cn.toNat a) → (cn - i) < (n : Int) → ∀ (H : Heap) (locs : List Loc), va_P D vwCl [(mo, .inr (7, [.ref m0, .ref m1, .ref m2, .ref m3, .ref m4, .ref m5, .ref m6, .ref m7, .ref m8, .ref m9, .ref m10, .ref m11, .ref m12, .ref m13, .ref m14, .ref m15, .ref m16, .ref m17, .ref m18, .ref m19, .int (iI aa), .ref m21])), (m0, .inl (cI, 19, .inl (ia se))), (m5, .inl (cI, 24, .inl (ia pl))), (m6, .inl (cI, 8, .inl (ia ru1))), (m7, .inl (cI, 12, .inl (ia st1))), (m8, .inl (cI, 12, .inl (ia sn1))), (m9, .inl (cI, 200, .inl (ia kt1))), (m10, .inl (cI, 200, .inl (ia kr1))), (m11, .inl (cI, 200, .inl (ia km1))), (m12, .inl (cI, 200, .inl (ia ar1))), (m13, .inl (cI, 200, .inl (ia am1))), (m14, .inl (cI, 2, .inl (ia hp1))), (m15, .inl (cI, 200, .inl (ia no1))), (m16, .inl (cI, 1200, .inl (ia ws1))), (m3, .inl (cI, 200, .inl (ia ld))), (m4, .inl (cZ, 200, .inl (ia lm)))] H → va_D A [(mo, .inr (7, [.ref m0, .ref m1, .ref m2, .ref m3, .ref m4, .ref m5, .ref m6, .ref m7, .ref m8, .ref m9, .ref m10, .ref m11, .ref m12, .ref m13, .ref m14, .ref m15, .ref m16, .ref m17, .ref m18, .ref m19, .int (iI aa), .ref m21])), (m0, .inl (cI, 19, .inl (ia se))), (m5, .inl (cI, 24, .inl (ia pl))), (m6, .inl (cI, 8, .inl (ia ru1))), (m7, .inl (cI, 12, .inl (ia st1))), (m8, .inl (cI, 12, .inl (ia sn1))), (m9, .inl (cI, 200, .inl (ia kt1))), (m10, .inl (cI, 200, .inl (ia kr1))), (m11, .inl (cI, 200, .inl (ia km1))), (m12, .inl (cI, 200, .inl (ia ar1))), (m13, .inl (cI, 200, .inl (ia am1))), (m14, .inl (cI, 2, .inl (ia hp1))), (m15, .inl (cI, 200, .inl (ia no1))), (m16, .inl (cI, 1200, .inl (ia ws1))), (m3, .inl (cI, 200, .inl (ia ld))), (m4, .inl (cZ, 200, .inl (ia lm)))] → va_S A s.heap H locs → ∀ ls : Array Slot, lv_has ls 3 [(0, .ref mo), (1, .int (iI cn)), (2, .int (iI i))] → W p l e R s m args below meth c H locs 0 0 Q (F0 m 36 ls []) := by
        intro n
        induction n with
        | zero => intro i ru1 st1 sn1 kt1 kr1 km1 ar1 am1 hp1 no1 ws1 a1 hB_st1 hB_sn1 hB_kt1 hB_kr1 hB_km1 hB_ar1 hB_am1 hB_no1 hi hmr1 hti1 hI hm; exact absurd hm (by omega)
        | succ n ih =>
          intro i ru1 st1 sn1 kt1 kr1 km1 ar1 am1 hp1 no1 ws1 a1 hB_st1 hB_sn1 hB_kt1 hB_kr1 hB_km1 hB_ar1 hB_am1 hB_no1 hi hmr1 hti1 hI hm H locs hP hD hS ls hl
          have hblm := hB_lm (ru1 0)
          refine lv_iload_n hx hb dX7_tick_36 rfl (lv_at hl 2 rfl) ?_
          refine lv_iload_n hx hb dX7_tick_37 rfl (lv_at hl 1 rfl) ?_
          refine q_icmp_ge (tgt := 62) hx hb dX7_tick_38 (by decide) ⟨by omega, by omega⟩ ⟨by omega, by omega⟩ (fun c38 => ?_) (fun c38 => ?_)
          ·
            refine lv_aload_n hx hb dX7_tick_62 rfl (lv_at hl 0 rfl) ?_
            refine va_get (D := D) (ci := 7) (v := .ref m6) (C := RX7) (T := TX7) (N := 22) hx hb hts in_X7_tick_X7 hown hK hP 0 rfl rfl 6 (by decide) (hts _ lk_X7_tick_2) (fun _ h9 => h9) rfl dX7_tick_63 ?_
            refine lv_iconst (v := iI 0) hx hb dX7_tick_66 rfl ?_
            refine q_iald hx hb hK hP 3 0 rfl rfl (by omega) (by omega) (by decide) dX7_tick_67 ?_
            rw [hQ]
            refine q_retI (ru1, st1, sn1, kt1, kr1, km1, ar1, am1, hp1, no1, ws1) hx hb hr hlocks hK hP hD hS dX7_tick_68 ?_
            try dsimp only
            unfold tiZ tiC
            first | (rw [if_neg (by omega), if_neg (by omega)]; exact ⟨rfl, hmr, hB_st, hB_sn, hB_kt, hB_kr, hB_km, hB_ar, hB_am, hB_no⟩) | (rw [if_pos (by omega), if_pos (by omega), if_neg (by omega)]; exact ⟨rfl, hmr, hB_st, hB_sn, hB_kt, hB_kr, hB_km, hB_ar, hB_am, hB_no⟩) | (rw [if_pos (by omega), if_neg (by omega), if_pos (by omega)]; rw [show cn - i = 0 by omega] at hI; rw [← hI]; exact ⟨by omega, hmr1, hB_st1, hB_sn1, hB_kt1, hB_kr1, hB_km1, hB_ar1, hB_am1, hB_no1⟩)
          ·
            refine lv_aload_n hx hb dX7_tick_41 rfl (lv_at hl 0 rfl) ?_
            refine lv_aload_n hx hb dX7_tick_42 rfl (lv_at hl 0 rfl) ?_
            refine va_get (D := D) (ci := 7) (v := .ref m4) (C := RX7) (T := TX7) (N := 22) hx hb hts in_X7_tick_X7 hown hK hP 0 rfl rfl 4 (by decide) (hts _ lk_X7_tick_3) (fun _ h9 => h9) rfl dX7_tick_43 ?_
            refine lv_aload_n hx hb dX7_tick_46 rfl (lv_at hl 0 rfl) ?_
            refine va_get (D := D) (ci := 7) (v := .ref m6) (C := RX7) (T := TX7) (N := 22) hx hb hts in_X7_tick_X7 hown hK hP 0 rfl rfl 6 (by decide) (hts _ lk_X7_tick_2) (fun _ h9 => h9) rfl dX7_tick_47 ?_
            refine lv_iconst (v := iI 0) hx hb dX7_tick_50 rfl ?_
            refine q_iald hx hb hK hP 3 0 rfl rfl (by omega) (by omega) (by decide) dX7_tick_51 ?_
            refine q_zald hx hb hK hP 15 1 rfl rfl (by omega) (by omega) (by decide) dX7_tick_52 ?_
            have hb52 := hB_lm (ru1 0)
            refine q_callVV (wr := [(m4, .inl (cZ, 200, .inl (ia lm)))]) (wn := fun (u : (Int → Int) × (Int → Int) × (Int → Int) × (Int → Int) × (Int → Int) × (Int → Int) × (Int → Int) × (Int → Int) × (Int → Int) × (Int → Int) × (Int → Int)) => [(mo, .inr (7, [.ref m0, .ref m1, .ref m2, .ref m3, .ref m4, .ref m5, .ref m6, .ref m7, .ref m8, .ref m9, .ref m10, .ref m11, .ref m12, .ref m13, .ref m14, .ref m15, .ref m16, .ref m17, .ref m18, .ref m19, .int (iI aa), .ref m21])), (m0, .inl (cI, 19, .inl (ia se))), (m5, .inl (cI, 24, .inl (ia pl))), (m6, .inl (cI, 8, .inl (ia u.1))), (m7, .inl (cI, 12, .inl (ia u.2.1))), (m8, .inl (cI, 12, .inl (ia u.2.2.1))), (m9, .inl (cI, 200, .inl (ia u.2.2.2.1))), (m10, .inl (cI, 200, .inl (ia u.2.2.2.2.1))), (m11, .inl (cI, 200, .inl (ia u.2.2.2.2.2.1))), (m12, .inl (cI, 200, .inl (ia u.2.2.2.2.2.2.1))), (m13, .inl (cI, 200, .inl (ia u.2.2.2.2.2.2.2.1))), (m14, .inl (cI, 2, .inl (ia u.2.2.2.2.2.2.2.2.1))), (m15, .inl (cI, 200, .inl (ia u.2.2.2.2.2.2.2.2.2.1))), (m16, .inl (cI, 1200, .inl (ia u.2.2.2.2.2.2.2.2.2.2))), (m3, .inl (cI, 200, .inl (ia ld))), (m4, .inl (cZ, 200, .inl (ia lm)))]) (rest := []) [.int (iI (lm (ru1 0)))] ⟨hx, hb, hml, hown, hts⟩ (c_X7_oneTick l D cI cZ cII mo m0 m5 m6 m7 m8 m9 m10 m11 m12 m13 m14 m15 m16 m3 m1 m2 m4 m17 m18 m19 aa m21 se pl ru1 st1 sn1 kt1 kr1 km1 ar1 am1 hp1 no1 ws1 ld (lm (ru1 0)) (a1) hB_se hB_pl hB_st1 hB_sn1 hB_kt1 hB_kr1 hB_km1 hB_ar1 hB_am1 hB_no1 hB_ld (by omega) (by assumption) (by exact hmr1) (by omega)) (cwV 1 hts gX7_tick_X7_oneTick rfl rfl rfl (by decide +kernel) (by rw [hRf, hRl]; exact ⟨Nat.le_of_ble_eq_true rfl, Nat.le_of_ble_eq_true rfl⟩)) hK hP hD hS hA hN [0, 1, 2, 3, 4, 5, 6, 7, 8, 9, 10, 11, 12, 13, 14] [15] [1, 2, 3, 4, 5, 6, 7, 8, 9, 10, 11, 12, 13, 14, 15, 0] 0 7 rfl rfl rfl rfl rfl rfl (by decide) rfl (fun u => rfl) rfl hl.1 rfl (Nat.le_of_ble_eq_true rfl) dX7_tick_53 ⟨Nat.zero_le _, Nat.zero_le _⟩ (fun u H locs hw hP hD hS => ?_)
            obtain ⟨ru_2, st_3, sn_4, kt_5, kr_6, km_7, ar_8, am_9, hp_10, no_11, ws_12⟩ := u
            try dsimp only at hw
            have hP : va_P D vwCl [(mo, .inr (7, [.ref m0, .ref m1, .ref m2, .ref m3, .ref m4, .ref m5, .ref m6, .ref m7, .ref m8, .ref m9, .ref m10, .ref m11, .ref m12, .ref m13, .ref m14, .ref m15, .ref m16, .ref m17, .ref m18, .ref m19, .int (iI aa), .ref m21])), (m0, .inl (cI, 19, .inl (ia se))), (m5, .inl (cI, 24, .inl (ia pl))), (m6, .inl (cI, 8, .inl (ia ru_2))), (m7, .inl (cI, 12, .inl (ia st_3))), (m8, .inl (cI, 12, .inl (ia sn_4))), (m9, .inl (cI, 200, .inl (ia kt_5))), (m10, .inl (cI, 200, .inl (ia kr_6))), (m11, .inl (cI, 200, .inl (ia km_7))), (m12, .inl (cI, 200, .inl (ia ar_8))), (m13, .inl (cI, 200, .inl (ia am_9))), (m14, .inl (cI, 2, .inl (ia hp_10))), (m15, .inl (cI, 200, .inl (ia no_11))), (m16, .inl (cI, 1200, .inl (ia ws_12))), (m3, .inl (cI, 200, .inl (ia ld))), (m4, .inl (cZ, 200, .inl (ia lm)))] H := hP
            have hD : va_D A [(mo, .inr (7, [.ref m0, .ref m1, .ref m2, .ref m3, .ref m4, .ref m5, .ref m6, .ref m7, .ref m8, .ref m9, .ref m10, .ref m11, .ref m12, .ref m13, .ref m14, .ref m15, .ref m16, .ref m17, .ref m18, .ref m19, .int (iI aa), .ref m21])), (m0, .inl (cI, 19, .inl (ia se))), (m5, .inl (cI, 24, .inl (ia pl))), (m6, .inl (cI, 8, .inl (ia ru_2))), (m7, .inl (cI, 12, .inl (ia st_3))), (m8, .inl (cI, 12, .inl (ia sn_4))), (m9, .inl (cI, 200, .inl (ia kt_5))), (m10, .inl (cI, 200, .inl (ia kr_6))), (m11, .inl (cI, 200, .inl (ia km_7))), (m12, .inl (cI, 200, .inl (ia ar_8))), (m13, .inl (cI, 200, .inl (ia am_9))), (m14, .inl (cI, 2, .inl (ia hp_10))), (m15, .inl (cI, 200, .inl (ia no_11))), (m16, .inl (cI, 1200, .inl (ia ws_12))), (m3, .inl (cI, 200, .inl (ia ld))), (m4, .inl (cZ, 200, .inl (ia lm)))] := hD
            obtain ⟨c53, hB_st_3, hB_sn_4, hB_kt_5, hB_kr_6, hB_km_7, hB_ar_8, hB_am_9, hB_no_11⟩ := hw
            have hti2 : ru_2 0 = ru 0 + (i + 1) := by rw [c53.1 0 (by decide) (by decide), tk_ru0, ← hmr1.1 0 (by decide) (by decide)]; omega
            refine q_iinc (k := 2) (lv' := [(2, .int (iI (i + 1))), (0, .ref mo), (1, .int (iI cn))]) hx hb dX7_tick_56 hl rfl (by decide) rfl (fun ls hl => ?_)
            refine lv_goto (tgt := 36) hx hb dX7_tick_59 (by decide) ?_
            exact ih  (i + 1) ru_2 st_3 sn_4 kt_5 kr_6 km_7 ar_8 am_9 hp_10 no_11 ws_12 (tk se pl (ld (ru1 0)) (lm (ru1 0)) a1) hB_st_3 hB_sn_4 hB_kt_5 hB_kr_6 hB_km_7 hB_ar_8 hB_am_9 hB_no_11 (by omega) (by exact c53) (by exact hti2) (by rw [← hI, show cn - (i + 1) = cn - i - 1 by omega, tkI_s (n := cn - i) (by omega), ← hmr1.1 0 (by decide) (by decide)]) (by omega) _ _ hP hD hS _ (lv_sub hl [1, 2, 0] rfl)
      exact L36_0 1000 0 ru st sn kt kr km ar am hp no ws a hB_st hB_sn hB_kt hB_kr hB_km hB_ar hB_am hB_no (by omega) (by exact hmr) (by omega) (by rw [Int.sub_zero]) (by omega) _ _ hP hD hS _ (lv_sub hl [1, 2, 0] rfl)
    ·
      refine lv_sipush (v := iI (-1003)) hx hb dX7_tick_30 (by decide +kernel) ?_
      rw [hQ]
      refine q_retI (ru, st, sn, kt, kr, km, ar, am, hp, no, ws) hx hb hr hlocks hK hP hD hS dX7_tick_33 ?_
      try dsimp only
      unfold tiZ tiC
      first | (rw [if_neg (by omega), if_neg (by omega)]; exact ⟨rfl, hmr, hB_st, hB_sn, hB_kt, hB_kr, hB_km, hB_ar, hB_am, hB_no⟩) | (rw [if_pos (by omega), if_pos (by omega), if_neg (by omega)]; exact ⟨rfl, hmr, hB_st, hB_sn, hB_kt, hB_kr, hB_km, hB_ar, hB_am, hB_no⟩) | (rw [if_pos (by omega), if_neg (by omega), if_pos (by omega)]; rw [show cn - i = 0 by omega] at hI; rw [← hI]; exact ⟨by omega, hmr1, hB_st1, hB_sn1, hB_kt1, hB_kr1, hB_km1, hB_ar1, hB_am1, hB_no1⟩)
  ·
    refine q_if_ne (tgt := 16) hx hb dX7_tick_9 (by decide) ⟨by decide, by decide⟩ (fun h => absurd h (by decide)) (fun _ => ?_)
    refine lv_sipush (v := iI (-1002)) hx hb dX7_tick_12 (by decide +kernel) ?_
    rw [hQ]
    refine q_retI (ru, st, sn, kt, kr, km, ar, am, hp, no, ws) hx hb hr hlocks hK hP hD hS dX7_tick_15 ?_
    try dsimp only
    unfold tiZ tiC
    first | (rw [if_neg (by omega), if_neg (by omega)]; exact ⟨rfl, hmr, hB_st, hB_sn, hB_kt, hB_kr, hB_km, hB_ar, hB_am, hB_no⟩) | (rw [if_pos (by omega), if_pos (by omega), if_neg (by omega)]; exact ⟨rfl, hmr, hB_st, hB_sn, hB_kt, hB_kr, hB_km, hB_ar, hB_am, hB_no⟩) | (rw [if_pos (by omega), if_neg (by omega), if_pos (by omega)]; rw [show cn - i = 0 by omega] at hI; rw [← hI]; exact ⟨by omega, hmr1, hB_st1, hB_sn1, hB_kt1, hB_kr1, hB_km1, hB_ar1, hB_am1, hB_no1⟩)

theorem in_X7_fail_X7 : ∀ w ∈ wsX70, w ∈ wsX7_fail := fun _ h => List.mem_cons_of_mem _ (List.mem_append_right _ h)
theorem lk_X7_fail_1 : Cond.constantLong RX7 151 (11) ∈ wsX7_fail := List.mem_of_getElem? (i := 1) rfl
theorem lk_X7_fail_2 : Cond.fieldLink RX7 32 "MoreHandsModel" "states" "[I" ∈ wsX7_fail := List.mem_of_getElem? (i := 2) rfl
set_option maxHeartbeats 4000000 in
set_option maxRecDepth 100000 in
theorem c_X7_fail (l : Launch) (D : va_G) (cI cZ cII : ClassId) (mo : Nat) (m7 : Nat) (m0 : Nat) (m1 : Nat) (m2 : Nat) (m3 : Nat) (m4 : Nat) (m5 : Nat) (m6 : Nat) (m8 : Nat) (m9 : Nat) (m10 : Nat) (m11 : Nat) (m12 : Nat) (m13 : Nat) (m14 : Nat) (m15 : Nat) (m16 : Nat) (m17 : Nat) (m18 : Nat) (m19 : Nat) (aa : Int) (m21 : Nat) (st : Int → Int) (sr : Int) (b : Int) (hB_st : BB 0 3 st) (hp_sr : IR sr) (hp_b : 0 ≤ b ∧ b ≤ 1) : CtI l yX7_fail wsX7_fail 1 25 D (ty3 cI cZ cII) [.ref mo, .int (iI sr), .int (iI b)] [(mo, .inr (7, [.ref m0, .ref m1, .ref m2, .ref m3, .ref m4, .ref m5, .ref m6, .ref m7, .ref m8, .ref m9, .ref m10, .ref m11, .ref m12, .ref m13, .ref m14, .ref m15, .ref m16, .ref m17, .ref m18, .ref m19, .int (iI aa), .ref m21])), (m7, .inl (cI, 12, .inl (ia st)))] (fun z (u : (Int → Int)) => z = faZ st sr b ∧ u = faN st sr b ∧ BB 0 3 u) (fun u => [(mo, .inr (7, [.ref m0, .ref m1, .ref m2, .ref m3, .ref m4, .ref m5, .ref m6, .ref m7, .ref m8, .ref m9, .ref m10, .ref m11, .ref m12, .ref m13, .ref m14, .ref m15, .ref m16, .ref m17, .ref m18, .ref m19, .int (iI aa), .ref m21])), (m7, .inl (cI, 12, .inl (ia u)))]) := by
  refine CtI.mk (cc := cX7_fail) (maxL := 4) (ret := (some .int)) (by decide) rfl (Nat.le_of_ble_eq_true rfl) ?_
  intro p e s m below meth c A ls R args Q hx hb hml hr hts hown hlocks hA hK hP hD hN hS hl hRf hRl hQ
  have hl : lv_has ls 4 [(0, .ref mo), (1, .int (iI sr)), (2, .int (iI b))] := hl
  have hown : s.vm.findClass RX7 = some m.cls := hown
  refine lv_iload_n hx hb dX7_fail_0 rfl (lv_at hl 1 rfl) ?_
  refine lv_i2l (v := lI sr) hx hb dX7_fail_1 (iI_long ⟨by omega, by omega⟩) ?_
  refine lv_lconst (v := lI 0) hx hb dX7_fail_2 (by decide +kernel) ?_
  refine lv_ldc2 (v := lI 11) hx hb hown (hts _ lk_X7_fail_1) dX7_fail_3 ?_
  refine q_callSI (wr := [(mo, .inr (7, [.ref m0, .ref m1, .ref m2, .ref m3, .ref m4, .ref m5, .ref m6, .ref m7, .ref m8, .ref m9, .ref m10, .ref m11, .ref m12, .ref m13, .ref m14, .ref m15, .ref m16, .ref m17, .ref m18, .ref m19, .int (iI aa), .ref m21])), (m7, .inl (cI, 12, .inl (ia st)))]) (wn := fun (u : Unit) => [(mo, .inr (7, [.ref m0, .ref m1, .ref m2, .ref m3, .ref m4, .ref m5, .ref m6, .ref m7, .ref m8, .ref m9, .ref m10, .ref m11, .ref m12, .ref m13, .ref m14, .ref m15, .ref m16, .ref m17, .ref m18, .ref m19, .int (iI aa), .ref m21])), (m7, .inl (cI, 12, .inl (ia st)))]) (rest := []) [.long (lI sr), .long (lI 0), .long (lI 11)] ⟨hx, hb, hml, hown, hts⟩ (c_X7_in l D cI cZ cII sr 0 11 ⟨by omega, by omega⟩ ⟨by omega, by omega⟩ ⟨by omega, by omega⟩) (va_cwS 3 hts gX7_fail_X7_in rfl rfl rfl (by decide +kernel) (by rw [hRf, hRl]; exact ⟨Nat.le_of_ble_eq_true rfl, Nat.le_of_ble_eq_true rfl⟩)) hK hP hD hS hA hN [] [0, 1] [0, 1] rfl rfl rfl rfl (by decide) rfl (fun u => rfl) rfl hl.1 rfl (Nat.le_of_ble_eq_true rfl) dX7_fail_6 ⟨Nat.zero_le _, Nat.zero_le _⟩ (fun z u H locs hw hP hD hS => ?_)
  have hP : va_P D vwCl [(mo, .inr (7, [.ref m0, .ref m1, .ref m2, .ref m3, .ref m4, .ref m5, .ref m6, .ref m7, .ref m8, .ref m9, .ref m10, .ref m11, .ref m12, .ref m13, .ref m14, .ref m15, .ref m16, .ref m17, .ref m18, .ref m19, .int (iI aa), .ref m21])), (m7, .inl (cI, 12, .inl (ia st)))] H := hP
  have hD : va_D A [(mo, .inr (7, [.ref m0, .ref m1, .ref m2, .ref m3, .ref m4, .ref m5, .ref m6, .ref m7, .ref m8, .ref m9, .ref m10, .ref m11, .ref m12, .ref m13, .ref m14, .ref m15, .ref m16, .ref m17, .ref m18, .ref m19, .int (iI aa), .ref m21])), (m7, .inl (cI, 12, .inl (ia st)))] := hD
  obtain ⟨z_1, ez⟩ : ∃ y : Int, y = z := ⟨_, rfl⟩
  rw [← ez] at hw ⊢
  clear ez
  rcases hw with ⟨rfl, w6⟩ | ⟨rfl, w6⟩
  ·
    refine q_if_ne (tgt := 16) hx hb dX7_fail_9 (by decide) ⟨by decide, by decide⟩ (fun _ => ?_) (fun h => absurd h (by decide))
    refine lv_iload_n hx hb dX7_fail_16 rfl (lv_at hl 2 rfl) ?_
    refine q_if_eq (tgt := 30) hx hb dX7_fail_17 (by decide) ⟨by omega, by omega⟩ (fun c17 => ?_) (fun c17 => ?_)
    ·
      refine lv_aload_n hx hb dX7_fail_30 rfl (lv_at hl 0 rfl) ?_
      refine va_get (D := D) (ci := 7) (v := .ref m7) (C := RX7) (T := TX7) (N := 22) hx hb hts in_X7_fail_X7 hown hK hP 0 rfl rfl 7 (by decide) (hts _ lk_X7_fail_2) (fun _ h9 => h9) rfl dX7_fail_31 ?_
      refine lv_iload_n hx hb dX7_fail_34 rfl (lv_at hl 1 rfl) ?_
      refine q_iald hx hb hK hP 1 0 rfl rfl (by omega) (by omega) (by decide) dX7_fail_35 ?_
      have hb35 := hB_st sr
      refine lv_istore_n (lv' := [(3, .int (iI (st sr))), (0, .ref mo), (1, .int (iI sr)), (2, .int (iI b))]) hx hb dX7_fail_36 rfl hl (by decide) rfl (fun ls hl => ?_)
      refine lv_aload_n hx hb dX7_fail_37 rfl (lv_at hl 1 rfl) ?_
      refine va_get (D := D) (ci := 7) (v := .ref m7) (C := RX7) (T := TX7) (N := 22) hx hb hts in_X7_fail_X7 hown hK hP 0 rfl rfl 7 (by decide) (hts _ lk_X7_fail_2) (fun _ h9 => h9) rfl dX7_fail_38 ?_
      refine lv_iload_n hx hb dX7_fail_41 rfl (lv_at hl 2 rfl) ?_
      refine lv_iconst (v := iI 0) hx hb dX7_fail_42 rfl ?_
      refine q_iast hx hb hK hP hD hS 1 0 rfl rfl (by omega) (by omega) (by decide) dX7_fail_43 (fun H locs hP hD hS => ?_)
      have hP : va_P D vwCl [(mo, .inr (7, [.ref m0, .ref m1, .ref m2, .ref m3, .ref m4, .ref m5, .ref m6, .ref m7, .ref m8, .ref m9, .ref m10, .ref m11, .ref m12, .ref m13, .ref m14, .ref m15, .ref m16, .ref m17, .ref m18, .ref m19, .int (iI aa), .ref m21])), (m7, .inl (cI, 12, .inl (ia (uI st sr 0))))] H := hP
      have hD : va_D A [(mo, .inr (7, [.ref m0, .ref m1, .ref m2, .ref m3, .ref m4, .ref m5, .ref m6, .ref m7, .ref m8, .ref m9, .ref m10, .ref m11, .ref m12, .ref m13, .ref m14, .ref m15, .ref m16, .ref m17, .ref m18, .ref m19, .int (iI aa), .ref m21])), (m7, .inl (cI, 12, .inl (ia (uI st sr 0))))] := hD
      have hB_2 : BB 0 3 (uI st sr 0) := BB_uI hB_st (by omega)
      refine lv_iload_n hx hb dX7_fail_44 rfl (lv_at hl 0 rfl) ?_
      rw [hQ]
      refine q_retI (uI st sr 0) hx hb hr hlocks hK hP hD hS dX7_fail_45 ?_
      try dsimp only
      unfold faZ faN
      first | (rw [if_neg (by omega), if_neg (by rw [show faB sr b = false from decide_eq_false (by omega)]; decide)]; exact ⟨rfl, rfl, hB_st⟩) | (rw [if_pos (by omega), if_pos (by omega), if_neg (by rw [show faB sr b = false from decide_eq_false (by omega)]; decide)]; exact ⟨rfl, rfl, hB_st⟩) | (rw [if_pos (by omega), if_neg (by omega), show faB sr b = true from decide_eq_true (by omega)]; exact ⟨rfl, rfl, BB_uI hB_st (by omega)⟩)
    ·
      refine lv_iload_n hx hb dX7_fail_20 rfl (lv_at hl 1 rfl) ?_
      refine lv_bipush (v := iI 8) hx hb dX7_fail_21 (by decide +kernel) ?_
      refine q_icmp_ge (tgt := 30) hx hb dX7_fail_23 (by decide) ⟨by omega, by omega⟩ ⟨by decide, by decide⟩ (fun c23 => ?_) (fun c23 => ?_)
      ·
        refine lv_aload_n hx hb dX7_fail_30 rfl (lv_at hl 0 rfl) ?_
        refine va_get (D := D) (ci := 7) (v := .ref m7) (C := RX7) (T := TX7) (N := 22) hx hb hts in_X7_fail_X7 hown hK hP 0 rfl rfl 7 (by decide) (hts _ lk_X7_fail_2) (fun _ h9 => h9) rfl dX7_fail_31 ?_
        refine lv_iload_n hx hb dX7_fail_34 rfl (lv_at hl 1 rfl) ?_
        refine q_iald hx hb hK hP 1 0 rfl rfl (by omega) (by omega) (by decide) dX7_fail_35 ?_
        have hb35 := hB_st sr
        refine lv_istore_n (lv' := [(3, .int (iI (st sr))), (0, .ref mo), (1, .int (iI sr)), (2, .int (iI b))]) hx hb dX7_fail_36 rfl hl (by decide) rfl (fun ls hl => ?_)
        refine lv_aload_n hx hb dX7_fail_37 rfl (lv_at hl 1 rfl) ?_
        refine va_get (D := D) (ci := 7) (v := .ref m7) (C := RX7) (T := TX7) (N := 22) hx hb hts in_X7_fail_X7 hown hK hP 0 rfl rfl 7 (by decide) (hts _ lk_X7_fail_2) (fun _ h9 => h9) rfl dX7_fail_38 ?_
        refine lv_iload_n hx hb dX7_fail_41 rfl (lv_at hl 2 rfl) ?_
        refine lv_iconst (v := iI 0) hx hb dX7_fail_42 rfl ?_
        refine q_iast hx hb hK hP hD hS 1 0 rfl rfl (by omega) (by omega) (by decide) dX7_fail_43 (fun H locs hP hD hS => ?_)
        have hP : va_P D vwCl [(mo, .inr (7, [.ref m0, .ref m1, .ref m2, .ref m3, .ref m4, .ref m5, .ref m6, .ref m7, .ref m8, .ref m9, .ref m10, .ref m11, .ref m12, .ref m13, .ref m14, .ref m15, .ref m16, .ref m17, .ref m18, .ref m19, .int (iI aa), .ref m21])), (m7, .inl (cI, 12, .inl (ia (uI st sr 0))))] H := hP
        have hD : va_D A [(mo, .inr (7, [.ref m0, .ref m1, .ref m2, .ref m3, .ref m4, .ref m5, .ref m6, .ref m7, .ref m8, .ref m9, .ref m10, .ref m11, .ref m12, .ref m13, .ref m14, .ref m15, .ref m16, .ref m17, .ref m18, .ref m19, .int (iI aa), .ref m21])), (m7, .inl (cI, 12, .inl (ia (uI st sr 0))))] := hD
        have hB_3 : BB 0 3 (uI st sr 0) := BB_uI hB_st (by omega)
        refine lv_iload_n hx hb dX7_fail_44 rfl (lv_at hl 0 rfl) ?_
        rw [hQ]
        refine q_retI (uI st sr 0) hx hb hr hlocks hK hP hD hS dX7_fail_45 ?_
        try dsimp only
        unfold faZ faN
        first | (rw [if_neg (by omega), if_neg (by rw [show faB sr b = false from decide_eq_false (by omega)]; decide)]; exact ⟨rfl, rfl, hB_st⟩) | (rw [if_pos (by omega), if_pos (by omega), if_neg (by rw [show faB sr b = false from decide_eq_false (by omega)]; decide)]; exact ⟨rfl, rfl, hB_st⟩) | (rw [if_pos (by omega), if_neg (by omega), show faB sr b = true from decide_eq_true (by omega)]; exact ⟨rfl, rfl, BB_uI hB_st (by omega)⟩)
      ·
        refine lv_sipush (v := iI (-1003)) hx hb dX7_fail_26 (by decide +kernel) ?_
        rw [hQ]
        refine q_retI st hx hb hr hlocks hK hP hD hS dX7_fail_29 ?_
        try dsimp only
        unfold faZ faN
        first | (rw [if_neg (by omega), if_neg (by rw [show faB sr b = false from decide_eq_false (by omega)]; decide)]; exact ⟨rfl, rfl, hB_st⟩) | (rw [if_pos (by omega), if_pos (by omega), if_neg (by rw [show faB sr b = false from decide_eq_false (by omega)]; decide)]; exact ⟨rfl, rfl, hB_st⟩) | (rw [if_pos (by omega), if_neg (by omega), show faB sr b = true from decide_eq_true (by omega)]; exact ⟨rfl, rfl, BB_uI hB_st (by omega)⟩)
  ·
    refine q_if_ne (tgt := 16) hx hb dX7_fail_9 (by decide) ⟨by decide, by decide⟩ (fun h => absurd h (by decide)) (fun _ => ?_)
    refine lv_sipush (v := iI (-1001)) hx hb dX7_fail_12 (by decide +kernel) ?_
    rw [hQ]
    refine q_retI st hx hb hr hlocks hK hP hD hS dX7_fail_15 ?_
    try dsimp only
    unfold faZ faN
    first | (rw [if_neg (by omega), if_neg (by rw [show faB sr b = false from decide_eq_false (by omega)]; decide)]; exact ⟨rfl, rfl, hB_st⟩) | (rw [if_pos (by omega), if_pos (by omega), if_neg (by rw [show faB sr b = false from decide_eq_false (by omega)]; decide)]; exact ⟨rfl, rfl, hB_st⟩) | (rw [if_pos (by omega), if_neg (by omega), show faB sr b = true from decide_eq_true (by omega)]; exact ⟨rfl, rfl, BB_uI hB_st (by omega)⟩)

theorem in_X7_again_X7 : ∀ w ∈ wsX70, w ∈ wsX7_again := fun _ h => List.mem_cons_of_mem _ (List.mem_append_right _ h)
theorem lk_X7_again_1 : Cond.fieldLink RX7 29 "MoreHandsModel" "run" "[I" ∈ wsX7_again := List.mem_of_getElem? (i := 1) rfl
set_option maxHeartbeats 4000000 in
set_option maxRecDepth 100000 in
theorem c_X7_again (l : Launch) (D : va_G) (cI cZ cII : ClassId) (mo : Nat) (m6 : Nat) (m7 : Nat) (m8 : Nat) (m14 : Nat) (m0 : Nat) (m1 : Nat) (m2 : Nat) (m3 : Nat) (m4 : Nat) (m5 : Nat) (m9 : Nat) (m10 : Nat) (m11 : Nat) (m12 : Nat) (m13 : Nat) (m15 : Nat) (m16 : Nat) (m17 : Nat) (m18 : Nat) (m19 : Nat) (aa : Int) (m21 : Nat) (ru : Int → Int) (st : Int → Int) (sn : Int → Int) (hp : Int → Int) (hB_st : BB 0 3 st) (hB_sn : BB 0 200 sn) : CtI l yX7_again wsX7_again 1 21 D (ty3 cI cZ cII) [.ref mo] [(mo, .inr (7, [.ref m0, .ref m1, .ref m2, .ref m3, .ref m4, .ref m5, .ref m6, .ref m7, .ref m8, .ref m9, .ref m10, .ref m11, .ref m12, .ref m13, .ref m14, .ref m15, .ref m16, .ref m17, .ref m18, .ref m19, .int (iI aa), .ref m21])), (m6, .inl (cI, 8, .inl (ia ru))), (m7, .inl (cI, 12, .inl (ia st))), (m8, .inl (cI, 12, .inl (ia sn))), (m14, .inl (cI, 2, .inl (ia hp)))] (fun z (u : (Int → Int) × (Int → Int) × (Int → Int) × (Int → Int)) => z = ru 0 ∧ (∀ j, 0 ≤ j → j < 8 → u.1 j = (if j = 5 ∨ j = 6 then -1 else 0)) ∧ u.2.1 = fl (fun _ => true) 0 st 0 12 ∧ u.2.2.2 0 = 0 ∧ u.2.2.2 1 = 0 ∧ BB 0 3 u.2.1 ∧ BB 0 200 u.2.2.1) (fun u => [(mo, .inr (7, [.ref m0, .ref m1, .ref m2, .ref m3, .ref m4, .ref m5, .ref m6, .ref m7, .ref m8, .ref m9, .ref m10, .ref m11, .ref m12, .ref m13, .ref m14, .ref m15, .ref m16, .ref m17, .ref m18, .ref m19, .int (iI aa), .ref m21])), (m6, .inl (cI, 8, .inl (ia u.1))), (m7, .inl (cI, 12, .inl (ia u.2.1))), (m8, .inl (cI, 12, .inl (ia u.2.2.1))), (m14, .inl (cI, 2, .inl (ia u.2.2.2)))]) := by
  refine CtI.mk (cc := cX7_again) (maxL := 2) (ret := (some .int)) (by decide) rfl (Nat.le_of_ble_eq_true rfl) ?_
  intro p e s m below meth c A ls R args Q hx hb hml hr hts hown hlocks hA hK hP hD hN hS hl hRf hRl hQ
  have hl : lv_has ls 2 [(0, .ref mo)] := hl
  have hown : s.vm.findClass RX7 = some m.cls := hown
  refine lv_aload_n hx hb dX7_again_0 rfl (lv_at hl 0 rfl) ?_
  refine va_get (D := D) (ci := 7) (v := .ref m6) (C := RX7) (T := TX7) (N := 22) hx hb hts in_X7_again_X7 hown hK hP 0 rfl rfl 6 (by decide) (hts _ lk_X7_again_1) (fun _ h9 => h9) rfl dX7_again_1 ?_
  refine lv_iconst (v := iI 0) hx hb dX7_again_4 rfl ?_
  refine q_iald hx hb hK hP 1 0 rfl rfl (by omega) (by omega) (by decide) dX7_again_5 ?_
  refine lv_istore_n (lv' := [(1, .int (iI (ru 0))), (0, .ref mo)]) hx hb dX7_again_6 rfl hl (by decide) rfl (fun ls hl => ?_)
  refine lv_aload_n hx hb dX7_again_7 rfl (lv_at hl 1 rfl) ?_
  refine q_callVV (wr := []) (wn := fun (u : (Int → Int) × (Int → Int) × (Int → Int) × (Int → Int)) => [(mo, .inr (7, [.ref m0, .ref m1, .ref m2, .ref m3, .ref m4, .ref m5, .ref m6, .ref m7, .ref m8, .ref m9, .ref m10, .ref m11, .ref m12, .ref m13, .ref m14, .ref m15, .ref m16, .ref m17, .ref m18, .ref m19, .int (iI aa), .ref m21])), (m6, .inl (cI, 8, .inl (ia u.1))), (m7, .inl (cI, 12, .inl (ia u.2.1))), (m8, .inl (cI, 12, .inl (ia u.2.2.1))), (m14, .inl (cI, 2, .inl (ia u.2.2.2)))]) (rest := []) [] ⟨hx, hb, hml, hown, hts⟩ (c_X7_begin l D cI cZ cII mo m6 m7 m8 m14 m0 m1 m2 m3 m4 m5 m9 m10 m11 m12 m13 m15 m16 m17 m18 m19 aa m21 ru st sn hp hB_st hB_sn) (cwV 0 hts gX7_again_X7_begin rfl rfl rfl (by decide +kernel) (by rw [hRf, hRl]; exact ⟨Nat.le_of_ble_eq_true rfl, Nat.le_of_ble_eq_true rfl⟩)) hK hP hD hS hA hN [0, 1, 2, 3, 4] [] [0, 1, 2, 3, 4] 0 7 rfl rfl rfl rfl rfl rfl (by decide) rfl (fun u => rfl) rfl hl.1 rfl (Nat.le_of_ble_eq_true rfl) dX7_again_8 ⟨Nat.zero_le _, Nat.zero_le _⟩ (fun u H locs hw hP hD hS => ?_)
  obtain ⟨ru_1, st_2, sn_3, hp_4⟩ := u
  try dsimp only at hw
  have hP : va_P D vwCl [(mo, .inr (7, [.ref m0, .ref m1, .ref m2, .ref m3, .ref m4, .ref m5, .ref m6, .ref m7, .ref m8, .ref m9, .ref m10, .ref m11, .ref m12, .ref m13, .ref m14, .ref m15, .ref m16, .ref m17, .ref m18, .ref m19, .int (iI aa), .ref m21])), (m6, .inl (cI, 8, .inl (ia ru_1))), (m7, .inl (cI, 12, .inl (ia st_2))), (m8, .inl (cI, 12, .inl (ia sn_3))), (m14, .inl (cI, 2, .inl (ia hp_4)))] H := hP
  have hD : va_D A [(mo, .inr (7, [.ref m0, .ref m1, .ref m2, .ref m3, .ref m4, .ref m5, .ref m6, .ref m7, .ref m8, .ref m9, .ref m10, .ref m11, .ref m12, .ref m13, .ref m14, .ref m15, .ref m16, .ref m17, .ref m18, .ref m19, .int (iI aa), .ref m21])), (m6, .inl (cI, 8, .inl (ia ru_1))), (m7, .inl (cI, 12, .inl (ia st_2))), (m8, .inl (cI, 12, .inl (ia sn_3))), (m14, .inl (cI, 2, .inl (ia hp_4)))] := hD
  obtain ⟨e8, f8, g8, h08, h18, hB_st_2, hB_sn_3⟩ := hw
  refine lv_iload_n hx hb dX7_again_11 rfl (lv_at hl 0 rfl) ?_
  rw [hQ]
  refine q_retI (ru_1, st_2, sn_3, hp_4) hx hb hr hlocks hK hP hD hS dX7_again_12 ?_
  try dsimp only
  exact ⟨rfl, e8, f8, h08, h18, by assumption, by assumption⟩

theorem in_X7_server_X7 : ∀ w ∈ wsX70, w ∈ wsX7_server := fun _ h => List.mem_cons_of_mem _ (List.mem_append_right _ h)
theorem lk_X7_server_1 : Cond.constantLong RX7 151 (11) ∈ wsX7_server := List.mem_of_getElem? (i := 1) rfl
theorem lk_X7_server_2 : Cond.fieldLink RX7 32 "MoreHandsModel" "states" "[I" ∈ wsX7_server := List.mem_of_getElem? (i := 2) rfl
theorem lk_X7_server_3 : Cond.fieldLink RX7 29 "MoreHandsModel" "run" "[I" ∈ wsX7_server := List.mem_of_getElem? (i := 3) rfl
theorem lk_X7_server_4 : Cond.fieldLink RX7 35 "MoreHandsModel" "since" "[I" ∈ wsX7_server := List.mem_of_getElem? (i := 4) rfl
set_option maxHeartbeats 4000000 in
set_option maxRecDepth 100000 in
theorem c_X7_server (l : Launch) (D : va_G) (cI cZ cII : ClassId) (mo : Nat) (m7 : Nat) (m8 : Nat) (m6 : Nat) (m0 : Nat) (m1 : Nat) (m2 : Nat) (m3 : Nat) (m4 : Nat) (m5 : Nat) (m9 : Nat) (m10 : Nat) (m11 : Nat) (m12 : Nat) (m13 : Nat) (m14 : Nat) (m15 : Nat) (m16 : Nat) (m17 : Nat) (m18 : Nat) (m19 : Nat) (aa : Int) (m21 : Nat) (st : Int → Int) (sn : Int → Int) (ru : Int → Int) (sr : Int) (w0 : Int) (hB_st : BB 0 3 st) (hB_sn : BB 0 200 sn) (hp_sr : IR sr) (hp_w0 : IR w0) (hr0 : 0 ≤ ru 0 ∧ ru 0 ≤ 200) : CtI l yX7_server wsX7_server 1 25 D (ty3 cI cZ cII) [.ref mo, .int (iI sr), .int (iI w0)] [(mo, .inr (7, [.ref m0, .ref m1, .ref m2, .ref m3, .ref m4, .ref m5, .ref m6, .ref m7, .ref m8, .ref m9, .ref m10, .ref m11, .ref m12, .ref m13, .ref m14, .ref m15, .ref m16, .ref m17, .ref m18, .ref m19, .int (iI aa), .ref m21])), (m7, .inl (cI, 12, .inl (ia st))), (m8, .inl (cI, 12, .inl (ia sn))), (m6, .inl (cI, 8, .inl (ia ru)))] (fun z (u : Unit) => z = (svZ st sn (ru 0) sr w0)) (fun u => [(mo, .inr (7, [.ref m0, .ref m1, .ref m2, .ref m3, .ref m4, .ref m5, .ref m6, .ref m7, .ref m8, .ref m9, .ref m10, .ref m11, .ref m12, .ref m13, .ref m14, .ref m15, .ref m16, .ref m17, .ref m18, .ref m19, .int (iI aa), .ref m21])), (m7, .inl (cI, 12, .inl (ia st))), (m8, .inl (cI, 12, .inl (ia sn))), (m6, .inl (cI, 8, .inl (ia ru)))]) := by
  refine CtI.mk (cc := cX7_server) (maxL := 4) (ret := (some .int)) (by decide) rfl (Nat.le_of_ble_eq_true rfl) ?_
  intro p e s m below meth c A ls R args Q hx hb hml hr hts hown hlocks hA hK hP hD hN hS hl hRf hRl hQ
  have hl : lv_has ls 4 [(0, .ref mo), (1, .int (iI sr)), (2, .int (iI w0))] := hl
  have hown : s.vm.findClass RX7 = some m.cls := hown
  refine lv_iload_n hx hb dX7_server_0 rfl (lv_at hl 1 rfl) ?_
  refine lv_i2l (v := lI sr) hx hb dX7_server_1 (iI_long ⟨by omega, by omega⟩) ?_
  refine lv_lconst (v := lI 0) hx hb dX7_server_2 (by decide +kernel) ?_
  refine lv_ldc2 (v := lI 11) hx hb hown (hts _ lk_X7_server_1) dX7_server_3 ?_
  refine q_callSI (wr := [(mo, .inr (7, [.ref m0, .ref m1, .ref m2, .ref m3, .ref m4, .ref m5, .ref m6, .ref m7, .ref m8, .ref m9, .ref m10, .ref m11, .ref m12, .ref m13, .ref m14, .ref m15, .ref m16, .ref m17, .ref m18, .ref m19, .int (iI aa), .ref m21])), (m7, .inl (cI, 12, .inl (ia st))), (m8, .inl (cI, 12, .inl (ia sn))), (m6, .inl (cI, 8, .inl (ia ru)))]) (wn := fun (u : Unit) => [(mo, .inr (7, [.ref m0, .ref m1, .ref m2, .ref m3, .ref m4, .ref m5, .ref m6, .ref m7, .ref m8, .ref m9, .ref m10, .ref m11, .ref m12, .ref m13, .ref m14, .ref m15, .ref m16, .ref m17, .ref m18, .ref m19, .int (iI aa), .ref m21])), (m7, .inl (cI, 12, .inl (ia st))), (m8, .inl (cI, 12, .inl (ia sn))), (m6, .inl (cI, 8, .inl (ia ru)))]) (rest := []) [.long (lI sr), .long (lI 0), .long (lI 11)] ⟨hx, hb, hml, hown, hts⟩ (c_X7_in l D cI cZ cII sr 0 11 ⟨by omega, by omega⟩ ⟨by omega, by omega⟩ ⟨by omega, by omega⟩) (va_cwS 3 hts gX7_server_X7_in rfl rfl rfl (by decide +kernel) (by rw [hRf, hRl]; exact ⟨Nat.le_of_ble_eq_true rfl, Nat.le_of_ble_eq_true rfl⟩)) hK hP hD hS hA hN [] [0, 1, 2, 3] [0, 1, 2, 3] rfl rfl rfl rfl (by decide) rfl (fun u => rfl) rfl hl.1 rfl (Nat.le_of_ble_eq_true rfl) dX7_server_6 ⟨Nat.zero_le _, Nat.zero_le _⟩ (fun z u H locs hw hP hD hS => ?_)
  have hP : va_P D vwCl [(mo, .inr (7, [.ref m0, .ref m1, .ref m2, .ref m3, .ref m4, .ref m5, .ref m6, .ref m7, .ref m8, .ref m9, .ref m10, .ref m11, .ref m12, .ref m13, .ref m14, .ref m15, .ref m16, .ref m17, .ref m18, .ref m19, .int (iI aa), .ref m21])), (m7, .inl (cI, 12, .inl (ia st))), (m8, .inl (cI, 12, .inl (ia sn))), (m6, .inl (cI, 8, .inl (ia ru)))] H := hP
  have hD : va_D A [(mo, .inr (7, [.ref m0, .ref m1, .ref m2, .ref m3, .ref m4, .ref m5, .ref m6, .ref m7, .ref m8, .ref m9, .ref m10, .ref m11, .ref m12, .ref m13, .ref m14, .ref m15, .ref m16, .ref m17, .ref m18, .ref m19, .int (iI aa), .ref m21])), (m7, .inl (cI, 12, .inl (ia st))), (m8, .inl (cI, 12, .inl (ia sn))), (m6, .inl (cI, 8, .inl (ia ru)))] := hD
  obtain ⟨z_1, ez⟩ : ∃ y : Int, y = z := ⟨_, rfl⟩
  rw [← ez] at hw ⊢
  clear ez
  rcases hw with ⟨rfl, w6⟩ | ⟨rfl, w6⟩
  ·
    refine q_if_ne (tgt := 16) hx hb dX7_server_9 (by decide) ⟨by decide, by decide⟩ (fun _ => ?_) (fun h => absurd h (by decide))
    refine lv_iload_n hx hb dX7_server_16 rfl (lv_at hl 2 rfl) ?_
    refine lv_i2l (v := lI w0) hx hb dX7_server_17 (iI_long ⟨by omega, by omega⟩) ?_
    refine lv_lconst (v := lI 0) hx hb dX7_server_18 (by decide +kernel) ?_
    refine lv_lconst (v := lI 1) hx hb dX7_server_19 (by decide +kernel) ?_
    refine q_callSI (wr := [(mo, .inr (7, [.ref m0, .ref m1, .ref m2, .ref m3, .ref m4, .ref m5, .ref m6, .ref m7, .ref m8, .ref m9, .ref m10, .ref m11, .ref m12, .ref m13, .ref m14, .ref m15, .ref m16, .ref m17, .ref m18, .ref m19, .int (iI aa), .ref m21])), (m7, .inl (cI, 12, .inl (ia st))), (m8, .inl (cI, 12, .inl (ia sn))), (m6, .inl (cI, 8, .inl (ia ru)))]) (wn := fun (u : Unit) => [(mo, .inr (7, [.ref m0, .ref m1, .ref m2, .ref m3, .ref m4, .ref m5, .ref m6, .ref m7, .ref m8, .ref m9, .ref m10, .ref m11, .ref m12, .ref m13, .ref m14, .ref m15, .ref m16, .ref m17, .ref m18, .ref m19, .int (iI aa), .ref m21])), (m7, .inl (cI, 12, .inl (ia st))), (m8, .inl (cI, 12, .inl (ia sn))), (m6, .inl (cI, 8, .inl (ia ru)))]) (rest := []) [.long (lI w0), .long (lI 0), .long (lI 1)] ⟨hx, hb, hml, hown, hts⟩ (c_X7_in l D cI cZ cII w0 0 1 ⟨by omega, by omega⟩ ⟨by omega, by omega⟩ ⟨by omega, by omega⟩) (va_cwS 3 hts gX7_server_X7_in rfl rfl rfl (by decide +kernel) (by rw [hRf, hRl]; exact ⟨Nat.le_of_ble_eq_true rfl, Nat.le_of_ble_eq_true rfl⟩)) hK hP hD hS hA hN [] [0, 1, 2, 3] [0, 1, 2, 3] rfl rfl rfl rfl (by decide) rfl (fun u => rfl) rfl hl.1 rfl (Nat.le_of_ble_eq_true rfl) dX7_server_20 ⟨Nat.zero_le _, Nat.zero_le _⟩ (fun z u H locs hw hP hD hS => ?_)
    have hP : va_P D vwCl [(mo, .inr (7, [.ref m0, .ref m1, .ref m2, .ref m3, .ref m4, .ref m5, .ref m6, .ref m7, .ref m8, .ref m9, .ref m10, .ref m11, .ref m12, .ref m13, .ref m14, .ref m15, .ref m16, .ref m17, .ref m18, .ref m19, .int (iI aa), .ref m21])), (m7, .inl (cI, 12, .inl (ia st))), (m8, .inl (cI, 12, .inl (ia sn))), (m6, .inl (cI, 8, .inl (ia ru)))] H := hP
    have hD : va_D A [(mo, .inr (7, [.ref m0, .ref m1, .ref m2, .ref m3, .ref m4, .ref m5, .ref m6, .ref m7, .ref m8, .ref m9, .ref m10, .ref m11, .ref m12, .ref m13, .ref m14, .ref m15, .ref m16, .ref m17, .ref m18, .ref m19, .int (iI aa), .ref m21])), (m7, .inl (cI, 12, .inl (ia st))), (m8, .inl (cI, 12, .inl (ia sn))), (m6, .inl (cI, 8, .inl (ia ru)))] := hD
    obtain ⟨z_2, ez⟩ : ∃ y : Int, y = z := ⟨_, rfl⟩
    rw [← ez] at hw ⊢
    clear ez
    rcases hw with ⟨rfl, w20⟩ | ⟨rfl, w20⟩
    ·
      refine q_if_ne (tgt := 30) hx hb dX7_server_23 (by decide) ⟨by decide, by decide⟩ (fun _ => ?_) (fun h => absurd h (by decide))
      refine lv_aload_n hx hb dX7_server_30 rfl (lv_at hl 0 rfl) ?_
      refine va_get (D := D) (ci := 7) (v := .ref m7) (C := RX7) (T := TX7) (N := 22) hx hb hts in_X7_server_X7 hown hK hP 0 rfl rfl 7 (by decide) (hts _ lk_X7_server_2) (fun _ h9 => h9) rfl dX7_server_31 ?_
      refine lv_iload_n hx hb dX7_server_34 rfl (lv_at hl 1 rfl) ?_
      refine q_iald hx hb hK hP 1 0 rfl rfl (by omega) (by omega) (by decide) dX7_server_35 ?_
      have hb35 := hB_st sr
      refine lv_iconst (v := iI 1) hx hb dX7_server_36 rfl ?_
      refine q_icmp_eq (tgt := 50) hx hb dX7_server_37 (by decide) ⟨by omega, by omega⟩ ⟨by decide, by decide⟩ (fun c37 => ?_) (fun c37 => ?_)
      ·
        refine lv_iconst (v := iI 1) hx hb dX7_server_50 rfl ?_
        refine lv_goto (tgt := 55) hx hb dX7_server_51 (by decide) ?_
        refine lv_istore_n (lv' := [(3, .int (iI 1)), (0, .ref mo), (1, .int (iI sr)), (2, .int (iI w0))]) hx hb dX7_server_55 rfl hl (by decide) rfl (fun ls hl => ?_)
        refine lv_iload_n hx hb dX7_server_56 rfl (lv_at hl 3 rfl) ?_
        refine q_if_ne (tgt := 69) hx hb dX7_server_57 (by decide) ⟨by omega, by omega⟩ (fun c57 => ?_) (fun c57 => ?_)
        ·
          refine lv_iload_n hx hb dX7_server_69 rfl (lv_at hl 0 rfl) ?_
          refine q_if_eq (tgt := 91) hx hb dX7_server_70 (by decide) ⟨by decide, by decide⟩ (fun h => absurd h (by decide)) (fun _ => ?_)
          refine lv_aload_n hx hb dX7_server_73 rfl (lv_at hl 1 rfl) ?_
          refine va_get (D := D) (ci := 7) (v := .ref m6) (C := RX7) (T := TX7) (N := 22) hx hb hts in_X7_server_X7 hown hK hP 0 rfl rfl 6 (by decide) (hts _ lk_X7_server_3) (fun _ h9 => h9) rfl dX7_server_74 ?_
          refine lv_iconst (v := iI 0) hx hb dX7_server_77 rfl ?_
          refine q_iald hx hb hK hP 3 0 rfl rfl (by omega) (by omega) (by decide) dX7_server_78 ?_
          refine lv_iconst (v := iI 1) hx hb dX7_server_79 rfl ?_
          refine q_isub hx hb dX7_server_80 ?_
          refine lv_aload_n hx hb dX7_server_81 rfl (lv_at hl 1 rfl) ?_
          refine va_get (D := D) (ci := 7) (v := .ref m8) (C := RX7) (T := TX7) (N := 22) hx hb hts in_X7_server_X7 hown hK hP 0 rfl rfl 8 (by decide) (hts _ lk_X7_server_4) (fun _ h9 => h9) rfl dX7_server_82 ?_
          refine lv_iload_n hx hb dX7_server_85 rfl (lv_at hl 2 rfl) ?_
          refine q_iald hx hb hK hP 2 0 rfl rfl (by omega) (by omega) (by decide) dX7_server_86 ?_
          have hb86 := hB_sn sr
          refine q_isub hx hb dX7_server_87 ?_
          refine lv_goto (tgt := 92) hx hb dX7_server_88 (by decide) ?_
          rw [hQ]
          refine q_retI () hx hb hr hlocks hK hP hD hS dX7_server_92 ?_
          unfold svZ
          first | rw [if_neg (by omega)] | rw [if_pos (by omega), if_neg (by omega)] | rw [if_pos (by omega), if_pos (by omega), if_pos (by omega)] | rw [if_pos (by omega), if_pos (by omega), if_neg (by omega), if_pos (by omega)] | rw [if_pos (by omega), if_pos (by omega), if_neg (by omega), if_neg (by omega)]
        ·
          refine lv_aload_n hx hb dX7_server_60 rfl (lv_at hl 1 rfl) ?_
          refine va_get (D := D) (ci := 7) (v := .ref m7) (C := RX7) (T := TX7) (N := 22) hx hb hts in_X7_server_X7 hown hK hP 0 rfl rfl 7 (by decide) (hts _ lk_X7_server_2) (fun _ h9 => h9) rfl dX7_server_61 ?_
          refine lv_iload_n hx hb dX7_server_64 rfl (lv_at hl 2 rfl) ?_
          refine q_iald hx hb hK hP 1 0 rfl rfl (by omega) (by omega) (by decide) dX7_server_65 ?_
          have hb65 := hB_st sr
          refine lv_goto (tgt := 92) hx hb dX7_server_66 (by decide) ?_
          rw [hQ]
          refine q_retI () hx hb hr hlocks hK hP hD hS dX7_server_92 ?_
          unfold svZ
          first | rw [if_neg (by omega)] | rw [if_pos (by omega), if_neg (by omega)] | rw [if_pos (by omega), if_pos (by omega), if_pos (by omega)] | rw [if_pos (by omega), if_pos (by omega), if_neg (by omega), if_pos (by omega)] | rw [if_pos (by omega), if_pos (by omega), if_neg (by omega), if_neg (by omega)]
      ·
        refine lv_aload_n hx hb dX7_server_40 rfl (lv_at hl 0 rfl) ?_
        refine va_get (D := D) (ci := 7) (v := .ref m7) (C := RX7) (T := TX7) (N := 22) hx hb hts in_X7_server_X7 hown hK hP 0 rfl rfl 7 (by decide) (hts _ lk_X7_server_2) (fun _ h9 => h9) rfl dX7_server_41 ?_
        refine lv_iload_n hx hb dX7_server_44 rfl (lv_at hl 1 rfl) ?_
        refine q_iald hx hb hK hP 1 0 rfl rfl (by omega) (by omega) (by decide) dX7_server_45 ?_
        have hb45 := hB_st sr
        refine lv_iconst (v := iI 3) hx hb dX7_server_46 rfl ?_
        refine q_icmp_ne (tgt := 54) hx hb dX7_server_47 (by decide) ⟨by omega, by omega⟩ ⟨by decide, by decide⟩ (fun c47 => ?_) (fun c47 => ?_)
        ·
          refine lv_iconst (v := iI 0) hx hb dX7_server_54 rfl ?_
          refine lv_istore_n (lv' := [(3, .int (iI 0)), (0, .ref mo), (1, .int (iI sr)), (2, .int (iI w0))]) hx hb dX7_server_55 rfl hl (by decide) rfl (fun ls hl => ?_)
          refine lv_iload_n hx hb dX7_server_56 rfl (lv_at hl 3 rfl) ?_
          refine q_if_ne (tgt := 69) hx hb dX7_server_57 (by decide) ⟨by omega, by omega⟩ (fun c57 => ?_) (fun c57 => ?_)
          ·
            refine lv_iload_n hx hb dX7_server_69 rfl (lv_at hl 0 rfl) ?_
            refine q_if_eq (tgt := 91) hx hb dX7_server_70 (by decide) ⟨by decide, by decide⟩ (fun _ => ?_) (fun h => absurd h (by decide))
            refine lv_iconst (v := iI 0) hx hb dX7_server_91 rfl ?_
            rw [hQ]
            refine q_retI () hx hb hr hlocks hK hP hD hS dX7_server_92 ?_
            unfold svZ
            first | rw [if_neg (by omega)] | rw [if_pos (by omega), if_neg (by omega)] | rw [if_pos (by omega), if_pos (by omega), if_pos (by omega)] | rw [if_pos (by omega), if_pos (by omega), if_neg (by omega), if_pos (by omega)] | rw [if_pos (by omega), if_pos (by omega), if_neg (by omega), if_neg (by omega)]
          ·
            refine lv_aload_n hx hb dX7_server_60 rfl (lv_at hl 1 rfl) ?_
            refine va_get (D := D) (ci := 7) (v := .ref m7) (C := RX7) (T := TX7) (N := 22) hx hb hts in_X7_server_X7 hown hK hP 0 rfl rfl 7 (by decide) (hts _ lk_X7_server_2) (fun _ h9 => h9) rfl dX7_server_61 ?_
            refine lv_iload_n hx hb dX7_server_64 rfl (lv_at hl 2 rfl) ?_
            refine q_iald hx hb hK hP 1 0 rfl rfl (by omega) (by omega) (by decide) dX7_server_65 ?_
            have hb65 := hB_st sr
            refine lv_goto (tgt := 92) hx hb dX7_server_66 (by decide) ?_
            rw [hQ]
            refine q_retI () hx hb hr hlocks hK hP hD hS dX7_server_92 ?_
            unfold svZ
            first | rw [if_neg (by omega)] | rw [if_pos (by omega), if_neg (by omega)] | rw [if_pos (by omega), if_pos (by omega), if_pos (by omega)] | rw [if_pos (by omega), if_pos (by omega), if_neg (by omega), if_pos (by omega)] | rw [if_pos (by omega), if_pos (by omega), if_neg (by omega), if_neg (by omega)]
        ·
          refine lv_iconst (v := iI 1) hx hb dX7_server_50 rfl ?_
          refine lv_goto (tgt := 55) hx hb dX7_server_51 (by decide) ?_
          refine lv_istore_n (lv' := [(3, .int (iI 1)), (0, .ref mo), (1, .int (iI sr)), (2, .int (iI w0))]) hx hb dX7_server_55 rfl hl (by decide) rfl (fun ls hl => ?_)
          refine lv_iload_n hx hb dX7_server_56 rfl (lv_at hl 3 rfl) ?_
          refine q_if_ne (tgt := 69) hx hb dX7_server_57 (by decide) ⟨by omega, by omega⟩ (fun c57 => ?_) (fun c57 => ?_)
          ·
            refine lv_iload_n hx hb dX7_server_69 rfl (lv_at hl 0 rfl) ?_
            refine q_if_eq (tgt := 91) hx hb dX7_server_70 (by decide) ⟨by decide, by decide⟩ (fun h => absurd h (by decide)) (fun _ => ?_)
            refine lv_aload_n hx hb dX7_server_73 rfl (lv_at hl 1 rfl) ?_
            refine va_get (D := D) (ci := 7) (v := .ref m6) (C := RX7) (T := TX7) (N := 22) hx hb hts in_X7_server_X7 hown hK hP 0 rfl rfl 6 (by decide) (hts _ lk_X7_server_3) (fun _ h9 => h9) rfl dX7_server_74 ?_
            refine lv_iconst (v := iI 0) hx hb dX7_server_77 rfl ?_
            refine q_iald hx hb hK hP 3 0 rfl rfl (by omega) (by omega) (by decide) dX7_server_78 ?_
            refine lv_iconst (v := iI 1) hx hb dX7_server_79 rfl ?_
            refine q_isub hx hb dX7_server_80 ?_
            refine lv_aload_n hx hb dX7_server_81 rfl (lv_at hl 1 rfl) ?_
            refine va_get (D := D) (ci := 7) (v := .ref m8) (C := RX7) (T := TX7) (N := 22) hx hb hts in_X7_server_X7 hown hK hP 0 rfl rfl 8 (by decide) (hts _ lk_X7_server_4) (fun _ h9 => h9) rfl dX7_server_82 ?_
            refine lv_iload_n hx hb dX7_server_85 rfl (lv_at hl 2 rfl) ?_
            refine q_iald hx hb hK hP 2 0 rfl rfl (by omega) (by omega) (by decide) dX7_server_86 ?_
            have hb86 := hB_sn sr
            refine q_isub hx hb dX7_server_87 ?_
            refine lv_goto (tgt := 92) hx hb dX7_server_88 (by decide) ?_
            rw [hQ]
            refine q_retI () hx hb hr hlocks hK hP hD hS dX7_server_92 ?_
            unfold svZ
            first | rw [if_neg (by omega)] | rw [if_pos (by omega), if_neg (by omega)] | rw [if_pos (by omega), if_pos (by omega), if_pos (by omega)] | rw [if_pos (by omega), if_pos (by omega), if_neg (by omega), if_pos (by omega)] | rw [if_pos (by omega), if_pos (by omega), if_neg (by omega), if_neg (by omega)]
          ·
            refine lv_aload_n hx hb dX7_server_60 rfl (lv_at hl 1 rfl) ?_
            refine va_get (D := D) (ci := 7) (v := .ref m7) (C := RX7) (T := TX7) (N := 22) hx hb hts in_X7_server_X7 hown hK hP 0 rfl rfl 7 (by decide) (hts _ lk_X7_server_2) (fun _ h9 => h9) rfl dX7_server_61 ?_
            refine lv_iload_n hx hb dX7_server_64 rfl (lv_at hl 2 rfl) ?_
            refine q_iald hx hb hK hP 1 0 rfl rfl (by omega) (by omega) (by decide) dX7_server_65 ?_
            have hb65 := hB_st sr
            refine lv_goto (tgt := 92) hx hb dX7_server_66 (by decide) ?_
            rw [hQ]
            refine q_retI () hx hb hr hlocks hK hP hD hS dX7_server_92 ?_
            unfold svZ
            first | rw [if_neg (by omega)] | rw [if_pos (by omega), if_neg (by omega)] | rw [if_pos (by omega), if_pos (by omega), if_pos (by omega)] | rw [if_pos (by omega), if_pos (by omega), if_neg (by omega), if_pos (by omega)] | rw [if_pos (by omega), if_pos (by omega), if_neg (by omega), if_neg (by omega)]
    ·
      refine q_if_ne (tgt := 30) hx hb dX7_server_23 (by decide) ⟨by decide, by decide⟩ (fun h => absurd h (by decide)) (fun _ => ?_)
      refine lv_sipush (v := iI (-1002)) hx hb dX7_server_26 (by decide +kernel) ?_
      rw [hQ]
      refine q_retI () hx hb hr hlocks hK hP hD hS dX7_server_29 ?_
      unfold svZ
      first | rw [if_neg (by omega)] | rw [if_pos (by omega), if_neg (by omega)] | rw [if_pos (by omega), if_pos (by omega), if_pos (by omega)] | rw [if_pos (by omega), if_pos (by omega), if_neg (by omega), if_pos (by omega)] | rw [if_pos (by omega), if_pos (by omega), if_neg (by omega), if_neg (by omega)]
  ·
    refine q_if_ne (tgt := 16) hx hb dX7_server_9 (by decide) ⟨by decide, by decide⟩ (fun h => absurd h (by decide)) (fun _ => ?_)
    refine lv_sipush (v := iI (-1001)) hx hb dX7_server_12 (by decide +kernel) ?_
    rw [hQ]
    refine q_retI () hx hb hr hlocks hK hP hD hS dX7_server_15 ?_
    unfold svZ
    first | rw [if_neg (by omega)] | rw [if_pos (by omega), if_neg (by omega)] | rw [if_pos (by omega), if_pos (by omega), if_pos (by omega)] | rw [if_pos (by omega), if_pos (by omega), if_neg (by omega), if_pos (by omega)] | rw [if_pos (by omega), if_pos (by omega), if_neg (by omega), if_neg (by omega)]

theorem in_X7_now_X7 : ∀ w ∈ wsX70, w ∈ wsX7_now := fun _ h => List.mem_cons_of_mem _ (List.mem_append_right _ h)
theorem lk_X7_now_1 : Cond.fieldLink RX7 29 "MoreHandsModel" "run" "[I" ∈ wsX7_now := List.mem_of_getElem? (i := 1) rfl
set_option maxHeartbeats 4000000 in
set_option maxRecDepth 100000 in
theorem c_X7_now (l : Launch) (D : va_G) (cI cZ cII : ClassId) (mo : Nat) (m6 : Nat) (m7 : Nat) (m11 : Nat) (m13 : Nat) (m14 : Nat) (m0 : Nat) (m1 : Nat) (m2 : Nat) (m3 : Nat) (m4 : Nat) (m5 : Nat) (m8 : Nat) (m9 : Nat) (m10 : Nat) (m12 : Nat) (m15 : Nat) (m16 : Nat) (m17 : Nat) (m18 : Nat) (m19 : Nat) (aa : Int) (m21 : Nat) (ru : Int → Int) (st : Int → Int) (km : Int → Int) (am : Int → Int) (hp : Int → Int) (k : Int) (hB_st : BB 0 3 st) (hB_km : BB 0 60 km) (hB_am : BB 0 60 am) (hp_k : IR k) (hhp : 0 ≤ hp 0 ∧ hp 0 ≤ 200) (hhq : 0 ≤ hp 1 ∧ hp 1 ≤ 200) (hr6 : -1 ≤ ru 6 ∧ ru 6 ≤ 200) : CtI l yX7_now wsX7_now 2 43 D (ty3 cI cZ cII) [.ref mo, .int (iI k)] [(mo, .inr (7, [.ref m0, .ref m1, .ref m2, .ref m3, .ref m4, .ref m5, .ref m6, .ref m7, .ref m8, .ref m9, .ref m10, .ref m11, .ref m12, .ref m13, .ref m14, .ref m15, .ref m16, .ref m17, .ref m18, .ref m19, .int (iI aa), .ref m21])), (m6, .inl (cI, 8, .inl (ia ru))), (m7, .inl (cI, 12, .inl (ia st))), (m11, .inl (cI, 200, .inl (ia km))), (m13, .inl (cI, 200, .inl (ia am))), (m14, .inl (cI, 2, .inl (ia hp)))] (fun z (u : Unit) => z = (figF st (ru 0) (sI km (hp 0)) (sI am (hp 1)) (ru 1) (ru 2) (ru 3) (ru 4) (ru 5) (ru 6) (ru 7) k)) (fun u => [(mo, .inr (7, [.ref m0, .ref m1, .ref m2, .ref m3, .ref m4, .ref m5, .ref m6, .ref m7, .ref m8, .ref m9, .ref m10, .ref m11, .ref m12, .ref m13, .ref m14, .ref m15, .ref m16, .ref m17, .ref m18, .ref m19, .int (iI aa), .ref m21])), (m6, .inl (cI, 8, .inl (ia ru))), (m7, .inl (cI, 12, .inl (ia st))), (m11, .inl (cI, 200, .inl (ia km))), (m13, .inl (cI, 200, .inl (ia am))), (m14, .inl (cI, 2, .inl (ia hp)))]) := by
  refine CtI.mk (cc := cX7_now) (maxL := 2) (ret := (some .int)) (by decide) rfl (Nat.le_of_ble_eq_true rfl) ?_
  intro p e s m below meth c A ls R args Q hx hb hml hr hts hown hlocks hA hK hP hD hN hS hl hRf hRl hQ
  have hl : lv_has ls 2 [(0, .ref mo), (1, .int (iI k))] := hl
  have hown : s.vm.findClass RX7 = some m.cls := hown
  refine lv_iload_n hx hb dX7_now_0 rfl (lv_at hl 1 rfl) ?_
  have hsw : (iI k).toInt = k := iI_toInt ⟨by omega, by omega⟩
  by_cases cOut : k < 0 ∨ 12 < k
  ·
    refine lv_tableOut (tgt := 174) hx hb dX7_now_1 (by rw [hsw]; exact cOut) (by decide) ?_
    refine lv_sipush (v := iI (-1002)) hx hb dX7_now_174 (by decide +kernel) ?_
    rw [hQ]
    refine q_retI () hx hb hr hlocks hK hP hD hS dX7_now_177 ?_
    unfold figF
    first | (rw [cK]; rfl) | (rw [cK, if_neg (by omega), if_neg (by omega), if_neg (by omega), if_neg (by omega), if_neg (by omega), if_neg (by omega), if_neg (by omega), if_neg (by omega), if_neg (by omega), if_neg (by omega), if_neg (by omega), if_pos rfl]; first | rw [if_pos (by omega)] | rw [if_neg (by omega)]) | (rw [if_neg (by omega), if_neg (by omega), if_neg (by omega), if_neg (by omega), if_neg (by omega), if_neg (by omega), if_neg (by omega), if_neg (by omega), if_neg (by omega), if_neg (by omega), if_neg (by omega), if_neg (by omega), if_neg (by omega)])
  ·
    have cIn : k = 0 ∨ k = 1 ∨ k = 2 ∨ k = 3 ∨ k = 4 ∨ k = 5 ∨ k = 6 ∨ k = 7 ∨ k = 8 ∨ k = 9 ∨ k = 10 ∨ k = 11 ∨ k = 12 := by omega
    rcases cIn with cK | cK | cK | cK | cK | cK | cK | cK | cK | cK | cK | cK | cK
    ·
      refine lv_tableIn (tgt := 68) hx hb dX7_now_1 (by rw [hsw]; omega) (by rw [hsw]; omega) (by rw [hsw, cK]; rfl) (by decide) ?_
      refine lv_aload_n hx hb dX7_now_68 rfl (lv_at hl 0 rfl) ?_
      refine va_get (D := D) (ci := 7) (v := .ref m6) (C := RX7) (T := TX7) (N := 22) hx hb hts in_X7_now_X7 hown hK hP 0 rfl rfl 6 (by decide) (hts _ lk_X7_now_1) (fun _ h9 => h9) rfl dX7_now_69 ?_
      refine lv_iconst (v := iI 0) hx hb dX7_now_72 rfl ?_
      refine q_iald hx hb hK hP 1 0 rfl rfl (by omega) (by omega) (by decide) dX7_now_73 ?_
      rw [hQ]
      refine q_retI () hx hb hr hlocks hK hP hD hS dX7_now_74 ?_
      unfold figF
      first | (rw [cK]; rfl) | (rw [cK, if_neg (by omega), if_neg (by omega), if_neg (by omega), if_neg (by omega), if_neg (by omega), if_neg (by omega), if_neg (by omega), if_neg (by omega), if_neg (by omega), if_neg (by omega), if_neg (by omega), if_pos rfl]; first | rw [if_pos (by omega)] | rw [if_neg (by omega)]) | (rw [if_neg (by omega), if_neg (by omega), if_neg (by omega), if_neg (by omega), if_neg (by omega), if_neg (by omega), if_neg (by omega), if_neg (by omega), if_neg (by omega), if_neg (by omega), if_neg (by omega), if_neg (by omega), if_neg (by omega)])
    ·
      refine lv_tableIn (tgt := 75) hx hb dX7_now_1 (by rw [hsw]; omega) (by rw [hsw]; omega) (by rw [hsw, cK]; rfl) (by decide) ?_
      refine lv_aload_n hx hb dX7_now_75 rfl (lv_at hl 0 rfl) ?_
      refine q_callVI (wr := [(m6, .inl (cI, 8, .inl (ia ru))), (m7, .inl (cI, 12, .inl (ia st))), (m13, .inl (cI, 200, .inl (ia am)))]) (wn := fun (u : Unit) => [(mo, .inr (7, [.ref m0, .ref m1, .ref m2, .ref m3, .ref m4, .ref m5, .ref m6, .ref m7, .ref m8, .ref m9, .ref m10, .ref m11, .ref m12, .ref m13, .ref m14, .ref m15, .ref m16, .ref m17, .ref m18, .ref m19, .int (iI aa), .ref m21])), (m6, .inl (cI, 8, .inl (ia ru))), (m7, .inl (cI, 12, .inl (ia st))), (m11, .inl (cI, 200, .inl (ia km))), (m13, .inl (cI, 200, .inl (ia am))), (m14, .inl (cI, 2, .inl (ia hp)))]) (rest := []) [] ⟨hx, hb, hml, hown, hts⟩ (c_X7_waiting l D cI cZ cII mo m11 m14 m0 m1 m2 m3 m4 m5 m6 m7 m8 m9 m10 m12 m13 m15 m16 m17 m18 m19 aa m21 km hp hB_km (by omega)) (cwV 0 hts gX7_now_X7_waiting rfl rfl rfl (by decide +kernel) (by rw [hRf, hRl]; exact ⟨Nat.le_of_ble_eq_true rfl, Nat.le_of_ble_eq_true rfl⟩)) hK hP hD hS hA hN [0, 3, 5] [1, 2, 4] [3, 0, 1, 4, 2, 5] 0 7 rfl rfl rfl rfl rfl rfl (by decide) rfl (fun u => rfl) rfl hl.1 rfl (Nat.le_of_ble_eq_true rfl) dX7_now_76 ⟨Nat.zero_le _, Nat.zero_le _⟩ (fun z u H locs hw hP hD hS => ?_)
      have hP : va_P D vwCl [(mo, .inr (7, [.ref m0, .ref m1, .ref m2, .ref m3, .ref m4, .ref m5, .ref m6, .ref m7, .ref m8, .ref m9, .ref m10, .ref m11, .ref m12, .ref m13, .ref m14, .ref m15, .ref m16, .ref m17, .ref m18, .ref m19, .int (iI aa), .ref m21])), (m6, .inl (cI, 8, .inl (ia ru))), (m7, .inl (cI, 12, .inl (ia st))), (m11, .inl (cI, 200, .inl (ia km))), (m13, .inl (cI, 200, .inl (ia am))), (m14, .inl (cI, 2, .inl (ia hp)))] H := hP
      have hD : va_D A [(mo, .inr (7, [.ref m0, .ref m1, .ref m2, .ref m3, .ref m4, .ref m5, .ref m6, .ref m7, .ref m8, .ref m9, .ref m10, .ref m11, .ref m12, .ref m13, .ref m14, .ref m15, .ref m16, .ref m17, .ref m18, .ref m19, .int (iI aa), .ref m21])), (m6, .inl (cI, 8, .inl (ia ru))), (m7, .inl (cI, 12, .inl (ia st))), (m11, .inl (cI, 200, .inl (ia km))), (m13, .inl (cI, 200, .inl (ia am))), (m14, .inl (cI, 2, .inl (ia hp)))] := hD
      obtain ⟨z_1, ez⟩ : ∃ y : Int, y = z := ⟨_, rfl⟩
      rw [← ez] at hw ⊢
      clear ez
      have w76 : z_1 = (sI km (hp 0)) := hw
      clear hw
      subst w76
      rw [hQ]
      refine q_retI () hx hb hr hlocks hK hP hD hS dX7_now_79 ?_
      unfold figF
      first | (rw [cK]; rfl) | (rw [cK, if_neg (by omega), if_neg (by omega), if_neg (by omega), if_neg (by omega), if_neg (by omega), if_neg (by omega), if_neg (by omega), if_neg (by omega), if_neg (by omega), if_neg (by omega), if_neg (by omega), if_pos rfl]; first | rw [if_pos (by omega)] | rw [if_neg (by omega)]) | (rw [if_neg (by omega), if_neg (by omega), if_neg (by omega), if_neg (by omega), if_neg (by omega), if_neg (by omega), if_neg (by omega), if_neg (by omega), if_neg (by omega), if_neg (by omega), if_neg (by omega), if_neg (by omega), if_neg (by omega)])
    ·
      refine lv_tableIn (tgt := 80) hx hb dX7_now_1 (by rw [hsw]; omega) (by rw [hsw]; omega) (by rw [hsw, cK]; rfl) (by decide) ?_
      refine lv_aload_n hx hb dX7_now_80 rfl (lv_at hl 0 rfl) ?_
      refine q_callVI (wr := [(m6, .inl (cI, 8, .inl (ia ru))), (m7, .inl (cI, 12, .inl (ia st))), (m11, .inl (cI, 200, .inl (ia km)))]) (wn := fun (u : Unit) => [(mo, .inr (7, [.ref m0, .ref m1, .ref m2, .ref m3, .ref m4, .ref m5, .ref m6, .ref m7, .ref m8, .ref m9, .ref m10, .ref m11, .ref m12, .ref m13, .ref m14, .ref m15, .ref m16, .ref m17, .ref m18, .ref m19, .int (iI aa), .ref m21])), (m6, .inl (cI, 8, .inl (ia ru))), (m7, .inl (cI, 12, .inl (ia st))), (m11, .inl (cI, 200, .inl (ia km))), (m13, .inl (cI, 200, .inl (ia am))), (m14, .inl (cI, 2, .inl (ia hp)))]) (rest := []) [] ⟨hx, hb, hml, hown, hts⟩ (c_X7_triers l D cI cZ cII mo m13 m14 m0 m1 m2 m3 m4 m5 m6 m7 m8 m9 m10 m11 m12 m15 m16 m17 m18 m19 aa m21 am hp hB_am (by exact hhq)) (cwV 0 hts gX7_now_X7_triers rfl rfl rfl (by decide +kernel) (by rw [hRf, hRl]; exact ⟨Nat.le_of_ble_eq_true rfl, Nat.le_of_ble_eq_true rfl⟩)) hK hP hD hS hA hN [0, 4, 5] [1, 2, 3] [3, 0, 1, 2, 4, 5] 0 7 rfl rfl rfl rfl rfl rfl (by decide) rfl (fun u => rfl) rfl hl.1 rfl (Nat.le_of_ble_eq_true rfl) dX7_now_81 ⟨Nat.zero_le _, Nat.zero_le _⟩ (fun z u H locs hw hP hD hS => ?_)
      have hP : va_P D vwCl [(mo, .inr (7, [.ref m0, .ref m1, .ref m2, .ref m3, .ref m4, .ref m5, .ref m6, .ref m7, .ref m8, .ref m9, .ref m10, .ref m11, .ref m12, .ref m13, .ref m14, .ref m15, .ref m16, .ref m17, .ref m18, .ref m19, .int (iI aa), .ref m21])), (m6, .inl (cI, 8, .inl (ia ru))), (m7, .inl (cI, 12, .inl (ia st))), (m11, .inl (cI, 200, .inl (ia km))), (m13, .inl (cI, 200, .inl (ia am))), (m14, .inl (cI, 2, .inl (ia hp)))] H := hP
      have hD : va_D A [(mo, .inr (7, [.ref m0, .ref m1, .ref m2, .ref m3, .ref m4, .ref m5, .ref m6, .ref m7, .ref m8, .ref m9, .ref m10, .ref m11, .ref m12, .ref m13, .ref m14, .ref m15, .ref m16, .ref m17, .ref m18, .ref m19, .int (iI aa), .ref m21])), (m6, .inl (cI, 8, .inl (ia ru))), (m7, .inl (cI, 12, .inl (ia st))), (m11, .inl (cI, 200, .inl (ia km))), (m13, .inl (cI, 200, .inl (ia am))), (m14, .inl (cI, 2, .inl (ia hp)))] := hD
      obtain ⟨z_2, ez⟩ : ∃ y : Int, y = z := ⟨_, rfl⟩
      rw [← ez] at hw ⊢
      clear ez
      have w81 : z_2 = (sI am (hp 1)) := hw
      clear hw
      subst w81
      rw [hQ]
      refine q_retI () hx hb hr hlocks hK hP hD hS dX7_now_84 ?_
      unfold figF
      first | (rw [cK]; rfl) | (rw [cK, if_neg (by omega), if_neg (by omega), if_neg (by omega), if_neg (by omega), if_neg (by omega), if_neg (by omega), if_neg (by omega), if_neg (by omega), if_neg (by omega), if_neg (by omega), if_neg (by omega), if_pos rfl]; first | rw [if_pos (by omega)] | rw [if_neg (by omega)]) | (rw [if_neg (by omega), if_neg (by omega), if_neg (by omega), if_neg (by omega), if_neg (by omega), if_neg (by omega), if_neg (by omega), if_neg (by omega), if_neg (by omega), if_neg (by omega), if_neg (by omega), if_neg (by omega), if_neg (by omega)])
    ·
      refine lv_tableIn (tgt := 85) hx hb dX7_now_1 (by rw [hsw]; omega) (by rw [hsw]; omega) (by rw [hsw, cK]; rfl) (by decide) ?_
      refine lv_aload_n hx hb dX7_now_85 rfl (lv_at hl 0 rfl) ?_
      refine va_get (D := D) (ci := 7) (v := .ref m6) (C := RX7) (T := TX7) (N := 22) hx hb hts in_X7_now_X7 hown hK hP 0 rfl rfl 6 (by decide) (hts _ lk_X7_now_1) (fun _ h9 => h9) rfl dX7_now_86 ?_
      refine lv_iconst (v := iI 1) hx hb dX7_now_89 rfl ?_
      refine q_iald hx hb hK hP 1 0 rfl rfl (by omega) (by omega) (by decide) dX7_now_90 ?_
      rw [hQ]
      refine q_retI () hx hb hr hlocks hK hP hD hS dX7_now_91 ?_
      unfold figF
      first | (rw [cK]; rfl) | (rw [cK, if_neg (by omega), if_neg (by omega), if_neg (by omega), if_neg (by omega), if_neg (by omega), if_neg (by omega), if_neg (by omega), if_neg (by omega), if_neg (by omega), if_neg (by omega), if_neg (by omega), if_pos rfl]; first | rw [if_pos (by omega)] | rw [if_neg (by omega)]) | (rw [if_neg (by omega), if_neg (by omega), if_neg (by omega), if_neg (by omega), if_neg (by omega), if_neg (by omega), if_neg (by omega), if_neg (by omega), if_neg (by omega), if_neg (by omega), if_neg (by omega), if_neg (by omega), if_neg (by omega)])
    ·
      refine lv_tableIn (tgt := 92) hx hb dX7_now_1 (by rw [hsw]; omega) (by rw [hsw]; omega) (by rw [hsw, cK]; rfl) (by decide) ?_
      refine lv_aload_n hx hb dX7_now_92 rfl (lv_at hl 0 rfl) ?_
      refine va_get (D := D) (ci := 7) (v := .ref m6) (C := RX7) (T := TX7) (N := 22) hx hb hts in_X7_now_X7 hown hK hP 0 rfl rfl 6 (by decide) (hts _ lk_X7_now_1) (fun _ h9 => h9) rfl dX7_now_93 ?_
      refine lv_iconst (v := iI 2) hx hb dX7_now_96 rfl ?_
      refine q_iald hx hb hK hP 1 0 rfl rfl (by omega) (by omega) (by decide) dX7_now_97 ?_
      rw [hQ]
      refine q_retI () hx hb hr hlocks hK hP hD hS dX7_now_98 ?_
      unfold figF
      first | (rw [cK]; rfl) | (rw [cK, if_neg (by omega), if_neg (by omega), if_neg (by omega), if_neg (by omega), if_neg (by omega), if_neg (by omega), if_neg (by omega), if_neg (by omega), if_neg (by omega), if_neg (by omega), if_neg (by omega), if_pos rfl]; first | rw [if_pos (by omega)] | rw [if_neg (by omega)]) | (rw [if_neg (by omega), if_neg (by omega), if_neg (by omega), if_neg (by omega), if_neg (by omega), if_neg (by omega), if_neg (by omega), if_neg (by omega), if_neg (by omega), if_neg (by omega), if_neg (by omega), if_neg (by omega), if_neg (by omega)])
    ·
      refine lv_tableIn (tgt := 99) hx hb dX7_now_1 (by rw [hsw]; omega) (by rw [hsw]; omega) (by rw [hsw, cK]; rfl) (by decide) ?_
      refine lv_aload_n hx hb dX7_now_99 rfl (lv_at hl 0 rfl) ?_
      refine va_get (D := D) (ci := 7) (v := .ref m6) (C := RX7) (T := TX7) (N := 22) hx hb hts in_X7_now_X7 hown hK hP 0 rfl rfl 6 (by decide) (hts _ lk_X7_now_1) (fun _ h9 => h9) rfl dX7_now_100 ?_
      refine lv_iconst (v := iI 3) hx hb dX7_now_103 rfl ?_
      refine q_iald hx hb hK hP 1 0 rfl rfl (by omega) (by omega) (by decide) dX7_now_104 ?_
      rw [hQ]
      refine q_retI () hx hb hr hlocks hK hP hD hS dX7_now_105 ?_
      unfold figF
      first | (rw [cK]; rfl) | (rw [cK, if_neg (by omega), if_neg (by omega), if_neg (by omega), if_neg (by omega), if_neg (by omega), if_neg (by omega), if_neg (by omega), if_neg (by omega), if_neg (by omega), if_neg (by omega), if_neg (by omega), if_pos rfl]; first | rw [if_pos (by omega)] | rw [if_neg (by omega)]) | (rw [if_neg (by omega), if_neg (by omega), if_neg (by omega), if_neg (by omega), if_neg (by omega), if_neg (by omega), if_neg (by omega), if_neg (by omega), if_neg (by omega), if_neg (by omega), if_neg (by omega), if_neg (by omega), if_neg (by omega)])
    ·
      refine lv_tableIn (tgt := 106) hx hb dX7_now_1 (by rw [hsw]; omega) (by rw [hsw]; omega) (by rw [hsw, cK]; rfl) (by decide) ?_
      refine lv_aload_n hx hb dX7_now_106 rfl (lv_at hl 0 rfl) ?_
      refine va_get (D := D) (ci := 7) (v := .ref m6) (C := RX7) (T := TX7) (N := 22) hx hb hts in_X7_now_X7 hown hK hP 0 rfl rfl 6 (by decide) (hts _ lk_X7_now_1) (fun _ h9 => h9) rfl dX7_now_107 ?_
      refine lv_iconst (v := iI 4) hx hb dX7_now_110 rfl ?_
      refine q_iald hx hb hK hP 1 0 rfl rfl (by omega) (by omega) (by decide) dX7_now_111 ?_
      rw [hQ]
      refine q_retI () hx hb hr hlocks hK hP hD hS dX7_now_112 ?_
      unfold figF
      first | (rw [cK]; rfl) | (rw [cK, if_neg (by omega), if_neg (by omega), if_neg (by omega), if_neg (by omega), if_neg (by omega), if_neg (by omega), if_neg (by omega), if_neg (by omega), if_neg (by omega), if_neg (by omega), if_neg (by omega), if_pos rfl]; first | rw [if_pos (by omega)] | rw [if_neg (by omega)]) | (rw [if_neg (by omega), if_neg (by omega), if_neg (by omega), if_neg (by omega), if_neg (by omega), if_neg (by omega), if_neg (by omega), if_neg (by omega), if_neg (by omega), if_neg (by omega), if_neg (by omega), if_neg (by omega), if_neg (by omega)])
    ·
      refine lv_tableIn (tgt := 113) hx hb dX7_now_1 (by rw [hsw]; omega) (by rw [hsw]; omega) (by rw [hsw, cK]; rfl) (by decide) ?_
      refine lv_aload_n hx hb dX7_now_113 rfl (lv_at hl 0 rfl) ?_
      refine va_get (D := D) (ci := 7) (v := .ref m6) (C := RX7) (T := TX7) (N := 22) hx hb hts in_X7_now_X7 hown hK hP 0 rfl rfl 6 (by decide) (hts _ lk_X7_now_1) (fun _ h9 => h9) rfl dX7_now_114 ?_
      refine lv_iconst (v := iI 5) hx hb dX7_now_117 rfl ?_
      refine q_iald hx hb hK hP 1 0 rfl rfl (by omega) (by omega) (by decide) dX7_now_118 ?_
      rw [hQ]
      refine q_retI () hx hb hr hlocks hK hP hD hS dX7_now_119 ?_
      unfold figF
      first | (rw [cK]; rfl) | (rw [cK, if_neg (by omega), if_neg (by omega), if_neg (by omega), if_neg (by omega), if_neg (by omega), if_neg (by omega), if_neg (by omega), if_neg (by omega), if_neg (by omega), if_neg (by omega), if_neg (by omega), if_pos rfl]; first | rw [if_pos (by omega)] | rw [if_neg (by omega)]) | (rw [if_neg (by omega), if_neg (by omega), if_neg (by omega), if_neg (by omega), if_neg (by omega), if_neg (by omega), if_neg (by omega), if_neg (by omega), if_neg (by omega), if_neg (by omega), if_neg (by omega), if_neg (by omega), if_neg (by omega)])
    ·
      refine lv_tableIn (tgt := 120) hx hb dX7_now_1 (by rw [hsw]; omega) (by rw [hsw]; omega) (by rw [hsw, cK]; rfl) (by decide) ?_
      refine lv_aload_n hx hb dX7_now_120 rfl (lv_at hl 0 rfl) ?_
      refine q_callVI (wr := [(m6, .inl (cI, 8, .inl (ia ru))), (m11, .inl (cI, 200, .inl (ia km))), (m13, .inl (cI, 200, .inl (ia am))), (m14, .inl (cI, 2, .inl (ia hp)))]) (wn := fun (u : Unit) => [(mo, .inr (7, [.ref m0, .ref m1, .ref m2, .ref m3, .ref m4, .ref m5, .ref m6, .ref m7, .ref m8, .ref m9, .ref m10, .ref m11, .ref m12, .ref m13, .ref m14, .ref m15, .ref m16, .ref m17, .ref m18, .ref m19, .int (iI aa), .ref m21])), (m6, .inl (cI, 8, .inl (ia ru))), (m7, .inl (cI, 12, .inl (ia st))), (m11, .inl (cI, 200, .inl (ia km))), (m13, .inl (cI, 200, .inl (ia am))), (m14, .inl (cI, 2, .inl (ia hp)))]) (rest := []) [] ⟨hx, hb, hml, hown, hts⟩ (c_X7_up l D cI cZ cII mo m7 m0 m1 m2 m3 m4 m5 m6 m8 m9 m10 m11 m12 m13 m14 m15 m16 m17 m18 m19 aa m21 st hB_st) (cwV 0 hts gX7_now_X7_up rfl rfl rfl (by decide +kernel) (by rw [hRf, hRl]; exact ⟨Nat.le_of_ble_eq_true rfl, Nat.le_of_ble_eq_true rfl⟩)) hK hP hD hS hA hN [0, 2] [1, 3, 4, 5] [4, 0, 5, 1, 2, 3] 0 7 rfl rfl rfl rfl rfl rfl (by decide) rfl (fun u => rfl) rfl hl.1 rfl (Nat.le_of_ble_eq_true rfl) dX7_now_121 ⟨Nat.zero_le _, Nat.zero_le _⟩ (fun z u H locs hw hP hD hS => ?_)
      have hP : va_P D vwCl [(mo, .inr (7, [.ref m0, .ref m1, .ref m2, .ref m3, .ref m4, .ref m5, .ref m6, .ref m7, .ref m8, .ref m9, .ref m10, .ref m11, .ref m12, .ref m13, .ref m14, .ref m15, .ref m16, .ref m17, .ref m18, .ref m19, .int (iI aa), .ref m21])), (m6, .inl (cI, 8, .inl (ia ru))), (m7, .inl (cI, 12, .inl (ia st))), (m11, .inl (cI, 200, .inl (ia km))), (m13, .inl (cI, 200, .inl (ia am))), (m14, .inl (cI, 2, .inl (ia hp)))] H := hP
      have hD : va_D A [(mo, .inr (7, [.ref m0, .ref m1, .ref m2, .ref m3, .ref m4, .ref m5, .ref m6, .ref m7, .ref m8, .ref m9, .ref m10, .ref m11, .ref m12, .ref m13, .ref m14, .ref m15, .ref m16, .ref m17, .ref m18, .ref m19, .int (iI aa), .ref m21])), (m6, .inl (cI, 8, .inl (ia ru))), (m7, .inl (cI, 12, .inl (ia st))), (m11, .inl (cI, 200, .inl (ia km))), (m13, .inl (cI, 200, .inl (ia am))), (m14, .inl (cI, 2, .inl (ia hp)))] := hD
      obtain ⟨z_3, ez⟩ : ∃ y : Int, y = z := ⟨_, rfl⟩
      rw [← ez] at hw ⊢
      clear ez
      have w121 : z_3 = (upS st) := hw
      clear hw
      subst w121
      rw [hQ]
      refine q_retI () hx hb hr hlocks hK hP hD hS dX7_now_124 ?_
      unfold figF
      first | (rw [cK]; rfl) | (rw [cK, if_neg (by omega), if_neg (by omega), if_neg (by omega), if_neg (by omega), if_neg (by omega), if_neg (by omega), if_neg (by omega), if_neg (by omega), if_neg (by omega), if_neg (by omega), if_neg (by omega), if_pos rfl]; first | rw [if_pos (by omega)] | rw [if_neg (by omega)]) | (rw [if_neg (by omega), if_neg (by omega), if_neg (by omega), if_neg (by omega), if_neg (by omega), if_neg (by omega), if_neg (by omega), if_neg (by omega), if_neg (by omega), if_neg (by omega), if_neg (by omega), if_neg (by omega), if_neg (by omega)])
    ·
      refine lv_tableIn (tgt := 125) hx hb dX7_now_1 (by rw [hsw]; omega) (by rw [hsw]; omega) (by rw [hsw, cK]; rfl) (by decide) ?_
      refine lv_aload_n hx hb dX7_now_125 rfl (lv_at hl 0 rfl) ?_
      refine lv_iconst (v := iI 2) hx hb dX7_now_126 rfl ?_
      refine q_callVI (wr := [(m6, .inl (cI, 8, .inl (ia ru))), (m11, .inl (cI, 200, .inl (ia km))), (m13, .inl (cI, 200, .inl (ia am))), (m14, .inl (cI, 2, .inl (ia hp)))]) (wn := fun (u : Unit) => [(mo, .inr (7, [.ref m0, .ref m1, .ref m2, .ref m3, .ref m4, .ref m5, .ref m6, .ref m7, .ref m8, .ref m9, .ref m10, .ref m11, .ref m12, .ref m13, .ref m14, .ref m15, .ref m16, .ref m17, .ref m18, .ref m19, .int (iI aa), .ref m21])), (m6, .inl (cI, 8, .inl (ia ru))), (m7, .inl (cI, 12, .inl (ia st))), (m11, .inl (cI, 200, .inl (ia km))), (m13, .inl (cI, 200, .inl (ia am))), (m14, .inl (cI, 2, .inl (ia hp)))]) (rest := []) [.int (iI 2)] ⟨hx, hb, hml, hown, hts⟩ (c_X7_many l D cI cZ cII mo m7 m0 m1 m2 m3 m4 m5 m6 m8 m9 m10 m11 m12 m13 m14 m15 m16 m17 m18 m19 aa m21 st 2 hB_st (by omega)) (cwV 1 hts gX7_now_X7_many rfl rfl rfl (by decide +kernel) (by rw [hRf, hRl]; exact ⟨Nat.le_of_ble_eq_true rfl, Nat.le_of_ble_eq_true rfl⟩)) hK hP hD hS hA hN [0, 2] [1, 3, 4, 5] [4, 0, 5, 1, 2, 3] 0 7 rfl rfl rfl rfl rfl rfl (by decide) rfl (fun u => rfl) rfl hl.1 rfl (Nat.le_of_ble_eq_true rfl) dX7_now_127 ⟨Nat.zero_le _, Nat.zero_le _⟩ (fun z u H locs hw hP hD hS => ?_)
      have hP : va_P D vwCl [(mo, .inr (7, [.ref m0, .ref m1, .ref m2, .ref m3, .ref m4, .ref m5, .ref m6, .ref m7, .ref m8, .ref m9, .ref m10, .ref m11, .ref m12, .ref m13, .ref m14, .ref m15, .ref m16, .ref m17, .ref m18, .ref m19, .int (iI aa), .ref m21])), (m6, .inl (cI, 8, .inl (ia ru))), (m7, .inl (cI, 12, .inl (ia st))), (m11, .inl (cI, 200, .inl (ia km))), (m13, .inl (cI, 200, .inl (ia am))), (m14, .inl (cI, 2, .inl (ia hp)))] H := hP
      have hD : va_D A [(mo, .inr (7, [.ref m0, .ref m1, .ref m2, .ref m3, .ref m4, .ref m5, .ref m6, .ref m7, .ref m8, .ref m9, .ref m10, .ref m11, .ref m12, .ref m13, .ref m14, .ref m15, .ref m16, .ref m17, .ref m18, .ref m19, .int (iI aa), .ref m21])), (m6, .inl (cI, 8, .inl (ia ru))), (m7, .inl (cI, 12, .inl (ia st))), (m11, .inl (cI, 200, .inl (ia km))), (m13, .inl (cI, 200, .inl (ia am))), (m14, .inl (cI, 2, .inl (ia hp)))] := hD
      obtain ⟨z_4, ez⟩ : ∃ y : Int, y = z := ⟨_, rfl⟩
      rw [← ez] at hw ⊢
      clear ez
      have w127 : z_4 = (cnt st (2 : Int)) := hw
      clear hw
      subst w127
      rw [hQ]
      refine q_retI () hx hb hr hlocks hK hP hD hS dX7_now_130 ?_
      unfold figF
      first | (rw [cK]; rfl) | (rw [cK, if_neg (by omega), if_neg (by omega), if_neg (by omega), if_neg (by omega), if_neg (by omega), if_neg (by omega), if_neg (by omega), if_neg (by omega), if_neg (by omega), if_neg (by omega), if_neg (by omega), if_pos rfl]; first | rw [if_pos (by omega)] | rw [if_neg (by omega)]) | (rw [if_neg (by omega), if_neg (by omega), if_neg (by omega), if_neg (by omega), if_neg (by omega), if_neg (by omega), if_neg (by omega), if_neg (by omega), if_neg (by omega), if_neg (by omega), if_neg (by omega), if_neg (by omega), if_neg (by omega)])
    ·
      refine lv_tableIn (tgt := 131) hx hb dX7_now_1 (by rw [hsw]; omega) (by rw [hsw]; omega) (by rw [hsw, cK]; rfl) (by decide) ?_
      refine lv_aload_n hx hb dX7_now_131 rfl (lv_at hl 0 rfl) ?_
      refine lv_iconst (v := iI 3) hx hb dX7_now_132 rfl ?_
      refine q_callVI (wr := [(m6, .inl (cI, 8, .inl (ia ru))), (m11, .inl (cI, 200, .inl (ia km))), (m13, .inl (cI, 200, .inl (ia am))), (m14, .inl (cI, 2, .inl (ia hp)))]) (wn := fun (u : Unit) => [(mo, .inr (7, [.ref m0, .ref m1, .ref m2, .ref m3, .ref m4, .ref m5, .ref m6, .ref m7, .ref m8, .ref m9, .ref m10, .ref m11, .ref m12, .ref m13, .ref m14, .ref m15, .ref m16, .ref m17, .ref m18, .ref m19, .int (iI aa), .ref m21])), (m6, .inl (cI, 8, .inl (ia ru))), (m7, .inl (cI, 12, .inl (ia st))), (m11, .inl (cI, 200, .inl (ia km))), (m13, .inl (cI, 200, .inl (ia am))), (m14, .inl (cI, 2, .inl (ia hp)))]) (rest := []) [.int (iI 3)] ⟨hx, hb, hml, hown, hts⟩ (c_X7_many l D cI cZ cII mo m7 m0 m1 m2 m3 m4 m5 m6 m8 m9 m10 m11 m12 m13 m14 m15 m16 m17 m18 m19 aa m21 st 3 hB_st (by omega)) (cwV 1 hts gX7_now_X7_many rfl rfl rfl (by decide +kernel) (by rw [hRf, hRl]; exact ⟨Nat.le_of_ble_eq_true rfl, Nat.le_of_ble_eq_true rfl⟩)) hK hP hD hS hA hN [0, 2] [1, 3, 4, 5] [4, 0, 5, 1, 2, 3] 0 7 rfl rfl rfl rfl rfl rfl (by decide) rfl (fun u => rfl) rfl hl.1 rfl (Nat.le_of_ble_eq_true rfl) dX7_now_133 ⟨Nat.zero_le _, Nat.zero_le _⟩ (fun z u H locs hw hP hD hS => ?_)
      have hP : va_P D vwCl [(mo, .inr (7, [.ref m0, .ref m1, .ref m2, .ref m3, .ref m4, .ref m5, .ref m6, .ref m7, .ref m8, .ref m9, .ref m10, .ref m11, .ref m12, .ref m13, .ref m14, .ref m15, .ref m16, .ref m17, .ref m18, .ref m19, .int (iI aa), .ref m21])), (m6, .inl (cI, 8, .inl (ia ru))), (m7, .inl (cI, 12, .inl (ia st))), (m11, .inl (cI, 200, .inl (ia km))), (m13, .inl (cI, 200, .inl (ia am))), (m14, .inl (cI, 2, .inl (ia hp)))] H := hP
      have hD : va_D A [(mo, .inr (7, [.ref m0, .ref m1, .ref m2, .ref m3, .ref m4, .ref m5, .ref m6, .ref m7, .ref m8, .ref m9, .ref m10, .ref m11, .ref m12, .ref m13, .ref m14, .ref m15, .ref m16, .ref m17, .ref m18, .ref m19, .int (iI aa), .ref m21])), (m6, .inl (cI, 8, .inl (ia ru))), (m7, .inl (cI, 12, .inl (ia st))), (m11, .inl (cI, 200, .inl (ia km))), (m13, .inl (cI, 200, .inl (ia am))), (m14, .inl (cI, 2, .inl (ia hp)))] := hD
      obtain ⟨z_5, ez⟩ : ∃ y : Int, y = z := ⟨_, rfl⟩
      rw [← ez] at hw ⊢
      clear ez
      have w133 : z_5 = (cnt st (3 : Int)) := hw
      clear hw
      subst w133
      rw [hQ]
      refine q_retI () hx hb hr hlocks hK hP hD hS dX7_now_136 ?_
      unfold figF
      first | (rw [cK]; rfl) | (rw [cK, if_neg (by omega), if_neg (by omega), if_neg (by omega), if_neg (by omega), if_neg (by omega), if_neg (by omega), if_neg (by omega), if_neg (by omega), if_neg (by omega), if_neg (by omega), if_neg (by omega), if_pos rfl]; first | rw [if_pos (by omega)] | rw [if_neg (by omega)]) | (rw [if_neg (by omega), if_neg (by omega), if_neg (by omega), if_neg (by omega), if_neg (by omega), if_neg (by omega), if_neg (by omega), if_neg (by omega), if_neg (by omega), if_neg (by omega), if_neg (by omega), if_neg (by omega), if_neg (by omega)])
    ·
      refine lv_tableIn (tgt := 137) hx hb dX7_now_1 (by rw [hsw]; omega) (by rw [hsw]; omega) (by rw [hsw, cK]; rfl) (by decide) ?_
      refine lv_aload_n hx hb dX7_now_137 rfl (lv_at hl 0 rfl) ?_
      refine va_get (D := D) (ci := 7) (v := .ref m6) (C := RX7) (T := TX7) (N := 22) hx hb hts in_X7_now_X7 hown hK hP 0 rfl rfl 6 (by decide) (hts _ lk_X7_now_1) (fun _ h9 => h9) rfl dX7_now_138 ?_
      refine lv_bipush (v := iI 6) hx hb dX7_now_141 (by decide +kernel) ?_
      refine q_iald hx hb hK hP 1 0 rfl rfl (by omega) (by omega) (by decide) dX7_now_143 ?_
      refine q_if_ge (tgt := 151) hx hb dX7_now_144 (by decide) ⟨by omega, by omega⟩ (fun c144 => ?_) (fun c144 => ?_)
      ·
        refine lv_aload_n hx hb dX7_now_151 rfl (lv_at hl 0 rfl) ?_
        refine va_get (D := D) (ci := 7) (v := .ref m6) (C := RX7) (T := TX7) (N := 22) hx hb hts in_X7_now_X7 hown hK hP 0 rfl rfl 6 (by decide) (hts _ lk_X7_now_1) (fun _ h9 => h9) rfl dX7_now_152 ?_
        refine lv_iconst (v := iI 0) hx hb dX7_now_155 rfl ?_
        refine q_iald hx hb hK hP 1 0 rfl rfl (by omega) (by omega) (by decide) dX7_now_156 ?_
        refine lv_aload_n hx hb dX7_now_157 rfl (lv_at hl 0 rfl) ?_
        refine va_get (D := D) (ci := 7) (v := .ref m6) (C := RX7) (T := TX7) (N := 22) hx hb hts in_X7_now_X7 hown hK hP 0 rfl rfl 6 (by decide) (hts _ lk_X7_now_1) (fun _ h9 => h9) rfl dX7_now_158 ?_
        refine lv_bipush (v := iI 6) hx hb dX7_now_161 (by decide +kernel) ?_
        refine q_iald hx hb hK hP 1 0 rfl rfl (by omega) (by omega) (by decide) dX7_now_163 ?_
        refine q_isub hx hb dX7_now_164 ?_
        rw [hQ]
        refine q_retI () hx hb hr hlocks hK hP hD hS dX7_now_165 ?_
        unfold figF
        first | (rw [cK]; rfl) | (rw [cK, if_neg (by omega), if_neg (by omega), if_neg (by omega), if_neg (by omega), if_neg (by omega), if_neg (by omega), if_neg (by omega), if_neg (by omega), if_neg (by omega), if_neg (by omega), if_neg (by omega), if_pos rfl]; first | rw [if_pos (by omega)] | rw [if_neg (by omega)]) | (rw [if_neg (by omega), if_neg (by omega), if_neg (by omega), if_neg (by omega), if_neg (by omega), if_neg (by omega), if_neg (by omega), if_neg (by omega), if_neg (by omega), if_neg (by omega), if_neg (by omega), if_neg (by omega), if_neg (by omega)])
      ·
        refine lv_iconst (v := iI (-1)) hx hb dX7_now_147 rfl ?_
        refine lv_goto (tgt := 165) hx hb dX7_now_148 (by decide) ?_
        rw [hQ]
        refine q_retI () hx hb hr hlocks hK hP hD hS dX7_now_165 ?_
        unfold figF
        first | (rw [cK]; rfl) | (rw [cK, if_neg (by omega), if_neg (by omega), if_neg (by omega), if_neg (by omega), if_neg (by omega), if_neg (by omega), if_neg (by omega), if_neg (by omega), if_neg (by omega), if_neg (by omega), if_neg (by omega), if_pos rfl]; first | rw [if_pos (by omega)] | rw [if_neg (by omega)]) | (rw [if_neg (by omega), if_neg (by omega), if_neg (by omega), if_neg (by omega), if_neg (by omega), if_neg (by omega), if_neg (by omega), if_neg (by omega), if_neg (by omega), if_neg (by omega), if_neg (by omega), if_neg (by omega), if_neg (by omega)])
    ·
      refine lv_tableIn (tgt := 166) hx hb dX7_now_1 (by rw [hsw]; omega) (by rw [hsw]; omega) (by rw [hsw, cK]; rfl) (by decide) ?_
      refine lv_aload_n hx hb dX7_now_166 rfl (lv_at hl 0 rfl) ?_
      refine va_get (D := D) (ci := 7) (v := .ref m6) (C := RX7) (T := TX7) (N := 22) hx hb hts in_X7_now_X7 hown hK hP 0 rfl rfl 6 (by decide) (hts _ lk_X7_now_1) (fun _ h9 => h9) rfl dX7_now_167 ?_
      refine lv_bipush (v := iI 7) hx hb dX7_now_170 (by decide +kernel) ?_
      refine q_iald hx hb hK hP 1 0 rfl rfl (by omega) (by omega) (by decide) dX7_now_172 ?_
      rw [hQ]
      refine q_retI () hx hb hr hlocks hK hP hD hS dX7_now_173 ?_
      unfold figF
      first | (rw [cK]; rfl) | (rw [cK, if_neg (by omega), if_neg (by omega), if_neg (by omega), if_neg (by omega), if_neg (by omega), if_neg (by omega), if_neg (by omega), if_neg (by omega), if_neg (by omega), if_neg (by omega), if_neg (by omega), if_pos rfl]; first | rw [if_pos (by omega)] | rw [if_neg (by omega)]) | (rw [if_neg (by omega), if_neg (by omega), if_neg (by omega), if_neg (by omega), if_neg (by omega), if_neg (by omega), if_neg (by omega), if_neg (by omega), if_neg (by omega), if_neg (by omega), if_neg (by omega), if_neg (by omega), if_neg (by omega)])

theorem in_X7_was_X7 : ∀ w ∈ wsX70, w ∈ wsX7_was := fun _ h => List.mem_cons_of_mem _ (List.mem_append_right _ h)
theorem lk_X7_was_1 : Cond.constantLong RX7 156 (5) ∈ wsX7_was := List.mem_of_getElem? (i := 1) rfl
theorem lk_X7_was_2 : Cond.fieldLink RX7 29 "MoreHandsModel" "run" "[I" ∈ wsX7_was := List.mem_of_getElem? (i := 2) rfl
theorem lk_X7_was_3 : Cond.fieldLink RX7 59 "MoreHandsModel" "was" "[I" ∈ wsX7_was := List.mem_of_getElem? (i := 3) rfl
set_option maxHeartbeats 4000000 in
set_option maxRecDepth 100000 in
theorem c_X7_was (l : Launch) (D : va_G) (cI cZ cII : ClassId) (mo : Nat) (m16 : Nat) (m6 : Nat) (m0 : Nat) (m1 : Nat) (m2 : Nat) (m3 : Nat) (m4 : Nat) (m5 : Nat) (m7 : Nat) (m8 : Nat) (m9 : Nat) (m10 : Nat) (m11 : Nat) (m12 : Nat) (m13 : Nat) (m14 : Nat) (m15 : Nat) (m17 : Nat) (m18 : Nat) (m19 : Nat) (aa : Int) (m21 : Nat) (ws : Int → Int) (ru : Int → Int) (t : Int) (k : Int) (hp_t : IR t) (hp_k : IR k) (hr0 : 0 ≤ ru 0 ∧ ru 0 ≤ 200) : CtI l yX7_was wsX7_was 2 45 D (ty3 cI cZ cII) [.ref mo, .int (iI t), .int (iI k)] [(mo, .inr (7, [.ref m0, .ref m1, .ref m2, .ref m3, .ref m4, .ref m5, .ref m6, .ref m7, .ref m8, .ref m9, .ref m10, .ref m11, .ref m12, .ref m13, .ref m14, .ref m15, .ref m16, .ref m17, .ref m18, .ref m19, .int (iI aa), .ref m21])), (m16, .inl (cI, 1200, .inl (ia ws))), (m6, .inl (cI, 8, .inl (ia ru)))] (fun z (u : Unit) => z = (waZ ws (ru 0) t k)) (fun u => [(mo, .inr (7, [.ref m0, .ref m1, .ref m2, .ref m3, .ref m4, .ref m5, .ref m6, .ref m7, .ref m8, .ref m9, .ref m10, .ref m11, .ref m12, .ref m13, .ref m14, .ref m15, .ref m16, .ref m17, .ref m18, .ref m19, .int (iI aa), .ref m21])), (m16, .inl (cI, 1200, .inl (ia ws))), (m6, .inl (cI, 8, .inl (ia ru)))]) := by
  refine CtI.mk (cc := cX7_was) (maxL := 3) (ret := (some .int)) (by decide) rfl (Nat.le_of_ble_eq_true rfl) ?_
  intro p e s m below meth c A ls R args Q hx hb hml hr hts hown hlocks hA hK hP hD hN hS hl hRf hRl hQ
  have hl : lv_has ls 3 [(0, .ref mo), (1, .int (iI t)), (2, .int (iI k))] := hl
  have hown : s.vm.findClass RX7 = some m.cls := hown
  refine lv_iload_n hx hb dX7_was_0 rfl (lv_at hl 1 rfl) ?_
  refine q_callSI (wr := [(mo, .inr (7, [.ref m0, .ref m1, .ref m2, .ref m3, .ref m4, .ref m5, .ref m6, .ref m7, .ref m8, .ref m9, .ref m10, .ref m11, .ref m12, .ref m13, .ref m14, .ref m15, .ref m16, .ref m17, .ref m18, .ref m19, .int (iI aa), .ref m21])), (m16, .inl (cI, 1200, .inl (ia ws))), (m6, .inl (cI, 8, .inl (ia ru)))]) (wn := fun (u : Unit) => [(mo, .inr (7, [.ref m0, .ref m1, .ref m2, .ref m3, .ref m4, .ref m5, .ref m6, .ref m7, .ref m8, .ref m9, .ref m10, .ref m11, .ref m12, .ref m13, .ref m14, .ref m15, .ref m16, .ref m17, .ref m18, .ref m19, .int (iI aa), .ref m21])), (m16, .inl (cI, 1200, .inl (ia ws))), (m6, .inl (cI, 8, .inl (ia ru)))]) (rest := []) [.int (iI t)] ⟨hx, hb, hml, hown, hts⟩ (c_X7_isTick l D cI cZ cII t ⟨by omega, by omega⟩) (va_cwS 1 hts gX7_was_X7_isTick rfl rfl rfl (by decide +kernel) (by rw [hRf, hRl]; exact ⟨Nat.le_of_ble_eq_true rfl, Nat.le_of_ble_eq_true rfl⟩)) hK hP hD hS hA hN [] [0, 1, 2] [0, 1, 2] rfl rfl rfl rfl (by decide) rfl (fun u => rfl) rfl hl.1 rfl (Nat.le_of_ble_eq_true rfl) dX7_was_1 ⟨Nat.zero_le _, Nat.zero_le _⟩ (fun z u H locs hw hP hD hS => ?_)
  have hP : va_P D vwCl [(mo, .inr (7, [.ref m0, .ref m1, .ref m2, .ref m3, .ref m4, .ref m5, .ref m6, .ref m7, .ref m8, .ref m9, .ref m10, .ref m11, .ref m12, .ref m13, .ref m14, .ref m15, .ref m16, .ref m17, .ref m18, .ref m19, .int (iI aa), .ref m21])), (m16, .inl (cI, 1200, .inl (ia ws))), (m6, .inl (cI, 8, .inl (ia ru)))] H := hP
  have hD : va_D A [(mo, .inr (7, [.ref m0, .ref m1, .ref m2, .ref m3, .ref m4, .ref m5, .ref m6, .ref m7, .ref m8, .ref m9, .ref m10, .ref m11, .ref m12, .ref m13, .ref m14, .ref m15, .ref m16, .ref m17, .ref m18, .ref m19, .int (iI aa), .ref m21])), (m16, .inl (cI, 1200, .inl (ia ws))), (m6, .inl (cI, 8, .inl (ia ru)))] := hD
  obtain ⟨z_1, ez⟩ : ∃ y : Int, y = z := ⟨_, rfl⟩
  rw [← ez] at hw ⊢
  clear ez
  rcases hw with ⟨rfl, w1⟩ | ⟨rfl, w1⟩
  ·
    refine q_if_eq (tgt := 19) hx hb dX7_was_4 (by decide) ⟨by decide, by decide⟩ (fun h => absurd h (by decide)) (fun _ => ?_)
    refine lv_iload_n hx hb dX7_was_7 rfl (lv_at hl 2 rfl) ?_
    refine lv_i2l (v := lI k) hx hb dX7_was_8 (iI_long ⟨by omega, by omega⟩) ?_
    refine lv_lconst (v := lI 0) hx hb dX7_was_9 (by decide +kernel) ?_
    refine lv_ldc2 (v := lI 5) hx hb hown (hts _ lk_X7_was_1) dX7_was_10 ?_
    refine q_callSI (wr := [(mo, .inr (7, [.ref m0, .ref m1, .ref m2, .ref m3, .ref m4, .ref m5, .ref m6, .ref m7, .ref m8, .ref m9, .ref m10, .ref m11, .ref m12, .ref m13, .ref m14, .ref m15, .ref m16, .ref m17, .ref m18, .ref m19, .int (iI aa), .ref m21])), (m16, .inl (cI, 1200, .inl (ia ws))), (m6, .inl (cI, 8, .inl (ia ru)))]) (wn := fun (u : Unit) => [(mo, .inr (7, [.ref m0, .ref m1, .ref m2, .ref m3, .ref m4, .ref m5, .ref m6, .ref m7, .ref m8, .ref m9, .ref m10, .ref m11, .ref m12, .ref m13, .ref m14, .ref m15, .ref m16, .ref m17, .ref m18, .ref m19, .int (iI aa), .ref m21])), (m16, .inl (cI, 1200, .inl (ia ws))), (m6, .inl (cI, 8, .inl (ia ru)))]) (rest := []) [.long (lI k), .long (lI 0), .long (lI 5)] ⟨hx, hb, hml, hown, hts⟩ (c_X7_in l D cI cZ cII k 0 5 ⟨by omega, by omega⟩ ⟨by omega, by omega⟩ ⟨by omega, by omega⟩) (va_cwS 3 hts gX7_was_X7_in rfl rfl rfl (by decide +kernel) (by rw [hRf, hRl]; exact ⟨Nat.le_of_ble_eq_true rfl, Nat.le_of_ble_eq_true rfl⟩)) hK hP hD hS hA hN [] [0, 1, 2] [0, 1, 2] rfl rfl rfl rfl (by decide) rfl (fun u => rfl) rfl hl.1 rfl (Nat.le_of_ble_eq_true rfl) dX7_was_13 ⟨Nat.zero_le _, Nat.zero_le _⟩ (fun z u H locs hw hP hD hS => ?_)
    have hP : va_P D vwCl [(mo, .inr (7, [.ref m0, .ref m1, .ref m2, .ref m3, .ref m4, .ref m5, .ref m6, .ref m7, .ref m8, .ref m9, .ref m10, .ref m11, .ref m12, .ref m13, .ref m14, .ref m15, .ref m16, .ref m17, .ref m18, .ref m19, .int (iI aa), .ref m21])), (m16, .inl (cI, 1200, .inl (ia ws))), (m6, .inl (cI, 8, .inl (ia ru)))] H := hP
    have hD : va_D A [(mo, .inr (7, [.ref m0, .ref m1, .ref m2, .ref m3, .ref m4, .ref m5, .ref m6, .ref m7, .ref m8, .ref m9, .ref m10, .ref m11, .ref m12, .ref m13, .ref m14, .ref m15, .ref m16, .ref m17, .ref m18, .ref m19, .int (iI aa), .ref m21])), (m16, .inl (cI, 1200, .inl (ia ws))), (m6, .inl (cI, 8, .inl (ia ru)))] := hD
    obtain ⟨z_2, ez⟩ : ∃ y : Int, y = z := ⟨_, rfl⟩
    rw [← ez] at hw ⊢
    clear ez
    rcases hw with ⟨rfl, w13⟩ | ⟨rfl, w13⟩
    ·
      refine q_if_ne (tgt := 23) hx hb dX7_was_16 (by decide) ⟨by decide, by decide⟩ (fun _ => ?_) (fun h => absurd h (by decide))
      refine lv_iload_n hx hb dX7_was_23 rfl (lv_at hl 1 rfl) ?_
      refine lv_aload_n hx hb dX7_was_24 rfl (lv_at hl 0 rfl) ?_
      refine va_get (D := D) (ci := 7) (v := .ref m6) (C := RX7) (T := TX7) (N := 22) hx hb hts in_X7_was_X7 hown hK hP 0 rfl rfl 6 (by decide) (hts _ lk_X7_was_2) (fun _ h9 => h9) rfl dX7_was_25 ?_
      refine lv_iconst (v := iI 0) hx hb dX7_was_28 rfl ?_
      refine q_iald hx hb hK hP 2 0 rfl rfl (by omega) (by omega) (by decide) dX7_was_29 ?_
      refine q_icmp_ge (tgt := 47) hx hb dX7_was_30 (by decide) ⟨by omega, by omega⟩ ⟨by omega, by omega⟩ (fun c30 => ?_) (fun c30 => ?_)
      ·
        refine lv_sipush (v := iI (-1003)) hx hb dX7_was_47 (by decide +kernel) ?_
        rw [hQ]
        refine q_retI () hx hb hr hlocks hK hP hD hS dX7_was_50 ?_
        unfold waZ
        first | rw [if_neg (by omega)] | rw [if_pos (by omega), if_pos (by omega)] | rw [if_pos (by omega), if_neg (by omega)]
      ·
        refine lv_aload_n hx hb dX7_was_33 rfl (lv_at hl 0 rfl) ?_
        refine va_get (D := D) (ci := 7) (v := .ref m16) (C := RX7) (T := TX7) (N := 22) hx hb hts in_X7_was_X7 hown hK hP 0 rfl rfl 16 (by decide) (hts _ lk_X7_was_3) (fun _ h9 => h9) rfl dX7_was_34 ?_
        refine lv_bipush (v := iI 6) hx hb dX7_was_37 (by decide +kernel) ?_
        refine lv_iload_n hx hb dX7_was_39 rfl (lv_at hl 1 rfl) ?_
        refine q_imul hx hb dX7_was_40 ?_
        refine lv_iload_n hx hb dX7_was_41 rfl (lv_at hl 2 rfl) ?_
        refine q_iadd hx hb dX7_was_42 ?_
        refine q_iald hx hb hK hP 1 0 rfl rfl (by omega) (by omega) (by decide) dX7_was_43 ?_
        refine lv_goto (tgt := 50) hx hb dX7_was_44 (by decide) ?_
        rw [hQ]
        refine q_retI () hx hb hr hlocks hK hP hD hS dX7_was_50 ?_
        unfold waZ
        first | rw [if_neg (by omega)] | rw [if_pos (by omega), if_pos (by omega)] | rw [if_pos (by omega), if_neg (by omega)]
    ·
      refine q_if_ne (tgt := 23) hx hb dX7_was_16 (by decide) ⟨by decide, by decide⟩ (fun h => absurd h (by decide)) (fun _ => ?_)
      refine lv_sipush (v := iI (-1002)) hx hb dX7_was_19 (by decide +kernel) ?_
      rw [hQ]
      refine q_retI () hx hb hr hlocks hK hP hD hS dX7_was_22 ?_
      unfold waZ
      first | rw [if_neg (by omega)] | rw [if_pos (by omega), if_pos (by omega)] | rw [if_pos (by omega), if_neg (by omega)]
  ·
    refine q_if_eq (tgt := 19) hx hb dX7_was_4 (by decide) ⟨by decide, by decide⟩ (fun _ => ?_) (fun h => absurd h (by decide))
    refine lv_sipush (v := iI (-1002)) hx hb dX7_was_19 (by decide +kernel) ?_
    rw [hQ]
    refine q_retI () hx hb hr hlocks hK hP hD hS dX7_was_22 ?_
    unfold waZ
    first | rw [if_neg (by omega)] | rw [if_pos (by omega), if_pos (by omega)] | rw [if_pos (by omega), if_neg (by omega)]

theorem in_X7_latest_X7 : ∀ w ∈ wsX70, w ∈ wsX7_latest := fun _ h => List.mem_cons_of_mem _ (List.mem_append_right _ h)
theorem lk_X7_latest_1 : Cond.fieldLink RX7 19 "MoreHandsModel" "loads" "[I" ∈ wsX7_latest := List.mem_of_getElem? (i := 1) rfl
set_option maxHeartbeats 4000000 in
set_option maxRecDepth 100000 in
theorem c_X7_latest (l : Launch) (D : va_G) (cI cZ cII : ClassId) (mo : Nat) (m3 : Nat) (m0 : Nat) (m1 : Nat) (m2 : Nat) (m4 : Nat) (m5 : Nat) (m6 : Nat) (m7 : Nat) (m8 : Nat) (m9 : Nat) (m10 : Nat) (m11 : Nat) (m12 : Nat) (m13 : Nat) (m14 : Nat) (m15 : Nat) (m16 : Nat) (m17 : Nat) (m18 : Nat) (m19 : Nat) (aa : Int) (m21 : Nat) (ld : Int → Int) (tn : Int) (tk0 : Int) (hB_ld : BB 0 60 ld) (hp_tn : 0 ≤ tn ∧ tn ≤ 199) (hp_tk0 : 0 ≤ tk0 ∧ tk0 ≤ 10) : CtI l yX7_latest wsX7_latest 0 0 D (ty3 cI cZ cII) [.ref mo, .int (iI tn), .int (iI tk0)] [(mo, .inr (7, [.ref m0, .ref m1, .ref m2, .ref m3, .ref m4, .ref m5, .ref m6, .ref m7, .ref m8, .ref m9, .ref m10, .ref m11, .ref m12, .ref m13, .ref m14, .ref m15, .ref m16, .ref m17, .ref m18, .ref m19, .int (iI aa), .ref m21])), (m3, .inl (cI, 200, .inl (ia ld)))] (fun z (u : Unit) => z = (sI ld (tn + 1) - sI ld (tn - tk0 + 1))) (fun u => [(mo, .inr (7, [.ref m0, .ref m1, .ref m2, .ref m3, .ref m4, .ref m5, .ref m6, .ref m7, .ref m8, .ref m9, .ref m10, .ref m11, .ref m12, .ref m13, .ref m14, .ref m15, .ref m16, .ref m17, .ref m18, .ref m19, .int (iI aa), .ref m21])), (m3, .inl (cI, 200, .inl (ia ld)))]) := by
  refine CtI.mk (cc := cX7_latest) (maxL := 5) (ret := (some .int)) (by decide) rfl (Nat.le_of_ble_eq_true rfl) ?_
  intro p e s m below meth c A ls R args Q hx hb hml hr hts hown hlocks hA hK hP hD hN hS hl hRf hRl hQ
  have hl : lv_has ls 5 [(0, .ref mo), (1, .int (iI tn)), (2, .int (iI tk0))] := hl
  have hown : s.vm.findClass RX7 = some m.cls := hown
  refine lv_iconst (v := iI 0) hx hb dX7_latest_0 rfl ?_
  refine lv_istore_n (lv' := [(3, .int (iI 0)), (0, .ref mo), (1, .int (iI tn)), (2, .int (iI tk0))]) hx hb dX7_latest_1 rfl hl (by decide) rfl (fun ls hl => ?_)
  refine lv_iload_n hx hb dX7_latest_2 rfl (lv_at hl 2 rfl) ?_
  refine lv_istore (lv' := [(4, .int (iI tn)), (3, .int (iI 0)), (0, .ref mo), (1, .int (iI tn)), (2, .int (iI tk0))]) hx hb dX7_latest_3 hl (by decide) rfl (fun ls hl => ?_)
  have L5_0 : ∀ (n : Nat), ∀ (su : Int) (t : Int), (hk : tn - tk0 ≤ t ∧ -1 ≤ t ∧ t ≤ tn) → (hs : su = sI ld (tn + 1) - sI ld (t + 1)) → (t + 1) < (n : Int) → ∀ (H : Heap) (locs : List Loc), va_P D vwCl [(mo, .inr (7, [.ref m0, .ref m1, .ref m2, .ref m3, .ref m4, .ref m5, .ref m6, .ref m7, .ref m8, .ref m9, .ref m10, .ref m11, .ref m12, .ref m13, .ref m14, .ref m15, .ref m16, .ref m17, .ref m18, .ref m19, .int (iI aa), .ref m21])), (m3, .inl (cI, 200, .inl (ia ld)))] H → va_D A [(mo, .inr (7, [.ref m0, .ref m1, .ref m2, .ref m3, .ref m4, .ref m5, .ref m6, .ref m7, .ref m8, .ref m9, .ref m10, .ref m11, .ref m12, .ref m13, .ref m14, .ref m15, .ref m16, .ref m17, .ref m18, .ref m19, .int (iI aa), .ref m21])), (m3, .inl (cI, 200, .inl (ia ld)))] → va_S A s.heap H locs → ∀ ls : Array Slot, lv_has ls 5 [(0, .ref mo), (1, .int (iI tn)), (2, .int (iI tk0)), (3, .int (iI su)), (4, .int (iI t))] → W p l e R s m args below meth c H locs 0 0 Q (F0 m 5 ls []) := by
    intro n
    induction n with
    | zero => intro su t hk hs hm; exact absurd hm (by omega)
    | succ n ih =>
      intro su t hk hs hm H locs hP hD hS ls hl
      refine lv_iload hx hb dX7_latest_5 (lv_at hl 4 rfl) ?_
      refine lv_iload_n hx hb dX7_latest_7 rfl (lv_at hl 1 rfl) ?_
      refine lv_iload_n hx hb dX7_latest_8 rfl (lv_at hl 2 rfl) ?_
      refine q_isub hx hb dX7_latest_9 ?_
      refine q_icmp_le (tgt := 34) hx hb dX7_latest_10 (by decide) ⟨by omega, by omega⟩ ⟨by omega, by omega⟩ (fun c10 => ?_) (fun c10 => ?_)
      ·
        refine lv_iload_n hx hb dX7_latest_34 rfl (lv_at hl 3 rfl) ?_
        rw [hQ]
        refine q_retI () hx hb hr hlocks hK hP hD hS dX7_latest_35 ?_
        rw [hs]
        first | (rw [show t = tn - tk0 by omega]) | (rw [sI_neg ld (show t + 1 ≤ 0 by omega), sI_neg ld (show tn - tk0 + 1 ≤ 0 by omega)])
      ·
        refine lv_iload hx hb dX7_latest_13 (lv_at hl 4 rfl) ?_
        refine q_if_lt (tgt := 34) hx hb dX7_latest_15 (by decide) ⟨by omega, by omega⟩ (fun c15 => ?_) (fun c15 => ?_)
        ·
          refine lv_iload_n hx hb dX7_latest_34 rfl (lv_at hl 3 rfl) ?_
          rw [hQ]
          refine q_retI () hx hb hr hlocks hK hP hD hS dX7_latest_35 ?_
          rw [hs]
          first | (rw [show t = tn - tk0 by omega]) | (rw [sI_neg ld (show t + 1 ≤ 0 by omega), sI_neg ld (show tn - tk0 + 1 ≤ 0 by omega)])
        ·
          refine lv_iload_n hx hb dX7_latest_18 rfl (lv_at hl 3 rfl) ?_
          refine lv_aload_n hx hb dX7_latest_19 rfl (lv_at hl 0 rfl) ?_
          refine va_get (D := D) (ci := 7) (v := .ref m3) (C := RX7) (T := TX7) (N := 22) hx hb hts in_X7_latest_X7 hown hK hP 0 rfl rfl 3 (by decide) (hts _ lk_X7_latest_1) (fun _ h9 => h9) rfl dX7_latest_20 ?_
          refine lv_iload hx hb dX7_latest_23 (lv_at hl 4 rfl) ?_
          refine q_iald hx hb hK hP 1 0 rfl rfl (by omega) (by omega) (by decide) dX7_latest_25 ?_
          have hb25 := hB_ld t
          refine q_iadd hx hb dX7_latest_26 ?_
          refine lv_istore_n (lv' := [(3, .int (iI (su + (ld t)))), (0, .ref mo), (1, .int (iI tn)), (2, .int (iI tk0)), (4, .int (iI t))]) hx hb dX7_latest_27 rfl hl (by decide) rfl (fun ls hl => ?_)
          refine q_iinc (k := 4) (lv' := [(4, .int (iI (t + (-1)))), (3, .int (iI (su + (ld t)))), (0, .ref mo), (1, .int (iI tn)), (2, .int (iI tk0))]) hx hb dX7_latest_28 hl rfl (by decide) rfl (fun ls hl => ?_)
          refine lv_goto (tgt := 5) hx hb dX7_latest_31 (by decide) ?_
          exact ih  (su + (ld t)) (t + (-1)) (by omega) (by rw [show t + -1 + 1 = t by omega]; have q := sI_s ld (k := t) (by omega); omega) (by omega) _ _ hP hD hS _ (lv_sub hl [2, 3, 4, 1, 0] rfl)
  exact L5_0 1000 0 tn (by omega) (by omega) (by omega) _ _ hP hD hS _ (lv_sub hl [2, 3, 4, 1, 0] rfl)

theorem in_X7_digest_X7 : ∀ w ∈ wsX70, w ∈ wsX7_digest := fun _ h => List.mem_cons_of_mem _ (List.mem_append_right _ h)
theorem lk_X7_digest_1 : Cond.fieldLink RX7 32 "MoreHandsModel" "states" "[I" ∈ wsX7_digest := List.mem_of_getElem? (i := 1) rfl
set_option maxHeartbeats 4000000 in
set_option maxRecDepth 100000 in
theorem c_X7_digest (l : Launch) (D : va_G) (cI cZ cII : ClassId) (mo : Nat) (m6 : Nat) (m7 : Nat) (m11 : Nat) (m13 : Nat) (m14 : Nat) (m0 : Nat) (m1 : Nat) (m2 : Nat) (m3 : Nat) (m4 : Nat) (m5 : Nat) (m8 : Nat) (m9 : Nat) (m10 : Nat) (m12 : Nat) (m15 : Nat) (m16 : Nat) (m17 : Nat) (m18 : Nat) (m19 : Nat) (aa : Int) (m21 : Nat) (ru : Int → Int) (st : Int → Int) (km : Int → Int) (am : Int → Int) (hp : Int → Int) (hB_st : BB 0 3 st) (hB_km : BB 0 60 km) (hB_am : BB 0 60 am) (hhp : 0 ≤ hp 0 ∧ hp 0 ≤ 200) (hhq : 0 ≤ hp 1 ∧ hp 1 ≤ 200) (hr6 : -1 ≤ ru 6 ∧ ru 6 ≤ 200) : CtI l yX7_digest wsX7_digest 3 64 D (ty3 cI cZ cII) [.ref mo] [(mo, .inr (7, [.ref m0, .ref m1, .ref m2, .ref m3, .ref m4, .ref m5, .ref m6, .ref m7, .ref m8, .ref m9, .ref m10, .ref m11, .ref m12, .ref m13, .ref m14, .ref m15, .ref m16, .ref m17, .ref m18, .ref m19, .int (iI aa), .ref m21])), (m6, .inl (cI, 8, .inl (ia ru))), (m7, .inl (cI, 12, .inl (ia st))), (m11, .inl (cI, 200, .inl (ia km))), (m13, .inl (cI, 200, .inl (ia am))), (m14, .inl (cI, 2, .inl (ia hp)))] (fun z (u : Unit) => z = (dgI st 12 0 (dgI (figF st (ru 0) (sI km (hp 0)) (sI am (hp 1)) (ru 1) (ru 2) (ru 3) (ru 4) (ru 5) (ru 6) (ru 7)) 13 0 7))) (fun u => [(mo, .inr (7, [.ref m0, .ref m1, .ref m2, .ref m3, .ref m4, .ref m5, .ref m6, .ref m7, .ref m8, .ref m9, .ref m10, .ref m11, .ref m12, .ref m13, .ref m14, .ref m15, .ref m16, .ref m17, .ref m18, .ref m19, .int (iI aa), .ref m21])), (m6, .inl (cI, 8, .inl (ia ru))), (m7, .inl (cI, 12, .inl (ia st))), (m11, .inl (cI, 200, .inl (ia km))), (m13, .inl (cI, 200, .inl (ia am))), (m14, .inl (cI, 2, .inl (ia hp)))]) := by
  refine CtI.mk (cc := cX7_digest) (maxL := 3) (ret := (some .int)) (by decide) rfl (Nat.le_of_ble_eq_true rfl) ?_
  intro p e s m below meth c A ls R args Q hx hb hml hr hts hown hlocks hA hK hP hD hN hS hl hRf hRl hQ
  have hl : lv_has ls 3 [(0, .ref mo)] := hl
  have hown : s.vm.findClass RX7 = some m.cls := hown
  refine lv_bipush (v := iI 7) hx hb dX7_digest_0 (by decide +kernel) ?_
  refine lv_istore_n (lv' := [(1, .int (iI 7)), (0, .ref mo)]) hx hb dX7_digest_2 rfl hl (by decide) rfl (fun ls hl => ?_)
  refine lv_iconst (v := iI 0) hx hb dX7_digest_3 rfl ?_
  refine lv_istore_n (lv' := [(2, .int (iI 0)), (1, .int (iI 7)), (0, .ref mo)]) hx hb dX7_digest_4 rfl hl (by decide) rfl (fun ls hl => ?_)
  have L5_0 : ∀ (n : Nat), ∀ (d : Int) (k : Int), (hk : 0 ≤ k ∧ k ≤ 13) → (hd : dgI (figF st (ru 0) (sI km (hp 0)) (sI am (hp 1)) (ru 1) (ru 2) (ru 3) (ru 4) (ru 5) (ru 6) (ru 7)) (13 - k).toNat k d = dgI (figF st (ru 0) (sI km (hp 0)) (sI am (hp 1)) (ru 1) (ru 2) (ru 3) (ru 4) (ru 5) (ru 6) (ru 7)) 13 0 7) → (13 - k) < (n : Int) → ∀ (H : Heap) (locs : List Loc), va_P D vwCl [(mo, .inr (7, [.ref m0, .ref m1, .ref m2, .ref m3, .ref m4, .ref m5, .ref m6, .ref m7, .ref m8, .ref m9, .ref m10, .ref m11, .ref m12, .ref m13, .ref m14, .ref m15, .ref m16, .ref m17, .ref m18, .ref m19, .int (iI aa), .ref m21])), (m6, .inl (cI, 8, .inl (ia ru))), (m7, .inl (cI, 12, .inl (ia st))), (m11, .inl (cI, 200, .inl (ia km))), (m13, .inl (cI, 200, .inl (ia am))), (m14, .inl (cI, 2, .inl (ia hp)))] H → va_D A [(mo, .inr (7, [.ref m0, .ref m1, .ref m2, .ref m3, .ref m4, .ref m5, .ref m6, .ref m7, .ref m8, .ref m9, .ref m10, .ref m11, .ref m12, .ref m13, .ref m14, .ref m15, .ref m16, .ref m17, .ref m18, .ref m19, .int (iI aa), .ref m21])), (m6, .inl (cI, 8, .inl (ia ru))), (m7, .inl (cI, 12, .inl (ia st))), (m11, .inl (cI, 200, .inl (ia km))), (m13, .inl (cI, 200, .inl (ia am))), (m14, .inl (cI, 2, .inl (ia hp)))] → va_S A s.heap H locs → ∀ ls : Array Slot, lv_has ls 3 [(0, .ref mo), (1, .int (iI d)), (2, .int (iI k))] → W p l e R s m args below meth c H locs 0 0 Q (F0 m 5 ls []) := by
    intro n
    induction n with
    | zero => intro d k hk hd hm; exact absurd hm (by omega)
    | succ n ih =>
      intro d k hk hd hm H locs hP hD hS ls hl
      have hd0 := hd
      refine lv_iload_n hx hb dX7_digest_5 rfl (lv_at hl 2 rfl) ?_
      refine lv_bipush (v := iI 13) hx hb dX7_digest_6 (by decide +kernel) ?_
      refine q_icmp_ge (tgt := 28) hx hb dX7_digest_8 (by decide) ⟨by omega, by omega⟩ ⟨by decide, by decide⟩ (fun c8 => ?_) (fun c8 => ?_)
      ·
        refine lv_iconst (v := iI 0) hx hb dX7_digest_28 rfl ?_
        refine lv_istore_n (lv' := [(2, .int (iI 0)), (0, .ref mo), (1, .int (iI d))]) hx hb dX7_digest_29 rfl hl (by decide) rfl (fun ls hl => ?_)
        have L30_1 : ∀ (n : Nat), ∀ (d2 : Int) (k2 : Int), (hk2 : 0 ≤ k2 ∧ k2 ≤ 12) → (he : dgI st (12 - k2).toNat k2 d2 = dgI st 12 0 (dgI (figF st (ru 0) (sI km (hp 0)) (sI am (hp 1)) (ru 1) (ru 2) (ru 3) (ru 4) (ru 5) (ru 6) (ru 7)) 13 0 7)) → (12 - k2) < (n : Int) → ∀ (H : Heap) (locs : List Loc), va_P D vwCl [(mo, .inr (7, [.ref m0, .ref m1, .ref m2, .ref m3, .ref m4, .ref m5, .ref m6, .ref m7, .ref m8, .ref m9, .ref m10, .ref m11, .ref m12, .ref m13, .ref m14, .ref m15, .ref m16, .ref m17, .ref m18, .ref m19, .int (iI aa), .ref m21])), (m6, .inl (cI, 8, .inl (ia ru))), (m7, .inl (cI, 12, .inl (ia st))), (m11, .inl (cI, 200, .inl (ia km))), (m13, .inl (cI, 200, .inl (ia am))), (m14, .inl (cI, 2, .inl (ia hp)))] H → va_D A [(mo, .inr (7, [.ref m0, .ref m1, .ref m2, .ref m3, .ref m4, .ref m5, .ref m6, .ref m7, .ref m8, .ref m9, .ref m10, .ref m11, .ref m12, .ref m13, .ref m14, .ref m15, .ref m16, .ref m17, .ref m18, .ref m19, .int (iI aa), .ref m21])), (m6, .inl (cI, 8, .inl (ia ru))), (m7, .inl (cI, 12, .inl (ia st))), (m11, .inl (cI, 200, .inl (ia km))), (m13, .inl (cI, 200, .inl (ia am))), (m14, .inl (cI, 2, .inl (ia hp)))] → va_S A s.heap H locs → ∀ ls : Array Slot, lv_has ls 3 [(0, .ref mo), (1, .int (iI d2)), (2, .int (iI k2))] → W p l e R s m args below meth c H locs 0 0 Q (F0 m 30 ls []) := by
          intro n
          induction n with
          | zero => intro d2 k2 hk2 he hm; exact absurd hm (by omega)
          | succ n ih =>
            intro d2 k2 hk2 he hm H locs hP hD hS ls hl
            have he0 := he
            refine lv_iload_n hx hb dX7_digest_30 rfl (lv_at hl 2 rfl) ?_
            refine lv_bipush (v := iI 12) hx hb dX7_digest_31 (by decide +kernel) ?_
            refine q_icmp_ge (tgt := 54) hx hb dX7_digest_33 (by decide) ⟨by omega, by omega⟩ ⟨by decide, by decide⟩ (fun c33 => ?_) (fun c33 => ?_)
            ·
              refine lv_iload_n hx hb dX7_digest_54 rfl (lv_at hl 1 rfl) ?_
              rw [hQ]
              refine q_retI () hx hb hr hlocks hK hP hD hS dX7_digest_55 ?_
              rw [← he0, show (12 - k2).toNat = 0 by omega]; rfl
            ·
              refine lv_bipush (v := iI 31) hx hb dX7_digest_36 (by decide +kernel) ?_
              refine lv_iload_n hx hb dX7_digest_38 rfl (lv_at hl 1 rfl) ?_
              refine q_imul hx hb dX7_digest_39 ?_
              refine lv_aload_n hx hb dX7_digest_40 rfl (lv_at hl 0 rfl) ?_
              refine va_get (D := D) (ci := 7) (v := .ref m7) (C := RX7) (T := TX7) (N := 22) hx hb hts in_X7_digest_X7 hown hK hP 0 rfl rfl 7 (by decide) (hts _ lk_X7_digest_1) (fun _ h9 => h9) rfl dX7_digest_41 ?_
              refine lv_iload_n hx hb dX7_digest_44 rfl (lv_at hl 2 rfl) ?_
              refine q_iald hx hb hK hP 2 0 rfl rfl (by omega) (by omega) (by decide) dX7_digest_45 ?_
              have hb45 := hB_st k2
              refine q_iadd hx hb dX7_digest_46 ?_
              refine lv_istore_n (lv' := [(1, .int (iI ((31 * d2) + (st k2)))), (0, .ref mo), (2, .int (iI k2))]) hx hb dX7_digest_47 rfl hl (by decide) rfl (fun ls hl => ?_)
              refine q_iinc (k := 2) (lv' := [(2, .int (iI (k2 + 1))), (1, .int (iI ((31 * d2) + (st k2)))), (0, .ref mo)]) hx hb dX7_digest_48 hl rfl (by decide) rfl (fun ls hl => ?_)
              refine lv_goto (tgt := 30) hx hb dX7_digest_51 (by decide) ?_
              exact ih  ((31 * d2) + (st k2)) (k2 + 1) (by omega) (by rw [← he0, dgI_s (k := k2) (d := d2) (by omega)]) (by omega) _ _ hP hD hS _ (lv_sub hl [2, 1, 0] rfl)
        exact L30_1 100 d 0 (by omega) (by rw [← hd0, show (13 - k).toNat = 0 by omega]; rfl) (by omega) _ _ hP hD hS _ (lv_sub hl [1, 2, 0] rfl)
      ·
        refine lv_bipush (v := iI 31) hx hb dX7_digest_11 (by decide +kernel) ?_
        refine lv_iload_n hx hb dX7_digest_13 rfl (lv_at hl 1 rfl) ?_
        refine q_imul hx hb dX7_digest_14 ?_
        refine lv_aload_n hx hb dX7_digest_15 rfl (lv_at hl 0 rfl) ?_
        refine lv_iload_n hx hb dX7_digest_16 rfl (lv_at hl 2 rfl) ?_
        refine q_callVI (wr := []) (wn := fun (u : Unit) => [(mo, .inr (7, [.ref m0, .ref m1, .ref m2, .ref m3, .ref m4, .ref m5, .ref m6, .ref m7, .ref m8, .ref m9, .ref m10, .ref m11, .ref m12, .ref m13, .ref m14, .ref m15, .ref m16, .ref m17, .ref m18, .ref m19, .int (iI aa), .ref m21])), (m6, .inl (cI, 8, .inl (ia ru))), (m7, .inl (cI, 12, .inl (ia st))), (m11, .inl (cI, 200, .inl (ia km))), (m13, .inl (cI, 200, .inl (ia am))), (m14, .inl (cI, 2, .inl (ia hp)))]) (rest := [.int (iI (31 * d))]) [.int (iI k)] ⟨hx, hb, hml, hown, hts⟩ (c_X7_now l D cI cZ cII mo m6 m7 m11 m13 m14 m0 m1 m2 m3 m4 m5 m8 m9 m10 m12 m15 m16 m17 m18 m19 aa m21 ru st km am hp k hB_st hB_km hB_am ⟨by omega, by omega⟩ (by omega) (by omega) (by omega)) (cwV 1 hts gX7_digest_X7_now rfl rfl rfl (by decide +kernel) (by rw [hRf, hRl]; exact ⟨Nat.le_of_ble_eq_true rfl, Nat.le_of_ble_eq_true rfl⟩)) hK hP hD hS hA hN [0, 1, 2, 3, 4, 5] [] [0, 1, 2, 3, 4, 5] 0 7 rfl rfl rfl rfl rfl rfl (by decide) rfl (fun u => rfl) rfl hl.1 rfl (Nat.le_of_ble_eq_true rfl) dX7_digest_17 ⟨Nat.zero_le _, Nat.zero_le _⟩ (fun z u H locs hw hP hD hS => ?_)
        have hP : va_P D vwCl [(mo, .inr (7, [.ref m0, .ref m1, .ref m2, .ref m3, .ref m4, .ref m5, .ref m6, .ref m7, .ref m8, .ref m9, .ref m10, .ref m11, .ref m12, .ref m13, .ref m14, .ref m15, .ref m16, .ref m17, .ref m18, .ref m19, .int (iI aa), .ref m21])), (m6, .inl (cI, 8, .inl (ia ru))), (m7, .inl (cI, 12, .inl (ia st))), (m11, .inl (cI, 200, .inl (ia km))), (m13, .inl (cI, 200, .inl (ia am))), (m14, .inl (cI, 2, .inl (ia hp)))] H := hP
        have hD : va_D A [(mo, .inr (7, [.ref m0, .ref m1, .ref m2, .ref m3, .ref m4, .ref m5, .ref m6, .ref m7, .ref m8, .ref m9, .ref m10, .ref m11, .ref m12, .ref m13, .ref m14, .ref m15, .ref m16, .ref m17, .ref m18, .ref m19, .int (iI aa), .ref m21])), (m6, .inl (cI, 8, .inl (ia ru))), (m7, .inl (cI, 12, .inl (ia st))), (m11, .inl (cI, 200, .inl (ia km))), (m13, .inl (cI, 200, .inl (ia am))), (m14, .inl (cI, 2, .inl (ia hp)))] := hD
        obtain ⟨z_1, ez⟩ : ∃ y : Int, y = z := ⟨_, rfl⟩
        rw [← ez] at hw ⊢
        clear ez
        have w17 : z_1 = (figF st (ru 0) (sI km (hp 0)) (sI am (hp 1)) (ru 1) (ru 2) (ru 3) (ru 4) (ru 5) (ru 6) (ru 7) k) := hw
        clear hw
        subst w17
        refine q_iadd hx hb dX7_digest_20 ?_
        refine lv_istore_n (lv' := [(1, .int (iI ((31 * d) + (figF st (ru 0) (sI km (hp 0)) (sI am (hp 1)) (ru 1) (ru 2) (ru 3) (ru 4) (ru 5) (ru 6) (ru 7) k)))), (0, .ref mo), (2, .int (iI k))]) hx hb dX7_digest_21 rfl hl (by decide) rfl (fun ls hl => ?_)
        refine q_iinc (k := 2) (lv' := [(2, .int (iI (k + 1))), (1, .int (iI ((31 * d) + (figF st (ru 0) (sI km (hp 0)) (sI am (hp 1)) (ru 1) (ru 2) (ru 3) (ru 4) (ru 5) (ru 6) (ru 7) k)))), (0, .ref mo)]) hx hb dX7_digest_22 hl rfl (by decide) rfl (fun ls hl => ?_)
        refine lv_goto (tgt := 5) hx hb dX7_digest_25 (by decide) ?_
        exact ih  ((31 * d) + (figF st (ru 0) (sI km (hp 0)) (sI am (hp 1)) (ru 1) (ru 2) (ru 3) (ru 4) (ru 5) (ru 6) (ru 7) k)) (k + 1) (by omega) (by rw [← hd0, dgI_s (k := k) (d := d) (by omega)]) (by omega) _ _ hP hD hS _ (lv_sub hl [2, 1, 0] rfl)
  exact L5_0 100 7 0 (by omega) (by rfl) (by omega) _ _ hP hD hS _ (lv_sub hl [2, 1, 0] rfl)

theorem in_X7_hindsight_X7 : ∀ w ∈ wsX70, w ∈ wsX7_hindsight := fun _ h => List.mem_cons_of_mem _ (List.mem_append_right _ h)
theorem lk_X7_hindsight_1 : Cond.constantLong RX7 158 (24) ∈ wsX7_hindsight := List.mem_of_getElem? (i := 1) rfl
theorem lk_X7_hindsight_2 : Cond.fieldLink RX7 65 "MoreHandsModel" "prices" "[I" ∈ wsX7_hindsight := List.mem_of_getElem? (i := 2) rfl
theorem lk_X7_hindsight_3 : Cond.constant RX7 160 (1000000000) ∈ wsX7_hindsight := List.mem_of_getElem? (i := 3) rfl
theorem lk_X7_hindsight_4 : Cond.fieldLink RX7 7 "MoreHandsModel" "settings" "[I" ∈ wsX7_hindsight := List.mem_of_getElem? (i := 4) rfl
theorem lk_X7_hindsight_5 : Cond.fieldLink RX7 68 "MoreHandsModel" "nexts" "[I" ∈ wsX7_hindsight := List.mem_of_getElem? (i := 5) rfl
theorem lk_X7_hindsight_6 : Cond.fieldLink RX7 19 "MoreHandsModel" "loads" "[I" ∈ wsX7_hindsight := List.mem_of_getElem? (i := 6) rfl
set_option maxHeartbeats 4000000 in
set_option maxRecDepth 100000 in
theorem c_X7_hindsight (l : Launch) (D : va_G) (cI cZ cII : ClassId) (mo : Nat) (m0 : Nat) (m3 : Nat) (m18 : Nat) (m19 : Nat) (m1 : Nat) (m2 : Nat) (m4 : Nat) (m5 : Nat) (m6 : Nat) (m7 : Nat) (m8 : Nat) (m9 : Nat) (m10 : Nat) (m11 : Nat) (m12 : Nat) (m13 : Nat) (m14 : Nat) (m15 : Nat) (m16 : Nat) (m17 : Nat) (aa : Int) (m21 : Nat) (se : Int → Int) (ld : Int → Int) (pr : Int → Int) (nx : Int → Int) (cn : Int) (hB_se : BB 0 1000 se) (hB_ld : BB 0 60 ld) (hB_pr : BB 0 1000000000 pr) (hB_nx : BB 0 1000000000 nx) (hp_cn : IR cn) (hse : SB se) : CtI l yX7_hindsight wsX7_hindsight 1 25 D (ty3 cI cZ cII) [.ref mo, .int (iI cn)] [(mo, .inr (7, [.ref m0, .ref m1, .ref m2, .ref m3, .ref m4, .ref m5, .ref m6, .ref m7, .ref m8, .ref m9, .ref m10, .ref m11, .ref m12, .ref m13, .ref m14, .ref m15, .ref m16, .ref m17, .ref m18, .ref m19, .int (iI aa), .ref m21])), (m0, .inl (cI, 19, .inl (ia se))), (m3, .inl (cI, 200, .inl (ia ld))), (m18, .inl (cI, 8645, .inl (ia pr))), (m19, .inl (cI, 8645, .inl (ia nx)))] (fun z (u : (Int → Int) × (Int → Int)) => ((z = -1002 ∧ ¬ (1 ≤ cn ∧ cn ≤ 24)) ∨ ((1 ≤ cn ∧ cn ≤ 24) ∧ isH ld se cn.toNat z)) ∧ BB 0 1000000000 u.1 ∧ BB 0 1000000000 u.2) (fun u => [(mo, .inr (7, [.ref m0, .ref m1, .ref m2, .ref m3, .ref m4, .ref m5, .ref m6, .ref m7, .ref m8, .ref m9, .ref m10, .ref m11, .ref m12, .ref m13, .ref m14, .ref m15, .ref m16, .ref m17, .ref m18, .ref m19, .int (iI aa), .ref m21])), (m0, .inl (cI, 19, .inl (ia se))), (m3, .inl (cI, 200, .inl (ia ld))), (m18, .inl (cI, 8645, .inl (ia u.1))), (m19, .inl (cI, 8645, .inl (ia u.2)))]) := by
  refine CtI.mk (cc := cX7_hindsight) (maxL := 8) (ret := (some .int)) (by decide) rfl (Nat.le_of_ble_eq_true rfl) ?_
  intro p e s m below meth c A ls R args Q hx hb hml hr hts hown hlocks hA hK hP hD hN hS hl hRf hRl hQ
  have hl : lv_has ls 8 [(0, .ref mo), (1, .int (iI cn))] := hl
  have hown : s.vm.findClass RX7 = some m.cls := hown
  have hsb := hse; unfold SB at hsb
  refine lv_iload_n hx hb dX7_hindsight_0 rfl (lv_at hl 1 rfl) ?_
  refine lv_i2l (v := lI cn) hx hb dX7_hindsight_1 (iI_long ⟨by omega, by omega⟩) ?_
  refine lv_lconst (v := lI 1) hx hb dX7_hindsight_2 (by decide +kernel) ?_
  refine lv_ldc2 (v := lI 24) hx hb hown (hts _ lk_X7_hindsight_1) dX7_hindsight_3 ?_
  refine q_callSI (wr := [(mo, .inr (7, [.ref m0, .ref m1, .ref m2, .ref m3, .ref m4, .ref m5, .ref m6, .ref m7, .ref m8, .ref m9, .ref m10, .ref m11, .ref m12, .ref m13, .ref m14, .ref m15, .ref m16, .ref m17, .ref m18, .ref m19, .int (iI aa), .ref m21])), (m0, .inl (cI, 19, .inl (ia se))), (m3, .inl (cI, 200, .inl (ia ld))), (m18, .inl (cI, 8645, .inl (ia pr))), (m19, .inl (cI, 8645, .inl (ia nx)))]) (wn := fun (u : Unit) => [(mo, .inr (7, [.ref m0, .ref m1, .ref m2, .ref m3, .ref m4, .ref m5, .ref m6, .ref m7, .ref m8, .ref m9, .ref m10, .ref m11, .ref m12, .ref m13, .ref m14, .ref m15, .ref m16, .ref m17, .ref m18, .ref m19, .int (iI aa), .ref m21])), (m0, .inl (cI, 19, .inl (ia se))), (m3, .inl (cI, 200, .inl (ia ld))), (m18, .inl (cI, 8645, .inl (ia pr))), (m19, .inl (cI, 8645, .inl (ia nx)))]) (rest := []) [.long (lI cn), .long (lI 1), .long (lI 24)] ⟨hx, hb, hml, hown, hts⟩ (c_X7_in l D cI cZ cII cn 1 24 ⟨by omega, by omega⟩ ⟨by omega, by omega⟩ ⟨by omega, by omega⟩) (va_cwS 3 hts gX7_hindsight_X7_in rfl rfl rfl (by decide +kernel) (by rw [hRf, hRl]; exact ⟨Nat.le_of_ble_eq_true rfl, Nat.le_of_ble_eq_true rfl⟩)) hK hP hD hS hA hN [] [0, 1, 2, 3, 4] [0, 1, 2, 3, 4] rfl rfl rfl rfl (by decide) rfl (fun u => rfl) rfl hl.1 rfl (Nat.le_of_ble_eq_true rfl) dX7_hindsight_6 ⟨Nat.zero_le _, Nat.zero_le _⟩ (fun z u H locs hw hP hD hS => ?_)
  have hP : va_P D vwCl [(mo, .inr (7, [.ref m0, .ref m1, .ref m2, .ref m3, .ref m4, .ref m5, .ref m6, .ref m7, .ref m8, .ref m9, .ref m10, .ref m11, .ref m12, .ref m13, .ref m14, .ref m15, .ref m16, .ref m17, .ref m18, .ref m19, .int (iI aa), .ref m21])), (m0, .inl (cI, 19, .inl (ia se))), (m3, .inl (cI, 200, .inl (ia ld))), (m18, .inl (cI, 8645, .inl (ia pr))), (m19, .inl (cI, 8645, .inl (ia nx)))] H := hP
  have hD : va_D A [(mo, .inr (7, [.ref m0, .ref m1, .ref m2, .ref m3, .ref m4, .ref m5, .ref m6, .ref m7, .ref m8, .ref m9, .ref m10, .ref m11, .ref m12, .ref m13, .ref m14, .ref m15, .ref m16, .ref m17, .ref m18, .ref m19, .int (iI aa), .ref m21])), (m0, .inl (cI, 19, .inl (ia se))), (m3, .inl (cI, 200, .inl (ia ld))), (m18, .inl (cI, 8645, .inl (ia pr))), (m19, .inl (cI, 8645, .inl (ia nx)))] := hD
  obtain ⟨z_1, ez⟩ : ∃ y : Int, y = z := ⟨_, rfl⟩
  rw [← ez] at hw ⊢
  clear ez
  rcases hw with ⟨rfl, w6⟩ | ⟨rfl, w6⟩
  ·
    refine q_if_ne (tgt := 16) hx hb dX7_hindsight_9 (by decide) ⟨by decide, by decide⟩ (fun _ => ?_) (fun h => absurd h (by decide))
    refine lv_iconst (v := iI 0) hx hb dX7_hindsight_16 rfl ?_
    refine lv_istore_n (lv' := [(2, .int (iI 0)), (0, .ref mo), (1, .int (iI cn))]) hx hb dX7_hindsight_17 rfl hl (by decide) rfl (fun ls hl => ?_)
    have L18_0 : ∀ (n : Nat), ∀ (k1 : Int) (P0 : Int → Int), (hB_P0 : BB 0 1000000000 P0) → (hk1 : 0 ≤ k1 ∧ k1 ≤ 8645) → (hf1 : ∀ j, 0 ≤ j → j < k1 → P0 j = if j = 0 then 0 else 1000000000) → (8646 - k1) < (n : Int) → ∀ (H : Heap) (locs : List Loc), va_P D vwCl [(mo, .inr (7, [.ref m0, .ref m1, .ref m2, .ref m3, .ref m4, .ref m5, .ref m6, .ref m7, .ref m8, .ref m9, .ref m10, .ref m11, .ref m12, .ref m13, .ref m14, .ref m15, .ref m16, .ref m17, .ref m18, .ref m19, .int (iI aa), .ref m21])), (m0, .inl (cI, 19, .inl (ia se))), (m3, .inl (cI, 200, .inl (ia ld))), (m18, .inl (cI, 8645, .inl (ia P0))), (m19, .inl (cI, 8645, .inl (ia nx)))] H → va_D A [(mo, .inr (7, [.ref m0, .ref m1, .ref m2, .ref m3, .ref m4, .ref m5, .ref m6, .ref m7, .ref m8, .ref m9, .ref m10, .ref m11, .ref m12, .ref m13, .ref m14, .ref m15, .ref m16, .ref m17, .ref m18, .ref m19, .int (iI aa), .ref m21])), (m0, .inl (cI, 19, .inl (ia se))), (m3, .inl (cI, 200, .inl (ia ld))), (m18, .inl (cI, 8645, .inl (ia P0))), (m19, .inl (cI, 8645, .inl (ia nx)))] → va_S A s.heap H locs → ∀ ls : Array Slot, lv_has ls 8 [(0, .ref mo), (1, .int (iI cn)), (2, .int (iI k1))] → W p l e R s m args below meth c H locs 0 0 Q (F0 m 18 ls []) := by
      intro n
      induction n with
      | zero => intro k1 P0 hB_P0 hk1 hf1 hm; exact absurd hm (by omega)
      | succ n ih18 =>
        intro k1 P0 hB_P0 hk1 hf1 hm H locs hP hD hS ls hl
        refine lv_iload_n hx hb dX7_hindsight_18 rfl (lv_at hl 2 rfl) ?_
        refine lv_sipush (v := iI 8645) hx hb dX7_hindsight_19 (by decide +kernel) ?_
        refine q_icmp_ge (tgt := 47) hx hb dX7_hindsight_22 (by decide) ⟨by omega, by omega⟩ ⟨by decide, by decide⟩ (fun c22 => ?_) (fun c22 => ?_)
        ·
          refine lv_iconst (v := iI 0) hx hb dX7_hindsight_47 rfl ?_
          refine lv_istore_n (lv' := [(2, .int (iI 0)), (0, .ref mo), (1, .int (iI cn))]) hx hb dX7_hindsight_48 rfl hl (by decide) rfl (fun ls hl => ?_)
          have L49_1 : ∀ (n : Nat), ∀ (t : Int) (P1 : Int → Int) (N1 : Int → Int), (hB_P1 : BB 0 1000000000 P1) → (hB_N1 : BB 0 1000000000 N1) → (ht : 0 ≤ t ∧ t ≤ cn) → (hM : PM ld se t.toNat P1) → (cn - t) < (n : Int) → ∀ (H : Heap) (locs : List Loc), va_P D vwCl [(mo, .inr (7, [.ref m0, .ref m1, .ref m2, .ref m3, .ref m4, .ref m5, .ref m6, .ref m7, .ref m8, .ref m9, .ref m10, .ref m11, .ref m12, .ref m13, .ref m14, .ref m15, .ref m16, .ref m17, .ref m18, .ref m19, .int (iI aa), .ref m21])), (m0, .inl (cI, 19, .inl (ia se))), (m3, .inl (cI, 200, .inl (ia ld))), (m18, .inl (cI, 8645, .inl (ia P1))), (m19, .inl (cI, 8645, .inl (ia N1)))] H → va_D A [(mo, .inr (7, [.ref m0, .ref m1, .ref m2, .ref m3, .ref m4, .ref m5, .ref m6, .ref m7, .ref m8, .ref m9, .ref m10, .ref m11, .ref m12, .ref m13, .ref m14, .ref m15, .ref m16, .ref m17, .ref m18, .ref m19, .int (iI aa), .ref m21])), (m0, .inl (cI, 19, .inl (ia se))), (m3, .inl (cI, 200, .inl (ia ld))), (m18, .inl (cI, 8645, .inl (ia P1))), (m19, .inl (cI, 8645, .inl (ia N1)))] → va_S A s.heap H locs → ∀ ls : Array Slot, lv_has ls 8 [(0, .ref mo), (1, .int (iI cn)), (2, .int (iI t))] → W p l e R s m args below meth c H locs 0 0 Q (F0 m 49 ls []) := by
            intro n
            induction n with
            | zero => intro t P1 N1 hB_P1 hB_N1 ht hM hm; exact absurd hm (by omega)
            | succ n ih49 =>
              intro t P1 N1 hB_P1 hB_N1 ht hM hm H locs hP hD hS ls hl
              refine lv_iload_n hx hb dX7_hindsight_49 rfl (lv_at hl 2 rfl) ?_
              refine lv_iload_n hx hb dX7_hindsight_50 rfl (lv_at hl 1 rfl) ?_
              refine q_icmp_ge (tgt := 287) hx hb dX7_hindsight_51 (by decide) ⟨by omega, by omega⟩ ⟨by omega, by omega⟩ (fun c51 => ?_) (fun c51 => ?_)
              ·
                refine lv_ldc (v := iI 1000000000) hx hb hown (hts _ lk_X7_hindsight_3) dX7_hindsight_287 ?_
                refine lv_istore_n (lv' := [(2, .int (iI 1000000000)), (0, .ref mo), (1, .int (iI cn))]) hx hb dX7_hindsight_289 rfl hl (by decide) rfl (fun ls hl => ?_)
                refine lv_iconst (v := iI 0) hx hb dX7_hindsight_290 rfl ?_
                refine lv_istore_n (lv' := [(3, .int (iI 0)), (2, .int (iI 1000000000)), (0, .ref mo), (1, .int (iI cn))]) hx hb dX7_hindsight_291 rfl hl (by decide) rfl (fun ls hl => ?_)
                have L292_2 : ∀ (n : Nat), ∀ (le : Int) (k6 : Int), (hk6 : 0 ≤ k6 ∧ k6 ≤ 8645) → (hle : 0 ≤ le ∧ le ≤ 1000000000) → (h1 : le < 1000000000 → ∃ j, 0 ≤ j ∧ j < k6 ∧ le = P1 j) → (h2 : ∀ j, 0 ≤ j → j < k6 → le ≤ P1 j) → (8646 - k6) < (n : Int) → ∀ (H : Heap) (locs : List Loc), va_P D vwCl [(mo, .inr (7, [.ref m0, .ref m1, .ref m2, .ref m3, .ref m4, .ref m5, .ref m6, .ref m7, .ref m8, .ref m9, .ref m10, .ref m11, .ref m12, .ref m13, .ref m14, .ref m15, .ref m16, .ref m17, .ref m18, .ref m19, .int (iI aa), .ref m21])), (m0, .inl (cI, 19, .inl (ia se))), (m3, .inl (cI, 200, .inl (ia ld))), (m18, .inl (cI, 8645, .inl (ia P1))), (m19, .inl (cI, 8645, .inl (ia N1)))] H → va_D A [(mo, .inr (7, [.ref m0, .ref m1, .ref m2, .ref m3, .ref m4, .ref m5, .ref m6, .ref m7, .ref m8, .ref m9, .ref m10, .ref m11, .ref m12, .ref m13, .ref m14, .ref m15, .ref m16, .ref m17, .ref m18, .ref m19, .int (iI aa), .ref m21])), (m0, .inl (cI, 19, .inl (ia se))), (m3, .inl (cI, 200, .inl (ia ld))), (m18, .inl (cI, 8645, .inl (ia P1))), (m19, .inl (cI, 8645, .inl (ia N1)))] → va_S A s.heap H locs → ∀ ls : Array Slot, lv_has ls 8 [(0, .ref mo), (1, .int (iI cn)), (2, .int (iI le)), (3, .int (iI k6))] → W p l e R s m args below meth c H locs 0 0 Q (F0 m 292 ls []) := by
                  intro n
                  induction n with
                  | zero => intro le k6 hk6 hle h1 h2 hm; exact absurd hm (by omega)
                  | succ n ih292 =>
                    intro le k6 hk6 hle h1 h2 hm H locs hP hD hS ls hl
                    refine lv_iload_n hx hb dX7_hindsight_292 rfl (lv_at hl 3 rfl) ?_
                    refine lv_sipush (v := iI 8645) hx hb dX7_hindsight_293 (by decide +kernel) ?_
                    refine q_icmp_ge (tgt := 316) hx hb dX7_hindsight_296 (by decide) ⟨by omega, by omega⟩ ⟨by decide, by decide⟩ (fun c296 => ?_) (fun c296 => ?_)
                    ·
                      refine lv_iload_n hx hb dX7_hindsight_316 rfl (lv_at hl 2 rfl) ?_
                      refine lv_ldc (v := iI 1000000000) hx hb hown (hts _ lk_X7_hindsight_3) dX7_hindsight_317 ?_
                      refine q_icmp_ne (tgt := 326) hx hb dX7_hindsight_319 (by decide) ⟨by omega, by omega⟩ ⟨by decide, by decide⟩ (fun c319 => ?_) (fun c319 => ?_)
                      ·
                        refine lv_iload_n hx hb dX7_hindsight_326 rfl (lv_at hl 2 rfl) ?_
                        rw [hQ]
                        refine q_retI (P1, N1) hx hb hr hlocks hK hP hD hS dX7_hindsight_327 ?_
                        try dsimp only
                        first | exact ⟨Or.inl ⟨rfl, by omega⟩, hB_pr, hB_nx⟩ | exact ⟨Or.inr ⟨by omega, PM_fin hB_ld hse (by omega) (by omega) hM (by omega) hle.2 (fun q => by obtain ⟨l, a1, a2, a3⟩ := h1 q; exact ⟨l, a1, by omega, a3⟩) h2 (by first | rw [if_pos (by omega)] | rw [if_neg (by omega)])⟩, hB_P1, hB_N1⟩
                      ·
                        refine lv_iconst (v := iI (-1)) hx hb dX7_hindsight_322 rfl ?_
                        refine lv_goto (tgt := 327) hx hb dX7_hindsight_323 (by decide) ?_
                        rw [hQ]
                        refine q_retI (P1, N1) hx hb hr hlocks hK hP hD hS dX7_hindsight_327 ?_
                        try dsimp only
                        first | exact ⟨Or.inl ⟨rfl, by omega⟩, hB_pr, hB_nx⟩ | exact ⟨Or.inr ⟨by omega, PM_fin hB_ld hse (by omega) (by omega) hM (by omega) hle.2 (fun q => by obtain ⟨l, a1, a2, a3⟩ := h1 q; exact ⟨l, a1, by omega, a3⟩) h2 (by first | rw [if_pos (by omega)] | rw [if_neg (by omega)])⟩, hB_P1, hB_N1⟩
                    ·
                      refine lv_iload_n hx hb dX7_hindsight_299 rfl (lv_at hl 2 rfl) ?_
                      refine lv_aload_n hx hb dX7_hindsight_300 rfl (lv_at hl 0 rfl) ?_
                      refine va_get (D := D) (ci := 7) (v := .ref m18) (C := RX7) (T := TX7) (N := 22) hx hb hts in_X7_hindsight_X7 hown hK hP 0 rfl rfl 18 (by decide) (hts _ lk_X7_hindsight_2) (fun _ h9 => h9) rfl dX7_hindsight_301 ?_
                      refine lv_iload_n hx hb dX7_hindsight_304 rfl (lv_at hl 3 rfl) ?_
                      refine q_iald hx hb hK hP 3 0 rfl rfl (by omega) (by omega) (by decide) dX7_hindsight_305 ?_
                      have hb305 := hB_P1 k6
                      refine q_callSI (wr := [(mo, .inr (7, [.ref m0, .ref m1, .ref m2, .ref m3, .ref m4, .ref m5, .ref m6, .ref m7, .ref m8, .ref m9, .ref m10, .ref m11, .ref m12, .ref m13, .ref m14, .ref m15, .ref m16, .ref m17, .ref m18, .ref m19, .int (iI aa), .ref m21])), (m0, .inl (cI, 19, .inl (ia se))), (m3, .inl (cI, 200, .inl (ia ld))), (m18, .inl (cI, 8645, .inl (ia P1))), (m19, .inl (cI, 8645, .inl (ia N1)))]) (wn := fun (u : Unit) => [(mo, .inr (7, [.ref m0, .ref m1, .ref m2, .ref m3, .ref m4, .ref m5, .ref m6, .ref m7, .ref m8, .ref m9, .ref m10, .ref m11, .ref m12, .ref m13, .ref m14, .ref m15, .ref m16, .ref m17, .ref m18, .ref m19, .int (iI aa), .ref m21])), (m0, .inl (cI, 19, .inl (ia se))), (m3, .inl (cI, 200, .inl (ia ld))), (m18, .inl (cI, 8645, .inl (ia P1))), (m19, .inl (cI, 8645, .inl (ia N1)))]) (rest := []) [.int (iI le), .int (iI (P1 k6))] ⟨hx, hb, hml, hown, hts⟩ (c_X7_least l D cI cZ cII le (P1 k6) ⟨by omega, by omega⟩ ⟨by omega, by omega⟩) (va_cwS 2 hts gX7_hindsight_X7_least rfl rfl rfl (by decide +kernel) (by rw [hRf, hRl]; exact ⟨Nat.le_of_ble_eq_true rfl, Nat.le_of_ble_eq_true rfl⟩)) hK hP hD hS hA hN [] [0, 1, 2, 3, 4] [0, 1, 2, 3, 4] rfl rfl rfl rfl (by decide) rfl (fun u => rfl) rfl hl.1 rfl (Nat.le_of_ble_eq_true rfl) dX7_hindsight_306 ⟨Nat.zero_le _, Nat.zero_le _⟩ (fun z u H locs hw hP hD hS => ?_)
                      have hP : va_P D vwCl [(mo, .inr (7, [.ref m0, .ref m1, .ref m2, .ref m3, .ref m4, .ref m5, .ref m6, .ref m7, .ref m8, .ref m9, .ref m10, .ref m11, .ref m12, .ref m13, .ref m14, .ref m15, .ref m16, .ref m17, .ref m18, .ref m19, .int (iI aa), .ref m21])), (m0, .inl (cI, 19, .inl (ia se))), (m3, .inl (cI, 200, .inl (ia ld))), (m18, .inl (cI, 8645, .inl (ia P1))), (m19, .inl (cI, 8645, .inl (ia N1)))] H := hP
                      have hD : va_D A [(mo, .inr (7, [.ref m0, .ref m1, .ref m2, .ref m3, .ref m4, .ref m5, .ref m6, .ref m7, .ref m8, .ref m9, .ref m10, .ref m11, .ref m12, .ref m13, .ref m14, .ref m15, .ref m16, .ref m17, .ref m18, .ref m19, .int (iI aa), .ref m21])), (m0, .inl (cI, 19, .inl (ia se))), (m3, .inl (cI, 200, .inl (ia ld))), (m18, .inl (cI, 8645, .inl (ia P1))), (m19, .inl (cI, 8645, .inl (ia N1)))] := hD
                      obtain ⟨z_2, ez⟩ : ∃ y : Int, y = z := ⟨_, rfl⟩
                      rw [← ez] at hw ⊢
                      clear ez
                      have w306 : z_2 = (min le (P1 k6)) := hw
                      clear hw
                      subst w306
                      refine lv_istore_n (lv' := [(2, .int (iI (min le (P1 k6)))), (0, .ref mo), (1, .int (iI cn)), (3, .int (iI k6))]) hx hb dX7_hindsight_309 rfl hl (by decide) rfl (fun ls hl => ?_)
                      refine q_iinc (k := 3) (lv' := [(3, .int (iI (k6 + 1))), (2, .int (iI (min le (P1 k6)))), (0, .ref mo), (1, .int (iI cn))]) hx hb dX7_hindsight_310 hl rfl (by decide) rfl (fun ls hl => ?_)
                      refine lv_goto (tgt := 292) hx hb dX7_hindsight_313 (by decide) ?_
                      exact ih292  (min le (P1 k6)) (k6 + 1) (by omega) (by omega) (by intro q; by_cases q2 : le ≤ P1 k6; (obtain ⟨l, a1, a2, a3⟩ := h1 (by omega); exact ⟨l, a1, by omega, by omega⟩); exact ⟨k6, by omega, by omega, by omega⟩) (by intro j q1 q2; by_cases q : j = k6; (rw [q]; omega); (have := h2 j q1 (by omega); omega)) (by omega) _ _ hP hD hS _ (lv_sub hl [2, 3, 1, 0] rfl)
                exact L292_2 10000 1000000000 0 (by omega) (by omega) (by intro q; omega) (by intro j q1 q2; omega) (by omega) _ _ hP hD hS _ (lv_sub hl [2, 3, 1, 0] rfl)
              ·
                have hbd := bdS_b (t := t) hB_ld hse ht.1
                refine lv_aload_n hx hb dX7_hindsight_54 rfl (lv_at hl 0 rfl) ?_
                refine lv_iload_n hx hb dX7_hindsight_55 rfl (lv_at hl 2 rfl) ?_
                refine lv_aload_n hx hb dX7_hindsight_56 rfl (lv_at hl 0 rfl) ?_
                refine va_get (D := D) (ci := 7) (v := .ref m0) (C := RX7) (T := TX7) (N := 22) hx hb hts in_X7_hindsight_X7 hown hK hP 0 rfl rfl 0 (by decide) (hts _ lk_X7_hindsight_4) (fun _ h9 => h9) rfl dX7_hindsight_57 ?_
                refine lv_iconst (v := iI 3) hx hb dX7_hindsight_60 rfl ?_
                refine q_iald hx hb hK hP 1 0 rfl rfl (by omega) (by omega) (by decide) dX7_hindsight_61 ?_
                have hb61 := hB_se 3
                refine lv_iconst (v := iI 1) hx hb dX7_hindsight_62 rfl ?_
                refine q_isub hx hb dX7_hindsight_63 ?_
                refine q_callVI (wr := [(m0, .inl (cI, 19, .inl (ia se))), (m18, .inl (cI, 8645, .inl (ia P1))), (m19, .inl (cI, 8645, .inl (ia N1)))]) (wn := fun (u : Unit) => [(mo, .inr (7, [.ref m0, .ref m1, .ref m2, .ref m3, .ref m4, .ref m5, .ref m6, .ref m7, .ref m8, .ref m9, .ref m10, .ref m11, .ref m12, .ref m13, .ref m14, .ref m15, .ref m16, .ref m17, .ref m18, .ref m19, .int (iI aa), .ref m21])), (m0, .inl (cI, 19, .inl (ia se))), (m3, .inl (cI, 200, .inl (ia ld))), (m18, .inl (cI, 8645, .inl (ia P1))), (m19, .inl (cI, 8645, .inl (ia N1)))]) (rest := []) [.int (iI t), .int (iI ((se 3) - 1))] ⟨hx, hb, hml, hown, hts⟩ (c_X7_latest l D cI cZ cII mo m3 m0 m1 m2 m4 m5 m6 m7 m8 m9 m10 m11 m12 m13 m14 m15 m16 m17 m18 m19 aa m21 ld t ((se 3) - 1) hB_ld (by omega) (by omega)) (cwV 2 hts gX7_hindsight_X7_latest rfl rfl rfl (by decide +kernel) (by rw [hRf, hRl]; exact ⟨Nat.le_of_ble_eq_true rfl, Nat.le_of_ble_eq_true rfl⟩)) hK hP hD hS hA hN [0, 2] [1, 3, 4] [3, 0, 4, 1, 2] 0 7 rfl rfl rfl rfl rfl rfl (by decide) rfl (fun u => rfl) rfl hl.1 rfl (Nat.le_of_ble_eq_true rfl) dX7_hindsight_64 ⟨Nat.zero_le _, Nat.zero_le _⟩ (fun z u H locs hw hP hD hS => ?_)
                have hP : va_P D vwCl [(mo, .inr (7, [.ref m0, .ref m1, .ref m2, .ref m3, .ref m4, .ref m5, .ref m6, .ref m7, .ref m8, .ref m9, .ref m10, .ref m11, .ref m12, .ref m13, .ref m14, .ref m15, .ref m16, .ref m17, .ref m18, .ref m19, .int (iI aa), .ref m21])), (m0, .inl (cI, 19, .inl (ia se))), (m3, .inl (cI, 200, .inl (ia ld))), (m18, .inl (cI, 8645, .inl (ia P1))), (m19, .inl (cI, 8645, .inl (ia N1)))] H := hP
                have hD : va_D A [(mo, .inr (7, [.ref m0, .ref m1, .ref m2, .ref m3, .ref m4, .ref m5, .ref m6, .ref m7, .ref m8, .ref m9, .ref m10, .ref m11, .ref m12, .ref m13, .ref m14, .ref m15, .ref m16, .ref m17, .ref m18, .ref m19, .int (iI aa), .ref m21])), (m0, .inl (cI, 19, .inl (ia se))), (m3, .inl (cI, 200, .inl (ia ld))), (m18, .inl (cI, 8645, .inl (ia P1))), (m19, .inl (cI, 8645, .inl (ia N1)))] := hD
                obtain ⟨z_3, ez⟩ : ∃ y : Int, y = z := ⟨_, rfl⟩
                rw [← ez] at hw ⊢
                clear ez
                have w64 : z_3 = (sI ld (t + 1) - sI ld (t - ((se 3) - 1) + 1)) := hw
                clear hw
                subst w64
                refine q_top (b := (bdS ld se t)) (by unfold bdS; rw [show t - (se 3 - 1) + 1 = t - se 3 + 2 by omega]) ?_
                refine lv_istore_n (lv' := [(3, .int (iI (bdS ld se t))), (0, .ref mo), (1, .int (iI cn)), (2, .int (iI t))]) hx hb dX7_hindsight_67 rfl hl (by decide) rfl (fun ls hl => ?_)
                refine lv_iconst (v := iI 0) hx hb dX7_hindsight_68 rfl ?_
                refine lv_istore (lv' := [(4, .int (iI 0)), (3, .int (iI (bdS ld se t))), (0, .ref mo), (1, .int (iI cn)), (2, .int (iI t))]) hx hb dX7_hindsight_69 hl (by decide) rfl (fun ls hl => ?_)
                have L71_2 : ∀ (n : Nat), ∀ (k2 : Int) (N2 : Int → Int), (hB_N2 : BB 0 1000000000 N2) → (hk2 : 0 ≤ k2 ∧ k2 ≤ 8645) → (hf2 : ∀ j, 0 ≤ j → j < k2 → N2 j = 1000000000) → (8646 - k2) < (n : Int) → ∀ (H : Heap) (locs : List Loc), va_P D vwCl [(mo, .inr (7, [.ref m0, .ref m1, .ref m2, .ref m3, .ref m4, .ref m5, .ref m6, .ref m7, .ref m8, .ref m9, .ref m10, .ref m11, .ref m12, .ref m13, .ref m14, .ref m15, .ref m16, .ref m17, .ref m18, .ref m19, .int (iI aa), .ref m21])), (m0, .inl (cI, 19, .inl (ia se))), (m3, .inl (cI, 200, .inl (ia ld))), (m18, .inl (cI, 8645, .inl (ia P1))), (m19, .inl (cI, 8645, .inl (ia N2)))] H → va_D A [(mo, .inr (7, [.ref m0, .ref m1, .ref m2, .ref m3, .ref m4, .ref m5, .ref m6, .ref m7, .ref m8, .ref m9, .ref m10, .ref m11, .ref m12, .ref m13, .ref m14, .ref m15, .ref m16, .ref m17, .ref m18, .ref m19, .int (iI aa), .ref m21])), (m0, .inl (cI, 19, .inl (ia se))), (m3, .inl (cI, 200, .inl (ia ld))), (m18, .inl (cI, 8645, .inl (ia P1))), (m19, .inl (cI, 8645, .inl (ia N2)))] → va_S A s.heap H locs → ∀ ls : Array Slot, lv_has ls 8 [(0, .ref mo), (1, .int (iI cn)), (2, .int (iI t)), (3, .int (iI (bdS ld se t))), (4, .int (iI k2))] → W p l e R s m args below meth c H locs 0 0 Q (F0 m 71 ls []) := by
                  intro n
                  induction n with
                  | zero => intro k2 N2 hB_N2 hk2 hf2 hm; exact absurd hm (by omega)
                  | succ n ih71 =>
                    intro k2 N2 hB_N2 hk2 hf2 hm H locs hP hD hS ls hl
                    refine lv_iload hx hb dX7_hindsight_71 (lv_at hl 4 rfl) ?_
                    refine lv_sipush (v := iI 8645) hx hb dX7_hindsight_73 (by decide +kernel) ?_
                    refine q_icmp_ge (tgt := 94) hx hb dX7_hindsight_76 (by decide) ⟨by omega, by omega⟩ ⟨by decide, by decide⟩ (fun c76 => ?_) (fun c76 => ?_)
                    ·
                      refine lv_iconst (v := iI 0) hx hb dX7_hindsight_94 rfl ?_
                      refine lv_istore (lv' := [(4, .int (iI 0)), (0, .ref mo), (1, .int (iI cn)), (2, .int (iI t)), (3, .int (iI (bdS ld se t)))]) hx hb dX7_hindsight_95 hl (by decide) rfl (fun ls hl => ?_)
                      have L97_3 : ∀ (n : Nat), ∀ (k : Int) (N3 : Int → Int), (hB_N3 : BB 0 1000000000 N3) → (hk : 0 ≤ k ∧ k ≤ 8645) → (hG : GM ld se P1 t (PB k) N3) → (8646 - k) < (n : Int) → ∀ (H : Heap) (locs : List Loc), va_P D vwCl [(mo, .inr (7, [.ref m0, .ref m1, .ref m2, .ref m3, .ref m4, .ref m5, .ref m6, .ref m7, .ref m8, .ref m9, .ref m10, .ref m11, .ref m12, .ref m13, .ref m14, .ref m15, .ref m16, .ref m17, .ref m18, .ref m19, .int (iI aa), .ref m21])), (m0, .inl (cI, 19, .inl (ia se))), (m3, .inl (cI, 200, .inl (ia ld))), (m18, .inl (cI, 8645, .inl (ia P1))), (m19, .inl (cI, 8645, .inl (ia N3)))] H → va_D A [(mo, .inr (7, [.ref m0, .ref m1, .ref m2, .ref m3, .ref m4, .ref m5, .ref m6, .ref m7, .ref m8, .ref m9, .ref m10, .ref m11, .ref m12, .ref m13, .ref m14, .ref m15, .ref m16, .ref m17, .ref m18, .ref m19, .int (iI aa), .ref m21])), (m0, .inl (cI, 19, .inl (ia se))), (m3, .inl (cI, 200, .inl (ia ld))), (m18, .inl (cI, 8645, .inl (ia P1))), (m19, .inl (cI, 8645, .inl (ia N3)))] → va_S A s.heap H locs → ∀ ls : Array Slot, lv_has ls 8 [(0, .ref mo), (1, .int (iI cn)), (2, .int (iI t)), (3, .int (iI (bdS ld se t))), (4, .int (iI k))] → W p l e R s m args below meth c H locs 0 0 Q (F0 m 97 ls []) := by
                        intro n
                        induction n with
                        | zero => intro k N3 hB_N3 hk hG hm; exact absurd hm (by omega)
                        | succ n ih97 =>
                          intro k N3 hB_N3 hk hG hm H locs hP hD hS ls hl
                          refine lv_iload hx hb dX7_hindsight_97 (lv_at hl 4 rfl) ?_
                          refine lv_sipush (v := iI 8645) hx hb dX7_hindsight_99 (by decide +kernel) ?_
                          refine q_icmp_ge (tgt := 250) hx hb dX7_hindsight_102 (by decide) ⟨by omega, by omega⟩ ⟨by decide, by decide⟩ (fun c102 => ?_) (fun c102 => ?_)
                          ·
                            refine lv_iconst (v := iI 0) hx hb dX7_hindsight_250 rfl ?_
                            refine lv_istore (lv' := [(4, .int (iI 0)), (0, .ref mo), (1, .int (iI cn)), (2, .int (iI t)), (3, .int (iI (bdS ld se t)))]) hx hb dX7_hindsight_251 hl (by decide) rfl (fun ls hl => ?_)
                            have L253_4 : ∀ (n : Nat), ∀ (k5 : Int) (P2 : Int → Int), (hB_P2 : BB 0 1000000000 P2) → (hk5 : 0 ≤ k5 ∧ k5 ≤ 8645) → (hc : ∀ j, 0 ≤ j → j < k5 → P2 j = N3 j) → (8646 - k5) < (n : Int) → ∀ (H : Heap) (locs : List Loc), va_P D vwCl [(mo, .inr (7, [.ref m0, .ref m1, .ref m2, .ref m3, .ref m4, .ref m5, .ref m6, .ref m7, .ref m8, .ref m9, .ref m10, .ref m11, .ref m12, .ref m13, .ref m14, .ref m15, .ref m16, .ref m17, .ref m18, .ref m19, .int (iI aa), .ref m21])), (m0, .inl (cI, 19, .inl (ia se))), (m3, .inl (cI, 200, .inl (ia ld))), (m18, .inl (cI, 8645, .inl (ia P2))), (m19, .inl (cI, 8645, .inl (ia N3)))] H → va_D A [(mo, .inr (7, [.ref m0, .ref m1, .ref m2, .ref m3, .ref m4, .ref m5, .ref m6, .ref m7, .ref m8, .ref m9, .ref m10, .ref m11, .ref m12, .ref m13, .ref m14, .ref m15, .ref m16, .ref m17, .ref m18, .ref m19, .int (iI aa), .ref m21])), (m0, .inl (cI, 19, .inl (ia se))), (m3, .inl (cI, 200, .inl (ia ld))), (m18, .inl (cI, 8645, .inl (ia P2))), (m19, .inl (cI, 8645, .inl (ia N3)))] → va_S A s.heap H locs → ∀ ls : Array Slot, lv_has ls 8 [(0, .ref mo), (1, .int (iI cn)), (2, .int (iI t)), (3, .int (iI (bdS ld se t))), (4, .int (iI k5))] → W p l e R s m args below meth c H locs 0 0 Q (F0 m 253 ls []) := by
                              intro n
                              induction n with
                              | zero => intro k5 P2 hB_P2 hk5 hc hm; exact absurd hm (by omega)
                              | succ n ih253 =>
                                intro k5 P2 hB_P2 hk5 hc hm H locs hP hD hS ls hl
                                refine lv_iload hx hb dX7_hindsight_253 (lv_at hl 4 rfl) ?_
                                refine lv_sipush (v := iI 8645) hx hb dX7_hindsight_255 (by decide +kernel) ?_
                                refine q_icmp_ge (tgt := 281) hx hb dX7_hindsight_258 (by decide) ⟨by omega, by omega⟩ ⟨by decide, by decide⟩ (fun c258 => ?_) (fun c258 => ?_)
                                ·
                                  refine q_iinc (k := 2) (lv' := [(2, .int (iI (t + 1))), (0, .ref mo), (1, .int (iI cn)), (3, .int (iI (bdS ld se t))), (4, .int (iI k5))]) hx hb dX7_hindsight_281 hl rfl (by decide) rfl (fun ls hl => ?_)
                                  refine lv_goto (tgt := 49) hx hb dX7_hindsight_284 (by decide) ?_
                                  exact ih49  (t + 1) P2 N3 hB_P2 hB_N3 (by omega) (by exact PM_step hB_ld hse (by omega) hM hG (by omega) hc (by omega)) (by omega) _ _ hP hD hS _ (lv_sub hl [1, 2, 0] rfl)
                                ·
                                  refine lv_aload_n hx hb dX7_hindsight_261 rfl (lv_at hl 0 rfl) ?_
                                  refine va_get (D := D) (ci := 7) (v := .ref m18) (C := RX7) (T := TX7) (N := 22) hx hb hts in_X7_hindsight_X7 hown hK hP 0 rfl rfl 18 (by decide) (hts _ lk_X7_hindsight_2) (fun _ h9 => h9) rfl dX7_hindsight_262 ?_
                                  refine lv_iload hx hb dX7_hindsight_265 (lv_at hl 4 rfl) ?_
                                  refine lv_aload_n hx hb dX7_hindsight_267 rfl (lv_at hl 0 rfl) ?_
                                  refine va_get (D := D) (ci := 7) (v := .ref m19) (C := RX7) (T := TX7) (N := 22) hx hb hts in_X7_hindsight_X7 hown hK hP 0 rfl rfl 19 (by decide) (hts _ lk_X7_hindsight_5) (fun _ h9 => h9) rfl dX7_hindsight_268 ?_
                                  refine lv_iload hx hb dX7_hindsight_271 (lv_at hl 4 rfl) ?_
                                  refine q_iald hx hb hK hP 4 0 rfl rfl (by omega) (by omega) (by decide) dX7_hindsight_273 ?_
                                  have hb273 := hB_N3 k5
                                  refine q_iast hx hb hK hP hD hS 3 0 rfl rfl (by omega) (by omega) (by decide) dX7_hindsight_274 (fun H locs hP hD hS => ?_)
                                  have hP : va_P D vwCl [(mo, .inr (7, [.ref m0, .ref m1, .ref m2, .ref m3, .ref m4, .ref m5, .ref m6, .ref m7, .ref m8, .ref m9, .ref m10, .ref m11, .ref m12, .ref m13, .ref m14, .ref m15, .ref m16, .ref m17, .ref m18, .ref m19, .int (iI aa), .ref m21])), (m0, .inl (cI, 19, .inl (ia se))), (m3, .inl (cI, 200, .inl (ia ld))), (m18, .inl (cI, 8645, .inl (ia (uI P2 k5 (N3 k5))))), (m19, .inl (cI, 8645, .inl (ia N3)))] H := hP
                                  have hD : va_D A [(mo, .inr (7, [.ref m0, .ref m1, .ref m2, .ref m3, .ref m4, .ref m5, .ref m6, .ref m7, .ref m8, .ref m9, .ref m10, .ref m11, .ref m12, .ref m13, .ref m14, .ref m15, .ref m16, .ref m17, .ref m18, .ref m19, .int (iI aa), .ref m21])), (m0, .inl (cI, 19, .inl (ia se))), (m3, .inl (cI, 200, .inl (ia ld))), (m18, .inl (cI, 8645, .inl (ia (uI P2 k5 (N3 k5))))), (m19, .inl (cI, 8645, .inl (ia N3)))] := hD
                                  have hB_4 : BB 0 1000000000 (uI P2 k5 (N3 k5)) := BB_uI hB_P2 (by omega)
                                  refine q_iinc (k := 4) (lv' := [(4, .int (iI (k5 + 1))), (0, .ref mo), (1, .int (iI cn)), (2, .int (iI t)), (3, .int (iI (bdS ld se t)))]) hx hb dX7_hindsight_275 hl rfl (by decide) rfl (fun ls hl => ?_)
                                  refine lv_goto (tgt := 253) hx hb dX7_hindsight_278 (by decide) ?_
                                  exact ih253  (k5 + 1) (uI P2 k5 (N3 k5)) hB_4 (by omega) (by intro j q1 q2; by_cases q : j = k5; (rw [q, uI_s]); (rw [uI_n _ _ _ q]; exact hc j q1 (by omega))) (by omega) _ _ hP hD hS _ (lv_sub hl [1, 2, 3, 4, 0] rfl)
                            exact L253_4 10000 0 P1 hB_P1 (by omega) (by intro j q1 q2; omega) (by omega) _ _ hP hD hS _ (lv_sub hl [1, 2, 3, 4, 0] rfl)
                          ·
                            refine lv_aload_n hx hb dX7_hindsight_105 rfl (lv_at hl 0 rfl) ?_
                            refine va_get (D := D) (ci := 7) (v := .ref m0) (C := RX7) (T := TX7) (N := 22) hx hb hts in_X7_hindsight_X7 hown hK hP 0 rfl rfl 0 (by decide) (hts _ lk_X7_hindsight_4) (fun _ h9 => h9) rfl dX7_hindsight_106 ?_
                            refine lv_bipush (v := iI 7) hx hb dX7_hindsight_109 (by decide +kernel) ?_
                            refine q_iald hx hb hK hP 1 0 rfl rfl (by omega) (by omega) (by decide) dX7_hindsight_111 ?_
                            have hb111 := hB_se 7
                            refine lv_istore (lv' := [(5, .int (iI (se 7))), (0, .ref mo), (1, .int (iI cn)), (2, .int (iI t)), (3, .int (iI (bdS ld se t))), (4, .int (iI k))]) hx hb dX7_hindsight_112 hl (by decide) rfl (fun ls hl => ?_)
                            have L114_4 : ∀ (n : Nat), ∀ (x : Int) (N4 : Int → Int), (hB_N4 : BB 0 1000000000 N4) → (hxx : se 7 ≤ x ∧ x ≤ se 8 + 1) → (hI : GM ld se P1 t (PG k x) N4) → (13 - x) < (n : Int) → ∀ (H : Heap) (locs : List Loc), va_P D vwCl [(mo, .inr (7, [.ref m0, .ref m1, .ref m2, .ref m3, .ref m4, .ref m5, .ref m6, .ref m7, .ref m8, .ref m9, .ref m10, .ref m11, .ref m12, .ref m13, .ref m14, .ref m15, .ref m16, .ref m17, .ref m18, .ref m19, .int (iI aa), .ref m21])), (m0, .inl (cI, 19, .inl (ia se))), (m3, .inl (cI, 200, .inl (ia ld))), (m18, .inl (cI, 8645, .inl (ia P1))), (m19, .inl (cI, 8645, .inl (ia N4)))] H → va_D A [(mo, .inr (7, [.ref m0, .ref m1, .ref m2, .ref m3, .ref m4, .ref m5, .ref m6, .ref m7, .ref m8, .ref m9, .ref m10, .ref m11, .ref m12, .ref m13, .ref m14, .ref m15, .ref m16, .ref m17, .ref m18, .ref m19, .int (iI aa), .ref m21])), (m0, .inl (cI, 19, .inl (ia se))), (m3, .inl (cI, 200, .inl (ia ld))), (m18, .inl (cI, 8645, .inl (ia P1))), (m19, .inl (cI, 8645, .inl (ia N4)))] → va_S A s.heap H locs → ∀ ls : Array Slot, lv_has ls 8 [(0, .ref mo), (1, .int (iI cn)), (2, .int (iI t)), (3, .int (iI (bdS ld se t))), (4, .int (iI k)), (5, .int (iI x))] → W p l e R s m args below meth c H locs 0 0 Q (F0 m 114 ls []) := by
                              intro n
                              induction n with
                              | zero => intro x N4 hB_N4 hxx hI hm; exact absurd hm (by omega)
                              | succ n ih114 =>
                                intro x N4 hB_N4 hxx hI hm H locs hP hD hS ls hl
                                refine lv_iload hx hb dX7_hindsight_114 (lv_at hl 5 rfl) ?_
                                refine lv_aload_n hx hb dX7_hindsight_116 rfl (lv_at hl 0 rfl) ?_
                                refine va_get (D := D) (ci := 7) (v := .ref m0) (C := RX7) (T := TX7) (N := 22) hx hb hts in_X7_hindsight_X7 hown hK hP 0 rfl rfl 0 (by decide) (hts _ lk_X7_hindsight_4) (fun _ h9 => h9) rfl dX7_hindsight_117 ?_
                                refine lv_bipush (v := iI 8) hx hb dX7_hindsight_120 (by decide +kernel) ?_
                                refine q_iald hx hb hK hP 1 0 rfl rfl (by omega) (by omega) (by decide) dX7_hindsight_122 ?_
                                have hb122 := hB_se 8
                                refine q_icmp_gt (tgt := 244) hx hb dX7_hindsight_123 (by decide) ⟨by omega, by omega⟩ ⟨by omega, by omega⟩ (fun c123 => ?_) (fun c123 => ?_)
                                ·
                                  refine q_iinc (k := 4) (lv' := [(4, .int (iI (k + 1))), (0, .ref mo), (1, .int (iI cn)), (2, .int (iI t)), (3, .int (iI (bdS ld se t))), (5, .int (iI x))]) hx hb dX7_hindsight_244 hl rfl (by decide) rfl (fun ls hl => ?_)
                                  refine lv_goto (tgt := 97) hx hb dX7_hindsight_247 (by decide) ?_
                                  exact ih97  (k + 1) N4 hB_N4 (by omega) (by exact GM_out hI (by omega)) (by omega) _ _ hP hD hS _ (lv_sub hl [1, 2, 3, 4, 0] rfl)
                                ·
                                  refine lv_aload_n hx hb dX7_hindsight_126 rfl (lv_at hl 0 rfl) ?_
                                  refine va_get (D := D) (ci := 7) (v := .ref m18) (C := RX7) (T := TX7) (N := 22) hx hb hts in_X7_hindsight_X7 hown hK hP 0 rfl rfl 18 (by decide) (hts _ lk_X7_hindsight_2) (fun _ h9 => h9) rfl dX7_hindsight_127 ?_
                                  refine lv_iload hx hb dX7_hindsight_130 (lv_at hl 4 rfl) ?_
                                  refine q_iald hx hb hK hP 3 0 rfl rfl (by omega) (by omega) (by decide) dX7_hindsight_132 ?_
                                  have hb132 := hB_P1 k
                                  refine lv_ldc (v := iI 1000000000) hx hb hown (hts _ lk_X7_hindsight_3) dX7_hindsight_133 ?_
                                  refine q_icmp_ge (tgt := 244) hx hb dX7_hindsight_135 (by decide) ⟨by omega, by omega⟩ ⟨by decide, by decide⟩ (fun c135 => ?_) (fun c135 => ?_)
                                  ·
                                    refine q_iinc (k := 4) (lv' := [(4, .int (iI (k + 1))), (0, .ref mo), (1, .int (iI cn)), (2, .int (iI t)), (3, .int (iI (bdS ld se t))), (5, .int (iI x))]) hx hb dX7_hindsight_244 hl rfl (by decide) rfl (fun ls hl => ?_)
                                    refine lv_goto (tgt := 97) hx hb dX7_hindsight_247 (by decide) ?_
                                    exact ih97  (k + 1) N4 hB_N4 (by omega) (by exact GM_out hI (by omega)) (by omega) _ _ hP hD hS _ (lv_sub hl [1, 2, 3, 4, 0] rfl)
                                  ·
                                    have hlf := LF_b (t := t) (x := x) (j := k) hB_ld hse (by omega) (by omega)
                                    have hbl := hB_ld t
                                    have hvl := VL_b (se := se) (pr := P1) (j := k) (x := x) hse (by omega) (hB_P1 k)
                                    have hvz : 0 ≤ x + max 0 (x - k % 13) ∧ x + max 0 (x - k % 13) ≤ 24 := by omega
                                    refine lv_iconst (v := iI 0) hx hb dX7_hindsight_138 rfl ?_
                                    refine lv_iload hx hb dX7_hindsight_139 (lv_at hl 4 rfl) ?_
                                    refine lv_bipush (v := iI 13) hx hb dX7_hindsight_141 (by decide +kernel) ?_
                                    refine q_idiv hx hb dX7_hindsight_143 ⟨by omega, by omega⟩ ⟨by omega, by omega⟩ ?_
                                    refine lv_aload_n hx hb dX7_hindsight_144 rfl (lv_at hl 0 rfl) ?_
                                    refine va_get (D := D) (ci := 7) (v := .ref m3) (C := RX7) (T := TX7) (N := 22) hx hb hts in_X7_hindsight_X7 hown hK hP 0 rfl rfl 3 (by decide) (hts _ lk_X7_hindsight_6) (fun _ h9 => h9) rfl dX7_hindsight_145 ?_
                                    refine lv_iload_n hx hb dX7_hindsight_148 rfl (lv_at hl 2 rfl) ?_
                                    refine q_iald hx hb hK hP 2 0 rfl rfl (by omega) (by omega) (by decide) dX7_hindsight_149 ?_
                                    have hb149 := hB_ld t
                                    refine q_iadd hx hb dX7_hindsight_150 ?_
                                    refine lv_iload hx hb dX7_hindsight_151 (lv_at hl 5 rfl) ?_
                                    refine lv_aload_n hx hb dX7_hindsight_153 rfl (lv_at hl 0 rfl) ?_
                                    refine va_get (D := D) (ci := 7) (v := .ref m0) (C := RX7) (T := TX7) (N := 22) hx hb hts in_X7_hindsight_X7 hown hK hP 0 rfl rfl 0 (by decide) (hts _ lk_X7_hindsight_4) (fun _ h9 => h9) rfl dX7_hindsight_154 ?_
                                    refine lv_iconst (v := iI 2) hx hb dX7_hindsight_157 rfl ?_
                                    refine q_iald hx hb hK hP 1 0 rfl rfl (by omega) (by omega) (by decide) dX7_hindsight_158 ?_
                                    have hb158 := hB_se 2
                                    refine q_imul hx hb dX7_hindsight_159 ?_
                                    refine q_isub hx hb dX7_hindsight_160 ?_
                                    refine q_callSI (wr := [(mo, .inr (7, [.ref m0, .ref m1, .ref m2, .ref m3, .ref m4, .ref m5, .ref m6, .ref m7, .ref m8, .ref m9, .ref m10, .ref m11, .ref m12, .ref m13, .ref m14, .ref m15, .ref m16, .ref m17, .ref m18, .ref m19, .int (iI aa), .ref m21])), (m0, .inl (cI, 19, .inl (ia se))), (m3, .inl (cI, 200, .inl (ia ld))), (m18, .inl (cI, 8645, .inl (ia P1))), (m19, .inl (cI, 8645, .inl (ia N4)))]) (wn := fun (u : Unit) => [(mo, .inr (7, [.ref m0, .ref m1, .ref m2, .ref m3, .ref m4, .ref m5, .ref m6, .ref m7, .ref m8, .ref m9, .ref m10, .ref m11, .ref m12, .ref m13, .ref m14, .ref m15, .ref m16, .ref m17, .ref m18, .ref m19, .int (iI aa), .ref m21])), (m0, .inl (cI, 19, .inl (ia se))), (m3, .inl (cI, 200, .inl (ia ld))), (m18, .inl (cI, 8645, .inl (ia P1))), (m19, .inl (cI, 8645, .inl (ia N4)))]) (rest := []) [.int (iI 0), .int (iI (((k / 13) + (ld t)) - (x * (se 2))))] ⟨hx, hb, hml, hown, hts⟩ (c_X7_most l D cI cZ cII 0 (((k / 13) + (ld t)) - (x * (se 2))) ⟨by omega, by omega⟩ ⟨by omega, by omega⟩) (va_cwS 2 hts gX7_hindsight_X7_most rfl rfl rfl (by decide +kernel) (by rw [hRf, hRl]; exact ⟨Nat.le_of_ble_eq_true rfl, Nat.le_of_ble_eq_true rfl⟩)) hK hP hD hS hA hN [] [0, 1, 2, 3, 4] [0, 1, 2, 3, 4] rfl rfl rfl rfl (by decide) rfl (fun u => rfl) rfl hl.1 rfl (Nat.le_of_ble_eq_true rfl) dX7_hindsight_161 ⟨Nat.zero_le _, Nat.zero_le _⟩ (fun z u H locs hw hP hD hS => ?_)
                                    have hP : va_P D vwCl [(mo, .inr (7, [.ref m0, .ref m1, .ref m2, .ref m3, .ref m4, .ref m5, .ref m6, .ref m7, .ref m8, .ref m9, .ref m10, .ref m11, .ref m12, .ref m13, .ref m14, .ref m15, .ref m16, .ref m17, .ref m18, .ref m19, .int (iI aa), .ref m21])), (m0, .inl (cI, 19, .inl (ia se))), (m3, .inl (cI, 200, .inl (ia ld))), (m18, .inl (cI, 8645, .inl (ia P1))), (m19, .inl (cI, 8645, .inl (ia N4)))] H := hP
                                    have hD : va_D A [(mo, .inr (7, [.ref m0, .ref m1, .ref m2, .ref m3, .ref m4, .ref m5, .ref m6, .ref m7, .ref m8, .ref m9, .ref m10, .ref m11, .ref m12, .ref m13, .ref m14, .ref m15, .ref m16, .ref m17, .ref m18, .ref m19, .int (iI aa), .ref m21])), (m0, .inl (cI, 19, .inl (ia se))), (m3, .inl (cI, 200, .inl (ia ld))), (m18, .inl (cI, 8645, .inl (ia P1))), (m19, .inl (cI, 8645, .inl (ia N4)))] := hD
                                    obtain ⟨z_5, ez⟩ : ∃ y : Int, y = z := ⟨_, rfl⟩
                                    rw [← ez] at hw ⊢
                                    clear ez
                                    have w161 : z_5 = (max (0 : Int) (((k / 13) + (ld t)) - (x * (se 2)))) := hw
                                    clear hw
                                    subst w161
                                    refine q_top (b := (LF ld se t k x)) (by rfl) ?_
                                    refine lv_istore (lv' := [(6, .int (iI (LF ld se t k x))), (0, .ref mo), (1, .int (iI cn)), (2, .int (iI t)), (3, .int (iI (bdS ld se t))), (4, .int (iI k)), (5, .int (iI x))]) hx hb dX7_hindsight_164 hl (by decide) rfl (fun ls hl => ?_)
                                    refine lv_aload_n hx hb dX7_hindsight_166 rfl (lv_at hl 1 rfl) ?_
                                    refine va_get (D := D) (ci := 7) (v := .ref m18) (C := RX7) (T := TX7) (N := 22) hx hb hts in_X7_hindsight_X7 hown hK hP 0 rfl rfl 18 (by decide) (hts _ lk_X7_hindsight_2) (fun _ h9 => h9) rfl dX7_hindsight_167 ?_
                                    refine lv_iload hx hb dX7_hindsight_170 (lv_at hl 5 rfl) ?_
                                    refine q_iald hx hb hK hP 3 0 rfl rfl (by omega) (by omega) (by decide) dX7_hindsight_172 ?_
                                    have hb172 := hB_P1 k
                                    refine lv_aload_n hx hb dX7_hindsight_173 rfl (lv_at hl 1 rfl) ?_
                                    refine va_get (D := D) (ci := 7) (v := .ref m0) (C := RX7) (T := TX7) (N := 22) hx hb hts in_X7_hindsight_X7 hown hK hP 0 rfl rfl 0 (by decide) (hts _ lk_X7_hindsight_4) (fun _ h9 => h9) rfl dX7_hindsight_174 ?_
                                    refine lv_bipush (v := iI 16) hx hb dX7_hindsight_177 (by decide +kernel) ?_
                                    refine q_iald hx hb hK hP 1 0 rfl rfl (by omega) (by omega) (by decide) dX7_hindsight_179 ?_
                                    have hb179 := hB_se 16
                                    refine lv_iload hx hb dX7_hindsight_180 (lv_at hl 6 rfl) ?_
                                    refine lv_iconst (v := iI 0) hx hb dX7_hindsight_182 rfl ?_
                                    refine lv_iload hx hb dX7_hindsight_183 (lv_at hl 6 rfl) ?_
                                    refine lv_iload hx hb dX7_hindsight_185 (lv_at hl 5 rfl) ?_
                                    refine lv_bipush (v := iI 13) hx hb dX7_hindsight_187 (by decide +kernel) ?_
                                    refine q_irem hx hb dX7_hindsight_189 ⟨by omega, by omega⟩ ⟨by omega, by omega⟩ ?_
                                    refine q_isub hx hb dX7_hindsight_190 ?_
                                    refine q_callSI (wr := [(mo, .inr (7, [.ref m0, .ref m1, .ref m2, .ref m3, .ref m4, .ref m5, .ref m6, .ref m7, .ref m8, .ref m9, .ref m10, .ref m11, .ref m12, .ref m13, .ref m14, .ref m15, .ref m16, .ref m17, .ref m18, .ref m19, .int (iI aa), .ref m21])), (m0, .inl (cI, 19, .inl (ia se))), (m3, .inl (cI, 200, .inl (ia ld))), (m18, .inl (cI, 8645, .inl (ia P1))), (m19, .inl (cI, 8645, .inl (ia N4)))]) (wn := fun (u : Unit) => [(mo, .inr (7, [.ref m0, .ref m1, .ref m2, .ref m3, .ref m4, .ref m5, .ref m6, .ref m7, .ref m8, .ref m9, .ref m10, .ref m11, .ref m12, .ref m13, .ref m14, .ref m15, .ref m16, .ref m17, .ref m18, .ref m19, .int (iI aa), .ref m21])), (m0, .inl (cI, 19, .inl (ia se))), (m3, .inl (cI, 200, .inl (ia ld))), (m18, .inl (cI, 8645, .inl (ia P1))), (m19, .inl (cI, 8645, .inl (ia N4)))]) (rest := [.int (iI x), .int (iI (se 16)), .int (iI (P1 k))]) [.int (iI 0), .int (iI (x - (k % 13)))] ⟨hx, hb, hml, hown, hts⟩ (c_X7_most l D cI cZ cII 0 (x - (k % 13)) ⟨by omega, by omega⟩ ⟨by omega, by omega⟩) (va_cwS 2 hts gX7_hindsight_X7_most rfl rfl rfl (by decide +kernel) (by rw [hRf, hRl]; exact ⟨Nat.le_of_ble_eq_true rfl, Nat.le_of_ble_eq_true rfl⟩)) hK hP hD hS hA hN [] [0, 1, 2, 3, 4] [0, 1, 2, 3, 4] rfl rfl rfl rfl (by decide) rfl (fun u => rfl) rfl hl.1 rfl (Nat.le_of_ble_eq_true rfl) dX7_hindsight_191 ⟨Nat.zero_le _, Nat.zero_le _⟩ (fun z u H locs hw hP hD hS => ?_)
                                    have hP : va_P D vwCl [(mo, .inr (7, [.ref m0, .ref m1, .ref m2, .ref m3, .ref m4, .ref m5, .ref m6, .ref m7, .ref m8, .ref m9, .ref m10, .ref m11, .ref m12, .ref m13, .ref m14, .ref m15, .ref m16, .ref m17, .ref m18, .ref m19, .int (iI aa), .ref m21])), (m0, .inl (cI, 19, .inl (ia se))), (m3, .inl (cI, 200, .inl (ia ld))), (m18, .inl (cI, 8645, .inl (ia P1))), (m19, .inl (cI, 8645, .inl (ia N4)))] H := hP
                                    have hD : va_D A [(mo, .inr (7, [.ref m0, .ref m1, .ref m2, .ref m3, .ref m4, .ref m5, .ref m6, .ref m7, .ref m8, .ref m9, .ref m10, .ref m11, .ref m12, .ref m13, .ref m14, .ref m15, .ref m16, .ref m17, .ref m18, .ref m19, .int (iI aa), .ref m21])), (m0, .inl (cI, 19, .inl (ia se))), (m3, .inl (cI, 200, .inl (ia ld))), (m18, .inl (cI, 8645, .inl (ia P1))), (m19, .inl (cI, 8645, .inl (ia N4)))] := hD
                                    obtain ⟨z_6, ez⟩ : ∃ y : Int, y = z := ⟨_, rfl⟩
                                    rw [← ez] at hw ⊢
                                    clear ez
                                    have w191 : z_6 = (max (0 : Int) (x - (k % 13))) := hw
                                    clear hw
                                    subst w191
                                    refine q_iadd hx hb dX7_hindsight_194 ?_
                                    refine q_imul hx hb dX7_hindsight_195 ?_
                                    refine q_iadd hx hb dX7_hindsight_196 ?_
                                    refine q_top (b := (VL se P1 k x)) (by rfl) ?_
                                    refine lv_istore (lv' := [(7, .int (iI (VL se P1 k x))), (6, .int (iI (LF ld se t k x))), (0, .ref mo), (1, .int (iI cn)), (2, .int (iI t)), (3, .int (iI (bdS ld se t))), (4, .int (iI k)), (5, .int (iI x))]) hx hb dX7_hindsight_197 hl (by decide) rfl (fun ls hl => ?_)
                                    refine lv_iload hx hb dX7_hindsight_199 (lv_at hl 1 rfl) ?_
                                    refine lv_iload_n hx hb dX7_hindsight_201 rfl (lv_at hl 5 rfl) ?_
                                    refine q_icmp_gt (tgt := 238) hx hb dX7_hindsight_202 (by decide) ⟨by omega, by omega⟩ ⟨by omega, by omega⟩ (fun c202 => ?_) (fun c202 => ?_)
                                    ·
                                      refine q_iinc (k := 7) (lv' := [(5, .int (iI (x + 1))), (7, .int (iI (VL se P1 k x))), (6, .int (iI (LF ld se t k x))), (0, .ref mo), (1, .int (iI cn)), (2, .int (iI t)), (3, .int (iI (bdS ld se t))), (4, .int (iI k))]) hx hb dX7_hindsight_238 hl rfl (by decide) rfl (fun ls hl => ?_)
                                      refine lv_goto (tgt := 114) hx hb dX7_hindsight_241 (by decide) ?_
                                      exact ih114  (x + 1) N4 hB_N4 (by omega) (by first | exact GM_skip hI (by omega) | exact GM_upd hI (by omega) (by omega) (by omega) (by omega) (by rfl) (by rfl) (by omega) | exact GM_no hI (by omega)) (by omega) _ _ hP hD hS _ (lv_sub hl [3, 4, 5, 6, 7, 0] rfl)
                                    ·
                                      refine lv_iload hx hb dX7_hindsight_205 (lv_at hl 0 rfl) ?_
                                      refine lv_aload_n hx hb dX7_hindsight_207 rfl (lv_at hl 2 rfl) ?_
                                      refine va_get (D := D) (ci := 7) (v := .ref m19) (C := RX7) (T := TX7) (N := 22) hx hb hts in_X7_hindsight_X7 hown hK hP 0 rfl rfl 19 (by decide) (hts _ lk_X7_hindsight_5) (fun _ h9 => h9) rfl dX7_hindsight_208 ?_
                                      refine lv_bipush (v := iI 13) hx hb dX7_hindsight_211 (by decide +kernel) ?_
                                      refine lv_iload hx hb dX7_hindsight_213 (lv_at hl 1 rfl) ?_
                                      refine q_imul hx hb dX7_hindsight_215 ?_
                                      refine lv_iload hx hb dX7_hindsight_216 (lv_at hl 7 rfl) ?_
                                      refine q_iadd hx hb dX7_hindsight_218 ?_
                                      refine q_iald hx hb hK hP 4 0 rfl rfl (by omega) (by omega) (by decide) dX7_hindsight_219 ?_
                                      have hb219 := hB_N4 ((13 * (LF ld se t k x)) + x)
                                      refine q_icmp_ge (tgt := 238) hx hb dX7_hindsight_220 (by decide) ⟨by omega, by omega⟩ ⟨by omega, by omega⟩ (fun c220 => ?_) (fun c220 => ?_)
                                      ·
                                        refine q_iinc (k := 7) (lv' := [(5, .int (iI (x + 1))), (7, .int (iI (VL se P1 k x))), (6, .int (iI (LF ld se t k x))), (0, .ref mo), (1, .int (iI cn)), (2, .int (iI t)), (3, .int (iI (bdS ld se t))), (4, .int (iI k))]) hx hb dX7_hindsight_238 hl rfl (by decide) rfl (fun ls hl => ?_)
                                        refine lv_goto (tgt := 114) hx hb dX7_hindsight_241 (by decide) ?_
                                        exact ih114  (x + 1) N4 hB_N4 (by omega) (by first | exact GM_skip hI (by omega) | exact GM_upd hI (by omega) (by omega) (by omega) (by omega) (by rfl) (by rfl) (by omega) | exact GM_no hI (by omega)) (by omega) _ _ hP hD hS _ (lv_sub hl [3, 4, 5, 6, 7, 0] rfl)
                                      ·
                                        refine lv_aload_n hx hb dX7_hindsight_223 rfl (lv_at hl 2 rfl) ?_
                                        refine va_get (D := D) (ci := 7) (v := .ref m19) (C := RX7) (T := TX7) (N := 22) hx hb hts in_X7_hindsight_X7 hown hK hP 0 rfl rfl 19 (by decide) (hts _ lk_X7_hindsight_5) (fun _ h9 => h9) rfl dX7_hindsight_224 ?_
                                        refine lv_bipush (v := iI 13) hx hb dX7_hindsight_227 (by decide +kernel) ?_
                                        refine lv_iload hx hb dX7_hindsight_229 (lv_at hl 1 rfl) ?_
                                        refine q_imul hx hb dX7_hindsight_231 ?_
                                        refine lv_iload hx hb dX7_hindsight_232 (lv_at hl 7 rfl) ?_
                                        refine q_iadd hx hb dX7_hindsight_234 ?_
                                        refine lv_iload hx hb dX7_hindsight_235 (lv_at hl 0 rfl) ?_
                                        refine q_iast hx hb hK hP hD hS 4 0 rfl rfl (by omega) (by omega) (by decide) dX7_hindsight_237 (fun H locs hP hD hS => ?_)
                                        have hP : va_P D vwCl [(mo, .inr (7, [.ref m0, .ref m1, .ref m2, .ref m3, .ref m4, .ref m5, .ref m6, .ref m7, .ref m8, .ref m9, .ref m10, .ref m11, .ref m12, .ref m13, .ref m14, .ref m15, .ref m16, .ref m17, .ref m18, .ref m19, .int (iI aa), .ref m21])), (m0, .inl (cI, 19, .inl (ia se))), (m3, .inl (cI, 200, .inl (ia ld))), (m18, .inl (cI, 8645, .inl (ia P1))), (m19, .inl (cI, 8645, .inl (ia (uI N4 ((13 * (LF ld se t k x)) + x) (VL se P1 k x)))))] H := hP
                                        have hD : va_D A [(mo, .inr (7, [.ref m0, .ref m1, .ref m2, .ref m3, .ref m4, .ref m5, .ref m6, .ref m7, .ref m8, .ref m9, .ref m10, .ref m11, .ref m12, .ref m13, .ref m14, .ref m15, .ref m16, .ref m17, .ref m18, .ref m19, .int (iI aa), .ref m21])), (m0, .inl (cI, 19, .inl (ia se))), (m3, .inl (cI, 200, .inl (ia ld))), (m18, .inl (cI, 8645, .inl (ia P1))), (m19, .inl (cI, 8645, .inl (ia (uI N4 ((13 * (LF ld se t k x)) + x) (VL se P1 k x)))))] := hD
                                        have hB_7 : BB 0 1000000000 (uI N4 ((13 * (LF ld se t k x)) + x) (VL se P1 k x)) := BB_uI hB_N4 (by omega)
                                        refine q_iinc (k := 7) (lv' := [(5, .int (iI (x + 1))), (7, .int (iI (VL se P1 k x))), (6, .int (iI (LF ld se t k x))), (0, .ref mo), (1, .int (iI cn)), (2, .int (iI t)), (3, .int (iI (bdS ld se t))), (4, .int (iI k))]) hx hb dX7_hindsight_238 hl rfl (by decide) rfl (fun ls hl => ?_)
                                        refine lv_goto (tgt := 114) hx hb dX7_hindsight_241 (by decide) ?_
                                        exact ih114  (x + 1) (uI N4 ((13 * (LF ld se t k x)) + x) (VL se P1 k x)) hB_7 (by omega) (by first | exact GM_skip hI (by omega) | exact GM_upd hI (by omega) (by omega) (by omega) (by omega) (by rfl) (by rfl) (by omega) | exact GM_no hI (by omega)) (by omega) _ _ hP hD hS _ (lv_sub hl [3, 4, 5, 6, 7, 0] rfl)
                            exact L114_4 100 (se 7) N3 hB_N3 (by omega) (by exact GM_in hG) (by omega) _ _ hP hD hS _ (lv_sub hl [1, 2, 3, 4, 5, 0] rfl)
                      exact L97_3 10000 0 N2 hB_N2 (by omega) (by exact GM_0 hf2 (by omega)) (by omega) _ _ hP hD hS _ (lv_sub hl [1, 2, 3, 4, 0] rfl)
                    ·
                      refine lv_aload_n hx hb dX7_hindsight_79 rfl (lv_at hl 0 rfl) ?_
                      refine va_get (D := D) (ci := 7) (v := .ref m19) (C := RX7) (T := TX7) (N := 22) hx hb hts in_X7_hindsight_X7 hown hK hP 0 rfl rfl 19 (by decide) (hts _ lk_X7_hindsight_5) (fun _ h9 => h9) rfl dX7_hindsight_80 ?_
                      refine lv_iload hx hb dX7_hindsight_83 (lv_at hl 4 rfl) ?_
                      refine lv_ldc (v := iI 1000000000) hx hb hown (hts _ lk_X7_hindsight_3) dX7_hindsight_85 ?_
                      refine q_iast hx hb hK hP hD hS 4 0 rfl rfl (by omega) (by omega) (by decide) dX7_hindsight_87 (fun H locs hP hD hS => ?_)
                      have hP : va_P D vwCl [(mo, .inr (7, [.ref m0, .ref m1, .ref m2, .ref m3, .ref m4, .ref m5, .ref m6, .ref m7, .ref m8, .ref m9, .ref m10, .ref m11, .ref m12, .ref m13, .ref m14, .ref m15, .ref m16, .ref m17, .ref m18, .ref m19, .int (iI aa), .ref m21])), (m0, .inl (cI, 19, .inl (ia se))), (m3, .inl (cI, 200, .inl (ia ld))), (m18, .inl (cI, 8645, .inl (ia P1))), (m19, .inl (cI, 8645, .inl (ia (uI N2 k2 1000000000))))] H := hP
                      have hD : va_D A [(mo, .inr (7, [.ref m0, .ref m1, .ref m2, .ref m3, .ref m4, .ref m5, .ref m6, .ref m7, .ref m8, .ref m9, .ref m10, .ref m11, .ref m12, .ref m13, .ref m14, .ref m15, .ref m16, .ref m17, .ref m18, .ref m19, .int (iI aa), .ref m21])), (m0, .inl (cI, 19, .inl (ia se))), (m3, .inl (cI, 200, .inl (ia ld))), (m18, .inl (cI, 8645, .inl (ia P1))), (m19, .inl (cI, 8645, .inl (ia (uI N2 k2 1000000000))))] := hD
                      have hB_8 : BB 0 1000000000 (uI N2 k2 1000000000) := BB_uI hB_N2 (by omega)
                      refine q_iinc (k := 4) (lv' := [(4, .int (iI (k2 + 1))), (0, .ref mo), (1, .int (iI cn)), (2, .int (iI t)), (3, .int (iI (bdS ld se t)))]) hx hb dX7_hindsight_88 hl rfl (by decide) rfl (fun ls hl => ?_)
                      refine lv_goto (tgt := 71) hx hb dX7_hindsight_91 (by decide) ?_
                      exact ih71  (k2 + 1) (uI N2 k2 1000000000) hB_8 (by omega) (by intro j q1 q2; by_cases q : j = k2; (rw [q, uI_s]); (rw [uI_n _ _ _ q]; exact hf2 j q1 (by omega))) (by omega) _ _ hP hD hS _ (lv_sub hl [1, 2, 3, 4, 0] rfl)
                exact L71_2 10000 0 N1 hB_N1 (by omega) (by intro j q1 q2; omega) (by omega) _ _ hP hD hS _ (lv_sub hl [2, 3, 4, 1, 0] rfl)
          exact L49_1 100 0 P0 nx hB_P0 hB_nx (by omega) (by exact PM_0 hf1 (by omega)) (by omega) _ _ hP hD hS _ (lv_sub hl [1, 2, 0] rfl)
        ·
          refine lv_aload_n hx hb dX7_hindsight_25 rfl (lv_at hl 0 rfl) ?_
          refine va_get (D := D) (ci := 7) (v := .ref m18) (C := RX7) (T := TX7) (N := 22) hx hb hts in_X7_hindsight_X7 hown hK hP 0 rfl rfl 18 (by decide) (hts _ lk_X7_hindsight_2) (fun _ h9 => h9) rfl dX7_hindsight_26 ?_
          refine lv_iload_n hx hb dX7_hindsight_29 rfl (lv_at hl 2 rfl) ?_
          refine lv_iload_n hx hb dX7_hindsight_30 rfl (lv_at hl 2 rfl) ?_
          refine q_if_ne (tgt := 38) hx hb dX7_hindsight_31 (by decide) ⟨by omega, by omega⟩ (fun c31 => ?_) (fun c31 => ?_)
          ·
            refine lv_ldc (v := iI 1000000000) hx hb hown (hts _ lk_X7_hindsight_3) dX7_hindsight_38 ?_
            refine q_iast hx hb hK hP hD hS 3 0 rfl rfl (by omega) (by omega) (by decide) dX7_hindsight_40 (fun H locs hP hD hS => ?_)
            have hP : va_P D vwCl [(mo, .inr (7, [.ref m0, .ref m1, .ref m2, .ref m3, .ref m4, .ref m5, .ref m6, .ref m7, .ref m8, .ref m9, .ref m10, .ref m11, .ref m12, .ref m13, .ref m14, .ref m15, .ref m16, .ref m17, .ref m18, .ref m19, .int (iI aa), .ref m21])), (m0, .inl (cI, 19, .inl (ia se))), (m3, .inl (cI, 200, .inl (ia ld))), (m18, .inl (cI, 8645, .inl (ia (uI P0 k1 1000000000)))), (m19, .inl (cI, 8645, .inl (ia nx)))] H := hP
            have hD : va_D A [(mo, .inr (7, [.ref m0, .ref m1, .ref m2, .ref m3, .ref m4, .ref m5, .ref m6, .ref m7, .ref m8, .ref m9, .ref m10, .ref m11, .ref m12, .ref m13, .ref m14, .ref m15, .ref m16, .ref m17, .ref m18, .ref m19, .int (iI aa), .ref m21])), (m0, .inl (cI, 19, .inl (ia se))), (m3, .inl (cI, 200, .inl (ia ld))), (m18, .inl (cI, 8645, .inl (ia (uI P0 k1 1000000000)))), (m19, .inl (cI, 8645, .inl (ia nx)))] := hD
            have hB_9 : BB 0 1000000000 (uI P0 k1 1000000000) := BB_uI hB_P0 (by omega)
            refine q_iinc (k := 2) (lv' := [(2, .int (iI (k1 + 1))), (0, .ref mo), (1, .int (iI cn))]) hx hb dX7_hindsight_41 hl rfl (by decide) rfl (fun ls hl => ?_)
            refine lv_goto (tgt := 18) hx hb dX7_hindsight_44 (by decide) ?_
            exact ih18  (k1 + 1) (uI P0 k1 1000000000) hB_9 (by omega) (by intro j q1 q2; by_cases q : j = k1; (rw [q, uI_s]; first | rw [if_pos (by omega)] | rw [if_neg (by omega)]); (rw [uI_n _ _ _ q]; exact hf1 j q1 (by omega))) (by omega) _ _ hP hD hS _ (lv_sub hl [1, 2, 0] rfl)
          ·
            refine lv_iconst (v := iI 0) hx hb dX7_hindsight_34 rfl ?_
            refine lv_goto (tgt := 40) hx hb dX7_hindsight_35 (by decide) ?_
            refine q_iast hx hb hK hP hD hS 3 0 rfl rfl (by omega) (by omega) (by decide) dX7_hindsight_40 (fun H locs hP hD hS => ?_)
            have hP : va_P D vwCl [(mo, .inr (7, [.ref m0, .ref m1, .ref m2, .ref m3, .ref m4, .ref m5, .ref m6, .ref m7, .ref m8, .ref m9, .ref m10, .ref m11, .ref m12, .ref m13, .ref m14, .ref m15, .ref m16, .ref m17, .ref m18, .ref m19, .int (iI aa), .ref m21])), (m0, .inl (cI, 19, .inl (ia se))), (m3, .inl (cI, 200, .inl (ia ld))), (m18, .inl (cI, 8645, .inl (ia (uI P0 k1 0)))), (m19, .inl (cI, 8645, .inl (ia nx)))] H := hP
            have hD : va_D A [(mo, .inr (7, [.ref m0, .ref m1, .ref m2, .ref m3, .ref m4, .ref m5, .ref m6, .ref m7, .ref m8, .ref m9, .ref m10, .ref m11, .ref m12, .ref m13, .ref m14, .ref m15, .ref m16, .ref m17, .ref m18, .ref m19, .int (iI aa), .ref m21])), (m0, .inl (cI, 19, .inl (ia se))), (m3, .inl (cI, 200, .inl (ia ld))), (m18, .inl (cI, 8645, .inl (ia (uI P0 k1 0)))), (m19, .inl (cI, 8645, .inl (ia nx)))] := hD
            have hB_10 : BB 0 1000000000 (uI P0 k1 0) := BB_uI hB_P0 (by omega)
            refine q_iinc (k := 2) (lv' := [(2, .int (iI (k1 + 1))), (0, .ref mo), (1, .int (iI cn))]) hx hb dX7_hindsight_41 hl rfl (by decide) rfl (fun ls hl => ?_)
            refine lv_goto (tgt := 18) hx hb dX7_hindsight_44 (by decide) ?_
            exact ih18  (k1 + 1) (uI P0 k1 0) hB_10 (by omega) (by intro j q1 q2; by_cases q : j = k1; (rw [q, uI_s]; first | rw [if_pos (by omega)] | rw [if_neg (by omega)]); (rw [uI_n _ _ _ q]; exact hf1 j q1 (by omega))) (by omega) _ _ hP hD hS _ (lv_sub hl [1, 2, 0] rfl)
    exact L18_0 10000 0 pr hB_pr (by omega) (by intro j q1 q2; omega) (by omega) _ _ hP hD hS _ (lv_sub hl [1, 2, 0] rfl)
  ·
    refine q_if_ne (tgt := 16) hx hb dX7_hindsight_9 (by decide) ⟨by decide, by decide⟩ (fun h => absurd h (by decide)) (fun _ => ?_)
    refine lv_sipush (v := iI (-1002)) hx hb dX7_hindsight_12 (by decide +kernel) ?_
    rw [hQ]
    refine q_retI (pr, nx) hx hb hr hlocks hK hP hD hS dX7_hindsight_15 ?_
    try dsimp only
    first | exact ⟨Or.inl ⟨rfl, by omega⟩, hB_pr, hB_nx⟩ | exact ⟨Or.inr ⟨by omega, PM_fin hB_ld hse (by omega) (by omega) hM (by omega) hle.2 (fun q => by obtain ⟨l, a1, a2, a3⟩ := h1 q; exact ⟨l, a1, by omega, a3⟩) h2 (by first | rw [if_pos (by omega)] | rw [if_neg (by omega)])⟩, hB_P1, hB_N1⟩

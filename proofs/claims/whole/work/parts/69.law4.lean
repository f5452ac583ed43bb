set_option maxHeartbeats 4000000 in
set_option maxRecDepth 100000 in
/-- the law's loop: at its head the class and the reference are in one state -/
theorem law_loop {p : Program} {l : Launch} {e : Env} {s : State} {m : MethodId} {below : List Frame} {meth : Method} {c : Code} {D : va_G} {cI cZ cII : ClassId} {la ha mh mo b L : Nat} {xs : Nat → Int32} (hL : L ≤ 2048) (C0 : lw_At p s m meth c b L xs)
    (hK : va_K D vwCl (ty3 cI cZ cII) s) (hN : NW s) (hZ : Zs la ha loF hiF (fun q => s.heap.size ≤ q) s) :
    ∀ (n i : Nat), i ≤ L → L + 1 ≤ i + n → ∀ (a : Ab) (se pl ld lm : Int → Int) (X Y : va_W) (H : Heap) (locs : List Loc), GC cI cZ cII mh X a se pl ld lm → GR cI cZ cII mo Y a se pl ld lm → va_P D vwCl (X ++ Y) H → va_D (fun q => s.heap.size ≤ q) (X ++ Y) → va_S (fun q => s.heap.size ≤ q) s.heap H locs → ∀ ls : Array Slot, lv_has ls 4 [(0, .ref b), (1, .ref mh), (2, .ref mo), (3, .int (iI (i : Int)))] →
      W p l e room_1 s m #[Value.ref b] below meth c H locs 600000 7302250 (lw_Z below #[Value.ref b] s) (F0 m 18 ls []) := by
  obtain ⟨hx, hb, hr, hml, hown, hts, hX, hbl, hlocks, hgv⟩ := C0
  have hown : s.vm.findClass RL = some m.cls := hown
  have hts2 : ∀ w ∈ wsL_law, w.before #[Value.ref b] s = true := fun w h => hts w (wsL_law_in w h)
  have hA : ∀ q : Nat, s.heap.size ≤ q → (fun q : Nat => s.heap.size ≤ q) q := fun _ h => h
  have hbA : ¬ (fun q : Nat => s.heap.size ≤ q) b := Nat.not_le.mpr hbl
  intro n
  induction n with
  | zero =>
    intro i h1 h2
    exact absurd h2 (by omega)
  | succ n ih =>
    intro i hi hin a se pl ld lm X Y H locs gC gR hP hD hS ls hl
    refine lv_iload_n hx hb dL_law_18 rfl (lv_at hl 3 rfl) ?_
    refine lv_aload_n hx hb dL_law_19 rfl (lv_at hl 0 rfl) ?_
    refine va_slen hx hb hX hbl hbA hS dL_law_20 ?_
    refine q_bits (b := (L : Int)) (iI_nat L).symm ?_
    refine lv_iconst (v := iI 4) hx hb dL_law_21 rfl ?_
    refine q_isub hx hb dL_law_22 ?_
    refine q_icmp_gt (tgt := 571) hx hb dL_law_23 (by decide) ⟨by omega, by omega⟩ ⟨by omega, by omega⟩ (fun c23 => ?_) (fun c23 => ?_)
    · refine lv_iconst (v := 1) hx hb dL_law_571 (by decide) ?_
      refine va_forget (fun q hq => hS.2.2 q hq) ?_
      exact lw_ret hx hb hr hlocks dL_law_572
    · obtain ⟨z0, e0⟩ : ∃ z : Int, z = (xs ((i : Int) + 0).toNat).toInt := ⟨_, rfl⟩
      obtain ⟨z1, e1⟩ : ∃ z : Int, z = (xs ((i : Int) + 1).toNat).toInt := ⟨_, rfl⟩
      obtain ⟨z2, e2⟩ : ∃ z : Int, z = (xs ((i : Int) + 2).toNat).toInt := ⟨_, rfl⟩
      obtain ⟨z3, e3⟩ : ∃ z : Int, z = (xs ((i : Int) + 3).toNat).toInt := ⟨_, rfl⟩
      have hz1 : IR z1 := by rw [e1]; exact IR_self _
      have hz2 : IR z2 := by rw [e2]; exact IR_self _
      have hz3 : IR z3 := by rw [e3]; exact IR_self _
      have step : ∀ (a : Ab) (se pl ld lm : Int → Int) (X Y : va_W) (H : Heap) (locs : List Loc), GC cI cZ cII mh X a se pl ld lm → GR cI cZ cII mo Y a se pl ld lm → va_P D vwCl (X ++ Y) H → va_D (fun q => s.heap.size ≤ q) (X ++ Y) → va_S (fun q => s.heap.size ≤ q) s.heap H locs → ∀ ls : Array Slot, lv_has ls 4 [(0, .ref b), (1, .ref mh), (2, .ref mo), (3, .int (iI (i : Int)))] →
          W p l e room_1 s m #[Value.ref b] below meth c H locs 600000 7302250 (lw_Z below #[Value.ref b] s) (F0 m 565 ls []) := by
        intro a se pl ld lm X Y H locs gC gR hP hD hS ls hl
        refine q_iinc (k := 3) (lv' := [(3, .int (iI ((i : Int) + 4))), (0, .ref b), (1, .ref mh), (2, .ref mo)]) hx hb dL_law_565 hl rfl (by decide) rfl (fun ls hl => ?_)
        refine lv_goto (tgt := 18) hx hb dL_law_568 (by decide) ?_
        exact ih (i + 4) (by omega) (by omega) a se pl ld lm X Y H locs gC gR hP hD hS ls (lv_sub hl [1, 2, 3, 0] rfl)
      refine lv_aload_n hx hb dL_law_26 rfl (lv_at hl 0 rfl) ?_
      refine lv_iload_n hx hb dL_law_27 rfl (lv_at hl 3 rfl) ?_
      refine la_ld hx hb hX hbl hbA hS hL (z := z0) (by omega) (by omega) (by rw [e0, show (i : Int) + 0 = (i : Int) by omega]) dL_law_28 ?_
      refine lv_bipush (v := iI 15) hx hb dL_law_29 (by decide +kernel) ?_
      refine lv_iand hx hb dL_law_31 ?_
      refine lv_topi (fun x ex => ?_)
      by_cases cOut : x.toInt < 0 ∨ 14 < x.toInt
      · refine lv_tableOut (tgt := 565) hx hb dL_law_32 cOut (by decide) ?_
        exact step _ _ _ _ _ _ _ _ _ gC gR hP hD hS _ hl
      · have cIn : x.toInt = 0 ∨ x.toInt = 1 ∨ x.toInt = 2 ∨ x.toInt = 3 ∨ x.toInt = 4 ∨ x.toInt = 5 ∨ x.toInt = 6 ∨ x.toInt = 7 ∨ x.toInt = 8 ∨ x.toInt = 9 ∨ x.toInt = 10 ∨ x.toInt = 11 ∨ x.toInt = 12 ∨ x.toInt = 13 ∨ x.toInt = 14 := by omega
        rcases cIn with cK | cK | cK | cK | cK | cK | cK | cK | cK | cK | cK | cK | cK | cK | cK
        ·
          refine lv_tableIn (tgt := 108) hx hb dL_law_32 (by omega) (by omega) (by rw [cK]; rfl) (by decide) ?_
          refine lv_aload_n hx hb dL_law_108 rfl (lv_at hl 1 rfl) ?_
          refine lv_aload_n hx hb dL_law_109 rfl (lv_at hl 0 rfl) ?_
          refine lv_iload_n hx hb dL_law_110 rfl (lv_at hl 3 rfl) ?_
          refine lv_iconst (v := iI 1) hx hb dL_law_111 rfl ?_
          refine q_iadd hx hb dL_law_112 ?_
          refine la_ld hx hb hX hbl hbA hS hL (by omega) (by omega) e1 dL_law_113 ?_
          refine lv_aload_n hx hb dL_law_114 rfl (lv_at hl 0 rfl) ?_
          refine lv_iload_n hx hb dL_law_115 rfl (lv_at hl 3 rfl) ?_
          refine lv_iconst (v := iI 2) hx hb dL_law_116 rfl ?_
          refine q_iadd hx hb dL_law_117 ?_
          refine la_ld hx hb hX hbl hbA hS hL (by omega) (by omega) e2 dL_law_118 ?_
          refine la_callIz (rest := []) [.int (iI z1), .int (iI z2)] ⟨hx, hb, hml, hown, hts2⟩ hZ (L6_setting l D z1 z2 la ha gC hz1 hz2) (cwV 2 hts2 gL_law_X6_setting rfl rfl rfl (by decide +kernel) ⟨Nat.le_of_ble_eq_true rfl, Nat.le_of_ble_eq_true rfl⟩) hK hP hD hS hA hN gC.recv (ci := 6) rfl rfl hl.1 rfl (Nat.le_of_ble_eq_true rfl) dL_law_119 ⟨Nat.le_of_ble_eq_true rfl, Nat.le_of_ble_eq_true rfl⟩ (fun y X1 H locs hw hP hD hS => ?_)
          obtain ⟨ez, gC⟩ := hw
          have hP := la_PS hP
          have hD := la_DS hD
          refine lv_aload_n hx hb dL_law_122 rfl (lv_at hl 2 rfl) ?_
          refine lv_aload_n hx hb dL_law_123 rfl (lv_at hl 0 rfl) ?_
          refine lv_iload_n hx hb dL_law_124 rfl (lv_at hl 3 rfl) ?_
          refine lv_iconst (v := iI 1) hx hb dL_law_125 rfl ?_
          refine q_iadd hx hb dL_law_126 ?_
          refine la_ld hx hb hX hbl hbA hS hL (by omega) (by omega) e1 dL_law_127 ?_
          refine lv_aload_n hx hb dL_law_128 rfl (lv_at hl 0 rfl) ?_
          refine lv_iload_n hx hb dL_law_129 rfl (lv_at hl 3 rfl) ?_
          refine lv_iconst (v := iI 2) hx hb dL_law_130 rfl ?_
          refine q_iadd hx hb dL_law_131 ?_
          refine la_ld hx hb hX hbl hbA hS hL (by omega) (by omega) e2 dL_law_132 ?_
          refine la_callI (rest := [.int (iI y)]) [.int (iI z1), .int (iI z2)] ⟨hx, hb, hml, hown, hts2⟩ (L7_setting l D z1 z2  gR hz1 hz2) (cwV 2 hts2 gL_law_X7_setting rfl rfl rfl (by decide +kernel) ⟨Nat.le_of_ble_eq_true rfl, Nat.le_of_ble_eq_true rfl⟩) hK hP hD hS hA hN gR.recv (ci := 7) rfl rfl hl.1 rfl (Nat.le_of_ble_eq_true rfl) dL_law_133 ⟨Nat.le_of_ble_eq_true rfl, Nat.le_of_ble_eq_true rfl⟩ (fun y2 X1 H locs hw hP hD hS => ?_)
          obtain ⟨ey, gR⟩ := hw
          have hP := la_PS hP
          have hD := la_DS hD
          obtain rfl : y = y2 := ez.trans ey.symm
          refine lv_icmp_eq (tgt := 565) hx hb dL_law_136 (by decide) (fun _ => ?_) (fun h => absurd rfl h)
          exact step _ _ _ _ _ _ _ _ _ gC gR hP hD hS _ hl
        ·
          refine lv_tableIn (tgt := 141) hx hb dL_law_32 (by omega) (by omega) (by rw [cK]; rfl) (by decide) ?_
          refine lv_aload_n hx hb dL_law_141 rfl (lv_at hl 1 rfl) ?_
          refine lv_aload_n hx hb dL_law_142 rfl (lv_at hl 0 rfl) ?_
          refine lv_iload_n hx hb dL_law_143 rfl (lv_at hl 3 rfl) ?_
          refine lv_iconst (v := iI 1) hx hb dL_law_144 rfl ?_
          refine q_iadd hx hb dL_law_145 ?_
          refine la_ld hx hb hX hbl hbA hS hL (by omega) (by omega) e1 dL_law_146 ?_
          refine la_callI (rest := []) [.int (iI z1)] ⟨hx, hb, hml, hown, hts2⟩ (L6_told l D z1  gC hz1) (cwV 1 hts2 gL_law_X6_told rfl rfl rfl (by decide +kernel) ⟨Nat.le_of_ble_eq_true rfl, Nat.le_of_ble_eq_true rfl⟩) hK hP hD hS hA hN gC.recv (ci := 6) rfl rfl hl.1 rfl (Nat.le_of_ble_eq_true rfl) dL_law_147 ⟨Nat.le_of_ble_eq_true rfl, Nat.le_of_ble_eq_true rfl⟩ (fun y X1 H locs hw hP hD hS => ?_)
          obtain ⟨ez, gC⟩ := hw
          have hP := la_PS hP
          have hD := la_DS hD
          refine lv_aload_n hx hb dL_law_150 rfl (lv_at hl 2 rfl) ?_
          refine lv_aload_n hx hb dL_law_151 rfl (lv_at hl 0 rfl) ?_
          refine lv_iload_n hx hb dL_law_152 rfl (lv_at hl 3 rfl) ?_
          refine lv_iconst (v := iI 1) hx hb dL_law_153 rfl ?_
          refine q_iadd hx hb dL_law_154 ?_
          refine la_ld hx hb hX hbl hbA hS hL (by omega) (by omega) e1 dL_law_155 ?_
          refine la_callI (rest := [.int (iI y)]) [.int (iI z1)] ⟨hx, hb, hml, hown, hts2⟩ (L7_told l D z1  gR hz1) (cwV 1 hts2 gL_law_X7_told rfl rfl rfl (by decide +kernel) ⟨Nat.le_of_ble_eq_true rfl, Nat.le_of_ble_eq_true rfl⟩) hK hP hD hS hA hN gR.recv (ci := 7) rfl rfl hl.1 rfl (Nat.le_of_ble_eq_true rfl) dL_law_156 ⟨Nat.le_of_ble_eq_true rfl, Nat.le_of_ble_eq_true rfl⟩ (fun y2 X1 H locs hw hP hD hS => ?_)
          obtain ⟨ey, gR⟩ := hw
          have hP := la_PS hP
          have hD := la_DS hD
          obtain rfl : y = y2 := ez.trans ey.symm
          refine lv_icmp_eq (tgt := 565) hx hb dL_law_159 (by decide) (fun _ => ?_) (fun h => absurd rfl h)
          exact step _ _ _ _ _ _ _ _ _ gC gR hP hD hS _ hl
        ·
          refine lv_tableIn (tgt := 164) hx hb dL_law_32 (by omega) (by omega) (by rw [cK]; rfl) (by decide) ?_
          refine lv_aload_n hx hb dL_law_164 rfl (lv_at hl 1 rfl) ?_
          refine lv_aload_n hx hb dL_law_165 rfl (lv_at hl 0 rfl) ?_
          refine lv_iload_n hx hb dL_law_166 rfl (lv_at hl 3 rfl) ?_
          refine lv_iconst (v := iI 1) hx hb dL_law_167 rfl ?_
          refine q_iadd hx hb dL_law_168 ?_
          refine la_ld hx hb hX hbl hbA hS hL (by omega) (by omega) e1 dL_law_169 ?_
          refine lv_aload_n hx hb dL_law_170 rfl (lv_at hl 0 rfl) ?_
          refine lv_iload_n hx hb dL_law_171 rfl (lv_at hl 3 rfl) ?_
          refine lv_iconst (v := iI 2) hx hb dL_law_172 rfl ?_
          refine q_iadd hx hb dL_law_173 ?_
          refine la_ld hx hb hX hbl hbA hS hL (by omega) (by omega) e2 dL_law_174 ?_
          refine la_callI (rest := []) [.int (iI z1), .int (iI z2)] ⟨hx, hb, hml, hown, hts2⟩ (L6_load l D z1 z2  gC hz1 hz2) (cwV 2 hts2 gL_law_X6_load rfl rfl rfl (by decide +kernel) ⟨Nat.le_of_ble_eq_true rfl, Nat.le_of_ble_eq_true rfl⟩) hK hP hD hS hA hN gC.recv (ci := 6) rfl rfl hl.1 rfl (Nat.le_of_ble_eq_true rfl) dL_law_175 ⟨Nat.le_of_ble_eq_true rfl, Nat.le_of_ble_eq_true rfl⟩ (fun y X1 H locs hw hP hD hS => ?_)
          obtain ⟨ez, gC⟩ := hw
          have hP := la_PS hP
          have hD := la_DS hD
          refine lv_aload_n hx hb dL_law_178 rfl (lv_at hl 2 rfl) ?_
          refine lv_aload_n hx hb dL_law_179 rfl (lv_at hl 0 rfl) ?_
          refine lv_iload_n hx hb dL_law_180 rfl (lv_at hl 3 rfl) ?_
          refine lv_iconst (v := iI 1) hx hb dL_law_181 rfl ?_
          refine q_iadd hx hb dL_law_182 ?_
          refine la_ld hx hb hX hbl hbA hS hL (by omega) (by omega) e1 dL_law_183 ?_
          refine lv_aload_n hx hb dL_law_184 rfl (lv_at hl 0 rfl) ?_
          refine lv_iload_n hx hb dL_law_185 rfl (lv_at hl 3 rfl) ?_
          refine lv_iconst (v := iI 2) hx hb dL_law_186 rfl ?_
          refine q_iadd hx hb dL_law_187 ?_
          refine la_ld hx hb hX hbl hbA hS hL (by omega) (by omega) e2 dL_law_188 ?_
          refine la_callI (rest := [.int (iI y)]) [.int (iI z1), .int (iI z2)] ⟨hx, hb, hml, hown, hts2⟩ (L7_load l D z1 z2  gR hz1 hz2) (cwV 2 hts2 gL_law_X7_load rfl rfl rfl (by decide +kernel) ⟨Nat.le_of_ble_eq_true rfl, Nat.le_of_ble_eq_true rfl⟩) hK hP hD hS hA hN gR.recv (ci := 7) rfl rfl hl.1 rfl (Nat.le_of_ble_eq_true rfl) dL_law_189 ⟨Nat.le_of_ble_eq_true rfl, Nat.le_of_ble_eq_true rfl⟩ (fun y2 X1 H locs hw hP hD hS => ?_)
          obtain ⟨ey, gR⟩ := hw
          have hP := la_PS hP
          have hD := la_DS hD
          obtain rfl : y = y2 := ez.trans ey.symm
          refine lv_icmp_eq (tgt := 565) hx hb dL_law_192 (by decide) (fun _ => ?_) (fun h => absurd rfl h)
          exact step _ _ _ _ _ _ _ _ _ gC gR hP hD hS _ hl
        ·
          refine lv_tableIn (tgt := 197) hx hb dL_law_32 (by omega) (by omega) (by rw [cK]; rfl) (by decide) ?_
          refine lv_aload_n hx hb dL_law_197 rfl (lv_at hl 1 rfl) ?_
          refine lv_aload_n hx hb dL_law_198 rfl (lv_at hl 0 rfl) ?_
          refine lv_iload_n hx hb dL_law_199 rfl (lv_at hl 3 rfl) ?_
          refine lv_iconst (v := iI 1) hx hb dL_law_200 rfl ?_
          refine q_iadd hx hb dL_law_201 ?_
          refine la_ld hx hb hX hbl hbA hS hL (by omega) (by omega) e1 dL_law_202 ?_
          refine lv_aload_n hx hb dL_law_203 rfl (lv_at hl 0 rfl) ?_
          refine lv_iload_n hx hb dL_law_204 rfl (lv_at hl 3 rfl) ?_
          refine lv_iconst (v := iI 2) hx hb dL_law_205 rfl ?_
          refine q_iadd hx hb dL_law_206 ?_
          refine la_ld hx hb hX hbl hbA hS hL (by omega) (by omega) e2 dL_law_207 ?_
          refine la_callI (rest := []) [.int (iI z1), .int (iI z2)] ⟨hx, hb, hml, hown, hts2⟩ (L6_plan l D z1 z2  gC hz1 hz2) (cwV 2 hts2 gL_law_X6_plan rfl rfl rfl (by decide +kernel) ⟨Nat.le_of_ble_eq_true rfl, Nat.le_of_ble_eq_true rfl⟩) hK hP hD hS hA hN gC.recv (ci := 6) rfl rfl hl.1 rfl (Nat.le_of_ble_eq_true rfl) dL_law_208 ⟨Nat.le_of_ble_eq_true rfl, Nat.le_of_ble_eq_true rfl⟩ (fun y X1 H locs hw hP hD hS => ?_)
          obtain ⟨ez, gC⟩ := hw
          have hP := la_PS hP
          have hD := la_DS hD
          refine lv_aload_n hx hb dL_law_211 rfl (lv_at hl 2 rfl) ?_
          refine lv_aload_n hx hb dL_law_212 rfl (lv_at hl 0 rfl) ?_
          refine lv_iload_n hx hb dL_law_213 rfl (lv_at hl 3 rfl) ?_
          refine lv_iconst (v := iI 1) hx hb dL_law_214 rfl ?_
          refine q_iadd hx hb dL_law_215 ?_
          refine la_ld hx hb hX hbl hbA hS hL (by omega) (by omega) e1 dL_law_216 ?_
          refine lv_aload_n hx hb dL_law_217 rfl (lv_at hl 0 rfl) ?_
          refine lv_iload_n hx hb dL_law_218 rfl (lv_at hl 3 rfl) ?_
          refine lv_iconst (v := iI 2) hx hb dL_law_219 rfl ?_
          refine q_iadd hx hb dL_law_220 ?_
          refine la_ld hx hb hX hbl hbA hS hL (by omega) (by omega) e2 dL_law_221 ?_
          refine la_callI (rest := [.int (iI y)]) [.int (iI z1), .int (iI z2)] ⟨hx, hb, hml, hown, hts2⟩ (L7_plan l D z1 z2  gR hz1 hz2) (cwV 2 hts2 gL_law_X7_plan rfl rfl rfl (by decide +kernel) ⟨Nat.le_of_ble_eq_true rfl, Nat.le_of_ble_eq_true rfl⟩) hK hP hD hS hA hN gR.recv (ci := 7) rfl rfl hl.1 rfl (Nat.le_of_ble_eq_true rfl) dL_law_222 ⟨Nat.le_of_ble_eq_true rfl, Nat.le_of_ble_eq_true rfl⟩ (fun y2 X1 H locs hw hP hD hS => ?_)
          obtain ⟨ey, gR⟩ := hw
          have hP := la_PS hP
          have hD := la_DS hD
          obtain rfl : y = y2 := ez.trans ey.symm
          refine lv_icmp_eq (tgt := 565) hx hb dL_law_225 (by decide) (fun _ => ?_) (fun h => absurd rfl h)
          exact step _ _ _ _ _ _ _ _ _ gC gR hP hD hS _ hl
        ·
          refine lv_tableIn (tgt := 230) hx hb dL_law_32 (by omega) (by omega) (by rw [cK]; rfl) (by decide) ?_
          by_cases c2 : z2 = 0
          ·
            refine lv_aload_n hx hb dL_law_230 rfl (lv_at hl 1 rfl) ?_
            refine lv_aload_n hx hb dL_law_231 rfl (lv_at hl 0 rfl) ?_
            refine lv_iload_n hx hb dL_law_232 rfl (lv_at hl 3 rfl) ?_
            refine lv_iconst (v := iI 1) hx hb dL_law_233 rfl ?_
            refine q_iadd hx hb dL_law_234 ?_
            refine la_ld hx hb hX hbl hbA hS hL (by omega) (by omega) e1 dL_law_235 ?_
            refine lv_aload_n hx hb dL_law_236 rfl (lv_at hl 0 rfl) ?_
            refine lv_iload_n hx hb dL_law_237 rfl (lv_at hl 3 rfl) ?_
            refine lv_iconst (v := iI 2) hx hb dL_law_238 rfl ?_
            refine q_iadd hx hb dL_law_239 ?_
            refine la_ld hx hb hX hbl hbA hS hL (by omega) (by omega) e2 dL_law_240 ?_
            refine q_if_eq (tgt := 248) hx hb dL_law_241 (by decide) hz2 (fun _ => ?_) (fun h => absurd c2 h)
            refine lv_iconst (v := iI 0) hx hb dL_law_248 rfl ?_
            refine la_callI (rest := []) [.int (iI z1), .int (iI 0)] ⟨hx, hb, hml, hown, hts2⟩ (L6_lose l D z1 0  gC hz1 ⟨by decide, by decide⟩) (cwV 2 hts2 gL_law_X6_lose rfl rfl rfl (by decide +kernel) ⟨Nat.le_of_ble_eq_true rfl, Nat.le_of_ble_eq_true rfl⟩) hK hP hD hS hA hN gC.recv (ci := 6) rfl rfl hl.1 rfl (Nat.le_of_ble_eq_true rfl) dL_law_249 ⟨Nat.le_of_ble_eq_true rfl, Nat.le_of_ble_eq_true rfl⟩ (fun y X1 H locs hw hP hD hS => ?_)
            obtain ⟨ez, gC⟩ := hw
            have hP := la_PS hP
            have hD := la_DS hD
            refine lv_aload_n hx hb dL_law_252 rfl (lv_at hl 2 rfl) ?_
            refine lv_aload_n hx hb dL_law_253 rfl (lv_at hl 0 rfl) ?_
            refine lv_iload_n hx hb dL_law_254 rfl (lv_at hl 3 rfl) ?_
            refine lv_iconst (v := iI 1) hx hb dL_law_255 rfl ?_
            refine q_iadd hx hb dL_law_256 ?_
            refine la_ld hx hb hX hbl hbA hS hL (by omega) (by omega) e1 dL_law_257 ?_
            refine lv_aload_n hx hb dL_law_258 rfl (lv_at hl 0 rfl) ?_
            refine lv_iload_n hx hb dL_law_259 rfl (lv_at hl 3 rfl) ?_
            refine lv_iconst (v := iI 2) hx hb dL_law_260 rfl ?_
            refine q_iadd hx hb dL_law_261 ?_
            refine la_ld hx hb hX hbl hbA hS hL (by omega) (by omega) e2 dL_law_262 ?_
            refine q_if_eq (tgt := 270) hx hb dL_law_263 (by decide) hz2 (fun _ => ?_) (fun h => absurd c2 h)
            refine lv_iconst (v := iI 0) hx hb dL_law_270 rfl ?_
            refine la_callI (rest := [.int (iI y)]) [.int (iI z1), .int (iI 0)] ⟨hx, hb, hml, hown, hts2⟩ (L7_lose l D z1 0  gR hz1 ⟨by decide, by decide⟩) (cwV 2 hts2 gL_law_X7_lose rfl rfl rfl (by decide +kernel) ⟨Nat.le_of_ble_eq_true rfl, Nat.le_of_ble_eq_true rfl⟩) hK hP hD hS hA hN gR.recv (ci := 7) rfl rfl hl.1 rfl (Nat.le_of_ble_eq_true rfl) dL_law_271 ⟨Nat.le_of_ble_eq_true rfl, Nat.le_of_ble_eq_true rfl⟩ (fun y2 X1 H locs hw hP hD hS => ?_)
            obtain ⟨ey, gR⟩ := hw
            have hP := la_PS hP
            have hD := la_DS hD
            obtain rfl : y = y2 := ez.trans ey.symm
            refine lv_icmp_eq (tgt := 565) hx hb dL_law_274 (by decide) (fun _ => ?_) (fun h => absurd rfl h)
            exact step _ _ _ _ _ _ _ _ _ gC gR hP hD hS _ hl
          ·
            refine lv_aload_n hx hb dL_law_230 rfl (lv_at hl 1 rfl) ?_
            refine lv_aload_n hx hb dL_law_231 rfl (lv_at hl 0 rfl) ?_
            refine lv_iload_n hx hb dL_law_232 rfl (lv_at hl 3 rfl) ?_
            refine lv_iconst (v := iI 1) hx hb dL_law_233 rfl ?_
            refine q_iadd hx hb dL_law_234 ?_
            refine la_ld hx hb hX hbl hbA hS hL (by omega) (by omega) e1 dL_law_235 ?_
            refine lv_aload_n hx hb dL_law_236 rfl (lv_at hl 0 rfl) ?_
            refine lv_iload_n hx hb dL_law_237 rfl (lv_at hl 3 rfl) ?_
            refine lv_iconst (v := iI 2) hx hb dL_law_238 rfl ?_
            refine q_iadd hx hb dL_law_239 ?_
            refine la_ld hx hb hX hbl hbA hS hL (by omega) (by omega) e2 dL_law_240 ?_
            refine q_if_eq (tgt := 248) hx hb dL_law_241 (by decide) hz2 (fun h => absurd h c2) (fun _ => ?_)
            refine lv_iconst (v := iI 1) hx hb dL_law_244 rfl ?_
            refine lv_goto (tgt := 249) hx hb dL_law_245 (by decide) ?_
            refine la_callI (rest := []) [.int (iI z1), .int (iI 1)] ⟨hx, hb, hml, hown, hts2⟩ (L6_lose l D z1 1  gC hz1 ⟨by decide, by decide⟩) (cwV 2 hts2 gL_law_X6_lose rfl rfl rfl (by decide +kernel) ⟨Nat.le_of_ble_eq_true rfl, Nat.le_of_ble_eq_true rfl⟩) hK hP hD hS hA hN gC.recv (ci := 6) rfl rfl hl.1 rfl (Nat.le_of_ble_eq_true rfl) dL_law_249 ⟨Nat.le_of_ble_eq_true rfl, Nat.le_of_ble_eq_true rfl⟩ (fun y X1 H locs hw hP hD hS => ?_)
            obtain ⟨ez, gC⟩ := hw
            have hP := la_PS hP
            have hD := la_DS hD
            refine lv_aload_n hx hb dL_law_252 rfl (lv_at hl 2 rfl) ?_
            refine lv_aload_n hx hb dL_law_253 rfl (lv_at hl 0 rfl) ?_
            refine lv_iload_n hx hb dL_law_254 rfl (lv_at hl 3 rfl) ?_
            refine lv_iconst (v := iI 1) hx hb dL_law_255 rfl ?_
            refine q_iadd hx hb dL_law_256 ?_
            refine la_ld hx hb hX hbl hbA hS hL (by omega) (by omega) e1 dL_law_257 ?_
            refine lv_aload_n hx hb dL_law_258 rfl (lv_at hl 0 rfl) ?_
            refine lv_iload_n hx hb dL_law_259 rfl (lv_at hl 3 rfl) ?_
            refine lv_iconst (v := iI 2) hx hb dL_law_260 rfl ?_
            refine q_iadd hx hb dL_law_261 ?_
            refine la_ld hx hb hX hbl hbA hS hL (by omega) (by omega) e2 dL_law_262 ?_
            refine q_if_eq (tgt := 270) hx hb dL_law_263 (by decide) hz2 (fun h => absurd h c2) (fun _ => ?_)
            refine lv_iconst (v := iI 1) hx hb dL_law_266 rfl ?_
            refine lv_goto (tgt := 271) hx hb dL_law_267 (by decide) ?_
            refine la_callI (rest := [.int (iI y)]) [.int (iI z1), .int (iI 1)] ⟨hx, hb, hml, hown, hts2⟩ (L7_lose l D z1 1  gR hz1 ⟨by decide, by decide⟩) (cwV 2 hts2 gL_law_X7_lose rfl rfl rfl (by decide +kernel) ⟨Nat.le_of_ble_eq_true rfl, Nat.le_of_ble_eq_true rfl⟩) hK hP hD hS hA hN gR.recv (ci := 7) rfl rfl hl.1 rfl (Nat.le_of_ble_eq_true rfl) dL_law_271 ⟨Nat.le_of_ble_eq_true rfl, Nat.le_of_ble_eq_true rfl⟩ (fun y2 X1 H locs hw hP hD hS => ?_)
            obtain ⟨ey, gR⟩ := hw
            have hP := la_PS hP
            have hD := la_DS hD
            obtain rfl : y = y2 := ez.trans ey.symm
            refine lv_icmp_eq (tgt := 565) hx hb dL_law_274 (by decide) (fun _ => ?_) (fun h => absurd rfl h)
            exact step _ _ _ _ _ _ _ _ _ gC gR hP hD hS _ hl
        ·
          refine lv_tableIn (tgt := 279) hx hb dL_law_32 (by omega) (by omega) (by rw [cK]; rfl) (by decide) ?_
          refine lv_aload_n hx hb dL_law_279 rfl (lv_at hl 1 rfl) ?_
          refine lv_aload_n hx hb dL_law_280 rfl (lv_at hl 0 rfl) ?_
          refine lv_iload_n hx hb dL_law_281 rfl (lv_at hl 3 rfl) ?_
          refine lv_iconst (v := iI 1) hx hb dL_law_282 rfl ?_
          refine q_iadd hx hb dL_law_283 ?_
          refine la_ld hx hb hX hbl hbA hS hL (by omega) (by omega) e1 dL_law_284 ?_
          refine la_callI (rest := []) [.int (iI z1)] ⟨hx, hb, hml, hown, hts2⟩ (L6_tick l D z1  gC hz1) (cwV 1 hts2 gL_law_X6_tick rfl rfl rfl (by decide +kernel) ⟨Nat.le_of_ble_eq_true rfl, Nat.le_of_ble_eq_true rfl⟩) hK hP hD hS hA hN gC.recv (ci := 6) rfl rfl hl.1 rfl (Nat.le_of_ble_eq_true rfl) dL_law_285 ⟨Nat.le_of_ble_eq_true rfl, Nat.le_of_ble_eq_true rfl⟩ (fun y X1 H locs hw hP hD hS => ?_)
          obtain ⟨ez, gC⟩ := hw
          have hP := la_PS hP
          have hD := la_DS hD
          refine lv_aload_n hx hb dL_law_288 rfl (lv_at hl 2 rfl) ?_
          refine lv_aload_n hx hb dL_law_289 rfl (lv_at hl 0 rfl) ?_
          refine lv_iload_n hx hb dL_law_290 rfl (lv_at hl 3 rfl) ?_
          refine lv_iconst (v := iI 1) hx hb dL_law_291 rfl ?_
          refine q_iadd hx hb dL_law_292 ?_
          refine la_ld hx hb hX hbl hbA hS hL (by omega) (by omega) e1 dL_law_293 ?_
          refine la_callI (rest := [.int (iI y)]) [.int (iI z1)] ⟨hx, hb, hml, hown, hts2⟩ (L7_tick l D z1  gR hz1) (cwV 1 hts2 gL_law_X7_tick rfl rfl rfl (by decide +kernel) ⟨Nat.le_of_ble_eq_true rfl, Nat.le_of_ble_eq_true rfl⟩) hK hP hD hS hA hN gR.recv (ci := 7) rfl rfl hl.1 rfl (Nat.le_of_ble_eq_true rfl) dL_law_294 ⟨Nat.le_of_ble_eq_true rfl, Nat.le_of_ble_eq_true rfl⟩ (fun y2 X1 H locs hw hP hD hS => ?_)
          obtain ⟨ey, gR⟩ := hw
          have hP := la_PS hP
          have hD := la_DS hD
          obtain rfl : y = y2 := ez.trans ey.symm
          refine lv_icmp_eq (tgt := 565) hx hb dL_law_297 (by decide) (fun _ => ?_) (fun h => absurd rfl h)
          exact step _ _ _ _ _ _ _ _ _ gC gR hP hD hS _ hl
        ·
          refine lv_tableIn (tgt := 302) hx hb dL_law_32 (by omega) (by omega) (by rw [cK]; rfl) (by decide) ?_
          by_cases c2 : z2 = 0
          ·
            refine lv_aload_n hx hb dL_law_302 rfl (lv_at hl 1 rfl) ?_
            refine lv_aload_n hx hb dL_law_303 rfl (lv_at hl 0 rfl) ?_
            refine lv_iload_n hx hb dL_law_304 rfl (lv_at hl 3 rfl) ?_
            refine lv_iconst (v := iI 1) hx hb dL_law_305 rfl ?_
            refine q_iadd hx hb dL_law_306 ?_
            refine la_ld hx hb hX hbl hbA hS hL (by omega) (by omega) e1 dL_law_307 ?_
            refine lv_aload_n hx hb dL_law_308 rfl (lv_at hl 0 rfl) ?_
            refine lv_iload_n hx hb dL_law_309 rfl (lv_at hl 3 rfl) ?_
            refine lv_iconst (v := iI 2) hx hb dL_law_310 rfl ?_
            refine q_iadd hx hb dL_law_311 ?_
            refine la_ld hx hb hX hbl hbA hS hL (by omega) (by omega) e2 dL_law_312 ?_
            refine q_if_eq (tgt := 320) hx hb dL_law_313 (by decide) hz2 (fun _ => ?_) (fun h => absurd c2 h)
            refine lv_iconst (v := iI 0) hx hb dL_law_320 rfl ?_
            refine la_callI (rest := []) [.int (iI z1), .int (iI 0)] ⟨hx, hb, hml, hown, hts2⟩ (L6_fail l D z1 0  gC hz1 ⟨by decide, by decide⟩) (cwV 2 hts2 gL_law_X6_fail rfl rfl rfl (by decide +kernel) ⟨Nat.le_of_ble_eq_true rfl, Nat.le_of_ble_eq_true rfl⟩) hK hP hD hS hA hN gC.recv (ci := 6) rfl rfl hl.1 rfl (Nat.le_of_ble_eq_true rfl) dL_law_321 ⟨Nat.le_of_ble_eq_true rfl, Nat.le_of_ble_eq_true rfl⟩ (fun y X1 H locs hw hP hD hS => ?_)
            obtain ⟨ez, gC⟩ := hw
            have hP := la_PS hP
            have hD := la_DS hD
            refine lv_aload_n hx hb dL_law_324 rfl (lv_at hl 2 rfl) ?_
            refine lv_aload_n hx hb dL_law_325 rfl (lv_at hl 0 rfl) ?_
            refine lv_iload_n hx hb dL_law_326 rfl (lv_at hl 3 rfl) ?_
            refine lv_iconst (v := iI 1) hx hb dL_law_327 rfl ?_
            refine q_iadd hx hb dL_law_328 ?_
            refine la_ld hx hb hX hbl hbA hS hL (by omega) (by omega) e1 dL_law_329 ?_
            refine lv_aload_n hx hb dL_law_330 rfl (lv_at hl 0 rfl) ?_
            refine lv_iload_n hx hb dL_law_331 rfl (lv_at hl 3 rfl) ?_
            refine lv_iconst (v := iI 2) hx hb dL_law_332 rfl ?_
            refine q_iadd hx hb dL_law_333 ?_
            refine la_ld hx hb hX hbl hbA hS hL (by omega) (by omega) e2 dL_law_334 ?_
            refine q_if_eq (tgt := 342) hx hb dL_law_335 (by decide) hz2 (fun _ => ?_) (fun h => absurd c2 h)
            refine lv_iconst (v := iI 0) hx hb dL_law_342 rfl ?_
            refine la_callI (rest := [.int (iI y)]) [.int (iI z1), .int (iI 0)] ⟨hx, hb, hml, hown, hts2⟩ (L7_fail l D z1 0  gR hz1 ⟨by decide, by decide⟩) (cwV 2 hts2 gL_law_X7_fail rfl rfl rfl (by decide +kernel) ⟨Nat.le_of_ble_eq_true rfl, Nat.le_of_ble_eq_true rfl⟩) hK hP hD hS hA hN gR.recv (ci := 7) rfl rfl hl.1 rfl (Nat.le_of_ble_eq_true rfl) dL_law_343 ⟨Nat.le_of_ble_eq_true rfl, Nat.le_of_ble_eq_true rfl⟩ (fun y2 X1 H locs hw hP hD hS => ?_)
            obtain ⟨ey, gR⟩ := hw
            have hP := la_PS hP
            have hD := la_DS hD
            obtain rfl : y = y2 := ez.trans ey.symm
            refine lv_icmp_eq (tgt := 565) hx hb dL_law_346 (by decide) (fun _ => ?_) (fun h => absurd rfl h)
            exact step _ _ _ _ _ _ _ _ _ gC gR hP hD hS _ hl
          ·
            refine lv_aload_n hx hb dL_law_302 rfl (lv_at hl 1 rfl) ?_
            refine lv_aload_n hx hb dL_law_303 rfl (lv_at hl 0 rfl) ?_
            refine lv_iload_n hx hb dL_law_304 rfl (lv_at hl 3 rfl) ?_
            refine lv_iconst (v := iI 1) hx hb dL_law_305 rfl ?_
            refine q_iadd hx hb dL_law_306 ?_
            refine la_ld hx hb hX hbl hbA hS hL (by omega) (by omega) e1 dL_law_307 ?_
            refine lv_aload_n hx hb dL_law_308 rfl (lv_at hl 0 rfl) ?_
            refine lv_iload_n hx hb dL_law_309 rfl (lv_at hl 3 rfl) ?_
            refine lv_iconst (v := iI 2) hx hb dL_law_310 rfl ?_
            refine q_iadd hx hb dL_law_311 ?_
            refine la_ld hx hb hX hbl hbA hS hL (by omega) (by omega) e2 dL_law_312 ?_
            refine q_if_eq (tgt := 320) hx hb dL_law_313 (by decide) hz2 (fun h => absurd h c2) (fun _ => ?_)
            refine lv_iconst (v := iI 1) hx hb dL_law_316 rfl ?_
            refine lv_goto (tgt := 321) hx hb dL_law_317 (by decide) ?_
            refine la_callI (rest := []) [.int (iI z1), .int (iI 1)] ⟨hx, hb, hml, hown, hts2⟩ (L6_fail l D z1 1  gC hz1 ⟨by decide, by decide⟩) (cwV 2 hts2 gL_law_X6_fail rfl rfl rfl (by decide +kernel) ⟨Nat.le_of_ble_eq_true rfl, Nat.le_of_ble_eq_true rfl⟩) hK hP hD hS hA hN gC.recv (ci := 6) rfl rfl hl.1 rfl (Nat.le_of_ble_eq_true rfl) dL_law_321 ⟨Nat.le_of_ble_eq_true rfl, Nat.le_of_ble_eq_true rfl⟩ (fun y X1 H locs hw hP hD hS => ?_)
            obtain ⟨ez, gC⟩ := hw
            have hP := la_PS hP
            have hD := la_DS hD
            refine lv_aload_n hx hb dL_law_324 rfl (lv_at hl 2 rfl) ?_
            refine lv_aload_n hx hb dL_law_325 rfl (lv_at hl 0 rfl) ?_
            refine lv_iload_n hx hb dL_law_326 rfl (lv_at hl 3 rfl) ?_
            refine lv_iconst (v := iI 1) hx hb dL_law_327 rfl ?_
            refine q_iadd hx hb dL_law_328 ?_
            refine la_ld hx hb hX hbl hbA hS hL (by omega) (by omega) e1 dL_law_329 ?_
            refine lv_aload_n hx hb dL_law_330 rfl (lv_at hl 0 rfl) ?_
            refine lv_iload_n hx hb dL_law_331 rfl (lv_at hl 3 rfl) ?_
            refine lv_iconst (v := iI 2) hx hb dL_law_332 rfl ?_
            refine q_iadd hx hb dL_law_333 ?_
            refine la_ld hx hb hX hbl hbA hS hL (by omega) (by omega) e2 dL_law_334 ?_
            refine q_if_eq (tgt := 342) hx hb dL_law_335 (by decide) hz2 (fun h => absurd h c2) (fun _ => ?_)
            refine lv_iconst (v := iI 1) hx hb dL_law_338 rfl ?_
            refine lv_goto (tgt := 343) hx hb dL_law_339 (by decide) ?_
            refine la_callI (rest := [.int (iI y)]) [.int (iI z1), .int (iI 1)] ⟨hx, hb, hml, hown, hts2⟩ (L7_fail l D z1 1  gR hz1 ⟨by decide, by decide⟩) (cwV 2 hts2 gL_law_X7_fail rfl rfl rfl (by decide +kernel) ⟨Nat.le_of_ble_eq_true rfl, Nat.le_of_ble_eq_true rfl⟩) hK hP hD hS hA hN gR.recv (ci := 7) rfl rfl hl.1 rfl (Nat.le_of_ble_eq_true rfl) dL_law_343 ⟨Nat.le_of_ble_eq_true rfl, Nat.le_of_ble_eq_true rfl⟩ (fun y2 X1 H locs hw hP hD hS => ?_)
            obtain ⟨ey, gR⟩ := hw
            have hP := la_PS hP
            have hD := la_DS hD
            obtain rfl : y = y2 := ez.trans ey.symm
            refine lv_icmp_eq (tgt := 565) hx hb dL_law_346 (by decide) (fun _ => ?_) (fun h => absurd rfl h)
            exact step _ _ _ _ _ _ _ _ _ gC gR hP hD hS _ hl
        ·
          refine lv_tableIn (tgt := 351) hx hb dL_law_32 (by omega) (by omega) (by rw [cK]; rfl) (by decide) ?_
          refine lv_aload_n hx hb dL_law_351 rfl (lv_at hl 1 rfl) ?_
          refine la_callI (rest := []) [] ⟨hx, hb, hml, hown, hts2⟩ (L6_again l D  gC ) (cwV 0 hts2 gL_law_X6_again rfl rfl rfl (by decide +kernel) ⟨Nat.le_of_ble_eq_true rfl, Nat.le_of_ble_eq_true rfl⟩) hK hP hD hS hA hN gC.recv (ci := 6) rfl rfl hl.1 rfl (Nat.le_of_ble_eq_true rfl) dL_law_352 ⟨Nat.le_of_ble_eq_true rfl, Nat.le_of_ble_eq_true rfl⟩ (fun y X1 H locs hw hP hD hS => ?_)
          obtain ⟨ez, gC⟩ := hw
          have hP := la_PS hP
          have hD := la_DS hD
          refine lv_aload_n hx hb dL_law_355 rfl (lv_at hl 2 rfl) ?_
          refine la_callI (rest := [.int (iI y)]) [] ⟨hx, hb, hml, hown, hts2⟩ (L7_again l D  gR ) (cwV 0 hts2 gL_law_X7_again rfl rfl rfl (by decide +kernel) ⟨Nat.le_of_ble_eq_true rfl, Nat.le_of_ble_eq_true rfl⟩) hK hP hD hS hA hN gR.recv (ci := 7) rfl rfl hl.1 rfl (Nat.le_of_ble_eq_true rfl) dL_law_356 ⟨Nat.le_of_ble_eq_true rfl, Nat.le_of_ble_eq_true rfl⟩ (fun y2 X1 H locs hw hP hD hS => ?_)
          obtain ⟨ey, gR⟩ := hw
          have hP := la_PS hP
          have hD := la_DS hD
          obtain rfl : y = y2 := ez.trans ey.symm
          refine lv_icmp_eq (tgt := 565) hx hb dL_law_359 (by decide) (fun _ => ?_) (fun h => absurd rfl h)
          exact step _ _ _ _ _ _ _ _ _ gC gR hP hD hS _ hl
        ·
          refine lv_tableIn (tgt := 364) hx hb dL_law_32 (by omega) (by omega) (by rw [cK]; rfl) (by decide) ?_
          refine lv_aload_n hx hb dL_law_364 rfl (lv_at hl 1 rfl) ?_
          refine lv_aload_n hx hb dL_law_365 rfl (lv_at hl 0 rfl) ?_
          refine lv_iload_n hx hb dL_law_366 rfl (lv_at hl 3 rfl) ?_
          refine lv_iconst (v := iI 1) hx hb dL_law_367 rfl ?_
          refine q_iadd hx hb dL_law_368 ?_
          refine la_ld hx hb hX hbl hbA hS hL (by omega) (by omega) e1 dL_law_369 ?_
          refine lv_aload_n hx hb dL_law_370 rfl (lv_at hl 0 rfl) ?_
          refine lv_iload_n hx hb dL_law_371 rfl (lv_at hl 3 rfl) ?_
          refine lv_iconst (v := iI 2) hx hb dL_law_372 rfl ?_
          refine q_iadd hx hb dL_law_373 ?_
          refine la_ld hx hb hX hbl hbA hS hL (by omega) (by omega) e2 dL_law_374 ?_
          refine la_callI (rest := []) [.int (iI z1), .int (iI z2)] ⟨hx, hb, hml, hown, hts2⟩ (L6_server l D z1 z2  gC hz1 hz2) (cwV 2 hts2 gL_law_X6_server rfl rfl rfl (by decide +kernel) ⟨Nat.le_of_ble_eq_true rfl, Nat.le_of_ble_eq_true rfl⟩) hK hP hD hS hA hN gC.recv (ci := 6) rfl rfl hl.1 rfl (Nat.le_of_ble_eq_true rfl) dL_law_375 ⟨Nat.le_of_ble_eq_true rfl, Nat.le_of_ble_eq_true rfl⟩ (fun y X1 H locs hw hP hD hS => ?_)
          obtain ⟨ez, gC⟩ := hw
          have hP := la_PS hP
          have hD := la_DS hD
          refine lv_aload_n hx hb dL_law_378 rfl (lv_at hl 2 rfl) ?_
          refine lv_aload_n hx hb dL_law_379 rfl (lv_at hl 0 rfl) ?_
          refine lv_iload_n hx hb dL_law_380 rfl (lv_at hl 3 rfl) ?_
          refine lv_iconst (v := iI 1) hx hb dL_law_381 rfl ?_
          refine q_iadd hx hb dL_law_382 ?_
          refine la_ld hx hb hX hbl hbA hS hL (by omega) (by omega) e1 dL_law_383 ?_
          refine lv_aload_n hx hb dL_law_384 rfl (lv_at hl 0 rfl) ?_
          refine lv_iload_n hx hb dL_law_385 rfl (lv_at hl 3 rfl) ?_
          refine lv_iconst (v := iI 2) hx hb dL_law_386 rfl ?_
          refine q_iadd hx hb dL_law_387 ?_
          refine la_ld hx hb hX hbl hbA hS hL (by omega) (by omega) e2 dL_law_388 ?_
          refine la_callI (rest := [.int (iI y)]) [.int (iI z1), .int (iI z2)] ⟨hx, hb, hml, hown, hts2⟩ (L7_server l D z1 z2  gR hz1 hz2) (cwV 2 hts2 gL_law_X7_server rfl rfl rfl (by decide +kernel) ⟨Nat.le_of_ble_eq_true rfl, Nat.le_of_ble_eq_true rfl⟩) hK hP hD hS hA hN gR.recv (ci := 7) rfl rfl hl.1 rfl (Nat.le_of_ble_eq_true rfl) dL_law_389 ⟨Nat.le_of_ble_eq_true rfl, Nat.le_of_ble_eq_true rfl⟩ (fun y2 X1 H locs hw hP hD hS => ?_)
          obtain ⟨ey, gR⟩ := hw
          have hP := la_PS hP
          have hD := la_DS hD
          obtain rfl : y = y2 := ez.trans ey.symm
          refine lv_icmp_eq (tgt := 565) hx hb dL_law_392 (by decide) (fun _ => ?_) (fun h => absurd rfl h)
          exact step _ _ _ _ _ _ _ _ _ gC gR hP hD hS _ hl
        ·
          refine lv_tableIn (tgt := 397) hx hb dL_law_32 (by omega) (by omega) (by rw [cK]; rfl) (by decide) ?_
          refine lv_aload_n hx hb dL_law_397 rfl (lv_at hl 1 rfl) ?_
          refine lv_aload_n hx hb dL_law_398 rfl (lv_at hl 0 rfl) ?_
          refine lv_iload_n hx hb dL_law_399 rfl (lv_at hl 3 rfl) ?_
          refine lv_iconst (v := iI 1) hx hb dL_law_400 rfl ?_
          refine q_iadd hx hb dL_law_401 ?_
          refine la_ld hx hb hX hbl hbA hS hL (by omega) (by omega) e1 dL_law_402 ?_
          refine la_callI (rest := []) [.int (iI z1)] ⟨hx, hb, hml, hown, hts2⟩ (L6_now l D z1  gC hz1) (cwV 1 hts2 gL_law_X6_now rfl rfl rfl (by decide +kernel) ⟨Nat.le_of_ble_eq_true rfl, Nat.le_of_ble_eq_true rfl⟩) hK hP hD hS hA hN gC.recv (ci := 6) rfl rfl hl.1 rfl (Nat.le_of_ble_eq_true rfl) dL_law_403 ⟨Nat.le_of_ble_eq_true rfl, Nat.le_of_ble_eq_true rfl⟩ (fun y X1 H locs hw hP hD hS => ?_)
          obtain ⟨ez, gC⟩ := hw
          have hP := la_PS hP
          have hD := la_DS hD
          refine lv_aload_n hx hb dL_law_406 rfl (lv_at hl 2 rfl) ?_
          refine lv_aload_n hx hb dL_law_407 rfl (lv_at hl 0 rfl) ?_
          refine lv_iload_n hx hb dL_law_408 rfl (lv_at hl 3 rfl) ?_
          refine lv_iconst (v := iI 1) hx hb dL_law_409 rfl ?_
          refine q_iadd hx hb dL_law_410 ?_
          refine la_ld hx hb hX hbl hbA hS hL (by omega) (by omega) e1 dL_law_411 ?_
          refine la_callI (rest := [.int (iI y)]) [.int (iI z1)] ⟨hx, hb, hml, hown, hts2⟩ (L7_now l D z1  gR hz1) (cwV 1 hts2 gL_law_X7_now rfl rfl rfl (by decide +kernel) ⟨Nat.le_of_ble_eq_true rfl, Nat.le_of_ble_eq_true rfl⟩) hK hP hD hS hA hN gR.recv (ci := 7) rfl rfl hl.1 rfl (Nat.le_of_ble_eq_true rfl) dL_law_412 ⟨Nat.le_of_ble_eq_true rfl, Nat.le_of_ble_eq_true rfl⟩ (fun y2 X1 H locs hw hP hD hS => ?_)
          obtain ⟨ey, gR⟩ := hw
          have hP := la_PS hP
          have hD := la_DS hD
          obtain rfl : y = y2 := ez.trans ey.symm
          refine lv_icmp_eq (tgt := 565) hx hb dL_law_415 (by decide) (fun _ => ?_) (fun h => absurd rfl h)
          exact step _ _ _ _ _ _ _ _ _ gC gR hP hD hS _ hl
        ·
          refine lv_tableIn (tgt := 420) hx hb dL_law_32 (by omega) (by omega) (by rw [cK]; rfl) (by decide) ?_
          refine lv_aload_n hx hb dL_law_420 rfl (lv_at hl 1 rfl) ?_
          refine lv_aload_n hx hb dL_law_421 rfl (lv_at hl 0 rfl) ?_
          refine lv_iload_n hx hb dL_law_422 rfl (lv_at hl 3 rfl) ?_
          refine lv_iconst (v := iI 1) hx hb dL_law_423 rfl ?_
          refine q_iadd hx hb dL_law_424 ?_
          refine la_ld hx hb hX hbl hbA hS hL (by omega) (by omega) e1 dL_law_425 ?_
          refine lv_aload_n hx hb dL_law_426 rfl (lv_at hl 0 rfl) ?_
          refine lv_iload_n hx hb dL_law_427 rfl (lv_at hl 3 rfl) ?_
          refine lv_iconst (v := iI 2) hx hb dL_law_428 rfl ?_
          refine q_iadd hx hb dL_law_429 ?_
          refine la_ld hx hb hX hbl hbA hS hL (by omega) (by omega) e2 dL_law_430 ?_
          refine la_callI (rest := []) [.int (iI z1), .int (iI z2)] ⟨hx, hb, hml, hown, hts2⟩ (L6_was l D z1 z2  gC hz1 hz2) (cwV 2 hts2 gL_law_X6_was rfl rfl rfl (by decide +kernel) ⟨Nat.le_of_ble_eq_true rfl, Nat.le_of_ble_eq_true rfl⟩) hK hP hD hS hA hN gC.recv (ci := 6) rfl rfl hl.1 rfl (Nat.le_of_ble_eq_true rfl) dL_law_431 ⟨Nat.le_of_ble_eq_true rfl, Nat.le_of_ble_eq_true rfl⟩ (fun y X1 H locs hw hP hD hS => ?_)
          obtain ⟨ez, gC⟩ := hw
          have hP := la_PS hP
          have hD := la_DS hD
          refine lv_aload_n hx hb dL_law_434 rfl (lv_at hl 2 rfl) ?_
          refine lv_aload_n hx hb dL_law_435 rfl (lv_at hl 0 rfl) ?_
          refine lv_iload_n hx hb dL_law_436 rfl (lv_at hl 3 rfl) ?_
          refine lv_iconst (v := iI 1) hx hb dL_law_437 rfl ?_
          refine q_iadd hx hb dL_law_438 ?_
          refine la_ld hx hb hX hbl hbA hS hL (by omega) (by omega) e1 dL_law_439 ?_
          refine lv_aload_n hx hb dL_law_440 rfl (lv_at hl 0 rfl) ?_
          refine lv_iload_n hx hb dL_law_441 rfl (lv_at hl 3 rfl) ?_
          refine lv_iconst (v := iI 2) hx hb dL_law_442 rfl ?_
          refine q_iadd hx hb dL_law_443 ?_
          refine la_ld hx hb hX hbl hbA hS hL (by omega) (by omega) e2 dL_law_444 ?_
          refine la_callI (rest := [.int (iI y)]) [.int (iI z1), .int (iI z2)] ⟨hx, hb, hml, hown, hts2⟩ (L7_was l D z1 z2  gR hz1 hz2) (cwV 2 hts2 gL_law_X7_was rfl rfl rfl (by decide +kernel) ⟨Nat.le_of_ble_eq_true rfl, Nat.le_of_ble_eq_true rfl⟩) hK hP hD hS hA hN gR.recv (ci := 7) rfl rfl hl.1 rfl (Nat.le_of_ble_eq_true rfl) dL_law_445 ⟨Nat.le_of_ble_eq_true rfl, Nat.le_of_ble_eq_true rfl⟩ (fun y2 X1 H locs hw hP hD hS => ?_)
          obtain ⟨ey, gR⟩ := hw
          have hP := la_PS hP
          have hD := la_DS hD
          obtain rfl : y = y2 := ez.trans ey.symm
          refine lv_icmp_eq (tgt := 565) hx hb dL_law_448 (by decide) (fun _ => ?_) (fun h => absurd rfl h)
          exact step _ _ _ _ _ _ _ _ _ gC gR hP hD hS _ hl
        ·
          refine lv_tableIn (tgt := 453) hx hb dL_law_32 (by omega) (by omega) (by rw [cK]; rfl) (by decide) ?_
          refine lv_aload_n hx hb dL_law_453 rfl (lv_at hl 1 rfl) ?_
          refine lv_aload_n hx hb dL_law_454 rfl (lv_at hl 0 rfl) ?_
          refine lv_iload_n hx hb dL_law_455 rfl (lv_at hl 3 rfl) ?_
          refine lv_iconst (v := iI 1) hx hb dL_law_456 rfl ?_
          refine q_iadd hx hb dL_law_457 ?_
          refine la_ld hx hb hX hbl hbA hS hL (by omega) (by omega) e1 dL_law_458 ?_
          refine la_callI (rest := []) [.int (iI z1)] ⟨hx, hb, hml, hown, hts2⟩ (L6_hindsight l D z1  gC hz1) (cwV 1 hts2 gL_law_X6_hindsight rfl rfl rfl (by decide +kernel) ⟨Nat.le_of_ble_eq_true rfl, Nat.le_of_ble_eq_true rfl⟩) hK hP hD hS hA hN gC.recv (ci := 6) rfl rfl hl.1 rfl (Nat.le_of_ble_eq_true rfl) dL_law_459 ⟨Nat.le_of_ble_eq_true rfl, Nat.le_of_ble_eq_true rfl⟩ (fun y X1 H locs hw hP hD hS => ?_)
          obtain ⟨ez, gC⟩ := hw
          have hP := la_PS hP
          have hD := la_DS hD
          refine lv_aload_n hx hb dL_law_462 rfl (lv_at hl 2 rfl) ?_
          refine lv_aload_n hx hb dL_law_463 rfl (lv_at hl 0 rfl) ?_
          refine lv_iload_n hx hb dL_law_464 rfl (lv_at hl 3 rfl) ?_
          refine lv_iconst (v := iI 1) hx hb dL_law_465 rfl ?_
          refine q_iadd hx hb dL_law_466 ?_
          refine la_ld hx hb hX hbl hbA hS hL (by omega) (by omega) e1 dL_law_467 ?_
          refine la_callI (rest := [.int (iI y)]) [.int (iI z1)] ⟨hx, hb, hml, hown, hts2⟩ (L7_hindsight l D z1  gR hz1) (cwV 1 hts2 gL_law_X7_hindsight rfl rfl rfl (by decide +kernel) ⟨Nat.le_of_ble_eq_true rfl, Nat.le_of_ble_eq_true rfl⟩) hK hP hD hS hA hN gR.recv (ci := 7) rfl rfl hl.1 rfl (Nat.le_of_ble_eq_true rfl) dL_law_468 ⟨Nat.le_of_ble_eq_true rfl, Nat.le_of_ble_eq_true rfl⟩ (fun y2 X1 H locs hw hP hD hS => ?_)
          obtain ⟨ey, gR⟩ := hw
          have hP := la_PS hP
          have hD := la_DS hD
          obtain rfl : y = y2 := hiG.unique ez ey
          refine lv_icmp_eq (tgt := 565) hx hb dL_law_471 (by decide) (fun _ => ?_) (fun h => absurd rfl h)
          exact step _ _ _ _ _ _ _ _ _ gC gR hP hD hS _ hl
        ·
          refine lv_tableIn (tgt := 476) hx hb dL_law_32 (by omega) (by omega) (by rw [cK]; rfl) (by decide) ?_
          refine lv_aload_n hx hb dL_law_476 rfl (lv_at hl 1 rfl) ?_
          refine lv_aload_n hx hb dL_law_477 rfl (lv_at hl 0 rfl) ?_
          refine lv_iload_n hx hb dL_law_478 rfl (lv_at hl 3 rfl) ?_
          refine lv_iconst (v := iI 1) hx hb dL_law_479 rfl ?_
          refine q_iadd hx hb dL_law_480 ?_
          refine la_ld hx hb hX hbl hbA hS hL (by omega) (by omega) e1 dL_law_481 ?_
          refine lv_aload_n hx hb dL_law_482 rfl (lv_at hl 0 rfl) ?_
          refine lv_iload_n hx hb dL_law_483 rfl (lv_at hl 3 rfl) ?_
          refine lv_iconst (v := iI 2) hx hb dL_law_484 rfl ?_
          refine q_iadd hx hb dL_law_485 ?_
          refine la_ld hx hb hX hbl hbA hS hL (by omega) (by omega) e2 dL_law_486 ?_
          refine lv_aload_n hx hb dL_law_487 rfl (lv_at hl 0 rfl) ?_
          refine lv_iload_n hx hb dL_law_488 rfl (lv_at hl 3 rfl) ?_
          refine lv_iconst (v := iI 3) hx hb dL_law_489 rfl ?_
          refine q_iadd hx hb dL_law_490 ?_
          refine la_ld hx hb hX hbl hbA hS hL (by omega) (by omega) e3 dL_law_491 ?_
          refine la_callI (rest := []) [.int (iI z1), .int (iI z2), .int (iI z3)] ⟨hx, hb, hml, hown, hts2⟩ (L6_worst l D z1 z2 z3  gC hz1 hz2 hz3) (cwV 3 hts2 gL_law_X6_worst rfl rfl rfl (by decide +kernel) ⟨Nat.le_of_ble_eq_true rfl, Nat.le_of_ble_eq_true rfl⟩) hK hP hD hS hA hN gC.recv (ci := 6) rfl rfl hl.1 rfl (Nat.le_of_ble_eq_true rfl) dL_law_492 ⟨Nat.le_of_ble_eq_true rfl, Nat.le_of_ble_eq_true rfl⟩ (fun y X1 H locs hw hP hD hS => ?_)
          obtain ⟨ez, gC⟩ := hw
          have hP := la_PS hP
          have hD := la_DS hD
          refine lv_aload_n hx hb dL_law_495 rfl (lv_at hl 2 rfl) ?_
          refine lv_aload_n hx hb dL_law_496 rfl (lv_at hl 0 rfl) ?_
          refine lv_iload_n hx hb dL_law_497 rfl (lv_at hl 3 rfl) ?_
          refine lv_iconst (v := iI 1) hx hb dL_law_498 rfl ?_
          refine q_iadd hx hb dL_law_499 ?_
          refine la_ld hx hb hX hbl hbA hS hL (by omega) (by omega) e1 dL_law_500 ?_
          refine lv_aload_n hx hb dL_law_501 rfl (lv_at hl 0 rfl) ?_
          refine lv_iload_n hx hb dL_law_502 rfl (lv_at hl 3 rfl) ?_
          refine lv_iconst (v := iI 2) hx hb dL_law_503 rfl ?_
          refine q_iadd hx hb dL_law_504 ?_
          refine la_ld hx hb hX hbl hbA hS hL (by omega) (by omega) e2 dL_law_505 ?_
          refine lv_aload_n hx hb dL_law_506 rfl (lv_at hl 0 rfl) ?_
          refine lv_iload_n hx hb dL_law_507 rfl (lv_at hl 3 rfl) ?_
          refine lv_iconst (v := iI 3) hx hb dL_law_508 rfl ?_
          refine q_iadd hx hb dL_law_509 ?_
          refine la_ld hx hb hX hbl hbA hS hL (by omega) (by omega) e3 dL_law_510 ?_
          refine la_callI (rest := [.int (iI y)]) [.int (iI z1), .int (iI z2), .int (iI z3)] ⟨hx, hb, hml, hown, hts2⟩ (L7_worst l D z1 z2 z3  gR hz1 hz2 hz3) (cwV 3 hts2 gL_law_X7_worst rfl rfl rfl (by decide +kernel) ⟨Nat.le_of_ble_eq_true rfl, Nat.le_of_ble_eq_true rfl⟩) hK hP hD hS hA hN gR.recv (ci := 7) rfl rfl hl.1 rfl (Nat.le_of_ble_eq_true rfl) dL_law_511 ⟨Nat.le_of_ble_eq_true rfl, Nat.le_of_ble_eq_true rfl⟩ (fun y2 X1 H locs hw hP hD hS => ?_)
          obtain ⟨ey, gR⟩ := hw
          have hP := la_PS hP
          have hD := la_DS hD
          obtain rfl : y = y2 := ez.trans ey.symm
          refine lv_icmp_eq (tgt := 565) hx hb dL_law_514 (by decide) (fun _ => ?_) (fun h => absurd rfl h)
          exact step _ _ _ _ _ _ _ _ _ gC gR hP hD hS _ hl
        ·
          refine lv_tableIn (tgt := 519) hx hb dL_law_32 (by omega) (by omega) (by rw [cK]; rfl) (by decide) ?_
          refine lv_aload_n hx hb dL_law_519 rfl (lv_at hl 1 rfl) ?_
          refine lv_aload_n hx hb dL_law_520 rfl (lv_at hl 0 rfl) ?_
          refine lv_iload_n hx hb dL_law_521 rfl (lv_at hl 3 rfl) ?_
          refine lv_iconst (v := iI 1) hx hb dL_law_522 rfl ?_
          refine q_iadd hx hb dL_law_523 ?_
          refine la_ld hx hb hX hbl hbA hS hL (by omega) (by omega) e1 dL_law_524 ?_
          refine lv_aload_n hx hb dL_law_525 rfl (lv_at hl 0 rfl) ?_
          refine lv_iload_n hx hb dL_law_526 rfl (lv_at hl 3 rfl) ?_
          refine lv_iconst (v := iI 2) hx hb dL_law_527 rfl ?_
          refine q_iadd hx hb dL_law_528 ?_
          refine la_ld hx hb hX hbl hbA hS hL (by omega) (by omega) e2 dL_law_529 ?_
          refine la_callI (rest := []) [.int (iI z1), .int (iI z2)] ⟨hx, hb, hml, hown, hts2⟩ (L6_swing l D z1 z2  gC hz1 hz2) (cwV 2 hts2 gL_law_X6_swing rfl rfl rfl (by decide +kernel) ⟨Nat.le_of_ble_eq_true rfl, Nat.le_of_ble_eq_true rfl⟩) hK hP hD hS hA hN gC.recv (ci := 6) rfl rfl hl.1 rfl (Nat.le_of_ble_eq_true rfl) dL_law_530 ⟨Nat.le_of_ble_eq_true rfl, Nat.le_of_ble_eq_true rfl⟩ (fun y X1 H locs hw hP hD hS => ?_)
          obtain ⟨ez, gC⟩ := hw
          have hP := la_PS hP
          have hD := la_DS hD
          refine lv_aload_n hx hb dL_law_533 rfl (lv_at hl 2 rfl) ?_
          refine lv_aload_n hx hb dL_law_534 rfl (lv_at hl 0 rfl) ?_
          refine lv_iload_n hx hb dL_law_535 rfl (lv_at hl 3 rfl) ?_
          refine lv_iconst (v := iI 1) hx hb dL_law_536 rfl ?_
          refine q_iadd hx hb dL_law_537 ?_
          refine la_ld hx hb hX hbl hbA hS hL (by omega) (by omega) e1 dL_law_538 ?_
          refine lv_aload_n hx hb dL_law_539 rfl (lv_at hl 0 rfl) ?_
          refine lv_iload_n hx hb dL_law_540 rfl (lv_at hl 3 rfl) ?_
          refine lv_iconst (v := iI 2) hx hb dL_law_541 rfl ?_
          refine q_iadd hx hb dL_law_542 ?_
          refine la_ld hx hb hX hbl hbA hS hL (by omega) (by omega) e2 dL_law_543 ?_
          refine la_callI (rest := [.int (iI y)]) [.int (iI z1), .int (iI z2)] ⟨hx, hb, hml, hown, hts2⟩ (L7_swing l D z1 z2  gR hz1 hz2) (cwV 2 hts2 gL_law_X7_swing rfl rfl rfl (by decide +kernel) ⟨Nat.le_of_ble_eq_true rfl, Nat.le_of_ble_eq_true rfl⟩) hK hP hD hS hA hN gR.recv (ci := 7) rfl rfl hl.1 rfl (Nat.le_of_ble_eq_true rfl) dL_law_544 ⟨Nat.le_of_ble_eq_true rfl, Nat.le_of_ble_eq_true rfl⟩ (fun y2 X1 H locs hw hP hD hS => ?_)
          obtain ⟨ey, gR⟩ := hw
          have hP := la_PS hP
          have hD := la_DS hD
          obtain rfl : y = y2 := ez.trans ey.symm
          refine lv_icmp_eq (tgt := 565) hx hb dL_law_547 (by decide) (fun _ => ?_) (fun h => absurd rfl h)
          exact step _ _ _ _ _ _ _ _ _ gC gR hP hD hS _ hl
        ·
          refine lv_tableIn (tgt := 552) hx hb dL_law_32 (by omega) (by omega) (by rw [cK]; rfl) (by decide) ?_
          refine lv_aload_n hx hb dL_law_552 rfl (lv_at hl 1 rfl) ?_
          refine la_callI (rest := []) [] ⟨hx, hb, hml, hown, hts2⟩ (L6_digest l D  gC ) (cwV 0 hts2 gL_law_X6_digest rfl rfl rfl (by decide +kernel) ⟨Nat.le_of_ble_eq_true rfl, Nat.le_of_ble_eq_true rfl⟩) hK hP hD hS hA hN gC.recv (ci := 6) rfl rfl hl.1 rfl (Nat.le_of_ble_eq_true rfl) dL_law_553 ⟨Nat.le_of_ble_eq_true rfl, Nat.le_of_ble_eq_true rfl⟩ (fun y X1 H locs hw hP hD hS => ?_)
          obtain ⟨ez, gC⟩ := hw
          have hP := la_PS hP
          have hD := la_DS hD
          refine lv_aload_n hx hb dL_law_556 rfl (lv_at hl 2 rfl) ?_
          refine la_callI (rest := [.int (iI y)]) [] ⟨hx, hb, hml, hown, hts2⟩ (L7_digest l D  gR ) (cwV 0 hts2 gL_law_X7_digest rfl rfl rfl (by decide +kernel) ⟨Nat.le_of_ble_eq_true rfl, Nat.le_of_ble_eq_true rfl⟩) hK hP hD hS hA hN gR.recv (ci := 7) rfl rfl hl.1 rfl (Nat.le_of_ble_eq_true rfl) dL_law_557 ⟨Nat.le_of_ble_eq_true rfl, Nat.le_of_ble_eq_true rfl⟩ (fun y2 X1 H locs hw hP hD hS => ?_)
          obtain ⟨ey, gR⟩ := hw
          have hP := la_PS hP
          have hD := la_DS hD
          obtain rfl : y = y2 := ez.trans ey.symm
          refine lv_icmp_eq (tgt := 565) hx hb dL_law_560 (by decide) (fun _ => ?_) (fun h => absurd rfl h)
          exact step _ _ _ _ _ _ _ _ _ gC gR hP hD hS _ hl

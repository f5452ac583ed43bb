/-! a contract over a larger world -/
theorem CtI.lift {S : Type} {l : Launch} {y : MethodName} {ws : List Cond} {fr lo : Nat} {D : va_G} {tys : List (ClassId × FieldType)} {av : List Value} {w wc wr : va_W} {post : Int → S → Prop} {w1 wn : S → va_W} {G : Int → va_W → Prop}
    (h : CtI l y ws fr lo D tys av wc post w1) (isC isR is : List Nat) (hnC : va_nd isC = true) (hcD : isC.map (fun i => w[i]?) = wc.map some) (hR : isR.map (fun i => w[i]?) = wr.map some) (hnR : va_nd isR = true) (hdis : ∀ i ∈ isR, i ∉ isC) (hnw : va_nd is = true) (hwn : ∀ u, is.map (fun i => (wr ++ w1 u)[i]?) = (wn u).map some)
    (hG : ∀ z u, post z u → G z (wn u)) : CtI (S := va_W) l y ws fr lo D tys av w G (fun x => x) := by
  intro sz
  refine MetFree.mono (h sz) ?_ (fun _ _ _ _ _ q => q) ?_
  · intro a s hp
    obtain ⟨h1, h2, h3, h4, h5, h6⟩ := hp
    exact ⟨h1, h2, h3.sub isC (filterMap_of_map hcD), h4, h5.sub isC hnC hcD, h6⟩
  · intro a s o t hp hq
    obtain ⟨-, h2, h3, h4, h5, h6⟩ := hp
    obtain ⟨⟨⟨r, u, ho, ⟨z, hz, hpo⟩, hP1, hK1, hD1⟩, hF1, hF2⟩, L, hL1, hL2⟩ := hq
    have hFc := va_free (A0 := va_A w sz) (wc := wc) (locs := []) h5.self (H := s.heap) (H0 := s.heap) va_S.rf (fun q hq => Or.inr (by rw [← h2]; exact hq)) isC hcD
    rw [h2] at hFc
    have hj := va_join (A0 := va_A w sz) (wr := wr) (w1 := w1 u) h3 h5.self isC isR hcD hR hnR hdis (H1 := t.heap) (fun q q1 q2 => hF2 q q1 (by rw [h2] at q2; exact q2)) (by rw [h2]; exact hFc) hP1 (by rw [h2]; exact hD1)
    exact ⟨⟨⟨r, wn u, ho, ⟨z, hz, hG z u hpo⟩, hj.1.sub is (filterMap_of_map (hwn u)), hK1, hj.2.sub is hnw (hwn u)⟩, hF1, fun q q1 q2 => hF2 q q1 (fun q3 => q2 (hFc q q3))⟩, L, hL1, fun q hq => hFc _ (hL2 q hq)⟩
theorem CtIz.lift {S : Type} {la ha : Nat} {lw hg : Int → Int} {l : Launch} {y : MethodName} {ws : List Cond} {fr lo : Nat} {D : va_G} {tys : List (ClassId × FieldType)} {av : List Value} {w wc wr : va_W} {post : Int → S → Prop} {w1 wn : S → va_W} {G : Int → va_W → Prop}
    (h : CtIz la ha lw hg l y ws fr lo D tys av wc post w1) (isC isR is : List Nat) (hnC : va_nd isC = true) (hcD : isC.map (fun i => w[i]?) = wc.map some) (hR : isR.map (fun i => w[i]?) = wr.map some) (hnR : va_nd isR = true) (hdis : ∀ i ∈ isR, i ∉ isC) (hnw : va_nd is = true) (hwn : ∀ u, is.map (fun i => (wr ++ w1 u)[i]?) = (wn u).map some)
    (hG : ∀ z u, post z u → G z (wn u)) : CtIz (S := va_W) la ha lw hg l y ws fr lo D tys av w G (fun x => x) := by
  intro sz
  have hFw : ∀ s : State, s.heap.size = sz → va_D (fun _ => True) w → ∀ q, va_A wc sz q → va_A w sz q := by
    intro s h2 h5
    have hFc := va_free (A0 := va_A w sz) (wc := wc) (locs := []) h5.self (H := s.heap) (H0 := s.heap) va_S.rf (fun q hq => Or.inr (by rw [← h2]; exact hq)) isC hcD
    rw [h2] at hFc
    exact hFc
  refine MetFree.mono (h sz) ?_ (fun _ _ _ _ _ q => q) ?_
  · intro a s hp
    obtain ⟨h1, ⟨h2, h3, h4, h5, h6⟩, h7⟩ := hp
    have hF := hFw s h2 h5
    exact ⟨h1, ⟨h2, h3.sub isC (filterMap_of_map hcD), h4, h5.sub isC hnC hcD, h6⟩, ⟨h7.1.1.narrow hF, h7.1.2.narrow hF⟩, ⟨h7.2.1.narrow hF, h7.2.2.narrow hF⟩⟩
  · intro a s o t hp hq
    obtain ⟨-, ⟨h2, h3, h4, h5, h6⟩, -⟩ := hp
    obtain ⟨⟨⟨r, u, ho, ⟨z, hz, hpo⟩, hP1, hK1, hD1⟩, hF1, hF2⟩, L, hL1, hL2⟩ := hq
    have hFc := hFw s h2 h5
    have hj := va_join (A0 := va_A w sz) (wr := wr) (w1 := w1 u) h3 h5.self isC isR hcD hR hnR hdis (H1 := t.heap) (fun q q1 q2 => hF2 q q1 (by rw [h2] at q2; exact q2)) (by rw [h2]; exact hFc) hP1 (by rw [h2]; exact hD1)
    exact ⟨⟨⟨r, wn u, ho, ⟨z, hz, hG z u hpo⟩, hj.1.sub is (filterMap_of_map (hwn u)), hK1, hj.2.sub is hnw (hwn u)⟩, hF1, fun q q1 q2 => hF2 q q1 (fun q3 => q2 (hFc q q3))⟩, L, hL1, fun q hq => hFc _ (hL2 q hq)⟩
/-! what the calls leave of the state, and what they show of it -/
theorem faN_out {st : Int → Int} {s b : Int} (h : ∀ j, ¬ (0 ≤ j ∧ j < 12) → st j = 0) : ∀ j, ¬ (0 ≤ j ∧ j < 12) → faN st s b j = 0 := by
  intro j hj
  unfold faN
  split
  · rw [uI_at]
    split
    · rfl
    · exact h j hj
  · exact h j hj
theorem faN_AG {st bg sn : Int → Int} {s b : Int} (h : AG st bg sn) : AG (faN st s b) bg sn := by
  intro j hj
  apply h
  unfold faN at hj
  split at hj
  · rw [uI_at] at hj
    by_cases q : j = s
    · rw [if_pos q] at hj; omega
    · rw [if_neg q] at hj; exact hj
  · exact hj
def faA (a : Ab) (s b : Int) : Ab := (a.1, faN a.2.1 s b, a.2.2)
theorem CR.fail {st bg le tr si rg no h0 h1 h2 h3 h4 h5 : Int → Int} {hd gr wt rt rd ti wa lc ca dn lo bi : Int} {a : Ab} (s b : Int) (h : CR st bg le tr si rg no h0 h1 h2 h3 h4 h5 hd gr wt rt rd ti wa lc ca dn lo bi a) :
    CR (faN st s b) bg le tr si rg no h0 h1 h2 h3 h4 h5 hd gr wt rt rd ti wa lc ca dn lo bi (faA a s b) := by
  obtain ⟨e1, e2, e3, e4⟩ := h
  exact ⟨e1, by rw [e2]; rfl, faN_AG e3, e4⟩
theorem MR.fail {ru st sn kt kr km ar am hp no ws : Int → Int} {a : Ab} (s b : Int) (h : MR ru st sn kt kr km ar am hp no ws a) : MR ru (faN st s b) sn kt kr km ar am hp no ws (faA a s b) := by
  obtain ⟨e1, e2, e3, e4⟩ := h
  exact ⟨e1, by rw [e2]; rfl, faN_AG e3, e4⟩
/-- what 'now' shows of a run -/
def nowF (a : Ab) (k : Int) : Int := figF a.2.1 (a.1 0) (mny a.2.2.2.2.2.1) (mny a.2.2.2.2.2.2) (a.1 1) (a.1 2) (a.1 3) (a.1 4) (a.1 5) (a.1 6) (a.1 7) k
theorem CR.now {st bg le tr si rg no h0 h1 h2 h3 h4 h5 : Int → Int} {hd gr wt rt rd ti wa lc ca dn lo bi : Int} {a : Ab} (h : CR st bg le tr si rg no h0 h1 h2 h3 h4 h5 hd gr wt rt rd ti wa lc ca dn lo bi a) : figF st ti wt rt dn lo bi rd wa lc ca = nowF a := by
  obtain ⟨⟨e1, e2, e3, e4, e5, e6, e7, e8⟩, e9, -, -, -, -, e10, e11, -⟩ := h
  funext k
  unfold nowF
  rw [e1, e2, e3, e4, e5, e6, e7, e8, e9, e10, e11]
theorem MR.now {ru st sn kt kr km ar am hp no ws : Int → Int} {a : Ab} (h : MR ru st sn kt kr km ar am hp no ws a) : figF st (ru 0) (sI km (hp 0)) (sI am (hp 1)) (ru 1) (ru 2) (ru 3) (ru 4) (ru 5) (ru 6) (ru 7) = nowF a := by
  obtain ⟨e1, e2, -, -, -, ⟨q1, q2, -⟩, e3, e4, -⟩ := h
  funext k
  unfold nowF
  rw [e1 0 (by decide) (by decide), e1 1 (by decide) (by decide), e1 2 (by decide) (by decide), e1 3 (by decide) (by decide), e1 4 (by decide) (by decide), e1 5 (by decide) (by decide), e1 6 (by decide) (by decide), e1 7 (by decide) (by decide), e2, ← e3, ← e4, mny_hL _ _ _ q1, mny_hL _ _ _ q2]
theorem AG.server {st bg sn : Int → Int} {ti s w : Int} (h : AG st bg sn) : svZ st bg ti s w = svZ st sn ti s w := by
  unfold svZ
  by_cases q : st s = 1 ∨ st s = 3
  · rw [h s q]
  · simp only [if_neg q]
theorem CR.was {st bg le tr si rg no h0 h1 h2 h3 h4 h5 : Int → Int} {hd gr wt rt rd ti wa lc ca dn lo bi : Int} {a : Ab} (h : CR st bg le tr si rg no h0 h1 h2 h3 h4 h5 hd gr wt rt rd ti wa lc ca dn lo bi a) {t k : Int} :
    (if (0 ≤ t ∧ t ≤ 199) ∧ (0 ≤ k ∧ k ≤ 5) then (if t < ti then hkF h0 h1 h2 h3 h4 h5 k t else -1003) else -1002) = waZ a.2.2.2.2.1 (a.1 0) t k := by
  obtain ⟨⟨e1, -⟩, -, -, -, e5, -⟩ := h
  unfold waZ
  rw [← e1]
  by_cases q : (0 ≤ t ∧ t ≤ 199) ∧ (0 ≤ k ∧ k ≤ 5)
  · rw [if_pos q, if_pos q]
    by_cases q2 : t < ti
    · rw [if_pos q2, if_pos q2]
      obtain ⟨f0, f1, f2, f3, f4, f5⟩ := e5 t q.1.1 q2
      unfold hkF
      rcases (show k = 0 ∨ k = 1 ∨ k = 2 ∨ k = 3 ∨ k = 4 ∨ k = 5 by omega) with rfl | rfl | rfl | rfl | rfl | rfl
      · simpa using f0
      · simpa using f1
      · simpa using f2
      · simpa using f3
      · simpa using f4
      · simpa using f5
    · rw [if_neg q2, if_neg q2]
  · rw [if_neg q, if_neg q]
theorem MR.was {ru st sn kt kr km ar am hp no ws : Int → Int} {a : Ab} (h : MR ru st sn kt kr km ar am hp no ws a) {t k : Int} : waZ ws (ru 0) t k = waZ a.2.2.2.2.1 (a.1 0) t k := by
  obtain ⟨e1, -, -, -, e5, -⟩ := h
  have e0 := e1 0 (by decide) (by decide)
  unfold waZ
  rw [← e0]
  by_cases q : (0 ≤ t ∧ t ≤ 199) ∧ (0 ≤ k ∧ k ≤ 5)
  · rw [if_pos q, if_pos q]
    by_cases q2 : t < ru 0
    · rw [if_pos q2, if_pos q2]
      exact e5 _ (by omega) (by omega)
    · rw [if_neg q2, if_neg q2]
  · rw [if_neg q, if_neg q]
/-- what hindsight answers -/
def hiG (se ld : Int → Int) (n z : Int) : Prop := (z = -1002 ∧ ¬ (1 ≤ n ∧ n ≤ 24)) ∨ ((1 ≤ n ∧ n ≤ 24) ∧ isH ld se n.toNat z)
theorem hiG.unique {se ld : Int → Int} {n z z' : Int} (h : hiG se ld n z) (h' : hiG se ld n z') : z = z' := by
  rcases h with h | h <;> rcases h' with h' | h'
  · omega
  · omega
  · omega
  · exact isH_unique h.2 h'.2
theorem hiG.congr {se ld ld' : Int → Int} (h3 : 1 ≤ se 3) {n z : Int} (e : ∀ j, 0 ≤ j → j < 200 → ld j = ld' j) (h : hiG se ld n z) : hiG se ld' n z := by
  rcases h with h | h
  · exact Or.inl h
  · exact Or.inr ⟨h.1, isH_congr h3 (fun j q1 q2 => e j q1 (by omega)) h.2⟩
theorem ldZ_congr {ld ld' : Int → Int} {ti t v : Int} (e : ∀ j, 0 ≤ j → j < 200 → ld j = ld' j) : ldZ ld ti t v = ldZ ld' ti t v := by
  unfold ldZ
  by_cases q : (0 ≤ t ∧ t ≤ 199) ∧ (0 ≤ v ∧ v ≤ 60)
  · rw [if_pos q, if_pos q, e t q.1.1 (by omega)]
  · rw [if_neg q, if_neg q]
theorem ldN_congr {ld ld' : Int → Int} {ti t v : Int} (e : ∀ j, 0 ≤ j → j < 200 → ld j = ld' j) : ∀ j, 0 ≤ j → j < 200 → ldN ld ti t v j = ldN ld' ti t v j := by
  intro j q1 q2
  unfold ldN
  split
  · rw [uI_at, uI_at, e j q1 q2]
  · exact e j q1 q2
theorem tkI_ag {se pl ld lm ld' : Int → Int} {a : Ab} {n : Int} (h0 : 0 ≤ a.1 0) (e : ∀ j, 0 ≤ j → j < 200 → ld j = ld' j) : tkI se pl ld lm (tiC (a.1 0) n) a = tkI se pl ld' lm (tiC (a.1 0) n) a := by
  apply tkI_congr
  intro j q1 q2
  refine ⟨e j (by omega) ?_, rfl⟩
  unfold tiC at q2
  split at q2
  · have : ((n.toNat : Nat) : Int) = n := Int.toNat_of_nonneg (by omega)
    omega
  · omega
/-! the two states: the class, and the reference, are the run a with these settings, plan, loads, lost meters -/
def GC (cI cZ cII : ClassId) (mh : Nat) (w : va_W) (a : Ab) (se pl ld lm : Int → Int) : Prop := ∃ (ad : Nat → Nat) (qa qb : Nat) (ra rb : Nat → Nat) (ti wa lc ca dn lo bi hd gr wt rt rd : Int) (st bg le tr si rg no h0 h1 h2 h3 h4 h5 : Int → Int) (xti xwa xlc xca xdn xlo xbi xhd xgr xwt xrt xrd : Int) (xld xst xbg xle xtr xsi xrg xno xh0 xh1 xh2 xh3 xh4 xh5 : Int → Int) (P N : Int → Int → Int), w = [(mh, .inr (6, [.ref (ad 0), .ref (ad 3), .ref (ad 23), .ref (ad 43)])), ((ad 0), .inr (5, [.ref (ad 1), .ref (ad 2)])), ((ad 1), .inl (cI, 19, .inl (ia se))), ((ad 2), .inl (cI, 24, .inl (ia pl))), ((ad 3), .inr (4, [.ref (ad 0), .ref (ad 4), .ref (ad 5), .ref (ad 6), .ref (ad 9), .ref (ad 14), .ref (ad 16), .int (iI ti), .int (iI wa), .int (iI lc), .int (iI ca), .int (iI dn), .int (iI lo), .int (iI bi)])), ((ad 4), .inl (cI, 200, .inl (ia ld))), ((ad 5), .inl (cZ, 200, .inl (ia lm))), ((ad 6), .inr (3, [.ref (ad 7), .ref (ad 8)])), ((ad 7), .inl (cI, 12, .inl (ia st))), ((ad 8), .inl (cI, 12, .inl (ia bg))), ((ad 9), .inr (2, [.ref (ad 10), .ref (ad 11), .ref (ad 12), .ref (ad 13), .int (iI hd), .int (iI gr), .int (iI wt), .int (iI rt)])), ((ad 10), .inl (cI, 200, .inl (ia le))), ((ad 11), .inl (cI, 200, .inl (ia tr))), ((ad 12), .inl (cI, 200, .inl (ia si))), ((ad 13), .inl (cI, 200, .inl (ia rg))), ((ad 14), .inr (1, [.ref (ad 15), .int (iI rd)])), ((ad 15), .inl (cI, 200, .inl (ia no))), ((ad 16), .inl (cII, 6, .inr (.inr (.inr (.inr (fun k => [(ad 17), (ad 18), (ad 19), (ad 20), (ad 21), (ad 22)][k]?)))))), ((ad 17), .inl (cI, 200, .inl (ia h0))), ((ad 18), .inl (cI, 200, .inl (ia h1))), ((ad 19), .inl (cI, 200, .inl (ia h2))), ((ad 20), .inl (cI, 200, .inl (ia h3))), ((ad 21), .inl (cI, 200, .inl (ia h4))), ((ad 22), .inl (cI, 200, .inl (ia h5))), ((ad 23), .inr (4, [.ref (ad 0), .ref (ad 24), .ref (ad 25), .ref (ad 26), .ref (ad 29), .ref (ad 34), .ref (ad 36), .int (iI xti), .int (iI xwa), .int (iI xlc), .int (iI xca), .int (iI xdn), .int (iI xlo), .int (iI xbi)])), ((ad 24), .inl (cI, 200, .inl (ia xld))), ((ad 25), .inl (cZ, 200, .inl (ia (fun _ => 0)))), ((ad 26), .inr (3, [.ref (ad 27), .ref (ad 28)])), ((ad 27), .inl (cI, 12, .inl (ia xst))), ((ad 28), .inl (cI, 12, .inl (ia xbg))), ((ad 29), .inr (2, [.ref (ad 30), .ref (ad 31), .ref (ad 32), .ref (ad 33), .int (iI xhd), .int (iI xgr), .int (iI xwt), .int (iI xrt)])), ((ad 30), .inl (cI, 200, .inl (ia xle))), ((ad 31), .inl (cI, 200, .inl (ia xtr))), ((ad 32), .inl (cI, 200, .inl (ia xsi))), ((ad 33), .inl (cI, 200, .inl (ia xrg))), ((ad 34), .inr (1, [.ref (ad 35), .int (iI xrd)])), ((ad 35), .inl (cI, 200, .inl (ia xno))), ((ad 36), .inl (cII, 6, .inr (.inr (.inr (.inr (fun k => [(ad 37), (ad 38), (ad 39), (ad 40), (ad 41), (ad 42)][k]?)))))), ((ad 37), .inl (cI, 200, .inl (ia xh0))), ((ad 38), .inl (cI, 200, .inl (ia xh1))), ((ad 39), .inl (cI, 200, .inl (ia xh2))), ((ad 40), .inl (cI, 200, .inl (ia xh3))), ((ad 41), .inl (cI, 200, .inl (ia xh4))), ((ad 42), .inl (cI, 200, .inl (ia xh5))), ((ad 43), .inr (0, [.ref qa, .ref qb])), (qa, .inl (cII, 13, .inr (.inr (.inr (.inr (fun k => [(ra 0), (ra 1), (ra 2), (ra 3), (ra 4), (ra 5), (ra 6), (ra 7), (ra 8), (ra 9), (ra 10), (ra 11), (ra 12)][k]?)))))), ((ra 0), .inl (cI, 541, .inl (ia (P 0)))), ((ra 1), .inl (cI, 541, .inl (ia (P 1)))), ((ra 2), .inl (cI, 541, .inl (ia (P 2)))), ((ra 3), .inl (cI, 541, .inl (ia (P 3)))), ((ra 4), .inl (cI, 541, .inl (ia (P 4)))), ((ra 5), .inl (cI, 541, .inl (ia (P 5)))), ((ra 6), .inl (cI, 541, .inl (ia (P 6)))), ((ra 7), .inl (cI, 541, .inl (ia (P 7)))), ((ra 8), .inl (cI, 541, .inl (ia (P 8)))), ((ra 9), .inl (cI, 541, .inl (ia (P 9)))), ((ra 10), .inl (cI, 541, .inl (ia (P 10)))), ((ra 11), .inl (cI, 541, .inl (ia (P 11)))), ((ra 12), .inl (cI, 541, .inl (ia (P 12)))), (qb, .inl (cII, 13, .inr (.inr (.inr (.inr (fun k => [(rb 0), (rb 1), (rb 2), (rb 3), (rb 4), (rb 5), (rb 6), (rb 7), (rb 8), (rb 9), (rb 10), (rb 11), (rb 12)][k]?)))))), ((rb 0), .inl (cI, 541, .inl (ia (N 0)))), ((rb 1), .inl (cI, 541, .inl (ia (N 1)))), ((rb 2), .inl (cI, 541, .inl (ia (N 2)))), ((rb 3), .inl (cI, 541, .inl (ia (N 3)))), ((rb 4), .inl (cI, 541, .inl (ia (N 4)))), ((rb 5), .inl (cI, 541, .inl (ia (N 5)))), ((rb 6), .inl (cI, 541, .inl (ia (N 6)))), ((rb 7), .inl (cI, 541, .inl (ia (N 7)))), ((rb 8), .inl (cI, 541, .inl (ia (N 8)))), ((rb 9), .inl (cI, 541, .inl (ia (N 9)))), ((rb 10), .inl (cI, 541, .inl (ia (N 10)))), ((rb 11), .inl (cI, 541, .inl (ia (N 11)))), ((rb 12), .inl (cI, 541, .inl (ia (N 12))))] ∧ (BB 0 1000 se) ∧ (BB 0 12 pl) ∧ (SB se) ∧ (BB 0 60 ld) ∧ (BB 0 1 lm) ∧ (BB 0 3 st) ∧ (BB 0 200 bg) ∧ (BB 0 60 le) ∧ (BB 0 4 tr) ∧ (BB 0 200 si) ∧ (BB 0 199 rg) ∧ (BB (-1) 12000 no) ∧ (CR st bg le tr si rg no h0 h1 h2 h3 h4 h5 hd gr wt rt rd ti wa lc ca dn lo bi a) ∧ (∀ j, ¬ (0 ≤ j ∧ j < 12) → st j = 0) ∧ (BB 0 60 xld) ∧ (BB 0 3 xst) ∧ (BB 0 200 xbg) ∧ (BB 0 60 xle) ∧ (BB 0 4 xtr) ∧ (BB 0 200 xsi) ∧ (BB 0 199 xrg) ∧ (BB (-1) 12000 xno) ∧ (∀ j, ¬ (0 ≤ j ∧ j < 12) → xst j = 0) ∧ (∀ x, BB 0 1000000 (P x)) ∧ (∀ x, BB 0 1000000 (N x))
def GR (cI cZ cII : ClassId) (mo : Nat) (w : va_W) (a : Ab) (se pl ld lm : Int → Int) : Prop := ∃ (ad : Nat → Nat) (lw hg rl ru st sn kt kr km ar am hp no ws kp pr nx tl : Int → Int) (aa : Int), w = [(mo, .inr (7, [.ref (ad 0), .ref (ad 1), .ref (ad 2), .ref (ad 3), .ref (ad 4), .ref (ad 5), .ref (ad 6), .ref (ad 7), .ref (ad 8), .ref (ad 9), .ref (ad 10), .ref (ad 11), .ref (ad 12), .ref (ad 13), .ref (ad 14), .ref (ad 15), .ref (ad 16), .ref (ad 17), .ref (ad 18), .ref (ad 19), .int (iI aa), .ref (ad 21)])), ((ad 0), .inl (cI, 19, .inl (ia se))), ((ad 1), .inl (cI, 19, .inl (ia lw))), ((ad 2), .inl (cI, 19, .inl (ia hg))), ((ad 3), .inl (cI, 200, .inl (ia rl))), ((ad 4), .inl (cZ, 200, .inl (ia lm))), ((ad 5), .inl (cI, 24, .inl (ia pl))), ((ad 6), .inl (cI, 8, .inl (ia ru))), ((ad 7), .inl (cI, 12, .inl (ia st))), ((ad 8), .inl (cI, 12, .inl (ia sn))), ((ad 9), .inl (cI, 200, .inl (ia kt))), ((ad 10), .inl (cI, 200, .inl (ia kr))), ((ad 11), .inl (cI, 200, .inl (ia km))), ((ad 12), .inl (cI, 200, .inl (ia ar))), ((ad 13), .inl (cI, 200, .inl (ia am))), ((ad 14), .inl (cI, 2, .inl (ia hp))), ((ad 15), .inl (cI, 200, .inl (ia no))), ((ad 16), .inl (cI, 1200, .inl (ia ws))), ((ad 17), .inl (cI, 2500, .inl (ia kp))), ((ad 18), .inl (cI, 8645, .inl (ia pr))), ((ad 19), .inl (cI, 8645, .inl (ia nx))), ((ad 21), .inl (cI, 200, .inl (ia tl)))] ∧ (BB 0 1000 se) ∧ (BB 0 12 pl) ∧ (SB se) ∧ (BB 0 1 lm) ∧ (BB 0 3 st) ∧ (BB 0 200 sn) ∧ (BB 0 200 kt) ∧ (BB 0 4 kr) ∧ (BB 0 60 km) ∧ (BB 0 4 ar) ∧ (BB 0 60 am) ∧ (BB (-1) 12000 no) ∧ (BB 0 60 rl) ∧ (BB 0 60 tl) ∧ (BB 0 1000 lw) ∧ (BB 0 1000 hg) ∧ (BB 0 1000000000 pr) ∧ (BB 0 1000000000 nx) ∧ (MR ru st sn kt kr km ar am hp no ws a) ∧ (∀ j, ¬ (0 ≤ j ∧ j < 12) → st j = 0) ∧ (∀ j, 0 ≤ j → j ≤ 18 → lw j = loF j ∧ hg j = hiF j) ∧ (∀ j, 0 ≤ j → j < 200 → rl j = ld j)
theorem GC.recv {cI cZ cII : ClassId} {mh : Nat} {w : va_W} {a : Ab} {se pl ld lm : Int → Int} (h : GC cI cZ cII mh w a se pl ld lm) : ∃ fs, w[0]? = some (mh, .inr (6, fs)) := by
  obtain ⟨ad, qa, qb, ra, rb, ti, wa, lc, ca, dn, lo, bi, hd, gr, wt, rt, rd, st, bg, le, tr, si, rg, no, h0, h1, h2, h3, h4, h5, xti, xwa, xlc, xca, xdn, xlo, xbi, xhd, xgr, xwt, xrt, xrd, xld, xst, xbg, xle, xtr, xsi, xrg, xno, xh0, xh1, xh2, xh3, xh4, xh5, P, N, rfl, -⟩ := h
  exact ⟨_, rfl⟩
theorem GR.recv {cI cZ cII : ClassId} {mo : Nat} {w : va_W} {a : Ab} {se pl ld lm : Int → Int} (h : GR cI cZ cII mo w a se pl ld lm) : ∃ fs, w[0]? = some (mo, .inr (7, fs)) := by
  obtain ⟨ad, lw, hg, rl, ru, st, sn, kt, kr, km, ar, am, hp, no, ws, kp, pr, nx, tl, aa, rfl, -⟩ := h
  exact ⟨_, rfl⟩

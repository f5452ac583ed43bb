theorem AG.change {st bg sn : Int → Int} {go ti : Int} (h : AG st bg sn) : AG (chS st go) (chG st bg go ti) (chG st sn go ti) := by
  unfold chS chG
  split
  · exact h.start
  · exact h.shed (fun j _ => Eq.refl _)
theorem tk_hiA {se pl : Int → Int} {ld lm : Int} {a : Ab} {j : Int} (h : j < 6 * a.1 0) : (tk se pl ld lm a).2.2.2.2.1 j = a.2.2.2.2.1 j := by
  show tkWs se pl ld lm a j = _
  unfold tkWs
  rw [if_neg (by omega), if_neg (by omega), if_neg (by omega), if_neg (by omega), if_neg (by omega), if_neg (by omega)]
theorem mny_len {L : List G3} (h : pos60 L) {n : Int} (h2 : (L.length : Int) = n) (h3 : n ≤ 200) : 0 ≤ mny L ∧ mny L ≤ 12000 := by
  have := mny_b h
  omega
theorem R_pos {ar am : Int → Int} {t n : Int} {W : List G3} (h : pos60 (W ++ hL (fun _ => t) ar am n)) {k : Int} (h0 : 0 ≤ k) (h1 : k < n) : 1 ≤ am k ∧ am k ≤ 60 :=
  h (t, ar k, am k) (List.mem_append_right _ (hL_in h0 h1))

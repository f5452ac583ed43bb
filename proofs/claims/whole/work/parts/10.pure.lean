/-! cells filled where P says so, from a up to b -/
def fl (P : Int → Bool) (v : Int) (f : Int → Int) (a b : Int) : Int → Int := fun j => if a ≤ j ∧ j < b ∧ P j = true then v else f j
theorem fl_nil {P : Int → Bool} {v : Int} {f : Int → Int} {a b : Int} (h : b ≤ a) : fl P v f a b = f := by
  funext j
  unfold fl
  rw [if_neg (fun q => by omega)]
theorem fl_out {P : Int → Bool} {v : Int} {f : Int → Int} {a b j : Int} (h : ¬ (a ≤ j ∧ j < b)) : fl P v f a b j = f j := by
  unfold fl
  rw [if_neg (fun q => h ⟨q.1, q.2.1⟩)]
theorem fl_yes {P : Int → Bool} {v : Int} {f : Int → Int} {a b j : Int} (h : a ≤ j) (h2 : j < b) (h3 : P j = true) : fl P v f a b j = v := if_pos ⟨h, h2, h3⟩
theorem fl_no {P : Int → Bool} {v : Int} {f : Int → Int} {a b j : Int} (h3 : P j = false) : fl P v f a b j = f j := if_neg (fun q => by rw [h3] at q; exact absurd q.2.2 (by decide))
theorem fl_hi1 {P : Int → Bool} {v : Int} {f : Int → Int} {a k : Int} (h : a ≤ k) (hP : P k = true) : uI (fl P v f a k) k v = fl P v f a (k + 1) := by
  funext j
  unfold uI fl
  by_cases q : j = k
  · subst q
    rw [if_pos rfl, if_pos ⟨h, by omega, hP⟩]
  · rw [if_neg q]
    by_cases c : a ≤ j ∧ j < k ∧ P j = true
    · rw [if_pos c, if_pos ⟨c.1, by omega, c.2.2⟩]
    · rw [if_neg c, if_neg (fun d => c ⟨d.1, by omega, d.2.2⟩)]
theorem fl_hi0 {P : Int → Bool} {v : Int} {f : Int → Int} {a k : Int} (hP : P k = false) : fl P v f a k = fl P v f a (k + 1) := by
  funext j
  unfold fl
  by_cases q : j = k
  · subst q
    rw [if_neg (fun d => by omega), if_neg (fun d => by rw [hP] at d; exact absurd d.2.2 (by decide))]
  · by_cases c : a ≤ j ∧ j < k ∧ P j = true
    · rw [if_pos c, if_pos ⟨c.1, by omega, c.2.2⟩]
    · rw [if_neg c, if_neg (fun d => c ⟨d.1, by omega, d.2.2⟩)]
theorem fl_lo1 {P : Int → Bool} {v : Int} {f : Int → Int} {k b : Int} (h : k < b) (hP : P k = true) : uI (fl P v f (k + 1) b) k v = fl P v f k b := by
  funext j
  unfold uI fl
  by_cases q : j = k
  · subst q
    rw [if_pos rfl, if_pos ⟨by omega, h, hP⟩]
  · rw [if_neg q]
    by_cases c : k + 1 ≤ j ∧ j < b ∧ P j = true
    · rw [if_pos c, if_pos ⟨by omega, c.2⟩]
    · rw [if_neg c, if_neg (fun d => c ⟨by omega, d.2⟩)]
theorem fl_lo0 {P : Int → Bool} {v : Int} {f : Int → Int} {k b : Int} (hP : P k = false) : fl P v f (k + 1) b = fl P v f k b := by
  funext j
  unfold fl
  by_cases q : j = k
  · subst q
    rw [if_neg (fun d => by omega), if_neg (fun d => by rw [hP] at d; exact absurd d.2.2 (by decide))]
  · by_cases c : k + 1 ≤ j ∧ j < b ∧ P j = true
    · rw [if_pos c, if_pos ⟨by omega, c.2⟩]
    · rw [if_neg c, if_neg (fun d => c ⟨by omega, d.2⟩)]
theorem fl_doneHi {P : Int → Bool} {v : Int} {f : Int → Int} {a k n : Int} (hk : k ≤ n) (h : ∀ j, k ≤ j → j < n → P j = false) : fl P v f a k = fl P v f a n := by
  funext j
  unfold fl
  by_cases c : a ≤ j ∧ j < k ∧ P j = true
  · rw [if_pos c, if_pos ⟨c.1, by omega, c.2.2⟩]
  · rw [if_neg c, if_neg (fun d => ?_)]
    by_cases q : j < k
    · exact c ⟨d.1, q, d.2.2⟩
    · have := h j (by omega) d.2.1
      rw [this] at d
      exact absurd d.2.2 (by decide)
theorem fl_doneLo {P : Int → Bool} {v : Int} {f : Int → Int} {a k b : Int} (hk : a ≤ k) (h : ∀ j, a ≤ j → j < k → P j = false) : fl P v f k b = fl P v f a b := by
  funext j
  unfold fl
  by_cases c : k ≤ j ∧ j < b ∧ P j = true
  · rw [if_pos c, if_pos ⟨by omega, c.2⟩]
  · rw [if_neg c, if_neg (fun d => ?_)]
    by_cases q : k ≤ j
    · exact c ⟨q, d.2⟩
    · have := h j d.1 (by omega)
      rw [this] at d
      exact absurd d.2.2 (by decide)
theorem BB_fl {P : Int → Bool} {v lo hi : Int} {f : Int → Int} {a b : Int} (h : BB lo hi f) (hv : lo ≤ v ∧ v ≤ hi) : BB lo hi (fl P v f a b) := by
  intro j
  unfold fl
  split
  · exact hv
  · exact h j
/-! how many below k are v -/
def ind (st : Int → Int) (v : Int) : Int → Int := fun j => if st j = v then 1 else 0
theorem ind_b (st : Int → Int) (v j : Int) : 0 ≤ ind st v j ∧ ind st v j ≤ 1 := by
  unfold ind
  split <;> omega
def zl (st : Int → Int) (v k : Int) : Int := sI (ind st v) k
theorem zl_0 (st : Int → Int) (v : Int) : zl st v 0 = 0 := rfl
theorem zl_s (st : Int → Int) (v : Int) {k : Int} (h : 0 ≤ k) : zl st v (k + 1) = zl st v k + if st k = v then 1 else 0 := sI_s _ h
theorem zl_b (st : Int → Int) (v : Int) {k : Int} (h : 0 ≤ k) : 0 ≤ zl st v k ∧ zl st v k ≤ k := by
  have := sI_le (ind st v) 1 (ind_b st v) k h
  unfold zl
  omega
theorem zl_mono (st : Int → Int) (v : Int) {a b : Int} (h : a ≤ b) : zl st v a ≤ zl st v b := sI_mono _ (fun j => (ind_b st v j).1) h
theorem zl_congr {st st' : Int → Int} {v k : Int} (h : ∀ j, 0 ≤ j → j < k → st j = st' j) : zl st v k = zl st' v k := sI_congr (fun j h1 h2 => by unfold ind; rw [h j h1 h2])
def cnt (st : Int → Int) (v : Int) : Int := zl st v 12
theorem cnt_b (st : Int → Int) (v : Int) : 0 ≤ cnt st v ∧ cnt st v ≤ 12 := zl_b st v (by omega)
def upS (st : Int → Int) : Int := cnt st 1 + cnt st 2
theorem zl_two (st : Int → Int) {u v : Int} (h : u ≠ v) {k : Int} (hk : 0 ≤ k) : zl st u k + zl st v k ≤ k := by
  obtain ⟨n, rfl⟩ := Int.eq_ofNat_of_zero_le hk
  induction n with
  | zero => simp [zl, sI, sN]
  | succ n ih =>
    have := ih (by omega)
    have e1 := zl_s st u (k := (n : Int)) (by omega)
    have e2 := zl_s st v (k := (n : Int)) (by omega)
    have e3 : ((n + 1 : Nat) : Int) = (n : Int) + 1 := by omega
    rw [e3, e1, e2]
    split <;> split <;> omega
theorem upS_b (st : Int → Int) : 0 ≤ upS st ∧ upS st ≤ 12 := by
  have h1 := cnt_b st 1
  have h2 := cnt_b st 2
  have h3 := zl_two st (u := 1) (v := 2) (by omega) (k := 12) (by omega)
  unfold upS cnt at *
  omega
/-- who begins to warm up, of wish -/
def PT (st : Int → Int) (wish : Int) : Int → Bool := fun j => decide (st j = 0 ∧ zl st 0 j < wish)
/-- who of those that are v is turned, the greatest first, of wish -/
def PH (st : Int → Int) (v wish : Int) : Int → Bool := fun j => decide (st j = v ∧ zl st v 12 - zl st v (j + 1) < wish)
def PE (st bg : Int → Int) (v lb : Int) : Int → Bool := fun j => decide (st j = v ∧ bg j ≤ lb)
def tu (n wish : Int) : Int := max 0 (min n wish)
theorem PT_done {st : Int → Int} {wish k : Int} (h : wish ≤ tu (zl st 0 k) wish) : ∀ j, k ≤ j → j < 12 → PT st wish j = false := by
  intro j h1 h2
  have := zl_mono st 0 h1
  unfold tu at h
  unfold PT
  rw [decide_eq_false_iff_not]
  by_cases q : 0 ≤ j
  · have := zl_b st 0 q
    omega
  · have e : zl st 0 j = 0 := by unfold zl sI; rw [show j.toNat = 0 by omega]; rfl
    omega
theorem PH_done {st : Int → Int} {v wish k : Int} (h0 : k ≤ 12) (h : wish ≤ tu (zl st v 12 - zl st v k) wish) : ∀ j, 0 ≤ j → j < k → PH st v wish j = false := by
  intro j h1 h2
  have h3 := zl_mono st v (show j + 1 ≤ k by omega)
  have h4 := zl_mono st v (show j + 1 ≤ 12 by omega)
  unfold tu at h
  unfold PH
  rw [decide_eq_false_iff_not]
  omega
def costF (st : Int → Int) (pr sp : Int) : Int → Int := fun j => if st j = 0 then 0 else if j < 8 then pr else sp
def costS (st : Int → Int) (pr sp : Int) : Int := sI (costF st pr sp) 12
theorem nI_xor (a b : Nat) : nI a ^^^ nI b = nI (a ^^^ b) := by
  apply Int32.toBitVec_inj.1
  show BitVec.ofNat 32 a ^^^ BitVec.ofNat 32 b = BitVec.ofNat 32 (a ^^^ b)
  apply BitVec.eq_of_getLsbD_eq
  intro i hi
  simp [hi]
theorem iI_xor {a b : Int} (ha : 0 ≤ a ∧ a ≤ 2147483647) (hb : 0 ≤ b ∧ b ≤ 2147483647) : ∃ k : Int, 0 ≤ k ∧ k ≤ 2147483647 ∧ iI a ^^^ iI b = iI k := by
  obtain ⟨m, rfl⟩ := Int.eq_ofNat_of_zero_le ha.1
  obtain ⟨n, rfl⟩ := Int.eq_ofNat_of_zero_le hb.1
  have h := Nat.xor_lt_two_pow (n := 31) (show m < 2 ^ 31 by omega) (show n < 2 ^ 31 by omega)
  exact ⟨((m ^^^ n : Nat) : Int), by omega, by omega, by rw [iI_nat, iI_nat, iI_nat, nI_xor]⟩
/-! what a meter reads -/
def rdS (no : Int → Int) : Int → Int := fun j => if no j = -1 then 0 else no j
def rdN (no : Int → Int) : Int → Int := fun j => if no j = -1 then 0 else 1
def rdSum (no : Int → Int) (la me : Int) : Int := sI (rdS no) (la + 1) - sI (rdS no) (la - me + 1)
def rdNum (no : Int → Int) (la me : Int) : Int := sI (rdN no) (la + 1) - sI (rdN no) (la - me + 1)
def rdF (no : Int → Int) (la me rd : Int) : Int := if 0 < rdNum no la me then rdSum no la me / rdNum no la me else rd
theorem sI_neg (f : Int → Int) {k : Int} (h : k ≤ 0) : sI f k = 0 := by
  unfold sI
  rw [show k.toNat = 0 by omega]
  rfl
theorem sI_max (f : Int → Int) (k : Int) : sI f (max k 0) = sI f k := by
  unfold sI
  rw [show (max k 0).toNat = k.toNat by omega]
theorem rd_div {s n : Int} (hn : 0 < n) (h0 : 0 ≤ s) (h : s ≤ 12000 * n) : 0 ≤ s / n ∧ s / n ≤ 12000 := by
  refine ⟨Int.ediv_nonneg h0 (by omega), ?_⟩
  have := Int.ediv_le_ediv hn h
  rwa [Int.mul_ediv_cancel _ (by omega)] at this
def tvF (se : Int → Int) (k : Int) : Int := if 0 ≤ k ∧ k ≤ 18 then se k else -1002
def bdF (se pl : Int → Int) (wa ti : Int) : Int := min (max wa (max (pl (ti % 24)) (se 7))) (se 8)
/-- sheds wish: the states, how many -/
def shA (st : Int → Int) (wish : Int) : Int → Int := fl (PH st 1 wish) 0 st 0 12
def shB (st : Int → Int) (wish : Int) : Int → Bool := PH (shA st wish) 2 (wish - tu (zl st 1 12) wish)
def shS (st : Int → Int) (wish : Int) : Int → Int := fl (shB st wish) 3 (shA st wish) 0 12
def shN (st : Int → Int) (wish : Int) : Int := tu (zl st 1 12) wish + tu (zl (shA st wish) 2 12) (wish - tu (zl st 1 12) wish)
def shG (st sn : Int → Int) (wish ti : Int) : Int → Int := fl (shB st wish) ti sn 0 12
/-- since and began agree where they matter -/
def AG (st bg sn : Int → Int) : Prop := ∀ j, st j = 1 ∨ st j = 3 → bg j = sn j
theorem shed_ag {st bg : Int → Int} {wi ti : Int} : ∀ j, shS st wi j = 1 ∨ shS st wi j = 3 → fl (shB st wi) ti (fl (PH st 1 wi) ti bg 0 12) 0 12 j = fl (shB st wi) ti bg 0 12 j := by
  intro j h
  by_cases c : 0 ≤ j ∧ j < 12 ∧ shB st wi j = true
  · rw [fl_yes c.1 c.2.1 c.2.2, fl_yes c.1 c.2.1 c.2.2]
  · have e1 : ∀ (v : Int) (f : Int → Int), fl (shB st wi) v f 0 12 j = f j := fun v f => if_neg c
    rw [e1, e1]
    by_cases d : 0 ≤ j ∧ j < 12 ∧ PH st 1 wi j = true
    · have e2 : shS st wi j = 0 := by
        unfold shS
        rw [e1]
        exact fl_yes d.1 d.2.1 d.2.2
      omega
    · exact if_neg d
theorem AG.start {st bg sn : Int → Int} {wi ti : Int} (h : AG st bg sn) : AG (fl (PT st wi) 1 st 0 12) (fl (PT st wi) ti bg 0 12) (fl (PT st wi) ti sn 0 12) := by
  intro j hj
  by_cases c : 0 ≤ j ∧ j < 12 ∧ PT st wi j = true
  · rw [fl_yes c.1 c.2.1 c.2.2, fl_yes c.1 c.2.1 c.2.2]
  · have e1 : ∀ (v : Int) (f : Int → Int), fl (PT st wi) v f 0 12 j = f j := fun v f => if_neg c
    rw [e1] at hj ⊢
    rw [e1]
    exact h j hj
theorem AG.shed {st bg bg2 sn : Int → Int} {wi ti : Int} (h : AG st bg sn) (hb : ∀ j, shS st wi j = 1 ∨ shS st wi j = 3 → bg2 j = fl (shB st wi) ti bg 0 12 j) : AG (shS st wi) bg2 (shG st sn wi ti) := by
  intro j hj
  rw [hb j hj]
  unfold shG
  by_cases c : 0 ≤ j ∧ j < 12 ∧ shB st wi j = true
  · rw [fl_yes c.1 c.2.1 c.2.2, fl_yes c.1 c.2.1 c.2.2]
  · have e1 : ∀ (v : Int) (f : Int → Int), fl (shB st wi) v f 0 12 j = f j := fun v f => if_neg c
    rw [e1, e1]
    apply h
    unfold shS at hj
    rw [e1] at hj
    unfold shA at hj
    by_cases d : 0 ≤ j ∧ j < 12 ∧ PH st 1 wi j = true
    · rw [fl_yes d.1 d.2.1 d.2.2] at hj
      omega
    · rw [show fl (PH st 1 wi) 0 st 0 12 j = st j from if_neg d] at hj
      exact hj
theorem PE_ag {st bg sn : Int → Int} {v lb to : Int} (h : AG st bg sn) (hv : v = 1 ∨ v = 3) : fl (PE st bg v lb) to st 0 12 = fl (PE st sn v lb) to st 0 12 := by
  funext j
  unfold fl PE
  by_cases c : st j = v
  · rw [h j (by omega)]
  · simp [c]
theorem AG.ended {st bg sn : Int → Int} {P : Int → Bool} {to : Int} (h : AG st bg sn) (hv : to = 0 ∨ to = 2) : AG (fl P to st 0 12) bg sn := by
  intro j hj
  by_cases c : 0 ≤ j ∧ j < 12 ∧ P j = true
  · rw [fl_yes c.1 c.2.1 c.2.2] at hj
    omega
  · rw [show fl P to st 0 12 j = st j from if_neg c] at hj
    exact h j hj
theorem AG.rfl {st sn : Int → Int} : AG st sn sn := fun _ _ => Eq.refl _

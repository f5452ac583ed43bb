/-! the reference's heaps as lists -/
def hq (kt kr km : Int → Int) : Nat → Int → List G3
  | 0, _ => []
  | n + 1, i => (kt i, kr i, km i) :: hq kt kr km n (i + 1)
theorem hq_snoc (kt kr km : Int → Int) (n : Nat) : ∀ i : Int, hq kt kr km (n + 1) i = hq kt kr km n i ++ [(kt (i + n), kr (i + n), km (i + n))] := by
  induction n with
  | zero => intro i; show [(kt i, kr i, km i)] = [(kt (i + (0 : Nat)), kr (i + (0 : Nat)), km (i + (0 : Nat)))]; rw [show i + ((0 : Nat) : Int) = i by omega]
  | succ n ih =>
    intro i
    show (kt i, kr i, km i) :: hq kt kr km (n + 1) (i + 1) = (kt i, kr i, km i) :: hq kt kr km n (i + 1) ++ _
    rw [ih (i + 1), show i + 1 + (n : Int) = i + ((n + 1 : Nat) : Int) by omega]
    rfl
theorem hq_congr {kt kr km kt' kr' km' : Int → Int} (n : Nat) : ∀ i : Int, (∀ j : Int, i ≤ j → j < i + (n : Int) → kt j = kt' j ∧ kr j = kr' j ∧ km j = km' j) → hq kt kr km n i = hq kt' kr' km' n i := by
  induction n with
  | zero => intro i _; rfl
  | succ n ih =>
    intro i h
    obtain ⟨h1, h2, h3⟩ := h i (by omega) (by omega)
    show (kt i, kr i, km i) :: _ = (kt' i, kr' i, km' i) :: _
    rw [h1, h2, h3, ih (i + 1) (fun j q1 q2 => h j (by omega) (by omega))]
theorem hq_len (kt kr km : Int → Int) (n : Nat) : ∀ i, (hq kt kr km n i).length = n := by
  induction n with
  | zero => intro i; rfl
  | succ n ih => intro i; show (hq kt kr km n (i + 1)).length + 1 = n + 1; rw [ih]
/-- the first n -/
def hL (kt kr km : Int → Int) (n : Int) : List G3 := hq kt kr km n.toNat 0
theorem hL_0 (kt kr km : Int → Int) : hL kt kr km 0 = [] := rfl
theorem hL_s (kt kr km : Int → Int) {n : Int} (h : 0 ≤ n) : hL kt kr km (n + 1) = hL kt kr km n ++ [(kt n, kr n, km n)] := by
  unfold hL
  rw [show (n + 1).toNat = n.toNat + 1 by omega, hq_snoc, show (0 : Int) + (n.toNat : Int) = n by omega]
theorem hL_congr {kt kr km kt' kr' km' : Int → Int} {n : Int} (h : ∀ j : Int, 0 ≤ j → j < n → kt j = kt' j ∧ kr j = kr' j ∧ km j = km' j) : hL kt kr km n = hL kt' kr' km' n := hq_congr _ _ (fun j q1 q2 => h j q1 (by omega))
theorem hL_len (kt kr km : Int → Int) {n : Int} (h : 0 ≤ n) : ((hL kt kr km n).length : Int) = n := by
  unfold hL
  rw [hq_len]
  omega
theorem mny_hL (kt kr km : Int → Int) {n : Int} (h : 0 ≤ n) : mny (hL kt kr km n) = sI km n := by
  obtain ⟨m, rfl⟩ := Int.eq_ofNat_of_zero_le h
  induction m with
  | zero => rfl
  | succ m ih =>
    have e : ((m + 1 : Nat) : Int) = (m : Int) + 1 := by omega
    rw [e, hL_s _ _ _ (by omega), mny_app, ih (by omega), sI_s _ (by omega)]
    show _ = sI km m + km m
    simp [mny]
/-- done by c, the heaps kept (some empty) -/
def srw : Int → List G3 → List G3 × Int
  | c, [] => ([], c)
  | c, x :: r => ((x.1, x.2.1, x.2.2 - min c x.2.2) :: (srw (c - min c x.2.2) r).1, (srw (c - min c x.2.2) r).2)
def nz (L : List G3) : List G3 := L.filter (fun x => decide (0 < x.2.2))
theorem nz_pos {L : List G3} (h : pos60 L) : nz L = L := by
  unfold nz
  rw [List.filter_eq_self]
  intro x hx
  exact decide_eq_true (by have := h x hx; omega)
theorem srw_0 (L : List G3) (h : pos60 L) : srw 0 L = (L, 0) := by
  induction L with
  | nil => rfl
  | cons x r ih =>
    have hx := h x List.mem_cons_self
    have e : min 0 x.2.2 = 0 := by omega
    show ((x.1, x.2.1, x.2.2 - min 0 x.2.2) :: (srw (0 - min 0 x.2.2) r).1, (srw (0 - min 0 x.2.2) r).2) = _
    rw [e, show (0 : Int) - 0 = 0 by omega, ih (fun y hy => h y (List.mem_cons_of_mem _ hy)), show x.2.2 - 0 = x.2.2 by omega]
theorem srw_srv (L : List G3) (h : pos60 L) : ∀ c, 0 ≤ c → nz (srw c L).1 = (srv c L).1 ∧ (srw c L).2 = (srv c L).2 := by
  induction L with
  | nil => intro c _; exact ⟨rfl, rfl⟩
  | cons x r ih =>
    intro c hc
    have hx := h x List.mem_cons_self
    have hr : pos60 r := fun y hy => h y (List.mem_cons_of_mem _ hy)
    rw [srv_cons]
    by_cases h0 : c ≤ 0
    · rw [if_pos h0, show c = 0 by omega, srw_0 _ h]
      exact ⟨nz_pos h, rfl⟩
    · rw [if_neg h0]
      by_cases h1 : x.2.2 ≤ c
      · rw [if_pos h1]
        have e : min c x.2.2 = x.2.2 := by omega
        show nz ((x.1, x.2.1, x.2.2 - min c x.2.2) :: (srw (c - min c x.2.2) r).1) = _ ∧ (srw (c - min c x.2.2) r).2 = _
        rw [e]
        have := ih hr (c - x.2.2) (by omega)
        refine ⟨?_, this.2⟩
        rw [← this.1]
        unfold nz
        rw [List.filter_cons_of_neg]
        simp
      · rw [if_neg h1]
        have e : min c x.2.2 = c := by omega
        show nz ((x.1, x.2.1, x.2.2 - min c x.2.2) :: (srw (c - min c x.2.2) r).1) = _ ∧ (srw (c - min c x.2.2) r).2 = _
        rw [e, show c - c = 0 by omega, srw_0 _ hr]
        refine ⟨?_, rfl⟩
        show nz ((x.1, x.2.1, x.2.2 - c) :: r) = (x.1, x.2.1, x.2.2 - c) :: r
        unfold nz
        rw [List.filter_cons_of_pos (by simp; omega)]
        have := nz_pos hr
        unfold nz at this
        rw [this]
/-- what goes by patience, heap by heap: who stays, who tries again, how many are lost -/
def lvF (ti pa tr : Int) : List G3 → List G3 × List G3 × Int
  | [] => ([], [], 0)
  | x :: r =>
    let q := lvF ti pa tr r
    if pa ≤ ti - x.1 + 1 then (if x.2.1 < tr then (q.1, (if 0 < x.2.2 then (ti + 1, x.2.1 + 1, x.2.2) :: q.2.1 else q.2.1), q.2.2) else (q.1, q.2.1, x.2.2 + q.2.2))
    else ((if 0 < x.2.2 then x :: q.1 else q.1), q.2.1, q.2.2)
theorem lvF_app (ti pa tr : Int) (A B : List G3) : lvF ti pa tr (A ++ B) = ((lvF ti pa tr A).1 ++ (lvF ti pa tr B).1, (lvF ti pa tr A).2.1 ++ (lvF ti pa tr B).2.1, (lvF ti pa tr A).2.2 + (lvF ti pa tr B).2.2) := by
  induction A with
  | nil => simp [lvF]
  | cons x r ih =>
    show lvF ti pa tr (x :: (r ++ B)) = _
    simp only [lvF, ih]
    split
    · split
      · split <;> simp
      · simp; omega
    · split <;> simp
def nneg (L : List G3) : Prop := ∀ x ∈ L, 0 ≤ x.2.2
theorem lvF_nz (ti pa tr : Int) (L : List G3) (h : nneg L) : lvF ti pa tr (nz L) = lvF ti pa tr L := by
  induction L with
  | nil => rfl
  | cons x r ih =>
    have hx := h x List.mem_cons_self
    have ih2 := ih (fun y hy => h y (List.mem_cons_of_mem _ hy))
    by_cases q : 0 < x.2.2
    · have e : nz (x :: r) = x :: nz r := by unfold nz; rw [List.filter_cons_of_pos (by simpa using q)]
      rw [e]
      simp only [lvF, ih2]
    · have e : nz (x :: r) = nz r := by unfold nz; rw [List.filter_cons_of_neg (by simpa using q)]
      rw [e, ih2]
      simp only [lvF, if_neg q]
      have q0 : x.2.2 = 0 := by omega
      split
      · split
        · rfl
        · rw [q0]; simp
      · rfl
/-- in the order of since -/
def sor (L : List G3) : Prop := L.Pairwise (fun a b => a.1 ≤ b.1)
theorem lvF_lv (ti pa tr : Int) (L : List G3) (h : pos60 L) (hs : sor L) : lvF ti pa tr L = lv ti pa tr L := by
  induction L with
  | nil => rfl
  | cons x r ih =>
    have hx := h x List.mem_cons_self
    have hr : pos60 r := fun y hy => h y (List.mem_cons_of_mem _ hy)
    obtain ⟨hs1, hs2⟩ := List.pairwise_cons.mp hs
    by_cases q : pa ≤ ti - x.1 + 1
    · have ih2 := ih hr hs2
      by_cases q2 : x.2.1 < tr
      · rw [lv_go1 q q2]
        simp only [lvF, if_pos q, if_pos q2, if_pos (show 0 < x.2.2 by omega), ih2]
      · rw [lv_go2 q q2]
        simp only [lvF, if_pos q, if_neg q2, ih2]
    · rw [lv_stay q]
      have all : ∀ R : List G3, pos60 R → (∀ y ∈ R, x.1 ≤ y.1) → lvF ti pa tr R = (R, [], 0) := by
        intro R
        induction R with
        | nil => intro _ _; rfl
        | cons y R ihR =>
          intro hp hy
          have h1 := hp y List.mem_cons_self
          have h2 := hy y List.mem_cons_self
          have h3 := ihR (fun z hz => hp z (List.mem_cons_of_mem _ hz)) (fun z hz => hy z (List.mem_cons_of_mem _ hz))
          simp only [lvF, h3, if_neg (show ¬ pa ≤ ti - y.1 + 1 by omega), if_pos (show 0 < y.2.2 by omega)]
      exact all (x :: r) h (fun y hy => by
        rcases List.mem_cons.mp hy with z | z
        · rw [z]; exact Int.le_refl _
        · exact hs1 y z)
theorem sI_step (f : Int → Int) (t : Int) : sI f (t + 1) = sI f t + if 0 ≤ t then f t else 0 := by
  by_cases h : 0 ≤ t
  · rw [if_pos h, sI_s f h]
  · rw [if_neg h, sI_neg f (by omega), sI_neg f (by omega)]
    rfl
theorem fl_false {P : Int → Bool} {v : Int} {f : Int → Int} {a b : Int} (h : ∀ j, a ≤ j → j < b → P j = false) : fl P v f a b = f := by
  funext j
  unfold fl
  by_cases c : a ≤ j ∧ j < b ∧ P j = true
  · rw [h j c.1 c.2.1] at c
    exact absurd c.2.2 (by decide)
  · rw [if_neg c]
theorem PH_0 {st : Int → Int} {v w : Int} (hw : w ≤ 0) : ∀ j, 0 ≤ j → j < 12 → PH st v w j = false := by
  intro j h1 h2
  have h3 := zl_mono st v (show j + 1 ≤ 12 by omega)
  unfold PH
  rw [decide_eq_false_iff_not]
  omega
theorem tu_0 {n : Int} : tu n 0 = 0 := by unfold tu; omega
theorem shA_0 (st : Int → Int) : shA st 0 = st := fl_false (PH_0 (Int.le_refl 0))
theorem shS_0 (st : Int → Int) : shS st 0 = st := by
  unfold shS shB
  rw [shA_0, tu_0]
  exact fl_false (PH_0 (by omega))
theorem shG_0 (st sn : Int → Int) (t : Int) : shG st sn 0 t = sn := by
  unfold shG shB
  rw [shA_0, tu_0]
  exact fl_false (PH_0 (by omega))
theorem shN_0 (st : Int → Int) : shN st 0 = 0 := by
  unfold shN
  rw [tu_0, show (0 : Int) - 0 = 0 by omega, tu_0]
  rfl
theorem zl_shA (st : Int → Int) (w : Int) : zl (shA st w) 2 12 = zl st 2 12 := by
  unfold zl
  apply sI_congr
  intro j _ _
  unfold ind shA fl PH
  by_cases c : 0 ≤ j ∧ j < 12 ∧ decide (st j = 1 ∧ zl st 1 12 - zl st 1 (j + 1) < w) = true
  · rw [if_pos c]
    have := of_decide_eq_true c.2.2
    rw [if_neg (by omega), if_neg (by omega)]
  · rw [if_neg c]
theorem shN_pos {st : Int → Int} {w : Int} (h : 0 < w) (h2 : w ≤ upS st) : 0 < shN st w := by
  have h3 := cnt_b st 1
  have h4 := cnt_b st 2
  unfold shN
  rw [zl_shA]
  unfold upS at h2
  unfold cnt at *
  unfold tu
  omega

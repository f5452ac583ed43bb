/-! one TICK, as numbers -/
/-- the settings' bounds -/
def SB (se : Int → Int) : Prop :=
  (0 ≤ se 0 ∧ se 0 ≤ 5) ∧ (0 ≤ se 1 ∧ se 1 ≤ 5) ∧ (1 ≤ se 2 ∧ se 2 ≤ 20) ∧ (1 ≤ se 3 ∧ se 3 ≤ 10) ∧ (1 ≤ se 4 ∧ se 4 ≤ 4) ∧ (0 ≤ se 5 ∧ se 5 ≤ 5) ∧ (1 ≤ se 6 ∧ se 6 ≤ 5) ∧
  (0 ≤ se 7 ∧ se 7 ≤ 12) ∧ (0 ≤ se 8 ∧ se 8 ≤ 12) ∧ (0 ≤ se 9 ∧ se 9 ≤ 10) ∧ (0 ≤ se 10 ∧ se 10 ≤ 2) ∧ (1 ≤ se 11 ∧ se 11 ≤ 60) ∧ (0 ≤ se 12 ∧ se 12 ≤ 400) ∧ (0 ≤ se 13 ∧ se 13 ≤ 400) ∧
  (1 ≤ se 14 ∧ se 14 ≤ 6) ∧ (1 ≤ se 15 ∧ se 15 ≤ 6) ∧ (0 ≤ se 16 ∧ se 16 ≤ 100) ∧ (0 ≤ se 17 ∧ se 17 ≤ 100) ∧ (0 ≤ se 18 ∧ se 18 ≤ 1000) ∧ se 7 ≤ se 8
def wbF (se st : Int → Int) (rd : Int) : Int :=
  if se 10 = 1 then (rd + se 11 - 1) / se 11 else if se 10 = 2 ∧ se 12 < rd then upS st + se 14 else if se 10 = 2 ∧ rd < se 13 then upS st - se 15 else upS st
def reF (se : Int → Int) (ch ti : Int) : Bool := decide (¬ ch = -1 ∧ ti - ch < se 9)
def glF (se pl st : Int → Int) (wa ch ti : Int) : Int := if reF se ch ti = true then max (upS st) (bdF se pl 0 ti) else wa
def chS (st : Int → Int) (go : Int) : Int → Int := if upS st < go then fl (PT st (go - upS st)) 1 st 0 12 else shS st (upS st - go)
def chN (st : Int → Int) (go : Int) : Int := if upS st < go then tu (zl st 0 12) (go - upS st) else shN st (upS st - go)
def chG (st sn : Int → Int) (go ti : Int) : Int → Int := if upS st < go then fl (PT st (go - upS st)) ti sn 0 12 else shG st sn (upS st - go) ti
theorem chN_b (st : Int → Int) (go : Int) : 0 ≤ chN st go ∧ chN st go ≤ 24 := by
  have h1 := zl_b st 0 (k := 12) (by omega)
  have h2 := zl_b st 1 (k := 12) (by omega)
  have h3 := zl_b (shA st (upS st - go)) 2 (k := 12) (by omega)
  unfold chN shN tu
  split <;> omega
theorem costF_b (st : Int → Int) {pr sp c : Int} (hp : 0 ≤ pr ∧ pr ≤ c) (hs : 0 ≤ sp ∧ sp ≤ c) (j : Int) : 0 ≤ costF st pr sp j ∧ costF st pr sp j ≤ c := by
  unfold costF
  split
  · omega
  · split <;> omega
theorem costS_b (st : Int → Int) {pr sp : Int} (hp : 0 ≤ pr ∧ pr ≤ 1000) (hs : 0 ≤ sp ∧ sp ≤ 1000) : 0 ≤ costS st pr sp ∧ costS st pr sp ≤ 12000 := by
  have := sI_le (costF st pr sp) 1000 (costF_b st hp hs) 12 (by omega)
  unfold costS
  omega
theorem srv_b {c : Int} (L : List G3) (h : pos60 L) : ∀ c, 0 ≤ c → 0 ≤ (srv c L).2 ∧ (srv c L).2 ≤ c ∧ mny (srv c L).1 = mny L - (c - (srv c L).2) := by
  induction L with
  | nil => intro c hc; simp [srv, mny]; omega
  | cons x r ih =>
    intro c hc
    obtain ⟨s, t, m⟩ := x
    have hm : 1 ≤ m ∧ m ≤ 60 := h (s, t, m) List.mem_cons_self
    have ih2 := ih (fun y hy => h y (List.mem_cons_of_mem _ hy))
    simp only [srv]
    split
    · simp [mny]; omega
    · split
      · have := ih2 (c - m) (by omega)
        simp only [mny]
        omega
      · simp [mny]; omega
/-- NOW, DONE, LOST, BILL, READING, WANTED, CHANGE, CAME; states; since; notes; was; who wait; who try again -/
abbrev Ab : Type := (Int → Int) × (Int → Int) × (Int → Int) × (Int → Int) × (Int → Int) × List G3 × List G3
def tW (ld : Int) (ti : Int) (W R : List G3) : List G3 := W ++ R ++ (if 0 < ld then [(ti, 1, ld)] else [])
def tkW1 (ld : Int) (a : Ab) : List G3 := tW ld (a.1 0) a.2.2.2.2.2.1 a.2.2.2.2.2.2
def tkNo (ld lm : Int) (a : Ab) : Int → Int := uI a.2.2.2.1 (a.1 0) (if lm = 0 then mny (tkW1 ld a) else -1)
def tkRd (se : Int → Int) (ld lm : Int) (a : Ab) : Int := rdF (tkNo ld lm a) (a.1 0 - se 5) (se 6) (a.1 4)
def tkWa (se pl : Int → Int) (ld lm : Int) (a : Ab) : Int := bdF se pl (wbF se a.2.1 (tkRd se ld lm a)) (a.1 0)
def tkGo (se pl : Int → Int) (ld lm : Int) (a : Ab) : Int := glF se pl a.2.1 (tkWa se pl ld lm a) (a.1 6) (a.1 0)
def tkS1 (se pl : Int → Int) (ld lm : Int) (a : Ab) : Int → Int := chS a.2.1 (tkGo se pl ld lm a)
def tkN1 (se pl : Int → Int) (ld lm : Int) (a : Ab) : Int → Int := chG a.2.1 a.2.2.1 (tkGo se pl ld lm a) (a.1 0)
def tkCh (se pl : Int → Int) (ld lm : Int) (a : Ab) : Int := if 0 < chN a.2.1 (tkGo se pl ld lm a) then a.1 0 else a.1 6
def tkS2 (se pl : Int → Int) (ld lm : Int) (a : Ab) : Int → Int := fl (PE (tkS1 se pl ld lm a) (tkN1 se pl ld lm a) 1 (a.1 0 - se 0)) 2 (tkS1 se pl ld lm a) 0 12
def tkCap (se pl : Int → Int) (ld lm : Int) (a : Ab) : Int := (cnt (tkS2 se pl ld lm a) 2 + cnt (tkS2 se pl ld lm a) 3) * se 2
def tkSv (se pl : Int → Int) (ld lm : Int) (a : Ab) : List G3 × Int := srv (tkCap se pl ld lm a) (tkW1 ld a)
def tkDo (se pl : Int → Int) (ld lm : Int) (a : Ab) : Int := tkCap se pl ld lm a - (tkSv se pl ld lm a).2
def tkS3 (se pl : Int → Int) (ld lm : Int) (a : Ab) : Int → Int := fl (PE (tkS2 se pl ld lm a) (tkN1 se pl ld lm a) 3 (a.1 0 - se 1)) 0 (tkS2 se pl ld lm a) 0 12
def tkLv (se pl : Int → Int) (ld lm : Int) (a : Ab) : List G3 × List G3 × Int := lv (a.1 0) (se 3) (se 4) (tkSv se pl ld lm a).1
def tkBi (se pl : Int → Int) (ld lm : Int) (a : Ab) : Int := costS (tkS2 se pl ld lm a) (se 16) (se 17) + (tkLv se pl ld lm a).2.2 * se 18
def tkRu (se pl : Int → Int) (ld lm : Int) (a : Ab) : Int → Int := fun j =>
  if j = 0 then a.1 0 + 1 else if j = 1 then a.1 1 + tkDo se pl ld lm a else if j = 2 then a.1 2 + (tkLv se pl ld lm a).2.2 else if j = 3 then a.1 3 + tkBi se pl ld lm a
  else if j = 4 then tkRd se ld lm a else if j = 5 then tkWa se pl ld lm a else if j = 6 then tkCh se pl ld lm a else if j = 7 then a.1 7 + ld else a.1 j
def tkWs (se pl : Int → Int) (ld lm : Int) (a : Ab) : Int → Int := fun j =>
  if j = 6 * a.1 0 then mny (tkW1 ld a) else if j = 6 * a.1 0 + 1 then tkDo se pl ld lm a else if j = 6 * a.1 0 + 2 then (tkLv se pl ld lm a).2.2 else if j = 6 * a.1 0 + 3 then upS (tkS3 se pl ld lm a)
  else if j = 6 * a.1 0 + 4 then tkWa se pl ld lm a else if j = 6 * a.1 0 + 5 then tkBi se pl ld lm a else a.2.2.2.2.1 j
/-- one TICK -/
def tk (se pl : Int → Int) (ld lm : Int) (a : Ab) : Ab :=
  (tkRu se pl ld lm a, tkS3 se pl ld lm a, tkN1 se pl ld lm a, tkNo ld lm a, tkWs se pl ld lm a, (tkLv se pl ld lm a).1, (tkLv se pl ld lm a).2.1)
/-- a service's cells are the run a -/
def CR (st bg le tr si rg no h0 h1 h2 h3 h4 h5 : Int → Int) (hd gr wt rt rd ti wa lc ca dn lo bi : Int) (a : Ab) : Prop :=
  (ti = a.1 0 ∧ dn = a.1 1 ∧ lo = a.1 2 ∧ bi = a.1 3 ∧ rd = a.1 4 ∧ wa = a.1 5 ∧ lc = a.1 6 ∧ ca = a.1 7) ∧ st = a.2.1 ∧ AG st bg a.2.2.1 ∧
  (∀ j, 0 ≤ j → j < ti → no j = a.2.2.2.1 j) ∧
  (∀ t, 0 ≤ t → t < ti → h0 t = a.2.2.2.2.1 (6 * t) ∧ h1 t = a.2.2.2.2.1 (6 * t + 1) ∧ h2 t = a.2.2.2.2.1 (6 * t + 2) ∧ h3 t = a.2.2.2.2.1 (6 * t + 3) ∧ h4 t = a.2.2.2.2.1 (6 * t + 4) ∧ h5 t = a.2.2.2.2.1 (6 * t + 5)) ∧
  QC le tr si rg hd gr ti (a.2.2.2.2.2.1 ++ a.2.2.2.2.2.2) ∧ wt = mny a.2.2.2.2.2.1 ∧ rt = mny a.2.2.2.2.2.2 ∧
  ((0 ≤ ti ∧ ti ≤ 200) ∧ (0 ≤ rd ∧ rd ≤ 12000) ∧ (-1 ≤ lc ∧ lc ≤ 200) ∧ (-1 ≤ wa ∧ wa ≤ 12))
theorem rdS_congr {no no' : Int → Int} {k : Int} (h : ∀ j, 0 ≤ j → j < k → no j = no' j) : sI (rdS no) k = sI (rdS no') k := sI_congr (fun j h1 h2 => by unfold rdS; rw [h j h1 h2])
theorem rdN_congr {no no' : Int → Int} {k : Int} (h : ∀ j, 0 ≤ j → j < k → no j = no' j) : sI (rdN no) k = sI (rdN no') k := sI_congr (fun j h1 h2 => by unfold rdN; rw [h j h1 h2])
theorem rdF_congr {no no' : Int → Int} {la me rd k : Int} (h : ∀ j, 0 ≤ j → j < k → no j = no' j) (h1 : la + 1 ≤ k) (h2 : 0 ≤ me) : rdF no la me rd = rdF no' la me rd := by
  have a1 := rdS_congr (no := no) (no' := no') (k := la + 1) (fun j q q2 => h j q (by omega))
  have a2 := rdS_congr (no := no) (no' := no') (k := la - me + 1) (fun j q q2 => h j q (by omega))
  have b1 := rdN_congr (no := no) (no' := no') (k := la + 1) (fun j q q2 => h j q (by omega))
  have b2 := rdN_congr (no := no) (no' := no') (k := la - me + 1) (fun j q q2 => h j q (by omega))
  unfold rdF rdNum rdSum
  rw [a1, a2, b1, b2]
theorem wbF_b {se st : Int → Int} {rd : Int} (hse : SB se) (hr : 0 ≤ rd ∧ rd ≤ 12000) : -6 ≤ wbF se st rd ∧ wbF se st rd ≤ 12060 := by
  have hu := upS_b st
  unfold SB at hse
  unfold wbF
  split
  · have h1 : 0 ≤ (rd + se 11 - 1) / se 11 := Int.ediv_nonneg (by omega) (by omega)
    have h2 := Int.ediv_le_self (se 11) (show 0 ≤ rd + se 11 - 1 by omega)
    omega
  · split
    · omega
    · split <;> omega
theorem bdF_b {se pl : Int → Int} {wa ti : Int} (hse : SB se) (hp : BB 0 12 pl) : 0 ≤ bdF se pl wa ti ∧ bdF se pl wa ti ≤ 12 := by
  have h := hp (ti % 24)
  unfold SB at hse
  unfold bdF
  omega
theorem cap_b {se st : Int → Int} (hse : SB se) : 0 ≤ (cnt st 2 + cnt st 3) * se 2 ∧ (cnt st 2 + cnt st 3) * se 2 ≤ 240 := by
  have h1 := cnt_b st 2
  have h2 := cnt_b st 3
  have h3 := zl_two st (u := 2) (v := 3) (by omega) (k := 12) (by omega)
  unfold SB at hse
  have hs := hse.2.2.1
  unfold cnt at *
  refine ⟨Int.mul_nonneg (by omega) (by omega), ?_⟩
  have := Int.mul_le_mul (show zl st 2 12 + zl st 3 12 ≤ 12 by omega) hs.2 (by omega) (by omega)
  omega
theorem tk_ru0 {se pl : Int → Int} {ld lm : Int} {a : Ab} : (tk se pl ld lm a).1 0 = a.1 0 + 1 := by simp [tk, tkRu]
theorem tk_ru1 {se pl : Int → Int} {ld lm : Int} {a : Ab} : (tk se pl ld lm a).1 1 = a.1 1 + tkDo se pl ld lm a := by simp [tk, tkRu]
theorem tk_ru2 {se pl : Int → Int} {ld lm : Int} {a : Ab} : (tk se pl ld lm a).1 2 = a.1 2 + (tkLv se pl ld lm a).2.2 := by simp [tk, tkRu]
theorem tk_ru3 {se pl : Int → Int} {ld lm : Int} {a : Ab} : (tk se pl ld lm a).1 3 = a.1 3 + tkBi se pl ld lm a := by simp [tk, tkRu]
theorem tk_ru4 {se pl : Int → Int} {ld lm : Int} {a : Ab} : (tk se pl ld lm a).1 4 = tkRd se ld lm a := by simp [tk, tkRu]
theorem tk_ru5 {se pl : Int → Int} {ld lm : Int} {a : Ab} : (tk se pl ld lm a).1 5 = tkWa se pl ld lm a := by simp [tk, tkRu]
theorem tk_ru6 {se pl : Int → Int} {ld lm : Int} {a : Ab} : (tk se pl ld lm a).1 6 = tkCh se pl ld lm a := by simp [tk, tkRu]
theorem tk_ru7 {se pl : Int → Int} {ld lm : Int} {a : Ab} : (tk se pl ld lm a).1 7 = a.1 7 + ld := by simp [tk, tkRu]
theorem tk_hi {se pl : Int → Int} {ld lm : Int} {a : Ab} {t k : Int} (h : t < a.1 0) (hk : 0 ≤ k ∧ k ≤ 5) : (tk se pl ld lm a).2.2.2.2.1 (6 * t + k) = a.2.2.2.2.1 (6 * t + k) := by
  show tkWs se pl ld lm a (6 * t + k) = _
  unfold tkWs
  rw [if_neg (by omega), if_neg (by omega), if_neg (by omega), if_neg (by omega), if_neg (by omega), if_neg (by omega)]
theorem tk_hi0 {se pl : Int → Int} {ld lm : Int} {a : Ab} : (tk se pl ld lm a).2.2.2.2.1 (6 * a.1 0) = mny (tkW1 ld a) := if_pos rfl
theorem tk_hi1 {se pl : Int → Int} {ld lm : Int} {a : Ab} : (tk se pl ld lm a).2.2.2.2.1 (6 * a.1 0 + 1) = tkDo se pl ld lm a := by
  show tkWs se pl ld lm a _ = _
  unfold tkWs
  rw [if_neg (by omega), if_pos rfl]
theorem tk_hi2 {se pl : Int → Int} {ld lm : Int} {a : Ab} : (tk se pl ld lm a).2.2.2.2.1 (6 * a.1 0 + 2) = (tkLv se pl ld lm a).2.2 := by
  show tkWs se pl ld lm a _ = _
  unfold tkWs
  rw [if_neg (by omega), if_neg (by omega), if_pos rfl]
theorem tk_hi3 {se pl : Int → Int} {ld lm : Int} {a : Ab} : (tk se pl ld lm a).2.2.2.2.1 (6 * a.1 0 + 3) = upS (tkS3 se pl ld lm a) := by
  show tkWs se pl ld lm a _ = _
  unfold tkWs
  rw [if_neg (by omega), if_neg (by omega), if_neg (by omega), if_pos rfl]
theorem tk_hi4 {se pl : Int → Int} {ld lm : Int} {a : Ab} : (tk se pl ld lm a).2.2.2.2.1 (6 * a.1 0 + 4) = tkWa se pl ld lm a := by
  show tkWs se pl ld lm a _ = _
  unfold tkWs
  rw [if_neg (by omega), if_neg (by omega), if_neg (by omega), if_neg (by omega), if_pos rfl]
theorem tk_hi5 {se pl : Int → Int} {ld lm : Int} {a : Ab} : (tk se pl ld lm a).2.2.2.2.1 (6 * a.1 0 + 5) = tkBi se pl ld lm a := by
  show tkWs se pl ld lm a _ = _
  unfold tkWs
  rw [if_neg (by omega), if_neg (by omega), if_neg (by omega), if_neg (by omega), if_neg (by omega), if_pos rfl]

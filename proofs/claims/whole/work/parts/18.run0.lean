/-- n TICKS -/
def tkI (se pl ld lm : Int → Int) : Nat → Ab → Ab
  | 0, a => a
  | n + 1, a => tkI se pl ld lm n (tk se pl (ld (a.1 0)) (lm (a.1 0)) a)
theorem tkI_0 {se pl ld lm : Int → Int} {a : Ab} : tkI se pl ld lm 0 a = a := rfl
theorem tkI_s {se pl ld lm : Int → Int} {a : Ab} {n : Int} (h : 0 < n) : tkI se pl ld lm n.toNat a = tkI se pl ld lm (n - 1).toNat (tk se pl (ld (a.1 0)) (lm (a.1 0)) a) := by
  rw [show n.toNat = (n - 1).toNat + 1 by omega]
  rfl
theorem tkI_now {se pl ld lm : Int → Int} (n : Nat) : ∀ a : Ab, (tkI se pl ld lm n a).1 0 = a.1 0 + n := by
  induction n with
  | zero => intro a; rw [tkI_0]; omega
  | succ n ih =>
    intro a
    show (tkI se pl ld lm n (tk se pl (ld (a.1 0)) (lm (a.1 0)) a)).1 0 = _
    rw [ih, tk_ru0]
    omega
theorem tkI_congr {se pl ld lm ld' lm' : Int → Int} (n : Nat) : ∀ a : Ab, (∀ j, a.1 0 ≤ j → j < a.1 0 + n → ld j = ld' j ∧ lm j = lm' j) → tkI se pl ld lm n a = tkI se pl ld' lm' n a := by
  induction n with
  | zero => intro a _; rfl
  | succ n ih =>
    intro a h
    have h0 := h (a.1 0) (by omega) (by omega)
    show tkI se pl ld lm n (tk se pl (ld (a.1 0)) (lm (a.1 0)) a) = tkI se pl ld' lm' n (tk se pl (ld' (a.1 0)) (lm' (a.1 0)) a)
    rw [h0.1, h0.2]
    exact ih _ (fun j h1 h2 => by rw [tk_ru0] at h1 h2; exact h j (by omega) (by omega))
theorem fl_zero {P : Int → Bool} {v : Int} {f : Int → Int} (h : ∀ j, ¬ (0 ≤ j ∧ j < 12) → f j = 0) : ∀ j, ¬ (0 ≤ j ∧ j < 12) → fl P v f 0 12 j = 0 := fun j hj => by rw [fl_out hj]; exact h j hj
theorem tk_out {se pl : Int → Int} {ld lm : Int} {a : Ab} (h : ∀ j, ¬ (0 ≤ j ∧ j < 12) → a.2.1 j = 0) : ∀ j, ¬ (0 ≤ j ∧ j < 12) → (tk se pl ld lm a).2.1 j = 0 := by
  show ∀ j, ¬ (0 ≤ j ∧ j < 12) → tkS3 se pl ld lm a j = 0
  unfold tkS3
  apply fl_zero
  unfold tkS2
  apply fl_zero
  unfold tkS1 chS
  split
  · exact fl_zero h
  · unfold shS
    apply fl_zero
    unfold shA
    exact fl_zero h
theorem tkI_out {se pl ld lm : Int → Int} (n : Nat) : ∀ a : Ab, (∀ j, ¬ (0 ≤ j ∧ j < 12) → a.2.1 j = 0) → ∀ j, ¬ (0 ≤ j ∧ j < 12) → (tkI se pl ld lm n a).2.1 j = 0 := by
  induction n with
  | zero => intro a h; exact h
  | succ n ih => intro a h; exact ih _ (tk_out h)
/-- the beginning -/
def ini : Ab := (fun j => if j = 5 ∨ j = 6 then -1 else 0, fun _ => 0, fun _ => 0, fun _ => 0, fun _ => 0, [], [])
theorem CR.ini {st bg le tr si rg no h0 h1 h2 h3 h4 h5 : Int → Int} (hz : ∀ j, ¬ (0 ≤ j ∧ j < 12) → st j = 0) : CR (fl (fun _ => true) 0 st 0 12) bg le tr si rg no h0 h1 h2 h3 h4 h5 0 0 0 0 0 0 (-1) (-1) 0 0 0 0 ini := by
  have e : fl (fun _ => true) 0 st 0 12 = fun _ => 0 := by
    funext j
    by_cases q : 0 ≤ j ∧ j < 12
    · exact fl_yes q.1 q.2 rfl
    · rw [fl_out q]; exact hz j q
  rw [e]
  refine ⟨⟨rfl, rfl, rfl, rfl, rfl, rfl, rfl, rfl⟩, rfl, ?_, ?_, ?_, QC.nil (by omega) (by omega), rfl, rfl, by omega, by omega, by omega, by omega⟩
  · intro j hj
    exact absurd hj (by simp)
  · intro j q1 q2; omega
  · intro t q1 q2; omega
/-- what the public numbers of a run are -/
def figF (st : Int → Int) (ti wt rt dn lo bi rd wa lc ca k : Int) : Int :=
  if k = 0 then ti else if k = 1 then wt else if k = 2 then rt else if k = 3 then dn else if k = 4 then lo else if k = 5 then bi else if k = 6 then rd else if k = 7 then wa
  else if k = 8 then upS st else if k = 9 then cnt st 2 else if k = 10 then cnt st 3 else if k = 11 then (if lc = -1 then -1 else ti - lc) else if k = 12 then ca else -1002
def hkF (h0 h1 h2 h3 h4 h5 : Int → Int) (k t : Int) : Int := if k = 0 then h0 t else if k = 1 then h1 t else if k = 2 then h2 t else if k = 3 then h3 t else if k = 4 then h4 t else h5 t
/-- the least of v and f a, f (a + 1), .. (n of them); the greatest -/
def mnF (f : Int → Int) : Nat → Int → Int → Int
  | 0, _, v => v
  | n + 1, a, v => mnF f n (a + 1) (min v (f a))
def mxF (f : Int → Int) : Nat → Int → Int → Int
  | 0, _, v => v
  | n + 1, a, v => mxF f n (a + 1) (max v (f a))
theorem mnF_s {f : Int → Int} {a v b : Int} (h : a < b) : mnF f (b - a).toNat a v = mnF f (b - (a + 1)).toNat (a + 1) (min v (f a)) := by
  rw [show (b - a).toNat = (b - (a + 1)).toNat + 1 by omega]
  rfl
theorem mxF_s {f : Int → Int} {a v b : Int} (h : a < b) : mxF f (b - a).toNat a v = mxF f (b - (a + 1)).toNat (a + 1) (max v (f a)) := by
  rw [show (b - a).toNat = (b - (a + 1)).toNat + 1 by omega]
  rfl
/-! bits of small numbers -/
def shI (a k : Int) : Int := a / 2 ^ k.toNat
theorem sh_dec : ∀ (a : Fin 64) (k : Fin 6), iI (a.val : Int) >>> (iI (k.val : Int) &&& 31) = iI ((a.val : Int) / 2 ^ k.val) := by decide +kernel
theorem sh_ok {a k : Int} (ha : 0 ≤ a ∧ a < 64) (hk : 0 ≤ k ∧ k < 6) : iI a >>> (iI k &&& 31) = iI (shI a k) := by
  have h := sh_dec ⟨a.toNat, by omega⟩ ⟨k.toNat, by omega⟩
  simp only [Int.toNat_of_nonneg ha.1, Int.toNat_of_nonneg hk.1] at h
  exact h
theorem sh_b {a k : Int} (ha : 0 ≤ a ∧ a < 64) : 0 ≤ shI a k ∧ shI a k < 64 := by
  have hp : (0 : Int) < 2 ^ k.toNat := Int.pow_pos (by omega)
  unfold shI
  refine ⟨Int.ediv_nonneg ha.1 (by omega), ?_⟩
  have := Int.ediv_le_self (2 ^ k.toNat) ha.1
  omega
theorem and_dec : ∀ (a : Fin 64), iI (a.val : Int) &&& iI 1 = iI ((a.val : Int) % 2) := by decide +kernel
theorem and_ok {a : Int} (ha : 0 ≤ a ∧ a < 64) : iI a &&& iI 1 = iI (a % 2) := by
  have h := and_dec ⟨a.toNat, by omega⟩
  simp only [Int.toNat_of_nonneg ha.1] at h
  exact h
def bitI (a k : Int) : Int := shI a k % 2
/-- the loads of a row -/
def wlF (row n a : Int) : Int → Int := fun j => if j < n ∧ bitI row j = 1 then a else 0
/-- lost under a row; the run of a steady load -/
def wLost (se pl : Int → Int) (row n a : Int) : Int := (tkI se pl (wlF row n a) (fun _ => 0) (n + 10).toNat ini).1 2
def stRun (se pl : Int → Int) (a n : Int) : Ab := tkI se pl (fun _ => a) (fun _ => 0) n.toNat ini

theorem mnF_le (f : Int → Int) (n : Nat) : ∀ (a v : Int), mnF f n a v ≤ v := by
  induction n with
  | zero => intro a v; exact Int.le_refl _
  | succ n ih =>
    intro a v
    have := ih (a + 1) (min v (f a))
    show mnF f n (a + 1) (min v (f a)) ≤ v
    omega
theorem mxF_ge (f : Int → Int) (n : Nat) : ∀ (a v : Int), v ≤ mxF f n a v := by
  induction n with
  | zero => intro a v; exact Int.le_refl _
  | succ n ih =>
    intro a v
    have := ih (a + 1) (max v (f a))
    show v ≤ mxF f n (a + 1) (max v (f a))
    omega
theorem mn_mx (f : Int → Int) (n : Nat) (a v w : Int) : mnF f (n + 1) a v ≤ mxF f (n + 1) a w := by
  have h1 := mnF_le f n (a + 1) (min v (f a))
  have h2 := mxF_ge f n (a + 1) (max w (f a))
  show mnF f n (a + 1) (min v (f a)) ≤ mxF f n (a + 1) (max w (f a))
  omega
theorem mnF_99 {f : Int → Int} (h : f 100 ≤ 12) : mnF f 48 100 99 = mnF f 48 100 12 := by
  show mnF f 47 (100 + 1) (min 99 (f 100)) = mnF f 47 (100 + 1) (min 12 (f 100))
  rw [show min 99 (f 100) = min 12 (f 100) by omega]
theorem mnF_b {f : Int → Int} (n : Nat) : ∀ (a v : Int), (∀ j, a ≤ j → j < a + (n : Int) → 0 ≤ f j) → 0 ≤ v → 0 ≤ mnF f n a v := by
  induction n with
  | zero => intro a v _ h; exact h
  | succ n ih =>
    intro a v h hv
    have := h a (by omega) (by omega)
    exact ih (a + 1) (min v (f a)) (fun j q1 q2 => h j (by omega) (by omega)) (by omega)
theorem mxF_b {f : Int → Int} (n : Nat) : ∀ (a v : Int), (∀ j, a ≤ j → j < a + (n : Int) → f j ≤ 12) → v ≤ 12 → mxF f n a v ≤ 12 := by
  induction n with
  | zero => intro a v _ h; exact h
  | succ n ih =>
    intro a v h hv
    have := h a (by omega) (by omega)
    exact ih (a + 1) (max v (f a)) (fun j q1 q2 => h j (by omega) (by omega)) (by omega)
theorem stU_b {se pl : Int → Int} {a k : Int} (hk : 0 ≤ k ∧ k < 148) : 0 ≤ stU se pl a k ∧ stU se pl a k ≤ 12 := by
  have key : ∀ (n m : Nat) (b : Ab), b.1 0 = (m : Int) → ∀ j : Int, (m : Int) ≤ j → j < (m : Int) + (n : Int) → 0 ≤ (tkI se pl (fun _ => a) (fun _ => 0) n b).2.2.2.2.1 (6 * j + 3) ∧ (tkI se pl (fun _ => a) (fun _ => 0) n b).2.2.2.2.1 (6 * j + 3) ≤ 12 := by
    intro n
    induction n with
    | zero => intro m b _ j q1 q2; omega
    | succ n ih =>
      intro m b hb j q1 q2
      by_cases q : j = (m : Int)
      · rw [q, ← hb, tkI_up (Nat.succ_pos n)]
        exact upS_b _
      · exact ih (m + 1) _ (by rw [tk_ru0, hb]; omega) j (by omega) (by omega)
  exact key 148 0 ini rfl k (by omega) (by omega)
theorem stU_at {se pl ld1 : Int → Int} {a k : Int} {a1 : Ab} (hk : 0 ≤ k ∧ k < 148) (h : tkI se pl ld1 (fun _ => 0) (148 - k).toNat a1 = stRun se pl a 148) (h0 : a1.1 0 = k) : stU se pl a k = upS (tk se pl (ld1 (a1.1 0)) 0 a1).2.1 := by
  unfold stU
  rw [← h, ← h0]
  exact tkI_up (by omega)
theorem mnF_m {f : Int → Int} {k v : Int} (hk : k < 148) : mnF f (148 - max k 100).toNat (max k 100) v = mnF f (148 - max (k + 1) 100).toNat (max (k + 1) 100) (if 100 ≤ k then min v (f k) else v) := by
  by_cases h : 100 ≤ k
  · rw [if_pos h, show max k 100 = k by omega, show max (k + 1) 100 = k + 1 by omega, mnF_s hk]
  · rw [if_neg h, show max k 100 = 100 by omega, show max (k + 1) 100 = 100 by omega]
theorem mxF_m {f : Int → Int} {k v : Int} (hk : k < 148) : mxF f (148 - max k 100).toNat (max k 100) v = mxF f (148 - max (k + 1) 100).toNat (max (k + 1) 100) (if 100 ≤ k then max v (f k) else v) := by
  by_cases h : 100 ≤ k
  · rw [if_pos h, show max k 100 = k by omega, show max (k + 1) 100 = k + 1 by omega, mxF_s hk]
  · rw [if_neg h, show max k 100 = 100 by omega, show max (k + 1) 100 = 100 by omega]

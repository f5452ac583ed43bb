/-! what is kept and put back -/
def cpF (kp f : Int → Int) (a n : Int) : Int → Int := fun j => if a ≤ j ∧ j < a + n then f (j - a) else kp j
def cpG (f kp : Int → Int) (a n : Int) : Int → Int := fun j => if 0 ≤ j ∧ j < n then kp (a + j) else f j
theorem cpF_in {kp f : Int → Int} {a n j : Int} (h : 0 ≤ j) (h2 : j < n) : cpF kp f a n (a + j) = f j := by
  unfold cpF
  rw [if_pos (by omega), show a + j - a = j by omega]
theorem cpF_out {kp f : Int → Int} {a n j : Int} (h : j < a) : cpF kp f a n j = kp j := by
  unfold cpF
  rw [if_neg (by omega)]
theorem cpF_0 {kp f : Int → Int} {a : Int} : cpF kp f a 0 = kp := by
  funext j
  unfold cpF
  rw [if_neg (by omega)]
theorem cpG_0 {kp f : Int → Int} {a : Int} : cpG f kp a 0 = f := by
  funext j
  unfold cpG
  rw [if_neg (by omega)]
theorem cpF_s {kp f : Int → Int} {a k : Int} (h : 0 ≤ k) : uI (cpF kp f a k) (a + k) (f k) = cpF kp f a (k + 1) := by
  funext j
  unfold uI cpF
  by_cases q : j = a + k
  · rw [if_pos q, if_pos (by omega), q, show a + k - a = k by omega]
  · rw [if_neg q]
    by_cases c : a ≤ j ∧ j < a + k
    · rw [if_pos c, if_pos (by omega)]
    · rw [if_neg c, if_neg (by omega)]
theorem cpG_s {kp f : Int → Int} {a k : Int} (h : 0 ≤ k) : uI (cpG f kp a k) k (kp (a + k)) = cpG f kp a (k + 1) := by
  funext j
  unfold uI cpG
  by_cases q : j = k
  · rw [if_pos q, if_pos (by omega), q]
  · rw [if_neg q]
    by_cases c : 0 ≤ j ∧ j < k
    · rw [if_pos c, if_pos (by omega)]
    · rw [if_neg c, if_neg (by omega)]
theorem cpG_in {f kp : Int → Int} {a n j : Int} (h : 0 ≤ j) (h2 : j < n) : cpG f kp a n j = kp (a + j) := if_pos ⟨h, h2⟩
theorem cpG_out {f kp : Int → Int} {a n j : Int} (h : ¬ (0 ≤ j ∧ j < n)) : cpG f kp a n j = f j := if_neg h
theorem BB_cpG {lo hi : Int} {f kp g : Int → Int} {a n : Int} (h : BB lo hi f) (hg : BB lo hi g) (hk : ∀ j, 0 ≤ j → j < n → kp (a + j) = g j) : BB lo hi (cpG f kp a n) := by
  intro j
  by_cases c : 0 ≤ j ∧ j < n
  · rw [cpG_in c.1 c.2, hk j c.1 c.2]
    exact hg j
  · rw [cpG_out c]
    exact h j
/-- kp keeps it all -/
def KP (kp ru st sn kt kr km ar am hp no ws : Int → Int) : Prop :=
  (∀ j, 0 ≤ j → j < 8 → kp (0 + j) = ru j) ∧ (∀ j, 0 ≤ j → j < 12 → kp (8 + j) = st j) ∧ (∀ j, 0 ≤ j → j < 12 → kp (20 + j) = sn j) ∧ (∀ j, 0 ≤ j → j < 200 → kp (32 + j) = kt j) ∧ (∀ j, 0 ≤ j → j < 200 → kp (232 + j) = kr j) ∧ (∀ j, 0 ≤ j → j < 200 → kp (432 + j) = km j) ∧
  (∀ j, 0 ≤ j → j < 200 → kp (632 + j) = ar j) ∧ (∀ j, 0 ≤ j → j < 200 → kp (832 + j) = am j) ∧ (∀ j, 0 ≤ j → j < 2 → kp (1032 + j) = hp j) ∧ (∀ j, 0 ≤ j → j < 200 → kp (1034 + j) = no j) ∧ (∀ j, 0 ≤ j → j < 1200 → kp (1234 + j) = ws j)
theorem MR.restore {kp ru st sn kt kr km ar am hp no ws ru' st' sn' kt' kr' km' ar' am' hp' no' ws' : Int → Int} {a : Ab} (h : MR ru st sn kt kr km ar am hp no ws a) (hz : ∀ j, ¬ (0 ≤ j ∧ j < 12) → st j = 0) (hz' : ∀ j, ¬ (0 ≤ j ∧ j < 12) → st' j = 0)
    (hk : KP kp ru st sn kt kr km ar am hp no ws) : MR (cpG ru' kp 0 8) (cpG st' kp 8 12) (cpG sn' kp 20 12) (cpG kt' kp 32 200) (cpG kr' kp 232 200) (cpG km' kp 432 200) (cpG ar' kp 632 200) (cpG am' kp 832 200) (cpG hp' kp 1032 2) (cpG no' kp 1034 200) (cpG ws' kp 1234 1200) a := by
  obtain ⟨k1, k2, k3, k4, k5, k6, k7, k8, k9, k10, k11⟩ := hk
  obtain ⟨h1, h2, h3, h4, h5, ⟨h6, h7, h8⟩, h9, h10, ⟨h11, h12, h13⟩, h14⟩ := h
  have r : ∀ j, 0 ≤ j → j < 8 → cpG ru' kp 0 8 j = ru j := fun j q1 q2 => (cpG_in q1 q2).trans (k1 j q1 q2)
  have p : ∀ j, 0 ≤ j → j < 2 → cpG hp' kp 1032 2 j = hp j := fun j q1 q2 => (cpG_in q1 q2).trans (k9 j q1 q2)
  have s : cpG st' kp 8 12 = st := by
    funext j
    by_cases c : 0 ≤ j ∧ j < 12
    · exact (cpG_in c.1 c.2).trans (k2 j c.1 c.2)
    · rw [cpG_out c, hz' j c, hz j c]
  rw [s]
  refine ⟨fun j q1 q2 => (r j q1 q2).trans (h1 j q1 q2), h2, ?_, ?_, ?_, ?_, ?_, ?_, ?_, h14⟩
  · intro j hj
    by_cases c : 0 ≤ j ∧ j < 12
    · rw [cpG_in c.1 c.2, k3 j c.1 c.2]; exact h3 j hj
    · have := hz j c; omega
  · rw [r 0 (by decide) (by decide)]
    exact fun j q1 q2 => ((cpG_in q1 (by omega)).trans (k10 j q1 (by omega))).trans (h4 j q1 q2)
  · rw [r 0 (by decide) (by decide)]
    exact fun j q1 q2 => ((cpG_in q1 (by omega)).trans (k11 j q1 (by omega))).trans (h5 j q1 q2)
  · rw [r 0 (by decide) (by decide), p 0 (by decide) (by decide), p 1 (by decide) (by decide)]
    exact ⟨h6, h7, h8⟩
  · rw [p 0 (by decide) (by decide), ← h9]
    exact hL_congr (fun j q1 q2 => ⟨(cpG_in q1 (by omega)).trans (k4 j q1 (by omega)), (cpG_in q1 (by omega)).trans (k5 j q1 (by omega)), (cpG_in q1 (by omega)).trans (k6 j q1 (by omega))⟩)
  · rw [p 1 (by decide) (by decide), r 0 (by decide) (by decide), ← h10]
    exact hL_congr (fun j q1 q2 => ⟨rfl, (cpG_in q1 (by omega)).trans (k7 j q1 (by omega)), (cpG_in q1 (by omega)).trans (k8 j q1 (by omega))⟩)
  · rw [r 0 (by decide) (by decide), r 4 (by decide) (by decide), r 6 (by decide) (by decide)]
    exact ⟨h11, h12, h13⟩
/-! rows of loads by their places -/
def p2 (n : Int) : Int := 2 ^ n.toNat
theorem p2_0 : p2 0 = 1 := rfl
theorem p2_s {n : Int} (h : 0 ≤ n) : p2 (n + 1) = 2 * p2 n := by
  unfold p2
  rw [show (n + 1).toNat = n.toNat + 1 by omega, Int.pow_succ, Int.mul_comm]
theorem p2_b {n : Int} (h : 0 ≤ n ∧ n ≤ 6) : 1 ≤ p2 n ∧ p2 n ≤ 64 := by
  rcases (show n = 0 ∨ n = 1 ∨ n = 2 ∨ n = 3 ∨ n = 4 ∨ n = 5 ∨ n = 6 by omega) with rfl | rfl | rfl | rfl | rfl | rfl | rfl <;> decide
theorem shl_dec : ∀ (b : Fin 2) (t : Fin 7), iI (b.val : Int) <<< (iI (t.val : Int) &&& 31) = iI ((b.val : Int) * 2 ^ t.val) := by decide +kernel
theorem shl_ok {b t : Int} (hb : 0 ≤ b ∧ b ≤ 1) (ht : 0 ≤ t ∧ t ≤ 6) : iI b <<< (iI t &&& 31) = iI (b * p2 t) := by
  have h := shl_dec ⟨b.toNat, by omega⟩ ⟨t.toNat, by omega⟩
  simp only [Int.toNat_of_nonneg hb.1, Int.toNat_of_nonneg ht.1] at h
  exact h
theorem or_dec : ∀ (a : Fin 64) (b : Fin 2) (t : Fin 6), a.val < 2 ^ t.val → iI (a.val : Int) ||| iI ((b.val : Int) * 2 ^ t.val) = iI ((a.val : Int) + (b.val : Int) * 2 ^ t.val) := by decide +kernel
theorem or_ok {a b t : Int} (ha : 0 ≤ a ∧ a < p2 t) (hb : 0 ≤ b ∧ b ≤ 1) (ht : 0 ≤ t ∧ t < 6) : iI a ||| iI (b * p2 t) = iI (a + b * p2 t) := by
  have hp := p2_b (n := t) (by omega)
  have h := or_dec ⟨a.toNat, by omega⟩ ⟨b.toNat, by omega⟩ ⟨t.toNat, by omega⟩ (by
    show a.toNat < 2 ^ t.toNat
    have h1 : ((a.toNat : Nat) : Int) < ((2 ^ t.toNat : Nat) : Int) := by
      rw [Int.toNat_of_nonneg ha.1]
      have h2 := ha.2
      unfold p2 at h2
      exact_mod_cast h2
    omega)
  simp only [Int.toNat_of_nonneg ha.1, Int.toNat_of_nonneg hb.1, Int.toNat_of_nonneg ht.1] at h
  exact h
/-- the reference's row: bit t of it is bit n - 1 - t of the place k -/
def rsN (n k : Int) : Nat → Int
  | 0 => 0
  | t + 1 => rsN n k t + bitI k (n - 1 - (t : Int)) * p2 t
def rsP (n k t : Int) : Int := rsN n k t.toNat
theorem rsP_s {n k t : Int} (h : 0 ≤ t) : rsP n k (t + 1) = rsP n k t + bitI k (n - 1 - t) * p2 t := by
  unfold rsP
  rw [show (t + 1).toNat = t.toNat + 1 by omega]
  show rsN n k t.toNat + bitI k (n - 1 - (t.toNat : Int)) * p2 (t.toNat : Int) = _
  rw [Int.toNat_of_nonneg h]
theorem bitI_b (a k : Int) : 0 ≤ bitI a k ∧ bitI a k ≤ 1 := by unfold bitI; omega
theorem bit_p2 (a k t : Int) : 0 ≤ bitI a k * p2 t ∧ bitI a k * p2 t ≤ p2 t ∨ p2 t < 0 := by
  have h := bitI_b a k
  rcases (show bitI a k = 0 ∨ bitI a k = 1 by omega) with e | e
  · rw [e]; omega
  · rw [e]; omega
theorem rsP_b {n k t : Int} (h : 0 ≤ t) : 0 ≤ rsP n k t ∧ rsP n k t < p2 t := by
  obtain ⟨m, rfl⟩ := Int.eq_ofNat_of_zero_le h
  induction m with
  | zero => exact ⟨Int.le_refl _, show (0 : Int) < 1 by decide⟩
  | succ m ih =>
    have i := ih (by omega)
    rw [show ((m + 1 : Nat) : Int) = (m : Int) + 1 by omega, rsP_s (by omega), p2_s (by omega)]
    have := bit_p2 k (n - 1 - m) m
    omega
/-- the worst of places k .. : most lost, its row -/
def wsL (f rv : Int → Int) : Nat → Int → Int → Int → Int × Int
  | 0, _, m, b => (m, b)
  | n + 1, k, m, b => wsL f rv n (k + 1) (if m < f (rv k) then f (rv k) else m) (if m < f (rv k) then rv k else b)
theorem wsL_s {f rv : Int → Int} {k m b e : Int} (h : k < e) : wsL f rv (e - k).toNat k m b = wsL f rv (e - (k + 1)).toNat (k + 1) (if m < f (rv k) then f (rv k) else m) (if m < f (rv k) then rv k else b) := by
  rw [show (e - k).toNat = (e - (k + 1)).toNat + 1 by omega]
  rfl
theorem wsL_congr {f rv rv' : Int → Int} (n : Nat) : ∀ (k m b : Int), (∀ j : Int, k ≤ j → j < k + (n : Int) → rv j = rv' j) → wsL f rv n k m b = wsL f rv' n k m b := by
  induction n with
  | zero => intro k m b _; rfl
  | succ n ih =>
    intro k m b h
    show wsL f rv n (k + 1) (if m < f (rv k) then f (rv k) else m) (if m < f (rv k) then rv k else b) = wsL f rv' n (k + 1) (if m < f (rv' k) then f (rv' k) else m) (if m < f (rv' k) then rv' k else b)
    rw [h k (by omega) (by omega)]
    exact ih _ _ _ (fun j q1 q2 => h j (by omega) (by omega))
def wsR (se pl : Int → Int) (n a : Int) : Int × Int := wsL (fun row => wLost se pl row n a) (fun k => rsP n k n) (p2 n).toNat 0 (-1) 0
def wsZ (se pl : Int → Int) (n a w : Int) : Int := if (1 ≤ n ∧ n ≤ 6) ∧ (1 ≤ a ∧ a ≤ 60) ∧ (0 ≤ w ∧ w ≤ 1) then (if w = 0 then (wsR se pl n a).1 else (wsR se pl n a).2) else -1002
/-- how many are UP at the end of the TICKS of a steady load -/
def stU (se pl : Int → Int) (a : Int) : Int → Int := fun t => (stRun se pl a 148).2.2.2.2.1 (6 * t + 3)
def swZ (se pl : Int → Int) (a w : Int) : Int :=
  if (0 ≤ a ∧ a ≤ 60) ∧ (0 ≤ w ∧ w ≤ 2) then
    (if w = 0 then (if mnF (stU se pl a) 48 100 12 = mxF (stU se pl a) 48 100 0 then 0 else 1) else if w = 1 then mnF (stU se pl a) 48 100 12 else mxF (stU se pl a) 48 100 0) else -1002
theorem tkI_hi {se pl ld lm : Int → Int} (n : Nat) : ∀ (a : Ab) (j : Int), j < 6 * a.1 0 → (tkI se pl ld lm n a).2.2.2.2.1 j = a.2.2.2.2.1 j := by
  induction n with
  | zero => intro a j _; rfl
  | succ n ih =>
    intro a j h
    show (tkI se pl ld lm n (tk se pl (ld (a.1 0)) (lm (a.1 0)) a)).2.2.2.2.1 j = _
    rw [ih _ j (by rw [tk_ru0]; omega), tk_hiA h]
/-- the UP of a TICK that was, out of a later run -/
theorem tkI_up {se pl ld lm : Int → Int} {n : Nat} {a : Ab} (h : 0 < n) : (tkI se pl ld lm n a).2.2.2.2.1 (6 * a.1 0 + 3) = upS (tk se pl (ld (a.1 0)) (lm (a.1 0)) a).2.1 := by
  obtain ⟨m, rfl⟩ : ∃ m, n = m + 1 := ⟨n - 1, by omega⟩
  show (tkI se pl ld lm m (tk se pl (ld (a.1 0)) (lm (a.1 0)) a)).2.2.2.2.1 (6 * a.1 0 + 3) = _
  rw [tkI_hi m _ _ (by rw [tk_ru0]; omega), tk_hi3]
  rfl

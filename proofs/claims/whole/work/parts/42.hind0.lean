/-! HINDSIGHT: the rows of numbers of SERVERS as sets of bills (in PRICES), by the last number x and the REQUESTS l left -/
def uR (G : Int → Int → Int) (i : Int) (f : Int → Int) : Int → Int → Int := fun x => if x = i then f else G x
theorem uR_s (G : Int → Int → Int) (i : Int) (f : Int → Int) : uR G i f i = f := if_pos rfl
theorem uR_n (G : Int → Int → Int) (i : Int) (f : Int → Int) {x : Int} (h : x ≠ i) : uR G i f x = G x := if_neg h
theorem BBR_uR {lo hi : Int} {G : Int → Int → Int} (h : ∀ x, BB lo hi (G x)) (i : Int) {f : Int → Int} (hf : BB lo hi f) : ∀ x, BB lo hi (uR G i f x) := by
  intro x
  unfold uR
  split
  · exact hf
  · exact h x
def bdS (ld se : Int → Int) (t : Int) : Int := sI ld (t + 1) - sI ld (t - se 3 + 2)
def SC (ld se : Int → Int) : Nat → Int → Int → Int → Prop
  | 0, x, l, c => x = 0 ∧ l = 0 ∧ c = 0
  | t + 1, x, l, c => ∃ x' l' c', SC ld se t x' l' c' ∧ (se 7 ≤ x ∧ x ≤ se 8) ∧ l = max (l' + (ld t - x * se 2)) 0 ∧ l ≤ bdS ld se t ∧ c = c' + max 0 (x - x') + x
theorem bdS_b {ld se : Int → Int} {t : Int} (hl : BB 0 60 ld) (hse : SB se) (ht : 0 ≤ t) : 0 ≤ bdS ld se t ∧ bdS ld se t ≤ 540 := by
  have h3 := hse.2.2.2.1
  unfold bdS
  have key : ∀ (n : Nat) (b : Int), 0 ≤ sI ld (b + n) - sI ld b ∧ sI ld (b + n) - sI ld b ≤ 60 * n := by
    intro n
    induction n with
    | zero => intro b; rw [show b + ((0 : Nat) : Int) = b by omega]; omega
    | succ n ih =>
      intro b
      have := ih b
      have h := sI_step ld (b + n)
      have hb := hl (b + n)
      rw [show b + ((n + 1 : Nat) : Int) = b + n + 1 by omega, h]
      split <;> omega
  have := key (se 3 - 1).toNat (t - se 3 + 2)
  rw [show t - se 3 + 2 + ((se 3 - 1).toNat : Int) = t + 1 by omega] at this
  omega
theorem SC_b {ld se : Int → Int} (hl : BB 0 60 ld) (hse : SB se) (t : Nat) : ∀ x l c, SC ld se t x l c → (0 ≤ x ∧ x ≤ 12) ∧ (0 ≤ l ∧ l ≤ 540) ∧ (0 ≤ c ∧ c ≤ 24 * (t : Int)) := by
  induction t with
  | zero => intro x l c h; obtain ⟨h1, h2, h3⟩ := h; omega
  | succ t ih =>
    intro x l c h
    obtain ⟨x', l', c', h1, h2, h3, h4, h5⟩ := h
    obtain ⟨a1, a2, a3⟩ := ih x' l' c' h1
    have hb := bdS_b hl hse (t := (t : Int)) (by omega)
    have h7 := hse.2.2.2.2.2.2.2.1
    have h8 := hse.2.2.2.2.2.2.2.2.1
    omega
theorem SC_bd {ld se : Int → Int} {t : Nat} {x l c : Int} (h : SC ld se (t + 1) x l c) : l ≤ bdS ld se t := by
  obtain ⟨x', l', c', h1, h2, h3, h4, h5⟩ := h
  exact h4
/-- a table of the least of C, up to mb -/
def Mn (T : Int → Int → Int) (C : Int → Int → Int → Prop) (mb : Int) : Prop := ∀ x l, 0 ≤ x → x ≤ 12 → 0 ≤ l → l ≤ mb → T x l ≤ 1000000 ∧ (T x l < 1000000 → C x l (T x l)) ∧ (∀ c, C x l c → T x l ≤ c)
def dQ (P Q : Int → Int → Int) (s mb : Int) : Prop := ∀ x l, 0 ≤ x → x ≤ 12 → 0 ≤ l → l ≤ mb → (x ≤ s → Q x l = P x l) ∧ (s < x → (∀ x', x ≤ x' → x' ≤ 12 → Q x l ≤ P x' l) ∧ ∃ x', x ≤ x' ∧ x' ≤ 12 ∧ Q x l = P x' l)
def fullA (P R : Int → Int → Int) (x l : Int) : Prop := (∀ x', 0 ≤ x' → x' ≤ 12 → R x l ≤ P x' l + max 0 (x - x')) ∧ ∃ x', 0 ≤ x' ∧ x' ≤ 12 ∧ R x l = P x' l + max 0 (x - x')
def dR (P R : Int → Int → Int) (s mb : Int) : Prop := ∀ x l, 0 ≤ x → x ≤ 12 → 0 ≤ l → l ≤ mb → (x < s → fullA P R x l) ∧ (s ≤ x → (∀ x', x ≤ x' → x' ≤ 12 → R x l ≤ P x' l) ∧ ∃ x', x ≤ x' ∧ x' ≤ 12 ∧ R x l = P x' l)
def dA (P R : Int → Int → Int) (mb : Int) : Prop := ∀ x l, 0 ≤ x → x ≤ 12 → 0 ≤ l → l ≤ mb → fullA P R x l
theorem dQ_0 {P : Int → Int → Int} {mb : Int} : dQ P P 11 mb := by
  intro x l h0 h1 h2 h3
  refine ⟨fun _ => rfl, fun h => ⟨fun x' q1 q2 => ?_, x, Int.le_refl _, h1, rfl⟩⟩
  rw [show x' = x by omega]
  exact Int.le_refl _
theorem dQ_s {P Q : Int → Int → Int} {s mb : Int} {r : Int → Int} (h : dQ P Q s mb) (hs : 0 ≤ s) (hs2 : s ≤ 11) (hr : ∀ j, 0 ≤ j → j ≤ mb → r j = min (Q s j) (Q (s + 1) j + 0)) : dQ P (uR Q s r) (s + -1) mb := by
  intro x l h0 h1 h2 h3
  have hx := h x l h0 h1 h2 h3
  by_cases e : x = s
  · refine ⟨fun q => by omega, fun _ => ?_⟩
    have hn := (h (s + 1) l (by omega) (by omega) h2 h3).2 (by omega)
    have he := hx.1 (by omega)
    rw [e] at he ⊢
    rw [uR_s, hr l h2 h3, he]
    obtain ⟨hn1, x', n1, n2, n3⟩ := hn
    refine ⟨fun y q1 q2 => ?_, ?_⟩
    · by_cases e2 : y = s
      · rw [e2]; omega
      · have := hn1 y (by omega) q2
        omega
    · by_cases e2 : P s l ≤ Q (s + 1) l
      · exact ⟨s, Int.le_refl _, by omega, by omega⟩
      · exact ⟨x', by omega, n2, by omega⟩
  · rw [uR_n _ _ _ e]
    exact ⟨fun q => hx.1 (by omega), fun q => hx.2 (by omega)⟩
theorem dR_0 {P Q : Int → Int → Int} {mb : Int} (h : dQ P Q (-1) mb) : dR P Q 1 mb := by
  intro x l h0 h1 h2 h3
  have hx := (h x l h0 h1 h2 h3).2 (by omega)
  refine ⟨fun q => ?_, fun _ => hx⟩
  obtain ⟨a, x', b1, b2, b3⟩ := hx
  refine ⟨fun y q1 q2 => ?_, x', by omega, b2, by omega⟩
  have := a y (by omega) q2
  omega
theorem dR_s {P R : Int → Int → Int} {s mb : Int} {r : Int → Int} (h : dR P R s mb) (hs : 1 ≤ s) (hs2 : s ≤ 12) (hr : ∀ j, 0 ≤ j → j ≤ mb → r j = min (R s j) (R (s - 1) j + 1)) : dR P (uR R s r) (s + 1) mb := by
  intro x l h0 h1 h2 h3
  have hx := h x l h0 h1 h2 h3
  by_cases e : x = s
  · refine ⟨fun _ => ?_, fun q => by omega⟩
    have hp := (h (s - 1) l (by omega) (by omega) h2 h3).1 (by omega)
    have hh := hx.2 (by omega)
    rw [e] at hh ⊢
    obtain ⟨a, x1, b1, b2, b3⟩ := hh
    obtain ⟨c, x2, d1, d2, d3⟩ := hp
    refine ⟨fun y q1 q2 => ?_, ?_⟩
    · rw [uR_s, hr l h2 h3]
      by_cases q : s ≤ y
      · have := a y q q2
        omega
      · have := c y q1 q2
        omega
    · rw [uR_s, hr l h2 h3]
      by_cases q : R s l ≤ R (s - 1) l + 1
      · exact ⟨x1, by omega, b2, by omega⟩
      · refine ⟨x2, d1, d2, ?_⟩
        by_cases q2 : s ≤ x2
        · have := a x2 q2 d2
          omega
        · omega
  · unfold fullA
    rw [uR_n _ _ _ e]
    exact ⟨fun q => hx.1 (by omega), fun q => hx.2 (by omega)⟩
theorem dR_end {P R : Int → Int → Int} {s mb : Int} (h : dR P R s mb) (hs : 12 < s) : dA P R mb := fun x l h0 h1 h2 h3 => (h x l h0 h1 h2 h3).1 (by omega)
/-- the next table, of the pairs of C -/
def dG (P N : Int → Int → Int) (g : Int → Int) (C : Int → Int → Prop) (last : Int) : Prop := ∀ x l, 0 ≤ x → x ≤ 12 → 0 ≤ l → l ≤ last →
  N x l ≤ 1000000 ∧ (N x l < 1000000 → ∃ l0, C x l0 ∧ l = max (l0 + g x) 0 ∧ N x l = P x l0 + x) ∧ (∀ l0, C x l0 → l = max (l0 + g x) 0 → N x l ≤ P x l0 + x)
theorem dG_congr {P N : Int → Int → Int} {g : Int → Int} {C C' : Int → Int → Prop} {last : Int} (h : dG P N g C last) (hc : ∀ x l0, 0 ≤ x → x ≤ 12 → (C x l0 ↔ C' x l0)) : dG P N g C' last := by
  intro x l h0 h1 h2 h3
  obtain ⟨a, b, c⟩ := h x l h0 h1 h2 h3
  refine ⟨a, fun q => ?_, fun l0 q1 q2 => c l0 ((hc x l0 h0 h1).mpr q1) q2⟩
  obtain ⟨l0, p1, p2, p3⟩ := b q
  exact ⟨l0, (hc x l0 h0 h1).mp p1, p2, p3⟩
theorem dG_add {P N : Int → Int → Int} {g : Int → Int} {C C' : Int → Int → Prop} {last x0 m lx v : Int} (h : dG P N g C last) (hl : lx = max (m + g x0) 0) (hv : v = min (N x0 lx) (P x0 m + x0))
    (hc : ∀ y k, 0 ≤ y → y ≤ 12 → (C' y k ↔ C y k ∨ (y = x0 ∧ k = m))) : dG P (uR N x0 (uI (N x0) lx v)) g C' last := by
  intro x l h0 h1 h2 h3
  obtain ⟨a, b, c⟩ := h x l h0 h1 h2 h3
  by_cases e : x = x0
  · by_cases e2 : l = lx
    · have val : uR N x0 (uI (N x0) lx v) x l = min (N x l) (P x m + x) := by rw [e, uR_s, e2, uI_s, hv]
      rw [val]
      refine ⟨by omega, fun q => ?_, fun l0 q1 q2 => ?_⟩
      · by_cases q3 : N x l ≤ P x m + x
        · obtain ⟨l0, p1, p2, p3⟩ := b (by omega)
          exact ⟨l0, (hc x l0 h0 h1).mpr (Or.inl p1), p2, by omega⟩
        · exact ⟨m, (hc x m h0 h1).mpr (Or.inr ⟨e, rfl⟩), by rw [e2, hl, e], by omega⟩
      · rcases (hc x l0 h0 h1).mp q1 with z | z
        · have := c l0 z q2
          omega
        · rw [z.2]
          omega
    · have val : uR N x0 (uI (N x0) lx v) x l = N x l := by rw [e, uR_s, uI_n _ _ _ e2]
      rw [val]
      refine ⟨a, fun q => ?_, fun l0 q1 q2 => ?_⟩
      · obtain ⟨l0, p1, p2, p3⟩ := b q
        exact ⟨l0, (hc x l0 h0 h1).mpr (Or.inl p1), p2, p3⟩
      · rcases (hc x l0 h0 h1).mp q1 with z | z
        · exact c l0 z q2
        · rw [z.2, e, ← hl] at q2
          exact absurd q2 e2
  · have val : uR N x0 (uI (N x0) lx v) x l = N x l := by rw [uR_n _ _ _ e]
    rw [val]
    refine ⟨a, fun q => ?_, fun l0 q1 q2 => ?_⟩
    · obtain ⟨l0, p1, p2, p3⟩ := b q
      exact ⟨l0, (hc x l0 h0 h1).mpr (Or.inl p1), p2, p3⟩
    · rcases (hc x l0 h0 h1).mp q1 with z | z
      · exact c l0 z q2
      · exact absurd z.1 e
theorem dG_none {P N : Int → Int → Int} {g : Int → Int} {C : Int → Int → Prop} {last : Int} (hN : ∀ x l, 0 ≤ x → x ≤ 12 → 0 ≤ l → l ≤ last → N x l = 1000000) (hC : ∀ x l0, ¬ C x l0) : dG P N g C last := by
  intro x l h0 h1 h2 h3
  rw [hN x l h0 h1 h2 h3]
  exact ⟨Int.le_refl _, fun q => by omega, fun l0 q => absurd q (hC x l0)⟩
/-- the pairs of a number of SERVERS and of REQUESTS left that may be -/
def CA (se : Int → Int) (lo mb mbn : Int) : Int → Int → Prop := fun x l0 => (se 7 ≤ x ∧ x ≤ se 8) ∧ (0 ≤ l0 ∧ l0 ≤ mb) ∧ l0 + (lo - x * se 2) ≤ mbn
def CB (A : Int → Int → Prop) (x l0 : Int) : Int → Int → Prop := fun y k => A y k ∧ (y < x ∨ (y = x ∧ k < l0))
def CD (A : Int → Int → Prop) (x : Int) : Int → Int → Prop := fun y k => A y k ∧ y < x
theorem cc_add {A : Int → Int → Prop} {x l0 : Int} (hA : A x l0) : ∀ y k, 0 ≤ y → y ≤ 12 → (CB A x (l0 + 1) y k ↔ CB A x l0 y k ∨ (y = x ∧ k = l0)) := by
  intro y k _ _
  constructor
  · rintro ⟨a, b⟩
    by_cases q : y = x ∧ k = l0
    · exact Or.inr q
    · exact Or.inl ⟨a, by omega⟩
  · rintro (⟨a, b⟩ | ⟨a, b⟩)
    · exact ⟨a, by omega⟩
    · rw [a, b]
      exact ⟨hA, by omega⟩
theorem cc_in {A : Int → Int → Prop} {x : Int} (h : ∀ y k, A y k → 0 ≤ k) : ∀ y k, 0 ≤ y → y ≤ 12 → (CD A x y k ↔ CB A x 0 y k) := by
  intro y k _ _
  constructor
  · rintro ⟨a, b⟩
    exact ⟨a, Or.inl b⟩
  · rintro ⟨a, b⟩
    have := h y k a
    exact ⟨a, by omega⟩
theorem cc_out {A : Int → Int → Prop} {x l0 : Int} (h : ∀ k, A x k → k < l0) : ∀ y k, 0 ≤ y → y ≤ 12 → (CB A x l0 y k ↔ CD A (x + 1) y k) := by
  intro y k _ _
  constructor
  · rintro ⟨a, b⟩
    exact ⟨a, by omega⟩
  · rintro ⟨a, b⟩
    refine ⟨a, ?_⟩
    by_cases q : y = x
    · rw [q] at a
      have := h k a
      omega
    · omega
theorem cc_end {A : Int → Int → Prop} {x : Int} (h : ∀ y k, A y k → y < x) : ∀ y k, 0 ≤ y → y ≤ 12 → (CD A x y k ↔ A y k) := fun y k _ _ => ⟨fun q => q.1, fun q => ⟨q, h y k q⟩⟩
/-- one TICK of the tables -/
theorem Mn_next {ld se : Int → Int} {t : Nat} {P R N : Int → Int → Int} {mb mbn : Int} (hl : BB 0 60 ld) (hse : SB se) (ht : t ≤ 24) (h : Mn P (SC ld se t) mb) (hP : ∀ x, BB 0 1000000 (P x)) (hmb : ∀ x l c, SC ld se t x l c → l ≤ mb) (hA : dA P R mb) (hmn : mbn = bdS ld se t)
    (hG : dG R N (fun x => ld t - x * se 2) (CA se (ld t) mb mbn) mbn) : Mn N (SC ld se (t + 1)) mbn := by
  intro x l h0 h1 h2 h3
  obtain ⟨a, b, c⟩ := hG x l h0 h1 h2 h3
  refine ⟨a, fun q => ?_, fun cc hcc => ?_⟩
  · obtain ⟨l0, ⟨p1, p2, p3⟩, p4, p5⟩ := b q
    obtain ⟨-, x', r1, r2, r3⟩ := hA x l0 h0 h1 p2.1 p2.2
    have hb := hP x' l0
    have m := (h x' l0 r1 r2 p2.1 p2.2).2.1 (by omega)
    exact ⟨x', l0, P x' l0, m, p1, p4, by omega, by omega⟩
  · obtain ⟨x', l', c', q1, q2, q3, q4, q5⟩ := hcc
    obtain ⟨b1, b2, b3⟩ := SC_b hl hse t x' l' c' q1
    have hlm := hmb x' l' c' q1
    have m := (h x' l' b1.1 b1.2 b2.1 hlm).2.2 c' q1
    have f := (hA x l' h0 h1 b2.1 hlm).1 x' b1.1 b1.2
    have g := c l' ⟨q2, ⟨b2.1, hlm⟩, by omega⟩ q3
    omega
/-- what hindsight answers -/
def isH (ld se : Int → Int) (n : Nat) (z : Int) : Prop := (z = -1 ∧ ∀ x l c, ¬ SC ld se n x l c) ∨ (∃ x l c, SC ld se n x l c ∧ z = c * se 16 ∧ ∀ x' l' c', SC ld se n x' l' c' → z ≤ c' * se 16)
theorem isH_unique {ld se : Int → Int} {n : Nat} {z z' : Int} (h : isH ld se n z) (h' : isH ld se n z') : z = z' := by
  rcases h with ⟨a, b⟩ | ⟨x, l, c, a1, a2, a3⟩
  · rcases h' with ⟨a', -⟩ | ⟨x, l, c, a1, -, -⟩
    · omega
    · exact absurd a1 (b x l c)
  · rcases h' with ⟨-, b⟩ | ⟨x', l', c', b1, b2, b3⟩
    · exact absurd a1 (b x l c)
    · have h1 := a3 x' l' c' b1
      have h2 := b3 x l c a1
      omega
theorem SC_congr {ld ld' se : Int → Int} (h3 : 1 ≤ se 3) (t : Nat) : (∀ j : Int, 0 ≤ j → j < (t : Int) → ld j = ld' j) → ∀ x l c, SC ld se t x l c → SC ld' se t x l c := by
  induction t with
  | zero => intro _ x l c q; exact q
  | succ t ih =>
    intro h x l c q
    obtain ⟨x', l', c', q1, q2, q3, q4, q5⟩ := q
    have e : bdS ld se t = bdS ld' se t := by
      unfold bdS
      rw [sI_congr (f := ld) (g := ld') (k := (t : Int) + 1) (fun j p1 p2 => h j p1 (by omega)), sI_congr (f := ld) (g := ld') (k := (t : Int) - se 3 + 2) (fun j p1 p2 => h j p1 (by omega))]
    exact ⟨x', l', c', ih (fun j p1 p2 => h j p1 (by omega)) x' l' c' q1, q2, by rw [← h t (by omega) (by omega)]; exact q3, by rw [← e]; exact q4, q5⟩
theorem isH_congr {ld ld' se : Int → Int} (h3 : 1 ≤ se 3) {t : Nat} {z : Int} (h : ∀ j : Int, 0 ≤ j → j < (t : Int) → ld j = ld' j) (q : isH ld se t z) : isH ld' se t z := by
  have h' : ∀ j : Int, 0 ≤ j → j < (t : Int) → ld' j = ld j := fun j a b => (h j a b).symm
  rcases q with ⟨a, b⟩ | ⟨x, l, c, a1, a2, a3⟩
  · exact Or.inl ⟨a, fun x l c q => b x l c (SC_congr h3 t h' x l c q)⟩
  · exact Or.inr ⟨x, l, c, SC_congr h3 t h x l c a1, a2, fun x' l' c' q => a3 x' l' c' (SC_congr h3 t h' x' l' c' q)⟩
theorem Mn_0 {G : Int → Int → Int} {ld se : Int → Int} (h : ∀ x j, 0 ≤ x → x ≤ 12 → 0 ≤ j → j ≤ 0 → G x j = 1000000) : Mn (uR G 0 (uI (G 0) 0 0)) (SC ld se 0) 0 := by
  intro x l h0 h1 h2 h3
  have e : l = 0 := by omega
  subst e
  by_cases q : x = 0
  · rw [q, uR_s, uI_s]
    exact ⟨by omega, fun _ => ⟨rfl, rfl, rfl⟩, fun c hc => by obtain ⟨-, -, hc⟩ := hc; omega⟩
  · rw [uR_n _ _ _ q, h x 0 h0 h1 h2 h3]
    exact ⟨by omega, fun a => by omega, fun c hc => absurd hc.1 q⟩
theorem isH_fin {ld se : Int → Int} {t : Nat} {P R : Int → Int → Int} {mb le z : Int} (hl : BB 0 60 ld) (hse : SB se) (ht : t ≤ 24) (h : Mn P (SC ld se t) mb) (hmb : ∀ x l c, SC ld se t x l c → l ≤ mb) (hA : dA P R mb)
    (h1 : le < 1000000 → ∃ l, 0 ≤ l ∧ l ≤ mb ∧ le = R 0 l) (h2 : ∀ l, 0 ≤ l → l ≤ mb → le ≤ R 0 l) (hz : z = if le < 1000000 then le * se 16 else -1) : isH ld se t z := by
  have hp := hse.2.2.2.2.2.2.2.2.2.2.2.2.2.2.2.2.1
  have low : ∀ x l c, SC ld se t x l c → le ≤ c := by
    intro x l c q
    obtain ⟨b1, b2, b3⟩ := SC_b hl hse t x l c q
    have hlm := hmb x l c q
    have a := h2 l b2.1 hlm
    have b := (hA 0 l (by omega) (by omega) b2.1 hlm).1 x b1.1 b1.2
    have d := (h x l b1.1 b1.2 b2.1 hlm).2.2 c q
    omega
  by_cases q : le < 1000000
  · rw [if_pos q] at hz
    obtain ⟨l, l1, l2, l3⟩ := h1 q
    obtain ⟨-, x', r1, r2, r3⟩ := hA 0 l (by omega) (by omega) l1 l2
    have m := (h x' l r1 r2 l1 l2).2.1 (by omega)
    have e : P x' l = le := by omega
    rw [e] at m
    exact Or.inr ⟨x', l, le, m, hz, fun x1 l1 c1 q1 => by rw [hz]; exact Int.mul_le_mul_of_nonneg_right (low x1 l1 c1 q1) hp.1⟩
  · rw [if_neg q] at hz
    exact Or.inl ⟨hz, fun x l c q1 => by
      have := low x l c q1
      have := (SC_b hl hse t x l c q1).2.2
      omega⟩

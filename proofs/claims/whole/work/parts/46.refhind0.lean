/-! THE REFERENCE'S HINDSIGHT: one table, of bills, by 13 * left + last -/
def LF (ld se : Int → Int) (t j x : Int) : Int := max 0 (j / 13 + ld t - x * se 2)
def VL (se pr : Int → Int) (j x : Int) : Int := pr j + se 16 * (x + max 0 (x - j % 13))
def OKx (ld se pr : Int → Int) (t j x i : Int) : Prop := (0 ≤ j ∧ j < 8645) ∧ (se 7 ≤ x ∧ x ≤ se 8) ∧ pr j < 1000000000 ∧ LF ld se t j x ≤ bdS ld se t ∧ i = 13 * LF ld se t j x + x
def GM (ld se pr : Int → Int) (t : Int) (A : Int → Int → Prop) (nx : Int → Int) : Prop := ∀ i, 0 ≤ i → i < 8645 →
  (nx i < 1000000000 → ∃ j x, A j x ∧ OKx ld se pr t j x i ∧ nx i = VL se pr j x) ∧ (∀ j x, A j x → OKx ld se pr t j x i → nx i ≤ VL se pr j x)
def PG (k x0 : Int) : Int → Int → Prop := fun j x => j < k ∨ (j = k ∧ x < x0)
def PB (k : Int) : Int → Int → Prop := fun j _ => j < k
def PM (ld se : Int → Int) (t : Nat) (pr : Int → Int) : Prop := ∀ j, 0 ≤ j → j < 8645 →
  (pr j < 1000000000 → ∃ c, SC ld se t (j % 13) (j / 13) c ∧ pr j = c * se 16) ∧ (∀ c, SC ld se t (j % 13) (j / 13) c → pr j ≤ c * se 16)
theorem LF_b {ld se : Int → Int} {t j x : Int} (hl : BB 0 60 ld) (hse : SB se) (hx : 0 ≤ x ∧ x ≤ 12) (hj : 0 ≤ j ∧ j < 8645) : (0 ≤ LF ld se t j x ∧ LF ld se t j x ≤ 724) ∧ (0 ≤ x * se 2 ∧ x * se 2 ≤ 240) := by
  have h2 := hse.2.2.1
  have a : x * se 2 ≤ 12 * 20 := Int.mul_le_mul hx.2 h2.2 (by omega) (by omega)
  have b : 0 ≤ x * se 2 := Int.mul_nonneg hx.1 (by omega)
  have c := hl t
  unfold LF
  omega
theorem VL_b {se pr : Int → Int} {j x : Int} (hse : SB se) (hx : 0 ≤ x ∧ x ≤ 12) (hp : 0 ≤ pr j ∧ pr j ≤ 1000000000) : (0 ≤ VL se pr j x ∧ VL se pr j x ≤ 1000002400) := by
  have h := hse.2.2.2.2.2.2.2.2.2.2.2.2.2.2.2.2.1
  have a : se 16 * (x + max 0 (x - j % 13)) ≤ 100 * 24 := Int.mul_le_mul h.2 (by omega) (by omega) (by omega)
  have b : 0 ≤ se 16 * (x + max 0 (x - j % 13)) := Int.mul_nonneg h.1 (by omega)
  unfold VL
  omega
theorem GM_mono {ld se pr nx : Int → Int} {t : Int} {A A' : Int → Int → Prop} (h : GM ld se pr t A nx) (hc : ∀ j x i, OKx ld se pr t j x i → (A j x ↔ A' j x)) : GM ld se pr t A' nx := by
  intro i h0 h1
  obtain ⟨a, b⟩ := h i h0 h1
  refine ⟨fun q => ?_, fun j x q o => b j x ((hc j x i o).mpr q) o⟩
  obtain ⟨j, x, p, o, v⟩ := a q
  exact ⟨j, x, (hc j x i o).mp p, o, v⟩
theorem GM_0 {ld se pr nx : Int → Int} {t k : Int} (h : ∀ j, 0 ≤ j → j < k → nx j = 1000000000) (hk : 8645 ≤ k) : GM ld se pr t (PB 0) nx := by
  intro i h0 h1
  have e := h i h0 (by omega)
  refine ⟨fun q => by omega, fun j x q o => ?_⟩
  have o1 := o.1
  unfold PB at q
  omega
theorem GM_in {ld se pr nx : Int → Int} {t k : Int} (h : GM ld se pr t (PB k) nx) : GM ld se pr t (PG k (se 7)) nx :=
  GM_mono h (fun j x i o => by have a := o.2.1; unfold PB PG; omega)
theorem GM_out {ld se pr nx : Int → Int} {t k x0 : Int} (h : GM ld se pr t (PG k x0) nx) (hx : se 8 < x0 ∨ 1000000000 ≤ pr k) : GM ld se pr t (PB (k + 1)) nx :=
  GM_mono h (fun j x i o => by
    have a := o.2.1
    have b := o.2.2.1
    unfold PB PG
    by_cases q : j = k
    · rw [q] at b ⊢
      omega
    · omega)
theorem GM_skip {ld se pr nx : Int → Int} {t k x0 : Int} (h : GM ld se pr t (PG k x0) nx) (hx : bdS ld se t < LF ld se t k x0) : GM ld se pr t (PG k (x0 + 1)) nx :=
  GM_mono h (fun j x i o => by
    have a := o.2.2.2.1
    unfold PG
    by_cases q : j = k ∧ x = x0
    · rw [q.1, q.2] at a
      omega
    · omega)
theorem PG_s {k x0 j x : Int} (h : PG k (x0 + 1) j x) : PG k x0 j x ∨ (j = k ∧ x = x0) := by
  unfold PG at *
  omega
theorem PG_w {k x0 j x : Int} (h : PG k x0 j x) : PG k (x0 + 1) j x := by
  unfold PG at *
  omega
theorem GM_no {ld se pr nx : Int → Int} {t k x0 : Int} (h : GM ld se pr t (PG k x0) nx) (hv : nx (13 * LF ld se t k x0 + x0) ≤ VL se pr k x0) : GM ld se pr t (PG k (x0 + 1)) nx := by
  intro i h0 h1
  obtain ⟨a, b⟩ := h i h0 h1
  refine ⟨fun q => ?_, fun j x q o => ?_⟩
  · obtain ⟨j, x, p, o, v⟩ := a q
    exact ⟨j, x, PG_w p, o, v⟩
  · rcases PG_s q with z | ⟨z1, z2⟩
    · exact b j x z o
    · have e := o.2.2.2.2
      rw [z1, z2] at e ⊢
      rw [e]
      exact hv
theorem GM_upd {ld se pr nx : Int → Int} {t k x0 v i0 : Int} (h : GM ld se pr t (PG k x0) nx) (hk : 0 ≤ k ∧ k < 8645) (hx : se 7 ≤ x0 ∧ x0 ≤ se 8) (hp : pr k < 1000000000) (hb : LF ld se t k x0 ≤ bdS ld se t) (hi : i0 = 13 * LF ld se t k x0 + x0) (he : v = VL se pr k x0)
    (hv : v < nx i0) : GM ld se pr t (PG k (x0 + 1)) (uI nx i0 v) := by
  intro i h0 h1
  obtain ⟨a, b⟩ := h i h0 h1
  by_cases e : i = i0
  · rw [e, uI_s]
    refine ⟨fun _ => ⟨k, x0, Or.inr ⟨rfl, by omega⟩, ⟨hk, hx, hp, hb, hi⟩, he⟩, fun j x q o => ?_⟩
    rcases PG_s q with z | ⟨z1, z2⟩
    · have := b j x z (by rw [e]; exact o)
      rw [e] at this
      omega
    · rw [z1, z2, he]
      exact Int.le_refl _
  · rw [uI_n _ _ _ e]
    refine ⟨fun q => ?_, fun j x q o => ?_⟩
    · obtain ⟨j, x, p, o, v⟩ := a q
      exact ⟨j, x, PG_w p, o, v⟩
    · rcases PG_s q with z | ⟨z1, z2⟩
      · exact b j x z o
      · have e2 := o.2.2.2.2
        rw [z1, z2, ← hi] at e2
        exact absurd e2 e
theorem PM_0 {ld se pr : Int → Int} {k : Int} (h : ∀ j, 0 ≤ j → j < k → pr j = if j = 0 then 0 else 1000000000) (hk : 8645 ≤ k) : PM ld se 0 pr := by
  intro j h0 h1
  rw [h j h0 (by omega)]
  by_cases e : j = 0
  · rw [if_pos e, e]
    refine ⟨fun _ => ⟨0, ⟨rfl, rfl, rfl⟩, by omega⟩, fun c hc => ?_⟩
    rw [hc.2.2]
    omega
  · rw [if_neg e]
    refine ⟨fun q => by omega, fun c hc => ?_⟩
    have a := hc.1
    have b := hc.2.1
    omega
theorem SC_cu {ld se : Int → Int} (hl : BB 0 60 ld) (hse : SB se) {t : Nat} (ht : t ≤ 24) {x l c : Int} (s : SC ld se t x l c) : c * se 16 ≤ 57600 := by
  have h := hse.2.2.2.2.2.2.2.2.2.2.2.2.2.2.2.2.1
  have b := (SC_b hl hse t x l c s).2.2
  have := Int.mul_le_mul (show c ≤ 576 by omega) h.2 h.1 (show (0 : Int) ≤ 576 by omega)
  omega
theorem PM_step {ld se P N P2 : Int → Int} {t k k2 : Int} (hl : BB 0 60 ld) (hse : SB se) (ht : 0 ≤ t ∧ t ≤ 24) (hM : PM ld se t.toNat P) (hG : GM ld se P t (PB k) N) (hk : 8645 ≤ k) (hc : ∀ j, 0 ≤ j → j < k2 → P2 j = N j) (hk2 : 8645 ≤ k2) :
    PM ld se (t + 1).toNat P2 := by
  have et : ((t.toNat : Nat) : Int) = t := Int.toNat_of_nonneg ht.1
  have h7 := hse.2.2.2.2.2.2.2.1
  have h8 := hse.2.2.2.2.2.2.2.2.1
  rw [show (t + 1).toNat = t.toNat + 1 by omega]
  intro j h0 h1
  rw [hc j h0 (by omega)]
  obtain ⟨a, b⟩ := hG j h0 h1
  constructor
  · intro q
    obtain ⟨j', x, -, ⟨⟨o1, o1'⟩, o2, o3, o4, o5⟩, hv⟩ := a q
    obtain ⟨c', s, pe⟩ := (hM j' o1 o1').1 o3
    have lb := (LF_b (t := t) hl hse (x := x) (j := j') (by omega) ⟨o1, o1'⟩).1
    have ex : j % 13 = x := by omega
    have el : j / 13 = LF ld se t j' x := by omega
    refine ⟨c' + max 0 (x - j' % 13) + x, ?_, ?_⟩
    · rw [ex, el]
      refine ⟨j' % 13, j' / 13, c', s, o2, ?_, by rw [et]; exact o4, rfl⟩
      rw [et]
      unfold LF
      omega
    · rw [hv]
      unfold VL
      rw [pe, show c' + max 0 (x - j' % 13) + x = c' + (x + max 0 (x - j' % 13)) by omega, Int.add_mul, Int.mul_comm (x + max 0 (x - j' % 13)) (se 16)]
  · intro c s
    obtain ⟨x', l', c', s1, s2, s3, s4, s5⟩ := s
    rw [et] at s3 s4
    obtain ⟨b1, b2, b3⟩ := SC_b hl hse _ x' l' c' s1
    have cu := SC_cu hl hse (by omega) s1
    have ex : (13 * l' + x') % 13 = x' := by omega
    have el : (13 * l' + x') / 13 = l' := by omega
    have m := (hM (13 * l' + x') (by omega) (by omega)).2 c' (by rw [ex, el]; exact s1)
    have elf : LF ld se t (13 * l' + x') (j % 13) = j / 13 := by
      unfold LF
      rw [el]
      omega
    have v := b (13 * l' + x') (j % 13) (by unfold PB; omega) ⟨⟨by omega, by omega⟩, s2, by omega, by rw [elf]; exact s4, by rw [elf]; omega⟩
    unfold VL at v
    rw [ex] at v
    rw [s5, show c' + max 0 (j % 13 - x') + j % 13 = c' + (j % 13 + max 0 (j % 13 - x')) by omega, Int.add_mul, Int.mul_comm (j % 13 + max 0 (j % 13 - x')) (se 16)]
    omega
theorem PM_fin {ld se P : Int → Int} {t cn k le z : Int} (hl : BB 0 60 ld) (hse : SB se) (ht : 0 ≤ t ∧ t ≤ 24) (e : t = cn) (hM : PM ld se t.toNat P) (hk : 8645 ≤ k) (hle : le ≤ 1000000000) (h1 : le < 1000000000 → ∃ j, 0 ≤ j ∧ j < 8645 ∧ le = P j) (h2 : ∀ j, 0 ≤ j → j < k → le ≤ P j)
    (hz : z = if le = 1000000000 then -1 else le) : isH ld se cn.toNat z := by
  subst e
  have key : ∀ x l c, SC ld se t.toNat x l c → le ≤ c * se 16 := by
    intro x l c s
    obtain ⟨b1, b2, b3⟩ := SC_b hl hse _ x l c s
    have ex : (13 * l + x) % 13 = x := by omega
    have el : (13 * l + x) / 13 = l := by omega
    have m := (hM (13 * l + x) (by omega) (by omega)).2 c (by rw [ex, el]; exact s)
    have := h2 (13 * l + x) (by omega) (by omega)
    omega
  by_cases q : le = 1000000000
  · rw [if_pos q] at hz
    refine Or.inl ⟨hz, fun x l c s => ?_⟩
    have a := key x l c s
    have b := SC_cu hl hse (by omega) s
    omega
  · rw [if_neg q] at hz
    obtain ⟨j, j0, j1, je⟩ := h1 (by omega)
    obtain ⟨c, s, pe⟩ := (hM j j0 j1).1 (by omega)
    exact Or.inr ⟨j % 13, j / 13, c, s, by omega, fun x' l' c' s' => by rw [hz]; exact key x' l' c' s'⟩

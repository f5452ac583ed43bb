/-! the queue as a list of groups: (since, tries, many) -/
abbrev G3 : Type := Int × Int × Int
def mny : List G3 → Int
  | [] => 0
  | x :: r => x.2.2 + mny r
theorem mny_app (a b : List G3) : mny (a ++ b) = mny a + mny b := by
  induction a with
  | nil => simp [mny]
  | cons x r ih => show x.2.2 + mny (r ++ b) = x.2.2 + mny r + mny b; rw [ih]; omega
def pos60 (L : List G3) : Prop := ∀ x ∈ L, 1 ≤ x.2.2 ∧ x.2.2 ≤ 60
theorem mny_b {L : List G3} (h : pos60 L) : 0 ≤ mny L ∧ mny L ≤ 60 * (L.length : Int) := by
  induction L with
  | nil => simp [mny]
  | cons x r ih =>
    have h1 := ih (fun y hy => h y (List.mem_cons_of_mem _ hy))
    have h2 := h x List.mem_cons_self
    have e : ((x :: r).length : Int) = (r.length : Int) + 1 := by simp
    show 0 ≤ x.2.2 + mny r ∧ x.2.2 + mny r ≤ _
    omega
/-- done by c: the groups left (none empty), and what is left of c -/
def srv : Int → List G3 → List G3 × Int
  | c, [] => ([], c)
  | c, (s, t, m) :: r => if c ≤ 0 then ((s, t, m) :: r, c) else if m ≤ c then srv (c - m) r else ((s, t, m - c) :: r, 0)
/-- those whose patience ends in the TICK ti: who stay, who try again, how many are lost -/
def lv (ti pa tr : Int) : List G3 → List G3 × List G3 × Int
  | [] => ([], [], 0)
  | (s, t, m) :: r => if pa ≤ ti - s + 1 then (if t < tr then ((lv ti pa tr r).1, (ti + 1, t + 1, m) :: (lv ti pa tr r).2.1, (lv ti pa tr r).2.2) else ((lv ti pa tr r).1, (lv ti pa tr r).2.1, m + (lv ti pa tr r).2.2)) else ((s, t, m) :: r, [], 0)
/-- the ring from hd on -/
def rl (rg : Int → Int) : Nat → Int → List Int
  | 0, _ => []
  | n + 1, hd => rg hd :: rl rg n ((hd + 1) % 200)
theorem rl_len (rg : Int → Int) (n : Nat) : ∀ hd, (rl rg n hd).length = n := by
  induction n with
  | zero => intro hd; rfl
  | succ n ih => intro hd; simp [rl, ih]
theorem rl_push (rg : Int → Int) (g : Int) (n : Nat) : ∀ (hd : Int), 0 ≤ hd → hd ≤ 199 → n < 200 → rl (uI rg ((hd + n) % 200) g) (n + 1) hd = rl rg n hd ++ [g] := by
  have keep : ∀ (k : Nat) (a hd : Int), 0 ≤ hd → hd ≤ 199 → 0 ≤ a → a ≤ 199 → (∀ j : Nat, j < k → (hd + j) % 200 ≠ a) → rl (uI rg a g) k hd = rl rg k hd := by
    intro k
    induction k with
    | zero => intro a hd _ _ _ _ _; rfl
    | succ k ih =>
      intro a hd h0 h1 h2 h3 h
      have e0 := h 0 (by omega)
      show uI rg a g hd :: _ = rg hd :: _
      rw [uI_n _ _ _ (by omega), ih a ((hd + 1) % 200) (by omega) (by omega) h2 h3 (fun j hj => by have := h (j + 1) (by omega); omega)]
  induction n with
  | zero =>
    intro hd h0 h1 _
    show [uI rg ((hd + (0 : Nat)) % 200) g hd] = [g]
    rw [show (hd + (0 : Nat)) % 200 = hd by omega, uI_s]
  | succ n ih =>
    intro hd h0 h1 h2
    show uI rg ((hd + ((n + 1 : Nat) : Int)) % 200) g hd :: rl (uI rg ((hd + ((n + 1 : Nat) : Int)) % 200) g) (n + 1) ((hd + 1) % 200) = rg hd :: (rl rg n ((hd + 1) % 200) ++ [g])
    rw [uI_n _ _ _ (by omega), ← ih ((hd + 1) % 200) (by omega) (by omega) (by omega)]
    rw [show ((hd + 1) % 200 + (n : Int)) % 200 = (hd + ((n + 1 : Nat) : Int)) % 200 by omega]
def gOf (le tr si : Int → Int) (g : Int) : G3 := (si g, tr g, le g)
/-- the ring's cells hold the groups L; ids below ti -/
def QC (le tr si rg : Int → Int) (hd gr ti : Int) (L : List G3) : Prop :=
  (0 ≤ hd ∧ hd ≤ 199 ∧ 0 ≤ gr ∧ gr ≤ ti ∧ ti ≤ 200) ∧ (rl rg gr.toNat hd).map (gOf le tr si) = L ∧ (rl rg gr.toNat hd).Nodup ∧ (∀ g ∈ rl rg gr.toNat hd, 0 ≤ g ∧ g < ti) ∧ pos60 L
theorem QC.len {le tr si rg : Int → Int} {hd gr ti : Int} {L : List G3} (h : QC le tr si rg hd gr ti L) : (L.length : Int) = gr := by
  obtain ⟨⟨h1, h2, h3, h4, h5⟩, h6, -⟩ := h
  rw [← h6, List.length_map, rl_len]
  omega
theorem QC.mny {le tr si rg : Int → Int} {hd gr ti : Int} {L : List G3} (h : QC le tr si rg hd gr ti L) : 0 ≤ mny L ∧ mny L ≤ 12000 := by
  have h1 := mny_b h.2.2.2.2
  have h2 := h.len
  obtain ⟨⟨h3, h4, h5, h6, h7⟩, -⟩ := h
  omega
theorem QC.later {le tr si rg : Int → Int} {hd gr ti ti' : Int} {L : List G3} (h : QC le tr si rg hd gr ti L) (h1 : ti ≤ ti') (h2 : ti' ≤ 200) : QC le tr si rg hd gr ti' L := by
  obtain ⟨⟨a1, a2, a3, a4, a5⟩, b, c, d, e⟩ := h
  exact ⟨⟨a1, a2, a3, by omega, h2⟩, b, c, fun g hg => by have := d g hg; omega, e⟩
theorem QC.nil {le tr si rg : Int → Int} {ti : Int} (h0 : 0 ≤ ti) (h : ti ≤ 200) : QC le tr si rg 0 0 ti [] := ⟨⟨by omega, by omega, by omega, h0, h⟩, rfl, List.nodup_nil, (fun g hg => absurd (show g ∈ ([] : List Int) from hg) List.not_mem_nil), (fun x hx => absurd hx List.not_mem_nil)⟩
/-- the first of the ring -/
theorem QC.pop {le tr si rg : Int → Int} {hd gr ti : Int} {L : List G3} (h : QC le tr si rg hd gr ti L) (hg : 0 < gr) :
    ∃ L' : List G3, L = gOf le tr si (rg hd) :: L' ∧ QC le tr si rg ((hd + 1) % 200) (gr - 1) ti L' ∧ (0 ≤ rg hd ∧ rg hd < ti) ∧ rg hd ∉ rl rg (gr - 1).toNat ((hd + 1) % 200) ∧ (1 ≤ le (rg hd) ∧ le (rg hd) ≤ 60) := by
  obtain ⟨⟨a1, a2, a3, a4, a5⟩, b, c, d, e⟩ := h
  obtain ⟨n, hn⟩ : ∃ n : Nat, gr.toNat = n + 1 := ⟨gr.toNat - 1, by omega⟩
  have hn2 : (gr - 1).toNat = n := by omega
  rw [hn] at b c d
  have c1 := List.nodup_cons.mp (show (rg hd :: rl rg n ((hd + 1) % 200)).Nodup from c)
  refine ⟨(rl rg n ((hd + 1) % 200)).map (gOf le tr si), b.symm, ⟨⟨by omega, by omega, by omega, by omega, a5⟩, by rw [hn2], by rw [hn2]; exact c1.2, by rw [hn2]; exact fun g hg => d g (List.mem_cons_of_mem _ hg), ?_⟩, d _ List.mem_cons_self, by rw [hn2]; exact c1.1, ?_⟩
  · intro x hx
    exact e x (by rw [← b]; exact List.mem_cons_of_mem _ hx)
  · exact e (gOf le tr si (rg hd)) (by rw [← b]; exact List.mem_cons_self)
theorem map_gOf {le tr si le' tr' si' : Int → Int} {ids : List Int} (h : ∀ g ∈ ids, le' g = le g ∧ tr' g = tr g ∧ si' g = si g) : ids.map (gOf le' tr' si') = ids.map (gOf le tr si) := by
  apply List.map_congr_left
  intro g hg
  obtain ⟨h1, h2, h3⟩ := h g hg
  unfold gOf
  rw [h1, h2, h3]
/-- groups that aren't in the ring may change -/
theorem QC.upd {le tr si rg le' tr' si' : Int → Int} {hd gr ti : Int} {L : List G3} (h : QC le tr si rg hd gr ti L) (hu : ∀ g ∈ rl rg gr.toNat hd, le' g = le g ∧ tr' g = tr g ∧ si' g = si g) : QC le' tr' si' rg hd gr ti L := by
  obtain ⟨a, b, c, d, e⟩ := h
  exact ⟨a, by rw [map_gOf hu]; exact b, c, d, e⟩
theorem QC.push {le tr si rg : Int → Int} {hd gr ti g : Int} {L : List G3} (h : QC le tr si rg hd gr ti L) (hgr : gr < ti) (hg : 0 ≤ g ∧ g < ti) (hn : g ∉ rl rg gr.toNat hd) (hl : 1 ≤ le g ∧ le g ≤ 60) :
    QC le tr si (uI rg ((hd + gr) % 200) g) hd (gr + 1) ti (L ++ [gOf le tr si g]) := by
  obtain ⟨⟨a1, a2, a3, a4, a5⟩, b, c, d, e⟩ := h
  have hp := rl_push rg g gr.toNat hd a1 a2 (by omega)
  rw [Int.toNat_of_nonneg a3] at hp
  have hn2 : (gr + 1).toNat = gr.toNat + 1 := by omega
  refine ⟨⟨a1, a2, by omega, by omega, a5⟩, ?_, ?_, ?_, ?_⟩
  · rw [hn2, hp, List.map_append, b]
    rfl
  · rw [hn2, hp]
    refine List.nodup_append.mpr ⟨c, by simp, fun x hx y hy => ?_⟩
    rw [List.mem_singleton.mp hy]
    intro q
    exact hn (q ▸ hx)
  · rw [hn2, hp]
    intro x hx
    rcases List.mem_append.mp hx with q | q
    · exact d x q
    · rw [List.mem_singleton.mp q]
      exact hg
  · intro x hx
    rcases List.mem_append.mp hx with q | q
    · exact e x q
    · rw [List.mem_singleton.mp q]
      exact hl
theorem srv_0 {c : Int} (h : c ≤ 0) (L : List G3) : srv c L = (L, c) := by
  cases L with
  | nil => rfl
  | cons x r => obtain ⟨s, t, m⟩ := x; simp [srv, h]
theorem srv_cons (c : Int) (x : G3) (r : List G3) : srv c (x :: r) = if c ≤ 0 then (x :: r, c) else if x.2.2 ≤ c then srv (c - x.2.2) r else ((x.1, x.2.1, x.2.2 - c) :: r, 0) := by
  obtain ⟨s, t, m⟩ := x
  rfl
/-- one turn of serve: the first group is done -/
theorem QC.sv1 {le tr si rg : Int → Int} {hd gr ti c : Int} {L : List G3} (h : QC le tr si rg hd gr ti L) (hg : 0 < gr) (hc : 0 < c) (hm : le (rg hd) ≤ c) :
    ∃ L' : List G3, QC (uI le (rg hd) 0) tr si rg ((hd + 1) % 200) (gr - 1) ti L' ∧ srv c L = srv (c - le (rg hd)) L' := by
  obtain ⟨L', e, q, -, hn, -⟩ := h.pop hg
  refine ⟨L', q.upd (fun g hg => ⟨uI_n _ _ _ (fun z => hn (z ▸ hg)), rfl, rfl⟩), ?_⟩
  rw [e, srv_cons, if_neg (show ¬ c ≤ 0 by omega), if_pos (show (gOf le tr si (rg hd)).2.2 ≤ c from hm)]
  rfl
/-- one turn of serve: what is left of c ends in the first group -/
theorem QC.sv2 {le tr si rg : Int → Int} {hd gr ti c : Int} {L : List G3} (h : QC le tr si rg hd gr ti L) (hg : 0 < gr) (hc : 0 < c) (hm : c < le (rg hd)) :
    ∃ L' : List G3, QC (uI le (rg hd) (le (rg hd) - c)) tr si rg hd gr ti L' ∧ srv c L = (L', 0) := by
  obtain ⟨L', e, q, hb, hn, hl⟩ := h.pop hg
  obtain ⟨⟨a1, a2, a3, a4, a5⟩, b, c0, d, e0⟩ := h
  obtain ⟨n, hn0⟩ : ∃ n : Nat, gr.toNat = n + 1 := ⟨gr.toNat - 1, by omega⟩
  have hn2 : (gr - 1).toNat = n := by omega
  have q2 := q.upd (le' := uI le (rg hd) (le (rg hd) - c)) (tr' := tr) (si' := si) (fun g hg => ⟨uI_n _ _ _ (fun z => hn (z ▸ hg)), rfl, rfl⟩)
  refine ⟨(si (rg hd), tr (rg hd), le (rg hd) - c) :: L', ⟨⟨a1, a2, a3, a4, a5⟩, ?_, c0, d, ?_⟩, ?_⟩
  · rw [hn0]
    show gOf (uI le (rg hd) (le (rg hd) - c)) tr si (rg hd) :: (rl rg n ((hd + 1) % 200)).map _ = _
    rw [← hn2, q2.2.1]
    simp only [gOf, uI_s]
  · intro x hx
    rcases List.mem_cons.mp hx with z | z
    · rw [z]; show 1 ≤ le (rg hd) - c ∧ le (rg hd) - c ≤ 60; omega
    · exact q.2.2.2.2 x z
  · rw [e, srv_cons, if_neg (show ¬ c ≤ 0 by omega), if_neg (show ¬ (gOf le tr si (rg hd)).2.2 ≤ c from (by show ¬ le (rg hd) ≤ c; omega))]
    rfl
theorem QC.pop2 {le tr si rg : Int → Int} {hd gr ti : Int} {x : G3} {P V : List G3} (h : QC le tr si rg hd gr ti ((x :: P) ++ V)) :
    0 < gr ∧ x = gOf le tr si (rg hd) ∧ QC le tr si rg ((hd + 1) % 200) (gr - 1) ti (P ++ V) ∧ (0 ≤ rg hd ∧ rg hd < ti) ∧ rg hd ∉ rl rg (gr - 1).toNat ((hd + 1) % 200) ∧ (1 ≤ le (rg hd) ∧ le (rg hd) ≤ 60) := by
  have hl := h.len
  have hg : 0 < gr := by
    rw [List.length_append, List.length_cons] at hl
    omega
  obtain ⟨L', e, q, a, b, c⟩ := h.pop hg
  rw [List.cons_append, List.cons.injEq] at e
  exact ⟨hg, e.1, by rw [e.2]; exact q, a, b, c⟩
theorem lv_go1 {ti pa tr : Int} {x : G3} {r : List G3} (h : pa ≤ ti - x.1 + 1) (h2 : x.2.1 < tr) : lv ti pa tr (x :: r) = ((lv ti pa tr r).1, (ti + 1, x.2.1 + 1, x.2.2) :: (lv ti pa tr r).2.1, (lv ti pa tr r).2.2) := by
  obtain ⟨s, t, m⟩ := x
  simp only [lv]
  rw [if_pos h, if_pos h2]
theorem lv_go2 {ti pa tr : Int} {x : G3} {r : List G3} (h : pa ≤ ti - x.1 + 1) (h2 : ¬ x.2.1 < tr) : lv ti pa tr (x :: r) = ((lv ti pa tr r).1, (lv ti pa tr r).2.1, x.2.2 + (lv ti pa tr r).2.2) := by
  obtain ⟨s, t, m⟩ := x
  simp only [lv]
  rw [if_pos h, if_neg h2]
theorem lv_stay {ti pa tr : Int} {x : G3} {r : List G3} (h : ¬ pa ≤ ti - x.1 + 1) : lv ti pa tr (x :: r) = (x :: r, [], 0) := by
  obtain ⟨s, t, m⟩ := x
  simp only [lv]
  rw [if_neg h]
/-- a group of the TICK tk comes in behind -/
theorem QC.come {le tr si rg : Int → Int} {hd gr tk lo : Int} {L : List G3} (h : QC le tr si rg hd gr tk L) (h0 : 0 ≤ tk) (hk : tk ≤ 199) (hl : 1 ≤ lo ∧ lo ≤ 60) :
    QC (uI le tk lo) (uI tr tk 1) (uI si tk tk) (uI rg ((hd + gr) % 200) tk) hd (gr + 1) (tk + 1) (L ++ [(tk, 1, lo)]) := by
  have hn : ∀ g ∈ rl rg gr.toNat hd, g ≠ tk := fun g hg => by have := h.2.2.2.1 g hg; omega
  have q := (h.upd (le' := uI le tk lo) (tr' := uI tr tk 1) (si' := uI si tk tk) (fun g hg => ⟨uI_n _ _ _ (hn g hg), uI_n _ _ _ (hn g hg), uI_n _ _ _ (hn g hg)⟩)).later (ti' := tk + 1) (by omega) (by omega)
  have hg := h.1
  have := q.push (g := tk) (by omega) (by omega) (fun z => hn tk z rfl) (by rw [uI_s]; exact hl)
  rw [show gOf (uI le tk lo) (uI tr tk 1) (uI si tk tk) tk = (tk, 1, lo) by unfold gOf; rw [uI_s, uI_s, uI_s]] at this
  exact this
/-- a group goes to try again -/
theorem QC.move {le tr si rg : Int → Int} {hd gr tk : Int} {x : G3} {P V : List G3} (h : QC le tr si rg hd gr (tk + 1) ((x :: P) ++ V)) :
    QC le (uI tr (rg hd) (tr (rg hd) + 1)) (uI si (rg hd) (tk + 1)) (uI rg (((hd + 1) % 200 + (gr - 1)) % 200) (rg hd)) ((hd + 1) % 200) (gr - 1 + 1) (tk + 1) (P ++ (V ++ [(tk + 1, x.2.1 + 1, x.2.2)])) := by
  obtain ⟨hg, ex, q, hb, hn, hl⟩ := h.pop2
  have q2 := q.upd (le' := le) (tr' := uI tr (rg hd) (tr (rg hd) + 1)) (si' := uI si (rg hd) (tk + 1)) (fun g hg => ⟨rfl, uI_n _ _ _ (fun z => hn (z ▸ hg)), uI_n _ _ _ (fun z => hn (z ▸ hg))⟩)
  have a := h.1
  have := q2.push (g := rg hd) (by omega) hb hn hl
  rw [show gOf le (uI tr (rg hd) (tr (rg hd) + 1)) (uI si (rg hd) (tk + 1)) (rg hd) = (tk + 1, x.2.1 + 1, x.2.2) by rw [ex]; unfold gOf; rw [uI_s, uI_s], List.append_assoc] at this
  exact this

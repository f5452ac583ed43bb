theorem fl_any {P : Int → Bool} {v : Int} {f : Int → Int} {k n : Int} (h : 0 ≤ k) (h2 : k < n) : uI (fl P v f 0 k) k (fl P v f 0 n k) = fl P v f 0 (k + 1) := by
  by_cases q : P k = true
  · rw [fl_yes h h2 q]
    exact fl_hi1 h q
  · have q2 : P k = false := by simpa using q
    rw [fl_no q2, ← fl_hi0 (a := 0) q2]
    funext j
    unfold uI
    by_cases e : j = k
    · rw [if_pos e, e, fl_out (by omega)]
    · rw [if_neg e]
theorem hq_c (kt kr km : Int → Int) {n k : Int} (h : k < n) : hq kt kr km (n - k).toNat k = (kt k, kr k, km k) :: hq kt kr km (n - (k + 1)).toNat (k + 1) := by
  rw [show (n - k).toNat = (n - (k + 1)).toNat + 1 by omega]
  rfl
theorem srw_next {kt kr km km1 : Int → Int} {lf k n : Int} (hk : 0 ≤ k) (hn : k < n) (h1 : km1 k = km k) :
    (hL kt kr km1 k ++ (srw lf (hq kt kr km (n - k).toNat k)).1, (srw lf (hq kt kr km (n - k).toNat k)).2) =
    (hL kt kr (uI km1 k (km1 k - min lf (km1 k))) (k + 1) ++ (srw (lf - min lf (km1 k)) (hq kt kr km (n - (k + 1)).toNat (k + 1))).1, (srw (lf - min lf (km1 k)) (hq kt kr km (n - (k + 1)).toNat (k + 1))).2) := by
  rw [hq_c kt kr km hn, hL_s _ _ _ hk, uI_s, h1]
  rw [hL_congr (kt := kt) (kr := kr) (km := uI km1 k (km k - min lf (km k))) (kt' := kt) (kr' := kr) (km' := km1) (fun j q1 q2 => ⟨rfl, rfl, uI_n _ _ _ (by omega)⟩)]
  show (hL kt kr km1 k ++ ((kt k, kr k, km k - min lf (km k)) :: (srw (lf - min lf (km k)) (hq kt kr km (n - (k + 1)).toNat (k + 1))).1), _) = _
  rw [List.append_assoc]
  rfl
theorem hL_hq (kt kr km : Int → Int) (n : Int) : hL kt kr km n = hq kt kr km (n - 0).toNat 0 := by rw [Int.sub_zero]; rfl
theorem srw_b (L : List G3) (h : nneg L) : ∀ c, 0 ≤ c → 0 ≤ (srw c L).2 ∧ (srw c L).2 ≤ c := by
  induction L with
  | nil => intro c hc; exact ⟨hc, Int.le_refl _⟩
  | cons x r ih =>
    intro c hc
    have hx := h x List.mem_cons_self
    have := ih (fun y hy => h y (List.mem_cons_of_mem _ hy)) (c - min c x.2.2) (by omega)
    show 0 ≤ (srw (c - min c x.2.2) r).2 ∧ (srw (c - min c x.2.2) r).2 ≤ c
    omega
theorem hL_mem {kt kr km : Int → Int} {n : Int} {x : G3} (h0 : 0 ≤ n) (h : x ∈ hL kt kr km n) : ∃ j, 0 ≤ j ∧ j < n ∧ x = (kt j, kr j, km j) := by
  obtain ⟨m, rfl⟩ := Int.eq_ofNat_of_zero_le h0
  induction m with
  | zero => rw [show ((0 : Nat) : Int) = 0 from rfl, hL_0] at h; cases h
  | succ m ih =>
    have e : ((m + 1 : Nat) : Int) = (m : Int) + 1 := by omega
    rw [e, hL_s _ _ _ (by omega)] at h
    rcases List.mem_append.mp h with q | q
    · obtain ⟨j, a, b, c⟩ := ih (by omega) q
      exact ⟨j, a, by omega, c⟩
    · exact ⟨m, by omega, by omega, List.mem_singleton.mp q⟩
theorem hL_in {kt kr km : Int → Int} {n j : Int} (h0 : 0 ≤ j) (h : j < n) : (kt j, kr j, km j) ∈ hL kt kr km n := by
  obtain ⟨m, rfl⟩ := Int.eq_ofNat_of_zero_le (show 0 ≤ n by omega)
  induction m with
  | zero => omega
  | succ m ih =>
    have e : ((m + 1 : Nat) : Int) = (m : Int) + 1 := by omega
    rw [e, hL_s _ _ _ (by omega)]
    by_cases q : j < (m : Int)
    · exact List.mem_append_left _ (ih q)
    · rw [show j = (m : Int) by omega]
      exact List.mem_append_right _ List.mem_cons_self
theorem nneg_hL {kt kr km : Int → Int} {n : Int} (h0 : 0 ≤ n) (h : BB 0 60 km) : nneg (hL kt kr km n) := by
  intro x hx
  obtain ⟨j, _, _, rfl⟩ := hL_mem h0 hx
  exact (h j).1
/-- one heap more, by patience -/
theorem lvF_snoc (ti pa tr : Int) (L : List G3) (x : G3) : lvF ti pa tr (L ++ [x]) =
    if pa ≤ ti - x.1 + 1 then (if x.2.1 < tr then ((lvF ti pa tr L).1, (if 0 < x.2.2 then (lvF ti pa tr L).2.1 ++ [(ti + 1, x.2.1 + 1, x.2.2)] else (lvF ti pa tr L).2.1), (lvF ti pa tr L).2.2) else ((lvF ti pa tr L).1, (lvF ti pa tr L).2.1, (lvF ti pa tr L).2.2 + x.2.2))
    else ((if 0 < x.2.2 then (lvF ti pa tr L).1 ++ [x] else (lvF ti pa tr L).1), (lvF ti pa tr L).2.1, (lvF ti pa tr L).2.2) := by
  rw [lvF_app]
  simp only [lvF]
  split
  · split
    · split <;> simp
    · simp
  · split <;> simp
/-- what holds of every run -/
def AI (a : Ab) : Prop := pos60 (a.2.2.2.2.2.1 ++ a.2.2.2.2.2.2) ∧ sor (a.2.2.2.2.2.1 ++ a.2.2.2.2.2.2) ∧ (∀ x ∈ a.2.2.2.2.2.1 ++ a.2.2.2.2.2.2, x.1 ≤ a.1 0) ∧ ((a.2.2.2.2.2.1 ++ a.2.2.2.2.2.2).length : Int) ≤ a.1 0 ∧ (0 ≤ a.1 0 ∧ 0 ≤ a.1 2 ∧ a.1 2 ≤ 12000 * a.1 0)
theorem AI_ini : AI ini := ⟨fun x hx => absurd hx List.not_mem_nil, List.Pairwise.nil, fun x hx => absurd hx List.not_mem_nil, by decide, by decide⟩
theorem W1_ok {ld : Int} {a : Ab} (h : AI a) (hl : ld ≤ 60) : pos60 (tkW1 ld a) ∧ sor (tkW1 ld a) ∧ (∀ x ∈ tkW1 ld a, x.1 ≤ a.1 0) := by
  obtain ⟨h1, h2, h3, -, -⟩ := h
  unfold tkW1 tW
  by_cases q : 0 < ld
  · rw [if_pos q]
    refine ⟨?_, ?_, ?_⟩
    · intro x hx
      rcases List.mem_append.mp hx with z | z
      · exact h1 x z
      · rw [List.mem_singleton.mp z]
        show 1 ≤ ld ∧ ld ≤ 60
        exact ⟨by omega, hl⟩
    · refine List.pairwise_append.mpr ⟨h2, List.pairwise_singleton _ _, fun x hx y hy => ?_⟩
      rw [List.mem_singleton.mp hy]
      exact h3 x hx
    · intro x hx
      rcases List.mem_append.mp hx with z | z
      · exact h3 x z
      · rw [List.mem_singleton.mp z]
        exact Int.le_refl _
  · rw [if_neg q, List.append_nil]
    exact ⟨h1, h2, h3⟩
theorem srv_ok (L : List G3) (h : pos60 L) (hs : sor L) {b : Int} (hb : ∀ x ∈ L, x.1 ≤ b) : ∀ c, 0 ≤ c → pos60 (srv c L).1 ∧ sor (srv c L).1 ∧ (∀ x ∈ (srv c L).1, x.1 ≤ b) := by
  induction L with
  | nil => intro c _; exact ⟨h, hs, hb⟩
  | cons x r ih =>
    intro c hc
    have hx := h x List.mem_cons_self
    have hr : pos60 r := fun y hy => h y (List.mem_cons_of_mem _ hy)
    obtain ⟨s1, s2⟩ := List.pairwise_cons.mp hs
    rw [srv_cons]
    by_cases h0 : c ≤ 0
    · rw [if_pos h0]; exact ⟨h, hs, hb⟩
    · rw [if_neg h0]
      by_cases h1 : x.2.2 ≤ c
      · rw [if_pos h1]
        exact ih hr s2 (fun y hy => hb y (List.mem_cons_of_mem _ hy)) _ (by omega)
      · rw [if_neg h1]
        refine ⟨?_, List.pairwise_cons.mpr ⟨s1, s2⟩, ?_⟩
        · intro y hy
          rcases List.mem_cons.mp hy with z | z
          · rw [z]; show 1 ≤ x.2.2 - c ∧ x.2.2 - c ≤ 60; omega
          · exact hr y z
        · intro y hy
          rcases List.mem_cons.mp hy with z | z
          · rw [z]; exact hb x List.mem_cons_self
          · exact hb y (List.mem_cons_of_mem _ z)
theorem lv_ok {ti pa tr : Int} (L : List G3) (h : pos60 L) (hs : sor L) (hb : ∀ x ∈ L, x.1 ≤ ti) :
    (pos60 (lv ti pa tr L).1 ∧ sor (lv ti pa tr L).1 ∧ ∀ x ∈ (lv ti pa tr L).1, x.1 ≤ ti) ∧ (pos60 (lv ti pa tr L).2.1 ∧ ∀ x ∈ (lv ti pa tr L).2.1, x.1 = ti + 1) := by
  induction L with
  | nil => exact ⟨⟨h, hs, hb⟩, h, fun x hx => absurd hx List.not_mem_nil⟩
  | cons x r ih =>
    have hx := h x List.mem_cons_self
    have hr : pos60 r := fun y hy => h y (List.mem_cons_of_mem _ hy)
    obtain ⟨s1, s2⟩ := List.pairwise_cons.mp hs
    obtain ⟨a, b, c⟩ := ih hr s2 (fun y hy => hb y (List.mem_cons_of_mem _ hy))
    by_cases q : pa ≤ ti - x.1 + 1
    · by_cases q2 : x.2.1 < tr
      · rw [lv_go1 q q2]
        refine ⟨a, ?_, ?_⟩
        · intro y hy
          rcases List.mem_cons.mp hy with z | z
          · rw [z]; exact hx
          · exact b y z
        · intro y hy
          rcases List.mem_cons.mp hy with z | z
          · rw [z]
          · exact c y z
      · rw [lv_go2 q q2]
        exact ⟨a, b, c⟩
    · rw [lv_stay q]
      exact ⟨⟨h, hs, hb⟩, fun y hy => absurd hy List.not_mem_nil, fun y hy => absurd hy List.not_mem_nil⟩
theorem srv_len (L : List G3) : ∀ c, (srv c L).1.length ≤ L.length := by
  induction L with
  | nil => intro c; exact Nat.le_refl _
  | cons x r ih =>
    intro c
    rw [srv_cons]
    split
    · exact Nat.le_refl _
    · split
      · have := ih (c - x.2.2)
        rw [List.length_cons]
        omega
      · exact Nat.le_refl _
theorem lv_len {ti pa tr : Int} (L : List G3) (h : pos60 L) : (lv ti pa tr L).1.length + (lv ti pa tr L).2.1.length ≤ L.length ∧ 0 ≤ (lv ti pa tr L).2.2 ∧ (lv ti pa tr L).2.2 ≤ mny L := by
  induction L with
  | nil => exact ⟨Nat.le_refl _, Int.le_refl _, Int.le_refl _⟩
  | cons x r ih =>
    have hx := h x List.mem_cons_self
    have hr : pos60 r := fun y hy => h y (List.mem_cons_of_mem _ hy)
    have hm := mny_b hr
    obtain ⟨a, b, c⟩ := ih hr
    have e : mny (x :: r) = x.2.2 + mny r := rfl
    by_cases q : pa ≤ ti - x.1 + 1
    · by_cases q2 : x.2.1 < tr
      · rw [lv_go1 q q2, e]
        refine ⟨?_, b, ?_⟩
        · show (lv ti pa tr r).1.length + ((lv ti pa tr r).2.1.length + 1) ≤ r.length + 1
          omega
        · show (lv ti pa tr r).2.2 ≤ _
          omega
      · rw [lv_go2 q q2, e]
        refine ⟨?_, ?_, ?_⟩
        · show (lv ti pa tr r).1.length + (lv ti pa tr r).2.1.length ≤ r.length + 1
          omega
        · show 0 ≤ x.2.2 + (lv ti pa tr r).2.2
          omega
        · show x.2.2 + (lv ti pa tr r).2.2 ≤ _
          omega
    · rw [lv_stay q, e]
      refine ⟨?_, Int.le_refl _, ?_⟩
      · show r.length + 1 + 0 ≤ r.length + 1
        omega
      · show (0 : Int) ≤ _
        omega
theorem AI_tk {se pl : Int → Int} {ld lm : Int} {a : Ab} (hse : SB se) (h : AI a) (hl : ld ≤ 60) (hn : a.1 0 ≤ 199) : AI (tk se pl ld lm a) := by
  obtain ⟨h1, h2, h3⟩ := W1_ok (ld := ld) h hl
  have hlen : ((tkW1 ld a).length : Int) ≤ a.1 0 + 1 := by
    have := h.2.2.2.1
    unfold tkW1 tW
    rw [List.length_append]
    split
    · rw [List.length_singleton]; omega
    · rw [List.length_nil]; omega
  have hc := cap_b (st := tkS2 se pl ld lm a) hse
  obtain ⟨g1, g2, g3⟩ := srv_ok _ h1 h2 h3 (tkCap se pl ld lm a) hc.1
  have g4 := srv_len (tkW1 ld a) (tkCap se pl ld lm a)
  obtain ⟨⟨f1, f2, f3⟩, f4, f5⟩ := lv_ok (ti := a.1 0) (pa := se 3) (tr := se 4) _ g1 g2 g3
  obtain ⟨f6, f7, f8⟩ := lv_len (ti := a.1 0) (pa := se 3) (tr := se 4) _ g1
  have f9 := mny_b g1
  have h0 := h.2.2.2.2
  refine ⟨?_, ?_, ?_, ?_, ?_⟩
  · intro x hx
    rcases List.mem_append.mp hx with z | z
    · exact f1 x z
    · exact f4 x z
  · refine List.pairwise_append.mpr ⟨f2, ?_, fun x hx y hy => ?_⟩
    · apply List.pairwise_of_forall_mem_list
      intro x hx y hy
      rw [f5 x hx, f5 y hy]
      exact Int.le_refl _
    · rw [f5 y hy]
      have := f3 x hx
      omega
  · intro x hx
    rw [tk_ru0]
    rcases List.mem_append.mp hx with z | z
    · have := f3 x z
      omega
    · rw [f5 x z]
      exact Int.le_refl _
  · rw [tk_ru0]
    show (((lv (a.1 0) (se 3) (se 4) (srv (tkCap se pl ld lm a) (tkW1 ld a)).1).1 ++ (lv (a.1 0) (se 3) (se 4) (srv (tkCap se pl ld lm a) (tkW1 ld a)).1).2.1).length : Int) ≤ _
    rw [List.length_append]
    omega
  · rw [tk_ru0, tk_ru2]
    show 0 ≤ a.1 0 + 1 ∧ 0 ≤ a.1 2 + (lv (a.1 0) (se 3) (se 4) (srv (tkCap se pl ld lm a) (tkW1 ld a)).1).2.2 ∧ a.1 2 + (lv (a.1 0) (se 3) (se 4) (srv (tkCap se pl ld lm a) (tkW1 ld a)).1).2.2 ≤ 12000 * (a.1 0 + 1)
    omega
theorem AI_tkI {se pl ld lm : Int → Int} (hse : SB se) (hl : ∀ j, ld j ≤ 60) (n : Nat) : ∀ a : Ab, AI a → a.1 0 + (n : Int) ≤ 200 → AI (tkI se pl ld lm n a) := by
  induction n with
  | zero => intro a h _; exact h
  | succ n ih =>
    intro a h hn
    refine ih _ (AI_tk hse h (hl _) (by omega)) ?_
    rw [tk_ru0]
    omega
theorem wLost_b {se pl : Int → Int} {row n a : Int} (hse : SB se) (hn : 1 ≤ n ∧ n ≤ 6) (ha : 0 ≤ a ∧ a ≤ 60) : 0 ≤ wLost se pl row n a ∧ wLost se pl row n a ≤ 2400000 := by
  have h := AI_tkI (se := se) (pl := pl) (ld := wlF row n a) (lm := fun _ => 0) hse (fun j => by unfold wlF; split <;> omega) (n + 10).toNat ini AI_ini (by show (0 : Int) + _ ≤ 200; omega)
  have h2 := h.2.2.2.2
  rw [tkI_now] at h2
  unfold wLost
  have e : (ini.1 0 : Int) = 0 := rfl
  rw [e] at h2
  omega
/-- the reference's cells are the run a -/
def MR (ru st sn kt kr km ar am hp no ws : Int → Int) (a : Ab) : Prop :=
  (∀ j, 0 ≤ j → j < 8 → ru j = a.1 j) ∧ st = a.2.1 ∧ AG st sn a.2.2.1 ∧ (∀ j, 0 ≤ j → j < ru 0 → no j = a.2.2.2.1 j) ∧ (∀ j, 0 ≤ j → j < 6 * ru 0 → ws j = a.2.2.2.2.1 j) ∧
  (0 ≤ hp 0 ∧ 0 ≤ hp 1 ∧ hp 0 + hp 1 ≤ ru 0) ∧ hL kt kr km (hp 0) = a.2.2.2.2.2.1 ∧ hL (fun _ => ru 0) ar am (hp 1) = a.2.2.2.2.2.2 ∧
  ((0 ≤ ru 0 ∧ ru 0 ≤ 200) ∧ (0 ≤ ru 4 ∧ ru 4 ≤ 12000) ∧ (-1 ≤ ru 6 ∧ ru 6 ≤ 200)) ∧ AI a
theorem uI_01 {g : Int → Int} {v : Int} : uI g 0 v 1 = g 1 := uI_n _ _ _ (by decide)
theorem uI_10 {g : Int → Int} {v : Int} : uI g 1 v 0 = g 0 := uI_n _ _ _ (by decide)

/-! what the public methods answer, and what they leave -/
def loF (k : Int) : Int := if k = 2 ∨ k = 3 ∨ k = 4 ∨ k = 6 ∨ k = 11 ∨ k = 14 ∨ k = 15 then 1 else 0
def hiF (k : Int) : Int :=
  if k = 0 ∨ k = 1 ∨ k = 5 ∨ k = 6 then 5 else if k = 2 then 20 else if k = 3 then 10 else if k = 4 then 4 else if k = 7 ∨ k = 8 then 12 else if k = 9 then 10 else if k = 10 then 2 else if k = 11 then 60
  else if k = 12 ∨ k = 13 then 400 else if k = 14 ∨ k = 15 then 6 else if k = 16 ∨ k = 17 then 100 else 1000
def okS (se : Int → Int) (k v : Int) : Bool := decide ((0 ≤ k ∧ k ≤ 18) ∧ (loF k ≤ v ∧ v ≤ hiF k) ∧ ¬ (k = 7 ∧ se 8 < v) ∧ ¬ (k = 8 ∧ v < se 7))
def seZ (se : Int → Int) (k v : Int) : Int := if okS se k v = true then se k else -1002
def seN (se : Int → Int) (k v : Int) : Int → Int := if okS se k v = true then uI se k v else se
theorem okS_b {se : Int → Int} {k v : Int} (h : okS se k v = true) : (0 ≤ k ∧ k ≤ 18) ∧ (0 ≤ v ∧ v ≤ 1000) := by
  have h := of_decide_eq_true h
  refine ⟨h.1, ?_⟩
  have h2 := h.2.1
  unfold loF hiF at h2
  constructor
  · have := h2.1; split at this <;> omega
  · have h3 := h2.2
    repeat (split at h3 <;> try omega)
theorem SB_set {se : Int → Int} {k v : Int} (hs : SB se) (h : okS se k v = true) : SB (uI se k v) := by
  have h := of_decide_eq_true h
  obtain ⟨⟨h0, h1⟩, ⟨h2, h3⟩, h4, h5⟩ := h
  rcases (show k = 0 ∨ k = 1 ∨ k = 2 ∨ k = 3 ∨ k = 4 ∨ k = 5 ∨ k = 6 ∨ k = 7 ∨ k = 8 ∨ k = 9 ∨ k = 10 ∨ k = 11 ∨ k = 12 ∨ k = 13 ∨ k = 14 ∨ k = 15 ∨ k = 16 ∨ k = 17 ∨ k = 18 by omega) with rfl | rfl | rfl | rfl | rfl | rfl | rfl | rfl | rfl | rfl | rfl | rfl | rfl | rfl | rfl | rfl | rfl | rfl | rfl <;>
    (simp [loF] at h2; simp [hiF] at h3; unfold SB at hs ⊢; simp [uI]; omega)
theorem SB_N {se : Int → Int} {k v : Int} (hs : SB se) : SB (seN se k v) := by
  unfold seN
  split
  · next h => exact SB_set hs h
  · exact hs
theorem BB_N {se : Int → Int} {k v : Int} (hs : BB 0 1000 se) : BB 0 1000 (seN se k v) := by
  unfold seN
  split
  · next h => exact BB_uI hs (okS_b h).2
  · exact hs
def ldZ (ld : Int → Int) (ti t v : Int) : Int := if (0 ≤ t ∧ t ≤ 199) ∧ (0 ≤ v ∧ v ≤ 60) then (if t < ti then -1003 else ld t) else -1002
def ldN (ld : Int → Int) (ti t v : Int) : Int → Int := if ((0 ≤ t ∧ t ≤ 199) ∧ (0 ≤ v ∧ v ≤ 60)) ∧ ¬ t < ti then uI ld t v else ld
def plZ (pl : Int → Int) (h v : Int) : Int := if (0 ≤ h ∧ h ≤ 23) ∧ (0 ≤ v ∧ v ≤ 12) then pl h else -1002
def plN (pl : Int → Int) (h v : Int) : Int → Int := if (0 ≤ h ∧ h ≤ 23) ∧ (0 ≤ v ∧ v ≤ 12) then uI pl h v else pl
def lmZ (lm : Int → Int) (ti t : Int) : Int := if 0 ≤ t ∧ t ≤ 199 then (if t < ti then -1003 else lm t) else -1002
def lmN (lm : Int → Int) (ti t v : Int) : Int → Int := if (0 ≤ t ∧ t ≤ 199) ∧ ¬ t < ti then uI lm t v else lm
def tiZ (ti n : Int) : Int := if 0 ≤ n ∧ n ≤ 200 then (if 200 < ti + n then -1003 else ti + n) else -1002
def tiC (ti n : Int) : Nat := if (0 ≤ n ∧ n ≤ 200) ∧ ¬ 200 < ti + n then n.toNat else 0
def faZ (st : Int → Int) (s b : Int) : Int := if 0 ≤ s ∧ s ≤ 11 then (if ¬ b = 0 ∧ s < 8 then -1003 else st s) else -1001
def faB (s b : Int) : Bool := decide ((0 ≤ s ∧ s ≤ 11) ∧ ¬ (¬ b = 0 ∧ s < 8))
def faN (st : Int → Int) (s b : Int) : Int → Int := if faB s b = true then uI st s 0 else st
def svZ (st bg : Int → Int) (ti s w : Int) : Int := if 0 ≤ s ∧ s ≤ 11 then (if 0 ≤ w ∧ w ≤ 1 then (if w = 0 then st s else if st s = 1 ∨ st s = 3 then ti - 1 - bg s else 0) else -1002) else -1001
def waZ (ws : Int → Int) (ti t k : Int) : Int := if (0 ≤ t ∧ t ≤ 199) ∧ (0 ≤ k ∧ k ≤ 5) then (if t < ti then ws (6 * t + k) else -1003) else -1002
/-- d, 31 d and f k, .. -/
def dgI (f : Int → Int) : Nat → Int → Int → Int
  | 0, _, d => d
  | n + 1, k, d => dgI f n (k + 1) (31 * d + f k)
theorem dgI_s {f : Int → Int} {k d b : Int} (h : k < b) : dgI f (b - k).toNat k d = dgI f (b - (k + 1)).toNat (k + 1) (31 * d + f k) := by
  rw [show (b - k).toNat = (b - (k + 1)).toNat + 1 by omega]
  rfl
theorem dgI_congr {f g : Int → Int} (n : Nat) : ∀ (k d : Int), (∀ j : Int, k ≤ j → j < k + (n : Int) → f j = g j) → dgI f n k d = dgI g n k d := by
  induction n with
  | zero => intro k d _; rfl
  | succ n ih =>
    intro k d h
    show dgI f n (k + 1) (31 * d + f k) = dgI g n (k + 1) (31 * d + g k)
    rw [h k (by omega) (by omega)]
    exact ih _ _ (fun j q1 q2 => h j (by omega) (by omega))
theorem MR.ini {ru st sn kt kr km ar am hp no ws : Int → Int} (hz : ∀ j, ¬ (0 ≤ j ∧ j < 12) → st j = 0) (hr : ∀ j, 0 ≤ j → j < 8 → ru j = if j = 5 ∨ j = 6 then -1 else 0) (h0 : hp 0 = 0) (h1 : hp 1 = 0) :
    MR ru (fl (fun _ => true) 0 st 0 12) sn kt kr km ar am hp no ws ini := by
  have e : fl (fun _ => true) 0 st 0 12 = fun _ => 0 := by
    funext j
    by_cases q : 0 ≤ j ∧ j < 12
    · exact fl_yes q.1 q.2 rfl
    · rw [fl_out q]; exact hz j q
  have r0 : ru 0 = 0 := hr 0 (by decide) (by decide)
  have r4 : ru 4 = 0 := hr 4 (by decide) (by decide)
  have r6 : ru 6 = -1 := hr 6 (by decide) (by decide)
  rw [e]
  refine ⟨hr, rfl, ?_, ?_, ?_, ⟨by omega, by omega, by omega⟩, by rw [h0]; rfl, by rw [h1]; rfl, ⟨by omega, by omega, by omega⟩, AI_ini⟩
  · intro j hj
    exact absurd hj (by simp)
  · intro j q1 q2; omega
  · intro j q1 q2; omega

/-! numbers: every int of the system as the Int that it is -/
def iI (z : Int) : Int32 := Int32.ofInt z
abbrev IR (z : Int) : Prop := -2147483648 ≤ z ∧ z ≤ 2147483647
theorem iI_toInt {z : Int} (h : IR z) : (iI z).toInt = z := by
  unfold iI
  rw [Int32.toInt_ofInt]
  exact Int.bmod_eq_of_le (by simp [Int32.size]; omega) (by simp [Int32.size]; omega)
theorem iI_self (x : Int32) : iI x.toInt = x := Int32.ofInt_toInt x
theorem IR_self (x : Int32) : IR x.toInt := ⟨Int32.le_toInt x, by have := Int32.toInt_lt x; omega⟩
theorem iI_add (a b : Int) : iI a + iI b = iI (a + b) := (Int32.ofInt_add a b).symm
theorem iI_sub (a b : Int) : iI a - iI b = iI (a - b) := (Int32.ofInt_sub a b).symm
theorem iI_mul (a b : Int) : iI a * iI b = iI (a * b) := (Int32.ofInt_mul a b).symm
theorem iI_lt {a b : Int} (ha : IR a) (hb : IR b) : iI a < iI b ↔ a < b := by
  rw [Int32.lt_iff_toInt_lt, iI_toInt ha, iI_toInt hb]
theorem iI_le {a b : Int} (ha : IR a) (hb : IR b) : iI a ≤ iI b ↔ a ≤ b := by
  rw [Int32.le_iff_toInt_le, iI_toInt ha, iI_toInt hb]
theorem iI_eq {a b : Int} (ha : IR a) (hb : IR b) : iI a = iI b ↔ a = b := by
  rw [← Int32.toInt_inj, iI_toInt ha, iI_toInt hb]
theorem iI_0 : iI 0 = 0 := rfl
theorem iI_nat (n : Nat) : iI (n : Int) = nI n := by
  unfold iI nI
  exact Int32.ofInt_eq_ofNat
theorem iI_clamp {i : Int} (h0 : 0 ≤ i) (h1 : i ≤ 2147483647) : (iI i).toNatClampNeg = i.toNat := by
  obtain ⟨n, rfl⟩ := Int.eq_ofNat_of_zero_le h0
  rw [show iI (n : Int) = nI n from iI_nat n, nI_clamp (by omega)]
  omega
theorem iI_div {a b : Int} (ha : 0 ≤ a) (ha2 : a ≤ 2147483647) (hb : 0 < b) (hb2 : b ≤ 2147483647) : iI a / iI b = iI (a / b) := by
  have hq : 0 ≤ a / b := Int.ediv_nonneg ha (by omega)
  have hq2 : a / b ≤ a := Int.ediv_le_self b ha
  rw [← Int32.toInt_inj, iI_toInt ⟨by omega, by omega⟩, Int32.toInt_div, iI_toInt ⟨by omega, by omega⟩, iI_toInt ⟨by omega, by omega⟩, Int.tdiv_eq_ediv_of_nonneg ha]
  exact Int.bmod_eq_of_le (by omega) (by omega)
theorem iI_rem {a b : Int} (ha : 0 ≤ a) (ha2 : a ≤ 2147483647) (hb : 0 < b) (hb2 : b ≤ 2147483647) : iI a - iI a / iI b * iI b = iI (a % b) := by
  rw [iI_div ha ha2 hb hb2, iI_mul, iI_sub]
  congr 1
  have := Int.mul_ediv_add_emod a b
  rw [Int.mul_comm] at this
  omega
/-- the cells of an array of ints -/
def ia (g : Int → Int) : Nat → Int32 := fun k => iI (g k)
def uI (g : Int → Int) (i v : Int) : Int → Int := fun j => if j = i then v else g j
theorem uI_s (g : Int → Int) (i v : Int) : uI g i v i = v := if_pos rfl
theorem uI_n (g : Int → Int) (i v : Int) {j : Int} (h : j ≠ i) : uI g i v j = g j := if_neg h
theorem uI_at (g : Int → Int) (i v j : Int) : uI g i v j = if j = i then v else g j := rfl
theorem ia_get (g : Int → Int) {i : Int} (h0 : 0 ≤ i) (h1 : i ≤ 2147483647) : ia g (iI i).toNatClampNeg = iI (g i) := by
  unfold ia
  rw [iI_clamp h0 h1, Int.toNat_of_nonneg h0]
theorem ia_upd (g : Int → Int) {i v : Int} (h0 : 0 ≤ i) (h1 : i ≤ 2147483647) : upd (ia g) (iI i).toNatClampNeg (iI v) = ia (uI g i v) := by
  funext k
  unfold upd ia uI
  rw [iI_clamp h0 h1]
  by_cases h : k = i.toNat
  · have h2 : (k : Int) = i := by omega
    rw [if_pos h, if_pos h2]
  · have h2 : ¬ (k : Int) = i := by omega
    rw [if_neg h, if_neg h2]
theorem vp_iI {i : Int} {n : Nat} (h0 : 0 ≤ i) (h1 : i < n) (hn : n ≤ 2147483647) : vp_in (iI i) n := by
  obtain ⟨k, rfl⟩ := Int.eq_ofNat_of_zero_le h0
  rw [iI_nat]
  exact vp_in_nI (by omega) (by omega)
theorem ia_zero : (fun _ => (0 : Int32)) = ia (fun _ => 0) := rfl
theorem ia_congr {f g : Int → Int} (h : ∀ j, f j = g j) : ia f = ia g := by rw [funext h]
/-- the classes of the arrays -/
abbrev ty3 (cI cZ cII : ClassId) : List (ClassId × FieldType) := [(cI, .int), (cZ, .boolean), (cII, .array .int)]
/-- private members across the nest -/
def NW (U : State) : Prop :=
  va_Nw (.methodLinkNest RX5 21 yX6_within RX6) U ∧ va_Nw (.methodLinkNest RX4 77 yX6_within RX6) U ∧ va_Nw (.methodLinkNest RX3 18 yX6_within RX6) U ∧
  va_Nw (.methodLinkNest RX2 37 yX6_within RX6) U ∧ va_Nw (.methodLinkNest RX1 19 yX6_within RX6) U ∧
  va_Nw (.fieldLinkNest RX6 51 RX4 "time" "I" RX6) U ∧ va_Nw (.fieldLinkNest RX6 69 RX4 "servers" "LMoreHands$Servers;" RX6) U ∧
  va_Nw (.fieldLinkNest RX4 142 RX1 "reading" "I" RX6) U ∧ va_Nw (.fieldLinkNest RX4 155 RX2 "returning" "I" RX6) U ∧ va_Nw (.fieldLinkNest RX4 88 RX2 "waiting" "I" RX6) U
theorem NW.call {U : State} {g : JFrame} {mk : MethodId} {a : Array Value} (h : NW U) : NW (U.calling g mk a) := by
  obtain ⟨h1, h2, h3, h4, h5, h6, h7, h8, h9, h10⟩ := h
  exact ⟨h1.same rfl rfl, h2.same rfl rfl, h3.same rfl rfl, h4.same rfl rfl, h5.same rfl rfl, h6.same rfl rfl, h7.same rfl rfl, h8.same rfl rfl, h9.same rfl rfl, h10.same rfl rfl⟩
theorem NW.warm {s U : State} (hW : s.WarmedH U.vm) (h : NW s) : NW U := by
  obtain ⟨h1, h2, h3, h4, h5, h6, h7, h8, h9, h10⟩ := h
  exact ⟨h1.warmM hW, h2.warmM hW, h3.warmM hW, h4.warmM hW, h5.warmM hW, h6.warmF hW, h7.warmF hW, h8.warmF hW, h9.warmF hW, h10.warmF hW⟩
/-- a contract's world before it, and behind it -/
def cB (D : va_G) (tys : List (ClassId × FieldType)) (w : va_W) (sz : Nat) (U : State) : Prop := U.heap.size = sz ∧ va_P D vwCl w U.heap ∧ va_K D vwCl tys U ∧ va_D (fun _ => True) w ∧ NW U
def cE {S : Type} (D : va_G) (tys : List (ClassId × FieldType)) (w1 : S → va_W) (A : Nat → Prop) (u : S) (t : State) : Prop := va_P D vwCl (w1 u) t.heap ∧ va_K D vwCl tys t ∧ va_D A (w1 u)
/-- a contract: answer (an int), new world; nothing is made -/
def CtI {S : Type} (l : Launch) (y : MethodName) (ws : List Cond) (fr lo : Nat) (D : va_G) (tys : List (ClassId × FieldType)) (av : List Value) (w : va_W) (post : Int → S → Prop) (w1 : S → va_W) : Prop :=
  ∀ sz : Nat, Met l y ws { frames := fr, cells := 0, slots := 0, locals := lo } (va_Pc av (cB D tys w sz)) (va_Qi (fun r u => ∃ z : Int, r = iI z ∧ post z u) (cE D tys w1 (va_A w sz)) (va_A w sz)) 0 0 (va_A w sz)
def CtV {S : Type} (l : Launch) (y : MethodName) (ws : List Cond) (fr lo : Nat) (D : va_G) (tys : List (ClassId × FieldType)) (av : List Value) (w : va_W) (post : S → Prop) (w1 : S → va_W) : Prop :=
  ∀ sz : Nat, Met l y ws { frames := fr, cells := 0, slots := 0, locals := lo } (va_Pc av (cB D tys w sz)) (va_Qv post (cE D tys w1 (va_A w sz)) (va_A w sz)) 0 0 (va_A w sz)
/-- all cells between lo and hi -/
def BB (lo hi : Int) (g : Int → Int) : Prop := ∀ j, lo ≤ g j ∧ g j ≤ hi
theorem BB_uI {lo hi : Int} {g : Int → Int} {i v : Int} (h : BB lo hi g) (hv : lo ≤ v ∧ v ≤ hi) : BB lo hi (uI g i v) := by
  intro j
  unfold uI
  split
  · exact hv
  · exact h j
theorem iI_max {a b : Int} (ha : IR a) (hb : IR b) : (if iI a < iI b then iI b else iI a) = iI (max a b) := by
  by_cases h : a < b
  · rw [if_pos ((iI_lt ha hb).mpr h), Int.max_eq_right (by omega)]
  · rw [if_neg (fun q => h ((iI_lt ha hb).mp q)), Int.max_eq_left (by omega)]
theorem iI_min {a b : Int} (ha : IR a) (hb : IR b) : (if iI b < iI a then iI b else iI a) = iI (min a b) := by
  by_cases h : b < a
  · rw [if_pos ((iI_lt hb ha).mpr h), Int.min_eq_right (by omega)]
  · rw [if_neg (fun q => h ((iI_lt hb ha).mp q)), Int.min_eq_left (by omega)]
def lI (z : Int) : Int64 := Int64.ofInt z
theorem lI_toInt {z : Int} (h : IR z) : (lI z).toInt = z := by
  unfold lI
  rw [Int64.toInt_ofInt]
  exact Int.bmod_eq_of_le (by simp [Int64.size]; omega) (by simp [Int64.size]; omega)
theorem iI_long {z : Int} (h : IR z) : (iI z).toInt64 = lI z := Int64.toInt_inj.mp (by rw [Int32.toInt_toInt64, iI_toInt h, lI_toInt h])
theorem lI_lt {a b : Int} (ha : IR a) (hb : IR b) : lI a < lI b ↔ a < b := by
  rw [Int64.lt_iff_toInt_lt, lI_toInt ha, lI_toInt hb]
theorem lI_eq {a b : Int} (ha : IR a) (hb : IR b) : lI a = lI b ↔ a = b := by
  rw [← Int64.toInt_inj, lI_toInt ha, lI_toInt hb]
/-- sums below k -/
def sN (f : Int → Int) : Nat → Int
  | 0 => 0
  | n + 1 => sN f n + f n
def sI (f : Int → Int) (k : Int) : Int := sN f k.toNat
theorem sI_0 (f : Int → Int) : sI f 0 = 0 := rfl
theorem sI_s (f : Int → Int) {k : Int} (h : 0 ≤ k) : sI f (k + 1) = sI f k + f k := by
  obtain ⟨n, rfl⟩ := Int.eq_ofNat_of_zero_le h
  show sN f ((n : Int) + 1).toNat = sN f (n : Int).toNat + f n
  rw [show ((n : Int) + 1).toNat = n + 1 by omega, show ((n : Int)).toNat = n by omega]
  rfl
theorem sN_le (f : Int → Int) (c : Int) (h : ∀ j, 0 ≤ f j ∧ f j ≤ c) (n : Nat) : 0 ≤ sN f n ∧ sN f n ≤ c * n := by
  induction n with
  | zero => exact ⟨Int.le_refl _, by simp [sN]⟩
  | succ n ih =>
    have := h n
    have e : c * ((n + 1 : Nat) : Int) = c * n + c := by rw [Int.natCast_succ, Int.mul_add, Int.mul_one]
    exact ⟨by show 0 ≤ sN f n + f n; omega, by show sN f n + f n ≤ _; omega⟩
theorem sI_le (f : Int → Int) (c : Int) (h : ∀ j, 0 ≤ f j ∧ f j ≤ c) (k : Int) (hk : 0 ≤ k) : 0 ≤ sI f k ∧ sI f k ≤ c * k := by
  have := sN_le f c h k.toNat
  rw [Int.toNat_of_nonneg hk] at this
  exact this
theorem sN_congr {f g : Int → Int} (n : Nat) (h : ∀ j : Int, 0 ≤ j → j < (n : Int) → f j = g j) : sN f n = sN g n := by
  induction n with
  | zero => rfl
  | succ n ih =>
    show sN f n + f n = sN g n + g n
    rw [ih (fun j h1 h2 => h j h1 (by omega)), h n (by omega) (by omega)]
theorem sI_congr {f g : Int → Int} {k : Int} (h : ∀ j, 0 ≤ j → j < k → f j = g j) : sI f k = sI g k := by
  by_cases hk : 0 ≤ k
  · exact sN_congr _ (fun j h1 h2 => h j h1 (by omega))
  · unfold sI
    rw [show k.toNat = 0 by omega]
    rfl
theorem sN_mono (f : Int → Int) (h : ∀ j, 0 ≤ f j) (n m : Nat) (hnm : n ≤ m) : sN f n ≤ sN f m := by
  induction m with
  | zero => rw [show n = 0 by omega]; exact Int.le_refl _
  | succ m ih =>
    by_cases q : n = m + 1
    · rw [q]; exact Int.le_refl _
    · have := ih (by omega)
      have := h m
      show sN f n ≤ sN f m + f m
      omega
theorem sI_mono (f : Int → Int) (h : ∀ j, 0 ≤ f j) {a b : Int} (hab : a ≤ b) : sI f a ≤ sI f b := sN_mono f h _ _ (by omega)

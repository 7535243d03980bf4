/-! THE BRIDGE'S CELLS: class (X0) and reference (X5) answer the same numbers. L: LONG, G: WIDE. -/
theorem nI_m1 {a : Nat} (h : 0 < a) (h2 : a < 2 ^ 31) : nI a + (-1) = nI (a - 1) := by
  obtain ⟨b, rfl⟩ : ∃ b, a = b + 1 := ⟨a - 1, by omega⟩
  rw [pk_m1]; rfl
theorem nI_s1 {a : Nat} (h : 0 < a) : nI a - 1 = nI (a - 1) := nI_sub (b := 1) h
theorem nI_mL {a L : Nat} (h : L ≤ a) : nI a + nI L * (-1) = nI (a - L) := by
  rw [Int32.mul_neg, Int32.mul_one, ← Int32.sub_eq_add_neg, nI_sub h]
theorem e_cmp {a b : Nat} (ha : a < 2 ^ 31) (hb : b < 2 ^ 31) : m_X0_oneTowards (nI b) (nI a) = some (if a < b then -1 else if a = b then 0 else 1) := by
  unfold m_X0_oneTowards
  by_cases h2 : a = b
  · rw [if_pos (by rw [h2]), if_neg (by omega), if_pos h2]
  · rw [if_neg (fun q => h2 ((nI_eq hb ha).mp q).symm)]
    by_cases h : a < b
    · rw [if_pos (nI_le (by omega) hb), if_pos h]
    · rw [if_neg (nI_ge (by omega) ha), if_neg h, if_neg h2]
theorem e_cells {L G : Nat} : m_X0_cells (nI L) (nI G) = some (nI (L * G)) := by
  unfold m_X0_cells; rw [nI_mul]
theorem e_cells5 {L G : Nat} : m_X5_cells (nI G) (nI L) = some (nI (L * G)) := by
  unfold m_X5_cells; rw [nI_mul]
theorem e_col {c L : Nat} (hc : c < 2 ^ 31) (h0 : 0 < L) (hL : L < 2 ^ 31) : m_X0_columnOf (nI c) (nI L) = some (nI (c % L)) := by
  unfold m_X0_columnOf
  rw [if_pos ((le1 hL).mpr h0), nz_ok h0 hL, nm_eq, nI_rem hc h0 hL]
/-- the sun's column -/
def sunc (L s0 pc m : Nat) : Nat := (s0 + m / pc) % L
theorem sunc_lt {L s0 pc m : Nat} (h0 : 0 < L) : sunc L s0 pc m < L := Nat.mod_lt _ h0
theorem e_sun {L s0 pc m : Nat} (h0 : 0 < L) (hL : L < 2 ^ 31) (hp : 0 < pc) (hp2 : pc < 2 ^ 31) (hs : s0 < 2 ^ 20) (hm : m < 2 ^ 20) : m_X0_sunColumn (nI m) (nI L) (nI s0) (nI pc) = some (nI (sunc L s0 pc m)) := by
  unfold m_X0_sunColumn sunc
  have h1 : m / pc ≤ m := Nat.div_le_self _ _
  rw [if_neg (fun q => absurd ((lt1 hL).mp q) (by omega)), if_pos ((le1 hp2).mpr hp), nz_ok hp hp2, nm_eq, nz_ok h0 hL, nm_eq, nI_div (by omega) hp hp2, nI_add, nI_rem (by omega) h0 hL]
theorem e_sun5 {L s0 pc m : Nat} (h0 : 0 < L) (hL : L < 2 ^ 31) (hp : 0 < pc) (hp2 : pc < 2 ^ 31) (hs : s0 < 2 ^ 20) (hm : m < 2 ^ 20) : m_X5_sunAt (nI m) (nI L) (nI s0) (nI pc) = some (nI (sunc L s0 pc m)) := by
  unfold m_X5_sunAt sunc
  have h1 : m / pc ≤ m := Nat.div_le_self _ _
  have h2 : s0 % L ≤ s0 := Nat.mod_le _ _
  rw [nz_ok h0 hL, nm_eq, nz_ok hp hp2, nm_eq, nz_ok h0 hL, nm_eq, nI_div (by omega) hp hp2, nI_rem (by omega) h0 hL, nI_add, nI_rem (by omega) h0 hL]
  rw [Nat.mod_add_mod]
/-- how far apart two numbers are -/
def dst (a b : Nat) : Nat := (a - b) + (b - a)
def steps (L a b : Nat) : Nat := dst (a / L) (b / L) + dst (a % L) (b % L)
theorem dI_toInt {a b : Nat} (ha : a < 2 ^ 20) (hb : b < 2 ^ 20) : (nI a - nI b).toInt = (a : Int) - b := pk_sub_toInt (by omega) (by omega)
theorem e_abs {a b : Nat} (ha : a < 2 ^ 20) (hb : b < 2 ^ 20) : absI (nI a - nI b) = nI (dst a b) := by
  have h := dI_toInt ha hb
  unfold absI dst
  by_cases q : b ≤ a
  · rw [nI_sub q, if_pos (nI_pos' (by omega)), show b - a = 0 by omega, Nat.add_zero]
  · have hl : ¬ (0 : Int32) ≤ nI a - nI b := by
      rw [Int32.le_iff_toInt_le, h]; simp; omega
    rw [if_neg hl, show a - b = 0 by omega, Nat.zero_add]
    apply Int32.toInt_inj.mp
    rw [nI_toInt (by omega)]
    have : (0 : Int32) - (nI a - nI b) = nI b - nI a := by
      rw [Int32.sub_eq_add_neg, Int32.neg_sub, Int32.zero_add]
    rw [this, nI_sub (by omega), nI_toInt (by omega)]
theorem e_size {a b : Nat} (ha : a < 2 ^ 20) (hb : b < 2 ^ 20) : m_X5_size (nI a - nI b) = some (nI (dst a b)) := by
  have h := e_abs ha hb
  unfold absI at h
  unfold m_X5_size
  by_cases q : (0 : Int32) ≤ nI a - nI b
  · rw [if_pos q] at h ⊢; rw [h]
  · rw [if_neg q] at h ⊢
    rw [← h, Int32.sub_eq_add_neg 0, Int32.zero_add]
theorem e_steps {L a b : Nat} (h0 : 0 < L) (hL : L < 2 ^ 20) (ha : a < 2 ^ 20) (hb : b < 2 ^ 20) : m_X0_stepsBetween (nI a) (nI b) (nI L) = some (nI (steps L a b)) := by
  unfold m_X0_stepsBetween steps
  have h1 : a / L ≤ a := Nat.div_le_self _ _
  have h2 : b / L ≤ b := Nat.div_le_self _ _
  have h3 : a % L ≤ a := Nat.mod_le _ _
  have h4 : b % L ≤ b := Nat.mod_le _ _
  rw [if_pos ((le1 (by omega)).mpr h0)]
  simp only [nz_ok h0 (show L < 2 ^ 31 by omega), nm_eq]
  rw [nI_rem (by omega) h0 (by omega), nI_rem (by omega) h0 (by omega), nI_div (by omega) h0 (by omega), nI_div (by omega) h0 (by omega), e_abs (by omega) (by omega), e_abs (by omega) (by omega), nI_add]
theorem e_steps5 {L a b : Nat} (h0 : 0 < L) (hL : L < 2 ^ 20) (ha : a < 2 ^ 20) (hb : b < 2 ^ 20) : m_X5_stepsTo (nI a) (nI b) (nI L) = some (nI (steps L a b)) := by
  unfold m_X5_stepsTo steps
  have h1 : a / L ≤ a := Nat.div_le_self _ _
  have h2 : b / L ≤ b := Nat.div_le_self _ _
  have h3 : a % L ≤ a := Nat.mod_le _ _
  have h4 : b % L ≤ b := Nat.mod_le _ _
  simp only [nz_ok h0 (show L < 2 ^ 31 by omega), nm_eq]
  rw [nI_rem (by omega) h0 (by omega), nI_rem (by omega) h0 (by omega), nI_div (by omega) h0 (by omega), nI_div (by omega) h0 (by omega), e_size (by omega) (by omega), obind, e_size (by omega) (by omega), obind, nI_add]
/-- one step along the row towards a column -/
def mvc (L a t : Nat) : Nat := if a % L < t then a + 1 else if t < a % L then a - 1 else a
theorem e_toCol {L a t : Nat} (h0 : 0 < L) (hL : L < 2 ^ 20) (ha : a < 2 ^ 20) (ht : t < 2 ^ 20) : m_X0_stepToColumn (nI a) (nI t) (nI L) = some (nI (mvc L a t)) := by
  have h3 : a % L ≤ a := Nat.mod_le _ _
  unfold m_X0_stepToColumn mvc
  rw [e_col (by omega) h0 (by omega), obind, e_cmp (by omega) (by omega), obind]
  by_cases q : a % L < t
  · rw [if_neg (by omega), if_neg (by omega), if_pos q, nI_1]
  · by_cases q2 : t < a % L
    · rw [if_pos q2, if_neg q, if_pos q2, nI_m1 (by omega) (by omega)]
    · rw [if_neg q2, if_pos (by omega), if_neg q, if_neg q2, Int32.add_zero]
/-- one step towards a cell -/
def mvt (L a b : Nat) : Nat := if b % L = a % L then (if a < b then a + L else if b < a then a - L else a) else (if a % L < b % L then a + 1 else a - 1)
theorem col_lt {L a b : Nat} (h0 : 0 < L) (h : b % L = a % L) (hb : b < a) : b + L ≤ a := by
  have h1 := Nat.div_add_mod a L
  have h2 := Nat.div_add_mod b L
  have h3 : b / L < a / L := by
    rcases Nat.lt_or_ge (b / L) (a / L) with q | q
    · exact q
    · have := Nat.mul_le_mul_left L q; omega
  have h4 := Nat.mul_le_mul_left L (show b / L + 1 ≤ a / L from h3)
  rw [Nat.mul_add] at h4
  omega
theorem e_toCell {L a b : Nat} (h0 : 0 < L) (hL : L < 2 ^ 20) (ha : a < 2 ^ 20) (hb : b < 2 ^ 20) : m_X0_stepTowards (nI a) (nI b) (nI L) = some (nI (mvt L a b)) := by
  have h3 : a % L ≤ a := Nat.mod_le _ _
  have h4 : b % L ≤ b := Nat.mod_le _ _
  unfold m_X0_stepTowards mvt
  rw [e_col (by omega) h0 (by omega), obind, e_col (by omega) h0 (by omega), obind]
  by_cases q : b % L = a % L
  · rw [if_pos (by rw [q]), if_pos q, e_cmp (by omega) (by omega), obind]
    by_cases q1 : a < b
    · rw [if_neg (by omega), if_neg (by omega), if_pos q1, Int32.mul_one, nI_add]
    · rw [if_neg q1]
      by_cases q2 : b < a
      · rw [if_pos q2, if_pos q2, nI_mL (by have := col_lt h0 q q2; omega)]
      · rw [if_neg q2, if_pos (by omega), if_neg q2, Int32.mul_zero, Int32.add_zero]
  · rw [if_neg (fun z => q ((nI_eq (by omega) (by omega)).mp z)), if_neg q, obind, e_cmp (by omega) (by omega), obind]
    by_cases q1 : a % L < b % L
    · rw [if_neg (by omega), if_neg (by omega), if_pos q1, nI_1]
    · rw [if_pos (by omega), if_neg q1, nI_m1 (by omega) (by omega)]
/-- one step of a number towards another -/
def tw (a b : Nat) : Nat := if a < b then a + 1 else if b < a then a - 1 else a
theorem e_tw {a b : Nat} (ha : a < 2 ^ 20) (hb : b < 2 ^ 20) : m_X5_towards (nI a) (nI b) = some (nI (tw a b)) := by
  unfold m_X5_towards tw
  by_cases q : a < b
  · rw [if_neg (nI_ge q (by omega)), if_pos q, nI_1]
  · rw [if_pos (nI_le (by omega) (by omega)), if_neg q]
    by_cases q2 : b < a
    · rw [if_neg (nI_ge q2 (by omega)), if_pos q2, nI_s1 (by omega)]
    · rw [if_pos (nI_le (by omega) (by omega)), if_neg q2]
theorem mvc_tw {L a t : Nat} : L * (a / L) + tw (a % L) t = mvc L a t := by
  have h := Nat.div_add_mod a L
  unfold tw mvc
  split
  · omega
  · split <;> omega
theorem mvt_tw1 {L a b : Nat} (h : ¬ tw (a % L) (b % L) = a % L) : L * (a / L) + tw (a % L) (b % L) = mvt L a b := by
  have h1 := Nat.div_add_mod a L
  unfold tw at h ⊢
  unfold mvt
  by_cases q : b % L = a % L
  · rw [q] at h; simp at h
  · rw [if_neg q]
    split at h
    · rename_i z; rw [if_pos z, if_pos z]; omega
    · rename_i z; rw [if_neg z, if_neg z, if_pos (by omega)]; omega
theorem mvt_tw2 {L a b : Nat} (h0 : 0 < L) (h : tw (a % L) (b % L) = a % L) : L * tw (a / L) (b / L) + a % L = mvt L a b := by
  have h1 := Nat.div_add_mod a L
  have h2 := Nat.div_add_mod b L
  have q : b % L = a % L := by
    unfold tw at h
    split at h
    · omega
    · split at h <;> omega
  unfold mvt
  rw [if_pos q]
  unfold tw
  by_cases z : a / L < b / L
  · have h4 := Nat.mul_le_mul_left L (show a / L + 1 ≤ b / L from z)
    rw [Nat.mul_add] at h4
    rw [if_pos z, if_pos (by omega), Nat.mul_add]; omega
  · rw [if_neg z]
    by_cases z2 : b / L < a / L
    · have h4 := Nat.mul_le_mul_left L (show b / L + 1 ≤ a / L from z2)
      rw [Nat.mul_add] at h4
      rw [if_pos z2, if_neg (by omega), if_pos (by omega), Nat.mul_sub]; omega
    · have e : a / L = b / L := by omega
      rw [if_neg z2, if_neg (by rw [e] at h1; omega), if_neg (by rw [e] at h1; omega)]; omega
-- ===== steps stay on the bridge
theorem mvc_lt {L G a t : Nat} (h0 : 0 < L) (ha : a < L * G) (ht : t < L) : mvc L a t < L * G := by
  have h1 := Nat.div_add_mod a L
  have h2 := Nat.mod_lt a h0
  have h3 : a / L < G := Nat.div_lt_of_lt_mul ha
  have h4 := Nat.mul_le_mul_left L (show a / L + 1 ≤ G from h3)
  rw [Nat.mul_add] at h4
  unfold mvc
  split
  · omega
  · split <;> omega
theorem mvt_lt {L G a b : Nat} (h0 : 0 < L) (ha : a < L * G) (hb : b < L * G) : mvt L a b < L * G := by
  have h1 := Nat.div_add_mod a L
  have h2 := Nat.mod_lt a h0
  have h2b := Nat.mod_lt b h0
  have h3 : a / L < G := Nat.div_lt_of_lt_mul ha
  have h4 := Nat.mul_le_mul_left L (show a / L + 1 ≤ G from h3)
  rw [Nat.mul_add] at h4
  unfold mvt
  split
  · rename_i q
    split
    · rename_i z; have := col_lt h0 q.symm z; omega
    · split <;> omega
  · split <;> omega
theorem dst_le {a b : Nat} : dst a b ≤ a + b := by unfold dst; omega
theorem steps_le {L a b : Nat} : steps L a b ≤ (a + b) + (a + b) := by
  unfold steps
  have q1 : a / L ≤ a := Nat.div_le_self _ _
  have q2 : b / L ≤ b := Nat.div_le_self _ _
  have q3 : a % L ≤ a := Nat.mod_le _ _
  have q4 : b % L ≤ b := Nat.mod_le _ _
  have q5 := dst_le (a := a / L) (b := b / L)
  have q6 := dst_le (a := a % L) (b := b % L)
  omega

/-! REACH: columns, spread, and the class's soonestFrom. O t: the mask of the cells with a cat at the minute t. -/
def colm (L G x : Nat) : Nat := om (fun r => r * L + x) G
theorem col_row {L G c x : Nat} (hx : x < L) : (∃ r, r < G ∧ r * L + x = c) ↔ c < L * G ∧ c % L = x := by
  constructor
  · rintro ⟨r, hr, rfl⟩
    have h1 := Nat.mul_le_mul_left L (show r + 1 ≤ G from hr)
    rw [Nat.mul_add, Nat.mul_comm L r] at h1
    exact ⟨by omega, by rw [Nat.mul_comm r L, Nat.mul_add_mod, Nat.mod_eq_of_lt hx]⟩
  · rintro ⟨h1, h2⟩
    have h3 := Nat.div_add_mod c L
    exact ⟨c / L, Nat.div_lt_of_lt_mul h1, by rw [Nat.mul_comm]; omega⟩
theorem colm_bit {L G x c : Nat} (hx : x < L) : (colm L G x).testBit c = true ↔ (c < L * G ∧ c % L = x) := by
  unfold colm; rw [om_bit, ← col_row hx]
theorem colm_lt {L G x : Nat} (hx : x < L) : colm L G x < 2 ^ (L * G) := om_lt (fun r hr => ((col_row (G := G) hx).mp ⟨r, hr, rfl⟩).1)
theorem e_colm {L G x : Nat} (hL : L ≤ 8) (hC : L * G ≤ 24) (hG : G ≤ 3) (hx : x < L) : m_X0_columnCells (nI x) (nI L) (nI G) = some (nI (colm L G x)) := by
  unfold m_X0_columnCells colm
  refine lpUp _ _ G (fun k => (nI (om (fun r => r * L + x) k), nI k)) ?_ ?_ (by omega) 0 (by omega)
  · intro k rec hk hr
    have hb := ((col_row (G := G) hx).mp ⟨k, hk, rfl⟩).1
    dsimp only at hr ⊢
    unfold X0_columnCells_f4
    rw [if_neg (nI_ge hk (by omega)), nI_mul, nI_add, shl1 (by omega), nI_or, nm_eq, nI_1]
    exact hr
  · intro rec
    dsimp only
    unfold X0_columnCells_f4
    rw [if_pos (nI_le (Nat.le_refl G) (by omega))]
theorem e_all {L G : Nat} (hC : L * G ≤ 24) : m_X0_allCells (nI L) (nI G) = some (nI (2 ^ (L * G) - 1)) := by
  unfold m_X0_allCells
  rw [e_cells, obind, shl1 (by omega), nI_s1 (Nat.two_pow_pos _)]
/-- where he can be after one step from the cells of M -/
def sprd (L G M : Nat) : Nat := (M ||| clr M (colm L G (L - 1)) * 2 ^ 1 ||| clr M (colm L G 0) / 2 ^ 1 ||| M * 2 ^ L ||| M / 2 ^ L) &&& (2 ^ (L * G) - 1)
theorem shlN' {a c : Nat} (hc : c < 32) (h : a * 2 ^ c < 2 ^ 32) : nI a <<< (nI c &&& 31) = nI (a * 2 ^ c) := pk_shlN _ c (s_l' c hc) h
theorem shl_one {a : Nat} (h : a * 2 ^ 1 < 2 ^ 32) : nI a <<< ((1 : Int32) &&& 31) = nI (a * 2 ^ 1) := shlN' (c := 1) (by decide) h
theorem e_spread {L G M : Nat} (h0 : 0 < L) (hL : L ≤ 8) (hC : L * G ≤ 24) (hG : G ≤ 3) (hM : M < 2 ^ (L * G)) : m_X0_spread (nI M) (nI L) (nI G) = some (nI (sprd L G M)) := by
  have hM24 : M < 2 ^ 24 := Nat.lt_of_lt_of_le hM (Nat.pow_le_pow_right (by decide) hC)
  have c1 : clr M (colm L G (L - 1)) < 2 ^ 24 := clr_lt hM24
  have c2 : clr M (colm L G 0) < 2 ^ 24 := clr_lt hM24
  have hp : 2 ^ L ≤ 2 ^ 8 := Nat.pow_le_pow_right (by decide) hL
  have hm : M * 2 ^ L < 2 ^ 32 := by
    have : M * 2 ^ L ≤ M * 2 ^ 8 := Nat.mul_le_mul_left M hp
    omega
  have a0 : m_X0_columnCells 0 (nI L) (nI G) = some (nI (colm L G 0)) := e_colm (x := 0) hL hC hG h0
  unfold m_X0_spread sprd
  rw [nI_s1 h0, e_colm hL hC hG (by omega), obind, nI_anot, nm_eq, shl_one (by show clr M _ * 2 ^ 1 < 2 ^ 32; omega), a0, obind, nI_anot, ushK (s := 1) (c := 1) rfl (by show clr M _ < 2 ^ 31; omega) (by decide), nm_eq, e_all hC, obind, shlN' (by omega) hm, ush1 (by omega) (by omega), nI_or, nI_or, nI_or, nI_or, nI_and]
  rfl
theorem bit_mul {M c i : Nat} : (M * 2 ^ c).testBit i = (decide (c ≤ i) && M.testBit (i - c)) := Nat.testBit_mul_two_pow ..
/-- a cell of the spread is next to one of M, or in M -/
theorem sprd_bit {L G M c : Nat} (h0 : 0 < L) (hM : M < 2 ^ (L * G)) (hC : L * G ≤ 24) : (sprd L G M).testBit c = true ↔ (c < L * G ∧ ∃ h, h ≤ 4 ∧ M.testBit (cb L G c h) = true) := by
  have big : ∀ i, L * G ≤ i → M.testBit i = false := fun i hi => Nat.testBit_lt_two_pow (Nat.lt_of_lt_of_le hM (Nat.pow_le_pow_right (by decide) hi))
  have inC : ∀ i, M.testBit i = true → i < L * G := fun i hi => by
    rcases Nat.lt_or_ge i (L * G) with z | z
    · exact z
    · rw [big i z] at hi; cases hi
  unfold sprd
  rw [Nat.testBit_and, Nat.testBit_two_pow_sub_one, Bool.and_eq_true, decide_eq_true_eq, Nat.testBit_or, Nat.testBit_or, Nat.testBit_or, Nat.testBit_or, bit_mul, bit_mul, Nat.testBit_div_two_pow, Nat.testBit_div_two_pow, clr_bit, clr_bit]
  simp only [Bool.or_eq_true, Bool.and_eq_true, decide_eq_true_eq, Bool.not_eq_true']
  have hlast : ∀ i, (colm L G (L - 1)).testBit i = false ↔ ¬ (i < L * G ∧ i % L = L - 1) := fun i => by rw [← colm_bit (show L - 1 < L by omega), Bool.not_eq_true]
  have hfirst : ∀ i, (colm L G 0).testBit i = false ↔ ¬ (i < L * G ∧ i % L = 0) := fun i => by rw [← colm_bit h0, Bool.not_eq_true]
  rw [hlast, hfirst]
  constructor
  · rintro ⟨h, hc⟩
    refine ⟨hc, ?_⟩
    rcases h with (((q | ⟨q1, q2, q3⟩) | ⟨q2, q3⟩) | ⟨q1, q2⟩) | q
    · exact ⟨4, by decide, by unfold cb; rw [if_neg (by decide), if_neg (by decide), if_neg (by decide), if_neg (by decide)]; exact q⟩
    · refine ⟨3, by decide, ?_⟩
      have z : ¬ c % L = 0 := fun e => by
        have h1 := Nat.div_add_mod c L
        have h2 := Nat.div_add_mod (c - 1) L
        have h3 : (c - 1) % L < L := Nat.mod_lt _ h0
        have h4 : ¬ (c - 1) % L = L - 1 := fun e => q3 ⟨by omega, e⟩
        have h5 : (c - 1 + 1) % L = (c - 1) % L + 1 := by
          rw [← Nat.div_add_mod (c - 1) L, Nat.add_assoc, Nat.mul_add_mod, Nat.mod_eq_of_lt (by omega), Nat.mul_add_mod, Nat.mod_eq_of_lt h3]
        rw [show c - 1 + 1 = c by omega, e] at h5
        omega
      unfold cb
      rw [if_neg (by decide), if_neg (by decide), if_neg (by decide), if_pos rfl, if_neg z]
      exact q2
    · refine ⟨0, by decide, ?_⟩
      have hc1 := inC _ q2
      have z : ¬ L ≤ c % L + 1 := fun e => by
        have h3 : c % L < L := Nat.mod_lt _ h0
        refine q3 ⟨hc1, ?_⟩
        rw [← Nat.div_add_mod c L, Nat.add_assoc, Nat.mul_add_mod, show c % L + 1 = L by omega, Nat.mod_self]
      unfold cb
      rw [if_pos rfl, if_neg z]
      exact q2
    · refine ⟨1, by decide, ?_⟩
      unfold cb
      rw [if_neg (by decide), if_pos rfl, if_neg (by omega)]
      exact q2
    · refine ⟨2, by decide, ?_⟩
      have hc1 := inC _ q
      unfold cb
      rw [if_neg (by decide), if_neg (by decide), if_pos rfl, if_neg (by omega)]
      exact q
  · rintro ⟨hc, h, hh, q⟩
    have hz := inC _ q
    refine ⟨?_, hc⟩
    rcases (show h = 0 ∨ h = 1 ∨ h = 2 ∨ h = 3 ∨ h = 4 by omega) with e | e | e | e | e <;> subst e <;> unfold cb at q hz
    · rw [if_pos rfl] at q hz
      by_cases z : L ≤ c % L + 1
      · rw [if_pos z] at hz; omega
      · rw [if_neg z] at q hz
        refine Or.inl (Or.inl (Or.inr ⟨q, fun e => ?_⟩))
        have h3 : (c + 1) % L = c % L + 1 := by
          conv => lhs; rw [← Nat.div_add_mod c L, Nat.add_assoc, Nat.mul_add_mod, Nat.mod_eq_of_lt (by omega)]
        omega
    · rw [if_neg (by decide), if_pos rfl] at q hz
      by_cases z : c < L
      · rw [if_pos z] at hz; omega
      · rw [if_neg z] at q
        exact Or.inl (Or.inr ⟨by omega, q⟩)
    · rw [if_neg (by decide), if_neg (by decide), if_pos rfl] at q hz
      by_cases z : L * G ≤ c + L
      · rw [if_pos z] at hz; omega
      · rw [if_neg z] at q
        exact Or.inr q
    · rw [if_neg (by decide), if_neg (by decide), if_neg (by decide), if_pos rfl] at q hz
      by_cases z : c % L = 0
      · rw [if_pos z] at hz; omega
      · rw [if_neg z] at q
        have h3 : c % L ≤ c := Nat.mod_le _ _
        refine Or.inl (Or.inl (Or.inl (Or.inr ⟨by omega, q, fun e => ?_⟩)))
        have h4 : c % L < L := Nat.mod_lt _ h0
        have h5 : (c - 1) % L = c % L - 1 := by
          have h6 : c - 1 = L * (c / L) + (c % L - 1) := by have := Nat.div_add_mod c L; omega
          rw [h6, Nat.mul_add_mod, Nat.mod_eq_of_lt (by omega)]
        omega
    · rw [if_neg (by decide), if_neg (by decide), if_neg (by decide), if_neg (by decide)] at q
      exact Or.inl (Or.inl (Or.inl (Or.inl q)))
/-- a move and the move back -/
theorem cb_sym {L G c h : Nat} (h0 : 0 < L) (hC : L * G ≤ 24) (hc : c < L * G) (hh : h ≤ 4) (hz : ¬ cb L G c h = 99) : ∃ h', h' ≤ 4 ∧ cb L G (cb L G c h) h' = c := by
  have h3 : c % L < L := Nat.mod_lt _ h0
  have h7 := Nat.div_add_mod c L
  rcases (show h = 0 ∨ h = 1 ∨ h = 2 ∨ h = 3 ∨ h = 4 by omega) with e | e | e | e | e <;> subst e
  · have z : ¬ L ≤ c % L + 1 := fun e => hz (by unfold cb; rw [if_pos rfl, if_pos e])
    have e1 : cb L G c 0 = c + 1 := by unfold cb; rw [if_pos rfl, if_neg z]
    have h5 : (c + 1) % L = c % L + 1 := by
      conv => lhs; rw [← Nat.div_add_mod c L, Nat.add_assoc, Nat.mul_add_mod, Nat.mod_eq_of_lt (by omega)]
    exact ⟨3, by decide, by rw [e1]; unfold cb; rw [if_neg (by decide), if_neg (by decide), if_neg (by decide), if_pos rfl, if_neg (by omega)]; omega⟩
  · have z : ¬ c < L := fun e => hz (by unfold cb; rw [if_neg (by decide), if_pos rfl, if_pos e])
    have e1 : cb L G c 1 = c - L := by unfold cb; rw [if_neg (by decide), if_pos rfl, if_neg z]
    exact ⟨2, by decide, by rw [e1]; unfold cb; rw [if_neg (by decide), if_neg (by decide), if_pos rfl, if_neg (by omega)]; omega⟩
  · have z : ¬ L * G ≤ c + L := fun e => hz (by unfold cb; rw [if_neg (by decide), if_neg (by decide), if_pos rfl, if_pos e])
    have e1 : cb L G c 2 = c + L := by unfold cb; rw [if_neg (by decide), if_neg (by decide), if_pos rfl, if_neg z]
    exact ⟨1, by decide, by rw [e1]; unfold cb; rw [if_neg (by decide), if_pos rfl, if_neg (by omega)]; omega⟩
  · have z : ¬ c % L = 0 := fun e => hz (by unfold cb; rw [if_neg (by decide), if_neg (by decide), if_neg (by decide), if_pos rfl, if_pos e])
    have e1 : cb L G c 3 = c - 1 := by unfold cb; rw [if_neg (by decide), if_neg (by decide), if_neg (by decide), if_pos rfl, if_neg z]
    have h8 : c % L ≤ c := Nat.mod_le _ _
    have h5 : (c - 1) % L = c % L - 1 := by
      have h6 : c - 1 = L * (c / L) + (c % L - 1) := by omega
      rw [h6, Nat.mul_add_mod, Nat.mod_eq_of_lt (by omega)]
    exact ⟨0, by decide, by rw [e1]; unfold cb; rw [if_pos rfl, if_neg (by omega)]; omega⟩
  · have e1 : cb L G c 4 = c := by unfold cb; rw [if_neg (by decide), if_neg (by decide), if_neg (by decide), if_neg (by decide)]
    exact ⟨4, by decide, by rw [e1, e1]⟩
-- ===== the least number of which something holds
def fm (q : Nat → Bool) : Nat → Nat
  | 0 => 0
  | N + 1 => if fm q N < N then fm q N else if q N = true then N else N + 1
theorem fm_le {q : Nat → Bool} : ∀ N, fm q N ≤ N
  | 0 => Nat.le_refl _
  | N + 1 => by
    have := fm_le (q := q) N
    rw [fm]
    split
    · omega
    · split <;> omega
theorem fm_none {q : Nat → Bool} : ∀ {N}, (∀ j, j < N → q j = false) → fm q N = N
  | 0, _ => rfl
  | N + 1, h => by rw [fm, fm_none (fun j hj => h j (by omega)), if_neg (Nat.lt_irrefl N), h N (by omega), if_neg (by decide)]
theorem fm_eq {q : Nat → Bool} {k : Nat} (h : ∀ j, j < k → q j = false) (hk : q k = true) : ∀ {N}, k < N → fm q N = k
  | 0, h => absurd h (Nat.not_lt_zero k)
  | N + 1, hN => by
    by_cases z : k = N
    · subst z; rw [fm, fm_none h, if_neg (Nat.lt_irrefl k), if_pos hk]
    · have := fm_eq h hk (N := N) (by omega)
      rw [fm, this, if_pos (by omega)]

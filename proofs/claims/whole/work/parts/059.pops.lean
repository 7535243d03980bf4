/-! HOW MANY BITS a mask has: bitCount is exn M 0 24. -/
theorem land_split {a m r s : Nat} (ha : a < 256) (hm : m < 256) : (256 * r + a) &&& (256 * s + m) = 256 * (r &&& s) + (a &&& m) := by
  have h : a &&& m < 2 ^ 8 := Nat.lt_of_le_of_lt Nat.and_le_left ha
  apply Nat.eq_of_testBit_eq
  intro i
  rw [Nat.testBit_and, show (256 : Nat) = 2 ^ 8 from rfl, Nat.testBit_two_pow_mul_add _ ha, Nat.testBit_two_pow_mul_add _ hm, Nat.testBit_two_pow_mul_add _ h]
  split
  · rw [Nat.testBit_and]
  · rw [Nat.testBit_and]
/-- a byte's bits -/
def pb (a : Nat) : Nat := exn a 0 8
theorem p_s1 : ∀ a, a < 256 → ∀ t, t < 2 → (a / 2 + 128 * t) &&& 85 = (a / 2) &&& 85 := by decide +kernel
theorem p_s2 : ∀ a, a < 256 → ∀ t, t < 4 → (a / 4 + 64 * t) &&& 51 = (a / 4) &&& 51 := by decide +kernel
theorem p_s3 : ∀ a, a < 256 → (a / 2) &&& 85 ≤ a := by decide +kernel
def q1 (a : Nat) : Nat := a - ((a / 2) &&& 85)
def q2 (a : Nat) : Nat := (q1 a &&& 51) + ((q1 a / 4) &&& 51)
theorem p_q : ∀ a, a < 256 → q1 a < 256 ∧ q2 a < 80 ∧ q2 a % 16 ≤ 4 ∧ q2 a / 16 ≤ 4 ∧ q2 a % 16 + q2 a / 16 = pb a ∧ pb a ≤ 8 := by decide +kernel
theorem p_s4 : ∀ a, a < 128 → ∀ t, t < 8 → a % 16 < 8 → a / 16 < 8 → (a + a / 16 + 16 * t) &&& 15 = a % 16 + a / 16 := by decide +kernel
theorem pb_split {M : Nat} : ∀ d, exn M 0 (8 + d) = exn M 0 8 + exn (M / 256) 0 d
  | 0 => rfl
  | d + 1 => by
    have e1 : exn M 0 (8 + d + 1) = if M.testBit (8 + d) = true then exn M 0 (8 + d) + 1 else exn M 0 (8 + d) := rfl
    have e2 : exn (M / 256) 0 (d + 1) = if (M / 256).testBit d = true then exn (M / 256) 0 d + 1 else exn (M / 256) 0 d := rfl
    have e3 : (M / 256).testBit d = M.testBit (8 + d) := by rw [show (256 : Nat) = 2 ^ 8 from rfl, Nat.testBit_div_two_pow, Nat.add_comm]
    rw [← Nat.add_assoc, e1, e2, e3, pb_split d]
    split <;> omega
theorem pb_mod {M : Nat} : exn M 0 8 = pb (M % 256) := by
  have key : ∀ c, c ≤ 8 → exn M 0 c = exn (M % 256) 0 c := by
    intro c
    induction c with
    | zero => intro _; rfl
    | succ c ih =>
      intro hc
      rw [exn, exn, ih (by omega), show (256 : Nat) = 2 ^ 8 from rfl, Nat.testBit_mod_two_pow, decide_eq_true (show c < 8 by omega), Bool.true_and]
  exact key 8 (Nat.le_refl 8)
theorem pb_all {a b c : Nat} (ha : a < 256) (hb : b < 256) (hc : c < 256) : exn (256 * (256 * c + b) + a) 0 24 = pb a + pb b + pb c := by
  rw [show 24 = 8 + 16 from rfl, pb_split, pb_mod, show (256 * (256 * c + b) + a) % 256 = a by omega, show (256 * (256 * c + b) + a) / 256 = 256 * c + b by omega, show 16 = 8 + 8 from rfl, pb_split, pb_mod, show (256 * c + b) % 256 = b by omega, show (256 * c + b) / 256 = c by omega, pb_mod, Nat.mod_eq_of_lt hc]
  omega
theorem ushK {M c : Nat} {s : Int32} (hs : s = nI c) (hM : M < 2 ^ 31) (hc : c < 32) : ush (nI M) s = nI (M / 2 ^ c) := by rw [hs, ush1 hM hc]
theorem p_one {a b c : Nat} (ha : a < 256) (hb : b < 256) (hc : c < 256) : ((256 * (256 * c + b) + a) / 2) &&& 1431655765 = 256 * (256 * ((c / 2) &&& 85) + ((b / 2) &&& 85)) + ((a / 2) &&& 85) := by
  rw [show (256 * (256 * c + b) + a) / 2 = 256 * (256 * (c / 2) + (b / 2 + 128 * (c % 2))) + (a / 2 + 128 * (b % 2)) by omega, show (1431655765 : Nat) = 256 * (256 * 21845 + 85) + 85 from rfl, land_split (by omega) (by decide), land_split (by omega) (by decide), p_s1 b hb _ (by omega), p_s1 a ha _ (by omega)]
  have h : c / 2 &&& 21845 = c / 2 &&& 85 := by
    have := land_split (a := c / 2) (m := 85) (r := 0) (s := 85) (by omega) (by decide)
    rw [Nat.zero_and] at this
    simpa using this
  rw [h]
theorem p_and {a b c k : Nat} (hk : k < 256) (ha : a < 256) (hb : b < 256) (hc : c < 256) : (256 * (256 * c + b) + a) &&& (256 * (256 * (256 * k + k) + k) + k) = 256 * (256 * (c &&& k) + (b &&& k)) + (a &&& k) := by
  rw [land_split ha hk, land_split hb hk]
  have h : c &&& (256 * k + k) = c &&& k := by
    have := land_split (a := c) (m := k) (r := 0) (s := k) hc hk
    rw [Nat.zero_and] at this
    simpa using this
  rw [h]
theorem p_y4 {a b c : Nat} : 256 * (256 * c + b) + a + (256 * (256 * c + b) + a) / 16 = 256 * (256 * (c + c / 16 + 16 * 0) + (b + b / 16 + 16 * (c % 16))) + (a + a / 16 + 16 * (b % 16)) := by
  have h : (256 * (256 * c + b) + a) / 16 = 256 * (256 * (c / 16) + (b / 16 + 16 * (c % 16))) + (a / 16 + 16 * (b % 16)) := by omega
  rw [h]
  omega
theorem p_y5 {a b c : Nat} (ha : a ≤ 8) (hb : b ≤ 8) (hc : c ≤ 8) : (256 * (256 * c + b) + a + (256 * (256 * c + b) + a) / 2 ^ 8 + (256 * (256 * c + b) + a + (256 * (256 * c + b) + a) / 2 ^ 8) / 2 ^ 16) % 2 ^ 6 = a + b + c := by
  have h1 : (256 * (256 * c + b) + a) / 2 ^ 8 = 256 * c + b := by omega
  rw [h1]
  have h2 : (256 * (256 * c + b) + a + (256 * c + b)) / 2 ^ 16 = c := by omega
  rw [h2]
  omega
theorem e_bits {M : Nat} (hM : M < 2 ^ 24) : m_J6_bitCount_0f7a4 (nI M) = some (nI (exn M 0 24)) := by
  obtain ⟨a, b, c, ha, hb, hc, rfl⟩ : ∃ a b c, a < 256 ∧ b < 256 ∧ c < 256 ∧ M = 256 * (256 * c + b) + a := ⟨M % 256, M / 256 % 256, M / 65536, by omega, by omega, by omega, by omega⟩
  rw [pb_all ha hb hc]
  obtain ⟨a1, a2, a3, a4, a5, a6⟩ := p_q a ha
  obtain ⟨b1, b2, b3, b4, b5, b6⟩ := p_q b hb
  obtain ⟨c1, c2, c3, c4, c5, c6⟩ := p_q c hc
  have z1 := p_s3 a ha
  have z2 := p_s3 b hb
  have z3 := p_s3 c hc
  unfold m_J6_bitCount_0f7a4
  rw [ushK (s := 1) (c := 1) rfl (by omega) (by decide), show (1431655765 : Int32) = nI 1431655765 from rfl, nI_and, Nat.pow_one, p_one ha hb hc, nI_sub (by omega), nm_eq]
  have y1 : 256 * (256 * c + b) + a - (256 * (256 * (c / 2 &&& 85) + (b / 2 &&& 85)) + (a / 2 &&& 85)) = 256 * (256 * q1 c + q1 b) + q1 a := by unfold q1; omega
  rw [y1, ushK (s := 2) (c := 2) rfl (by omega) (by decide), show (858993459 : Int32) = nI 858993459 from rfl, nI_and, nI_and, show (2 : Nat) ^ 2 = 4 from rfl, show (858993459 : Nat) = 256 * (256 * (256 * 51 + 51) + 51) + 51 from rfl, p_and (by decide) a1 b1 c1]
  have y2 : (256 * (256 * q1 c + q1 b) + q1 a) / 4 = 256 * (256 * (q1 c / 4) + (q1 b / 4 + 64 * (q1 c % 4))) + (q1 a / 4 + 64 * (q1 b % 4)) := by omega
  rw [y2, p_and (by decide) (by omega) (by omega) (by omega), p_s2 (q1 b) b1 _ (by omega), p_s2 (q1 a) a1 _ (by omega), nI_add]
  have y3 : 256 * (256 * (q1 c &&& 51) + (q1 b &&& 51)) + (q1 a &&& 51) + (256 * (256 * (q1 c / 4 &&& 51) + (q1 b / 4 &&& 51)) + (q1 a / 4 &&& 51)) = 256 * (256 * q2 c + q2 b) + q2 a := by unfold q2; omega
  rw [y3, nm_eq, ushK (s := 4) (c := 4) rfl (by omega) (by decide), nI_add, show (252645135 : Int32) = nI 252645135 from rfl, nI_and, show (2 : Nat) ^ 4 = 16 from rfl, show (252645135 : Nat) = 256 * (256 * (256 * 15 + 15) + 15) + 15 from rfl]
  rw [p_y4, p_and (by decide) (by omega) (by omega) (by omega), p_s4 (q2 a) (by omega) _ (by omega) (by omega) (by omega), p_s4 (q2 b) (by omega) _ (by omega) (by omega) (by omega), p_s4 (q2 c) (by omega) _ (by omega) (by omega) (by omega), a5, b5, c5, nm_eq, ushK (s := 8) (c := 8) rfl (by omega) (by decide), nI_add, nm_eq, ushK (s := 16) (c := 16) rfl (by omega) (by decide), nI_add, nm_eq, show (63 : Int32) = nI (2 ^ 6 - 1) from rfl, nI_and, Nat.and_two_pow_sub_one_eq_mod]
  rw [p_y5 a6 b6 c6]
theorem e_lying {L G F : Nat} {st : Nat → Int32} (hC : L * G ≤ 24) (hF : F < 2 ^ (L * G)) (h : st 3 = nI F) : m_X5_lying (nI G) (nI L) st = some (nI (exn F 0 24)) := by
  have hF24 : F < 2 ^ 24 := Nat.lt_of_lt_of_le hF (Nat.pow_le_pow_right (by decide) hC)
  have hE1 : exn F 0 24 = exn F 0 (L * G) := by have := exn_ext (n := 0) hF (24 - L * G); rwa [show L * G + (24 - L * G) = 24 by omega] at this
  rw [hE1]
  unfold m_X5_lying
  refine lpUp _ _ (L * G) (fun k => (nI (exn F 0 k), nI k)) ?_ ?_ (by omega) 0 (by omega)
  · intro k rec hk hr
    dsimp only at hr ⊢
    unfold X5_lying_f4
    rw [e_cells5, obind, if_neg (nI_ge hk (by omega)), ldA3, h, nm_eq, shr1 (by omega) (by omega), bit1, nI_add, nI_1]
    have e1 : exn F 0 k + bn F k = exn F 0 (k + 1) := by
      rw [exn]; unfold bn; split <;> rfl
    rw [e1]
    exact hr
  · intro rec
    dsimp only
    unfold X5_lying_f4
    rw [e_cells5, obind, if_pos (nI_le (Nat.le_refl _) (by omega))]

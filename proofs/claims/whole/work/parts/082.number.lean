/-! NUMBERS of a text. -/
theorem rnt_all {B : Nat → Nat} {n q : Nat} : ∀ k i j, i ≤ j → j < rnt B n q k i → cls (B j) = q
  | 0, i, j, h1, h2 => by rw [rnt] at h2; omega
  | k + 1, i, j, h1, h2 => by
    rw [rnt] at h2
    by_cases y : i < n ∧ cls (B i) = q
    · rw [if_pos y] at h2
      by_cases z : j = i
      · rw [z]; exact y.2
      · exact rnt_all k (i + 1) j (by omega) h2
    · rw [if_neg y] at h2; omega
/-- the digits of a number token -/
theorem dig {B : Nat → Nat} {n e : Nat} (h2 : tkK B n e = 2) : tkS B n e < n ∧ tkS B n e < tkE B n e ∧ tkE B n e ≤ n ∧ ∀ j, tkS B n e ≤ j → j < tkE B n e → 48 ≤ B j ∧ B j ≤ 57 := by
  have hk2 : tkS B n e < n := by
    rcases Nat.lt_or_ge (tkS B n e) n with z | z
    · exact z
    · unfold tkK at h2; rw [if_neg (by omega)] at h2; omega
  have ek : cls (B (tkS B n e)) = 2 := by unfold tkK at h2; rw [if_pos hk2] at h2; exact h2
  have eE : tkE B n e = rnt B n 2 (n - (tkS B n e + 1)) (tkS B n e + 1) := by unfold tkE; rw [if_pos hk2, if_pos (Or.inr h2), h2]
  have hr := rnt_le (B := B) (n := n) (q := 2) (n - (tkS B n e + 1)) (tkS B n e + 1) (by omega)
  rw [← eE] at hr
  refine ⟨hk2, by omega, hr.2, fun j h3 h4 => cls2.mp ?_⟩
  by_cases z : j = tkS B n e
  · rw [z]; exact ek
  · rw [eE] at h4
    exact rnt_all _ _ j (by omega) h4
/-- its value -/
def nbv (B : Nat → Nat) (s l : Nat) : Nat := if l = 1 then B s - 48 else 10 * (B s - 48) + (B (s + 1) - 48)
theorem t10 (k : Nat) : (10 : Int32) * nI k = nI (10 * k) := nI_mul 10 k
theorem s48 {k : Nat} (h : 48 ≤ k) : nI k - (48 : Int32) = nI (k - 48) := nI_sub (b := 48) h
theorem nb_val {B : Nat → Nat} {s l : Nat} (hl : l = 1 ∨ l = 2) (hd : ∀ j, s ≤ j → j < s + l → 48 ≤ B j ∧ B j ≤ 57) : nb B s l = nI (nbv B s l) ∧ nbv B s l ≤ 99 := by
  have h0 := hd s (Nat.le_refl s) (by omega)
  have e1 : nb B s 1 = nI (B s - 48) := by
    have : nb B s 1 = ((10 * (0 : Int32)) + nI (B (s + 0))) - 48 := rfl
    rw [this, Int32.mul_zero, Int32.zero_add, Nat.add_zero, s48 h0.1]
  rcases hl with h | h <;> subst h
  · unfold nbv; rw [if_pos rfl]; exact ⟨e1, by omega⟩
  · have h1 := hd (s + 1) (by omega) (by omega)
    have e2 : nb B s 2 = ((10 * nb B s 1) + nI (B (s + 1))) - 48 := rfl
    unfold nbv
    rw [if_neg (by decide), e2, e1, t10, nI_add, s48 (by omega)]
    refine ⟨?_, by omega⟩
    rw [show 10 * (B s - 48) + B (s + 1) - 48 = 10 * (B s - 48) + (B (s + 1) - 48) by omega]
theorem gt2 {a : Nat} (h : a < 2 ^ 31) : (2 : Int32) < nI a ↔ 2 < a := nI_ltI (a := 2) (by decide) h
theorem e_number {n e : Nat} {B : Nat → Nat} {tx : Nat → Int32} (h : TB n B tx) (he : e ≤ n) : (tkK B n e = 2 → gd B n e → m_X1_numberHere (nI (tkK B n e)) (nI (tkS B n e)) (nI (tkE B n e)) tx = some (nb B (tkS B n e) (tkE B n e - tkS B n e))) ∧ (¬ (tkK B n e = 2 ∧ gd B n e) → m_X1_numberHere (nI (tkK B n e)) (nI (tkS B n e)) (nI (tkE B n e)) tx = some (-1)) := by
  have hn := h.1
  have j43 : ∀ s E, s ≤ E → E ≤ n → E - s < 3 → X1_numberHere_j43 (nI s) (nI E) tx = some (nb B s (E - s)) := by
    intro s E hs hE hl
    unfold X1_numberHere_j43
    refine lpUpI _ _ E (fun i st => s ≤ i ∧ st = (nb B s (i - s), nI i)) ?_ ?_ (by omega) s hs _ ⟨Nat.le_refl s, by rw [Nat.sub_self]; rfl⟩
    · intro i st rec hi hJ hrec
      obtain ⟨hsi, rfl⟩ := hJ
      dsimp only
      unfold X1_numberHere_f50
      rw [if_neg (nI_ge hi (by omega)), e_byteC h (by omega), obind, nm_eq, nI_1]
      refine hrec _ ⟨by omega, ?_⟩
      rw [show i + 1 - s = i - s + 1 by omega, nb, if_neg (by omega), show s + (i - s) = i by omega, Int32.mul_comm]
    · intro st rec hJ
      obtain ⟨hsi, rfl⟩ := hJ
      dsimp only
      unfold X1_numberHere_f50
      rw [if_pos (nI_le (Nat.le_refl E) (by omega))]
  have hkl : tkK B n e ≤ 4 := by
    unfold tkK
    split
    · exact cls_le.2
    · omega
  unfold m_X1_numberHere
  rw [nm_eq]
  by_cases k2 : tkK B n e = 2
  · obtain ⟨a1, a2, a3, a4⟩ := dig k2
    rw [if_pos ((eq2 (by omega)).mpr k2), nI_sub (by omega)]
    by_cases q2 : 2 < tkE B n e - tkS B n e
    · rw [if_pos ((gt2 (by omega)).mpr q2)]
      exact ⟨fun _ g => by have := g.1; omega, fun _ => rfl⟩
    · rw [if_neg (fun t => q2 ((gt2 (by omega)).mp t))]
      by_cases q3 : tkE B n e - tkS B n e = 2
      · rw [if_pos ((eq2 (by omega)).mpr q3), e_byteC h a1, obind]
        have hb := (h.2 _ a1).1
        by_cases q4 : B (tkS B n e) = 48
        · rw [if_pos ((eq48 (by omega)).mpr q4)]
          exact ⟨fun _ g => by have := g.2 q4; omega, fun _ => rfl⟩
        · rw [if_neg (fun t => q4 ((eq48 (by omega)).mp t)), j43 _ _ (by omega) a3 (by omega)]
          exact ⟨fun _ _ => rfl, fun t => absurd ⟨k2, by omega, fun y => absurd y q4⟩ t⟩
      · rw [if_neg (fun t => q3 ((eq2 (by omega)).mp t)), j43 _ _ (by omega) a3 (by omega)]
        exact ⟨fun _ _ => rfl, fun t => absurd ⟨k2, by omega, fun y => by omega⟩ t⟩
  · rw [if_neg (fun t => k2 ((eq2 (by omega)).mp t))]
    exact ⟨fun t => absurd t k2, fun _ => rfl⟩

/-! PACKED WORDS are the words. -/
theorem pk_pos {B : Nat → Nat} {s k : Nat} (hk : 0 < k) (h8 : k ≤ 8) (h : ∀ i, i < k → 1 ≤ B (s + i)) : 0 < pkN B s k := by
  obtain ⟨k, rfl⟩ : ∃ k', k = k' + 1 := ⟨k - 1, by omega⟩
  have := h k (by omega)
  rw [pkN, if_neg (by omega)]
  omega
theorem pk_inj {B B' : Nat → Nat} {s s' : Nat} : ∀ k k', k ≤ 8 → k' ≤ 8 → (∀ i, i < k → 1 ≤ B (s + i) ∧ B (s + i) < 256) → (∀ i, i < k' → 1 ≤ B' (s' + i) ∧ B' (s' + i) < 256) → pkN B s k = pkN B' s' k' → k = k' ∧ ∀ i, i < k → B (s + i) = B' (s' + i)
  | 0, 0, _, _, _, _, _ => ⟨rfl, fun i hi => absurd hi (Nat.not_lt_zero i)⟩
  | 0, k' + 1, _, h8, _, h', e => by
    have := pk_pos (B := B') (s := s') (k := k' + 1) (by omega) h8 (fun i hi => (h' i hi).1)
    rw [← e, pkN] at this
    omega
  | k + 1, 0, h8, _, h, _, e => by
    have := pk_pos (B := B) (s := s) (k := k + 1) (by omega) h8 (fun i hi => (h i hi).1)
    rw [e, pkN] at this
    omega
  | k + 1, k' + 1, h8, h8', h, h', e => by
    have hb := h k (by omega)
    have hb' := h' k' (by omega)
    rw [pkN, pkN, if_neg (by omega), if_neg (by omega)] at e
    have e1 : B (s + k) = B' (s' + k') := by omega
    have e2 : pkN B s k = pkN B' s' k' := by omega
    obtain ⟨i1, i2⟩ := pk_inj k k' (by omega) (by omega) (fun i hi => h i (by omega)) (fun i hi => h' i (by omega)) e2
    subst i1
    refine ⟨rfl, fun i hi => ?_⟩
    by_cases q : i = k
    · rw [q]; exact e1
    · exact i2 i (by omega)
theorem wb_ge : ∀ j, j < 7 → ∀ k, k < sLen.getD j 0 → 1 ≤ wb j k := by decide +kernel
theorem pk_word {B : Nat → Nat} {s l j : Nat} (hj : j < 7) (hl : 0 < l) (h : ∀ i, i < l → 97 ≤ B (s + i) ∧ B (s + i) < 256) : pkN B s l = pkN (wb j) 0 (sLen.getD j 0) ↔ Wd B s l j := by
  have hl8 := sLen_small j hj
  have hw : ∀ i, i < sLen.getD j 0 → 1 ≤ wb j (0 + i) ∧ wb j (0 + i) < 256 := fun i hi => by rw [Nat.zero_add]; exact ⟨wb_ge j hj i hi, wb_lt j hj i hi⟩
  have hlen : ∀ j, j < 7 → 0 < sLen.getD j 0 := by decide
  constructor
  · intro e
    by_cases q : l ≤ 8
    · obtain ⟨i1, i2⟩ := pk_inj l (sLen.getD j 0) q hl8 (fun i hi => by have := h i hi; omega) hw e
      exact ⟨i1, fun k hk => by have := i2 k hk; rwa [Nat.zero_add] at this⟩
    · have e0 : pkN B s l = 0 := by
        obtain ⟨m, rfl⟩ : ∃ m, l = m + 1 := ⟨l - 1, by omega⟩
        rw [pkN, if_pos (by omega)]
      have := pk_pos (B := wb j) (s := 0) (hlen j hj) hl8 (fun i hi => (hw i hi).1)
      omega
  · rintro ⟨e1, e2⟩
    subst e1
    have key : ∀ k, k ≤ sLen.getD j 0 → pkN B s k = pkN (wb j) 0 k := by
      intro k
      induction k with
      | zero => intro _; rfl
      | succ k ih =>
        intro hk
        rw [pkN, pkN, ih (by omega), e2 k (by omega), Nat.zero_add]
    exact key _ (Nat.le_refl _)
/-- the reference's constants -/
theorem pk_consts : pkN (wb 0) 0 (sLen.getD 0 0) = 32488805071086962 ∧ pkN (wb 1) 0 (sLen.getD 1 0) = 495891410553 ∧ pkN (wb 2) 0 (sLen.getD 2 0) = 112603093820786 ∧ pkN (wb 3) 0 (sLen.getD 3 0) = 7381237527265895794 ∧ pkN (wb 4) 0 (sLen.getD 4 0) = 108243533981541 ∧ pkN (wb 5) 0 (sLen.getD 5 0) = 7566702 ∧ pkN (wb 6) 0 (sLen.getD 6 0) = 1852797797 := by decide +kernel

/-! WORDS of a text. -/
def wN : List (List Nat) := [[115, 108, 101, 101, 112, 101, 114], [115, 117, 110, 110, 121], [102, 105, 115, 104, 101, 114], [102, 111, 108, 108, 111, 119, 101, 114], [98, 114, 105, 100, 103, 101], [115, 117, 110], [110, 111, 115, 101]]
def wb (j k : Nat) : Nat := (wN.getD j []).getD k 0
theorem wb_ch : ∀ j, j < 7 → ∀ k, k < sLen.getD j 0 → sCh j (nI k) = nI (wb j k) := by decide +kernel
theorem wb_lt : ∀ j, j < 7 → ∀ k, k < sLen.getD j 0 → wb j k < 256 := by decide +kernel
/-- the letters from s on, l of them, are the word j -/
def Wd (B : Nat → Nat) (s l j : Nat) : Prop := l = sLen.getD j 0 ∧ ∀ k, k < l → B (s + k) = wb j k
theorem e_isWord {n e j : Nat} {B : Nat → Nat} {tx : Nat → Int32} (h : TB n B tx) (he : e ≤ n) (hj : j < 7) : (tkK B n e = 1 → Wd B (tkS B n e) (tkE B n e - tkS B n e) j → m_X1_isWord j (nI (tkK B n e)) (nI (tkS B n e)) (nI (tkE B n e)) tx = some 1) ∧ (¬ (tkK B n e = 1 ∧ Wd B (tkS B n e) (tkE B n e - tkS B n e) j) → m_X1_isWord j (nI (tkK B n e)) (nI (tkS B n e)) (nI (tkE B n e)) tx = some 0) := by
  have hn := h.1
  have hl8 := sLen_small j hj
  have hkl : tkK B n e ≤ 4 := by
    unfold tkK
    split
    · exact cls_le.2
    · omega
  unfold m_X1_isWord
  by_cases k1 : tkK B n e = 1
  · have hk2 : tkS B n e < n := by
      rcases Nat.lt_or_ge (tkS B n e) n with z | z
      · exact z
      · unfold tkK at k1; rw [if_neg (by omega)] at k1; omega
    have eE : tkE B n e = rnt B n 1 (n - (tkS B n e + 1)) (tkS B n e + 1) := by unfold tkE; rw [if_pos hk2, if_pos (Or.inl k1), k1]
    have hr := rnt_le (B := B) (n := n) (q := 1) (n - (tkS B n e + 1)) (tkS B n e + 1) (by omega)
    rw [← eE] at hr
    generalize tkS B n e = s at hk2 hr ⊢
    generalize tkE B n e = E at hr ⊢
    rw [if_pos ((eq1 (by omega)).mpr k1), slI, if_pos hj, ofN, nI_sub (by omega)]
    by_cases ql : E - s = sLen.getD j 0
    · rw [if_pos (by rw [ql])]
      have key : ∀ r : Int32, (Wd B s (E - s) j → r = 1) → (¬ Wd B s (E - s) j → r = 0) → lpN (fun (rec : Int32 → Option (Int32)) (s' : Int32) => X1_isWord_f28 j (nI s) tx (fun _ => bzI 0 (some 0)) (fun _ => bzI 1 (some 1)) (fun r0 => rec (r0)) s') fz (0) = some r := by
        intro r r1 r0
        refine lpUpI _ _ (E - s) (fun k st => st = nI k ∧ ∀ i, i < k → B (s + i) = wb j i) ?_ ?_ (by omega) 0 (by omega) _ ⟨rfl, fun i hi => absurd hi (Nat.not_lt_zero i)⟩
        · intro k st rec hk hJ hrec
          obtain ⟨rfl, hJ⟩ := hJ
          have hb := (h.2 (s + k) (by omega)).1
          have hw := wb_lt j hj k (by omega)
          unfold X1_isWord_f28
          rw [slI, if_pos hj, ofN, if_neg (nI_ge (by omega) (by omega)), nI_add, e_byteC h (by omega), obind, chI, if_pos hj, if_neg (nI_oob (by omega) (by omega)), wb_ch j hj k (by omega)]
          by_cases y : B (s + k) = wb j k
          · rw [if_pos (by rw [y]), nI_1]
            refine hrec _ ⟨rfl, fun i hi => ?_⟩
            by_cases z : i = k
            · rw [z]; exact y
            · exact hJ i (by omega)
          · rw [if_neg (fun t => y ((nI_eq (by omega) (by omega)).mp t)), bz0, r0 (fun w => y (w.2 k hk))]
        · intro st rec hJ
          obtain ⟨rfl, hJ⟩ := hJ
          unfold X1_isWord_f28
          rw [slI, if_pos hj, ofN, if_pos (nI_le (by omega) (by omega)), bz1, r1 ⟨ql, hJ⟩]
      exact ⟨fun _ w => key 1 (fun _ => rfl) (fun t => absurd w t), fun t => key 0 (fun w => absurd ⟨k1, w⟩ t) (fun _ => rfl)⟩
    · rw [if_neg (fun t => ql ((nI_eq (by omega) (by omega)).mp t)), bz0]
      exact ⟨fun _ w => absurd w.1 ql, fun _ => rfl⟩
  · rw [if_neg (fun t => k1 ((eq1 (by omega)).mp t)), bz0]
    exact ⟨fun t => absurd t k1, fun _ => rfl⟩

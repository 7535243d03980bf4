/-! The word that stands here, in the class. -/
theorem e_wordHere {n e : Nat} {B : Nat → Nat} {tx : Nat → Int32} (h : TB n B tx) (he : e ≤ n) : ∃ w, w ≤ 7 ∧ m_X1_wordHere (nI (tkK B n e)) (nI (tkS B n e)) (nI (tkE B n e)) tx = some (nI w) ∧ (w < 7 → tkK B n e = 1 ∧ Wd B (tkS B n e) (tkE B n e - tkS B n e) w) ∧ ∀ j, j < w → ¬ (tkK B n e = 1 ∧ Wd B (tkS B n e) (tkE B n e - tkS B n e) j) := by
  have st : ∀ j, j < 7 → (m_X1_isWord j (nI (tkK B n e)) (nI (tkS B n e)) (nI (tkE B n e)) tx = some 1 ∧ (tkK B n e = 1 ∧ Wd B (tkS B n e) (tkE B n e - tkS B n e) j)) ∨ (m_X1_isWord j (nI (tkK B n e)) (nI (tkS B n e)) (nI (tkE B n e)) tx = some 0 ∧ ¬ (tkK B n e = 1 ∧ Wd B (tkS B n e) (tkE B n e - tkS B n e) j)) := by
    intro j hj
    obtain ⟨a, b⟩ := e_isWord (j := j) h he hj
    by_cases q : tkK B n e = 1 ∧ Wd B (tkS B n e) (tkE B n e - tkS B n e) j
    · exact Or.inl ⟨a q.1 q.2, q⟩
    · exact Or.inr ⟨b q, q⟩
  unfold m_X1_wordHere
  rcases st 0 (by decide) with ⟨a0, b0⟩ | ⟨a0, b0⟩
  · rw [a0, obind, if_neg (show ¬ (1 : Int32) = 0 by decide)]
    refine ⟨0, by decide, rfl, fun _ => b0, ?_⟩
    exact fun j hj => absurd hj (Nat.not_lt_zero j)
  · rw [a0, obind, if_pos rfl]
    rcases st 1 (by decide) with ⟨a1, b1⟩ | ⟨a1, b1⟩
    · rw [a1, obind, if_neg (show ¬ (1 : Int32) = 0 by decide)]
      refine ⟨1, by decide, rfl, fun _ => b1, ?_⟩
      intro j hj
      have z : j = 0 := by omega
      rw [z]; exact b0
    · rw [a1, obind, if_pos rfl]
      rcases st 2 (by decide) with ⟨a2, b2⟩ | ⟨a2, b2⟩
      · rw [a2, obind, if_neg (show ¬ (1 : Int32) = 0 by decide)]
        refine ⟨2, by decide, rfl, fun _ => b2, ?_⟩
        intro j hj
        rcases (show j = 0 ∨ j = 1 by omega) with z | z
        · rw [z]; exact b0
        · rw [z]; exact b1
      · rw [a2, obind, if_pos rfl]
        rcases st 3 (by decide) with ⟨a3, b3⟩ | ⟨a3, b3⟩
        · rw [a3, obind, if_neg (show ¬ (1 : Int32) = 0 by decide)]
          refine ⟨3, by decide, rfl, fun _ => b3, ?_⟩
          intro j hj
          rcases (show j = 0 ∨ j = 1 ∨ j = 2 by omega) with z | z | z
          · rw [z]; exact b0
          · rw [z]; exact b1
          · rw [z]; exact b2
        · rw [a3, obind, if_pos rfl]
          rcases st 4 (by decide) with ⟨a4, b4⟩ | ⟨a4, b4⟩
          · rw [a4, obind, if_neg (show ¬ (1 : Int32) = 0 by decide)]
            refine ⟨4, by decide, rfl, fun _ => b4, ?_⟩
            intro j hj
            rcases (show j = 0 ∨ j = 1 ∨ j = 2 ∨ j = 3 by omega) with z | z | z | z
            · rw [z]; exact b0
            · rw [z]; exact b1
            · rw [z]; exact b2
            · rw [z]; exact b3
          · rw [a4, obind, if_pos rfl]
            rcases st 5 (by decide) with ⟨a5, b5⟩ | ⟨a5, b5⟩
            · rw [a5, obind, if_neg (show ¬ (1 : Int32) = 0 by decide)]
              refine ⟨5, by decide, rfl, fun _ => b5, ?_⟩
              intro j hj
              rcases (show j = 0 ∨ j = 1 ∨ j = 2 ∨ j = 3 ∨ j = 4 by omega) with z | z | z | z | z
              · rw [z]; exact b0
              · rw [z]; exact b1
              · rw [z]; exact b2
              · rw [z]; exact b3
              · rw [z]; exact b4
            · rw [a5, obind, if_pos rfl]
              rcases st 6 (by decide) with ⟨a6, b6⟩ | ⟨a6, b6⟩
              · rw [a6, obind, if_neg (show ¬ (1 : Int32) = 0 by decide)]
                refine ⟨6, by decide, rfl, fun _ => b6, ?_⟩
                intro j hj
                rcases (show j = 0 ∨ j = 1 ∨ j = 2 ∨ j = 3 ∨ j = 4 ∨ j = 5 by omega) with z | z | z | z | z | z
                · rw [z]; exact b0
                · rw [z]; exact b1
                · rw [z]; exact b2
                · rw [z]; exact b3
                · rw [z]; exact b4
                · rw [z]; exact b5
              · rw [a6, obind, if_pos rfl]
                refine ⟨7, by decide, rfl, fun t => absurd t (by decide), ?_⟩
                intro j hj
                rcases (show j = 0 ∨ j = 1 ∨ j = 2 ∨ j = 3 ∨ j = 4 ∨ j = 5 ∨ j = 6 by omega) with z | z | z | z | z | z | z
                · rw [z]; exact b0
                · rw [z]; exact b1
                · rw [z]; exact b2
                · rw [z]; exact b3
                · rw [z]; exact b4
                · rw [z]; exact b5
                · rw [z]; exact b6

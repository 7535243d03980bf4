/-! READING: bridge, sun, nose. -/
theorem j_none {n e : Nat} {B : Nat → Nat} {tx tx' S H W S' H' W' : Nat → Int32} {x : Int32} {t num : Int32} {wd : Int64} {L G s0 pc ns cc bm sm nm sL sG sC sS sP sN hS hN b : Int32} (h : TB n B tx) (he : e ≤ n) (hw : m_X1_wordHere (nI (tkK B n e)) (nI (tkS B n e)) (nI (tkE B n e)) tx = some (nI 7)) (D : ∀ i, i < 7 → (lg_cmp (if t = 1 then wd else 0) (cwd i) = 0 ↔ i = 7)) :
    ∃ q r, m_X1_readItem (nI n) (nI (tkK B n e)) (nI (tkS B n e)) (nI (tkE B n e)) (-1) tx L G s0 pc ns cc bm sm nm S H W = some q ∧ m_X5_readItem b (nI n) (nI (tkE B n e)) (nI (tkS B n e)) t num wd 0 sL sG sC sS sP sN hS hN tx' H' W' S' = some r ∧ IPb n q r := by
  have hn := h.1
  have hbd := tk_bd (B := B) he
  have j : ∀ z : Int64, (∀ i, i < 7 → (lg_cmp z (cwd i) = 0 ↔ i = 7)) → ∃ r, X5_readItem_j16 b z (nI n) (nI (tkE B n e)) (nI (tkS B n e)) t num wd 0 sL sG sC sS sP sN hS hN tx' H' W' S' = some r ∧ r.2.1 = nI (tkS B n e) ∧ r.2.2.2.2.2.1 = 1 := by
    intro z D
    have g0 : ¬ lg_cmp z 32488805071086962 = 0 := fun y => absurd ((D 0 (by decide)).mp y) (by decide)
    have g1 : ¬ lg_cmp z 495891410553 = 0 := fun y => absurd ((D 1 (by decide)).mp y) (by decide)
    have g2 : ¬ lg_cmp z 112603093820786 = 0 := fun y => absurd ((D 2 (by decide)).mp y) (by decide)
    have g3 : ¬ lg_cmp z 7381237527265895794 = 0 := fun y => absurd ((D 3 (by decide)).mp y) (by decide)
    have g4 : ¬ lg_cmp z 108243533981541 = 0 := fun y => absurd ((D 4 (by decide)).mp y) (by decide)
    have g5 : ¬ lg_cmp z 7566702 = 0 := fun y => absurd ((D 5 (by decide)).mp y) (by decide)
    have g6 : ¬ lg_cmp z 1852797797 = 0 := fun y => absurd ((D 6 (by decide)).mp y) (by decide)
    unfold X5_readItem_j16
    rw [if_neg g4, if_neg g5, if_neg g6, if_neg g0, if_neg g1, if_neg g2, if_neg g3]
    unfold X5_readItem_j113
    rw [if_pos rfl, bz1]
    exact ⟨_, rfl, rfl, rfl⟩
  have k1 : m_X1_mayBegin (nI 7) cc bm sm nm = some 0 := by
    unfold m_X1_mayBegin
    rw [if_neg (by decide), if_neg (by decide), if_neg (by decide), if_pos (show nI 7 = Int32.ofNat 7 from rfl), bz0]
  have k2 : m_X1_fail (nI (tkS B n e)) (-1) = some (flC 1 (tkS B n e)) := c_fail (w := 0) (by omega) (by omega)
  unfold m_X1_readItem m_X5_readItem
  rw [hw, obind, k1, obind, if_pos rfl, k2, obind]
  by_cases q : t = 1
  · rw [if_pos q] at D ⊢
    obtain ⟨r, h1, h2, h3⟩ := j _ D
    exact ⟨_, r, rfl, h1, tkS B n e, hbd.2.1, rfl, h2, h3⟩
  · rw [if_neg q] at D ⊢
    obtain ⟨r, h1, h2, h3⟩ := j _ D
    exact ⟨_, r, rfl, h1, tkS B n e, hbd.2.1, rfl, h2, h3⟩
theorem ri16 {t num : Int32} {wd : Int64} {x a b c sL sG sC sS sP sN hS hN w : Int32} {tx' H' W' S' : Nat → Int32} : m_X5_readItem x a b c t num wd w sL sG sC sS sP sN hS hN tx' H' W' S' = X5_readItem_j16 x (if t = 1 then wd else 0) a b c t num wd w sL sG sC sS sP sN hS hN tx' H' W' S' := by
  unfold m_X5_readItem
  by_cases q : t = 1
  · rw [if_pos q, if_pos q]
  · rw [if_neg q, if_neg q]
theorem r_bridge {n e b w e1 w1 e2 w2 e3 w3 e4 w4 : Nat} {B : Nat → Nat} {tx : Nat → Int32} {t num : Int32} {wd : Int64} (h : TM n B tx) (he : e ≤ n) (hw : w ≤ 1) (hb : b ≤ 1) (R : RT B n e t num wd) (A1 : Adv B n (b = 1) e w e1 w1) (A2 : Adv B n (Nm B n e1 1 8) e1 w1 e2 w2) (A3 : Adv B n (Nm B n e2 1 3) e2 w2 e3 w3) (A4 : Adv B n (tkK B n e3 = 3) e3 w3 e4 w4) :
    ∃ t' num' wd' v1 v2, m_X5_readBridge (nI b) (nI n) (nI (tkE B n e)) (nI (tkS B n e)) t num wd (nI w) tx = some (nI (tkE B n e4), nI (tkS B n e4), t', num', wd', nI w4, v1, v2) ∧ RT B n e4 t' num' wd' ∧ (w4 = 0 → v1 = Nv B n e1 ∧ v2 = Nv B n e2) := by
  have hb1 := adv_bd A1 he
  have hb2 := adv_bd A2 hb1.2.1
  have hb3 := adv_bd A3 hb2.2.1
  have hb4 := adv_bd A4 hb3.2.1
  obtain ⟨t1, n1, d1, g1, R1⟩ := r_must h he hw hb R A1
  obtain ⟨v2, t2, n2, d2, g2, R2, q2⟩ := r_num h hb1.2.1 hb1.2.2.1 R1 A2
  obtain ⟨v3, t3, n3, d3, g3, R3, q3⟩ := r_num h hb2.2.1 hb2.2.2.1 R2 A3
  have key : ∀ z : Nat, z ≤ 1 → (z = 1 ↔ tkK B n e3 = 3) → ∃ t' num' wd' v1 v2', X5_readBridge_j40 (nI z) (nI n) (nI (tkE B n e3)) (nI (tkS B n e3)) t3 n3 d3 (nI w3) v2 v3 tx = some (nI (tkE B n e4), nI (tkS B n e4), t', num', wd', nI w4, v1, v2') ∧ RT B n e4 t' num' wd' ∧ (w4 = 0 → v1 = Nv B n e1 ∧ v2' = Nv B n e2) := by
    intro z hz hq
    obtain ⟨t4, n4, d4, g4, R4⟩ := r_must h hb3.2.1 hb3.2.2.1 hz R3 (adv_cg A4 hq.symm)
    unfold X5_readBridge_j40
    rw [g4, obind]
    refine ⟨_, _, _, _, _, rfl, R4, fun y => ?_⟩
    have y3 := (hb4.2.2.2 y).1
    exact ⟨q2 (hb3.2.2.2 y3).1, q3 y3⟩
  have h3 := (rt13 R3).1
  unfold m_X5_readBridge
  rw [g1, obind]
  dsimp only
  rw [g2, obind]
  dsimp only
  rw [g3, obind]
  dsimp only
  by_cases q : t3 = 3
  · rw [if_pos q]
    exact key 1 (by omega) ⟨fun _ => h3.mp q, fun _ => rfl⟩
  · rw [if_neg q]
    exact key 0 (by omega) ⟨fun y => by omega, fun y => absurd (h3.mpr y) q⟩
theorem r_sun {n e b w e1 w1 e2 w2 e3 w3 e4 w4 : Nat} {B : Nat → Nat} {tx : Nat → Int32} {t num : Int32} {wd : Int64} (h : TM n B tx) (he : e ≤ n) (hw : w ≤ 1) (hb : b ≤ 1) (R : RT B n e t num wd) (A1 : Adv B n (b = 1) e w e1 w1) (A2 : Adv B n (Nm B n e1 0 7) e1 w1 e2 w2) (A3 : Adv B n (Nm B n e2 1 9) e2 w2 e3 w3) (A4 : Adv B n (tkK B n e3 = 3) e3 w3 e4 w4) :
    ∃ t' num' wd' v1 v2, m_X5_readSun (nI n) (nI (tkE B n e)) (nI (tkS B n e)) t num wd (nI w) (nI (1 - b)) tx = some (nI (tkE B n e4), nI (tkS B n e4), t', num', wd', nI w4, v1, v2, 1) ∧ RT B n e4 t' num' wd' ∧ (w4 = 0 → v1 = Nv B n e1 ∧ v2 = Nv B n e2) := by
  have hb1 := adv_bd A1 he
  have hb2 := adv_bd A2 hb1.2.1
  have hb3 := adv_bd A3 hb2.2.1
  have hb4 := adv_bd A4 hb3.2.1
  obtain ⟨t1, n1, d1, g1, R1⟩ := r_must h he hw hb R A1
  obtain ⟨v2, t2, n2, d2, g2, R2, q2⟩ := r_num h hb1.2.1 hb1.2.2.1 R1 A2
  obtain ⟨v3, t3, n3, d3, g3, R3, q3⟩ := r_num h hb2.2.1 hb2.2.2.1 R2 A3
  have key : ∀ z : Nat, z ≤ 1 → (z = 1 ↔ tkK B n e3 = 3) → ∃ t' num' wd' v1 v2', X5_readSun_j57 (nI z) (nI n) (nI (tkE B n e3)) (nI (tkS B n e3)) t3 n3 d3 (nI w3) v2 v3 1 tx = some (nI (tkE B n e4), nI (tkS B n e4), t', num', wd', nI w4, v1, v2', 1) ∧ RT B n e4 t' num' wd' ∧ (w4 = 0 → v1 = Nv B n e1 ∧ v2' = Nv B n e2) := by
    intro z hz hq
    obtain ⟨t4, n4, d4, g4, R4⟩ := r_must h hb3.2.1 hb3.2.2.1 hz R3 (adv_cg A4 hq.symm)
    unfold X5_readSun_j57
    rw [g4, obind]
    refine ⟨_, _, _, _, _, rfl, R4, fun y => ?_⟩
    have y3 := (hb4.2.2.2 y).1
    exact ⟨q2 (hb3.2.2.2 y3).1, q3 y3⟩
  have h3 := (rt13 R3).1
  have j13 : ∃ t' num' wd' v1 v2, X5_readSun_j13 (nI b) (nI n) (nI (tkE B n e)) (nI (tkS B n e)) t num wd (nI w) tx = some (nI (tkE B n e4), nI (tkS B n e4), t', num', wd', nI w4, v1, v2, 1) ∧ RT B n e4 t' num' wd' ∧ (w4 = 0 → v1 = Nv B n e1 ∧ v2 = Nv B n e2) := by
    unfold X5_readSun_j13
    rw [g1, obind]
    dsimp only
    rw [bz1, g2, obind]
    dsimp only
    rw [g3, obind]
    dsimp only
    by_cases q : t3 = 3
    · rw [if_pos q]
      exact key 1 (by omega) ⟨fun _ => h3.mp q, fun _ => rfl⟩
    · rw [if_neg q]
      exact key 0 (by omega) ⟨fun y => by omega, fun y => absurd (h3.mpr y) q⟩
  unfold m_X5_readSun
  rcases (show b = 0 ∨ b = 1 by omega) with rfl | rfl
  · rw [if_neg (by decide)]; exact j13
  · rw [if_pos (show nI (1 - 1) = 0 from rfl)]; exact j13
theorem r_nose {n e b w e1 w1 e2 w2 e4 w4 : Nat} {B : Nat → Nat} {tx : Nat → Int32} {t num : Int32} {wd : Int64} (h : TM n B tx) (he : e ≤ n) (hw : w ≤ 1) (hb : b ≤ 1) (R : RT B n e t num wd) (A1 : Adv B n (b = 1) e w e1 w1) (A2 : Adv B n (Nm B n e1 0 9) e1 w1 e2 w2) (A4 : Adv B n (tkK B n e2 = 3) e2 w2 e4 w4) :
    ∃ t' num' wd' v1, m_X5_readNose (nI n) (nI (tkE B n e)) (nI (tkS B n e)) t num wd (nI w) (nI (1 - b)) tx = some (nI (tkE B n e4), nI (tkS B n e4), t', num', wd', nI w4, v1, 1) ∧ RT B n e4 t' num' wd' ∧ (w4 = 0 → v1 = Nv B n e1) := by
  have hb1 := adv_bd A1 he
  have hb2 := adv_bd A2 hb1.2.1
  have hb4 := adv_bd A4 hb2.2.1
  obtain ⟨t1, n1, d1, g1, R1⟩ := r_must h he hw hb R A1
  obtain ⟨v2, t2, n2, d2, g2, R2, q2⟩ := r_num h hb1.2.1 hb1.2.2.1 R1 A2
  have key : ∀ z : Nat, z ≤ 1 → (z = 1 ↔ tkK B n e2 = 3) → ∃ t' num' wd' v1, X5_readNose_j46 (nI z) (nI n) (nI (tkE B n e2)) (nI (tkS B n e2)) t2 n2 d2 (nI w2) v2 1 tx = some (nI (tkE B n e4), nI (tkS B n e4), t', num', wd', nI w4, v1, 1) ∧ RT B n e4 t' num' wd' ∧ (w4 = 0 → v1 = Nv B n e1) := by
    intro z hz hq
    obtain ⟨t4, n4, d4, g4, R4⟩ := r_must h hb2.2.1 hb2.2.2.1 hz R2 (adv_cg A4 hq.symm)
    unfold X5_readNose_j46
    rw [g4, obind]
    exact ⟨_, _, _, _, rfl, R4, fun y => q2 (hb4.2.2.2 y).1⟩
  have h3 := (rt13 R2).1
  have j13 : ∃ t' num' wd' v1, X5_readNose_j13 (nI b) (nI n) (nI (tkE B n e)) (nI (tkS B n e)) t num wd (nI w) tx = some (nI (tkE B n e4), nI (tkS B n e4), t', num', wd', nI w4, v1, 1) ∧ RT B n e4 t' num' wd' ∧ (w4 = 0 → v1 = Nv B n e1) := by
    unfold X5_readNose_j13
    rw [g1, obind]
    dsimp only
    rw [bz1, g2, obind]
    dsimp only
    by_cases q : t2 = 3
    · rw [if_pos q]
      exact key 1 (by omega) ⟨fun _ => h3.mp q, fun _ => rfl⟩
    · rw [if_neg q]
      exact key 0 (by omega) ⟨fun y => by omega, fun y => absurd (h3.mpr y) q⟩
  unfold m_X5_readNose
  rcases (show b = 0 ∨ b = 1 by omega) with rfl | rfl
  · rw [if_neg (by decide)]; exact j13
  · rw [if_pos (show nI (1 - 1) = 0 from rfl)]; exact j13

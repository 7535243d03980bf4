/-! READING: the items bridge, sun, nose on both sides. -/
theorem j_bridge {n e L G s0 pc ns nc b sm nm : Nat} {c hb wh : Nat → Nat} {B : Nat → Nat} {tx tx' S H W S' H' W' : Nat → Int32} {t num : Int32} {wd : Int64} (h : TB n B tx) (h' : TM n B tx') (he : e ≤ n) (hk0 : tkK B n e ≠ 0) (R : RT B n e t num wd) (hb1 : b ≤ 1) (hsm : sm ≤ 1) (hnm : nm ≤ 1) (hbn : b = 1 → nc = 0) (P : PB L G s0 pc ns nc c hb wh) (X1 : AR nc c hb wh S H W) (X2 : AR nc c hb wh S' H' W') (hw : m_X1_wordHere (nI (tkK B n e)) (nI (tkS B n e)) (nI (tkE B n e)) tx = some (nI 4)) (D : ∀ i, i < 7 → (lg_cmp (if t = 1 then wd else 0) (cwd i) = 0 ↔ i = 4)) :
    ∃ q r, m_X1_readItem (nI n) (nI (tkK B n e)) (nI (tkS B n e)) (nI (tkE B n e)) (-1) tx (nI L) (nI G) (nI s0) (nI pc) (nI ns) (nI nc) (nI b) (nI sm) (nI nm) S H W = some q ∧ m_X5_readItem (nI b) (nI n) (nI (tkE B n e)) (nI (tkS B n e)) t num wd 0 (nI L) (nI G) (nI nc) (nI s0) (nI pc) (nI ns) (nI (1 - sm)) (nI (1 - nm)) tx' H' W' S' = some r ∧ (IPg B n e q r ∨ IPb n q r) := by
  have hn := h.1
  have hbd := tk_bd (B := B) he
  have hE : e < tkE B n e := by have := hbd.2.2.2.2 hk0; omega
  obtain ⟨e1, w1, A1⟩ := adv_ex (B := B) (n := n) (b = 1) e 0
  obtain ⟨e2, w2, A2⟩ := adv_ex (B := B) (n := n) (Nm B n e1 1 8) e1 w1
  obtain ⟨e3, w3, A3⟩ := adv_ex (B := B) (n := n) (Nm B n e2 1 3) e2 w2
  obtain ⟨e4, w4, A4⟩ := adv_ex (B := B) (n := n) (tkK B n e3 = 3) e3 w3
  have b1 := adv_bd A1 he
  have b2 := adv_bd A2 b1.2.1
  have b3 := adv_bd A3 b2.2.1
  have b4 := adv_bd A4 b3.2.1
  obtain ⟨t', num', wd', v1, v2, g, R4, hv⟩ := r_bridge h' he (w := 0) (by omega) hb1 R A1 A2 A3 A4
  have g' : m_X5_readBridge (nI b) (nI n) (nI (tkE B n e)) (nI (tkS B n e)) t num wd 0 tx' = some (nI (tkE B n e4), nI (tkS B n e4), t', num', wd', nI w4, v1, v2) := g
  have gr : m_X5_readItem (nI b) (nI n) (nI (tkE B n e)) (nI (tkS B n e)) t num wd 0 (nI L) (nI G) (nI nc) (nI s0) (nI pc) (nI ns) (nI (1 - sm)) (nI (1 - nm)) tx' H' W' S' = some (nI (tkE B n e4), nI (tkS B n e4), t', num', wd', nI w4, v1, v2, nI nc, nI s0, nI pc, nI ns, nI (1 - sm), nI (1 - nm), H', W', S') := by
    have g4 : lg_cmp (if t = 1 then wd else 0) 108243533981541 = 0 := (D 4 (by decide)).mpr rfl
    rw [ri16]
    unfold X5_readItem_j16
    rw [if_pos g4, g', obind]
  have k1 : m_X1_mayBegin (nI 4) (nI nc) (nI b) (nI sm) (nI nm) = some (nI b) := by
    unfold m_X1_mayBegin
    rw [if_pos (show nI 4 = Int32.ofNat 4 from rfl), bz_nI hb1]
  rcases (show b = 0 ∨ b = 1 by omega) with rfl | rfl
  · obtain ⟨rfl, rfl⟩ := A1.2 (fun y => by omega)
    obtain ⟨rfl, rfl⟩ := A2.2 (fun y => by omega)
    obtain ⟨rfl, rfl⟩ := A3.2 (fun y => by omega)
    obtain ⟨rfl, rfl⟩ := A4.2 (fun y => by omega)
    have k2 : m_X1_fail (nI (tkS B n e4)) (-1) = some (flC 1 (tkS B n e4)) := c_fail (w := 0) (by omega) (by omega)
    refine ⟨(nI (tkK B n e4), nI (tkS B n e4), nI (tkE B n e4), flC 1 (tkS B n e4), nI L, nI G, nI s0, nI pc, nI ns, nI nc, nI 0, nI sm, nI nm, S, H, W), _, ?_, gr, Or.inr (IPb_mk (B := B) (n := n) (e := e4) (w := 1) he rfl rfl rfl rfl)⟩
    unfold m_X1_readItem
    rw [hw, obind, k1, obind, if_pos (show nI 0 = 0 from rfl), k2, obind]
  · obtain ⟨rfl, rfl⟩ := A1.1 ⟨rfl, rfl⟩
    have c1 : m_X1_takeNumber 1 8 (nI n) (nI (tkK B n (tkE B n e))) (nI (tkS B n (tkE B n e))) (nI (tkE B n (tkE B n e))) (-1) tx = _ := c_num (w := 0) (lo := 1) (hi := 8) h b1.2.1 (by omega) (by decide) A2
    have c2 := c_num h b2.2.1 b2.2.2.1 (by decide) A3
    have c3 := c_stop h b3.2.1 b3.2.2.1 A4
    have gc : m_X1_readItem (nI n) (nI (tkK B n e)) (nI (tkS B n e)) (nI (tkE B n e)) (-1) tx (nI L) (nI G) (nI s0) (nI pc) (nI ns) (nI nc) (nI 1) (nI sm) (nI nm) S H W = some (nI (tkK B n e4), nI (tkS B n e4), nI (tkE B n e4), flC w4 (tkS B n e4), (if w2 = 0 then Nv B n (tkE B n e) else 1), (if w3 = 0 then Nv B n e2 else 1), nI s0, nI pc, nI ns, nI nc, 0, nI sm, nI nm, S, H, W) := by
      unfold m_X1_readItem
      rw [hw, obind, k1, obind, if_neg (by decide), e_take h hbd.2.2.2.1, obind, bz0, if_pos (show nI 4 = Int32.ofNat 4 from rfl)]
      dsimp only
      rw [c1, obind]
      dsimp only
      rw [c2, obind]
      dsimp only
      unfold X1_readItem_j135
      rw [c3, obind]
      rfl
    rcases (show w4 = 0 ∨ w4 = 1 by omega) with y | y
    · have y4 := b4.2.2.2 y
      have y3 := b3.2.2.2 y4.1
      have y2 := b2.2.2.2 y3.1
      obtain ⟨k, hk1, hk2, hk⟩ := nm_rng (a := 1) (b := 8) b1.2.1 (by decide) (by decide) y2.2.1
      obtain ⟨l, hl1, hl2, hl⟩ := nm_rng (a := 1) (b := 3) b2.2.1 (by decide) (by decide) y3.2.1
      have hv' := hv y
      subst y
      rw [hv'.1, hv'.2, hk, hl] at gr
      rw [if_pos y3.1, if_pos y4.1, hk, hl] at gc
      have n0 := hbn rfl
      subst n0
      refine ⟨_, _, gc, gr, Or.inl ⟨e4, k, l, s0, pc, ns, 0, c, hb, wh, sm, nm, S, H, W, S', H', W', t', num', wd', rfl, rfl, by omega, by omega, R4, hsm, hnm, ?_, X1, X2⟩⟩
      obtain ⟨p1, p2, p3, p4, p5, p6, p7, p8, p9, p10, p11⟩ := P
      exact ⟨by omega, by omega, by omega, by omega, p5, p6, p7, p8, p9, fun j hj => absurd hj (Nat.not_lt_zero j), fun i j hi => absurd hi (Nat.not_lt_zero i)⟩
    · exact ⟨_, _, gc, gr, Or.inr (IPb_mk (B := B) (n := n) (e := e4) (w := w4) b4.2.1 y rfl rfl rfl)⟩
theorem j_sun {n e L G s0 pc ns nc b sm nm : Nat} {c hb wh : Nat → Nat} {B : Nat → Nat} {tx tx' S H W S' H' W' : Nat → Int32} {t num : Int32} {wd : Int64} (h : TB n B tx) (h' : TM n B tx') (he : e ≤ n) (hk0 : tkK B n e ≠ 0) (R : RT B n e t num wd) (hb1 : b ≤ 1) (hsm : sm ≤ 1) (hnm : nm ≤ 1) (hbn : b = 1 → nc = 0) (P : PB L G s0 pc ns nc c hb wh) (X1 : AR nc c hb wh S H W) (X2 : AR nc c hb wh S' H' W') (hw : m_X1_wordHere (nI (tkK B n e)) (nI (tkS B n e)) (nI (tkE B n e)) tx = some (nI 5)) (D : ∀ i, i < 7 → (lg_cmp (if t = 1 then wd else 0) (cwd i) = 0 ↔ i = 5)) :
    ∃ q r, m_X1_readItem (nI n) (nI (tkK B n e)) (nI (tkS B n e)) (nI (tkE B n e)) (-1) tx (nI L) (nI G) (nI s0) (nI pc) (nI ns) (nI nc) (nI b) (nI sm) (nI nm) S H W = some q ∧ m_X5_readItem (nI b) (nI n) (nI (tkE B n e)) (nI (tkS B n e)) t num wd 0 (nI L) (nI G) (nI nc) (nI s0) (nI pc) (nI ns) (nI (1 - sm)) (nI (1 - nm)) tx' H' W' S' = some r ∧ (IPg B n e q r ∨ IPb n q r) := by
  have hn := h.1
  have hbd := tk_bd (B := B) he
  have hE : e < tkE B n e := by have := hbd.2.2.2.2 hk0; omega
  obtain ⟨e1, w1, A1⟩ := adv_ex (B := B) (n := n) (sm = 1) e 0
  obtain ⟨e2, w2, A2⟩ := adv_ex (B := B) (n := n) (Nm B n e1 0 7) e1 w1
  obtain ⟨e3, w3, A3⟩ := adv_ex (B := B) (n := n) (Nm B n e2 1 9) e2 w2
  obtain ⟨e4, w4, A4⟩ := adv_ex (B := B) (n := n) (tkK B n e3 = 3) e3 w3
  have b1 := adv_bd A1 he
  have b2 := adv_bd A2 b1.2.1
  have b3 := adv_bd A3 b2.2.1
  have b4 := adv_bd A4 b3.2.1
  obtain ⟨t', num', wd', v1, v2, g, R4, hv⟩ := r_sun h' he (w := 0) (by omega) hsm R A1 A2 A3 A4
  have g' : m_X5_readSun (nI n) (nI (tkE B n e)) (nI (tkS B n e)) t num wd 0 (nI (1 - sm)) tx' = some (nI (tkE B n e4), nI (tkS B n e4), t', num', wd', nI w4, v1, v2, 1) := g
  have gr : m_X5_readItem (nI b) (nI n) (nI (tkE B n e)) (nI (tkS B n e)) t num wd 0 (nI L) (nI G) (nI nc) (nI s0) (nI pc) (nI ns) (nI (1 - sm)) (nI (1 - nm)) tx' H' W' S' = some (nI (tkE B n e4), nI (tkS B n e4), t', num', wd', nI w4, nI L, nI G, nI nc, v1, v2, nI ns, 1, nI (1 - nm), H', W', S') := by
    have g4 : ¬ lg_cmp (if t = 1 then wd else 0) 108243533981541 = 0 := fun y => absurd ((D 4 (by decide)).mp y) (by decide)
    have g5 : lg_cmp (if t = 1 then wd else 0) 7566702 = 0 := (D 5 (by decide)).mpr rfl
    rw [ri16]
    unfold X5_readItem_j16
    rw [if_neg g4, if_pos g5, g', obind]
  have k1 : m_X1_mayBegin (nI 5) (nI nc) (nI b) (nI sm) (nI nm) = some (nI sm) := by
    unfold m_X1_mayBegin
    rw [if_neg (by decide), if_pos (show nI 5 = Int32.ofNat 5 from rfl), bz_nI hsm]
  rcases (show sm = 0 ∨ sm = 1 by omega) with rfl | rfl
  · obtain ⟨rfl, rfl⟩ := A1.2 (fun y => by omega)
    obtain ⟨rfl, rfl⟩ := A2.2 (fun y => by omega)
    obtain ⟨rfl, rfl⟩ := A3.2 (fun y => by omega)
    obtain ⟨rfl, rfl⟩ := A4.2 (fun y => by omega)
    have k2 : m_X1_fail (nI (tkS B n e4)) (-1) = some (flC 1 (tkS B n e4)) := c_fail (w := 0) (by omega) (by omega)
    refine ⟨(nI (tkK B n e4), nI (tkS B n e4), nI (tkE B n e4), flC 1 (tkS B n e4), nI L, nI G, nI s0, nI pc, nI ns, nI nc, nI b, nI 0, nI nm, S, H, W), _, ?_, gr, Or.inr (IPb_mk (B := B) (n := n) (e := e4) (w := 1) he rfl rfl rfl rfl)⟩
    unfold m_X1_readItem
    rw [hw, obind, k1, obind, if_pos (show nI 0 = 0 from rfl), k2, obind]
  · obtain ⟨rfl, rfl⟩ := A1.1 ⟨rfl, rfl⟩
    have c1 : m_X1_takeNumber 0 7 (nI n) (nI (tkK B n (tkE B n e))) (nI (tkS B n (tkE B n e))) (nI (tkE B n (tkE B n e))) (-1) tx = _ := c_num (w := 0) (lo := 0) (hi := 7) h b1.2.1 (by omega) (by decide) A2
    have c2 := c_num h b2.2.1 b2.2.2.1 (by decide) A3
    have c3 := c_stop h b3.2.1 b3.2.2.1 A4
    have gc : m_X1_readItem (nI n) (nI (tkK B n e)) (nI (tkS B n e)) (nI (tkE B n e)) (-1) tx (nI L) (nI G) (nI s0) (nI pc) (nI ns) (nI nc) (nI b) (nI 1) (nI nm) S H W = some (nI (tkK B n e4), nI (tkS B n e4), nI (tkE B n e4), flC w4 (tkS B n e4), nI L, nI G, (if w2 = 0 then Nv B n (tkE B n e) else 0), (if w3 = 0 then Nv B n e2 else 1), nI ns, nI nc, 0, 0, nI nm, S, H, W) := by
      unfold m_X1_readItem
      rw [hw, obind, k1, obind, if_neg (by decide), e_take h hbd.2.2.2.1, obind, bz0, if_neg (by decide), if_pos (show nI 5 = Int32.ofNat 5 from rfl)]
      rw [bz0]
      dsimp only
      rw [c1, obind]
      dsimp only
      rw [c2, obind]
      dsimp only
      unfold X1_readItem_j135
      rw [c3, obind]
      rfl
    rcases (show w4 = 0 ∨ w4 = 1 by omega) with y | y
    · have y4 := b4.2.2.2 y
      have y3 := b3.2.2.2 y4.1
      have y2 := b2.2.2.2 y3.1
      obtain ⟨k, hk1, hk2, hk⟩ := nm_rng (a := 0) (b := 7) b1.2.1 (by decide) (by decide) y2.2.1
      obtain ⟨l, hl1, hl2, hl⟩ := nm_rng (a := 1) (b := 9) b2.2.1 (by decide) (by decide) y3.2.1
      have hv' := hv y
      subst y
      rw [hv'.1, hv'.2, hk, hl] at gr
      rw [if_pos y3.1, if_pos y4.1, hk, hl] at gc
      refine ⟨_, _, gc, gr, Or.inl ⟨e4, L, G, k, l, ns, nc, c, hb, wh, 0, nm, S, H, W, S', H', W', t', num', wd', rfl, rfl, by omega, by omega, R4, by omega, hnm, ?_, X1, X2⟩⟩
      obtain ⟨p1, p2, p3, p4, p5, p6, p7, p8, p9, p10, p11⟩ := P
      exact ⟨p1, p2, p3, p4, by omega, by omega, by omega, p8, p9, p10, p11⟩
    · exact ⟨_, _, gc, gr, Or.inr (IPb_mk (B := B) (n := n) (e := e4) (w := w4) b4.2.1 y rfl rfl rfl)⟩
theorem j_nose {n e L G s0 pc ns nc b sm nm : Nat} {c hb wh : Nat → Nat} {B : Nat → Nat} {tx tx' S H W S' H' W' : Nat → Int32} {t num : Int32} {wd : Int64} (h : TB n B tx) (h' : TM n B tx') (he : e ≤ n) (hk0 : tkK B n e ≠ 0) (R : RT B n e t num wd) (hb1 : b ≤ 1) (hsm : sm ≤ 1) (hnm : nm ≤ 1) (hbn : b = 1 → nc = 0) (P : PB L G s0 pc ns nc c hb wh) (X1 : AR nc c hb wh S H W) (X2 : AR nc c hb wh S' H' W') (hw : m_X1_wordHere (nI (tkK B n e)) (nI (tkS B n e)) (nI (tkE B n e)) tx = some (nI 6)) (D : ∀ i, i < 7 → (lg_cmp (if t = 1 then wd else 0) (cwd i) = 0 ↔ i = 6)) :
    ∃ q r, m_X1_readItem (nI n) (nI (tkK B n e)) (nI (tkS B n e)) (nI (tkE B n e)) (-1) tx (nI L) (nI G) (nI s0) (nI pc) (nI ns) (nI nc) (nI b) (nI sm) (nI nm) S H W = some q ∧ m_X5_readItem (nI b) (nI n) (nI (tkE B n e)) (nI (tkS B n e)) t num wd 0 (nI L) (nI G) (nI nc) (nI s0) (nI pc) (nI ns) (nI (1 - sm)) (nI (1 - nm)) tx' H' W' S' = some r ∧ (IPg B n e q r ∨ IPb n q r) := by
  have hn := h.1
  have hbd := tk_bd (B := B) he
  have hE : e < tkE B n e := by have := hbd.2.2.2.2 hk0; omega
  obtain ⟨e1, w1, A1⟩ := adv_ex (B := B) (n := n) (nm = 1) e 0
  obtain ⟨e2, w2, A2⟩ := adv_ex (B := B) (n := n) (Nm B n e1 0 9) e1 w1
  obtain ⟨e4, w4, A4⟩ := adv_ex (B := B) (n := n) (tkK B n e2 = 3) e2 w2
  have b1 := adv_bd A1 he
  have b2 := adv_bd A2 b1.2.1
  have b4 := adv_bd A4 b2.2.1
  obtain ⟨t', num', wd', v1, g, R4, hv⟩ := r_nose h' he (w := 0) (by omega) hnm R A1 A2 A4
  have g' : m_X5_readNose (nI n) (nI (tkE B n e)) (nI (tkS B n e)) t num wd 0 (nI (1 - nm)) tx' = some (nI (tkE B n e4), nI (tkS B n e4), t', num', wd', nI w4, v1, 1) := g
  have gr : m_X5_readItem (nI b) (nI n) (nI (tkE B n e)) (nI (tkS B n e)) t num wd 0 (nI L) (nI G) (nI nc) (nI s0) (nI pc) (nI ns) (nI (1 - sm)) (nI (1 - nm)) tx' H' W' S' = some (nI (tkE B n e4), nI (tkS B n e4), t', num', wd', nI w4, nI L, nI G, nI nc, nI s0, nI pc, v1, nI (1 - sm), 1, H', W', S') := by
    have g4 : ¬ lg_cmp (if t = 1 then wd else 0) 108243533981541 = 0 := fun y => absurd ((D 4 (by decide)).mp y) (by decide)
    have g5 : ¬ lg_cmp (if t = 1 then wd else 0) 7566702 = 0 := fun y => absurd ((D 5 (by decide)).mp y) (by decide)
    have g6 : lg_cmp (if t = 1 then wd else 0) 1852797797 = 0 := (D 6 (by decide)).mpr rfl
    rw [ri16]
    unfold X5_readItem_j16
    rw [if_neg g4, if_neg g5, if_pos g6, g', obind]
  have k1 : m_X1_mayBegin (nI 6) (nI nc) (nI b) (nI sm) (nI nm) = some (nI nm) := by
    unfold m_X1_mayBegin
    rw [if_neg (by decide), if_neg (by decide), if_pos (show nI 6 = Int32.ofNat 6 from rfl), bz_nI hnm]
  rcases (show nm = 0 ∨ nm = 1 by omega) with rfl | rfl
  · obtain ⟨rfl, rfl⟩ := A1.2 (fun y => by omega)
    obtain ⟨rfl, rfl⟩ := A2.2 (fun y => by omega)
    obtain ⟨rfl, rfl⟩ := A4.2 (fun y => by omega)
    have k2 : m_X1_fail (nI (tkS B n e4)) (-1) = some (flC 1 (tkS B n e4)) := c_fail (w := 0) (by omega) (by omega)
    refine ⟨(nI (tkK B n e4), nI (tkS B n e4), nI (tkE B n e4), flC 1 (tkS B n e4), nI L, nI G, nI s0, nI pc, nI ns, nI nc, nI b, nI sm, nI 0, S, H, W), _, ?_, gr, Or.inr (IPb_mk (B := B) (n := n) (e := e4) (w := 1) he rfl rfl rfl rfl)⟩
    unfold m_X1_readItem
    rw [hw, obind, k1, obind, if_pos (show nI 0 = 0 from rfl), k2, obind]
  · obtain ⟨rfl, rfl⟩ := A1.1 ⟨rfl, rfl⟩
    have c1 : m_X1_takeNumber 0 9 (nI n) (nI (tkK B n (tkE B n e))) (nI (tkS B n (tkE B n e))) (nI (tkE B n (tkE B n e))) (-1) tx = _ := c_num (w := 0) (lo := 0) (hi := 9) h b1.2.1 (by omega) (by decide) A2
    have c3 := c_stop h b2.2.1 b2.2.2.1 A4
    have gc : m_X1_readItem (nI n) (nI (tkK B n e)) (nI (tkS B n e)) (nI (tkE B n e)) (-1) tx (nI L) (nI G) (nI s0) (nI pc) (nI ns) (nI nc) (nI b) (nI sm) (nI 1) S H W = some (nI (tkK B n e4), nI (tkS B n e4), nI (tkE B n e4), flC w4 (tkS B n e4), nI L, nI G, nI s0, nI pc, (if w2 = 0 then Nv B n (tkE B n e) else 0), nI nc, 0, nI sm, 0, S, H, W) := by
      unfold m_X1_readItem
      rw [hw, obind, k1, obind, if_neg (by decide), e_take h hbd.2.2.2.1, obind, bz0, if_neg (by decide), if_neg (by decide), if_pos (show nI 6 = Int32.ofNat 6 from rfl)]
      rw [bz0]
      dsimp only
      rw [c1, obind]
      dsimp only
      unfold X1_readItem_j135
      rw [c3, obind]
      rfl
    rcases (show w4 = 0 ∨ w4 = 1 by omega) with y | y
    · have y4 := b4.2.2.2 y
      have y2 := b2.2.2.2 y4.1
      obtain ⟨k, hk1, hk2, hk⟩ := nm_rng (a := 0) (b := 9) b1.2.1 (by decide) (by decide) y2.2.1
      have hv' := hv y
      subst y
      rw [hv', hk] at gr
      rw [if_pos y4.1, hk] at gc
      refine ⟨_, _, gc, gr, Or.inl ⟨e4, L, G, s0, pc, k, nc, c, hb, wh, sm, 0, S, H, W, S', H', W', t', num', wd', rfl, rfl, by omega, by omega, R4, hsm, by omega, ?_, X1, X2⟩⟩
      obtain ⟨p1, p2, p3, p4, p5, p6, p7, p8, p9, p10, p11⟩ := P
      exact ⟨p1, p2, p3, p4, p5, p6, p7, by omega, p9, p10, p11⟩
    · exact ⟨_, _, gc, gr, Or.inr (IPb_mk (B := B) (n := n) (e := e4) (w := w4) b4.2.1 y rfl rfl rfl)⟩

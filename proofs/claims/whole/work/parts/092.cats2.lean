/-! READING: the item of a cat on both sides, and any item. -/
theorem uq_eq {f : Nat → Int32} {k : Nat} {x : Int32} : upd f k x k = x := by unfold upd; rw [if_pos rfl]
theorem uq_ne {f : Nat → Int32} {k j : Nat} {x : Int32} (h : ¬ j = k) : upd f k x j = f j := by unfold upd; rw [if_neg h]
theorem uqN_eq {f : Nat → Nat} {k x : Nat} : updN f k x k = x := by unfold updN; rw [if_pos rfl]
theorem uqN_ne {f : Nat → Nat} {k j x : Nat} (h : ¬ j = k) : updN f k x j = f j := by unfold updN; rw [if_neg h]
theorem AR_add {nc j x w : Nat} {c hb wh : Nat → Nat} {S H W : Nat → Int32} {z : Int32} (R : AR nc c hb wh S H W) (hz : z = if j = 3 then nI w else -9) : AR (nc + 1) (updN c nc x) (updN hb nc j) (updN wh nc w) (upd S nc (nI x)) (upd H nc (nI j)) (upd W nc z) := by
  intro i hi
  by_cases q : i = nc
  · subst q
    rw [uq_eq, uq_eq, uq_eq, uqN_eq, uqN_eq, uqN_eq]
    exact ⟨rfl, rfl, hz⟩
  · rw [uq_ne q, uq_ne q, uq_ne q, uqN_ne q, uqN_ne q, uqN_ne q]
    exact R i (by omega)
theorem PB_add {L G s0 pc ns nc j x w : Nat} {c hb wh : Nat → Nat} (P : PB L G s0 pc ns nc c hb wh) (hnc : nc < 5) (hx : x < L * G) (hd : ∀ i, i < nc → c i ≠ x) (hj : j ≤ 3) (hw : j = 3 → w < nc) : PB L G s0 pc ns (nc + 1) (updN c nc x) (updN hb nc j) (updN wh nc w) := by
  obtain ⟨p1, p2, p3, p4, p5, p6, p7, p8, p9, p10, p11⟩ := P
  refine ⟨p1, p2, p3, p4, p5, p6, p7, p8, by omega, ?_, ?_⟩
  · intro i hi
    by_cases q : i = nc
    · subst q
      rw [uqN_eq, uqN_eq, uqN_eq]
      exact ⟨hx, hj, fun y => by have := hw y; omega⟩
    · rw [uqN_ne q, uqN_ne q, uqN_ne q]
      have := p10 i (by omega)
      exact ⟨this.1, this.2.1, fun y => by have := this.2.2 y; omega⟩
  · intro i k hi hk
    by_cases q : i = nc
    · by_cases q2 : k = nc
      · intro _; omega
      · rw [q, uqN_eq, uqN_ne q2]
        exact fun y => absurd y.symm (hd k (by omega))
    · by_cases q2 : k = nc
      · rw [q2, uqN_eq, uqN_ne q]
        exact fun y => absurd y (hd i (by omega))
      · rw [uqN_ne q, uqN_ne q2]
        exact p11 i k (by omega) (by omega)
theorem j_cat {n e j L G s0 pc ns nc b sm nm : Nat} {c hb wh : Nat → Nat} {B : Nat → Nat} {tx tx' S H W S' H' W' : Nat → Int32} {t num : Int32} {wd : Int64} (h : TB n B tx) (h' : TM n B tx') (he : e ≤ n) (hk0 : tkK B n e ≠ 0) (hj : j ≤ 3) (R : RT B n e t num wd) (hb1 : b ≤ 1) (hsm : sm ≤ 1) (hnm : nm ≤ 1) (P : PB L G s0 pc ns nc c hb wh) (X1 : AR nc c hb wh S H W) (X2 : AR nc c hb wh S' H' W') (hw : m_X1_wordHere (nI (tkK B n e)) (nI (tkS B n e)) (nI (tkE B n e)) tx = some (nI j)) (D : ∀ i, i < 7 → (lg_cmp (if t = 1 then wd else 0) (cwd i) = 0 ↔ i = j)) :
    ∃ q r, m_X1_readItem (nI n) (nI (tkK B n e)) (nI (tkS B n e)) (nI (tkE B n e)) (-1) tx (nI L) (nI G) (nI s0) (nI pc) (nI ns) (nI nc) (nI b) (nI sm) (nI nm) S H W = some q ∧ m_X5_readItem (nI b) (nI n) (nI (tkE B n e)) (nI (tkS B n e)) t num wd 0 (nI L) (nI G) (nI nc) (nI s0) (nI pc) (nI ns) (nI (1 - sm)) (nI (1 - nm)) tx' H' W' S' = some r ∧ (IPg B n e q r ∨ IPb n q r) := by
  have hn := h.1
  have hbd := tk_bd (B := B) he
  have hE : e < tkE B n e := by have := hbd.2.2.2.2 hk0; omega
  have P' := P
  obtain ⟨p1, p2, p3, p4, p5, p6, p7, p8, p9, p10, p11⟩ := P'
  have hLG : L * G ≤ 24 := Nat.le_trans (Nat.mul_le_mul p2 p4) (by decide)
  have hLG0 : 0 < L * G := Nat.mul_pos p1 p3
  have eS : ∀ x, Tk nc S x ↔ Tk nc S' x := fun x => ⟨fun ⟨i, hi, hf⟩ => ⟨i, hi, by rw [(X2 i hi).1, ← (X1 i hi).1, hf]⟩, fun ⟨i, hi, hf⟩ => ⟨i, hi, by rw [(X1 i hi).1, ← (X2 i hi).1, hf]⟩⟩
  obtain ⟨e1, w1, A1⟩ := adv_ex (B := B) (n := n) (nc < 5) e 0
  obtain ⟨e2, w2, A2⟩ := adv_ex (B := B) (n := n) (Cl B n e1 L G nc S) e1 w1
  have b1 := adv_bd A1 he
  have b2 := adv_bd A2 b1.2.1
  obtain ⟨e3, w3, A3, A3', b3⟩ : ∃ e3 w3, (j = 3 → Adv B n (Nm B n e2 0 (nI nc - 1)) e2 w2 e3 w3) ∧ (j ≠ 3 → e3 = e2 ∧ w3 = w2) ∧ (e2 ≤ e3 ∧ e3 ≤ n ∧ w3 ≤ 1 ∧ (w3 = 0 → w2 = 0 ∧ (j = 3 → Nm B n e2 0 (nI nc - 1)))) := by
    by_cases q : j = 3
    · obtain ⟨e3, w3, A⟩ := adv_ex (B := B) (n := n) (Nm B n e2 0 (nI nc - 1)) e2 w2
      have := adv_bd A b2.2.1
      exact ⟨e3, w3, fun _ => A, fun y => absurd q y, this.1, this.2.1, this.2.2.1, fun y => ⟨(this.2.2.2 y).1, fun _ => (this.2.2.2 y).2.1⟩⟩
    · exact ⟨e2, w2, fun y => absurd y q, fun _ => ⟨rfl, rfl⟩, Nat.le_refl _, b2.2.1, b2.2.2.1, fun y => ⟨y, fun z => absurd z q⟩⟩
  obtain ⟨e4, w4, A4⟩ := adv_ex (B := B) (n := n) (tkK B n e3 = 3) e3 w3
  have b4 := adv_bd A4 b3.2.1
  obtain ⟨t', num', wd', x, z, g, R4, hv⟩ := r_cat h' he (w := 0) (by omega) hj p9 R A1 (adv_cg (ok' := Cl B n e1 L G nc S') A2 ⟨fun y => ⟨y.1, fun q => y.2 ((eS _).mpr q)⟩, fun y => ⟨y.1, fun q => y.2 ((eS _).mp q)⟩⟩) A3 A3' A4
  have g' : ∀ (H' W' S' : Nat → Int32), m_X5_readCat (nI j) (nI n) (nI (tkE B n e)) (nI (tkS B n e)) t num wd 0 (nI L) (nI G) (nI nc) tx' H' W' S' = m_X5_readCat (nI j) (nI n) (nI (tkE B n e)) (nI (tkS B n e)) t num wd (nI 0) (nI L) (nI G) (nI nc) tx' H' W' S' := fun _ _ _ => rfl
  have gr : m_X5_readItem (nI b) (nI n) (nI (tkE B n e)) (nI (tkS B n e)) t num wd 0 (nI L) (nI G) (nI nc) (nI s0) (nI pc) (nI ns) (nI (1 - sm)) (nI (1 - nm)) tx' H' W' S' = some (nI (tkE B n e4), nI (tkS B n e4), t', num', wd', nI w4, nI L, nI G, (if w4 = 0 then nI (nc + 1) else nI nc), nI s0, nI pc, nI ns, nI (1 - sm), nI (1 - nm), (if w4 = 0 then upd H' nc (nI j) else H'), (if w4 = 0 then upd W' nc z else W'), (if w4 = 0 then upd S' nc x else S')) := by
    have i113 : X5_readItem_j113 (nI j) (nI n) (nI (tkE B n e)) (nI (tkS B n e)) t num wd 0 (nI L) (nI G) (nI nc) (nI s0) (nI pc) (nI ns) (nI (1 - sm)) (nI (1 - nm)) tx' H' W' S' = some (nI (tkE B n e4), nI (tkS B n e4), t', num', wd', nI w4, nI L, nI G, (if w4 = 0 then nI (nc + 1) else nI nc), nI s0, nI pc, nI ns, nI (1 - sm), nI (1 - nm), (if w4 = 0 then upd H' nc (nI j) else H'), (if w4 = 0 then upd W' nc z else W'), (if w4 = 0 then upd S' nc x else S')) := by
      unfold X5_readItem_j113
      rw [if_neg (m9_ne (by omega)), g', g, obind]
    rw [ri16]
    unfold X5_readItem_j16
    have n4 : ¬ lg_cmp (if t = 1 then wd else 0) 108243533981541 = 0 := fun y => by have := (D 4 (by decide)).mp y; omega
    have n5 : ¬ lg_cmp (if t = 1 then wd else 0) 7566702 = 0 := fun y => by have := (D 5 (by decide)).mp y; omega
    have n6 : ¬ lg_cmp (if t = 1 then wd else 0) 1852797797 = 0 := fun y => by have := (D 6 (by decide)).mp y; omega
    have d0 : lg_cmp (if t = 1 then wd else 0) 32488805071086962 = 0 ↔ 0 = j := D 0 (by decide)
    have d1 : lg_cmp (if t = 1 then wd else 0) 495891410553 = 0 ↔ 1 = j := D 1 (by decide)
    have d2 : lg_cmp (if t = 1 then wd else 0) 112603093820786 = 0 ↔ 2 = j := D 2 (by decide)
    have d3 : lg_cmp (if t = 1 then wd else 0) 7381237527265895794 = 0 ↔ 3 = j := D 3 (by decide)
    rw [if_neg n4, if_neg n5, if_neg n6]
    rcases (show j = 0 ∨ j = 1 ∨ j = 2 ∨ j = 3 by omega) with q | q | q | q
    · rw [if_pos (d0.mpr q.symm)]; rw [q] at i113 ⊢; exact i113
    · rw [if_neg (fun y => by have := d0.mp y; omega), if_pos (d1.mpr q.symm)]; rw [q] at i113 ⊢; exact i113
    · rw [if_neg (fun y => by have := d0.mp y; omega), if_neg (fun y => by have := d1.mp y; omega), if_pos (d2.mpr q.symm)]; rw [q] at i113 ⊢; exact i113
    · rw [if_neg (fun y => by have := d0.mp y; omega), if_neg (fun y => by have := d1.mp y; omega), if_neg (fun y => by have := d2.mp y; omega), if_pos (d3.mpr q.symm)]; rw [q] at i113 ⊢; exact i113
  have m4 : ¬ nI j = Int32.ofNat 4 := fun y => by have := (nI_eq (b := 4) (by omega) (by decide)).mp y; omega
  have m5 : ¬ nI j = Int32.ofNat 5 := fun y => by have := (nI_eq (b := 5) (by omega) (by decide)).mp y; omega
  have m6 : ¬ nI j = Int32.ofNat 6 := fun y => by have := (nI_eq (b := 6) (by omega) (by decide)).mp y; omega
  have m7 : ¬ nI j = Int32.ofNat 7 := fun y => by have := (nI_eq (b := 7) (by omega) (by decide)).mp y; omega
  by_cases q5 : nc < 5
  · obtain ⟨rfl, rfl⟩ := A1.1 ⟨rfl, q5⟩
    have k1 : m_X1_mayBegin (nI j) (nI nc) (nI b) (nI sm) (nI nm) = some 1 := by
      unfold m_X1_mayBegin
      rw [if_neg m4, if_neg m5, if_neg m6, if_neg m7, if_neg (show ¬ (5 : Int32) ≤ nI nc from nI_ge (b := 5) q5 (by decide)), bz1]
    obtain ⟨x', z', gc', hv'⟩ := c_cat h b1.2.1 hj q5 (fun i hi => by have := (p10 i hi).1; omega) X1 A2 A3 A3'
    have c3 := c_stop h b3.2.1 b3.2.2.1 A4
    have gc : m_X1_readItem (nI n) (nI (tkK B n e)) (nI (tkS B n e)) (nI (tkE B n e)) (-1) tx (nI L) (nI G) (nI s0) (nI pc) (nI ns) (nI nc) (nI b) (nI sm) (nI nm) S H W = some (nI (tkK B n e4), nI (tkS B n e4), nI (tkE B n e4), flC w4 (tkS B n e4), nI L, nI G, nI s0, nI pc, nI ns, nI (nc + 1), 0, nI sm, nI nm, upd S nc x', upd H nc (nI j), upd W nc z') := by
      unfold m_X1_readItem
      rw [hw, obind, k1, obind, if_neg (by decide), e_take h hbd.2.2.2.1, obind, bz0, if_neg m4, if_neg m5, if_neg m6]
      dsimp only
      rw [gc', obind]
      dsimp only
      unfold X1_readItem_j135
      rw [c3, obind]
    rcases (show w4 = 0 ∨ w4 = 1 by omega) with y | y
    · have y4 := b4.2.2.2 y
      have y3 := b3.2.2.2 y4.1
      have y2 := b2.2.2.2 y3.1
      obtain ⟨v1, v2⟩ := hv y
      obtain ⟨v1', v2'⟩ := hv' y4.1
      have y22 : Nm B n (tkE B n e) 0 (nI (L * G) - 1) := y2.2.1.1
      rw [show nI (L * G) - (1 : Int32) = nI (L * G - 1) from nI_sub (b := 1) hLG0] at y22
      obtain ⟨k, hk1, hk2, hk⟩ := nm_rng (a := 0) (b := L * G - 1) b1.2.1 (by decide) (by omega) y22
      have hd : ∀ i, i < nc → c i ≠ k := fun i hi hck => y2.2.1.2 ⟨i, hi, by rw [(X1 i hi).1, hck, hk]⟩
      have hz : ∃ l, (j = 3 → l < nc) ∧ z = (if j = 3 then nI l else -9) := by
        by_cases q3 : j = 3
        · have N := y3.2 q3
          have n0 : 0 < nc := by
            rcases Nat.eq_zero_or_pos nc with u | u
            · rw [u] at N
              obtain ⟨kk, hkk, h1⟩ := nm_val b2.2.1 ⟨N.1, N.2.1⟩
              have h3 := N.2.2.2
              rw [h1] at h3
              have : (-1 : Int32) < nI kk := by
                have h2 := N.2.2.1
                rw [h1] at h2
                exact Int32.lt_of_lt_of_le (by decide) h2
              exact absurd h3 (Int32.not_le.mpr this)
            · exact u
          rw [show nI nc - (1 : Int32) = nI (nc - 1) from nI_sub (b := 1) n0] at N
          obtain ⟨l, hl1, hl2, hl⟩ := nm_rng (a := 0) (b := nc - 1) b2.2.1 (by decide) (by omega) N
          exact ⟨l, fun _ => by omega, by rw [v2, if_pos q3, if_pos q3, hl]⟩
        · exact ⟨0, fun u => absurd u q3, by rw [v2, if_neg q3, if_neg q3]⟩
      obtain ⟨l, hl, hzl⟩ := hz
      have hzz : z' = z := by rw [v2, v2']
      subst y
      rw [hzz, v1', hk] at gc
      rw [if_pos rfl, if_pos rfl, if_pos rfl, if_pos rfl, v1, hk] at gr
      exact ⟨_, _, gc, gr, Or.inl ⟨e4, L, G, s0, pc, ns, nc + 1, updN c nc k, updN hb nc j, updN wh nc l, sm, nm, upd S nc (nI k), upd H nc (nI j), upd W nc z, upd S' nc (nI k), upd H' nc (nI j), upd W' nc z, t', num', wd', rfl, rfl, by omega, b4.2.1, R4, hsm, hnm, PB_add P q5 (by omega) hd hj hl, AR_add X1 hzl, AR_add X2 hzl⟩⟩
    · exact ⟨_, _, gc, gr, Or.inr (IPb_mk (B := B) (n := n) (e := e4) (w := w4) b4.2.1 y rfl rfl rfl)⟩
  · obtain ⟨rfl, rfl⟩ := A1.2 (fun y => q5 y.2)
    obtain ⟨rfl, rfl⟩ := A2.2 (fun y => by omega)
    obtain ⟨rfl, rfl⟩ : e3 = e2 ∧ w3 = 1 := by
      by_cases q : j = 3
      · have := (A3 q).2 (fun y => by omega); omega
      · exact A3' q
    obtain ⟨rfl, rfl⟩ := A4.2 (fun y => by omega)
    have k1 : m_X1_mayBegin (nI j) (nI nc) (nI b) (nI sm) (nI nm) = some 0 := by
      unfold m_X1_mayBegin
      rw [if_neg m4, if_neg m5, if_neg m6, if_neg m7, if_pos (show (5 : Int32) ≤ nI nc from nI_le (a := 5) (by omega) (by omega)), bz0]
    have k2 : m_X1_fail (nI (tkS B n e4)) (-1) = some (flC 1 (tkS B n e4)) := c_fail (w := 0) (by omega) (by omega)
    refine ⟨(nI (tkK B n e4), nI (tkS B n e4), nI (tkE B n e4), flC 1 (tkS B n e4), nI L, nI G, nI s0, nI pc, nI ns, nI nc, nI b, nI sm, nI nm, S, H, W), _, ?_, gr, Or.inr (IPb_mk (B := B) (n := n) (e := e4) (w := 1) he rfl rfl rfl rfl)⟩
    unfold m_X1_readItem
    rw [hw, obind, k1, obind, if_pos (show (0 : Int32) = 0 from rfl), k2, obind]
/-- an item, on both sides -/
theorem j_item {n e L G s0 pc ns nc b sm nm : Nat} {c hb wh : Nat → Nat} {B : Nat → Nat} {tx tx' S H W S' H' W' : Nat → Int32} {t num : Int32} {wd : Int64} (h : TB n B tx) (h' : TM n B tx') (he : e ≤ n) (hk0 : tkK B n e ≠ 0) (R : RT B n e t num wd) (hb1 : b ≤ 1) (hsm : sm ≤ 1) (hnm : nm ≤ 1) (hbn : b = 1 → nc = 0) (P : PB L G s0 pc ns nc c hb wh) (X1 : AR nc c hb wh S H W) (X2 : AR nc c hb wh S' H' W') :
    ∃ q r, m_X1_readItem (nI n) (nI (tkK B n e)) (nI (tkS B n e)) (nI (tkE B n e)) (-1) tx (nI L) (nI G) (nI s0) (nI pc) (nI ns) (nI nc) (nI b) (nI sm) (nI nm) S H W = some q ∧ m_X5_readItem (nI b) (nI n) (nI (tkE B n e)) (nI (tkS B n e)) t num wd 0 (nI L) (nI G) (nI nc) (nI s0) (nI pc) (nI ns) (nI (1 - sm)) (nI (1 - nm)) tx' H' W' S' = some r ∧ (IPg B n e q r ∨ IPb n q r) := by
  obtain ⟨j, hj, hw, D⟩ := j_word h he R
  rcases (show j ≤ 3 ∨ j = 4 ∨ j = 5 ∨ j = 6 ∨ j = 7 by omega) with q | q | q | q | q
  · exact j_cat h h' he hk0 q R hb1 hsm hnm P X1 X2 hw D
  · subst q; exact j_bridge h h' he hk0 R hb1 hsm hnm hbn P X1 X2 hw D
  · subst q; exact j_sun h h' he hk0 R hb1 hsm hnm hbn P X1 X2 hw D
  · subst q; exact j_nose h h' he hk0 R hb1 hsm hnm hbn P X1 X2 hw D
  · subst q
    obtain ⟨q, r, h1, h2, h3⟩ := j_none (x := 0) (tx' := tx') (S := S) (H := H) (W := W) (S' := S') (H' := H') (W' := W') (num := num) (L := nI L) (G := nI G) (s0 := nI s0) (pc := nI pc) (ns := nI ns) (cc := nI nc) (bm := nI b) (sm := nI sm) (nm := nI nm) (sL := nI L) (sG := nI G) (sC := nI nc) (sS := nI s0) (sP := nI pc) (sN := nI ns) (hS := nI (1 - sm)) (hN := nI (1 - nm)) (b := nI b) h he hw D
    exact ⟨q, r, h1, h2, Or.inr h3⟩

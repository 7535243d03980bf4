/-! CALLS: cat, cell, now, count, drop, mark, keep, back. -/
theorem le3 {a : Nat} (h : a < 2 ^ 31) : nI a ≤ (3 : Int32) ↔ a ≤ 3 := nI_leI (b := 3) h (by decide)
theorem le2 {a : Nat} (h : a < 2 ^ 31) : nI a ≤ (2 : Int32) ↔ a ≤ 2 := nI_leI (b := 2) h (by decide)
theorem le5 {a : Nat} (h : a < 2 ^ 31) : nI a ≤ (5 : Int32) ↔ a ≤ 5 := nI_leI (b := 5) h (by decide)
theorem lt4 {a : Nat} (h : a < 2 ^ 31) : nI a < (4 : Int32) ↔ a < 4 := nI_ltI (b := 4) h (by decide)
theorem eq3 {a : Nat} (h : a < 2 ^ 31) : nI a = (3 : Int32) ↔ a = 3 := nI_eq (b := 3) h (by decide)
theorem eq4 {a : Nat} (h : a < 2 ^ 31) : nI a = (4 : Int32) ↔ a = 4 := nI_eq (b := 4) h (by decide)
theorem e_habitK {k nc : Nat} {hc : Nat → Int32} {hb : Nat → Nat} (hk : k < nc) (hnc : nc ≤ 5) (hh : ∀ j, j < nc → hc j = nI (hb j)) : m_X0_habitOf (nI k) (nI nc) hc = some (nI (hb k)) := by
  rw [e_habit (by omega) hnc hh, if_neg (by omega)]
theorem v_cat {L G s0 pc ns nc m w : Nat} {hb wh p : Nat → Nat} {F : Nat} {ov : Int32} {E f e st hc lc hc' lc' : Nat → Int32} {x y : Int32} (P : PlOK L G s0 pc ns nc hb wh) (H1 : HcOK nc hb wh hc lc) (H2 : HcOK nc hb wh hc' lc') (W : ∀ j, j < nc → ¬ hb j = 3 → lc' j = -9) (S : SC L G nc p E F m w ov f e st) :
    ∃ r, m_X4_cat x y (nI nc) hc lc f e = some r ∧ m_X5_cat x y (nI nc) hc' lc' st = some r := by
  obtain ⟨h0, hL, hG0, hG, hC, hs, hp0, hp, hns, hnc5, hb3, hwh⟩ := P
  obtain ⟨s1, s2, s3, s4, ⟨s5, s6⟩, s7⟩ := S
  unfold m_X4_cat m_X5_cat
  rcases e_isCatB (x := x) hnc5 with ⟨a1, a2⟩ | ⟨k, hk, rfl, a1, a2⟩
  · exact ⟨_, by rw [a1, obind, if_pos rfl], by rw [a2, obind, if_pos rfl]⟩
  · rw [a1, a2, obind, obind, if_neg (show ¬ (1 : Int32) = 0 by decide), if_neg (show ¬ (1 : Int32) = 0 by decide)]
    by_cases q1 : y < 0
    · exact ⟨_, by rw [if_pos q1], by rw [in_low q1, obind, if_pos rfl]⟩
    · obtain ⟨n, n2, rfl⟩ := i_nat q1
      by_cases q2 : n ≤ 3
      · rw [if_neg q1, if_pos ((le3 n2).mpr q2), in_yes q1 ((le3 n2).mpr q2), obind, if_neg (show ¬ (1 : Int32) = 0 by decide)]
        rcases (show n = 0 ∨ n = 1 ∨ n = 2 ∨ n = 3 by omega) with z | z | z | z <;> subst z
        · exact ⟨nI (p k), by rw [if_pos (by rfl), e_cellR (by omega), obind, s5 k hk], by rw [if_pos (by rfl), a4, ld_ok (by omega) (by decide), s7.2.2.2.2.1 k hk]⟩
        · exact ⟨nI (hb k), by rw [if_neg (by decide), if_pos (by rfl), e_habitK hk hnc5 H1.1, obind], by rw [if_neg (by decide), if_pos (by rfl), ld_ok (by omega) (by decide), H2.1 k hk]⟩
        · by_cases z : hb k = 3
          · exact ⟨nI (wh k), by rw [if_neg (by decide), if_neg (by decide), if_pos (by rfl), e_habitK hk hnc5 H1.1, obind, z, if_pos (by rfl)]; unfold m_X0_leaderOf; rw [e_entry (by omega) (by decide), obind, obind, H1.2 k hk z], by rw [if_neg (by decide), if_neg (by decide), if_pos (by rfl), ld_ok (by omega) (by decide), H2.2 k hk z]⟩
          · have hbk := hb3 k hk
            exact ⟨-9, by rw [if_neg (by decide), if_neg (by decide), if_pos (by rfl), e_habitK hk hnc5 H1.1, obind, if_neg (fun q => z ((eq3 (by omega)).mp q))], by rw [if_neg (by decide), if_neg (by decide), if_pos (by rfl), ld_ok (by omega) (by decide), W k hk z]⟩
        · exact ⟨E k, by rw [if_neg (by decide), if_neg (by decide), if_neg (by decide), e_eatR (by omega), obind, s6 k hk], by rw [if_neg (by decide), if_neg (by decide), if_neg (by decide), a9, ld_ok (by omega) (by decide), s7.2.2.2.2.2 k hk]⟩
      · exact ⟨_, by rw [if_neg q1, if_neg (fun z => q2 ((le3 n2).mp z))], by rw [in_high (fun z => q2 ((le3 n2).mp z)), obind, if_pos rfl]⟩
theorem v_cell {L G s0 pc ns nc m w : Nat} {hb wh p : Nat → Nat} {F : Nat} {ov : Int32} {E f e st : Nat → Int32} {x y : Int32} (P : PlOK L G s0 pc ns nc hb wh) (S : SC L G nc p E F m w ov f e st) :
    ∃ r, m_X4_cell x y (nI L) (nI G) (nI nc) (nI F) (wI w) f = some r ∧ m_X5_cell x y (nI G) (nI L) (nI nc) st = some r := by
  obtain ⟨h0, hL, hG0, hG, hC, hs, hp0, hp, hns, hnc5, hb3, hwh⟩ := P
  obtain ⟨s1, s2, s3, s4, ⟨s5, s6⟩, s7⟩ := S
  have hF24 : F < 2 ^ 24 := Nat.lt_of_lt_of_le s1.2 (Nat.pow_le_pow_right (by decide) hC)
  have hw : w < 24 ∨ w = 99 := by omega
  unfold m_X4_cell m_X5_cell
  rcases e_isCellB (x := x) (L := L) (G := G) (Nat.mul_pos h0 hG0) hC with ⟨a1, a2⟩ | ⟨c, hc, rfl, a1, a2⟩
  · exact ⟨_, by rw [a1, obind, if_pos rfl], by rw [a2, obind, if_pos rfl]⟩
  · rw [a1, a2, obind, obind, if_neg (show ¬ (1 : Int32) = 0 by decide), if_neg (show ¬ (1 : Int32) = 0 by decide)]
    by_cases q1 : y < 0
    · exact ⟨_, by rw [if_pos q1], by rw [in_low q1, obind, if_pos rfl]⟩
    · obtain ⟨n, n2, rfl⟩ := i_nat q1
      by_cases q2 : n ≤ 2
      · rw [if_neg q1, if_pos ((le2 n2).mpr q2), in_yes q1 ((le2 n2).mpr q2), obind, if_neg (show ¬ (1 : Int32) = 0 by decide)]
        rcases (show n = 0 ∨ n = 1 ∨ n = 2 by omega) with z | z | z <;> subst z
        · exact ⟨ci p c nc, by rw [if_pos (by rfl), e_catIn (by omega) (by omega) hC s1.1 s5, obind], by rw [if_pos (by rfl), e_catAt hnc5 (by omega) (fun j hj => Nat.lt_of_lt_of_le (s1.1.1 j hj) hC) s7.2.2.2.2.1, obind]⟩
        · refine ⟨nI (bn F c), ?_, by rw [if_neg (by decide), if_pos (by rfl), ldA3, s7.2.2.2.1, shr1 (by omega) (by omega), bit1]⟩
          rw [if_neg (by decide), if_pos (by rfl), e_hasBit hF24 (by omega), obind]
          cases z : F.testBit c with
          | true => rw [bn_t z, if_neg (by decide)]; rfl
          | false => rw [bn_f z, if_pos (by rfl)]; rfl
        · by_cases z : wI w = nI c
          · exact ⟨1, by rw [if_neg (by decide), if_neg (by decide), if_pos z], by rw [if_neg (by decide), if_neg (by decide), ldA1, s7.2.1, if_pos z]⟩
          · exact ⟨0, by rw [if_neg (by decide), if_neg (by decide), if_neg z], by rw [if_neg (by decide), if_neg (by decide), ldA1, s7.2.1, if_neg z]⟩
      · exact ⟨_, by rw [if_neg q1, if_neg (fun z => q2 ((le2 n2).mp z))], by rw [in_high (fun z => q2 ((le2 n2).mp z)), obind, if_pos rfl]⟩
theorem v_now {L G s0 pc ns nc m w : Nat} {hb wh p : Nat → Nat} {F : Nat} {ov : Int32} {E f e st : Nat → Int32} {x : Int32} (P : PlOK L G s0 pc ns nc hb wh) (S : SC L G nc p E F m w ov f e st) :
    ∃ r, m_X4_now x (nI L) (nI s0) (nI pc) (nI ns) (wI w) (nI m) ov = some r ∧ m_X5_now x (nI L) (nI s0) (nI pc) (nI ns) st = some r := by
  obtain ⟨h0, hL, hG0, hG, hC, hs, hp0, hp, hns, hnc5, hb3, hwh⟩ := P
  obtain ⟨s1, s2, s3, s4, ⟨s5, s6⟩, s7⟩ := S
  unfold m_X4_now m_X5_now
  rw [ldA0, s7.1, e_sun h0 (by omega) hp0 (by omega) (by omega) (by omega), e_sun5 h0 (by omega) hp0 (by omega) (by omega) (by omega), ldA0, ldA1, ldA2, s7.1, s7.2.1, s7.2.2.1, obind]
  have key : ∀ o : Option Int32, (∃ r, o = some r) → ∃ r, o = some r ∧ o = some r := fun o h => by obtain ⟨r, h⟩ := h; exact ⟨r, h, h⟩
  apply key
  by_cases z0 : x = Int32.ofNat 0
  · exact ⟨_, by rw [if_pos z0]⟩
  · rw [if_neg z0]
    by_cases z1 : x = Int32.ofNat 1
    · exact ⟨_, by rw [if_pos z1]⟩
    · rw [if_neg z1]
      by_cases z2 : x = Int32.ofNat 2
      · exact ⟨_, by rw [if_pos z2]⟩
      · rw [if_neg z2]
        by_cases z3 : x = Int32.ofNat 3
        · exact ⟨_, by rw [if_pos z3]⟩
        · rw [if_neg z3]
          by_cases z4 : x = Int32.ofNat 4
          · exact ⟨_, by rw [if_pos z4]⟩
          · rw [if_neg z4]
            by_cases z5 : x = Int32.ofNat 5
            · exact ⟨_, by rw [if_pos z5]⟩
            · exact ⟨_, by rw [if_neg z5]⟩
theorem v_count {L G s0 pc ns nc m w : Nat} {hb wh p : Nat → Nat} {F : Nat} {ov : Int32} {E f e st : Nat → Int32} {x ty : Int32} (P : PlOK L G s0 pc ns nc hb wh) (S : SC L G nc p E F m w ov f e st) :
    ∃ r, m_X4_count x ty (nI L) (nI G) (nI nc) (nI F) = some r ∧ m_X5_count_ x (nI G) (nI L) (nI nc) ty st = some r := by
  obtain ⟨h0, hL, hG0, hG, hC, hs, hp0, hp, hns, hnc5, hb3, hwh⟩ := P
  obtain ⟨s1, s2, s3, s4, ⟨s5, s6⟩, s7⟩ := S
  have hF24 : F < 2 ^ 24 := Nat.lt_of_lt_of_le s1.2 (Nat.pow_le_pow_right (by decide) hC)
  unfold m_X4_count m_X5_count_
  rw [e_bits hF24, e_lying hC s1.2 s7.2.2.2.1, obind]
  have key : ∀ o : Option Int32, (∃ r, o = some r) → ∃ r, o = some r ∧ o = some r := fun o h => by obtain ⟨r, h⟩ := h; exact ⟨r, h, h⟩
  apply key
  by_cases z0 : x = Int32.ofNat 0
  · exact ⟨_, by rw [if_pos z0]⟩
  · rw [if_neg z0]
    by_cases z1 : x = Int32.ofNat 1
    · exact ⟨_, by rw [if_pos z1]⟩
    · rw [if_neg z1]
      by_cases z2 : x = Int32.ofNat 2
      · exact ⟨_, by rw [if_pos z2]⟩
      · rw [if_neg z2]
        by_cases z3 : x = Int32.ofNat 3
        · exact ⟨_, by rw [if_pos z3]⟩
        · rw [if_neg z3]
          by_cases z4 : x = Int32.ofNat 4
          · exact ⟨_, by rw [if_pos z4]⟩
          · exact ⟨_, by rw [if_neg z4]⟩
-- ===== drop
theorem exn_or {F c : Nat} (h : F.testBit c = false) : ∀ d, exn (F ||| 2 ^ c) 0 d = exn F 0 d + if c < d then 1 else 0
  | 0 => rfl
  | d + 1 => by
    have e1 : exn (F ||| 2 ^ c) 0 (d + 1) = if (F ||| 2 ^ c).testBit d = true then exn (F ||| 2 ^ c) 0 d + 1 else exn (F ||| 2 ^ c) 0 d := rfl
    have e2 : exn F 0 (d + 1) = if F.testBit d = true then exn F 0 d + 1 else exn F 0 d := rfl
    rw [e1, e2, exn_or h d, Nat.testBit_or, Nat.testBit_two_pow]
    by_cases q : c = d
    · subst q
      rw [h, decide_eq_true rfl, if_pos (by rfl), if_neg (by omega), if_neg (by decide), if_pos (by omega)]
    · rw [decide_eq_false q, Bool.or_false]
      split
      · split
        · rw [if_pos (by omega)]
        · rw [if_neg (by omega)]
      · split
        · rw [if_pos (by omega)]
        · rw [if_neg (by omega)]
theorem v_drop {L G s0 pc ns nc m w : Nat} {hb wh p : Nat → Nat} {F : Nat} {ov : Int32} {E f e st : Nat → Int32} {x : Int32} (P : PlOK L G s0 pc ns nc hb wh) (S : SC L G nc p E F m w ov f e st) :
    ∃ r F' st', m_X4_drop x (nI L) (nI G) (nI (om p nc)) (nI F) = some (r, nI F') ∧ m_X5_drop x (nI G) (nI L) (nI nc) st = some (r, st') ∧ SC L G nc p E F' m w ov f e st' := by
  have S' := S
  obtain ⟨h0, hL, hG0, hG, hC, hs, hp0, hp, hns, hnc5, hb3, hwh⟩ := P
  obtain ⟨s1, s2, s3, s4, ⟨s5, s6⟩, s7⟩ := S'
  have hF24 : F < 2 ^ 24 := Nat.lt_of_lt_of_le s1.2 (Nat.pow_le_pow_right (by decide) hC)
  have hom : om p nc < 2 ^ 24 := om_lt (fun j hj => Nat.lt_of_lt_of_le (s1.1.1 j hj) hC)
  unfold m_X4_drop m_X5_drop
  rcases e_isCellB (x := x) (L := L) (G := G) (Nat.mul_pos h0 hG0) hC with ⟨a1, a2⟩ | ⟨c, hc, rfl, a1, a2⟩
  · exact ⟨_, F, st, by rw [a1, obind, if_pos rfl], by rw [a2, obind, if_pos rfl], S⟩
  · rw [a1, a2, obind, obind, if_neg (show ¬ (1 : Int32) = 0 by decide), if_neg (show ¬ (1 : Int32) = 0 by decide), ldA3, s7.2.2.2.1, e_hasBit hF24 (by omega), e_has (by omega) (by omega), obind, obind, e_hasBit hom (by omega), e_catAt hnc5 (by omega) (fun j hj => Nat.lt_of_lt_of_le (s1.1.1 j hj) hC) s7.2.2.2.2.1, obind, obind]
    cases z : F.testBit c with
    | true =>
      rw [bn_t z]
      exact ⟨-2, F, st, by rw [if_neg (by decide)], by rw [if_neg (by decide)], S⟩
    | false =>
      rw [bn_f z]
      cases z2 : (om p nc).testBit c with
      | true =>
        rw [bn_t z2]
        exact ⟨-2, F, st, by rw [if_pos (by rfl), if_neg (by decide)], by rw [if_pos (by rfl), if_neg (fun q => by rw [ci_9 s1.1 (by omega), z2] at q; cases q)], S⟩
      | false =>
        have hF2 : F ||| 2 ^ c < 2 ^ (L * G) := Nat.or_lt_two_pow s1.2 (Nat.pow_lt_pow_right (by decide) hc)
        have hF3 : F ||| 2 ^ c < 2 ^ 24 := Nat.lt_of_lt_of_le hF2 (Nat.pow_le_pow_right (by decide) hC)
        rw [bn_f z2, if_pos (by rfl), if_pos (by rfl), if_pos (by rfl), if_pos ((ci_9 s1.1 (by omega)).mpr z2), e_bits hF24, e_lying hC s1.2 s7.2.2.2.1, obind, obind]
        by_cases z3 : exn F 0 24 = 4
        · exact ⟨-3, F, st, by rw [if_neg (fun q => by have := (lt4 (by omega)).mp q; omega)], by rw [if_pos (by rw [z3]; rfl)], S⟩
        · have hx := exn_or z 24
          rw [if_pos (show c < 24 by omega)] at hx
          have R' : RM nc p E (F ||| 2 ^ c) m w ov (upd st 3 (nI (F ||| 2 ^ c))) := by
            obtain ⟨r0, r1, r2, r3, r4, r5⟩ := s7
            refine ⟨?_, ?_, ?_, ?_, fun j hj => ?_, fun j hj => ?_⟩
            · unfold upd; rw [if_neg (by decide), r0]
            · unfold upd; rw [if_neg (by decide), r1]
            · unfold upd; rw [if_neg (by decide), r2]
            · unfold upd; rw [if_pos rfl]
            · unfold upd; rw [if_neg (by omega), r4 j hj]
            · unfold upd; rw [if_neg (by omega), r5 j hj]
          refine ⟨nI (exn (F ||| 2 ^ c) 0 24), F ||| 2 ^ c, upd st 3 (nI (F ||| 2 ^ c)), ?_, ?_, ⟨s1.1, hF2⟩, s2, s3, by omega, ⟨s5, s6⟩, R'⟩
          · rw [if_pos ((lt4 (by omega)).mpr (by omega)), nm_eq, shl1 (by omega), nI_or, e_bits hF3, obind]
          · rw [if_neg (fun q => z3 ((eq4 (by omega)).mp q)), ldA3, s7.2.2.2.1, stA3, shl1 (by omega), nI_or, e_lying hC hF2 R'.2.2.2.1, obind]
-- ===== mark
theorem v_mark {L G s0 pc ns nc m w : Nat} {hb wh p : Nat → Nat} {F : Nat} {ov : Int32} {E f e st hc lc hc' lc' : Nat → Int32} {x y : Int32} {tr : Int64} (P : PlOK L G s0 pc ns nc hb wh) (H1 : HcOK nc hb wh hc lc) (H2 : HcOK nc hb wh hc' lc') (S : SC L G nc p E F m w ov f e st) :
    ∃ r, m_X4_mark x y tr (nI nc) hc (nI m) f e = some r ∧ m_X5_mark x y (nI nc) tr hc' st = some r := by
  obtain ⟨h0, hL, hG0, hG, hC, hs, hp0, hp, hns, hnc5, hb3, hwh⟩ := P
  obtain ⟨s1, s2, s3, s4, ⟨s5, s6⟩, s7⟩ := S
  unfold m_X4_mark m_X5_mark
  by_cases q1 : x < 0
  · exact ⟨_, by rw [if_pos q1], by rw [in_low q1, obind, if_pos rfl]⟩
  · obtain ⟨n, n2, rfl⟩ := i_nat q1
    rw [if_neg q1]
    by_cases q2 : n ≤ 5
    · rw [if_neg (fun z => by have := (nI_leI (a := 6) (by decide) n2).mp z; omega), in_yes q1 ((le5 n2).mpr q2), obind, if_neg (show ¬ (1 : Int32) = 0 by decide)]
      rcases e_isCatB (x := y) hnc5 with ⟨a1, a2⟩ | ⟨k, hk, rfl, a1, a2⟩
      · exact ⟨_, by rw [a1, obind, if_pos rfl], by rw [a2, obind, if_pos rfl]⟩
      · rw [a1, a2, obind, obind, if_neg (show ¬ (1 : Int32) = 0 by decide), if_neg (show ¬ (1 : Int32) = 0 by decide)]
        have c1 : ∀ t : Int64, m_X4_asCat (nI k) t f = some (nI (p k), t + 1) := fun t => by unfold m_X4_asCat; rw [nm_eq, e_cellR (by omega), obind, s5 k hk]
        have c2 : ∀ t : Int64, m_X5_catMark (nI k) t st = some (nI (p k), t + 1) := fun t => by unfold m_X5_catMark; rw [nm_eq, a4, ld_ok (by omega) (by decide), s7.2.2.2.2.1 k hk]
        have t1 : ∀ t : Int64, m_X4_asTom (nI k) t (nI nc) hc f = some (nI (p k) + nI (hb k), t + 10 + 1) := fun t => by unfold m_X4_asTom; rw [nm_eq, c1, obind, e_habitK hk hnc5 H1.1, obind]
        have t2 : ∀ t : Int64, m_X5_tomMark (nI k) t hc' st = some (nI (p k) + nI (hb k), t + 10 + 1) := fun t => by unfold m_X5_tomMark; rw [nm_eq, c2, obind, ld_ok (by omega) (by decide), H2.1 k hk]
        have k1 : ∀ t : Int64, m_X4_asKitten (nI k) t f e = some (nI (p k) - E k, t + 100 + 1) := fun t => by unfold m_X4_asKitten; rw [nm_eq, c1, obind, e_eatR (by omega), obind, s6 k hk]
        have k2 : ∀ t : Int64, m_X5_kittenMark (nI k) t st = some (nI (p k) - E k, t + 100 + 1) := fun t => by unfold m_X5_kittenMark; rw [nm_eq, c2, obind, a9, ld_ok (by omega) (by decide), s7.2.2.2.2.2 k hk]
        rcases (show n = 0 ∨ n = 1 ∨ n = 2 ∨ n = 3 ∨ n = 4 ∨ n = 5 by omega) with z | z | z | z | z | z <;> subst z
        · exact ⟨_, by rw [if_pos (by rfl), c1, obind], by rw [if_pos (by rfl), c2, obind]⟩
        · exact ⟨_, by rw [if_neg (by decide), if_pos (by rfl), t1, obind], by rw [if_neg (by decide), if_pos (by rfl), t2, obind]⟩
        · exact ⟨_, by rw [if_neg (by decide), if_neg (by decide), if_pos (by rfl), k1, obind], by rw [if_neg (by decide), if_neg (by decide), if_pos (by rfl), k2, obind]⟩
        · refine ⟨_, by rw [if_neg (by decide), if_neg (by decide), if_neg (by decide), if_pos (by rfl)]; unfold m_X4_asGinger; rw [nm_eq, t1, obind, obind], ?_⟩
          rw [if_neg (by decide), if_neg (by decide), if_neg (by decide), if_pos (by rfl), nm_eq, t2, obind, Int32.mul_comm]
        · refine ⟨_, by rw [if_neg (by decide), if_neg (by decide), if_neg (by decide), if_neg (by decide), if_pos (by rfl)]; unfold m_X4_asStray; rw [nm_eq, k1, obind, obind], ?_⟩
          rw [if_neg (by decide), if_neg (by decide), if_neg (by decide), if_neg (by decide), if_pos (by rfl), nm_eq, k2, obind]
        · refine ⟨_, by rw [if_neg (by decide), if_neg (by decide), if_neg (by decide), if_neg (by decide), if_neg (by decide)]; unfold m_X4_asGhost; rw [nm_eq, c1, obind, obind], ?_⟩
          rw [if_neg (by decide), if_neg (by decide), if_neg (by decide), if_neg (by decide), if_neg (by decide), nm_eq, c2, obind, ldA0, s7.1]
    · exact ⟨_, by rw [if_pos (show (6 : Int32) ≤ nI n from nI_le (a := 6) (by omega) n2)], by rw [in_high (fun z => q2 ((le5 n2).mp z)), obind, if_pos rfl]⟩

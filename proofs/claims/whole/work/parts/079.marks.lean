/-! WAYS, MARKS: the calls. -/
theorem le20 {a : Nat} (h : a < 2 ^ 31) : nI a ≤ (20 : Int32) ↔ a ≤ 20 := nI_leI (b := 20) h (by decide)
theorem i_any (x : Int32) : ∃ k, k < 2 ^ 32 ∧ x = nI k := by
  refine ⟨x.toBitVec.toNat, x.toBitVec.isLt, ?_⟩
  apply Int32.toBitVec_inj.1
  show x.toBitVec = BitVec.ofNat 32 x.toBitVec.toNat
  apply BitVec.eq_of_toNat_eq
  rw [BitVec.toNat_ofNat, Nat.mod_eq_of_lt x.toBitVec.isLt]
theorem eq0' {a : Nat} (h : a < 2 ^ 32) : nI a = 0 ↔ a = 0 := by
  constructor
  · intro q
    have e : (nI a).toBitVec.toNat = a % 2 ^ 32 := BitVec.toNat_ofNat a 32
    have e2 : (nI a).toBitVec.toNat = (0 : Int32).toBitVec.toNat := by rw [q]
    rw [e, show (0 : Int32).toBitVec.toNat = 0 from rfl] at e2
    omega
  · intro q; rw [q]; rfl
/-- what both do once n and the marks are good -/
theorem e_both {L G s0 pc ns nc m w n set : Nat} {hb wh p : Nat → Nat} {F : Nat} {ov : Int32} {E f e st f3 e3 tq hc lc hc' lc' : Nat → Int32} {g1 g2 : Nat → Int32} {pa pb : Nat} {arr arr2 wys thn : Nat → Int64} (P : PlOK L G s0 pc ns nc hb wh) (H1 : HcOK nc hb wh hc lc) (H2 : HcOK nc hb wh hc' lc') (S : SC L G nc p E F m w ov f e st) (hset : set < 2 ^ (L * G)) (hp4 : exn set 0 24 ≤ 4) (hn1 : 1 ≤ n) (hn2 : n ≤ 20) :
    ∃ v f' e' p1 p2 o1 o2 o3 o4 o5 o6 o7 o, m_X4_sketchWith 0 (nI nc) (nI (om p nc)) (nI F) (wI w) (nI m) ov f e g1 g2 = some (nI (exn 0 nc 24), nI (om (exq 0 nc p 24) (exn 0 nc 24)), nI F, -9, nI m, ov, f', e') ∧ m_X3_countThrough (nI set) (nI n) pa pb arr arr2 (nI L) (nI G) (nI s0) (nI pc) (nI ns) (nI nc) hc lc (nI (exn 0 nc 24)) (nI (om (exq 0 nc p 24) (exn 0 nc 24))) (nI F) (-9) (nI m) f' e' = some (v, p1, p2, o1, o2, o3, o4, o5, o6, o7) ∧ ((p1 = pa ∧ p2 = pb) ∨ (p1 = pb ∧ p2 = pa)) ∧ m_X5_count (nI n) (nI set) (nI G) (nI L) (nI nc) (nI s0) (nI pc) (nI ns) hc' lc' st f3 e3 tq wys thn = some (v, o) := by
  obtain ⟨s1, s2, s3, s4, ⟨s5, s6⟩, s7⟩ := S
  have hnc5 := P.2.2.2.2.2.2.2.2.2.1
  have hC := P.2.2.2.2.1
  have q0 := sx_0 (L := L) (G := G) (p := p) hnc5
  have ok := sx_ok (L := L) (G := G) s1 q0
  have bb : ∃ f'' e'' : Nat → Int32, m_X4_sketchWith 0 (nI nc) (nI (om p nc)) (nI F) (wI w) (nI m) ov f e g1 g2 = some (nI (exn 0 nc 24), nI (om (exq 0 nc p 24) (exn 0 nc 24)), nI F, -9, nI m, ov, f'', e'') ∧ ∀ j, j < exn 0 nc 24 → f'' j = nI (exq 0 nc p 24 j) := e_sketch (S := 0) (by decide) q0.2.2.1 s5
  obtain ⟨f', e', b1, b2⟩ := bb
  obtain ⟨p1, p2, o1, o2, o3, o4, o5, o6, o7, c1, c2⟩ := e_through (m := m) (e := e') (pa := pa) (pb := pb) (arr := arr) (arr2 := arr2) P H1 ok (by omega) exn_ge q0.2.2.1 b2 (Nat.lt_of_lt_of_le hset (Nat.pow_le_pow_right (by decide) hC)) hp4 hn1 hn2 (fun t => rfl)
  rw [Nat.or_zero] at c1
  obtain ⟨o, d1⟩ := e_count (m := m) (f := f3) (e := e3) (tq := tq) (wys := wys) (thn := thn) P H2 s1 (by omega) s7.1 s7.2.2.2.1 s7.2.2.2.2.1 hset hp4 hn1 hn2 (fun t => rfl)
  rw [Nat.or_zero] at d1
  exact ⟨_, f', e', p1, p2, o1, o2, o3, o4, o5, o6, o7, o, b1, c1, c2, d1⟩
theorem v_ways {L G s0 pc ns nc m w : Nat} {hb wh p : Nat → Nat} {F : Nat} {ov : Int32} {E f e st f3 e3 tq hc lc hc' lc' : Nat → Int32} {x d1 d2 d3 d4 d5 d6 y1 y2 y3 : Int32} {g1 g2 : Nat → Int32} {pa pb : Nat} {arr arr2 wys thn : Nat → Int64} (P : PlOK L G s0 pc ns nc hb wh) (H1 : HcOK nc hb wh hc lc) (H2 : HcOK nc hb wh hc' lc') (S : SC L G nc p E F m w ov f e st) :
    ∃ r a1 a2 a3 a4 a5 a6 a7 a8 p1 p2 c1 c2 o', m_X4_ways x (nI L) (nI G) (nI s0) (nI pc) (nI ns) (nI nc) hc lc (nI nc) (nI (om p nc)) (nI F) (wI w) (nI m) ov f e d1 d2 d3 d4 d5 d6 g1 g2 pa pb arr arr2 = some (r, a1, a2, a3, a4, a5, a6, a7, a8, p1, p2, c1, c2) ∧ ((p1 = pa ∧ p2 = pb) ∨ (p1 = pb ∧ p2 = pa)) ∧ m_X5_ways x (nI G) (nI L) (nI nc) (nI s0) (nI pc) (nI ns) y1 y2 y3 hc' lc' st f3 e3 tq wys thn = some (r, o') := by
  unfold m_X4_ways m_X5_ways
  by_cases q1 : x < 1
  · rw [if_pos q1, in_low q1, obind, if_pos rfl]
    exact ⟨_, _, _, _, _, _, _, _, _, _, _, _, _, _, rfl, Or.inl ⟨rfl, rfl⟩, rfl⟩
  · obtain ⟨n, n1, n2, rfl⟩ := i_nat1 q1
    rw [if_neg q1]
    by_cases q2 : n ≤ 20
    · rw [if_pos ((le20 n2).mpr q2), in_yes q1 ((le20 n2).mpr q2), obind, if_neg (show ¬ (1 : Int32) = 0 by decide)]
      have hp0 : exn 0 0 24 ≤ 4 := by rw [exn_0]; decide
      obtain ⟨v, f', e', p1, p2, o1, o2, o3, o4, o5, o6, o7, o, b1, b2, b3, b4⟩ := e_both (set := 0) (f3 := f3) (e3 := e3) (tq := tq) (g1 := g1) (g2 := g2) (pa := pa) (pb := pb) (arr := arr) (arr2 := arr2) (wys := wys) (thn := thn) P H1 H2 S (Nat.two_pow_pos _) hp0 n1 q2
      have b2' : m_X3_countThrough 0 (nI n) pa pb arr arr2 (nI L) (nI G) (nI s0) (nI pc) (nI ns) (nI nc) hc lc (nI (exn 0 nc 24)) (nI (om (exq 0 nc p 24) (exn 0 nc 24))) (nI F) (-9) (nI m) f' e' = some (v, p1, p2, o1, o2, o3, o4, o5, o6, o7) := b2
      have b4' : m_X5_count (nI n) 0 (nI G) (nI L) (nI nc) (nI s0) (nI pc) (nI ns) hc' lc' st f3 e3 tq wys thn = some (v, o) := b4
      rw [b1, obind]
      dsimp only
      rw [b2', obind, b4', obind]
      exact ⟨_, _, _, _, _, _, _, _, _, _, _, _, _, _, rfl, b3, rfl⟩
    · rw [if_neg (fun z => q2 ((le20 n2).mp z)), in_high (fun z => q2 ((le20 n2).mp z)), obind, if_pos rfl]
      exact ⟨_, _, _, _, _, _, _, _, _, _, _, _, _, _, rfl, Or.inl ⟨rfl, rfl⟩, rfl⟩
theorem lt_all {A C : Nat} : clr A (2 ^ C - 1) = 0 ↔ A < 2 ^ C := by
  rw [clr_0]
  constructor
  · intro h
    apply Nat.lt_pow_two_of_testBit
    intro i hi
    cases z : A.testBit i with
    | false => rfl
    | true =>
      have := h i z
      rw [Nat.testBit_two_pow_sub_one, decide_eq_true_eq] at this
      omega
  · intro h i hi
    rw [Nat.testBit_two_pow_sub_one, decide_eq_true_eq]
    rcases Nat.lt_or_ge i C with z | z
    · exact z
    · rw [Nat.testBit_lt_two_pow (Nat.lt_of_lt_of_le h (Nat.pow_le_pow_right (by decide) z))] at hi; cases hi
theorem v_marks {L G s0 pc ns nc m w : Nat} {hb wh p : Nat → Nat} {F : Nat} {ov : Int32} {E f e st f3 e3 tq hc lc hc' lc' : Nat → Int32} {x y d1 d2 d3 d4 d5 d6 y1 y2 y3 : Int32} {g1 g2 : Nat → Int32} {pa pb : Nat} {arr arr2 wys thn : Nat → Int64} (P : PlOK L G s0 pc ns nc hb wh) (H1 : HcOK nc hb wh hc lc) (H2 : HcOK nc hb wh hc' lc') (S : SC L G nc p E F m w ov f e st) :
    ∃ r a1 a2 a3 a4 a5 a6 a7 a8 p1 p2 c1 c2 o', m_X4_marks y x (nI L) (nI G) (nI s0) (nI pc) (nI ns) (nI nc) hc lc (nI nc) (nI (om p nc)) (nI F) (wI w) (nI m) ov f e d1 d2 d3 d4 d5 d6 g1 g2 pa pb arr arr2 = some (r, a1, a2, a3, a4, a5, a6, a7, a8, p1, p2, c1, c2) ∧ ((p1 = pa ∧ p2 = pb) ∨ (p1 = pb ∧ p2 = pa)) ∧ m_X5_marks y x (nI G) (nI L) (nI nc) (nI s0) (nI pc) (nI ns) y1 y2 y3 hc' lc' st f3 e3 tq wys thn = some (r, o') := by
  have hC := P.2.2.2.2.1
  have hCp : 2 ^ (L * G) ≤ 2 ^ 24 := Nat.pow_le_pow_right (by decide) hC
  unfold m_X4_marks m_X5_marks
  obtain ⟨k, hk, rfl⟩ := i_any y
  rw [e_all hC, obind, nI_anot, e_cells5]
  have hcl : clr k (2 ^ (L * G) - 1) < 2 ^ 32 := clr_lt hk
  have hce : (k ^^^ k &&& (2 ^ (L * G) - 1)) = clr k (2 ^ (L * G) - 1) := rfl
  rw [hce]
  by_cases q0 : k < 2 ^ (L * G)
  · have hk24 : k < 2 ^ 24 := by omega
    have hpop : exn k 0 24 ≤ 24 := exn_le24
    rw [if_pos ((eq0' hcl).mpr (lt_all.mpr q0)), if_neg (nI_lt0 (by omega)), obind, shl1 (by omega), if_neg (nI_ge q0 (by omega)), e_bits hk24, e_bits5 hk24, obind, obind]
    by_cases q4 : 4 < exn k 0 24
    · rw [if_pos ((gt4 (by omega)).mpr q4), if_pos ((gt4 (by omega)).mpr q4)]
      exact ⟨_, _, _, _, _, _, _, _, _, _, _, _, _, _, rfl, Or.inl ⟨rfl, rfl⟩, rfl⟩
    · rw [if_neg (fun z => q4 ((gt4 (by omega)).mp z)), if_neg (fun z => q4 ((gt4 (by omega)).mp z))]
      by_cases q1 : x < 1
      · rw [if_pos q1, in_low q1, obind, if_pos rfl]
        exact ⟨_, _, _, _, _, _, _, _, _, _, _, _, _, _, rfl, Or.inl ⟨rfl, rfl⟩, rfl⟩
      · obtain ⟨n, n1, n2, rfl⟩ := i_nat1 q1
        rw [if_neg q1]
        by_cases q2 : n ≤ 20
        · rw [if_pos ((le20 n2).mpr q2), in_yes q1 ((le20 n2).mpr q2), obind, if_neg (show ¬ (1 : Int32) = 0 by decide)]
          obtain ⟨v, f', e', p1, p2, o1, o2, o3, o4, o5, o6, o7, o, b1, b2, b3, b4⟩ := e_both (set := k) (f3 := f3) (e3 := e3) (tq := tq) (g1 := g1) (g2 := g2) (pa := pa) (pb := pb) (arr := arr) (arr2 := arr2) (wys := wys) (thn := thn) P H1 H2 S q0 (by omega) n1 q2
          rw [b1, obind]
          dsimp only
          rw [b2, obind, b4, obind]
          exact ⟨_, _, _, _, _, _, _, _, _, _, _, _, _, _, rfl, b3, rfl⟩
        · rw [if_neg (fun z => q2 ((le20 n2).mp z)), in_high (fun z => q2 ((le20 n2).mp z)), obind, if_pos rfl]
          exact ⟨_, _, _, _, _, _, _, _, _, _, _, _, _, _, rfl, Or.inl ⟨rfl, rfl⟩, rfl⟩
  · rw [if_neg (fun z => q0 (lt_all.mp ((eq0' hcl).mp z)))]
    by_cases q1 : nI k < 0
    · rw [if_pos q1]
      exact ⟨_, _, _, _, _, _, _, _, _, _, _, _, _, _, rfl, Or.inl ⟨rfl, rfl⟩, rfl⟩
    · obtain ⟨k', hk', e'⟩ := i_nat q1
      have ek : k = k' := by
        have h1 : (nI k).toBitVec.toNat = k % 2 ^ 32 := BitVec.toNat_ofNat k 32
        have h2 : (nI k').toBitVec.toNat = k' % 2 ^ 32 := BitVec.toNat_ofNat k' 32
        rw [e', h2] at h1
        omega
      rw [if_neg q1, obind, shl1 (by omega), if_pos (nI_le (by omega) (by omega))]
      exact ⟨_, _, _, _, _, _, _, _, _, _, _, _, _, _, rfl, Or.inl ⟨rfl, rfl⟩, rfl⟩

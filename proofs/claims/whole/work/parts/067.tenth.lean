/-! TENTH: one cat more that sleeps. -/
def ws (Tn : Nat → Bool) (W : Nat → Nat) : Nat → Nat × Nat
  | 0 => (99, 0)
  | c + 1 => if Tn c = true then ws Tn W c else if (ws Tn W c).2 < W c then (c, W c) else ws Tn W c
theorem ws_ok {Tn : Nat → Bool} {W : Nat → Nat} (hW : ∀ c, W c = 1000 ∨ (1 ≤ W c ∧ W c ≤ 40)) : ∀ k, (ws Tn W k = (99, 0)) ∨ ((ws Tn W k).1 < k ∧ ((ws Tn W k).2 = 1000 ∨ (1 ≤ (ws Tn W k).2 ∧ (ws Tn W k).2 ≤ 40)))
  | 0 => Or.inl rfl
  | k + 1 => by
    rw [ws]
    split
    · rcases ws_ok (Tn := Tn) hW k with h | h
      · exact Or.inl h
      · exact Or.inr ⟨by omega, h.2⟩
    · split
      · exact Or.inr ⟨by show k < k + 1; omega, hW k⟩
      · rcases ws_ok (Tn := Tn) hW k with h | h
        · exact Or.inl h
        · exact Or.inr ⟨by omega, h.2⟩
def lw0 (W : Nat) : Int32 := if W = 0 then -9 else cw W
def xm (W : Nat) : Int32 := if W = 0 then -1 else nI W
theorem xm_le {A B : Nat} (hA : 1 ≤ A) (hA2 : A < 2 ^ 20) (hB : B < 2 ^ 20) : nI A ≤ xm B ↔ A ≤ B := by
  unfold xm
  by_cases q : B = 0
  · rw [if_pos q]
    constructor
    · intro z
      rw [Int32.le_iff_toInt_le, nI_toInt (by omega), show (-1 : Int32).toInt = -1 by decide] at z
      omega
    · intro z; omega
  · rw [if_neg q, nI_leI (by omega) (by omega)]
theorem e_isFreeC {L G M c : Nat} (hC : L * G ≤ 24) (hc : c < L * G) (hM : M < 2 ^ 24) (h : m_X0_isCell (nI c) (nI L) (nI G) = some 1) : m_X4_isFree (nI c) (nI L) (nI G) (nI M) = some (if M.testBit c = true then 0 else 1) := by
  unfold m_X4_isFree
  rw [h, obind, if_neg (show ¬ (1 : Int32) = 0 by decide), e_hasBit hM (by omega), obind]
  cases z : M.testBit c with
  | true => rw [bn_t z, if_neg (by decide), bz0]; rfl
  | false => rw [bn_f z, if_pos (by rfl), bz1]; rfl
theorem isCell1 {L G c : Nat} (h0 : 0 < L * G) (hC : L * G ≤ 24) (hc : c < L * G) : m_X0_isCell (nI c) (nI L) (nI G) = some 1 := by
  unfold m_X0_isCell
  rw [if_neg (nI_lt0 (by omega)), e_cells, obind, if_neg (nI_ge hc (by omega)), bz1]
theorem v_tenth {L G s0 pc ns nc m w : Nat} {hb wh p : Nat → Nat} {F : Nat} {ov : Int32} {E f e st f3 e3 tq lq hc lc hc' lc' : Nat → Int32} {x d1 d2 d3 d4 d5 d6 y1 y2 y3 : Int32} {g1 g2 : Nat → Int32} (P : PlOK L G s0 pc ns nc hb wh) (H1 : HcOK nc hb wh hc lc) (H2 : HcOK nc hb wh hc' lc') (S : SC L G nc p E F m w ov f e st) :
    ∃ r o o', m_X4_tenth x (nI L) (nI G) (nI s0) (nI pc) (nI ns) (nI nc) hc lc (nI nc) (nI (om p nc)) (nI F) (wI w) (nI m) ov f e d1 d2 d3 d4 d5 d6 g1 g2 = some (r, o) ∧ m_X5_tenth x (nI G) (nI L) (nI nc) (nI s0) (nI pc) (nI ns) y1 y2 y3 hc' lc' st f3 e3 tq lq = some (r, o') := by
  have P' := P
  obtain ⟨h0, hL, hG0, hG, hC, hs, hp0, hp, hns, hnc5, hb3, hwh⟩ := P'
  obtain ⟨s1, s2, s3, s4, ⟨s5, s6⟩, s7⟩ := S
  have hom : om p nc < 2 ^ 24 := om_lt (fun j hj => Nat.lt_of_lt_of_le (s1.1.1 j hj) hC)
  have hCpos : 0 < L * G := Nat.mul_pos h0 hG0
  have z0 : Wf L G s0 pc ns nc hb wh p F m = Wf L G s0 pc ns nc hb wh p F m := rfl
  unfold m_X4_tenth m_X5_tenth
  by_cases q1 : x = -1
  · rw [if_pos q1, if_pos q1]
    generalize hW : (fun c => Wf L G s0 pc ns nc hb wh p F m (2 ^ c) 0) = W
    have hWc : ∀ c, Wf L G s0 pc ns nc hb wh p F m (2 ^ c) 0 = W c := fun c => by rw [← hW]
    have wc : ∀ c, W c = 1000 ∨ (1 ≤ W c ∧ W c ≤ 40) := fun c => by rw [← hWc]; exact w_cases P
    generalize hTn : (fun c => (om p nc).testBit c) = Tn
    have hT : ∀ c, (om p nc).testBit c = Tn c := fun c => by rw [← hTn]
    have A : ∃ a1 a2 a3 a4 a5 a6 f' e', m_X4_worstCell (nI L) (nI G) (nI s0) (nI pc) (nI ns) (nI nc) hc lc (nI nc) (nI (om p nc)) (nI F) (wI w) (nI m) ov f e d1 d2 d3 d4 d5 d6 g1 g2 = some (wI (ws Tn W (L * G)).1, a1, a2, a3, a4, a5, a6, f', e') := by
      unfold m_X4_worstCell
      refine lpUpE _ (L * G) (fun k s => ∃ o, s = (wI (ws Tn W k).1, lw0 (ws Tn W k).2, nI k, o)) (fun z => ∃ a1 a2 a3 a4 a5 a6 f' e', z = some (wI (ws Tn W (L * G)).1, a1, a2, a3, a4, a5, a6, f', e')) ?_ ?_ (by omega) 0 (by omega) _ ⟨_, rfl⟩
      · intro k s rec hk hJ hrec
        obtain ⟨⟨o1, o2, o3, o4, o5, o6, o7, o8⟩, rfl⟩ := hJ
        dsimp only
        unfold X4_worstCell_f8
        rw [e_cells, obind, if_neg (nI_ge hk (by omega)), e_isFreeC hC hk hom (isCell1 hCpos hC hk), obind, hT k]
        cases z : Tn k with
        | true =>
          have e1 : ws Tn W (k + 1) = ws Tn W k := by rw [ws, z, if_pos rfl]
          rw [if_pos (by rfl)]
          unfold X4_worstCell_j63
          rw [nI_1]
          exact hrec _ ⟨(o1, o2, o3, o4, o5, o6, o7, o8), by rw [e1]⟩
        | false =>
          have hfree : (om p nc).testBit k = false := by rw [hT, z]
          have q := sx_cat (nc := nc) hnc5 hC hk hfree
          obtain ⟨f', e', b1, b2⟩ := e_sketch (F := nI F) (w := wI w) (m := nI m) (ov := ov) (f := o7) (e := o8) (f1 := f) (e1 := e) (S := 2 ^ k) (Nat.lt_of_lt_of_le q.1 (Nat.pow_le_pow_right (by decide) hC)) q.2.2.1 s5
          obtain ⟨⟨p1, p2, p3, p4, p5⟩, c1⟩ := e_soonW (m := m) (e := e') P H1 s1 q (by omega) b2
          rw [Nat.or_zero, hWc k] at c1
          rw [if_neg (by decide), shl1 (by omega), b1, obind]
          dsimp only
          rw [c1, obind]
          dsimp only
          have e0 : ws Tn W (k + 1) = if (ws Tn W k).2 < W k then (k, W k) else ws Tn W k := by rw [ws, z, if_neg (by decide)]
          have wk := wc k
          have lwW : lw0 (W k) = cw (W k) := by unfold lw0; rw [if_neg (by omega)]
          rcases ws_ok (Tn := Tn) wc k with hb9 | ⟨hb1, hb2⟩
          · rw [hb9] at e0 ⊢
            rw [if_pos (by rfl)]
            unfold X4_worstCell_j58 X4_worstCell_j63
            rw [nI_1]
            refine hrec _ ⟨(nI (exn (2 ^ k) nc 24), p1, p2, -9, p3, ov, p4, p5), ?_⟩
            rw [e0, if_pos (by show 0 < W k; omega), wIn (by show k < 24; omega)]
            show _ = (_, lw0 (W k), _)
            rw [lwW]
          · rw [if_neg (by rw [wIn (by omega)]; exact m9_ne (by omega))]
            have lwB : lw0 (ws Tn W k).2 = cw (ws Tn W k).2 := by unfold lw0; rw [if_neg (by omega)]
            rw [lwB, e_sooner hb2 wk, obind]
            by_cases y : (ws Tn W k).2 < W k
            · rw [if_pos y, if_neg (by decide)]
              unfold X4_worstCell_j58 X4_worstCell_j63
              rw [nI_1]
              refine hrec _ ⟨(nI (exn (2 ^ k) nc 24), p1, p2, -9, p3, ov, p4, p5), ?_⟩
              rw [e0, if_pos y, wIn (by show k < 24; omega)]
              show _ = (_, lw0 (W k), _)
              rw [lwW]
            · rw [if_neg y, if_pos rfl]
              unfold X4_worstCell_j63
              rw [nI_1]
              refine hrec _ ⟨(nI (exn (2 ^ k) nc 24), p1, p2, -9, p3, ov, p4, p5), ?_⟩
              rw [e0, if_neg y, lwB]
      · intro s rec hJ
        obtain ⟨⟨o1, o2, o3, o4, o5, o6, o7, o8⟩, rfl⟩ := hJ
        dsimp only
        unfold X4_worstCell_f8
        rw [e_cells, obind, if_pos (nI_le (Nat.le_refl _) (by omega))]
        exact ⟨_, _, _, _, _, _, _, _, rfl⟩
    have B : ∃ o, lpN (fun (rec : Int32 × Int32 × Int32 × Int32 × Int32 × Int32 × (Nat → Int32) × (Nat → Int32) × (Nat → Int32) × (Nat → Int32) → Option (Int32 × Int32 × Int32 × Int32 × (Nat → Int32) × (Nat → Int32) × (Nat → Int32) × (Nat → Int32))) (s : Int32 × Int32 × Int32 × Int32 × Int32 × Int32 × (Nat → Int32) × (Nat → Int32) × (Nat → Int32) × (Nat → Int32)) => X5_tenth_f47 (nI G) (nI L) (nI nc) (nI s0) (nI pc) (nI ns) hc' lc' st (fun e4 e5 e6 e7 e8 e9 e10 e11 => some (e4, e5, e6, e7, e8, e9, e10, e11)) (fun r0 r1 r2 r3 r4 r5 r6 r7 r8 r9 => rec (r0, r1, r2, r3, r4, r5, r6, r7, r8, r9)) s.1 s.2.1 s.2.2.1 s.2.2.2.1 s.2.2.2.2.1 s.2.2.2.2.2.1 s.2.2.2.2.2.2.1 s.2.2.2.2.2.2.2.1 s.2.2.2.2.2.2.2.2.1 s.2.2.2.2.2.2.2.2.2) fz ((-1), (-9), 0, y1, y2, y3, f3, e3, tq, lq) = some (wI (ws Tn W (L * G)).1, o) := by
      refine lpUpE _ (L * G) (fun k s => ∃ o, s = (xm (ws Tn W k).2, wI (ws Tn W k).1, nI k, o)) (fun z => ∃ o, z = some (wI (ws Tn W (L * G)).1, o)) ?_ ?_ (by omega) 0 (by omega) _ ⟨_, rfl⟩
      · intro k s rec hk hJ hrec
        obtain ⟨⟨o1, o2, o3, o5, o6, o7, o8⟩, rfl⟩ := hJ
        dsimp only
        unfold X5_tenth_f47
        rw [e_cells5, obind, if_neg (nI_ge hk (by omega)), e_catAt hnc5 (by omega) (fun j hj => Nat.lt_of_lt_of_le (s1.1.1 j hj) hC) s7.2.2.2.2.1, obind]
        cases z : Tn k with
        | true =>
          have e1 : ws Tn W (k + 1) = ws Tn W k := by rw [ws, z, if_pos rfl]
          rw [if_neg (fun y => by rw [ci_9 s1.1 (by omega), hT, z] at y; cases y)]
          unfold X5_tenth_j104
          rw [nI_1]
          exact hrec _ ⟨(o1, o2, o3, o5, o6, o7, o8), by rw [e1]⟩
        | false =>
          have hfree : (om p nc).testBit k = false := by rw [hT, z]
          have b : ∃ a b c : Int32, ∃ f' e' tq' lq' : Nat → Int32, m_X5_findWay (nI (2 ^ k)) 0 (nI G) (nI L) (nI nc) (nI s0) (nI pc) (nI ns) hc' lc' st o5 o6 o7 o8 = some (nI (Wf L G s0 pc ns nc hb wh p F m (2 ^ k) 0), a, b, c, f', e', tq', lq') := e_findW (X := 0) P H2 s1 (sx_cat hnc5 hC hk hfree) (by omega) s7.1 s7.2.2.2.1 s7.2.2.2.2.1
          obtain ⟨a, b, c, u1, u2, u3, u4, b1⟩ := b
          have wk := wc k
          have e0 : ws Tn W (k + 1) = if (ws Tn W k).2 < W k then (k, W k) else ws Tn W k := by rw [ws, z, if_neg (by decide)]
          have hb2 : (ws Tn W k).2 ≤ 1000 := by
            rcases ws_ok (Tn := Tn) wc k with hb9 | ⟨-, hb2⟩
            · rw [hb9]; exact Nat.zero_le _
            · omega
          have hx := xm_le (A := W k) (B := (ws Tn W k).2) (by omega) (by omega) (by omega)
          rw [if_pos ((ci_9 s1.1 (by omega)).mpr hfree), shl1 (by omega), b1, obind, hWc k]
          dsimp only
          by_cases y : (ws Tn W k).2 < W k
          · rw [if_neg (fun t => by have := hx.mp t; omega)]
            unfold X5_tenth_j90
            rw [if_neg (fun t => by have := hx.mp t; omega)]
            unfold X5_tenth_j103 X5_tenth_j104
            rw [nI_1]
            refine hrec _ ⟨(a, b, c, u1, u2, u3, u4), ?_⟩
            rw [e0, if_pos y, wIn (by show k < 24; omega)]
            show _ = (xm (W k), _)
            unfold xm
            rw [if_neg (by omega)]
          · rw [if_pos (hx.mpr (by omega))]
            unfold X5_tenth_j90
            rw [if_pos (hx.mpr (by omega))]
            unfold X5_tenth_j103 X5_tenth_j104
            rw [nI_1]
            exact hrec _ ⟨(a, b, c, u1, u2, u3, u4), by rw [e0, if_neg y]⟩
      · intro s rec hJ
        obtain ⟨⟨o1, o2, o3, o5, o6, o7, o8⟩, rfl⟩ := hJ
        dsimp only
        unfold X5_tenth_f47
        rw [e_cells5, obind, if_pos (nI_le (Nat.le_refl _) (by omega))]
        exact ⟨_, rfl⟩
    obtain ⟨a1, a2, a3, a4, a5, a6, f', e', A⟩ := A
    obtain ⟨o, B⟩ := B
    rw [A, obind]
    exact ⟨_, _, _, rfl, B⟩
  · rw [if_neg q1, if_neg q1]
    rcases e_isCellB (x := x) (L := L) (G := G) hCpos hC with ⟨a1, a2⟩ | ⟨c, hcc, rfl, a1, a2⟩
    · have hF : m_X4_isFree x (nI L) (nI G) (nI (om p nc)) = some 0 := by unfold m_X4_isFree; rw [a1, obind, if_pos rfl, bz0]
      exact ⟨-1, _, _, by rw [hF, obind, if_pos rfl], by rw [a2, obind, if_pos rfl]⟩
    · rw [e_isFreeC hC hcc hom a1, obind, a2, obind, if_neg (show ¬ (1 : Int32) = 0 by decide), e_catAt hnc5 (by omega) (fun j hj => Nat.lt_of_lt_of_le (s1.1.1 j hj) hC) s7.2.2.2.2.1, obind]
      cases z : (om p nc).testBit c with
      | true => exact ⟨-1, _, _, by rw [if_pos (by rfl)], by rw [if_neg (fun y => by rw [ci_9 s1.1 (by omega), z] at y; cases y)]⟩
      | false =>
        have q := sx_cat (nc := nc) hnc5 hC hcc z
        obtain ⟨a1, a2, a3, a4, a5, a6, f', e', b1⟩ := e_withS (w := wI w) (ov := ov) (e := e) (f2 := g1) (e2 := g2) P H1 s1 q (show m < 2 ^ 10 by omega) s5
        have b : ∃ a b c' : Int32, ∃ f' e' tq' lq' : Nat → Int32, m_X5_findWay (nI (2 ^ c)) 0 (nI G) (nI L) (nI nc) (nI s0) (nI pc) (nI ns) hc' lc' st f3 e3 tq lq = some (nI (Wf L G s0 pc ns nc hb wh p F m (2 ^ c) 0), a, b, c', f', e', tq', lq') := e_findW (X := 0) P H2 s1 q (by omega) s7.1 s7.2.2.2.1 s7.2.2.2.2.1
        obtain ⟨a, b, c', u1, u2, u3, u4, b2⟩ := b
        rw [if_neg (by decide), shl1 (by omega), b1, obind, if_pos ((ci_9 s1.1 (by omega)).mpr z), b2, obind]
        dsimp only
        rw [e_told (w_cases P), obind]
        exact ⟨_, _, _, rfl, rfl⟩

/-! CALLS that ask: move, cat, cell, now. -/
theorem e_isCatB {x : Int32} {nc : Nat} (hn : nc ≤ 5) : (m_X4_isCat x (nI nc) = some 0 ∧ m_X5_isCat x (nI nc) = some 0) ∨ ∃ k, k < nc ∧ x = nI k ∧ m_X4_isCat x (nI nc) = some 1 ∧ m_X5_isCat x (nI nc) = some 1 := by
  unfold m_X4_isCat m_X5_isCat
  by_cases q1 : x < 0
  · exact Or.inl ⟨by rw [if_pos q1, bz0], by rw [in_low q1, obind, bz0]⟩
  · obtain ⟨k, k2, rfl⟩ := i_nat q1
    by_cases q2 : nc ≤ k
    · refine Or.inl ⟨by rw [if_neg q1, if_pos (nI_le q2 k2), bz0], ?_⟩
      rw [in_high, obind, bz0]
      intro z
      rcases (show nc = 0 ∨ 0 < nc by omega) with h | h
      · subst h
        rw [Int32.le_iff_toInt_le, nI_toInt k2, show (nI 0 - 1 : Int32).toInt = -1 by decide] at z
        omega
      · rw [nI_s1 h] at z
        exact nI_ge (by omega) k2 z
    · refine Or.inr ⟨k, by omega, rfl, by rw [if_neg q1, if_neg (nI_ge (by omega) (by omega)), bz1], ?_⟩
      rw [nI_s1 (by omega), in_yes q1 (nI_le (by omega) (by omega)), obind, bz1]
theorem e_isCellB {x : Int32} {L G : Nat} (h0 : 0 < L * G) (hC : L * G ≤ 24) : (m_X0_isCell x (nI L) (nI G) = some 0 ∧ m_X5_isCell x (nI G) (nI L) = some 0) ∨ ∃ c, c < L * G ∧ x = nI c ∧ m_X0_isCell x (nI L) (nI G) = some 1 ∧ m_X5_isCell x (nI G) (nI L) = some 1 := by
  unfold m_X0_isCell m_X5_isCell
  rw [e_cells, obind, e_cells5, obind, nI_s1 h0]
  by_cases q1 : x < 0
  · exact Or.inl ⟨by rw [if_pos q1, bz0], by rw [in_low q1, obind, bz0]⟩
  · obtain ⟨k, k2, rfl⟩ := i_nat q1
    by_cases q2 : L * G ≤ k
    · exact Or.inl ⟨by rw [if_neg q1, if_pos (nI_le q2 k2), bz0], by rw [in_high (nI_ge (by omega) k2), obind, bz0]⟩
    · exact Or.inr ⟨k, by omega, rfl, by rw [if_neg q1, if_neg (nI_ge (by omega) (by omega)), bz1], by rw [in_yes q1 (nI_le (by omega) (by omega)), obind, bz1]⟩
-- ===== where a move leads (99: out of the bridge)
theorem nle0 {a : Nat} (h0 : 0 < a) (h : a < 2 ^ 31) : ¬ nI a ≤ (0 : Int32) := nI_ge (a := 0) h0 h
theorem right_lt {L G a : Nat} (ha : a < L * G) (q : ¬ L ≤ a % L + 1) : a + 1 < L * G := by
  have h1 := Nat.div_add_mod a L
  have h2 : a / L < G := Nat.div_lt_of_lt_mul ha
  have h3 := Nat.mul_le_mul_left L (show a / L + 1 ≤ G from h2)
  rw [Nat.mul_add] at h3
  omega
def cb (L G a h : Nat) : Nat := if h = 0 then (if L ≤ a % L + 1 then 99 else a + 1) else if h = 1 then (if a < L then 99 else a - L) else if h = 2 then (if L * G ≤ a + L then 99 else a + L) else if h = 3 then (if a % L = 0 then 99 else a - 1) else a
theorem cb_lt {L G a h : Nat} (h0 : 0 < L) (ha : a < L * G) : cb L G a h = 99 ∨ cb L G a h < L * G := by
  unfold cb
  split
  · split
    · exact Or.inl rfl
    · rename_i q
      right
      have h1 := Nat.div_add_mod a L
      have h2 : a / L < G := Nat.div_lt_of_lt_mul ha
      have h3 := Nat.mul_le_mul_left L (show a / L + 1 ≤ G from h2)
      rw [Nat.mul_add] at h3
      omega
  · split
    · split
      · exact Or.inl rfl
      · right; omega
    · split
      · split
        · exact Or.inl rfl
        · right; omega
      · split
        · split
          · exact Or.inl rfl
          · right; omega
        · exact Or.inr ha
theorem e_cellBy {L G a h : Nat} (h0 : 0 < L) (hL : L ≤ 8) (hC : L * G ≤ 24) (ha : a < L * G) (hh : h ≤ 4) : m_X0_cellBy (nI a) (nI h) (nI L) (nI G) = some (wI (cb L G a h)) := by
  have hcb := cb_lt (h := h) h0 ha
  have h3 : a % L ≤ a := Nat.mod_le _ _
  have fin : ∀ y : Nat, cb L G a h = y → y < 24 → some (nI y) = some (wI (cb L G a h)) := fun y e q => by rw [e, wIn q]
  have fin9 : cb L G a h = 99 → some (-9 : Int32) = some (wI (cb L G a h)) := fun e => by rw [e]; rfl
  unfold m_X0_cellBy
  rcases (show h = 0 ∨ h = 1 ∨ h = 2 ∨ h = 3 ∨ h = 4 by omega) with e | e | e | e | e <;> subst e
  · rw [if_pos (by rfl), e_col (by omega) h0 (by omega), obind, nI_1]
    by_cases q : L ≤ a % L + 1
    · rw [if_pos (nI_le q (by omega))]
      exact fin9 (by unfold cb; rw [if_pos rfl, if_pos q])
    · rw [if_neg (nI_ge (by omega) (by omega)), nI_1]
      exact fin _ (by unfold cb; rw [if_pos rfl, if_neg q]) (by have := right_lt ha q; omega)
  · rw [if_neg (by decide), if_pos (by rfl)]
    by_cases q : a < L
    · have hl : (nI a - nI L : Int32) < 0 := by
        rw [Int32.lt_iff_toInt_lt, dI_toInt (by omega) (by omega)]; show (a : Int) - L < 0; omega
      rw [if_pos hl]
      exact fin9 (by unfold cb; rw [if_neg (by decide), if_pos rfl, if_pos q])
    · rw [nI_sub (by omega), if_neg (nI_lt0 (by omega))]
      exact fin _ (by unfold cb; rw [if_neg (by decide), if_pos rfl, if_neg q]) (by omega)
  · rw [if_neg (by decide), if_neg (by decide), if_pos (by rfl), e_cells, obind, nI_add]
    by_cases q : L * G ≤ a + L
    · rw [if_pos (nI_le q (by omega))]
      exact fin9 (by unfold cb; rw [if_neg (by decide), if_neg (by decide), if_pos rfl, if_pos q])
    · rw [if_neg (nI_ge (by omega) (by omega))]
      exact fin _ (by unfold cb; rw [if_neg (by decide), if_neg (by decide), if_pos rfl, if_neg q]) (by omega)
  · rw [if_neg (by decide), if_neg (by decide), if_neg (by decide), if_pos (by rfl), e_col (by omega) h0 (by omega), obind]
    by_cases q : a % L = 0
    · rw [q, if_pos (by decide)]
      exact fin9 (by unfold cb; rw [if_neg (by decide), if_neg (by decide), if_neg (by decide), if_pos rfl, if_pos q])
    · rw [if_neg (nle0 (by omega) (by omega)), nI_s1 (by omega)]
      exact fin _ (by unfold cb; rw [if_neg (by decide), if_neg (by decide), if_neg (by decide), if_pos rfl, if_neg q]) (by omega)
  · rw [if_neg (by decide), if_neg (by decide), if_neg (by decide), if_neg (by decide)]
    exact fin _ (by unfold cb; rw [if_neg (by decide), if_neg (by decide), if_neg (by decide), if_neg (by decide)]) (by omega)
/-- the reference's: 24 over an end, -9 over a side -/
def cbM (L G a h : Nat) : Int32 := if cb L G a h = 99 then (if h = 0 ∨ h = 3 then 24 else -9) else nI (cb L G a h)
theorem e_comesTo {L G a h : Nat} (h0 : 0 < L) (hL : L ≤ 8) (hC : L * G ≤ 24) (ha : a < L * G) (hh : h ≤ 4) : m_X5_comesTo (nI a) (nI h) (nI G) (nI L) = some (cbM L G a h) := by
  have h3 : a % L ≤ a := Nat.mod_le _ _
  have h4 : a / L ≤ a := Nat.div_le_self _ _
  have h5 := Nat.div_add_mod a L
  have h6 : a % L < L := Nat.mod_lt _ h0
  have hG : G ≤ 24 := Nat.le_trans (Nat.le_mul_of_pos_left G h0) hC
  have hrow : a / L < G := Nat.div_lt_of_lt_mul ha
  have fin : ∀ y : Nat, cb L G a h = y → y < 24 → some (nI y) = some (cbM L G a h) := fun y e q => by unfold cbM; rw [e, if_neg (by omega)]
  have fin9 : ∀ r : Int32, cb L G a h = 99 → r = (if h = 0 ∨ h = 3 then 24 else -9) → some r = some (cbM L G a h) := fun r e z => by unfold cbM; rw [if_pos e, z]
  unfold m_X5_comesTo
  simp only [nz_ok h0 (show L < 2 ^ 31 by omega), nm_eq]
  rw [nI_rem (by omega) h0 (by omega), nI_div (by omega) h0 (by omega)]
  rcases (show h = 0 ∨ h = 1 ∨ h = 2 ∨ h = 3 ∨ h = 4 by omega) with e | e | e | e | e <;> subst e
  · rw [if_pos (by rfl), nI_1]
    by_cases q : L ≤ a % L + 1
    · rw [if_pos (nI_le q (by omega))]
      exact fin9 _ (by unfold cb; rw [if_pos rfl, if_pos q]) (by rw [if_pos (Or.inl rfl)])
    · rw [if_neg (nI_ge (by omega) (by omega)), nI_1]
      have h2 : a / L < G := Nat.div_lt_of_lt_mul ha
      have h7 := Nat.mul_le_mul_left L (show a / L + 1 ≤ G from h2)
      rw [Nat.mul_add] at h7
      exact fin _ (by unfold cb; rw [if_pos rfl, if_neg q]) (by have := right_lt ha q; omega)
  · rw [if_neg (by decide), if_pos (by rfl)]
    by_cases q : a < L
    · rw [Nat.div_eq_of_lt q, if_pos (by decide)]
      exact fin9 _ (by unfold cb; rw [if_neg (by decide), if_pos rfl, if_pos q]) (by rw [if_neg (by decide)])
    · have : 0 < a / L := Nat.div_pos (by omega) h0
      rw [if_neg (nle0 this (by omega)), nI_sub (by omega)]
      exact fin _ (by unfold cb; rw [if_neg (by decide), if_pos rfl, if_neg q]) (by omega)
  · rw [if_neg (by decide), if_neg (by decide), if_pos (by rfl), nI_1]
    by_cases q : G ≤ a / L + 1
    · have q2 : L * G ≤ a + L := by
        have h7 := Nat.mul_le_mul_left L q
        rw [Nat.mul_add] at h7
        omega
      rw [if_pos (nI_le q (by omega))]
      exact fin9 _ (by unfold cb; rw [if_neg (by decide), if_neg (by decide), if_pos rfl, if_pos q2]) (by rw [if_neg (by decide)])
    · have q2 : ¬ L * G ≤ a + L := by
        have h7 := Nat.mul_le_mul_left L (show a / L + 1 + 1 ≤ G by omega)
        rw [Nat.mul_add, Nat.mul_add] at h7
        omega
      rw [if_neg (nI_ge (by omega) (by omega)), nI_add]
      exact fin _ (by unfold cb; rw [if_neg (by decide), if_neg (by decide), if_pos rfl, if_neg q2]) (by omega)
  · rw [if_neg (by decide), if_neg (by decide), if_neg (by decide), if_neg (by decide)]
    by_cases q : a % L = 0
    · rw [q, if_pos (by decide)]
      exact fin9 _ (by unfold cb; rw [if_neg (by decide), if_neg (by decide), if_neg (by decide), if_pos rfl, if_pos q]) (by rw [if_pos (Or.inr rfl)])
    · rw [if_neg (nle0 (by omega) (by omega)), nI_s1 (by omega)]
      exact fin _ (by unfold cb; rw [if_neg (by decide), if_neg (by decide), if_neg (by decide), if_pos rfl, if_neg q]) (by omega)
  · rw [if_neg (by decide), if_neg (by decide), if_neg (by decide), if_pos (by rfl)]
    exact fin _ (by unfold cb; rw [if_neg (by decide), if_neg (by decide), if_neg (by decide), if_neg (by decide)]) (by omega)
theorem cbM_24 {L G a h : Nat} (hC : L * G ≤ 24) (h0 : 0 < L) (ha : a < L * G) : cbM L G a h = 24 ↔ (cb L G a h = 99 ∧ (h = 0 ∨ h = 3)) := by
  have hcb := cb_lt (h := h) h0 ha
  unfold cbM
  by_cases q : cb L G a h = 99
  · rw [if_pos q]
    by_cases z : h = 0 ∨ h = 3
    · rw [if_pos z]; exact ⟨fun _ => ⟨q, z⟩, fun _ => rfl⟩
    · rw [if_neg z]; exact ⟨fun e => absurd e (by decide), fun e => absurd e.2 z⟩
  · rw [if_neg q]
    exact ⟨fun e => by have := (nI_eq (b := 24) (by omega) (by decide)).mp e; omega, fun e => absurd e.1 q⟩
theorem cbM_9 {L G a h : Nat} (hC : L * G ≤ 24) (h0 : 0 < L) (ha : a < L * G) : cbM L G a h = -9 ↔ (cb L G a h = 99 ∧ ¬ (h = 0 ∨ h = 3)) := by
  have hcb := cb_lt (h := h) h0 ha
  unfold cbM
  by_cases q : cb L G a h = 99
  · rw [if_pos q]
    by_cases z : h = 0 ∨ h = 3
    · rw [if_pos z]; exact ⟨fun e => absurd e (by decide), fun e => absurd z e.2⟩
    · rw [if_neg z]; exact ⟨fun _ => ⟨q, z⟩, fun _ => rfl⟩
  · rw [if_neg q]
    exact ⟨fun e => absurd e (m9_ne (by omega)), fun e => absurd e.1 q⟩
theorem v_move {L G s0 pc ns nc m w : Nat} {hb wh p : Nat → Nat} {F : Nat} {ov : Int32} {E f e st f2 e2 hc lc hc' lc' : Nat → Int32} {x a b c : Int32} (P : PlOK L G s0 pc ns nc hb wh) (H1 : HcOK nc hb wh hc lc) (H2 : HcOK nc hb wh hc' lc') (S : SC L G nc p E F m w ov f e st) :
    ∃ r p' E' F' m' w' ov' f' e' a' b' c' st' f2' e2', m_X4_move x (nI L) (nI G) (nI s0) (nI pc) (nI ns) (nI nc) hc lc (nI nc) (nI (om p nc)) (nI F) (wI w) (nI m) ov f e = some (r, nI (om p' nc), nI F', wI w', nI m', ov', f', e') ∧ m_X5_move x (nI G) (nI L) (nI nc) (nI s0) (nI pc) (nI ns) a b c hc' lc' st f2 e2 = some (r, a', b', c', st', f2', e2') ∧ SC L G nc p' E' F' m' w' ov' f' e' st' := by
  have P' := P
  obtain ⟨h0, hL, hG0, hG, hC, hs, hp0, hp, hns, hnc5, hb3, hwh⟩ := P'
  have S' := S
  obtain ⟨s1, s2, s3, s4, ⟨s5, s6⟩, s7⟩ := S'
  have hw : w < 24 ∨ w = 99 := by omega
  have hom : om p nc < 2 ^ 24 := om_lt (fun j hj => Nat.lt_of_lt_of_le (s1.1.1 j hj) hC)
  have stay : ∀ r : Int32, ∃ r' p' E' F' m' w' ov' f' e' a' b' c' st' f2' e2', some (r, nI (om p nc), nI F, wI w, nI m, ov, f, e) = some (r', nI (om p' nc), nI F', wI w', nI m', ov', f', e') ∧ some (r, a, b, c, st, f2, e2) = some (r', a', b', c', st', f2', e2') ∧ SC L G nc p' E' F' m' w' ov' f' e' st' := fun r => ⟨_, p, E, F, m, w, ov, _, _, _, _, _, _, _, _, rfl, rfl, S⟩
  have goes : ∀ (w' : Nat) (ov' : Int32), (w' = 99 ∨ w' < L * G) → m < 199 → ∃ r' p' E' F' m' w'' ov'' f' e' a' b' c' st' f2' e2', X4_move_j124 (wI w') (nI L) (nI s0) (nI pc) (nI ns) (nI nc) hc lc (nI nc) (nI (om p nc)) (nI F) (nI m) ov' f e = some (r', nI (om p' nc), nI F', wI w'', nI m', ov'', f', e') ∧ X5_move_j115 1 (wI w') (nI G) (nI L) (nI nc) (nI s0) (nI pc) (nI ns) hc' lc' (upd st 2 ov') f2 e2 = some (r', a', b', c', st', f2', e2') ∧ SC L G nc p' E' F' m' w'' ov'' f' e' st' := by
    intro w' ov' hw' hm
    unfold X4_move_j124 X5_move_j115
    rw [stA1]
    obtain ⟨r, r2, p', E', F', f', e', a', b', c', st', f2', e2', h1, h2, h3⟩ := v_one (w' := w') (f2 := f2) (e2 := e2) P H1 H2 S hm hw' (rm_set (w' := w') (ov' := ov') s7)
    rw [h1, h2, obind, obind]
    dsimp only
    rw [ldA1, h3.2.2.2.2.2.2.1]
    exact ⟨_, _, _, _, _, _, _, _, _, _, _, _, _, _, _, rfl, rfl, h3⟩
  unfold m_X4_move m_X5_move
  by_cases q1 : x < 0
  · rw [if_pos q1, in_low q1, obind, if_pos rfl]
    exact stay _
  · obtain ⟨n, n2, rfl⟩ := i_nat q1
    rw [if_neg q1]
    by_cases q2 : n ≤ 4
    · rw [if_pos ((le4 n2).mpr q2), in_yes q1 ((le4 n2).mpr q2), obind, if_neg (show ¬ (1 : Int32) = 0 by decide), ldA1, s7.2.1]
      by_cases q3 : w = 99
      · rw [if_pos ((w99 hw).mpr q3), if_pos ((w99 hw).mpr q3)]
        exact stay _
      · have hwC : w < L * G := by omega
        rw [if_neg (fun z => q3 ((w99 hw).mp z)), if_neg (fun z => q3 ((w99 hw).mp z)), ldA0, s7.1]
        by_cases q5 : m = 199
        · rw [if_neg (fun z => by have := (lt199 (by omega)).mp z; omega), if_pos ((eq199 (by omega)).mpr q5)]
          exact stay _
        · have hm : m < 199 := by omega
          rw [if_pos ((lt199 (by omega)).mpr hm), if_neg (fun z => q5 ((eq199 (by omega)).mp z)), ldA1, s7.2.1, wIn (by omega), e_cellBy h0 hL hC hwC q2, obind, e_comesTo h0 hL hC hwC q2, obind]
          have hcb := cb_lt (h := n) h0 hwC
          have n0 : nI n = (0 : Int32) ↔ n = 0 := eq0 n2
          have n3 : nI n = (3 : Int32) ↔ n = 3 := nI_eq (b := 3) n2 (by decide)
          by_cases c9 : cb L G w n = 99
          · rw [if_pos ((w99 (by omega)).mpr c9)]
            by_cases c0 : n = 0
            · rw [if_pos (n0.mpr c0), if_neg (fun z => ((cbM_9 hC h0 hwC).mp z).2 (Or.inl c0)), if_pos ((cbM_24 hC h0 hwC).mpr ⟨c9, Or.inl c0⟩)]
              unfold X4_move_j70 X4_move_j75
              rw [if_neg (show ¬ (1 : Int32) = 0 by decide)]
              unfold X4_move_j103
              rw [if_neg (show ¬ (1 : Int32) = 0 by decide), if_pos (n0.mpr c0), nm_eq]
              unfold X5_move_j74
              rw [ldA2, s7.2.2.1, if_pos ((cbM_24 hC h0 hwC).mpr ⟨c9, Or.inl c0⟩), if_pos (n0.mpr c0)]
              unfold X5_move_j96
              rw [stA2, if_pos ((cbM_24 hC h0 hwC).mpr ⟨c9, Or.inl c0⟩), c9]
              exact goes 99 (ov + 1) (Or.inl rfl) hm
            · by_cases c3 : n = 3
              · rw [if_neg (fun z => c0 (n0.mp z)), if_pos (n3.mpr c3), if_neg (fun z => ((cbM_9 hC h0 hwC).mp z).2 (Or.inr c3)), if_pos ((cbM_24 hC h0 hwC).mpr ⟨c9, Or.inr c3⟩)]
                unfold X4_move_j70 X4_move_j75
                rw [if_neg (show ¬ (1 : Int32) = 0 by decide)]
                unfold X4_move_j103
                rw [if_neg (show ¬ (1 : Int32) = 0 by decide), if_neg (fun z => c0 (n0.mp z))]
                unfold X5_move_j74
                rw [ldA2, s7.2.2.1, if_pos ((cbM_24 hC h0 hwC).mpr ⟨c9, Or.inr c3⟩), if_neg (fun z => c0 (n0.mp z))]
                unfold X5_move_j95 X5_move_j96
                rw [stA2, if_pos ((cbM_24 hC h0 hwC).mpr ⟨c9, Or.inr c3⟩), Int32.add_zero, c9]
                exact goes 99 ov (Or.inl rfl) hm
              · rw [if_neg (fun z => c0 (n0.mp z)), if_neg (fun z => c3 (n3.mp z)), if_pos ((cbM_9 hC h0 hwC).mpr ⟨c9, by omega⟩)]
                unfold X4_move_j74 X4_move_j75
                rw [if_pos rfl, if_pos ((w99 (by omega)).mpr c9), ← wIn (w := w) (by omega)]
                exact stay _
          · have hc : cb L G w n < L * G := by omega
            have hM : cbM L G w n = nI (cb L G w n) := by unfold cbM; rw [if_neg c9]
            rw [if_neg (fun z => c9 ((w99 (by omega)).mp z)), if_neg (fun z => c9 ((cbM_9 hC h0 hwC).mp z).1), if_neg (fun z => c9 ((cbM_24 hC h0 hwC).mp z).1), hM, e_catAt hnc5 (by omega) (fun j hj => Nat.lt_of_lt_of_le (s1.1.1 j hj) hC) s7.2.2.2.2.1, obind]
            unfold X4_move_j74 X4_move_j75
            rw [if_pos rfl, if_neg (fun z => c9 ((w99 (by omega)).mp z)), wIn (w := cb L G w n) (by omega), e_hasBit hom (by omega), obind]
            cases q4 : (om p nc).testBit (cb L G w n) with
            | true =>
              rw [bn_t q4, if_neg (by decide), if_neg (fun z => by rw [ci_9 s1.1 (by omega), q4] at z; cases z), ← wIn (w := w) (by omega)]
              exact stay _
            | false =>
              rw [bn_f q4, if_pos (by rfl), if_pos ((ci_9 s1.1 (by omega)).mpr q4)]
              have n24 : ¬ nI (cb L G w n) = (24 : Int32) := fun z => by have := (nI_eq (b := 24) (by omega) (by decide)).mp z; omega
              unfold X4_move_j103
              rw [if_pos rfl]
              unfold X5_move_j74
              rw [ldA2, s7.2.2.1, if_neg n24]
              unfold X5_move_j95 X5_move_j96
              rw [stA2, if_neg n24, Int32.add_zero, ← wIn (w := cb L G w n) (by omega)]
              exact goes (cb L G w n) ov (Or.inr hc) hm
    · rw [if_neg (fun z => q2 ((le4 n2).mp z)), in_high (fun z => q2 ((le4 n2).mp z)), obind, if_pos rfl]
      exact stay _

/-! SOONEST: the class's masks of where he can be, the reference's table of how many minutes are left, and why both tell the same. -/
def fr (O : Nat → Nat) (t z : Nat) : Prop := (O t).testBit z = false ∧ (O (t + 1)).testBit z = false
def Rc (L G : Nat) (O : Nat → Nat) : Nat → Nat
  | 0 => 0
  | t + 1 => clr (clr (sprd L G (Rc L G O t) ||| colm L G 0) (O t)) (O (t + 1))
theorem rc_lt {L G : Nat} {O : Nat → Nat} (h0 : 0 < L) : ∀ t, Rc L G O t < 2 ^ (L * G)
  | 0 => Nat.two_pow_pos _
  | t + 1 => clr_lt (clr_lt (Nat.or_lt_two_pow (Nat.lt_of_le_of_lt Nat.and_le_right (by have := Nat.two_pow_pos (L * G); omega)) (colm_lt h0)))
theorem rc_bit {L G t c : Nat} {O : Nat → Nat} (h0 : 0 < L) (hC : L * G ≤ 24) : (Rc L G O (t + 1)).testBit c = true ↔ (fr O t c ∧ c < L * G ∧ (c % L = 0 ∨ ∃ h, h ≤ 4 ∧ (Rc L G O t).testBit (cb L G c h) = true)) := by
  rw [Rc, clr_bit, clr_bit, Nat.testBit_or, Bool.and_eq_true, Bool.and_eq_true, Bool.or_eq_true, sprd_bit h0 (rc_lt h0 t) hC, colm_bit h0, Bool.not_eq_true', Bool.not_eq_true']
  unfold fr
  constructor
  · rintro ⟨⟨h1 | h1, h2⟩, h3⟩
    · exact ⟨⟨h2, h3⟩, h1.1, Or.inr h1.2⟩
    · exact ⟨⟨h2, h3⟩, h1.1, Or.inl h1.2⟩
  · rintro ⟨⟨h2, h3⟩, h1, h4 | h4⟩
    · exact ⟨⟨Or.inr ⟨h1, h4⟩, h2⟩, h3⟩
    · exact ⟨⟨Or.inl ⟨h1, h4⟩, h2⟩, h3⟩
/-- in d minutes from the minute t he can be over, from the cell c (24: from before the bridge) -/
def pth (L G : Nat) (O : Nat → Nat) : Nat → Nat → Nat → Prop
  | 0, _, _ => False
  | d + 1, t, c => (c = 24 ∧ (pth L G O d (t + 1) 24 ∨ ∃ r, r < G ∧ fr O t (r * L) ∧ pth L G O d (t + 1) (r * L))) ∨ (c < L * G ∧ ((d = 0 ∧ c % L = L - 1) ∨ ∃ h, h ≤ 4 ∧ ¬ cb L G c h = 99 ∧ fr O t (cb L G c h) ∧ pth L G O d (t + 1) (cb L G c h)))
theorem pth_out {L G d t : Nat} {O : Nat → Nat} (hC : L * G ≤ 24) : pth L G O (d + 1) t 24 ↔ (pth L G O d (t + 1) 24 ∨ ∃ r, r < G ∧ fr O t (r * L) ∧ pth L G O d (t + 1) (r * L)) := by
  rw [pth]
  constructor
  · rintro (⟨-, h⟩ | ⟨h, -⟩)
    · exact h
    · omega
  · intro h; exact Or.inl ⟨rfl, h⟩
theorem pth_in {L G d t c : Nat} {O : Nat → Nat} (hC : L * G ≤ 24) (hc : c < L * G) : pth L G O (d + 1) t c ↔ ((d = 0 ∧ c % L = L - 1) ∨ ∃ h, h ≤ 4 ∧ ¬ cb L G c h = 99 ∧ fr O t (cb L G c h) ∧ pth L G O d (t + 1) (cb L G c h)) := by
  rw [pth]
  constructor
  · rintro (⟨h, -⟩ | ⟨-, h⟩)
    · omega
    · exact h
  · intro h; exact Or.inr ⟨hc, h⟩
theorem pth_link {L G : Nat} {O : Nat → Nat} (h0 : 0 < L) (hC : L * G ≤ 24) : ∀ s d, 0 < d → (pth L G O (s + d) 0 24 ↔ (pth L G O d s 24 ∨ ∃ c, c < L * G ∧ (Rc L G O s).testBit c = true ∧ pth L G O d s c))
  | 0, d, _ => by
    rw [Nat.zero_add]
    constructor
    · exact Or.inl
    · rintro (h | ⟨c, -, h, -⟩)
      · exact h
      · rw [Rc, Nat.zero_testBit] at h; cases h
  | s + 1, d, hd => by
    have ih := pth_link (O := O) h0 hC s (d + 1) (by omega)
    rw [show s + 1 + d = s + (d + 1) by omega, ih, pth_out hC]
    constructor
    · rintro ((h | ⟨r, hr, h1, h2⟩) | ⟨c, hc, h1, h2⟩)
      · exact Or.inl h
      · have h3 := (col_row (L := L) (G := G) (x := 0) h0).mp ⟨r, hr, rfl⟩
        exact Or.inr ⟨r * L, h3.1, (rc_bit h0 hC).mpr ⟨h1, h3.1, Or.inl h3.2⟩, h2⟩
      · rcases (pth_in hC hc).mp h2 with ⟨z, -⟩ | ⟨h, hh, h3, h4, h5⟩
        · omega
        · obtain ⟨h', hh', e⟩ := cb_sym h0 hC hc hh h3
          have h6 : cb L G c h < L * G := by rcases cb_lt (h := h) h0 hc with z | z; exact absurd z h3; exact z
          exact Or.inr ⟨cb L G c h, h6, (rc_bit h0 hC).mpr ⟨h4, h6, Or.inr ⟨h', hh', by rw [e]; exact h1⟩⟩, h5⟩
    · rintro (h | ⟨c, hc, h1, h2⟩)
      · exact Or.inl (Or.inl h)
      · obtain ⟨h3, -, h4 | ⟨h, hh, h5⟩⟩ := (rc_bit h0 hC).mp h1
        · obtain ⟨r, hr, e⟩ := (col_row (L := L) (G := G) (x := 0) h0).mpr ⟨hc, h4⟩
          rw [Nat.add_zero] at e
          exact Or.inl (Or.inr ⟨r, hr, by rw [e]; exact h3, by rw [e]; exact h2⟩)
        · have h6 : cb L G c h < L * G := by
            rcases Nat.lt_or_ge (cb L G c h) (L * G) with z | z
            · exact z
            · rw [Nat.testBit_lt_two_pow (Nat.lt_of_lt_of_le (rc_lt h0 s) (Nat.pow_le_pow_right (by decide) z))] at h5; cases h5
          obtain ⟨h', hh', e⟩ := cb_sym h0 hC hc hh (by omega)
          exact Or.inr ⟨cb L G c h, h6, h5, (pth_in hC h6).mpr (Or.inr ⟨h', hh', by rw [e]; omega, by rw [e]; exact h3, by rw [e]; exact h2⟩)⟩
def hit (L G : Nat) (O : Nat → Nat) (t : Nat) : Bool := decide (¬ Rc L G O t &&& colm L G (L - 1) = 0)
theorem and_ne {a b : Nat} : ¬ a &&& b = 0 ↔ ∃ c, a.testBit c = true ∧ b.testBit c = true := by
  constructor
  · intro h
    apply Classical.byContradiction
    intro q
    apply h
    apply Nat.eq_of_testBit_eq
    intro i
    rw [Nat.testBit_and, Nat.zero_testBit]
    cases z1 : a.testBit i with
    | false => rfl
    | true =>
      cases z2 : b.testBit i with
      | false => rfl
      | true => exact absurd ⟨i, z1, z2⟩ q
  · rintro ⟨c, h1, h2⟩ e
    have := congrArg (fun x => x.testBit c) e
    simp only [Nat.testBit_and, h1, h2, Nat.zero_testBit] at this
    cases this
theorem hit_pth {L G s : Nat} {O : Nat → Nat} (h0 : 0 < L) (hC : L * G ≤ 24) : hit L G O s = true ↔ pth L G O (s + 1) 0 24 := by
  unfold hit
  rw [decide_eq_true_eq, and_ne, pth_link h0 hC s 1 (by decide)]
  constructor
  · rintro ⟨c, h1, h2⟩
    have h3 := (colm_bit (show L - 1 < L by omega)).mp h2
    exact Or.inr ⟨c, h3.1, h1, (pth_in hC h3.1).mpr (Or.inl ⟨rfl, h3.2⟩)⟩
  · rintro (h | ⟨c, hc, h1, h2⟩)
    · rcases (pth_out hC).mp h with z | ⟨r, -, -, z⟩ <;> exact absurd z (by rw [pth]; exact id)
    · rcases (pth_in hC hc).mp h2 with ⟨-, z⟩ | ⟨h, -, -, -, z⟩
      · exact ⟨c, h1, (colm_bit (show L - 1 < L by omega)).mpr ⟨hc, z⟩⟩
      · exact absurd z (by rw [pth]; exact id)
/-- what both answer -/
def snC (L G : Nat) (O : Nat → Nat) : Int32 := if fm (hit L G O) 40 < 40 then nI (fm (hit L G O) 40 + 1) else -9
theorem le40' {a : Nat} (h : a < 2 ^ 31) : (40 : Int32) ≤ nI a ↔ 40 ≤ a := nI_leI (a := 40) (by decide) h
theorem e_soonC {L G s0 pc ns nc m n : Nat} {hb wh : Nat → Nat} {s : (Nat → Nat) × Nat} {f e hc lc : Nat → Int32} (P : PlOK L G s0 pc ns nc hb wh) (Hc : HcOK nc hb wh hc lc) (h : Sok (L * G) n s) (hm : m < 2 ^ 10) (hnc : nc ≤ n) (hn : n ≤ 8) (hf : ∀ j, j < n → f j = nI (s.1 j)) :
    ∃ o, m_X3_soonestFrom (nI L) (nI G) (nI s0) (nI pc) (nI ns) (nI nc) hc lc (nI n) (nI (om s.1 n)) (nI s.2) (-9) (nI m) f e = some (snC L G (fun t => om (rn (tk L s0 pc ns nc hb wh 99 n) m s t).1 n), o) := by
  have P' := P
  obtain ⟨h0, hL, hG0, hG, hC, hs, hp0, hp, hns, hnc5, hb3, hwh⟩ := P'
  have a0 : m_X0_columnCells 0 (nI L) (nI G) = some (nI (colm L G 0)) := e_colm (x := 0) hL hC hG h0
  have hon := sok_rn (w := 99) (m := m) P hnc h
  unfold m_X3_soonestFrom
  rw [a0, obind, nI_s1 h0, e_colm hL hC hG (by omega), obind]
  generalize hT : tk L s0 pc ns nc hb wh 99 n = T at hon
  generalize hO : (fun t => om (rn T m s t).1 n) = O
  have hOt : ∀ t, om (rn T m s t).1 n = O t := fun t => by rw [← hO]
  refine lpUpE _ 40 (fun k z => (∀ j, j < k → hit L G O j = false) ∧ ∃ f' e' : Nat → Int32, z = (nI (Rc L G O k), nI k, nI (O k), nI (rn T m s k).2, nI (m + k), f', e') ∧ ∀ j, j < n → f' j = nI ((rn T m s k).1 j)) (fun z => ∃ o, z = some (snC L G O, o)) ?_ ?_ (by decide) 0 (by decide) _ ⟨fun j hj => absurd hj (Nat.not_lt_zero j), f, e, by rw [← hOt 0]; rfl, hf⟩
  · intro k z rec hk hJ hrec
    obtain ⟨hj, f', e', rfl, z1⟩ := hJ
    obtain ⟨a3, f3, e3, z3, z4⟩ := e_pass9 (m := m + k) (e := e') P Hc (hon k) (by omega) hnc hn z1
    rw [hT, hOt k] at z3
    rw [hT] at z4
    have hR := rc_lt (L := L) (G := G) (O := O) h0 k
    have hR24 : Rc L G O k < 2 ^ 24 := Nat.lt_of_lt_of_le hR (Nat.pow_le_pow_right (by decide) hC)
    dsimp only
    unfold X3_soonestFrom_f23
    rw [if_neg (fun q => absurd ((le40' (by omega)).mp q) (by omega)), nI_and]
    have hA : Rc L G O k &&& colm L G (L - 1) < 2 ^ 24 := Nat.lt_of_le_of_lt Nat.and_le_left hR24
    by_cases q : Rc L G O k &&& colm L G (L - 1) = 0
    · have hk0 : hit L G O k = false := by unfold hit; rw [q]; rfl
      rw [if_pos ((eq0 (by omega)).mpr q), z3, obind, e_spread h0 hL hC hG hR, obind]
      dsimp only
      rw [show (T (m + k) (rn T m s k)) = rn T m s (k + 1) from rfl, hOt (k + 1), nI_or, nI_anot, nI_anot, nm_eq, nI_1]
      refine hrec _ ⟨fun j hj' => ?_, f3, e3, ?_, z4⟩
      · by_cases e : j = k
        · rw [e]; exact hk0
        · exact hj j (by omega)
      · rfl
    · have hk1 : hit L G O k = true := by unfold hit; exact decide_eq_true q
      rw [if_neg (fun e => q ((eq0 (by omega)).mp e))]
      have e1 := fm_eq hj hk1 hk
      have e2 : snC L G O = nI (k + 1) := by unfold snC; rw [e1, if_pos hk]
      dsimp only
      rw [nI_1, e2]
      exact ⟨_, rfl⟩
  · intro z rec hJ
    obtain ⟨hj, f', e', rfl, z1⟩ := hJ
    dsimp only
    unfold X3_soonestFrom_f23
    rw [if_pos ((le40' (by decide)).mpr (Nat.le_refl 40))]
    have e1 : snC L G O = -9 := by unfold snC; rw [fm_none hj, if_neg (Nat.lt_irrefl 40)]
    rw [e1]
    exact ⟨_, rfl⟩
-- ===== the reference's table
def mnv (v : Nat → Nat) : Nat → Nat
  | 0 => 1000
  | k + 1 => if mnv v k ≤ v k then mnv v k else v k
theorem mnv_le {v : Nat → Nat} : ∀ {k j : Nat}, j < k → mnv v k ≤ v j
  | 0, j, h => absurd h (Nat.not_lt_zero j)
  | k + 1, j, h => by
    rw [mnv]
    by_cases q : j = k
    · subst q; split <;> omega
    · have := mnv_le (v := v) (k := k) (j := j) (by omega)
      split <;> omega
theorem mnv_get {v : Nat → Nat} : ∀ k, mnv v k = 1000 ∨ ∃ j, j < k ∧ mnv v k = v j ∧ v j < 1000
  | 0 => Or.inl rfl
  | k + 1 => by
    rw [mnv]
    rcases mnv_get (v := v) k with h | ⟨j, h1, h2, h3⟩
    · split
      · exact Or.inl h
      · exact Or.inr ⟨k, by omega, rfl, by omega⟩
    · split
      · exact Or.inr ⟨j, by omega, h2, h3⟩
      · exact Or.inr ⟨k, by omega, rfl, by omega⟩
theorem mnv_top {v : Nat → Nat} {k : Nat} : mnv v k ≤ 1000 := by
  rcases mnv_get (v := v) k with h | ⟨j, h1, h2, h3⟩ <;> omega
/-- one cell's step, g: the row of the minute after -/
def stv (O : Nat → Nat) (g : Nat → Nat) (t z : Nat) : Nat := if (O t ||| O (t + 1)).testBit z = true then 1000 else 1 + g z
def lv (L G : Nat) (O : Nat → Nat) (g : Nat → Nat) (t c h : Nat) : Nat :=
  if c = 24 then (if h = 8 then 1 + g 24 else if 5 ≤ h ∧ h ≤ 4 + G then stv O g t (L * (h - 5)) else 1000)
  else if h ≤ 4 then (if cb L G c h = 99 then (if h = 0 then 1 else 1000) else stv O g t (cb L G c h)) else 1000
def lf (L G : Nat) (O : Nat → Nat) : Nat → Nat → Nat
  | 0, _ => 1000
  | r + 1, c => if c < L * G ∨ c = 24 then mnv (lv L G O (lf L G O r) (40 - (r + 1)) c) 9 else 1000
theorem stv_fr {O : Nat → Nat} {g : Nat → Nat} {t z : Nat} : (fr O t z ∧ stv O g t z = 1 + g z) ∨ (¬ fr O t z ∧ stv O g t z = 1000) := by
  unfold fr stv
  rw [Nat.testBit_or]
  cases (O t).testBit z <;> cases (O (t + 1)).testBit z <;> simp
theorem lf_ok {L G : Nat} {O : Nat → Nat} (h0 : 0 < L) (hC : L * G ≤ 24) (hG : G ≤ 3) : ∀ r, r ≤ 40 → ∀ c, (c < L * G ∨ c = 24) → (lf L G O r c = 1000 ∨ (0 < lf L G O r c ∧ lf L G O r c ≤ r ∧ pth L G O (lf L G O r c) (40 - r) c)) ∧ ∀ d, d ≤ r → pth L G O d (40 - r) c → lf L G O r c ≤ d
  | 0, _, c, hc => ⟨Or.inl rfl, fun d hd hp => by rw [show d = 0 by omega, pth] at hp; exact absurd hp id⟩
  | r + 1, hr, c, hc => by
    have ih := lf_ok (O := O) h0 hC hG r (by omega)
    rw [show 40 - r = 40 - (r + 1) + 1 by omega] at ih
    rw [lf, if_pos hc]
    generalize 40 - (r + 1) = t at ih ⊢
    constructor
    · rcases mnv_get (v := lv L G O (lf L G O r) t c) 9 with e | ⟨h, hh, e, e2⟩
      · exact Or.inl e
      · refine Or.inr ?_
        rw [e]
        have step : ∀ z, (z < L * G ∨ z = 24) → stv O (lf L G O r) t z < 1000 → fr O t z ∧ 0 < stv O (lf L G O r) t z ∧ stv O (lf L G O r) t z ≤ r + 1 ∧ stv O (lf L G O r) t z = lf L G O r z + 1 ∧ pth L G O (lf L G O r z) (t + 1) z := by
          intro z hz hlt
          rcases stv_fr (O := O) (g := lf L G O r) (t := t) (z := z) with ⟨f1, f2⟩ | ⟨f1, f2⟩
          · rcases (ih z hz).1 with g1 | ⟨g1, g2, g3⟩
            · omega
            · exact ⟨f1, by omega, by omega, by omega, g3⟩
          · omega
        by_cases h24 : c = 24
        · subst h24
          unfold lv at e2 ⊢
          rw [if_pos rfl] at e2 ⊢
          by_cases q8 : h = 8
          · rw [if_pos q8] at e2 ⊢
            rcases (ih 24 (Or.inr rfl)).1 with g1 | ⟨g1, g2, g3⟩
            · omega
            · exact ⟨by omega, by omega, by rw [Nat.add_comm]; exact (pth_out hC).mpr (Or.inl g3)⟩
          · rw [if_neg q8] at e2 ⊢
            by_cases q5 : 5 ≤ h ∧ h ≤ 4 + G
            · rw [if_pos q5] at e2 ⊢
              have hz : L * (h - 5) < L * G := Nat.mul_lt_mul_of_pos_left (by omega) h0
              obtain ⟨a1, a2, a3, a4, a5⟩ := step _ (Or.inl hz) e2
              exact ⟨a2, a3, by rw [a4]; exact (pth_out hC).mpr (Or.inr ⟨h - 5, by omega, by rw [Nat.mul_comm]; exact a1, by rw [Nat.mul_comm (h - 5) L]; exact a5⟩)⟩
            · rw [if_neg q5] at e2; omega
        · have hcC : c < L * G := by omega
          unfold lv at e2 ⊢
          rw [if_neg h24] at e2 ⊢
          by_cases q4 : h ≤ 4
          · rw [if_pos q4] at e2 ⊢
            by_cases q9 : cb L G c h = 99
            · rw [if_pos q9] at e2 ⊢
              by_cases q0 : h = 0
              · rw [if_pos q0]
                refine ⟨by omega, by omega, (pth_in hC hcC).mpr (Or.inl ⟨rfl, ?_⟩)⟩
                subst q0
                have h3 : c % L < L := Nat.mod_lt _ h0
                unfold cb at q9
                rw [if_pos rfl] at q9
                by_cases z : L ≤ c % L + 1
                · omega
                · rw [if_neg z] at q9; omega
              · rw [if_neg q0] at e2; omega
            · rw [if_neg q9] at e2 ⊢
              have hz : cb L G c h < L * G := by rcases cb_lt (h := h) h0 hcC with z | z; exact absurd z q9; exact z
              obtain ⟨a1, a2, a3, a4, a5⟩ := step _ (Or.inl hz) e2
              exact ⟨a2, a3, by rw [a4]; exact (pth_in hC hcC).mpr (Or.inr ⟨h, q4, q9, a1, a5⟩)⟩
          · rw [if_neg q4] at e2; omega
    · intro d hd hp
      cases d with
      | zero => rw [pth] at hp; exact absurd hp id
      | succ d =>
        have step : ∀ z, (z < L * G ∨ z = 24) → fr O t z → pth L G O d (t + 1) z → stv O (lf L G O r) t z ≤ d + 1 := by
          intro z hz hf hp
          have := (ih z hz).2 d (by omega) hp
          rcases stv_fr (O := O) (g := lf L G O r) (t := t) (z := z) with ⟨f1, f2⟩ | ⟨f1, f2⟩
          · omega
          · exact absurd hf f1
        by_cases h24 : c = 24
        · subst h24
          rcases (pth_out hC).mp hp with g | ⟨q, hq, g1, g2⟩
          · have := (ih 24 (Or.inr rfl)).2 d (by omega) g
            refine Nat.le_trans (mnv_le (j := 8) (by decide)) ?_
            unfold lv; rw [if_pos rfl, if_pos rfl]; omega
          · have hz : q * L < L * G := by rw [Nat.mul_comm]; exact Nat.mul_lt_mul_of_pos_left hq h0
            refine Nat.le_trans (mnv_le (j := q + 5) (by omega)) ?_
            unfold lv
            rw [if_pos rfl, if_neg (by omega), if_pos ⟨by omega, by omega⟩, show q + 5 - 5 = q by omega, Nat.mul_comm]
            exact step _ (Or.inl hz) g1 g2
        · have hcC : c < L * G := by omega
          rcases (pth_in hC hcC).mp hp with ⟨g1, g2⟩ | ⟨h, hh, g1, g2, g3⟩
          · refine Nat.le_trans (mnv_le (j := 0) (by decide)) ?_
            have e9 : cb L G c 0 = 99 := by unfold cb; rw [if_pos rfl, if_pos (by omega)]
            unfold lv
            rw [if_neg h24, if_pos (by decide), if_pos e9, if_pos rfl]
            omega
          · have hz : cb L G c h < L * G := by rcases cb_lt (h := h) h0 hcC with z | z; exact absurd z g1; exact z
            refine Nat.le_trans (mnv_le (j := h) (by omega)) ?_
            unfold lv
            rw [if_neg h24, if_pos hh, if_neg g1]
            exact step _ (Or.inl hz) g2 g3
theorem lf_top {L G r c : Nat} {O : Nat → Nat} : lf L G O r c ≤ 1000 := by
  cases r with
  | zero => exact Nat.le_refl _
  | succ r => rw [lf]; split; exact mnv_top; exact Nat.le_refl _
/-- both answers are the same -/
theorem sn_lf {L G : Nat} {O : Nat → Nat} (h0 : 0 < L) (hC : L * G ≤ 24) (hG : G ≤ 3) : snC L G O = if lf L G O 40 24 ≤ 40 then nI (lf L G O 40 24) else -9 := by
  obtain ⟨hA, hB⟩ := lf_ok (O := O) h0 hC hG 40 (Nat.le_refl 40) 24 (Or.inr rfl)
  rw [Nat.sub_self] at hA hB
  unfold snC
  rcases hA with e | ⟨e1, e2, e3⟩
  · rw [e, fm_none, if_neg (Nat.lt_irrefl 40), if_neg (show ¬ 1000 ≤ 40 by decide)]
    intro j hj
    rw [← Bool.not_eq_true, hit_pth h0 hC]
    intro q
    have := hB (j + 1) (by omega) q
    omega
  · have e4 : fm (hit L G O) 40 = lf L G O 40 24 - 1 := by
      refine fm_eq (fun j hj => ?_) ((hit_pth h0 hC).mpr (by rw [show lf L G O 40 24 - 1 + 1 = lf L G O 40 24 by omega]; exact e3)) (by omega)
      rw [← Bool.not_eq_true, hit_pth h0 hC]
      intro q
      have := hB (j + 1) (by omega) q
      omega
    rw [e4, if_pos (by omega), if_pos e2, show lf L G O 40 24 - 1 + 1 = lf L G O 40 24 by omega]

/-! A MINUTE: the class's passMinute and the reference's goesOn do the same. -/
theorem e_habit {k nc : Nat} {hc : Nat → Int32} {hb : Nat → Nat} (hk : k < 2 ^ 31) (hnc : nc ≤ 5) (hh : ∀ j, j < nc → hc j = nI (hb j)) : m_X0_habitOf (nI k) (nI nc) hc = some (nI (if nc ≤ k then 0 else hb k)) := by
  unfold m_X0_habitOf
  by_cases q : nc ≤ k
  · rw [if_pos (nI_le q hk), if_pos q]; rfl
  · rw [if_neg (nI_ge (by omega) (by omega)), if_neg q, e_entry (by omega) (by decide), obind, hh k (by omega)]
theorem e_habit5 {k nc : Nat} {hc : Nat → Int32} {hb : Nat → Nat} (hk : k < 2 ^ 31) (hnc : nc ≤ 5) (hh : ∀ j, j < nc → hc j = nI (hb j)) : m_X5_habitOf (nI k) (nI nc) hc = some (nI (if nc ≤ k then 0 else hb k)) := by
  unfold m_X5_habitOf
  by_cases q : nc ≤ k
  · rw [if_pos (nI_le q hk), if_pos q]; rfl
  · rw [if_neg (nI_ge (by omega) (by omega)), if_neg q, ld_ok (by omega) (by decide), hh k (by omega)]
theorem e_cellOf {k n : Nat} {f : Nat → Int32} {p : Nat → Nat} (hn : n ≤ 8) (hk : k < n) (hf : ∀ j, j < n → f j = nI (p j)) : m_X2_cellOf (nI k) f = some (nI (p k)) := by
  unfold m_X2_cellOf
  rw [e_entry (by omega) (by decide), obind, hf k hk]
/-- what the plan's numbers must be -/
def PlOK (L G s0 pc ns nc : Nat) (hb wh : Nat → Nat) : Prop := 0 < L ∧ L ≤ 8 ∧ 0 < G ∧ G ≤ 3 ∧ L * G ≤ 24 ∧ s0 ≤ 7 ∧ 0 < pc ∧ pc ≤ 9 ∧ ns ≤ 9 ∧ nc ≤ 5 ∧ (∀ j, j < nc → hb j ≤ 3) ∧ ∀ j, j < nc → hb j = 3 → wh j < nc
/-- what the class keeps of habits and leaders -/
def HcOK (nc : Nat) (hb wh : Nat → Nat) (hc lc : Nat → Int32) : Prop := (∀ j, j < nc → hc j = nI (hb j)) ∧ ∀ j, j < nc → hb j = 3 → lc j = nI (wh j)
theorem e_want {L G s0 pc ns nc m F n k : Nat} {hb wh p : Nat → Nat} {f hc lc : Nat → Int32} (P : PlOK L G s0 pc ns nc hb wh) (Hc : HcOK nc hb wh hc lc) (h : On (L * G) n p) (hF : F < 2 ^ (L * G)) (hm : m < 2 ^ 20) (hk : k < n) (hnc : nc ≤ n) (hn : n ≤ 8) (hf : ∀ j, j < n → f j = nI (p j)) : m_X2_wantedCell (nI k) (nI (p k)) (nI F) (nI m) f (nI L) (nI s0) (nI pc) (nI ns) (nI nc) hc lc = some (nI (want L s0 pc ns nc hb wh m F p k)) := by
  obtain ⟨h0, hL, hG0, hG, hC, hs, hp0, hp, hns, hnc5, hb3, hwh⟩ := P
  have hF24 : F < 2 ^ 24 := Nat.lt_of_lt_of_le hF (Nat.pow_le_pow_right (by decide) hC)
  have hpk := h.1 k hk
  unfold m_X2_wantedCell want
  rw [e_habit (by omega) hnc5 Hc.1, obind]
  by_cases q : nc ≤ k
  · rw [if_pos q, if_pos q, if_neg (by decide), if_neg (by decide), if_neg (by decide)]
  · rw [if_neg q, if_neg q]
    have hbk := hb3 k (by omega)
    rcases (show hb k = 0 ∨ hb k = 1 ∨ hb k = 2 ∨ hb k = 3 by omega) with e | e | e | e
    · rw [e, if_neg (by decide), if_neg (by decide), if_neg (by decide), if_neg (by decide), if_neg (by decide), if_neg (by decide)]
    · rw [e, if_pos (by decide), if_pos rfl, e_sun h0 (by omega) hp0 (by omega) (by omega) hm, obind, e_toCol h0 (by omega) (by omega) (by have := sunc_lt (s0 := s0) (pc := pc) (m := m) h0; omega), obind]
    · rw [e, if_neg (by decide), if_pos (by decide), if_neg (by decide), if_pos rfl, e_near h0 (by omega) (by omega) hF24 (by omega), obind, e_toCell h0 (by omega) (by omega) (by have := nfc_lt (ns := ns) hpk hF; omega), obind]
    · rw [e, if_neg (by decide), if_neg (by decide), if_pos (by decide), if_neg (by decide), if_neg (by decide), if_pos rfl]
      have hw := hwh k (by omega) e
      have hpw := h.1 (wh k) (by omega)
      unfold m_X0_leaderOf
      rw [e_entry (by omega) (by decide), obind, obind, Hc.2 k (by omega) e, e_cellOf hn (by omega) hf, obind, e_toCell h0 (by omega) (by omega) (by omega), obind]
-- ===== eating
def clr (a b : Nat) : Nat := a ^^^ (a &&& b)
theorem clr_bit {a b c : Nat} : (clr a b).testBit c = (a.testBit c && !b.testBit c) := by
  unfold clr
  rw [Nat.testBit_xor, Nat.testBit_and]
  cases a.testBit c <;> cases b.testBit c <;> rfl
theorem clr_lt {a b n : Nat} (h : a < 2 ^ n) : clr a b < 2 ^ n := by
  unfold clr
  exact Nat.xor_lt_two_pow h (Nat.lt_of_le_of_lt Nat.and_le_left h)
theorem clr_step {F : Nat} {p : Nat → Nat} {k : Nat} : clr (clr F (om p k)) (2 ^ p k) = clr F (om p (k + 1)) := by
  apply Nat.eq_of_testBit_eq
  intro c
  rw [clr_bit, clr_bit, clr_bit, om, Nat.testBit_or]
  cases F.testBit c <;> cases (om p k).testBit c <;> cases (2 ^ p k).testBit c <;> rfl
theorem clr_none {F c : Nat} (h : F.testBit c = false) : clr F (2 ^ c) = F := by
  apply Nat.eq_of_testBit_eq
  intro i
  rw [clr_bit, Nat.testBit_two_pow]
  by_cases q : c = i
  · subst q; rw [h]; rfl
  · simp [q]
theorem clr_xor {F c : Nat} (h : F.testBit c = true) : F ^^^ 2 ^ c = clr F (2 ^ c) := by
  apply Nat.eq_of_testBit_eq
  intro i
  rw [clr_bit, Nat.testBit_xor, Nat.testBit_two_pow]
  by_cases q : c = i
  · subst q; rw [h]; simp
  · simp [q]
/-- how much is eaten -/
def ec (F : Nat) (p : Nat → Nat) : Nat → Nat
  | 0 => 0
  | n + 1 => ec F p n + bn F (p n)
theorem ec_le {F : Nat} {p : Nat → Nat} : ∀ n, ec F p n ≤ n
  | 0 => Nat.le_refl _
  | n + 1 => by have := ec_le (F := F) (p := p) n; have := bn_le F (p n); rw [ec]; omega
theorem bn_clr {C n F : Nat} {p : Nat → Nat} (h : On C n p) {k : Nat} (hk : k < n) : bn (clr F (om p k)) (p k) = bn F (p k) := by
  unfold bn
  rw [clr_bit, om_nbit.mpr (fun j hj e => by have := h.2 j k (by omega) hk e; omega)]
  simp
theorem e_eat {C n F : Nat} {p : Nat → Nat} {f e : Nat → Int32} (h : On C n p) (hn : n ≤ 8) (hC : C ≤ 24) (hF : F < 2 ^ 24) (hf : ∀ j, j < n → f j = nI (p j)) : ∃ e' : Nat → Int32, m_X2_eatFish (nI n) (nI F) f e = some (nI (ec F p n), nI (clr F (om p n)), e') ∧ ∀ j, j < n → e' j = e j + nI (bn F (p j)) := by
  unfold m_X2_eatFish
  refine lpUpE _ n (fun k s => ∃ e' : Nat → Int32, s = (nI (ec F p k), nI k, nI (clr F (om p k)), e') ∧ (∀ j, j < k → e' j = e j + nI (bn F (p j))) ∧ ∀ j, k ≤ j → e' j = e j) (fun o => ∃ e' : Nat → Int32, o = some (nI (ec F p n), nI (clr F (om p n)), e') ∧ ∀ j, j < n → e' j = e j + nI (bn F (p j))) ?_ ?_ (by omega) 0 (by omega) _ ⟨e, ?_, fun j hj => absurd hj (Nat.not_lt_zero j), fun _ _ => rfl⟩
  · intro k s rec hk hJ hrec
    obtain ⟨e', rfl, h1, h2⟩ := hJ
    dsimp only at hrec ⊢
    unfold X2_eatFish_f4
    have hck : clr F (om p k) < 2 ^ 24 := clr_lt hF
    have hpk := h.1 k hk
    rw [if_neg (nI_ge hk (by omega))]
    by_cases hz : clr F (om p k) = 0
    · -- nothing is left: the rest of the loop would change nothing
      rw [if_pos ((eq0 (by omega)).mpr hz)]
      have hno : ∀ c, F.testBit c = true → (om p k).testBit c = true := by
        intro c q
        have := congrArg (fun x => x.testBit c) hz
        simp only [clr_bit, Nat.zero_testBit, q] at this
        cases z : (om p k).testBit c with
        | true => rfl
        | false => rw [z] at this; simp at this
      have hb : ∀ j, k ≤ j → j < n → bn F (p j) = 0 := by
        intro j hj hjn
        unfold bn
        rw [if_neg]
        intro q
        obtain ⟨i, hi, he⟩ := om_bit.mp (hno _ q)
        have := h.2 i j (by omega) hjn he
        omega
      have key : ∀ d, k + d ≤ n → ec F p (k + d) = ec F p k ∧ clr F (om p (k + d)) = clr F (om p k) := by
        intro d
        induction d with
        | zero => intro _; exact ⟨rfl, rfl⟩
        | succ d ih =>
          intro hd
          obtain ⟨i1, i2⟩ := ih (by omega)
          refine ⟨by rw [← Nat.add_assoc, ec, i1, hb _ (by omega) (by omega), Nat.add_zero], ?_⟩
          rw [← Nat.add_assoc, ← clr_step, i2, hz]
          apply Nat.eq_of_testBit_eq
          intro c
          rw [clr_bit, Nat.zero_testBit]; rfl
      obtain ⟨i1, i2⟩ := key (n - k) (by omega)
      rw [show k + (n - k) = n by omega] at i1 i2
      refine ⟨e', by rw [i1, i2], fun j hj => ?_⟩
      by_cases q : j < k
      · exact h1 j q
      · rw [h2 j (by omega), hb j (by omega) hj]; exact (Int32.add_zero _).symm
    · rw [if_neg (fun q => hz ((eq0 (by omega)).mp q)), e_cellOf hn hk hf, obind, e_hasBit hck (by omega), obind, bn_clr h hk]
      unfold bn
      by_cases hb : F.testBit (p k) = true
      · have hcb : (clr F (om p k)).testBit (p k) = true := by
          rw [clr_bit, hb, om_nbit.mpr (fun j hj e => by have := h.2 j k (by omega) hk e; omega)]; rfl
        rw [if_pos hb, if_neg (by decide), nm_eq, shl1 (by omega), nI_xor, clr_xor hcb, clr_step]
        unfold m_X2_eatenBy
        rw [e_entry (by omega) (by decide), obind, obind, e_put (by omega) (by decide), obind]
        unfold X2_eatFish_j66
        rw [nI_1, nI_1]
        refine hrec _ ⟨upd e' k (e' k + 1), ?_, fun j hj => ?_, fun j hj => ?_⟩
        · have : ec F p (k + 1) = ec F p k + 1 := by rw [ec]; unfold bn; rw [if_pos hb]
          rw [this]
        · unfold upd bn
          by_cases q : j = k
          · rw [if_pos q, q, if_pos hb, h2 k (Nat.le_refl _)]; rfl
          · rw [if_neg q]; have := h1 j (by omega); unfold bn at this; exact this
        · unfold upd; rw [if_neg (by omega)]; exact h2 j (by omega)
      · have hcb : (clr F (om p k)).testBit (p k) = false := by
          rw [clr_bit]; simp [hb]
        rw [if_neg hb, if_pos (by rfl)]
        unfold X2_eatFish_j66
        rw [nI_1]
        refine hrec _ ⟨e', ?_, fun j hj => ?_, fun j hj => h2 j (by omega)⟩
        · have e1 : ec F p (k + 1) = ec F p k := by rw [ec]; unfold bn; rw [if_neg hb]; rfl
          have e2 : clr F (om p (k + 1)) = clr F (om p k) := by rw [← clr_step, clr_none hcb]
          rw [e1, e2]
        · by_cases q : j = k
          · rw [q, h2 k (Nat.le_refl _)]; unfold bn; rw [if_neg hb]; exact (Int32.add_zero _).symm
          · exact h1 j (by omega)
  · intro s rec hJ
    obtain ⟨e', rfl, h1, -⟩ := hJ
    dsimp only
    unfold X2_eatFish_f4
    rw [if_pos (nI_le (Nat.le_refl n) (by omega))]
    exact ⟨e', rfl, h1⟩
  · have e0 : clr F (om p 0) = F := by
      apply Nat.eq_of_testBit_eq; intro c; rw [clr_bit, om, Nat.zero_testBit]; simp
    rw [e0]; rfl
/-- the class's minute -/
theorem e_pass {L G s0 pc ns nc m F n w : Nat} {hb wh p : Nat → Nat} {f e hc lc : Nat → Int32} (P : PlOK L G s0 pc ns nc hb wh) (Hc : HcOK nc hb wh hc lc) (h : On (L * G) n p) (hF : F < 2 ^ (L * G)) (hm : m < 2 ^ 20) (hnc : nc ≤ n) (hn : n ≤ 8) (hw : w < 24 ∨ w = 99) (hf : ∀ j, j < n → f j = nI (p j)) :
    ∃ f' e' : Nat → Int32, m_X2_passMinute (nI n) (nI (om p n)) (nI F) (wI w) (nI m) f e (nI L) (nI s0) (nI pc) (nI ns) (nI nc) hc lc = some (nI (ec F (mvs L s0 pc ns nc hb wh m F w n p n) n), nI (om (mvs L s0 pc ns nc hb wh m F w n p n) n), nI (clr F (om (mvs L s0 pc ns nc hb wh m F w n p n) n)), nI (m + 1), f', e') ∧ (∀ j, j < n → f' j = nI (mvs L s0 pc ns nc hb wh m F w n p n j)) ∧ ∀ j, j < n → e' j = e j + nI (bn F (mvs L s0 pc ns nc hb wh m F w n p n j)) := by
  have P' := P
  obtain ⟨h0, hL, hG0, hG, hC, hs, hp0, hp, hns, hnc5, hb3, hwh⟩ := P'
  have hF24 : F < 2 ^ 24 := Nat.lt_of_lt_of_le hF (Nat.pow_le_pow_right (by decide) hC)
  have hon := on_mvs (s0 := s0) (pc := pc) (ns := ns) (m := m) (w := w) h0 h hnc hF hwh
  unfold m_X2_passMinute
  refine lpUpE _ n (fun k s => ∃ f' : Nat → Int32, s = (nI k, nI (om (mvs L s0 pc ns nc hb wh m F w n p k) n), f') ∧ ∀ j, j < n → f' j = nI (mvs L s0 pc ns nc hb wh m F w n p k j)) (fun o => ∃ f' e' : Nat → Int32, o = some (nI (ec F (mvs L s0 pc ns nc hb wh m F w n p n) n), nI (om (mvs L s0 pc ns nc hb wh m F w n p n) n), nI (clr F (om (mvs L s0 pc ns nc hb wh m F w n p n) n)), nI (m + 1), f', e') ∧ (∀ j, j < n → f' j = nI (mvs L s0 pc ns nc hb wh m F w n p n j)) ∧ ∀ j, j < n → e' j = e j + nI (bn F (mvs L s0 pc ns nc hb wh m F w n p n j))) ?_ ?_ (by omega) 0 (by omega) _ ⟨f, rfl, hf⟩
  · intro k s rec hk hJ hrec
    obtain ⟨f', rfl, hf'⟩ := hJ
    have o1 := hon k (by omega)
    have o2 := hon (k + 1) (by omega)
    generalize hq : mvs L s0 pc ns nc hb wh m F w n p k = q at hf' o1
    have hwl := want_lt (s0 := s0) (pc := pc) (ns := ns) (hb := hb) (wh := wh) (m := m) h0 o1 hk hnc hF hwh
    have hmv : mvs L s0 pc ns nc hb wh m F w n p (k + 1) = mv1 L s0 pc ns nc hb wh m F w n q k := by rw [← hq]; rfl
    rw [hmv] at hrec
    dsimp only at hrec ⊢
    unfold X2_passMinute_f2
    rw [if_neg (nI_ge hk (by omega)), e_cellOf hn hk hf', obind, e_want P Hc o1 hF hm hk hnc hn hf', obind]
    generalize hT : want L s0 pc ns nc hb wh m F q k = t at hwl
    have hqk := o1.1 k hk
    have hom : om q n < 2 ^ 24 := om_lt (fun j hj => Nat.lt_of_lt_of_le (o1.1 j hj) hC)
    by_cases c1 : t = q k
    · have e1 : mv1 L s0 pc ns nc hb wh m F w n q k = q := by unfold mv1; rw [hT, if_pos (Or.inl c1)]
      rw [if_pos (by rw [c1])]
      unfold X2_passMinute_j79
      rw [nI_1]
      exact hrec _ ⟨f', by rw [e1], by rw [e1]; exact hf'⟩
    · rw [if_neg (fun z => c1 ((nI_eq (by omega) (by omega)).mp z))]
      by_cases c2 : t = w
      · have e1 : mv1 L s0 pc ns nc hb wh m F w n q k = q := by unfold mv1; rw [hT, if_pos (Or.inr (Or.inl c2))]
        rw [if_pos ((wI_eq (by omega) hw).mpr c2)]
        unfold X2_passMinute_j79
        rw [nI_1]
        exact hrec _ ⟨f', by rw [e1], by rw [e1]; exact hf'⟩
      · rw [if_neg (fun z => c2 ((wI_eq (by omega) hw).mp z)), e_hasBit hom (by omega), obind]
        cases c3 : (om q n).testBit t with
        | true =>
          have e1 : mv1 L s0 pc ns nc hb wh m F w n q k = q := by unfold mv1; rw [hT, if_pos (Or.inr (Or.inr c3))]
          rw [bn_t c3, if_neg (by decide)]
          unfold X2_passMinute_j79
          rw [nI_1]
          exact hrec _ ⟨f', by rw [e1], by rw [e1]; exact hf'⟩
        | false =>
          have e1 : mv1 L s0 pc ns nc hb wh m F w n q k = updN q k t := by
            unfold mv1; rw [hT, if_neg]; rintro (z | z | z)
            · exact c1 z
            · exact c2 z
            · rw [c3] at z; cases z
          rw [bn_f c3, if_pos (by rfl), nm_eq, shl1 (by omega), shl1 (by omega), nI_or, nI_xor, ← om_upd o1 hk c1 c3, e_put (by omega) (by decide), obind]
          unfold X2_passMinute_j79
          rw [nI_1]
          refine hrec _ ⟨upd f' k (nI t), by rw [e1], fun j hj => ?_⟩
          rw [e1]
          unfold upd updN
          split
          · rfl
          · exact hf' j hj
  · intro s rec hJ
    obtain ⟨f', rfl, hf'⟩ := hJ
    dsimp only
    unfold X2_passMinute_f2
    rw [if_pos (nI_le (Nat.le_refl n) (by omega))]
    dsimp only
    rw [nm_eq, nI_1]
    obtain ⟨e', he, he2⟩ := e_eat (F := F) (e := e) (hon n (Nat.le_refl n)) hn hC hF24 hf'
    rw [he, obind]
    exact ⟨f', e', rfl, hf', he2⟩

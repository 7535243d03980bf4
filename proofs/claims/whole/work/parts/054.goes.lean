/-! THE REFERENCE'S MINUTE is the same minute. -/
def g1 (n w : Nat) (p : Nat → Nat) (k t : Nat) : Nat → Nat := if t = p k ∨ t = w ∨ (om p n).testBit t = true then p else updN p k t
theorem mv1_g1 {L s0 pc ns nc : Nat} {hb wh : Nat → Nat} {m F w n : Nat} {p : Nat → Nat} {k : Nat} : mv1 L s0 pc ns nc hb wh m F w n p k = g1 n w p k (want L s0 pc ns nc hb wh m F p k) := rfl
theorem g1_self {n w k : Nat} {p : Nat → Nat} : g1 n w p k (p k) = p := by unfold g1; rw [if_pos (Or.inl rfl)]
theorem e_isFree5 {n t w : Nat} {p : Nat → Nat} {f : Nat → Int32} (hn : n ≤ 8) (ht : t < 24) (hw : w < 24 ∨ w = 99) (hp : ∀ j, j < n → p j < 24) (hf : ∀ j, j < n → f j = nI (p j)) : m_X5_isFree (nI t) (nI n) (wI w) f = some (if t = w ∨ (om p n).testBit t = true then 0 else 1) := by
  have key : ∀ b : Nat, b ≤ 1 → X5_isFree_j13 (nI t) (nI b) (nI n) f = some (if b = 0 ∨ (om p n).testBit t = true then 0 else 1) := by
    intro b hb
    unfold X5_isFree_j13
    refine lpUpI _ _ n (fun k s => s = ((if b = 0 ∨ (om p k).testBit t = true then (0 : Int32) else 1), nI k)) ?_ ?_ (by omega) 0 (by omega) _ ?_
    · intro k s rec hk hs hrec
      subst hs
      dsimp only at hrec ⊢
      unfold X5_isFree_f16
      rw [if_neg (nI_ge hk (by omega))]
      by_cases c : b = 0 ∨ (om p k).testBit t = true
      · rw [if_pos c, if_pos rfl]
        unfold X5_isFree_j42 X5_isFree_j43
        rw [nI_1]
        refine hrec _ ?_
        rw [if_pos]
        rcases c with c | c
        · exact Or.inl c
        · exact Or.inr (by rw [om, Nat.testBit_or, c]; rfl)
      · rw [if_neg c, if_neg (by decide), ld_ok (by omega) (by decide), hf k hk]
        by_cases e : p k = t
        · rw [if_pos (by rw [e])]
          unfold X5_isFree_j42 X5_isFree_j43
          rw [nI_1]
          refine hrec _ ?_
          rw [if_pos (Or.inr (om_bit.mpr ⟨k, Nat.lt_succ_self k, e⟩))]
        · rw [if_neg (fun q => e ((nI_eq (by have := hp k hk; omega) (by omega)).mp q))]
          unfold X5_isFree_j43
          rw [nI_1]
          refine hrec _ ?_
          rw [if_neg]
          rintro (q | q)
          · exact c (Or.inl q)
          · obtain ⟨i, hi, he⟩ := om_bit.mp q
            by_cases z : i = k
            · exact e (by rw [← z]; exact he)
            · exact c (Or.inr (om_bit.mpr ⟨i, by omega, he⟩))
    · intro s rec hs
      subst hs
      dsimp only
      unfold X5_isFree_f16
      rw [if_pos (nI_le (Nat.le_refl n) (by omega))]
      by_cases c : b = 0 ∨ (om p n).testBit t = true
      · rw [if_pos c]; exact bz0
      · rw [if_neg c]; exact bz1
    · rcases (show b = 0 ∨ b = 1 by omega) with rfl | rfl
      · rw [if_pos (Or.inl rfl)]; rfl
      · rw [if_neg (by rw [om, Nat.zero_testBit]; simp)]; rfl
  unfold m_X5_isFree
  by_cases q : t = w
  · rw [if_pos ((wI_eq ht hw).mpr q), if_pos (Or.inl q)]
    have h := key 0 (by decide)
    rw [if_pos (Or.inl rfl)] at h
    exact h
  · rw [if_neg (fun z => q ((wI_eq ht hw).mp z))]
    have h := key 1 (by decide)
    refine Eq.trans h ?_
    by_cases c : (om p n).testBit t = true
    · rw [if_pos (Or.inr c), if_pos (Or.inr c)]
    · rw [if_neg (by rintro (z | z); exact absurd z (by decide); exact c z), if_neg (by rintro (z | z); exact q z; exact c z)]
theorem e_goesTo {n t w k : Nat} {p : Nat → Nat} {f : Nat → Int32} (hn : n ≤ 8) (hk : k < n) (ht : t < 24) (hw : w < 24 ∨ w = 99) (hp : ∀ j, j < n → p j < 24) (hf : ∀ j, j < n → f j = nI (p j)) : ∃ f' : Nat → Int32, m_X5_goesTo (nI k) (nI t) (nI n) (wI w) f = some f' ∧ ∀ j, j < n → f' j = nI (g1 n w p k t j) := by
  unfold m_X5_goesTo
  have hpk := hp k hk
  rw [ld_ok (by omega) (by decide), hf k hk]
  by_cases c1 : t = p k
  · rw [if_pos (by rw [c1])]
    exact ⟨f, rfl, fun j hj => by unfold g1; rw [if_pos (Or.inl c1)]; exact hf j hj⟩
  · rw [if_neg (fun q => c1 ((nI_eq (by omega) (by omega)).mp q)), e_isFree5 hn ht hw hp hf, obind]
    by_cases c2 : t = w ∨ (om p n).testBit t = true
    · rw [if_pos c2, if_pos rfl]
      exact ⟨f, rfl, fun j hj => by unfold g1; rw [if_pos (Or.inr c2)]; exact hf j hj⟩
    · rw [if_neg c2, if_neg (by decide), st_ok (by omega) (by decide)]
      refine ⟨_, rfl, fun j hj => ?_⟩
      have e1 : g1 n w p k t = updN p k t := by
        unfold g1; rw [if_neg]; rintro (q | q)
        · exact c1 q
        · exact c2 q
      rw [e1]
      unfold upd updN
      split
      · rfl
      · exact hf j hj
theorem e_goesBy {L n b w k : Nat} {p : Nat → Nat} {f : Nat → Int32} (h0 : 0 < L) (hL : L ≤ 8) (hn : n ≤ 8) (hk : k < n) (hb : b < 24) (ht : mvt L (p k) b < 24) (hw : w < 24 ∨ w = 99) (hp : ∀ j, j < n → p j < 24) (hf : ∀ j, j < n → f j = nI (p j)) : ∃ f' : Nat → Int32, m_X5_goesBy (nI k) (nI b) (nI L) (nI n) (wI w) f = some f' ∧ ∀ j, j < n → f' j = nI (g1 n w p k (mvt L (p k) b) j) := by
  unfold m_X5_goesBy
  have hpk := hp k hk
  have h1 : p k / L ≤ p k := Nat.div_le_self _ _
  have h2 : b / L ≤ b := Nat.div_le_self _ _
  have h3 : p k % L ≤ p k := Nat.mod_le _ _
  have h4 : b % L ≤ b := Nat.mod_le _ _
  obtain ⟨f', h5, h6⟩ := e_goesTo hn hk ht hw hp hf
  refine ⟨f', ?_, h6⟩
  rw [ld_ok (by omega) (by decide), hf k hk]
  simp only [nz_ok h0 (show L < 2 ^ 31 by omega), nm_eq]
  rw [ld_ok (by omega) (by decide), hf k hk, nI_rem (by omega) h0 (by omega), nI_rem (by omega) h0 (by omega), e_tw (by omega) (by omega), obind]
  have tl : tw (p k % L) (b % L) < 2 ^ 20 := by
    unfold tw
    split
    · omega
    · split <;> omega
  by_cases c : tw (p k % L) (b % L) = p k % L
  · rw [if_pos (by rw [c]), nI_div (by omega) h0 (by omega), nI_div (by omega) h0 (by omega), e_tw (by omega) (by omega), obind]
    unfold X5_goesBy_j77
    rw [nI_mul, nI_add, mvt_tw2 h0 c, h5, obind]
  · rw [if_neg (fun q => c ((nI_eq (by omega) (by omega)).mp q)), nI_div (by omega) h0 (by omega)]
    unfold X5_goesBy_j77
    rw [nI_mul, nI_add, mvt_tw1 c, h5, obind]
/-- the reference's minute -/
theorem e_goesOn {L G s0 pc ns nc m F n w : Nat} {hb wh p : Nat → Nat} {f e hc lc : Nat → Int32} (P : PlOK L G s0 pc ns nc hb wh) (Hc : HcOK nc hb wh hc lc) (h : On (L * G) n p) (hF : F < 2 ^ (L * G)) (hm : m < 2 ^ 20) (hnc : nc ≤ n) (hn : n ≤ 8) (hw : w < 24 ∨ w = 99) (hf : ∀ j, j < n → f j = nI (p j)) :
    ∃ f' e' : Nat → Int32, m_X5_goesOn (nI m) (nI G) (nI L) (nI nc) (nI s0) (nI pc) (nI ns) (nI n) (nI F) (wI w) hc lc f e = some (nI (ec F (mvs L s0 pc ns nc hb wh m F w n p n) n), nI (clr F (om (mvs L s0 pc ns nc hb wh m F w n p n) n)), f', e') ∧ (∀ j, j < n → f' j = nI (mvs L s0 pc ns nc hb wh m F w n p n j)) ∧ ∀ j, j < n → e' j = e j + nI (bn F (mvs L s0 pc ns nc hb wh m F w n p n j)) := by
  have P' := P
  obtain ⟨h0, hL, hG0, hG, hC, hs, hp0, hp, hns, hnc5, hb3, hwh⟩ := P'
  have hF24 : F < 2 ^ 24 := Nat.lt_of_lt_of_le hF (Nat.pow_le_pow_right (by decide) hC)
  have hon := on_mvs (s0 := s0) (pc := pc) (ns := ns) (m := m) (w := w) h0 h hnc hF hwh
  unfold m_X5_goesOn
  rw [e_sun5 h0 (by omega) hp0 (by omega) (by omega) hm, obind]
  refine lpUpE _ n (fun k s => ∃ f' : Nat → Int32, s = (nI k, f') ∧ ∀ j, j < n → f' j = nI (mvs L s0 pc ns nc hb wh m F w n p k j)) (fun o => ∃ f' e' : Nat → Int32, o = some (nI (ec F (mvs L s0 pc ns nc hb wh m F w n p n) n), nI (clr F (om (mvs L s0 pc ns nc hb wh m F w n p n) n)), f', e') ∧ (∀ j, j < n → f' j = nI (mvs L s0 pc ns nc hb wh m F w n p n j)) ∧ ∀ j, j < n → e' j = e j + nI (bn F (mvs L s0 pc ns nc hb wh m F w n p n j))) ?_ ?_ (by omega) 0 (by omega) _ ⟨f, rfl, hf⟩
  · intro k s rec hk hJ hrec
    obtain ⟨f', rfl, hf'⟩ := hJ
    have o1 := hon k (by omega)
    generalize hq : mvs L s0 pc ns nc hb wh m F w n p k = q at hf' o1
    have hwl := want_lt (s0 := s0) (pc := pc) (ns := ns) (hb := hb) (wh := wh) (m := m) h0 o1 hk hnc hF hwh
    have hmv : mvs L s0 pc ns nc hb wh m F w n p (k + 1) = g1 n w q k (want L s0 pc ns nc hb wh m F q k) := by rw [← hq]; rfl
    rw [hmv] at hrec
    have hq24 : ∀ j, j < n → q j < 24 := fun j hj => Nat.lt_of_lt_of_le (o1.1 j hj) hC
    have hqk := o1.1 k hk
    dsimp only at hrec ⊢
    unfold X5_goesOn_f8
    rw [if_neg (nI_ge hk (by omega)), e_habit5 (by omega) hnc5 Hc.1, obind]
    have stay : want L s0 pc ns nc hb wh m F q k = q k → ∀ g, g = f' → (∃ f' e' : Nat → Int32, X5_goesOn_j130 (fun r0 r1 => rec (r0, r1)) (nI k) g = some (nI (ec F (mvs L s0 pc ns nc hb wh m F w n p n) n), nI (clr F (om (mvs L s0 pc ns nc hb wh m F w n p n) n)), f', e') ∧ (∀ j, j < n → f' j = nI (mvs L s0 pc ns nc hb wh m F w n p n j)) ∧ ∀ j, j < n → e' j = e j + nI (bn F (mvs L s0 pc ns nc hb wh m F w n p n j))) := by
      intro hz g hg
      subst hg
      unfold X5_goesOn_j130
      rw [nI_1]
      refine hrec _ ⟨g, rfl, fun j hj => ?_⟩
      rw [hz, g1_self]
      exact hf' j hj
    have goes : ∀ g, (∀ j, j < n → g j = nI (g1 n w q k (want L s0 pc ns nc hb wh m F q k) j)) → (∃ f' e' : Nat → Int32, X5_goesOn_j130 (fun r0 r1 => rec (r0, r1)) (nI k) g = some (nI (ec F (mvs L s0 pc ns nc hb wh m F w n p n) n), nI (clr F (om (mvs L s0 pc ns nc hb wh m F w n p n) n)), f', e') ∧ (∀ j, j < n → f' j = nI (mvs L s0 pc ns nc hb wh m F w n p n j)) ∧ ∀ j, j < n → e' j = e j + nI (bn F (mvs L s0 pc ns nc hb wh m F w n p n j))) := by
      intro g hg
      unfold X5_goesOn_j130
      rw [nI_1]
      exact hrec _ ⟨g, rfl, hg⟩
    unfold want at stay goes hwl
    by_cases q0 : nc ≤ k
    · rw [if_pos q0] at stay ⊢
      rw [if_neg (by decide), if_neg (by decide)]
      unfold X5_goesOn_j108
      rw [if_neg (by decide)]
      exact stay rfl _ rfl
    · rw [if_neg q0] at stay goes hwl ⊢
      have hbk := hb3 k (by omega)
      rcases (show hb k = 0 ∨ hb k = 1 ∨ hb k = 2 ∨ hb k = 3 by omega) with c | c | c | c
      · rw [c] at stay goes hwl ⊢
        rw [if_neg (by decide), if_neg (by decide)]
        unfold X5_goesOn_j108
        rw [if_neg (by decide)]
        exact stay (by rw [if_neg (by decide), if_neg (by decide), if_neg (by decide)]) _ rfl
      · rw [c] at stay goes hwl ⊢
        rw [if_pos rfl] at stay goes hwl
        have h3 : q k % L ≤ q k := Nat.mod_le _ _
        have h6 := sunc_lt (s0 := s0) (pc := pc) (m := m) h0
        obtain ⟨g, h4, h5⟩ := e_goesTo (w := w) hn hk (Nat.lt_of_lt_of_le hwl hC) hw hq24 hf'
        rw [if_pos (by rfl), ld_ok (by omega) (by decide), hf' k hk]
        simp only [nz_ok h0 (show L < 2 ^ 31 by omega), nm_eq]
        rw [ld_ok (by omega) (by decide), hf' k hk, nI_rem (by omega) h0 (by omega), e_tw (by omega) (by omega), obind, nI_div (by omega) h0 (by omega), nI_mul, nI_add, mvc_tw, h4, obind]
        exact goes g h5
      · rw [c] at stay goes hwl ⊢
        rw [if_neg (by decide), if_pos rfl] at stay goes hwl
        rw [if_neg (by decide), if_pos (by rfl), ld_ok (by omega) (by decide), hf' k hk, e_smelt h0 (by omega) (by omega) hF hC (by omega), obind]
        by_cases z : (nf L F ns (q k) 24).1 = 99
        · have z2 : nfc L F ns (q k) = q k := by unfold nfc; rw [if_pos z]
          rw [if_pos z, if_pos rfl]
          unfold X5_goesOn_j108
          rw [if_neg (by decide)]
          exact stay (by rw [z2, mvt_self]) _ rfl
        · have z2 : nfc L F ns (q k) = (nf L F ns (q k) 24).1 := by unfold nfc; rw [if_neg z]
          have z3 := nfc_lt (ns := ns) hqk hF
          rw [z2] at z3 goes hwl
          obtain ⟨g, h4, h5⟩ := e_goesBy (w := w) h0 hL hn hk (by omega) (Nat.lt_of_lt_of_le hwl hC) hw hq24 hf'
          rw [if_neg z, if_neg (m9_ne (by omega)), ld_ok (by omega) (by decide), hf' k hk, e_smelt h0 (by omega) (by omega) hF hC (by omega), obind, if_neg z, h4, obind]
          exact goes g h5
      · rw [c] at stay goes hwl ⊢
        rw [if_neg (by decide), if_neg (by decide), if_pos rfl] at stay goes hwl
        have hw3 := hwh k (by omega) c
        have hpw := o1.1 (wh k) (by omega)
        obtain ⟨g, h4, h5⟩ := e_goesBy (w := w) h0 hL hn hk (by omega) (Nat.lt_of_lt_of_le hwl hC) hw hq24 hf'
        rw [if_neg (by decide), if_neg (by decide)]
        unfold X5_goesOn_j108
        rw [if_pos (by rfl), ld_ok (by omega) (by decide), Hc.2 k (by omega) c, ld_ok (by omega) (by decide), hf' (wh k) (by omega), h4, obind]
        exact goes g h5
  · intro s rec hJ
    obtain ⟨f', rfl, hf'⟩ := hJ
    have o1 := hon n (Nat.le_refl n)
    generalize hq : mvs L s0 pc ns nc hb wh m F w n p n = q at hf' o1
    dsimp only
    unfold X5_goesOn_f8
    rw [if_pos (nI_le (Nat.le_refl n) (by omega))]
    refine lpUpE _ n (fun k s => ∃ e' : Nat → Int32, s = (nI (ec F q k), nI k, nI (clr F (om q k)), e') ∧ (∀ j, j < k → e' j = e j + nI (bn F (q j))) ∧ ∀ j, k ≤ j → e' j = e j) (fun o => ∃ f' e' : Nat → Int32, o = some (nI (ec F q n), nI (clr F (om q n)), f', e') ∧ (∀ j, j < n → f' j = nI (q j)) ∧ ∀ j, j < n → e' j = e j + nI (bn F (q j))) ?_ ?_ (by omega) 0 (by omega) _ ⟨e, ?_, fun j hj => absurd hj (Nat.not_lt_zero j), fun _ _ => rfl⟩
    · intro k s rec hk hJ hrec
      obtain ⟨e', rfl, h1, h2⟩ := hJ
      have hck : clr F (om q k) < 2 ^ 24 := clr_lt hF24
      have hqk := o1.1 k hk
      dsimp only at hrec ⊢
      unfold X5_goesOn_f141
      rw [if_neg (nI_ge hk (by omega)), ld_ok (by omega) (by decide), hf' k hk, nm_eq, shr1 (by omega) (by omega), bit1, bn_clr o1 hk, ld_ok (by omega) (by decide), st_ok (by omega) (by decide), nm_eq, ld_ok (by omega) (by decide), hf' k hk, nm_eq, shl1 (by omega), nI_anot, nI_add, nI_1]
      refine hrec _ ⟨upd e' k (e' k + nI (bn F (q k))), ?_, fun j hj => ?_, fun j hj => ?_⟩
      · rw [show clr F (om q k) ^^^ clr F (om q k) &&& 2 ^ q k = clr F (om q (k + 1)) from clr_step]
        rfl
      · unfold upd
        by_cases z : j = k
        · rw [if_pos z, z, h2 k (Nat.le_refl _)]
        · rw [if_neg z]; exact h1 j (by omega)
      · unfold upd; rw [if_neg (by omega)]; exact h2 j (by omega)
    · intro s rec hJ
      obtain ⟨e', rfl, h1, -⟩ := hJ
      dsimp only
      unfold X5_goesOn_f141
      rw [if_pos (nI_le (Nat.le_refl n) (by omega))]
      exact ⟨f', e', rfl, hf', h1⟩
    · have e0 : clr F (om q 0) = F := by
        apply Nat.eq_of_testBit_eq; intro c; rw [clr_bit, om, Nat.zero_testBit]; simp
      rw [e0]; rfl

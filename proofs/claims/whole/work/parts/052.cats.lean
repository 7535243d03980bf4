/-! CATS: where they go in a minute, what they eat. p k: the cell of the cat k; F: the fish, as a mask; w: the walker's cell (99: nobody). -/
def om (p : Nat → Nat) : Nat → Nat
  | 0 => 0
  | n + 1 => om p n ||| 2 ^ p n
theorem om_bit {p : Nat → Nat} {c : Nat} : ∀ {n : Nat}, (om p n).testBit c = true ↔ ∃ k, k < n ∧ p k = c
  | 0 => by simp [om]
  | n + 1 => by
    rw [om, Nat.testBit_or, Bool.or_eq_true, om_bit (n := n), Nat.testBit_two_pow, decide_eq_true_eq]
    constructor
    · rintro (⟨k, h1, h2⟩ | h)
      · exact ⟨k, by omega, h2⟩
      · exact ⟨n, by omega, h⟩
    · rintro ⟨k, h1, h2⟩
      by_cases h : k = n
      · exact Or.inr (by rw [← h]; exact h2)
      · exact Or.inl ⟨k, by omega, h2⟩
theorem om_nbit {p : Nat → Nat} {c n : Nat} : (om p n).testBit c = false ↔ ∀ k, k < n → ¬ p k = c := by
  rw [← Bool.not_eq_true, om_bit]
  constructor
  · intro h k hk e; exact h ⟨k, hk, e⟩
  · rintro h ⟨k, hk, e⟩; exact h k hk e
theorem om_lt {p : Nat → Nat} {b : Nat} : ∀ {n : Nat}, (∀ k, k < n → p k < b) → om p n < 2 ^ b
  | 0, _ => Nat.two_pow_pos b
  | n + 1, h => by
    rw [om]
    exact Nat.or_lt_two_pow (om_lt (fun k hk => h k (by omega))) (Nat.pow_lt_pow_right (by decide) (h n (by omega)))
theorem om_cong {p q : Nat → Nat} : ∀ {n : Nat}, (∀ k, k < n → p k = q k) → om p n = om q n
  | 0, _ => rfl
  | n + 1, h => by rw [om, om, om_cong (fun k hk => h k (by omega)), h n (by omega)]
/-- the nearest fish: (its cell or 99, how far it is or more than the nose) -/
def nf (L F ns a : Nat) : Nat → Nat × Nat
  | 0 => (99, ns + 1)
  | k + 1 => if F.testBit k = true ∧ steps L a k < (nf L F ns a k).2 then (k, steps L a k) else nf L F ns a k
def nfc (L F ns a : Nat) : Nat := if (nf L F ns a 24).1 = 99 then a else (nf L F ns a 24).1
theorem nf_le {L F ns a : Nat} : ∀ k, (nf L F ns a k).2 ≤ ns + 1
  | 0 => Nat.le_refl _
  | k + 1 => by
    rw [nf]
    split
    · rename_i h; have := nf_le (L := L) (F := F) (ns := ns) (a := a) k; show steps L a k ≤ _; omega
    · exact nf_le k
theorem nf_fst {L F ns a : Nat} : ∀ k, (nf L F ns a k).1 = 99 ∨ ((nf L F ns a k).1 < k ∧ F.testBit (nf L F ns a k).1 = true)
  | 0 => Or.inl rfl
  | k + 1 => by
    rw [nf]
    split
    · rename_i h; exact Or.inr ⟨Nat.lt_succ_self _, h.1⟩
    · rcases nf_fst (L := L) (F := F) (ns := ns) (a := a) k with h | ⟨h1, h2⟩
      · exact Or.inl h
      · exact Or.inr ⟨by omega, h2⟩
theorem nf_ext {L F ns a n : Nat} (h : ∀ c, n ≤ c → F.testBit c = false) : ∀ d, nf L F ns a (n + d) = nf L F ns a n
  | 0 => rfl
  | d + 1 => by
    rw [← Nat.add_assoc, nf, if_neg (by rw [h _ (Nat.le_add_right _ _)]; simp), nf_ext h d]
theorem e_near {L F ns a : Nat} (h0 : 0 < L) (hL : L < 2 ^ 20) (ha : a < 2 ^ 20) (hF : F < 2 ^ 24) (hns : ns < 2 ^ 20) : m_X2_nearestFish (nI a) (nI F) (nI L) (nI ns) = some (nI (nfc L F ns a)) := by
  unfold m_X2_nearestFish
  rw [nm_eq, nI_1]
  have hF1 : nI F = 0 ↔ F = 0 := eq0 (by omega)
  refine lpUp _ _ 24 (fun k => (nI (if (nf L F ns a k).1 = 99 then a else (nf L F ns a k).1), nI (nf L F ns a k).2, nI k)) ?_ ?_ (by decide) 0 (by decide)
  · intro k rec hk hr
    dsimp only at hr ⊢
    unfold X2_nearestFish_f13
    rw [if_neg (fun q => absurd ((le24 (by omega)).mp q) (by omega))]
    by_cases hz : F = 0
    · rw [if_pos (hF1.mpr hz)]
      have hb : ∀ c, 0 ≤ c → F.testBit c = false := fun c _ => by rw [hz]; exact Nat.zero_testBit c
      have e1 : ∀ d, nf L F ns a d = (99, ns + 1) := fun d => by have := nf_ext (L := L) (ns := ns) (a := a) hb d; rw [Nat.zero_add] at this; exact this
      unfold nfc
      rw [e1, e1]
    · rw [if_neg (fun q => hz (hF1.mp q)), e_hasBit hF (by omega), obind]
      have hle := nf_le (L := L) (F := F) (ns := ns) (a := a) k
      have hst : steps L a k < 2 ^ 22 := by have := steps_le (L := L) (a := a) (b := k); omega
      have step : ∀ {x y : Nat}, x = (if (nf L F ns a (k + 1)).1 = 99 then a else (nf L F ns a (k + 1)).1) → y = (nf L F ns a (k + 1)).2 → X2_nearestFish_j62 (fun r0 r1 r2 => rec (r0, r1, r2)) (nI x) (nI y) (nI k) = some (nI (nfc L F ns a)) := by
        intro x y hx hy
        subst hx; subst hy
        unfold X2_nearestFish_j62
        rw [nI_1]; exact hr
      by_cases hb : F.testBit k = true
      · have e1 : bn F k = 1 := by unfold bn; rw [if_pos hb]
        rw [e1, if_neg (by decide), e_steps h0 hL ha (by omega), obind]
        by_cases hlt : steps L a k < (nf L F ns a k).2
        · have e2 : nf L F ns a (k + 1) = (k, steps L a k) := by rw [nf, if_pos ⟨hb, hlt⟩]
          rw [if_neg (nI_ge hlt (by omega))]
          exact step (by rw [e2]; exact (if_neg (by show ¬ k = 99; omega)).symm) (by rw [e2])
        · have e2 : nf L F ns a (k + 1) = nf L F ns a k := by rw [nf, if_neg (fun q => hlt q.2)]
          rw [if_pos (nI_le (by omega) (by omega))]
          exact step (by rw [e2]) (by rw [e2])
      · have e1 : bn F k = 0 := by unfold bn; rw [if_neg hb]
        have e2 : nf L F ns a (k + 1) = nf L F ns a k := by rw [nf, if_neg (fun q => hb q.1)]
        rw [e1, if_pos (by rfl)]
        exact step (by rw [e2]) (by rw [e2])
  · intro rec
    dsimp only
    unfold X2_nearestFish_f13
    rw [if_pos ((le24 (by decide)).mpr (Nat.le_refl 24))]
    rfl
theorem e_smelt {L G F ns a : Nat} (h0 : 0 < L) (hL : L < 2 ^ 20) (ha : a < 2 ^ 20) (hF : F < 2 ^ (L * G)) (hc : L * G ≤ 24) (hns : ns < 2 ^ 20) : m_X5_smelt (nI a) (nI G) (nI L) (nI ns) (nI F) = some (if (nf L F ns a 24).1 = 99 then -9 else nI (nf L F ns a 24).1) := by
  have hF24 : F < 2 ^ 24 := Nat.lt_of_lt_of_le hF (Nat.pow_le_pow_right (by decide) hc)
  have hE : nf L F ns a 24 = nf L F ns a (L * G) := by
    have := nf_ext (L := L) (F := F) (ns := ns) (a := a) (n := L * G) (fun c q => Nat.testBit_lt_two_pow (Nat.lt_of_lt_of_le hF (Nat.pow_le_pow_right (by decide) q))) (24 - L * G)
    rwa [show L * G + (24 - L * G) = 24 by omega] at this
  rw [hE]
  unfold m_X5_smelt
  rw [nm_eq, nI_1]
  refine lpUp _ _ (L * G) (fun k => ((if (nf L F ns a k).1 = 99 then -9 else nI (nf L F ns a k).1), nI (nf L F ns a k).2, nI k)) ?_ ?_ (by omega) 0 (by omega)
  · intro k rec hk hr
    dsimp only at hr ⊢
    unfold X5_smelt_f13
    rw [e_cells5, obind, if_neg (nI_ge hk (by omega)), e_has (by omega) (by omega), obind]
    have hle := nf_le (L := L) (F := F) (ns := ns) (a := a) k
    have hst : steps L a k < 2 ^ 22 := by have := steps_le (L := L) (a := a) (b := k); omega
    have step : ∀ {x : Int32} {y : Nat}, x = (if (nf L F ns a (k + 1)).1 = 99 then -9 else nI (nf L F ns a (k + 1)).1) → y = (nf L F ns a (k + 1)).2 → X5_smelt_j56 (fun r0 r1 r2 => rec (r0, r1, r2)) x (nI y) (nI k) = some (if (nf L F ns a (L * G)).1 = 99 then -9 else nI (nf L F ns a (L * G)).1) := by
      intro x y hx hy
      subst hx; subst hy
      unfold X5_smelt_j56
      rw [nI_1]; exact hr
    by_cases hb : F.testBit k = true
    · have e1 : bn F k = 1 := by unfold bn; rw [if_pos hb]
      rw [e1, if_neg (by decide), e_steps5 h0 hL ha (by omega), obind]
      by_cases hlt : steps L a k < (nf L F ns a k).2
      · have e2 : nf L F ns a (k + 1) = (k, steps L a k) := by rw [nf, if_pos ⟨hb, hlt⟩]
        rw [if_neg (nI_ge hlt (by omega)), obind]
        exact step (by rw [e2]; exact (if_neg (by show ¬ k = 99; omega)).symm) (by rw [e2])
      · have e2 : nf L F ns a (k + 1) = nf L F ns a k := by rw [nf, if_neg (fun q => hlt q.2)]
        rw [if_pos (nI_le (by omega) (by omega))]
        exact step (by rw [e2]) (by rw [e2])
    · have e1 : bn F k = 0 := by unfold bn; rw [if_neg hb]
      have e2 : nf L F ns a (k + 1) = nf L F ns a k := by rw [nf, if_neg (fun q => hb q.1)]
      rw [e1, if_pos (by rfl)]
      exact step (by rw [e2]) (by rw [e2])
  · intro rec
    dsimp only
    unfold X5_smelt_f13
    rw [e_cells5, obind, if_pos (nI_le (Nat.le_refl _) (by omega))]
theorem nfc_lt {L G F ns a : Nat} (ha : a < L * G) (hF : F < 2 ^ (L * G)) : nfc L F ns a < L * G := by
  unfold nfc
  split
  · exact ha
  · rename_i h
    rcases nf_fst (L := L) (F := F) (ns := ns) (a := a) 24 with q | ⟨q1, q2⟩
    · exact absurd q h
    · rcases Nat.lt_or_ge (nf L F ns a 24).1 (L * G) with z | z
      · exact z
      · rw [Nat.testBit_lt_two_pow (Nat.lt_of_lt_of_le hF (Nat.pow_le_pow_right (by decide) z))] at q2; cases q2
theorem mvt_self {L a : Nat} : mvt L a a = a := by
  unfold mvt; rw [if_pos rfl, if_neg (Nat.lt_irrefl a), if_neg (Nat.lt_irrefl a)]
/-- where the cat k would go -/
def want (L s0 pc ns nc : Nat) (hb wh : Nat → Nat) (m F : Nat) (p : Nat → Nat) (k : Nat) : Nat :=
  if nc ≤ k then p k else if hb k = 1 then mvc L (p k) (sunc L s0 pc m) else if hb k = 2 then mvt L (p k) (nfc L F ns (p k)) else if hb k = 3 then mvt L (p k) (p (wh k)) else p k
def updN (p : Nat → Nat) (k t : Nat) : Nat → Nat := fun j => if j = k then t else p j
def mv1 (L s0 pc ns nc : Nat) (hb wh : Nat → Nat) (m F w n : Nat) (p : Nat → Nat) (k : Nat) : Nat → Nat :=
  if want L s0 pc ns nc hb wh m F p k = p k ∨ want L s0 pc ns nc hb wh m F p k = w ∨ (om p n).testBit (want L s0 pc ns nc hb wh m F p k) = true then p else updN p k (want L s0 pc ns nc hb wh m F p k)
def mvs (L s0 pc ns nc : Nat) (hb wh : Nat → Nat) (m F w n : Nat) (p : Nat → Nat) : Nat → (Nat → Nat)
  | 0 => p
  | k + 1 => mv1 L s0 pc ns nc hb wh m F w n (mvs L s0 pc ns nc hb wh m F w n p k) k
/-- n cats stand on the bridge, no two in one cell -/
def On (C n : Nat) (p : Nat → Nat) : Prop := (∀ i, i < n → p i < C) ∧ ∀ i j, i < n → j < n → p i = p j → i = j
theorem om_upd {p : Nat → Nat} {n k t C : Nat} (h : On C n p) (hk : k < n) (ht : ¬ t = p k) (hf : (om p n).testBit t = false) : om (updN p k t) n = om p n ^^^ (2 ^ p k ||| 2 ^ t) := by
  apply Nat.eq_of_testBit_eq
  intro c
  rw [Nat.testBit_xor, Nat.testBit_or, Nat.testBit_two_pow, Nat.testBit_two_pow]
  have hl : (om (updN p k t) n).testBit c = true ↔ (c = t ∨ (¬ c = p k ∧ (om p n).testBit c = true)) := by
    rw [om_bit, om_bit]
    constructor
    · rintro ⟨j, h1, h2⟩
      unfold updN at h2
      split at h2
      · exact Or.inl h2.symm
      · rename_i hj
        exact Or.inr ⟨fun e => hj (h.2 j k h1 hk (by rw [h2, e])), j, h1, h2⟩
    · rintro (e | ⟨e, j, h1, h2⟩)
      · exact ⟨k, hk, by unfold updN; rw [if_pos rfl, e]⟩
      · exact ⟨j, h1, by unfold updN; rw [if_neg (fun z => e (by rw [← h2, z])), h2]⟩
  by_cases c1 : c = t
  · subst c1
    rw [hl.mpr (Or.inl rfl), hf]; simp
  · by_cases c2 : c = p k
    · have e1 : (om p n).testBit c = true := om_bit.mpr ⟨k, hk, c2.symm⟩
      have e2 : (om (updN p k t) n).testBit c = false := by
        rw [← Bool.not_eq_true, hl]; rintro (q | ⟨q, -⟩)
        · exact c1 q
        · exact q c2
      rw [e1, e2, c2]; simp
    · have d1 : decide (p k = c) = false := decide_eq_false (fun q => c2 q.symm)
      have d2 : decide (t = c) = false := decide_eq_false (fun q => c1 q.symm)
      rw [d1, d2]
      cases hz : (om p n).testBit c with
      | true => rw [hl.mpr (Or.inr ⟨c2, hz⟩)]; rfl
      | false =>
        have e2 : (om (updN p k t) n).testBit c = false := by
          rw [← Bool.not_eq_true, hl]; rintro (q | ⟨-, q⟩)
          · exact c1 q
          · rw [hz] at q; cases q
        rw [e2]; rfl
theorem on_upd {p : Nat → Nat} {n k t C : Nat} (h : On C n p) (hk : k < n) (ht : t < C) (hf : (om p n).testBit t = false) : On C n (updN p k t) := by
  have hn := om_nbit.mp hf
  refine ⟨fun i hi => ?_, fun i j hi hj e => ?_⟩
  · unfold updN; split
    · exact ht
    · exact h.1 i hi
  · unfold updN at e
    split at e
    · split at e
      · omega
      · exact absurd e.symm (hn j hj)
    · split at e
      · exact absurd e (hn i hi)
      · exact h.2 i j hi hj e
theorem on_mv1 {L G s0 pc ns nc : Nat} {hb wh : Nat → Nat} {m F w n : Nat} {p : Nat → Nat} {k : Nat} (h : On (L * G) n p) (hk : k < n) (hw : want L s0 pc ns nc hb wh m F p k < L * G) : On (L * G) n (mv1 L s0 pc ns nc hb wh m F w n p k) := by
  unfold mv1
  split
  · exact h
  · rename_i q
    exact on_upd h hk hw (by
      cases z : (om p n).testBit (want L s0 pc ns nc hb wh m F p k) with
      | true => exact absurd (Or.inr (Or.inr z)) q
      | false => rfl)
theorem want_lt {L G s0 pc ns nc : Nat} {hb wh : Nat → Nat} {m F n : Nat} {p : Nat → Nat} {k : Nat} (h0 : 0 < L) (h : On (L * G) n p) (hk : k < n) (hnc : nc ≤ n) (hF : F < 2 ^ (L * G)) (hwh : ∀ j, j < nc → hb j = 3 → wh j < nc) : want L s0 pc ns nc hb wh m F p k < L * G := by
  unfold want
  split
  · exact h.1 k hk
  · rename_i q
    split
    · exact mvc_lt h0 (h.1 k hk) (sunc_lt h0)
    · split
      · exact mvt_lt h0 (h.1 k hk) (nfc_lt (h.1 k hk) hF)
      · split
        · rename_i z; exact mvt_lt h0 (h.1 k hk) (h.1 _ (by have := hwh k (by omega) z; omega))
        · exact h.1 k hk
theorem on_mvs {L G s0 pc ns nc : Nat} {hb wh : Nat → Nat} {m F w n : Nat} {p : Nat → Nat} (h0 : 0 < L) (h : On (L * G) n p) (hnc : nc ≤ n) (hF : F < 2 ^ (L * G)) (hwh : ∀ j, j < nc → hb j = 3 → wh j < nc) : ∀ k, k ≤ n → On (L * G) n (mvs L s0 pc ns nc hb wh m F w n p k)
  | 0, _ => h
  | k + 1, hk => by
    have ih := on_mvs (s0 := s0) (pc := pc) (ns := ns) (m := m) (w := w) h0 h hnc hF hwh k (by omega)
    exact on_mv1 ih (by omega) (want_lt h0 ih (by omega) hnc hF hwh)
/-- the walker's cell as an int -/
def wI (w : Nat) : Int32 := if w = 99 then -9 else nI w
theorem wI_eq {t w : Nat} (ht : t < 24) (hw : w < 24 ∨ w = 99) : nI t = wI w ↔ t = w := by
  unfold wI
  rcases hw with h | h
  · rw [if_neg (by omega), nI_eq (by omega) (by omega)]
  · rw [if_pos h]
    exact ⟨fun q => absurd q (m9_ne (by omega)), fun q => by omega⟩

/-! STEP in the class: lookBack and firstWay. -/
def hop (L G : Nat) (O : Nat → Nat) (W : Nat) : Nat → Nat
  | 0 => colm L G (L - 1)
  | r + 1 => sprd L G (clr (clr (hop L G O W r) (O (W - 1 - (r + 1)))) (O (W - 1 - r)))
theorem sprd_lt {L G M : Nat} : sprd L G M < 2 ^ (L * G) := Nat.lt_of_le_of_lt Nat.and_le_right (by have := Nat.two_pow_pos (L * G); omega)
theorem hop_lt {L G W : Nat} {O : Nat → Nat} (h0 : 0 < L) : ∀ r, hop L G O W r < 2 ^ (L * G)
  | 0 => colm_lt (by omega)
  | r + 1 => by rw [hop]; exact sprd_lt
theorem msk_bit {M a b z : Nat} : (clr (clr M a) b).testBit z = true ↔ (M.testBit z = true ∧ a.testBit z = false ∧ b.testBit z = false) := by
  rw [clr_bit, clr_bit]
  cases M.testBit z <;> cases a.testBit z <;> cases b.testBit z <;> simp
theorem hop_bit {L G W : Nat} {O : Nat → Nat} (h0 : 0 < L) (hC : L * G ≤ 24) : ∀ r, r < W → ∀ c, (hop L G O W r).testBit c = true ↔ (c < L * G ∧ pth L G O (r + 1) (W - 1 - r) c)
  | 0, _, c => by
    rw [hop, colm_bit (by omega)]
    constructor
    · rintro ⟨h1, h2⟩; exact ⟨h1, (pth_in hC h1).mpr (Or.inl ⟨rfl, h2⟩)⟩
    · rintro ⟨h1, h2⟩
      rcases (pth_in hC h1).mp h2 with ⟨-, z⟩ | ⟨h, -, -, -, z⟩
      · exact ⟨h1, z⟩
      · exact absurd z (by rw [pth]; exact id)
  | r + 1, hr, c => by
    have ih := hop_bit (W := W) (O := O) h0 hC r (by omega)
    have e1 : W - 1 - (r + 1) + 1 = W - 1 - r := by omega
    rw [hop, sprd_bit h0 (clr_lt (clr_lt (hop_lt h0 r))) hC]
    constructor
    · rintro ⟨h1, h, hh, q⟩
      obtain ⟨q1, q2, q3⟩ := msk_bit.mp q
      obtain ⟨q4, q5⟩ := (ih _).mp q1
      exact ⟨h1, (pth_in hC h1).mpr (Or.inr ⟨h, hh, fun z => by rw [z] at q4; omega, ⟨q2, by rw [e1]; exact q3⟩, by rw [e1]; exact q5⟩)⟩
    · rintro ⟨h1, h2⟩
      rcases (pth_in hC h1).mp h2 with ⟨z, -⟩ | ⟨h, hh, h3, h4, h5⟩
      · omega
      · have hz : cb L G c h < L * G := by rcases cb_lt (h := h) h0 h1 with z | z; exact absurd z h3; exact z
        rw [e1] at h5
        refine ⟨h1, h, hh, msk_bit.mpr ⟨(ih _).mpr ⟨hz, h5⟩, h4.1, ?_⟩⟩
        have := h4.2
        rwa [e1] at this
theorem s2 {k : Nat} (h : 2 ≤ k) : nI k - (2 : Int32) = nI (k - 2) := nI_sub (b := 2) h
theorem e_lookBack {L G s0 pc ns nc m n W : Nat} {hb wh : Nat → Nat} {s : (Nat → Nat) × Nat} {f e tq hq hc lc : Nat → Int32} {O : Nat → Nat} (P : PlOK L G s0 pc ns nc hb wh) (Hc : HcOK nc hb wh hc lc) (h : Sok (L * G) n s) (hm : m < 2 ^ 10) (hnc : nc ≤ n) (hn : n ≤ 8) (hf : ∀ j, j < n → f j = nI (s.1 j)) (hW : 2 ≤ W) (hW2 : W ≤ 40) (hO : ∀ t, om (rn (tk L s0 pc ns nc hb wh 99 n) m s t).1 n = O t) :
    ∃ tq' hq' : Nat → Int32, ∃ o, m_X3_lookBack (nI W) tq hq (nI L) (nI G) (nI s0) (nI pc) (nI ns) (nI nc) hc lc (nI n) (nI (om s.1 n)) (nI s.2) (-9) (nI m) f e = some (tq', hq', o) ∧ (∀ t, t < W → tq' t = nI (O t)) ∧ ∀ r, r < W → hq' (W - 1 - r) = nI (hop L G O W r) := by
  have P' := P
  obtain ⟨h0, hL, hG0, hG, hC, hs, hp0, hp, hns, hnc5, hb3, hwh⟩ := P'
  have hon := sok_rn (w := 99) (m := m) P hnc h
  unfold m_X3_lookBack
  generalize hT : tk L s0 pc ns nc hb wh 99 n = T at hon hO
  have h24 : ∀ t, O t < 2 ^ 24 := fun t => by
    rw [← hO t]
    exact om_lt (fun j hj => Nat.lt_of_lt_of_le ((hon t).1.1 j hj) hC)
  refine lpUpE _ W (fun k z => ∃ g f' e' : Nat → Int32, z = (nI k, g, nI (O k), nI (rn T m s k).2, nI (m + k), f', e') ∧ (∀ j, j < n → f' j = nI ((rn T m s k).1 j)) ∧ ∀ t, t < k → g t = nI (O t)) (fun z => ∃ tq' hq' : Nat → Int32, ∃ o, z = some (tq', hq', o) ∧ (∀ t, t < W → tq' t = nI (O t)) ∧ ∀ r, r < W → hq' (W - 1 - r) = nI (hop L G O W r)) ?_ ?_ (by omega) 0 (by omega) _ ⟨tq, f, e, by rw [← hO 0]; rfl, hf, fun t ht => absurd ht (Nat.not_lt_zero t)⟩
  · intro k z rec hk hJ hrec
    obtain ⟨g, f', e', rfl, z1, z2⟩ := hJ
    obtain ⟨a3, f3, e3, z3, z4⟩ := e_pass9 (m := m + k) (e := e') P Hc (hon k) (by omega) hnc hn z1
    rw [hT, hO k] at z3
    rw [hT] at z4
    dsimp only
    unfold X3_lookBack_f3
    rw [if_neg (nI_ge hk (by omega)), e_put (by omega) (by decide), obind, z3, obind]
    dsimp only
    rw [show (T (m + k) (rn T m s k)) = rn T m s (k + 1) from rfl, hO (k + 1), nI_1]
    refine hrec _ ⟨upd g k (nI (O k)), f3, e3, rfl, z4, fun t ht => ?_⟩
    unfold upd
    by_cases q : t = k
    · rw [if_pos q, q]
    · rw [if_neg q]; exact z2 t (by omega)
  · intro z rec hJ
    obtain ⟨g, f', e', rfl, z1, z2⟩ := hJ
    dsimp only
    unfold X3_lookBack_f3
    rw [if_pos (nI_le (Nat.le_refl W) (by omega))]
    dsimp only
    rw [nI_s1 h0, e_colm hL hC hG (by omega), obind, nI_s1 (by omega), e_put (by omega) (by decide), obind, s2 hW, nm_eq]
    refine lpUpE _ (W - 1) (fun j z => ∃ u : Nat → Int32, z = (xr (W - 1 - j), u) ∧ ∀ r, r < j + 1 → u (W - 1 - r) = nI (hop L G O W r)) (fun z => ∃ tq' hq' : Nat → Int32, ∃ o, z = some (tq', hq', o) ∧ (∀ t, t < W → tq' t = nI (O t)) ∧ ∀ r, r < W → hq' (W - 1 - r) = nI (hop L G O W r)) ?_ ?_ (by omega) 0 (by omega) _ ⟨upd hq (W - 1) (nI (colm L G (L - 1))), by unfold xr; rw [if_neg (by omega), show W - 1 - 0 - 1 = W - 2 by omega], fun r hr => ?_⟩
    · intro j z rec2 hj hJ2 hrec2
      obtain ⟨u, rfl, y1⟩ := hJ2
      have hx : xr (W - 1 - j) = nI (W - 2 - j) := by unfold xr; rw [if_neg (by omega), show W - 1 - j - 1 = W - 2 - j by omega]
      have hx2 : nI (W - 2 - j) + (-1) = xr (W - 1 - (j + 1)) := by
        have := xr_dec (r := W - 1 - j) (by omega) (by omega)
        rw [show W - 1 - j - 1 = W - 2 - j by omega] at this
        rw [this, show W - 1 - (j + 1) = W - 2 - j by omega]
      have y2 := y1 j (by omega)
      have hMl : clr (clr (hop L G O W j) (O (W - 2 - j))) (O (W - 1 - j)) < 2 ^ (L * G) := clr_lt (clr_lt (hop_lt h0 j))
      dsimp only
      unfold X3_lookBack_f59
      rw [hx, if_neg (nI_lt0 (by omega)), nI_1, show W - 2 - j + 1 = W - 1 - j by omega, e_entry (by omega) (by decide), obind, e_entry (by omega) (by decide), obind, e_entry (by omega) (by decide), obind, y2, z2 _ (by omega), z2 _ (by omega), nI_anot, nI_anot, nm_eq]
      have hsp := e_spread h0 hL hC hG hMl
      unfold clr at hsp
      rw [hsp, obind, e_put (by omega) (by decide), obind, hx2]
      refine hrec2 _ ⟨_, rfl, fun r hr => ?_⟩
      unfold upd
      by_cases q : r = j + 1
      · rw [if_pos (by omega), q, hop, show W - 1 - (j + 1) = W - 2 - j by omega]
        rfl
      · rw [if_neg (by omega)]; exact y1 r (by omega)
    · intro z rec2 hJ2
      obtain ⟨u, rfl, y1⟩ := hJ2
      have hx : xr (W - 1 - (W - 1)) = -1 := by unfold xr; rw [if_pos (by omega)]
      dsimp only
      unfold X3_lookBack_f59
      rw [hx, if_pos (by decide)]
      exact ⟨g, u, _, rfl, z2, fun r hr => y1 r (by omega)⟩
    · have : r = 0 := by omega
      subst this
      unfold upd
      rw [if_pos (by omega)]
      rfl
theorem e_hope {L G W t z : Nat} {O : Nat → Nat} {tq hq : Nat → Int32} (h0 : 0 < L) (hC : L * G ≤ 24) (hW2 : W ≤ 40) (ht : t + 1 < W) (hz : z < 2 ^ 20) (hT : ∀ t, t < W → tq t = nI (O t)) (hH : ∀ r, r < W → hq (W - 1 - r) = nI (hop L G O W r)) : ∃ b : Bool, m_X3_isHopeful (nI z) (nI t) tq hq = some (if b = true then 1 else 0) ∧ (b = true ↔ (z < L * G ∧ fr O t z ∧ pth L G O (W - t - 1) (t + 1) z)) := by
  have y := hH (W - 2 - t) (by omega)
  rw [show W - 1 - (W - 2 - t) = t + 1 by omega] at y
  have hl : clr (clr (hop L G O W (W - 2 - t)) (O t)) (O (t + 1)) < 2 ^ (L * G) := clr_lt (clr_lt (hop_lt h0 _))
  have hl24 := Nat.lt_of_lt_of_le hl (Nat.pow_le_pow_right (show 0 < 2 by decide) hC)
  refine ⟨(clr (clr (hop L G O W (W - 2 - t)) (O t)) (O (t + 1))).testBit z, ?_, ?_⟩
  · unfold m_X3_isHopeful
    rw [nI_1, e_entry (by omega) (by decide), obind, e_entry (by omega) (by decide), obind, e_entry (by omega) (by decide), obind, y, hT t (by omega), hT (t + 1) ht, nI_anot, nI_anot]
    have hh := e_hasBit (c := z) hl24 (by omega)
    unfold clr at hh
    rw [hh, obind]
    show bzI (nI (bn (clr (clr (hop L G O W (W - 2 - t)) (O t)) (O (t + 1))) z)) _ = _
    rw [bz_nI (bn_le _ _)]
    cases q : (clr (clr (hop L G O W (W - 2 - t)) (O t)) (O (t + 1))).testBit z with
    | true => show some (nI (bn (clr (clr (hop L G O W (W - 2 - t)) (O t)) (O (t + 1))) z)) = _; rw [bn_t q]; rfl
    | false => show some (nI (bn (clr (clr (hop L G O W (W - 2 - t)) (O t)) (O (t + 1))) z)) = _; rw [bn_f q]; rfl
  · rw [msk_bit, hop_bit h0 hC _ (by omega), show W - 1 - (W - 2 - t) = t + 1 by omega, show W - 2 - t + 1 = W - t - 1 by omega]
    unfold fr
    constructor
    · rintro ⟨⟨h1, h2⟩, h3⟩; exact ⟨h1, h3, h2⟩
    · rintro ⟨h1, h3, h2⟩; exact ⟨⟨h1, h2⟩, h3⟩
theorem e_hope9 {t : Nat} {tq hq : Nat → Int32} (ht : t < 40) : m_X3_isHopeful (-9) (nI t) tq hq = some 0 := by
  unfold m_X3_isHopeful
  rw [nI_1, e_entry (by omega) (by decide), obind, e_entry (by omega) (by decide), obind, e_entry (by omega) (by decide), obind, e_hasBit9, obind, bz0]
theorem lc_eq {L G t d c h : Nat} {O : Nat → Nat} (ht : t + d + 1 ≤ 40) (hc : c < L * G ∨ c = 24) (hl : lf L G O (40 - t) c = d + 1) (hq : lv L G O (lf L G O (39 - t)) t c h = d + 1) (hm : ∀ j, j < h → ¬ lv L G O (lf L G O (39 - t)) t c j = d + 1) : lc L G O t c = h := by
  obtain ⟨k1, k2, k3⟩ := lc_spec ht hc hl
  rcases Nat.lt_trichotomy (lc L G O t c) h with z | z | z
  · exact absurd k2 (hm _ z)
  · exact z
  · exact absurd hq (k3 _ z)
theorem c5 (k : Nat) : (5 : Int32) + nI k = nI (5 + k) := nI_add 5 k
theorem e_entryW {L G W t : Nat} {O : Nat → Nat} {tq hq : Nat → Int32} (h0 : 0 < L) (hC : L * G ≤ 24) (hG : G ≤ 3) (hW2 : W ≤ 40) (ht : t < W) (hl : lf L G O (40 - t) 24 = W - t) (hT : ∀ t, t < W → tq t = nI (O t)) (hH : ∀ r, r < W → hq (W - 1 - r) = nI (hop L G O W r)) : m_X3_firstEntry (nI t) tq hq (nI L) (nI G) = some (nI (lc L G O t 24)) := by
  have hl2 : lf L G O (40 - t) 24 = W - t - 1 + 1 := by rw [hl]; omega
  have hd : 0 < W - t - 1 ∧ (lc L G O t 24 = 8 ∨ (5 ≤ lc L G O t 24 ∧ lc L G O t 24 ≤ 4 + G)) := by
    rcases nx_ok (t := t) (d := W - t - 1) (c := 24) h0 hC hG (by omega) (Or.inr rfl) hl2 with ⟨a1, -, -, a4, -⟩ | ⟨-, a2, -⟩
    · exact ⟨a1, a4 rfl⟩
    · omega
  have row : ∀ r, r < G → (lv L G O (lf L G O (39 - t)) t 24 (5 + r) = W - t - 1 + 1 ↔ (fr O t (r * L) ∧ pth L G O (W - t - 1) (t + 1) (r * L))) := by
    intro r hr
    have hz : r * L < L * G := by rw [Nat.mul_comm]; exact Nat.mul_lt_mul_of_pos_left hr h0
    refine q_stv h0 hC hG (by omega) (Or.inr rfl) hl2 (by omega) (Or.inl hz) ?_
    unfold lv
    rw [if_pos rfl, if_neg (by omega), if_pos ⟨by omega, by omega⟩, show 5 + r - 5 = r by omega, Nat.mul_comm]
  unfold m_X3_firstEntry
  refine lpUpI _ _ G (fun k s => s = nI k ∧ ∀ r, r < k → ¬ (fr O t (r * L) ∧ pth L G O (W - t - 1) (t + 1) (r * L))) ?_ ?_ (by omega) 0 (by omega) _ ⟨rfl, fun r hr => absurd hr (Nat.not_lt_zero r)⟩
  · intro k s rec hk hJ hrec
    obtain ⟨rfl, hJ⟩ := hJ
    have hz : k * L < L * G := by rw [Nat.mul_comm]; exact Nat.mul_lt_mul_of_pos_left hk h0
    obtain ⟨b, b1, b2⟩ := e_hope (z := k * L) h0 hC hW2 (show t + 1 < W by omega) (by omega) hT hH
    unfold X3_firstEntry_f2
    rw [if_neg (nI_ge hk (by omega)), nI_mul, b1, obind]
    cases b with
    | true =>
      obtain ⟨-, b3, b4⟩ := b2.mp rfl
      rw [if_neg (by decide)]
      dsimp only
      rw [c5]
      have e : lc L G O t 24 = 5 + k := by
        refine lc_eq (d := W - t - 1) (by omega) (Or.inr rfl) hl2 ((row k hk).mpr ⟨b3, b4⟩) (fun j hj q => ?_)
        by_cases j5 : 5 ≤ j
        · have := (row (j - 5) (by omega)).mp (by rw [show 5 + (j - 5) = j by omega]; exact q)
          exact hJ (j - 5) (by omega) this
        · unfold lv at q
          rw [if_pos rfl, if_neg (by omega), if_neg (by omega)] at q
          omega
      rw [e]
    | false =>
      rw [if_pos (by rfl), nI_1]
      refine hrec _ ⟨rfl, fun r hr => ?_⟩
      by_cases q : r = k
      · rw [q]; rintro ⟨q1, q2⟩; exact absurd (b2.mpr ⟨hz, q1, q2⟩) (by decide)
      · exact hJ r (by omega)
  · intro s rec hJ
    obtain ⟨rfl, hJ⟩ := hJ
    unfold X3_firstEntry_f2
    rw [if_pos (nI_le (Nat.le_refl G) (by omega))]
    have e : lc L G O t 24 = 8 := by
      rcases hd.2 with e | ⟨e1, e2⟩
      · exact e
      · have k2 := (lc_spec (t := t) (d := W - t - 1) (c := 24) (by omega) (Or.inr rfl) hl2).2.1
        have := (row (lc L G O t 24 - 5) (by omega)).mp (by rw [show 5 + (lc L G O t 24 - 5) = lc L G O t 24 by omega]; exact k2)
        exact absurd this (hJ _ (by omega))
    rw [e]
    rfl
theorem e_moveW {L G W t c : Nat} {O : Nat → Nat} {tq hq : Nat → Int32} (h0 : 0 < L) (hL : L ≤ 8) (hC : L * G ≤ 24) (hG : G ≤ 3) (hW2 : W ≤ 40) (ht : t < W) (hc : c < L * G) (hl : lf L G O (40 - t) c = W - t) (hT : ∀ t, t < W → tq t = nI (O t)) (hH : ∀ r, r < W → hq (W - 1 - r) = nI (hop L G O W r)) : m_X3_firstMove (nI c) (nI t) (nI W) tq hq (nI L) (nI G) = some (nI (lc L G O t c)) := by
  have hl2 : lf L G O (40 - t) c = W - t - 1 + 1 := by rw [hl]; omega
  unfold m_X3_firstMove
  rw [nI_1]
  rcases nx_ok (t := t) (d := W - t - 1) (c := c) h0 hC hG (by omega) (Or.inl hc) hl2 with ⟨a1, -, -, -, a5⟩ | ⟨a1, -, a3, -⟩
  · obtain ⟨a6, a7⟩ := a5 hc
    have how : ∀ j, j ≤ 4 → (lv L G O (lf L G O (39 - t)) t c j = W - t - 1 + 1 ↔ (¬ cb L G c j = 99 ∧ fr O t (cb L G c j) ∧ pth L G O (W - t - 1) (t + 1) (cb L G c j))) := by
      intro j hj
      by_cases q9 : cb L G c j = 99
      · constructor
        · intro q
          unfold lv at q
          rw [if_neg (by omega), if_pos hj, if_pos q9] at q
          split at q <;> omega
        · intro q; exact absurd q9 q.1
      · have hz : cb L G c j < L * G := by rcases cb_lt (h := j) h0 hc with z | z; exact absurd z q9; exact z
        rw [q_stv h0 hC hG (by omega) (Or.inl hc) hl2 (by omega) (Or.inl hz) (by unfold lv; rw [if_neg (by omega), if_pos hj, if_neg q9])]
        exact ⟨fun q => ⟨q9, q⟩, fun q => q.2⟩
    rw [if_pos ((nI_ltI (by omega) (by omega)).mpr (show t + 1 < W by omega))]
    refine lpUpI _ _ 4 (fun k s => s = nI k ∧ ∀ j, j < k → ¬ lv L G O (lf L G O (39 - t)) t c j = W - t - 1 + 1) ?_ ?_ (by decide) 0 (by decide) _ ⟨rfl, fun r hr => absurd hr (Nat.not_lt_zero r)⟩
    · intro k s rec hk hJ hrec
      obtain ⟨rfl, hJ⟩ := hJ
      unfold X3_firstMove_f13
      rw [if_neg (fun q => by have := (ge4 (by omega)).mp q; omega), e_cellBy h0 hL hC hc (by omega), obind]
      by_cases q9 : cb L G c k = 99
      · rw [q9, show wI 99 = -9 from rfl, e_hope9 (by omega), obind, if_pos rfl, nI_1]
        refine hrec _ ⟨rfl, fun j hj => ?_⟩
        by_cases q : j = k
        · rw [q]; intro z; exact ((how k (by omega)).mp z).1 q9
        · exact hJ j (by omega)
      · have hz : cb L G c k < L * G := by rcases cb_lt (h := k) h0 hc with z | z; exact absurd z q9; exact z
        obtain ⟨b, b1, b2⟩ := e_hope (z := cb L G c k) h0 hC hW2 (show t + 1 < W by omega) (by omega) hT hH
        rw [wIn (by omega), b1, obind]
        cases b with
        | true =>
          obtain ⟨-, b3⟩ := b2.mp rfl
          rw [if_neg (by decide), lc_eq (d := W - t - 1) (by omega) (Or.inl hc) hl2 ((how k (by omega)).mpr ⟨q9, b3⟩) hJ]
        | false =>
          rw [if_pos (by rfl), nI_1]
          refine hrec _ ⟨rfl, fun j hj => ?_⟩
          by_cases q : j = k
          · rw [q]; intro z; exact absurd (b2.mpr ⟨hz, ((how k (by omega)).mp z).2⟩) (by decide)
          · exact hJ j (by omega)
    · intro s rec hJ
      obtain ⟨rfl, hJ⟩ := hJ
      unfold X3_firstMove_f13
      rw [if_pos ((ge4 (by decide)).mpr (Nat.le_refl 4))]
      have k2 := (lc_spec (t := t) (d := W - t - 1) (c := c) (by omega) (Or.inl hc) hl2).2.1
      have e : lc L G O t c = 4 := by
        rcases Nat.lt_or_ge (lc L G O t c) 4 with z | z
        · exact absurd k2 (hJ _ z)
        · omega
      rw [e]
      rfl
  · rw [if_neg (fun q => by have := (nI_ltI (by omega) (by omega)).mp q; omega), a3]
    rfl

/-! THE REFERENCE'S TABLE by its program. -/
theorem b1 (k : Nat) : (1 : Int32) + nI k = nI (1 + k) := nI_add 1 k
theorem m25 (k : Nat) : (25 : Int32) * nI k = nI (25 * k) := nI_mul 25 k
theorem b24 (k : Nat) : nI k + (24 : Int32) = nI (k + 24) := nI_add k 24
theorem s5 {k : Nat} (h : 5 ≤ k) : nI k - (5 : Int32) = nI (k - 5) := nI_sub (b := 5) h
theorem eq24 {a : Nat} (h : a < 2 ^ 31) : nI a = (24 : Int32) ↔ a = 24 := nI_eq (b := 24) h (by decide)
theorem eq8 {a : Nat} (h : a < 2 ^ 31) : nI a = (8 : Int32) ↔ a = 8 := nI_eq (b := 8) h (by decide)
theorem lt24 {a : Nat} (h : a < 2 ^ 31) : (24 : Int32) < nI a ↔ 24 < a := nI_ltI (a := 24) (by decide) h
theorem le9 {a : Nat} (h : a < 2 ^ 31) : (9 : Int32) ≤ nI a ↔ 9 ≤ a := nI_leI (a := 9) (by decide) h
theorem in5 {a b : Nat} (ha : a < 2 ^ 31) (hb : b < 2 ^ 31) : m_X5_in (nI a) 5 (nI b) = some (if 5 ≤ a ∧ a ≤ b then 1 else 0) := e_in (l := 5) ha (by decide) hb
theorem in04y {a : Nat} (h : a ≤ 4) : m_X5_in (nI a) 0 4 = some 1 := in_yes (nI_lt0 (by omega)) ((le4 (by omega)).mpr h)
theorem in04n {a : Nat} (ha : a < 2 ^ 31) (h : ¬ a ≤ 4) : m_X5_in (nI a) 0 4 = some 0 := in_high (fun q => h ((le4 ha).mp q))
theorem e_mayCome {t z : Nat} {O : Nat → Nat} {tq : Nat → Int32} (ht : t < 40) (hz : z < 24) (hO : ∀ t, O t < 2 ^ 24) (hq : ∀ t, t < 41 → tq t = nI (O t)) : m_X5_mayCome (nI t) (nI z) tq = some (if (O t ||| O (t + 1)).testBit z = true then 0 else 1) := by
  unfold m_X5_mayCome
  have h1 : O t ||| O (t + 1) < 2 ^ 24 := Nat.or_lt_two_pow (hO t) (hO (t + 1))
  rw [ld_ok (by omega) (by decide), nI_1, ld_ok (by omega) (by decide), hq t (by omega), hq (t + 1) (by omega), nI_or, e_has (by omega) (by omega), obind]
  cases q : (O t ||| O (t + 1)).testBit z with
  | true => rw [bn_t q, if_neg (by decide), bz0]; rfl
  | false => rw [bn_f q, if_pos (by rfl), bz1]; rfl
theorem e_j98 {t z : Nat} {O g : Nat → Nat} {tq lq : Nat → Int32} {x : Int32} (ht : t < 40) (hz : z < 24) (hO : ∀ t, O t < 2 ^ 24) (hq : ∀ t, t < 41 → tq t = nI (O t)) (hg : ∀ z, z ≤ 24 → lq (25 * (t + 1) + z) = nI (g z)) : X5_leftBy_j98 (nI t) x (nI z) tq lq = some (nI (stv O g t z)) := by
  unfold X5_leftBy_j98 stv
  rw [if_neg (fun q => by have := (eq24 (by omega)).mp q; omega), e_mayCome ht hz hO hq, obind]
  cases q : (O t ||| O (t + 1)).testBit z with
  | true => rw [if_pos rfl, if_pos rfl, if_pos rfl]; rfl
  | false => rw [if_neg (by decide), if_neg (by decide), nI_1, m25, nI_add, ld_ok (by omega) (by decide), hg z (by omega), b1]
theorem e_j67 {t z : Nat} {O g : Nat → Nat} {tq lq : Nat → Int32} {x y : Int32} (ht : t < 40) (hz : z < 24) (hO : ∀ t, O t < 2 ^ 24) (hq : ∀ t, t < 41 → tq t = nI (O t)) (hg : ∀ z, z ≤ 24 → lq (25 * (t + 1) + z) = nI (g z)) : X5_leftBy_j67 (nI t) x y (nI z) tq lq = some (nI (stv O g t z)) := by
  unfold X5_leftBy_j67
  rw [if_neg (m9_ne (by omega)), e_j98 ht hz hO hq hg, if_neg (show ¬ nI z = (24 : Int32) from fun q => by have := (eq24 (by omega)).mp q; omega)]
  by_cases q : x = 24
  · rw [if_pos q]
  · rw [if_neg q]
theorem e_leftBy {L G t c h : Nat} {O g : Nat → Nat} {tq lq : Nat → Int32} (h0 : 0 < L) (hL : L ≤ 8) (hC : L * G ≤ 24) (hG : G ≤ 3) (ht : t < 40) (hc : c < L * G ∨ c = 24) (hh : h < 9) (hO : ∀ t, O t < 2 ^ 24) (hq : ∀ t, t < 41 → tq t = nI (O t)) (hg : ∀ z, z ≤ 24 → lq (25 * (t + 1) + z) = nI (g z)) : m_X5_leftBy (nI t) (nI c) (nI h) (nI G) (nI L) tq lq = some (nI (lv L G O g t c h)) := by
  have k9 : ∀ x y, X5_leftBy_j67 (nI t) x y (-9) tq lq = some (nI 1000) := fun x y => by unfold X5_leftBy_j67; rw [if_pos rfl]; rfl
  unfold m_X5_leftBy lv
  by_cases h24 : c = 24
  · subst h24
    rw [if_pos (by rfl), if_pos rfl]
    by_cases q8 : h = 8
    · rw [if_pos ((eq8 (by omega)).mpr q8), if_pos q8]
      unfold X5_leftBy_j67
      rw [if_neg (by decide), if_pos (by rfl)]
      unfold X5_leftBy_j98
      rw [if_pos rfl, if_pos (by rfl), nI_1, m25, b24, ld_ok (by omega) (by decide), hg 24 (Nat.le_refl 24), b1]
    · rw [if_neg (fun q => q8 ((eq8 (by omega)).mp q)), if_neg q8, a4, in5 (by omega) (by omega), obind]
      by_cases q5 : 5 ≤ h ∧ h ≤ 4 + G
      · rw [if_pos q5, if_pos q5, if_neg (by decide), s5 q5.1, nI_mul]
        have hz : L * (h - 5) < L * G := Nat.mul_lt_mul_of_pos_left (by omega) h0
        exact e_j67 ht (by omega) hO hq hg
      · rw [if_neg q5, if_neg q5, if_pos rfl, k9]
  · have hcC : c < L * G := by omega
    rw [if_neg (fun q => h24 ((eq24 (by omega)).mp q)), if_neg h24]
    by_cases q4 : h ≤ 4
    · rw [in04y q4, obind, if_neg (show ¬ (1 : Int32) = 0 by decide), if_pos q4, e_comesTo h0 hL hC hcC q4, obind]
      have nc24 : ¬ nI c = (24 : Int32) := fun q => h24 ((eq24 (by omega)).mp q)
      by_cases q9 : cb L G c h = 99
      · rw [if_pos q9]
        unfold cbM
        rw [if_pos q9]
        rcases (show h = 0 ∨ h = 1 ∨ h = 2 ∨ h = 3 ∨ h = 4 by omega) with e | e | e | e | e <;> subst e
        · rw [if_pos (Or.inl rfl), if_pos rfl]
          unfold X5_leftBy_j67
          rw [if_neg (by decide), if_neg nc24, if_pos rfl, if_neg (by decide)]
          unfold X5_leftBy_j98
          rw [if_pos rfl, if_neg nc24]
          rfl
        · rw [if_neg (by decide), if_neg (by decide), k9]
        · rw [if_neg (by decide), if_neg (by decide), k9]
        · rw [if_pos (Or.inr rfl), if_neg (by decide)]
          unfold X5_leftBy_j67
          rw [if_neg (by decide), if_neg nc24, if_pos rfl, if_pos (by rfl)]
          rfl
        · unfold cb at q9
          rw [if_neg (by decide), if_neg (by decide), if_neg (by decide), if_neg (by decide)] at q9
          omega
      · have hz : cb L G c h < L * G := by rcases cb_lt (h := h) h0 hcC with z | z; exact absurd z q9; exact z
        rw [if_neg q9]
        unfold cbM
        rw [if_neg q9]
        exact e_j67 ht (by omega) hO hq hg
    · rw [in04n (by omega) q4, obind, if_pos rfl, if_neg q4, k9]
theorem lv_le {L G t c h : Nat} {O g : Nat → Nat} (hg : ∀ z, g z ≤ 1000) : lv L G O g t c h ≤ 1001 := by
  have hs : ∀ z, stv O g t z ≤ 1001 := fun z => by unfold stv; have := hg z; split <;> omega
  unfold lv
  split
  · split
    · have := hg 24; omega
    · split
      · exact hs _
      · omega
  · split
    · split
      · split <;> omega
      · exact hs _
    · omega
theorem e_findWay {L G s0 pc ns nc m S Xf : Nat} {hb wh p : Nat → Nat} {F : Nat} {st f e tq lq hc lc : Nat → Int32} (P : PlOK L G s0 pc ns nc hb wh) (Hc : HcOK nc hb wh hc lc) (hS : S < 2 ^ (L * G)) (hn : exn S nc 24 ≤ 8) (hok : Sok (L * G) (exn S nc 24) (exq S nc p 24, F ||| Xf)) (hm : m < 2 ^ 10) (r0 : st 0 = nI m) (r3 : st 3 = nI F) (r4 : ∀ j, j < nc → st (4 + j) = nI (p j)) {O : Nat → Nat} (hOe : ∀ t, om (rn (tk L s0 pc ns nc hb wh 99 (exn S nc 24)) m (exq S nc p 24, F ||| Xf) t).1 (exn S nc 24) = O t) :
    ∃ a b c : Int32, ∃ f' e' tq' lq' : Nat → Int32, m_X5_findWay (nI S) (nI Xf) (nI G) (nI L) (nI nc) (nI s0) (nI pc) (nI ns) hc lc st f e tq lq = some ((if lf L G O 40 24 ≤ 40 then nI (lf L G O 40 24) else 1000), a, b, c, f', e', tq', lq') ∧ (∀ t, t < 41 → tq' t = nI (O t)) ∧ ∀ t, t ≤ 40 → ∀ z, z ≤ 24 → lq' (25 * t + z) = nI (lf L G O (40 - t) z) := by
  obtain ⟨a, b, c, f', e', tq', h1, h2⟩ := e_find (f := f) (e := e) (tq := tq) P Hc hS hn hok hm r0 r3 r4
  have P' := P
  obtain ⟨h0, hL, hG0, hG, hC, hs, hp0, hp, hns, hnc5, hb3, hwh⟩ := P'
  have hO : ∀ t, O t < 2 ^ 24 := fun t => by
    rw [← hOe t]
    have hk := (sok_rn (w := 99) (m := m) P exn_ge hok t).1
    exact om_lt (fun j hj => Nat.lt_of_lt_of_le (hk.1 j hj) hC)
  have hq : ∀ t, t < 41 → tq' t = nI (O t) := fun t ht => by rw [h2 t ht, hOe]
  unfold m_X5_findWay
  rw [h1, obind]
  dsimp only
  generalize hgoal : (if lf L G O 40 24 ≤ 40 then nI (lf L G O 40 24) else (1000 : Int32)) = ans
  refine lpUpE _ 25 (fun k s => ∃ g : Nat → Int32, s = (nI k, g) ∧ ∀ z, z < k → g (1000 + z) = nI 1000) (fun o => ∃ a b c : Int32, ∃ f' e' tq2 lq2 : Nat → Int32, o = some (ans, a, b, c, f', e', tq2, lq2) ∧ (∀ t, t < 41 → tq2 t = nI (O t)) ∧ ∀ t, t ≤ 40 → ∀ z, z ≤ 24 → lq2 (25 * t + z) = nI (lf L G O (40 - t) z)) ?_ ?_ (by decide) 0 (by decide) _ ⟨lq, rfl, fun z hz => absurd hz (Nat.not_lt_zero z)⟩
  · intro k s rec hk hJ hrec
    obtain ⟨g, rfl, z1⟩ := hJ
    dsimp only
    unfold X5_findWay_f8
    rw [if_neg (fun q => absurd ((lt24 (by omega)).mp q) (by omega)), show (1000 : Int32) + nI k = nI (1000 + k) from nI_add 1000 k, st_ok (by omega) (by decide), nI_1]
    refine hrec _ ⟨_, rfl, fun z hz => ?_⟩
    unfold upd
    by_cases q : z = k
    · rw [if_pos (by omega)]; rfl
    · rw [if_neg (by omega)]; exact z1 z (by omega)
  · intro s rec hJ
    obtain ⟨g0, rfl, z1⟩ := hJ
    dsimp only
    unfold X5_findWay_f8
    rw [if_pos ((lt24 (by decide)).mpr (by decide))]
    dsimp only
    refine lpUpE _ 40 (fun k s => ∃ g : Nat → Int32, s = (xr (40 - k), g) ∧ ∀ t, 40 - k ≤ t → t ≤ 40 → ∀ z, z ≤ 24 → g (25 * t + z) = nI (lf L G O (40 - t) z)) (fun o => ∃ a b c : Int32, ∃ f' e' tq2 lq2 : Nat → Int32, o = some (ans, a, b, c, f', e', tq2, lq2) ∧ (∀ t, t < 41 → tq2 t = nI (O t)) ∧ ∀ t, t ≤ 40 → ∀ z, z ≤ 24 → lq2 (25 * t + z) = nI (lf L G O (40 - t) z)) ?_ ?_ (by decide) 0 (by decide) _ ⟨g0, rfl, fun t ht ht2 z hz => ?_⟩
    · intro k s rec hk hJ hrec
      obtain ⟨g, rfl, y1⟩ := hJ
      have hx : xr (40 - k) = nI (39 - k) := by unfold xr; rw [if_neg (by omega), show 40 - k - 1 = 39 - k by omega]
      dsimp only
      unfold X5_findWay_f36
      rw [hx, if_neg (nI_lt0 (by omega))]
      have hrow : ∀ z, z ≤ 24 → lf L G O (40 - (39 - k)) z = if z < L * G ∨ z = 24 then mnv (lv L G O (lf L G O k) (39 - k) z) 9 else 1000 := fun z hz => by
        rw [show 40 - (39 - k) = k + 1 by omega, lf, show 40 - (k + 1) = 39 - k by omega]
      refine lpUpE _ 25 (fun i s => ∃ g' : Nat → Int32, s = (nI i, g') ∧ (∀ z, z < i → g' (25 * (39 - k) + z) = nI (lf L G O (40 - (39 - k)) z)) ∧ ∀ t, 40 - k ≤ t → t ≤ 40 → ∀ z, z ≤ 24 → g' (25 * t + z) = nI (lf L G O (40 - t) z)) (fun o => ∃ a b c : Int32, ∃ f' e' tq2 lq2 : Nat → Int32, o = some (ans, a, b, c, f', e', tq2, lq2) ∧ (∀ t, t < 41 → tq2 t = nI (O t)) ∧ ∀ t, t ≤ 40 → ∀ z, z ≤ 24 → lq2 (25 * t + z) = nI (lf L G O (40 - t) z)) ?_ ?_ (by decide) 0 (by decide) _ ⟨g, rfl, fun z hz => absurd hz (Nat.not_lt_zero z), y1⟩
      · intro i s rec2 hi hJ2 hrec2
        obtain ⟨g', rfl, w1, w2⟩ := hJ2
        dsimp only
        unfold X5_findWay_f43
        rw [if_neg (fun q => absurd ((lt24 (by omega)).mp q) (by omega))]
        -- when the best is known
        have done : ∀ x : Int32, x = nI (lf L G O (40 - (39 - k)) i) → ∃ a b c : Int32, ∃ f' e' tq2 lq2 : Nat → Int32, X5_findWay_j114 (fun r0 r1 => rec2 (r0, r1)) (nI (39 - k)) (nI i) x g' = some (ans, a, b, c, f', e', tq2, lq2) ∧ (∀ t, t < 41 → tq2 t = nI (O t)) ∧ ∀ t, t ≤ 40 → ∀ z, z ≤ 24 → lq2 (25 * t + z) = nI (lf L G O (40 - t) z) := by
          intro x hxx
          subst hxx
          unfold X5_findWay_j114
          rw [m25, nI_add, st_ok (by omega) (by decide), nI_1]
          refine hrec2 _ ⟨_, rfl, fun z hz => ?_, fun t ht ht2 z hz => ?_⟩
          · unfold upd
            by_cases q : z = i
            · rw [if_pos (by omega), q]
            · rw [if_neg (by omega)]; exact w1 z (by omega)
          · unfold upd
            rw [if_neg (by omega)]; exact w2 t ht ht2 z hz
        by_cases hv : i < L * G ∨ i = 24
        · refine lpUpE _ 9 (fun j s => s = (nI (mnv (lv L G O (lf L G O k) (39 - k) i) j), nI j)) (fun o => ∃ a b c : Int32, ∃ f' e' tq2 lq2 : Nat → Int32, o = some (ans, a, b, c, f', e', tq2, lq2) ∧ (∀ t, t < 41 → tq2 t = nI (O t)) ∧ ∀ t, t ≤ 40 → ∀ z, z ≤ 24 → lq2 (25 * t + z) = nI (lf L G O (40 - t) z)) ?_ ?_ (by decide) 0 (by decide) _ rfl
          · intro j s rec3 hj hs3 hrec3
            subst hs3
            have hm1 := mnv_top (v := lv L G O (lf L G O k) (39 - k) i) (k := j)
            have hl1 := lv_le (L := L) (G := G) (t := 39 - k) (c := i) (h := j) (O := O) (g := lf L G O k) (fun z => lf_top)
            have hstep : ∃ a b c : Int32, ∃ f' e' tq2 lq2 : Nat → Int32, X5_findWay_j81 (fun r0 r1 => rec3 (r0, r1)) (nI (39 - k)) (nI i) (nI (mnv (lv L G O (lf L G O k) (39 - k) i) j)) (nI j) (nI G) (nI L) tq' g' = some (ans, a, b, c, f', e', tq2, lq2) ∧ (∀ t, t < 41 → tq2 t = nI (O t)) ∧ ∀ t, t ≤ 40 → ∀ z, z ≤ 24 → lq2 (25 * t + z) = nI (lf L G O (40 - t) z) := by
              unfold X5_findWay_j81
              rw [e_leftBy (g := lf L G O k) h0 hL hC hG (by omega) hv hj hO hq (fun z hz => by
                have := w2 (39 - k + 1) (by omega) (by omega) z hz
                rwa [show 40 - (39 - k + 1) = k by omega] at this), obind]
              unfold X5_findWay_j106
              have e1 : mnv (lv L G O (lf L G O k) (39 - k) i) (j + 1) = if mnv (lv L G O (lf L G O k) (39 - k) i) j ≤ lv L G O (lf L G O k) (39 - k) i j then mnv (lv L G O (lf L G O k) (39 - k) i) j else lv L G O (lf L G O k) (39 - k) i j := rfl
              by_cases q : mnv (lv L G O (lf L G O k) (39 - k) i) j ≤ lv L G O (lf L G O k) (39 - k) i j
              · rw [if_pos (nI_le q (by omega)), nI_1]
                exact hrec3 _ (by rw [e1, if_pos q])
              · rw [if_neg (fun z => q ((nI_leI (by omega) (by omega)).mp z)), nI_1]
                exact hrec3 _ (by rw [e1, if_neg q])
            dsimp only
            unfold X5_findWay_f58
            rw [if_neg (fun q => absurd ((le9 (by omega)).mp q) (by omega)), e_cells5, obind]
            by_cases q : i < L * G
            · rw [if_pos ((nI_ltI (by omega) (by omega)).mpr q)]; exact hstep
            · rw [if_neg (fun z => q ((nI_ltI (by omega) (by omega)).mp z)), if_pos ((eq24 (by omega)).mpr (by omega))]; exact hstep
          · intro s rec3 hs3
            subst hs3
            dsimp only
            unfold X5_findWay_f58
            rw [if_pos ((le9 (by decide)).mpr (Nat.le_refl 9))]
            exact done _ (by rw [hrow i (by omega), if_pos hv])
        · refine lpUpE _ 0 (fun j s => s = (nI 1000, nI 0)) (fun o => ∃ a b c : Int32, ∃ f' e' tq2 lq2 : Nat → Int32, o = some (ans, a, b, c, f', e', tq2, lq2) ∧ (∀ t, t < 41 → tq2 t = nI (O t)) ∧ ∀ t, t ≤ 40 → ∀ z, z ≤ 24 → lq2 (25 * t + z) = nI (lf L G O (40 - t) z)) ?_ ?_ (by decide) 0 (by decide) _ rfl
          · intro j s rec3 hj; exact absurd hj (Nat.not_lt_zero j)
          · intro s rec3 hs3
            subst hs3
            dsimp only
            unfold X5_findWay_f58
            rw [if_neg (fun q => absurd ((le9 (by decide)).mp q) (by decide)), e_cells5, obind, if_neg (fun z => by have := (nI_ltI (by omega) (by omega)).mp z; omega), if_neg (fun z => by have := (eq24 (by omega)).mp z; omega)]
            exact done _ (by rw [hrow i (by omega), if_neg hv])
      · intro s rec2 hJ2
        obtain ⟨g', rfl, w1, w2⟩ := hJ2
        dsimp only
        unfold X5_findWay_f43
        rw [if_pos ((lt24 (by decide)).mpr (by decide))]
        dsimp only
        have hx2 : nI (39 - k) + (-1) = xr (40 - (k + 1)) := by
          have := xr_dec (r := 40 - k) (by omega) (by omega)
          rw [show 40 - k - 1 = 39 - k by omega] at this
          rw [this, show 40 - (k + 1) = 39 - k by omega]
        rw [hx2]
        refine hrec _ ⟨g', rfl, fun t ht ht2 z hz => ?_⟩
        by_cases q : t = 39 - k
        · subst q; exact w1 z (by omega)
        · exact w2 t (by omega) ht2 z hz
    · intro s rec hJ
      obtain ⟨g, rfl, y1⟩ := hJ
      have hx : xr (40 - 40) = -1 := rfl
      have h40 := y1 0 (by omega) (by omega) 24 (Nat.le_refl 24)
      rw [show 25 * 0 + 24 = 24 from rfl, show 40 - 0 = 40 from rfl] at h40
      have ht := lf_top (L := L) (G := G) (r := 40) (c := 24) (O := O)
      have ld24 : ∀ {β : Type} {f : Nat → Int32} {k : Int32 → Option β}, ldI 1025 f 24 k = k (f 24) := fun {β} {f} {k} => ld_ok (i := 24) (by decide) (by decide)
      dsimp only
      unfold X5_findWay_f36
      rw [hx, if_pos (by decide)]
      dsimp only
      rw [ld24, ld24, h40]
      by_cases q : lf L G O 40 24 ≤ 40
      · rw [if_pos q] at hgoal
        rw [if_pos ((le40 (by omega)).mpr q), hgoal]
        exact ⟨_, _, _, _, _, _, _, rfl, hq, fun t ht z hz => y1 t (by omega) ht z hz⟩
      · rw [if_neg q] at hgoal
        rw [if_neg (fun z => q ((le40 (by omega)).mp z)), hgoal]
        exact ⟨_, _, _, _, _, _, _, rfl, hq, fun t ht z hz => y1 t (by omega) ht z hz⟩
    · have e40 : t = 40 := by omega
      subst e40
      rw [show 25 * 40 + z = 1000 + z from rfl, z1 z (by omega)]
      rfl

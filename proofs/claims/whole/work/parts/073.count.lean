/-! WAYS, MARKS in the class: NN k c s: in how many ways he is at c after k minutes, having seen s of the marks. -/
def sm (f : Nat → Nat) : Nat → Nat
  | 0 => 0
  | n + 1 => sm f n + f n
def nJ (n : Nat) : Int64 := Int64.ofNat n
theorem nJ_add (a b : Nat) : nJ a + nJ b = nJ (a + b) := (Int64.ofNat_add a b).symm
def mkc (set c : Nat) : Nat := if set.testBit c = true then 2 ^ exn set 0 c else 0
def com (L G : Nat) (N : Nat → Nat → Nat) (c s : Nat) : Nat := (if s = 0 ∧ c % L = 0 then 1 else 0) + sm (fun h => if cb L G c h = 99 then 0 else N (cb L G c h) s) 5
def NN (L G : Nat) (O : Nat → Nat) (set : Nat) : Nat → Nat → Nat → Nat
  | 0 => fun _ _ => 0
  | k + 1 => fun c s' => if c < L * G ∧ (O k ||| O (k + 1)).testBit c = false then sm (fun s => if s ||| mkc set c = s' then com L G (NN L G O set k) c s else 0) (2 ^ exn set 0 24) else 0
theorem exn_le24 {S c : Nat} : exn S 0 c ≤ c := by
  induction c with
  | zero => exact Nat.le_refl _
  | succ c ih =>
    have e1 : exn S 0 (c + 1) = if S.testBit c = true then exn S 0 c + 1 else exn S 0 c := rfl
    rw [e1]; split <;> omega
theorem mkc_lt {set c : Nat} (hc : c < 24) : mkc set c < 2 ^ exn set 0 24 := by
  unfold mkc
  by_cases h : set.testBit c = true
  · rw [if_pos h]
    refine Nat.pow_lt_pow_right (by decide) ?_
    have e1 : exn set 0 (c + 1) = if set.testBit c = true then exn set 0 c + 1 else exn set 0 c := rfl
    rw [if_pos h] at e1
    have := exn_le (S := set) (n := 0) (c := c + 1) (d := 24) (by omega)
    omega
  · rw [if_neg h]; exact Nat.two_pow_pos _
theorem exn_mask {set c : Nat} : ∀ d, c ≤ d → exn (set &&& (2 ^ c - 1)) 0 d = exn set 0 c
  | 0, h => by rw [show c = 0 by omega]; rfl
  | d + 1, h => by
    have e1 : ∀ S, exn S 0 (d + 1) = if S.testBit d = true then exn S 0 d + 1 else exn S 0 d := fun _ => rfl
    by_cases q : c = d + 1
    · subst q
      have key : ∀ e, e ≤ d + 1 → exn (set &&& (2 ^ (d + 1) - 1)) 0 e = exn set 0 e := by
        intro e
        induction e with
        | zero => intro _; rfl
        | succ e ih =>
          intro he
          have e2 : ∀ S, exn S 0 (e + 1) = if S.testBit e = true then exn S 0 e + 1 else exn S 0 e := fun _ => rfl
          rw [e2, e2, ih (by omega), Nat.testBit_and, Nat.testBit_two_pow_sub_one, decide_eq_true (show e < d + 1 by omega), Bool.and_true]
      exact key _ (Nat.le_refl _)
    · rw [e1, Nat.testBit_and, Nat.testBit_two_pow_sub_one, decide_eq_false (show ¬ d < c by omega), Bool.and_false, if_neg (by decide)]
      exact exn_mask d (by omega)
/-- an array holds the numbers N -/
def CA (arr : Nat → Int64) (N : Nat → Nat → Nat) : Prop := ∀ c, c < 24 → ∀ s, s < 16 → arr (c * 16 + s) = nJ (N c s)
theorem neg_ix : ∀ s, s < 16 → ((-9 : Int32) * 16 + nI s) < 0 := by decide +kernel
theorem m16 (k : Nat) : nI k * (16 : Int32) = nI (k * 16) := nI_mul k 16
theorem e_countAt {c s : Nat} {arr : Nat → Int64} {N : Nat → Nat → Nat} (hc : c < 24) (hs : s < 16) (h : CA arr N) : m_X3_countAt (nI c) (nI s) arr = some (nJ (N c s)) := by
  unfold m_X3_countAt
  rw [m16, nI_add, e_entryJ (by omega) (by decide), obind, h c hc s hs]
theorem e_countAt9 {s : Nat} {arr : Nat → Int64} (hs : s < 16) : m_X3_countAt (-9) (nI s) arr = some 0 := by
  unfold m_X3_countAt m_X4_entry_
  rw [if_pos (neg_ix s hs), obind]
theorem e_coming {L G c s : Nat} {arr : Nat → Int64} {N : Nat → Nat → Nat} (h0 : 0 < L) (hL : L ≤ 8) (hC : L * G ≤ 24) (hc : c < L * G) (hs : s < 16) (h : CA arr N) : m_X3_countComing (nI c) (nI s) arr (nI L) (nI G) = some (nJ (com L G N c s)) := by
  have key : ∀ b : Nat, X3_countComing_j17 (nI c) (nI s) (nJ b) arr (nI L) (nI G) = some (nJ (b + sm (fun h => if cb L G c h = 99 then 0 else N (cb L G c h) s) 5)) := by
    intro b
    unfold X3_countComing_j17
    refine lpUp _ _ 5 (fun k => (nJ (b + sm (fun h => if cb L G c h = 99 then 0 else N (cb L G c h) s) k), nI k)) ?_ ?_ (by decide) 0 (by decide)
    · intro k rec hk hr
      dsimp only at hr ⊢
      unfold X3_countComing_f22
      rw [if_neg (fun q => by have := (gt4 (by omega)).mp q; omega), e_cellBy h0 hL hC hc (by omega), obind]
      by_cases q : cb L G c k = 99
      · rw [q, show wI 99 = -9 from rfl, e_countAt9 hs, obind, nm_eq, nI_1, show (0 : Int64) = nJ 0 from rfl, nJ_add]
        rw [sm, if_pos q] at hr
        exact hr
      · have hz : cb L G c k < L * G := by rcases cb_lt (h := k) h0 hc with z | z; exact absurd z q; exact z
        rw [wIn (by omega), e_countAt (by omega) hs h, obind, nm_eq, nI_1, nJ_add]
        rw [sm, if_neg q, ← Nat.add_assoc] at hr
        exact hr
    · intro rec
      dsimp only
      unfold X3_countComing_f22
      rw [if_pos ((gt4 (by decide)).mpr (by decide))]
  have k0 : X3_countComing_j16 (nI c) (nI s) arr (nI L) (nI G) = some (nJ (0 + sm (fun h => if cb L G c h = 99 then 0 else N (cb L G c h) s) 5)) := key 0
  have k1 : X3_countComing_j17 (nI c) (nI s) 1 arr (nI L) (nI G) = some (nJ (1 + sm (fun h => if cb L G c h = 99 then 0 else N (cb L G c h) s) 5)) := key 1
  have h3 : c % L ≤ c := Nat.mod_le _ _
  unfold m_X3_countComing com
  by_cases q : s = 0
  · rw [if_pos ((eq0 (by omega)).mpr q), e_col (by omega) h0 (by omega), obind]
    by_cases q2 : c % L = 0
    · rw [if_pos ((eq0 (by omega)).mpr q2), if_pos ⟨q, q2⟩, k1]
    · rw [if_neg (fun z => q2 ((eq0 (by omega)).mp z)), if_neg (fun z => q2 z.2), k0]
  · rw [if_neg (fun z => q ((eq0 (by omega)).mp z)), if_neg (fun z => q z.1), k0]
theorem e_fill {n : Nat} {arr : Nat → Int64} (hn : n < 1000000) : ∃ arr' : Nat → Int64, m_J7_fill_d0a16 0 n arr = some arr' ∧ ∀ i, i < n → arr' i = nJ 0 := by
  unfold m_J7_fill_d0a16
  rw [nm_eq, ofN]
  refine lpUpE _ n (fun k s => ∃ g : Nat → Int64, s = (nI k, g) ∧ ∀ i, i < k → g i = nJ 0) (fun o => ∃ arr' : Nat → Int64, o = some arr' ∧ ∀ i, i < n → arr' i = nJ 0) ?_ ?_ hn 0 (Nat.zero_le n) _ ⟨arr, rfl, fun i hi => absurd hi (Nat.not_lt_zero i)⟩
  · intro k s rec hk hJ hrec
    obtain ⟨g, rfl, h1⟩ := hJ
    dsimp only
    unfold J7_fill_d0a16_f6
    rw [if_neg (nI_ge hk (by omega)), stJ_ok hk (by omega), nI_1]
    refine hrec _ ⟨_, rfl, fun i hi => ?_⟩
    unfold vp_updL
    by_cases q : i = k
    · rw [if_pos q]; rfl
    · rw [if_neg q]; exact h1 i (by omega)
  · intro s rec hJ
    obtain ⟨g, rfl, h1⟩ := hJ
    dsimp only
    unfold J7_fill_d0a16_f6
    rw [if_pos (nI_le (Nat.le_refl n) (by omega))]
    exact ⟨g, rfl, h1⟩
theorem pop4 {set : Nat} (h : exn set 0 24 ≤ 4) : 2 ^ exn set 0 24 ≤ 16 := Nat.pow_le_pow_right (show 0 < 2 by decide) h
theorem or_lt16 {set a c : Nat} (ha : a < 2 ^ exn set 0 24) (hc : c < 24) : a ||| mkc set c < 2 ^ exn set 0 24 := Nat.or_lt_two_pow ha (mkc_lt hc)
theorem e_countMinute {L G k set : Nat} {O : Nat → Nat} {a b : Nat} {arr arr2 : Nat → Int64} (h0 : 0 < L) (hL : L ≤ 8) (hC : L * G ≤ 24) (hO : ∀ t, O t < 2 ^ 24) (hset : set < 2 ^ 24) (hp : exn set 0 24 ≤ 4) (h : CA arr (NN L G O set k)) :
    ∃ arr' : Nat → Int64, m_X3_countMinute (nI set) (nI (O k)) (nI (O (k + 1))) a b arr arr2 (nI L) (nI G) = some (b, a, arr', arr) ∧ CA arr' (NN L G O set (k + 1)) := by
  obtain ⟨z0, hz0, hz⟩ := e_fill (n := 384) (arr := arr2) (by decide)
  have hp16 := pop4 hp
  have hor : O k ||| O (k + 1) < 2 ^ 24 := Nat.or_lt_two_pow (hO k) (hO (k + 1))
  unfold m_X3_countMinute
  rw [hz0, obind, e_bits hset, obind, shl1 (by omega), nm_eq]
  have hrow : ∀ c s', NN L G O set (k + 1) c s' = if c < L * G ∧ (O k ||| O (k + 1)).testBit c = false then sm (fun s => if s ||| mkc set c = s' then com L G (NN L G O set k) c s else 0) (2 ^ exn set 0 24) else 0 := fun _ _ => rfl
  generalize NN L G O set (k + 1) = N1 at hrow
  refine lpUpE _ (L * G) (fun c s => ∃ g : Nat → Int64, s = (nI c, g) ∧ (∀ d, d < c → ∀ u, u < 16 → g (d * 16 + u) = nJ (N1 d u)) ∧ ∀ d, c ≤ d → d < 24 → ∀ u, u < 16 → g (d * 16 + u) = nJ 0) (fun o => ∃ arr' : Nat → Int64, o = some (b, a, arr', arr) ∧ CA arr' N1) ?_ ?_ (by omega) 0 (by omega) _ ⟨z0, rfl, fun d hd => absurd hd (Nat.not_lt_zero d), fun d _ hd u hu => hz _ (by omega)⟩
  · intro c s rec hc hJ hrec
    obtain ⟨g, rfl, g1, g2⟩ := hJ
    dsimp only
    unfold X3_countMinute_f19
    rw [e_cells, obind, if_neg (nI_ge hc (by omega)), nI_or, e_hasBit hor (by omega), obind]
    cases z : (O k ||| O (k + 1)).testBit c with
    | true =>
      rw [bn_t z, if_neg (by decide)]
      unfold X3_countMinute_j111
      rw [nI_1]
      refine hrec _ ⟨g, rfl, fun d hd u hu => ?_, fun d hd hd2 u hu => g2 d (by omega) hd2 u hu⟩
      by_cases q : d = c
      · rw [q, hrow, if_neg (fun y => by rw [z] at y; exact absurd y.2 (by decide))]; exact g2 c (Nat.le_refl c) (by omega) u hu
      · exact g1 d (by omega) u hu
    | false =>
      have hmk := mkc_lt (set := set) (show c < 24 by omega)
      have inner : ∃ arr' : Nat → Int64, X3_countMinute_j66 (fun r0 r1 => rec (r0, r1)) (nI (2 ^ exn set 0 24)) (nI c) (nI (mkc set c)) arr g (nI L) (nI G) = some (b, a, arr', arr) ∧ CA arr' N1 := by
        unfold X3_countMinute_j66
        refine lpUpE _ (2 ^ exn set 0 24) (fun j s => ∃ g' : Nat → Int64, s = (nI j, g') ∧ (∀ d, d < c → ∀ u, u < 16 → g' (d * 16 + u) = nJ (N1 d u)) ∧ (∀ u, u < 16 → g' (c * 16 + u) = nJ (sm (fun s => if s ||| mkc set c = u then com L G (NN L G O set k) c s else 0) j)) ∧ ∀ d, c < d → d < 24 → ∀ u, u < 16 → g' (d * 16 + u) = nJ 0) (fun o => ∃ arr' : Nat → Int64, o = some (b, a, arr', arr) ∧ CA arr' N1) ?_ ?_ (by omega) 0 (by omega) _ ⟨g, rfl, g1, fun u hu => g2 c (Nat.le_refl c) (by omega) u hu, fun d hd hd2 u hu => g2 d (by omega) hd2 u hu⟩
        · intro j s rec2 hj hJ2 hrec2
          obtain ⟨g', rfl, y1, y2, y3⟩ := hJ2
          have hor2 := or_lt16 (set := set) hj (show c < 24 by omega)
          dsimp only
          unfold X3_countMinute_f71
          rw [if_neg (nI_ge hj (by omega)), e_coming h0 hL hC hc (by omega) h, obind, m16, nI_or, nI_add, e_add (by omega) (by decide), obind, nI_1]
          refine hrec2 _ ⟨_, rfl, fun d hd u hu => ?_, fun u hu => ?_, fun d hd hd2 u hu => ?_⟩
          · unfold vp_updL; rw [if_neg (by omega)]; exact y1 d hd u hu
          · unfold vp_updL
            rw [sm]
            by_cases q : u = j ||| mkc set c
            · rw [if_pos (by rw [q]), if_pos q.symm, y2 _ (by omega), nJ_add, q]
            · rw [if_neg (by omega), if_neg (fun t => q t.symm), y2 u hu, Nat.add_zero]
          · unfold vp_updL; rw [if_neg (by omega)]; exact y3 d hd hd2 u hu
        · intro s rec2 hJ2
          obtain ⟨g', rfl, y1, y2, y3⟩ := hJ2
          dsimp only
          unfold X3_countMinute_f71
          rw [if_pos (nI_le (Nat.le_refl _) (by omega))]
          unfold X3_countMinute_j111
          rw [nI_1]
          refine hrec _ ⟨g', rfl, fun d hd u hu => ?_, fun d hd hd2 u hu => y3 d (by omega) hd2 u hu⟩
          by_cases q : d = c
          · rw [q, hrow, if_pos ⟨hc, z⟩]; exact y2 u hu
          · exact y1 d (by omega) u hu
      rw [bn_f z, if_pos (by rfl), e_hasBit hset (by omega), obind]
      cases y : set.testBit c with
      | true =>
        have hm1 : set &&& (2 ^ c - 1) < 2 ^ 24 := Nat.lt_of_le_of_lt Nat.and_le_left hset
        have hk1 : exn set 0 c ≤ c := exn_le24
        have e1 : mkc set c = 2 ^ exn set 0 c := by unfold mkc; rw [if_pos y]
        rw [e1] at inner
        rw [bn_t y, if_neg (by decide), shl1 (by omega), nI_s1 (Nat.two_pow_pos c), nI_and, e_bits hm1, obind, exn_mask 24 (by omega), shl1 (by omega)]
        exact inner
      | false =>
        have e1 : mkc set c = 0 := by unfold mkc; rw [if_neg (by rw [y]; decide)]
        rw [e1] at inner
        rw [bn_f y, if_pos (by rfl)]
        exact inner
  · intro s rec hJ
    obtain ⟨g, rfl, g1, g2⟩ := hJ
    dsimp only
    unfold X3_countMinute_f19
    rw [e_cells, obind, if_pos (nI_le (Nat.le_refl _) (by omega))]
    refine ⟨g, rfl, fun d hd u hu => ?_⟩
    by_cases q : d < L * G
    · exact g1 d q u hu
    · rw [hrow, if_neg (fun t => q t.1)]; exact g2 d (by omega) hd u hu

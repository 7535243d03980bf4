/-! WAYS, MARKS: the class's countThrough. -/
def wans (L G : Nat) (O : Nat → Nat) (set n : Nat) : Nat := sm (fun r => NN L G O set (n - 1) (r * L + L - 1) (2 ^ exn set 0 24 - 1)) G
theorem e_through {L G s0 pc ns nc m nn set n : Nat} {hb wh : Nat → Nat} {s : (Nat → Nat) × Nat} {f e hc lc : Nat → Int32} {O : Nat → Nat} {pa pb : Nat} {arr arr2 : Nat → Int64} (P : PlOK L G s0 pc ns nc hb wh) (Hc : HcOK nc hb wh hc lc) (h : Sok (L * G) nn s) (hm : m < 2 ^ 10) (hnc : nc ≤ nn) (hn : nn ≤ 8) (hf : ∀ j, j < nn → f j = nI (s.1 j)) (hset : set < 2 ^ 24) (hp4 : exn set 0 24 ≤ 4) (hn1 : 1 ≤ n) (hn2 : n ≤ 20) (hO : ∀ t, om (rn (tk L s0 pc ns nc hb wh 99 nn) m s t).1 nn = O t) :
    ∃ p1 p2 o1 o2 o3 o4 o5 o6 o7, m_X3_countThrough (nI set) (nI n) pa pb arr arr2 (nI L) (nI G) (nI s0) (nI pc) (nI ns) (nI nc) hc lc (nI nn) (nI (om s.1 nn)) (nI s.2) (-9) (nI m) f e = some (nJ (wans L G O set n), p1, p2, o1, o2, o3, o4, o5, o6, o7) ∧ ((p1 = pa ∧ p2 = pb) ∨ (p1 = pb ∧ p2 = pa)) := by
  have P' := P
  obtain ⟨h0, hL, hG0, hG, hC, hs, hp0, hp, hns, hnc5, hb3, hwh⟩ := P'
  have hon := sok_rn (w := 99) (m := m) P hnc h
  obtain ⟨z0, hz0, hz⟩ := e_fill (n := 384) (arr := arr) (by decide)
  unfold m_X3_countThrough
  rw [hz0, obind]
  generalize hT : tk L s0 pc ns nc hb wh 99 nn = T at hon hO
  have hO24 : ∀ t, O t < 2 ^ 24 := fun t => by
    rw [← hO t]
    exact om_lt (fun j hj => Nat.lt_of_lt_of_le ((hon t).1.1 j hj) hC)
  have hp16 := pop4 hp4
  have hpp := Nat.two_pow_pos (exn set 0 24)
  refine lpUpE _ (n - 1) (fun k z => ∃ p1 p2 cnt cntg f' e', z = (nI (k + 1), p1, p2, cnt, cntg, nI (O k), nI (rn T m s k).2, nI (m + k), f', e') ∧ ((p1 = pa ∧ p2 = pb) ∨ (p1 = pb ∧ p2 = pa)) ∧ CA cnt (NN L G O set k) ∧ ∀ j, j < nn → f' j = nI ((rn T m s k).1 j)) (fun z => ∃ p1 p2 o1 o2 o3 o4 o5 o6 o7, z = some (nJ (wans L G O set n), p1, p2, o1, o2, o3, o4, o5, o6, o7) ∧ ((p1 = pa ∧ p2 = pb) ∨ (p1 = pb ∧ p2 = pa))) ?_ ?_ (by omega) 0 (by omega) _ ⟨pa, pb, z0, arr2, f, e, by rw [← hO 0]; rfl, Or.inl ⟨rfl, rfl⟩, fun c hc s hs => hz _ (by omega), hf⟩
  · intro k z rec hk hJ hrec
    obtain ⟨p1, p2, cnt, cntg, f', e', rfl, hpp, hca, z1⟩ := hJ
    obtain ⟨a3, f3, e3, z3, z4⟩ := e_pass9 (m := m + k) (e := e') P Hc (hon k) (by omega) hnc hn z1
    rw [hT, hO k] at z3
    rw [hT] at z4
    obtain ⟨arr', c1, c2⟩ := e_countMinute (a := p1) (b := p2) (arr2 := cntg) h0 hL hC hO24 hset hp4 hca
    dsimp only
    unfold X3_countThrough_f11
    rw [if_neg (nI_ge (by omega) (by omega)), z3, obind]
    dsimp only
    rw [show (T (m + k) (rn T m s k)) = rn T m s (k + 1) from rfl, hO (k + 1), c1, obind, nI_1]
    exact hrec _ ⟨p2, p1, arr', cnt, f3, e3, rfl, by omega, c2, z4⟩
  · intro z rec hJ
    obtain ⟨p1, p2, cnt, cntg, f', e', rfl, hpp2, hca, z1⟩ := hJ
    dsimp only
    unfold X3_countThrough_f11
    rw [if_pos (nI_le (by omega) (by omega))]
    dsimp only
    rw [e_bits hset, obind, shl1 (by omega), nI_s1 hpp, nm_eq]
    refine lpUpE _ G (fun k z => z = (nJ (sm (fun r => NN L G O set (n - 1) (r * L + L - 1) (2 ^ exn set 0 24 - 1)) k), nI k)) (fun z => ∃ p1 p2 o1 o2 o3 o4 o5 o6 o7, z = some (nJ (wans L G O set n), p1, p2, o1, o2, o3, o4, o5, o6, o7) ∧ ((p1 = pa ∧ p2 = pb) ∨ (p1 = pb ∧ p2 = pa))) ?_ ?_ (by omega) 0 (by omega) _ rfl
    · intro k z rec2 hk hJ2 hrec2
      subst hJ2
      have hcell : k * L + L ≤ L * G := by
        have := Nat.mul_le_mul_left L (show k + 1 ≤ G from hk)
        rw [Nat.mul_add, Nat.mul_comm L k] at this
        omega
      dsimp only
      unfold X3_countThrough_f64
      rw [if_neg (nI_ge hk (by omega)), nI_mul, nI_add, nI_s1 (by omega), e_countAt (by omega) (by omega) hca, obind, nJ_add, nm_eq, nI_1]
      exact hrec2 _ rfl
    · intro z rec2 hJ2
      subst hJ2
      dsimp only
      unfold X3_countThrough_f64
      rw [if_pos (nI_le (Nat.le_refl G) (by omega))]
      exact ⟨_, _, _, _, _, _, _, _, _, rfl, hpp2⟩
-- ===== sums
theorem sm_congr {f g : Nat → Nat} : ∀ {n : Nat}, (∀ i, i < n → f i = g i) → sm f n = sm g n
  | 0, _ => rfl
  | n + 1, h => by rw [sm, sm, sm_congr (fun i hi => h i (by omega)), h n (by omega)]
theorem sm_zero {f : Nat → Nat} {n : Nat} (h : ∀ i, i < n → f i = 0) : sm f n = 0 := by
  induction n with
  | zero => rfl
  | succ n ih => rw [sm, ih (fun i hi => h i (by omega)), h n (by omega)]
theorem sm_plus {f g : Nat → Nat} : ∀ n, sm (fun i => f i + g i) n = sm f n + sm g n
  | 0 => rfl
  | n + 1 => by rw [sm, sm, sm, sm_plus n]; omega
theorem sm_swap {f : Nat → Nat → Nat} {b : Nat} : ∀ a, sm (fun i => sm (f i) b) a = sm (fun j => sm (fun i => f i j) a) b
  | 0 => (sm_zero (fun _ _ => rfl)).symm
  | a + 1 => by
    rw [sm, sm_swap a, ← sm_plus]
    exact sm_congr (fun _ _ => rfl)
theorem sm_one {f : Nat → Nat} {n a : Nat} (ha : a < n) (h : ∀ i, i < n → ¬ i = a → f i = 0) : sm f n = f a := by
  induction n with
  | zero => exact absurd ha (Nat.not_lt_zero a)
  | succ n ih =>
    rw [sm]
    by_cases q : a = n
    · subst q
      rw [sm_zero (fun i hi => h i (by omega) (by omega))]; omega
    · rw [ih (by omega) (fun i hi => h i (by omega)), h n (by omega) (by omega)]; omega
theorem sm_le {f g : Nat → Nat} : ∀ {n : Nat}, (∀ i, i < n → f i ≤ g i) → sm f n ≤ sm g n
  | 0, _ => Nat.le_refl _
  | n + 1, h => by
    rw [sm, sm]
    have := sm_le (n := n) (fun i hi => h i (by omega))
    have := h n (by omega)
    omega
theorem sm_const {c : Nat} : ∀ n, sm (fun _ => c) n = n * c
  | 0 => by rw [sm, Nat.zero_mul]
  | n + 1 => by rw [sm, sm_const n, Nat.add_mul]; omega
theorem sm_ge {f : Nat → Nat} {n a : Nat} (ha : a < n) : f a ≤ sm f n := by
  induction n with
  | zero => exact absurd ha (Nat.not_lt_zero a)
  | succ n ih =>
    rw [sm]
    by_cases q : a = n
    · subst q; omega
    · have := ih (by omega); omega
theorem sm_ext {f : Nat → Nat} {a : Nat} : ∀ d, (∀ i, a ≤ i → f i = 0) → sm f (a + d) = sm f a
  | 0, _ => rfl
  | d + 1, h => by rw [← Nat.add_assoc, sm, sm_ext d h, h _ (Nat.le_add_right a d), Nat.add_zero]
-- ===== how many at most
theorem nn_sum {L G set k c : Nat} {O : Nat → Nat} (hc : c < 24) : sm (fun s => NN L G O set (k + 1) c s) 16 ≤ sm (fun s => com L G (NN L G O set k) c s) (2 ^ exn set 0 24) := by
  have e1 : ∀ s', NN L G O set (k + 1) c s' ≤ sm (fun s => if s ||| mkc set c = s' then com L G (NN L G O set k) c s else 0) (2 ^ exn set 0 24) := fun s' => by
    show (if c < L * G ∧ (O k ||| O (k + 1)).testBit c = false then sm (fun s => if s ||| mkc set c = s' then com L G (NN L G O set k) c s else 0) (2 ^ exn set 0 24) else 0) ≤ _
    split
    · exact Nat.le_refl _
    · exact Nat.zero_le _
  refine Nat.le_trans (sm_le (fun s _ => e1 s)) ?_
  rw [sm_swap]
  refine sm_le (fun s _ => ?_)
  by_cases q : s ||| mkc set c < 16
  · rw [sm_one q (fun i hi hne => if_neg (fun z => hne z.symm)), if_pos rfl]; exact Nat.le_refl _
  · rw [sm_zero (fun i hi => if_neg (fun z => q (by omega)))]; exact Nat.zero_le _
theorem nn_le {L G set : Nat} {O : Nat → Nat} (hC : L * G ≤ 24) (h0 : 0 < L) (hp : exn set 0 24 ≤ 4) : ∀ k c, c < 24 → sm (fun s => NN L G O set k c s) 16 + 1 ≤ 6 ^ k
  | 0, c, _ => by rw [sm_zero (f := fun s => NN L G O set 0 c s) (fun i hi => rfl)]; exact Nat.le_refl _
  | k + 1, c, hc => by
    by_cases hcC : c < L * G
    · have h1 := nn_sum (L := L) (G := G) (set := set) (k := k) (O := O) hc
      have hp16 := pop4 hp
      have h2 : sm (fun s => com L G (NN L G O set k) c s) (2 ^ exn set 0 24) ≤ sm (fun s => com L G (NN L G O set k) c s) 16 := by
        obtain ⟨d, hd⟩ := Nat.le.dest hp16
        rw [← hd]
        have : ∀ d, sm (fun s => com L G (NN L G O set k) c s) (2 ^ exn set 0 24) ≤ sm (fun s => com L G (NN L G O set k) c s) (2 ^ exn set 0 24 + d) := by
          intro d
          induction d with
          | zero => exact Nat.le_refl _
          | succ d ih => rw [← Nat.add_assoc, sm]; omega
        exact this d
      have h3 : sm (fun s => com L G (NN L G O set k) c s) 16 ≤ 1 + 5 * (6 ^ k - 1) := by
        unfold com
        rw [sm_plus, sm_swap]
        have a1 : sm (fun s => if s = 0 ∧ c % L = 0 then 1 else 0) 16 ≤ 1 := by
          rw [sm_one (a := 0) (by decide) (fun i hi hne => if_neg (fun z => hne z.1))]
          split <;> omega
        have a2 : ∀ h, h < 5 → sm (fun s => if cb L G c h = 99 then 0 else NN L G O set k (cb L G c h) s) 16 ≤ 6 ^ k - 1 := by
          intro h hh
          by_cases q : cb L G c h = 99
          · rw [sm_zero (fun i hi => if_pos q)]; exact Nat.zero_le _
          · have hz : cb L G c h < L * G := by rcases cb_lt (h := h) h0 hcC with z | z; exact absurd z q; exact z
            have := nn_le hC h0 hp k (O := O) (cb L G c h) (by omega)
            rw [sm_congr (g := fun s => NN L G O set k (cb L G c h) s) (fun i hi => if_neg q)]
            omega
        have a3 := sm_le (n := 5) a2
        rw [sm_const] at a3
        omega
      have h4 : 0 < 6 ^ k := Nat.pow_pos (by decide)
      rw [Nat.pow_succ]
      omega
    · have : sm (fun s => NN L G O set (k + 1) c s) 16 = 0 := sm_zero (fun s hs => by
        show (if c < L * G ∧ (O k ||| O (k + 1)).testBit c = false then _ else 0) = 0
        rw [if_neg (fun z => hcC z.1)])
      rw [this]
      exact Nat.pow_pos (by decide)
theorem nn_lt {L G set k c s : Nat} {O : Nat → Nat} (hC : L * G ≤ 24) (h0 : 0 < L) (hp : exn set 0 24 ≤ 4) (hk : k ≤ 20) (hc : c < 24) (hs : s < 16) : NN L G O set k c s < 2 ^ 63 := by
  have h1 := nn_le (O := O) hC h0 hp k c hc
  have h2 : NN L G O set k c s ≤ sm (fun s => NN L G O set k c s) 16 := sm_ge (f := fun s => NN L G O set k c s) hs
  have h3 : 6 ^ k ≤ 6 ^ 20 := Nat.pow_le_pow_right (by decide) hk
  have h4 : (6 : Nat) ^ 20 < 2 ^ 63 := by decide +kernel
  omega
/-- only so many marks can be seen -/
theorem nn_zero {L G set c s : Nat} {O : Nat → Nat} (hc : c < 24) (hs : 2 ^ exn set 0 24 ≤ s) : ∀ k, NN L G O set k c s = 0
  | 0 => rfl
  | k + 1 => by
    show (if c < L * G ∧ (O k ||| O (k + 1)).testBit c = false then sm (fun s' => if s' ||| mkc set c = s then com L G (NN L G O set k) c s' else 0) (2 ^ exn set 0 24) else 0) = 0
    rw [sm_zero (fun i hi => if_neg (fun z => by have := or_lt16 (set := set) hi hc; omega))]
    split <;> rfl

/-! WAYS, MARKS in the reference: goesOver. -/
def tgt (L G pl h : Nat) : Nat := if pl = 24 then (if h = 8 then 24 else if 5 ≤ h ∧ h ≤ 4 + G then L * (h - 5) else 100) else if h ≤ 4 then (if cb L G pl h = 99 then (if h = 0 then 99 else 100) else cb L G pl h) else 100
/-- the index of the table that a step adds to; 1000: none -/
def ti (L G : Nat) (O : Nat → Nat) (set t pl s h : Nat) : Nat := if tgt L G pl h = 24 then 384 + s else if tgt L G pl h < 24 ∧ (O t ||| O (t + 1)).testBit (tgt L G pl h) = false then 16 * tgt L G pl h + (s ||| mkc set (tgt L G pl h)) else 1000
theorem k384 (k : Nat) : (384 : Int32) + nI k = nI (384 + k) := nI_add 384 k
theorem k16 (k : Nat) : (16 : Int32) * nI k = nI (16 * k) := nI_mul 16 k
theorem e_markOf {c set : Nat} (hc : c < 24) (hs : set < 2 ^ 24) : m_X5_markOf (nI c) (nI set) = some (nI (mkc set c)) := by
  unfold m_X5_markOf
  refine lpUp _ _ c (fun k => (nI (exn set 0 k), nI k)) ?_ ?_ (by omega) 0 (by omega)
  · intro k rec hk hr
    dsimp only at hr ⊢
    unfold X5_markOf_f4
    rw [if_neg (nI_ge hk (by omega)), shr1 (by omega) (by omega), bit1, nI_add, nm_eq, nI_1]
    have e1 : exn set 0 k + bn set k = exn set 0 (k + 1) := by
      have e2 : exn set 0 (k + 1) = if set.testBit k = true then exn set 0 k + 1 else exn set 0 k := rfl
      rw [e2]; unfold bn; split <;> rfl
    rw [e1]
    exact hr
  · intro rec
    dsimp only
    unfold X5_markOf_f4
    have hk1 : exn set 0 c ≤ c := exn_le24
    rw [if_pos (nI_le (Nat.le_refl c) (by omega))]
    dsimp only
    rw [e_has (by omega) (by omega), obind, shl1 (by omega)]
    unfold mkc
    cases z : set.testBit c with
    | true => rw [bn_t z, if_neg (by decide), if_pos rfl]
    | false => rw [bn_f z, if_pos (by rfl), if_neg (by decide)]; rfl
theorem e_goesOver {L G set t pl s V : Nat} {O : Nat → Nat} {tq : Nat → Int32} {wys th : Nat → Int64} (h0 : 0 < L) (hL : L ≤ 8) (hC : L * G ≤ 24) (hG : G ≤ 3) (ht : t < 40) (hO : ∀ t, O t < 2 ^ 24) (hq : ∀ t, t < 41 → tq t = nI (O t)) (hset : set < 2 ^ 24) (hp : exn set 0 24 ≤ 4) (hpl : pl < L * G ∨ pl = 24) (hs : s < 2 ^ exn set 0 24) (hV : wys (16 * pl + s) = nJ V) :
    ∃ th' : Nat → Int64, m_X5_goesOver (nI t) (nI pl) (nI s) (nI set) (nI G) (nI L) tq wys th = some ((if tgt L G pl 0 = 99 then nI s else -9), th') ∧ ∀ i, i < 400 → th' i = th i + nJ (sm (fun h => if ti L G O set t pl s h = i then V else 0) 9) := by
  have hp16 := pop4 hp
  unfold m_X5_goesOver
  rw [k16, nI_add, ld_ok (by omega) (by decide), hV]
  refine lpUpE _ 9 (fun k z => ∃ g : Nat → Int64, z = ((if 0 < k ∧ tgt L G pl 0 = 99 then nI s else -9), nI k, g) ∧ ∀ i, i < 400 → g i = th i + nJ (sm (fun h => if ti L G O set t pl s h = i then V else 0) k)) (fun o => ∃ th' : Nat → Int64, o = some ((if tgt L G pl 0 = 99 then nI s else -9), th') ∧ ∀ i, i < 400 → th' i = th i + nJ (sm (fun h => if ti L G O set t pl s h = i then V else 0) 9)) ?_ ?_ (by decide) 0 (by decide) _ ⟨th, by rw [if_neg (fun q => absurd q.1 (Nat.lt_irrefl 0))]; rfl, fun i hi => (Int64.add_zero _).symm⟩
  · intro k z rec hk hJ hrec
    obtain ⟨g, rfl, g1⟩ := hJ
    dsimp only
    generalize hx : (if 0 < k ∧ tgt L G pl 0 = 99 then nI s else (-9 : Int32)) = x7
    have hx1 : ¬ (k = 0 ∧ tgt L G pl 0 = 99) → (if 0 < k + 1 ∧ tgt L G pl 0 = 99 then nI s else (-9 : Int32)) = x7 := by
      intro q
      rw [← hx]
      by_cases y : tgt L G pl 0 = 99
      · rw [if_pos ⟨by omega, y⟩, if_pos ⟨by omega, y⟩]
      · rw [if_neg (fun z => y z.2), if_neg (fun z => y z.2)]
    -- nothing is added
    have none9 : ti L G O set t pl s k = 1000 → ∀ x, x = (if 0 < k + 1 ∧ tgt L G pl 0 = 99 then nI s else (-9 : Int32)) → ∃ th' : Nat → Int64, X5_goesOver_j197 (fun r0 r1 r2 => rec (r0, r1, r2)) x (nI k) g = some ((if tgt L G pl 0 = 99 then nI s else -9), th') ∧ ∀ i, i < 400 → th' i = th i + nJ (sm (fun h => if ti L G O set t pl s h = i then V else 0) 9) := by
      intro hti x hxx
      subst hxx
      unfold X5_goesOver_j197
      rw [nI_1]
      refine hrec _ ⟨g, rfl, fun i hi => ?_⟩
      rw [sm, if_neg (by omega), Nat.add_zero]
      exact g1 i hi
    -- the count goes to the index a
    have adds : ∀ a, a < 400 → ti L G O set t pl s k = a → ¬ (k = 0 ∧ tgt L G pl 0 = 99) → ∃ th' : Nat → Int64, X5_goesOver_j197 (fun r0 r1 r2 => rec (r0, r1, r2)) x7 (nI k) (vp_updL g a (g a + nJ V)) = some ((if tgt L G pl 0 = 99 then nI s else -9), th') ∧ ∀ i, i < 400 → th' i = th i + nJ (sm (fun h => if ti L G O set t pl s h = i then V else 0) 9) := by
      intro a ha hti hno
      unfold X5_goesOver_j197
      rw [nI_1]
      refine hrec _ ⟨_, by rw [hx1 hno], fun i hi => ?_⟩
      rw [sm]
      unfold vp_updL
      by_cases q : i = a
      · rw [if_pos q, if_pos (by rw [hti, q]), g1 a ha, Int64.add_assoc, nJ_add, q]
      · rw [if_neg q, if_neg (by rw [hti]; exact fun e => q e.symm), Nat.add_zero]
        exact g1 i hi
    -- a cell
    have cell : ∀ z, z < L * G → tgt L G pl k = z → ∃ th' : Nat → Int64, X5_goesOver_j130 (fun r0 r1 r2 => rec (r0, r1, r2)) (nI t) (nI s) (nI set) (nJ V) x7 (nI k) (nI z) tq g = some ((if tgt L G pl 0 = 99 then nI s else -9), th') ∧ ∀ i, i < 400 → th' i = th i + nJ (sm (fun h => if ti L G O set t pl s h = i then V else 0) 9) := by
      intro z hz htz
      have hno : ¬ (k = 0 ∧ tgt L G pl 0 = 99) := fun y => by rw [y.1, y.2] at htz; omega
      unfold X5_goesOver_j130
      rw [if_neg (fun y => by have := (eq24 (by omega)).mp y; omega), if_neg (m9_ne (by omega)), e_mayCome ht (by omega) hO hq, obind]
      cases y : (O t ||| O (t + 1)).testBit z with
      | true =>
        rw [if_pos rfl, if_pos rfl]
        exact none9 (by unfold ti; rw [htz, if_neg (by omega), if_neg (fun q => by rw [y] at q; exact absurd q.2 (by decide))]) _ (hx1 hno).symm
      | false =>
        have hor := or_lt16 (set := set) hs (show z < 24 by omega)
        rw [if_neg (by decide), e_markOf (by omega) hset, obind, k16, nI_or, nI_add, ld_ok (by omega) (by decide), stJ_ok (by omega) (by decide)]
        exact adds (16 * z + (s ||| mkc set z)) (by omega) (by unfold ti; rw [htz, if_neg (by omega), if_pos ⟨by omega, y⟩]) hno
    have nine : tgt L G pl k = 100 → ∃ th' : Nat → Int64, X5_goesOver_j130 (fun r0 r1 r2 => rec (r0, r1, r2)) (nI t) (nI s) (nI set) (nJ V) x7 (nI k) (-9) tq g = some ((if tgt L G pl 0 = 99 then nI s else -9), th') ∧ ∀ i, i < 400 → th' i = th i + nJ (sm (fun h => if ti L G O set t pl s h = i then V else 0) 9) := by
      intro htz
      unfold X5_goesOver_j130
      rw [if_neg (by decide), if_pos rfl]
      exact none9 (by unfold ti; rw [htz, if_neg (by decide), if_neg (by omega)]) _ (hx1 (fun y => by rw [y.1, y.2] at htz; omega)).symm
    unfold X5_goesOver_f20
    rw [if_neg (fun q => by have := (le9 (by omega)).mp q; omega)]
    by_cases h24 : pl = 24
    · subst h24
      rw [if_pos (by rfl)]
      by_cases q8 : k = 8
      · have e1 : tgt L G 24 k = 24 := by unfold tgt; rw [if_pos rfl, if_pos q8]
        rw [if_pos ((eq8 (by omega)).mpr q8)]
        unfold X5_goesOver_j99
        rw [if_pos (by rfl)]
        unfold X5_goesOver_j130
        rw [if_pos rfl, k384, ld_ok (by omega) (by decide), stJ_ok (by omega) (by decide)]
        exact adds (384 + s) (by omega) (by unfold ti; rw [if_pos e1]) (by omega)
      · rw [if_neg (fun q => q8 ((eq8 (by omega)).mp q)), a4, in5 (by omega) (by omega), obind]
        by_cases q5 : 5 ≤ k ∧ k ≤ 4 + G
        · have hz : L * (k - 5) < L * G := Nat.mul_lt_mul_of_pos_left (by omega) h0
          rw [if_pos q5, if_neg (by decide), s5 q5.1, nI_mul]
          unfold X5_goesOver_j99
          rw [if_pos (by rfl)]
          exact cell _ hz (by unfold tgt; rw [if_pos rfl, if_neg q8, if_pos q5])
        · rw [if_neg q5, if_pos rfl]
          unfold X5_goesOver_j99
          rw [if_pos (by rfl)]
          exact nine (by unfold tgt; rw [if_pos rfl, if_neg q8, if_neg q5])
    · have hcC : pl < L * G := by omega
      have np : ¬ nI pl = (24 : Int32) := fun q => h24 ((eq24 (by omega)).mp q)
      rw [if_neg np]
      by_cases q4 : k ≤ 4
      · rw [in04y q4, obind, if_neg (show ¬ (1 : Int32) = 0 by decide), e_comesTo h0 hL hC hcC q4, obind]
        unfold X5_goesOver_j99
        rw [if_neg np]
        by_cases q9 : cb L G pl k = 99
        · unfold cbM
          rw [if_pos q9]
          by_cases k0 : k = 0
          · have e1 : tgt L G pl k = 99 := by unfold tgt; rw [if_neg h24, if_pos q4, if_pos q9, if_pos k0]
            rw [if_pos (Or.inl k0), if_pos rfl, if_pos ((eq0 (by omega)).mpr k0)]
            unfold X5_goesOver_j125
            exact none9 (by unfold ti; rw [e1, if_neg (by decide), if_neg (by omega)]) _ (by rw [if_pos ⟨by omega, by rw [← k0]; exact e1⟩])
          · have e1 : tgt L G pl k = 100 := by unfold tgt; rw [if_neg h24, if_pos q4, if_pos q9, if_neg k0]
            by_cases k3 : k = 0 ∨ k = 3
            · rw [if_pos k3, if_pos rfl, if_neg (fun q => k0 ((eq0 (by omega)).mp q))]
              unfold X5_goesOver_j125
              exact none9 (by unfold ti; rw [e1, if_neg (by decide), if_neg (by omega)]) _ (hx1 (fun y => k0 y.1)).symm
            · rw [if_neg k3, if_neg (by decide)]
              exact nine e1
        · have hz : cb L G pl k < L * G := by rcases cb_lt (h := k) h0 hcC with z | z; exact absurd z q9; exact z
          unfold cbM
          rw [if_neg q9, if_neg (fun q => by have := (eq24 (by omega)).mp q; omega)]
          exact cell _ hz (by unfold tgt; rw [if_neg h24, if_pos q4, if_neg q9])
      · rw [in04n (by omega) q4, obind, if_pos rfl]
        unfold X5_goesOver_j99
        rw [if_neg np, if_neg (by decide)]
        exact nine (by unfold tgt; rw [if_neg h24, if_neg q4])
  · intro z rec hJ
    obtain ⟨g, rfl, g1⟩ := hJ
    dsimp only
    unfold X5_goesOver_f20
    rw [if_pos ((le9 (by decide)).mpr (Nat.le_refl 9))]
    refine ⟨g, ?_, g1⟩
    by_cases y : tgt L G pl 0 = 99
    · rw [if_pos ⟨by decide, y⟩, if_pos y]
    · rw [if_neg (fun q => y q.2), if_neg y]

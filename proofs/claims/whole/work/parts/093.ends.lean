/-! READING: the whole text on both sides. -/
theorem lpT2 {σ τ ρ π : Type} (F1 : (σ → Option ρ) → σ → Option ρ) (F2 : (τ → Option π) → τ → Option π) (J : Nat → σ → τ → Prop) (P : Option ρ → Option π → Prop) (h : ∀ (k : Nat) (s : σ) (t : τ) (r1 : σ → Option ρ) (r2 : τ → Option π), J k s t → (∀ k' s' t', k' < k → J k' s' t' → P (r1 s') (r2 t')) → P (F1 r1 s) (F2 r2 t)) (k : Nat) (s : σ) (t : τ) (hk : k < 1000000) (hJ : J k s t) : P (lpN F1 fz s) (lpN F2 fz t) := by
  have key : ∀ (m k : Nat) (s : σ) (t : τ), k < m → J k s t → P (lpN F1 m s) (lpN F2 m t) := by
    intro m
    induction m with
    | zero => intro k s t hm; exact absurd hm (Nat.not_lt_zero _)
    | succ m ih =>
      intro k s t hm hJ
      show P (F1 (lpN F1 m) s) (F2 (lpN F2 m) t)
      exact h k s t _ _ hJ (fun k' s' t' hk' hJ' => ih k' s' t' (by omega) hJ')
  exact key fz k s t (by have := fz_ge; omega) hJ
theorem e_start {nc : Nat} {c : Nat → Nat} {S ce ea : Nat → Int32} (hnc : nc ≤ 5) (hc : ∀ j, j < nc → c j < 31) (hS : ∀ j, j < nc → S j = nI (c j)) : ∃ ce' ea', m_X2_startAs ce ea (nI nc) S = some (nI nc, nI (om c nc), 0, (-9), 0, 0, ce', ea') ∧ (∀ j, j < nc → ce' j = nI (c j)) ∧ ∀ j, j < nc → ea' j = 0 := by
  unfold m_X2_startAs
  refine lpUpE _ nc (fun k st => ∃ ce' ea' : Nat → Int32, st = (nI k, nI k, nI (om c k), ce', ea') ∧ (∀ j, j < k → ce' j = nI (c j)) ∧ ∀ j, j < k → ea' j = 0) (fun o => ∃ ce' ea' : Nat → Int32, o = some (nI nc, nI (om c nc), 0, (-9), 0, 0, ce', ea') ∧ (∀ j, j < nc → ce' j = nI (c j)) ∧ ∀ j, j < nc → ea' j = 0) ?_ ?_ (by omega) 0 (by omega) _ ⟨ce, ea, rfl, fun j hj => absurd hj (Nat.not_lt_zero j), fun j hj => absurd hj (Nat.not_lt_zero j)⟩
  · intro k st rec hk hJ hrec
    obtain ⟨ce', ea', rfl, h1, h2⟩ := hJ
    dsimp only
    unfold X2_startAs_f33
    rw [if_neg (nI_ge hk (by omega))]
    unfold m_X0_startOf
    rw [e_entry (by omega) (by decide), obind, obind, hS k hk, e_addCat (by omega) (hc k hk), obind, nI_1]
    refine hrec _ ⟨upd ce' k (nI (c k)), upd ea' k 0, rfl, fun j hj => ?_, fun j hj => ?_⟩
    · by_cases q : j = k
      · rw [q, uq_eq]
      · rw [uq_ne q]; exact h1 j (by omega)
    · by_cases q : j = k
      · rw [q, uq_eq]
      · rw [uq_ne q]; exact h2 j (by omega)
  · intro st rec hJ
    obtain ⟨ce', ea', rfl, h1, h2⟩ := hJ
    dsimp only
    unfold X2_startAs_f33
    rw [if_pos (nI_le (Nat.le_refl nc) (by omega))]
    exact ⟨ce', ea', rfl, h1, h2⟩
abbrev CAq := Int32 × Int32 × Int32 × Int32 × Int32 × Int32 × Int32 × Int32 × Int32 × Int32 × Int32 × Int32 × Int32 × Int32 × Int32 × (Nat → Int32) × (Nat → Int32) × (Nat → Int32)
abbrev RB := Int32 × Int32 × Int32 × Int32 × Int32 × Int32 × Int32 × Int32 × Int32 × Int32 × Int32 × Int32 × Int64 × Int32 × Int32 × Int32 × Int32 × Int32 × Int32 × Int32 × Int32 × Int32 × (Nat → Int32) × (Nat → Int32) × (Nat → Int32) × (Nat → Int32) × (Nat → Int32) × (Nat → Int32) × (Nat → Int32)
def EBad (wide len cats sun pace nose n : Int32) (ha wo st ke : Nat → Int32) (q : CAq) (r : RB) : Prop := ∃ (f : Nat), f ≤ 200 ∧ q.1 = -10 - nI f ∧ ∃ (c2 c3 c4 c5 c6 c7 c8 c9 d1 d2 d3 d4 d5 : Int32) (w : Int64) (B1 B2 B3 : Nat → Int32), r = (-10 - nI f, wide, len, cats, sun, pace, nose, n, c2, c3, c4, c5, w, c6, c7, c8, c9, d1, d2, d3, d4, d5, ha, wo, st, ke, B1, B2, B3)
/-- the scene's numbers at the start, as the reference keeps them -/
def ST0 (nc : Nat) (c : Nat → Nat) (st : Nat → Int32) : Prop := st 0 = 0 ∧ st 1 = -9 ∧ st 2 = 0 ∧ st 3 = 0 ∧ (∀ j, j < nc → st (4 + j) = nI (c j)) ∧ ∀ j, j < nc → st (9 + j) = 0
def EGood (q : CAq) (r : RB) : Prop := ∃ (it L G s0 pc ns nc : Nat) (c hb wh : Nat → Nat) (a1 a2 a3 a4 a5 a6 a7 a8 c2 c3 c4 c5 d4 d5 : Int32) (w : Int64) (S H W S' H' W' ha wo st ke : Nat → Int32), it ≤ 200 ∧ q = (nI it, a1, a2, a3, a4, a5, nI L, nI G, nI s0, nI pc, nI ns, nI nc, a6, a7, a8, S, H, W) ∧ r = (nI it, nI G, nI L, nI nc, nI s0, nI pc, nI ns, 0, c2, c3, c4, c5, w, 0, nI L, nI G, nI nc, nI s0, nI pc, nI ns, d4, d5, ha, wo, st, ke, H', W', S') ∧ PB L G s0 pc ns nc c hb wh ∧ AR nc c hb wh S H W ∧ AR nc c hb wh S' ha wo ∧ ST0 nc c st ∧ ke 0 = 0 ∧ ke 1 = 0
theorem r_bad {x wide len cats sun pace nose n c2 c3 c4 c8 c9 d1 d2 d3 d4 d5 d6 : Int32} {f : Nat} {w : Int64} {ha wo st ke H W S : Nat → Int32} {q : CAq} (hf : f ≤ 200) (hq : q.1 = -10 - nI f) : ∃ r, X5_bridge_j89 x wide len cats sun pace nose n c2 (nI f) c3 c4 w 1 c8 c9 d1 d2 d3 d4 d5 d6 ha wo st ke H W S = some r ∧ EBad wide len cats sun pace nose n ha wo st ke q r := by
  unfold X5_bridge_j89
  rw [if_neg (by decide)]
  exact ⟨_, rfl, f, hf, hq, _, _, _, _, _, _, _, _, _, _, _, _, _, _, _, _, _, rfl⟩
theorem r_good {it L G s0 pc ns nc : Nat} {c hb wh : Nat → Nat} {wide len cats sun pace nose n c2 c3 c4 c5 d5 d6 a1 a2 a3 a4 a5 a6 a7 a8 : Int32} {w : Int64} {ha wo st ke H' W' S' S H W : Nat → Int32} (hit : it ≤ 200) (P : PB L G s0 pc ns nc c hb wh) (X1 : AR nc c hb wh S H W) (X2 : AR nc c hb wh S' H' W') : ∃ r, X5_bridge_j89 (nI it) wide len cats sun pace nose n c2 c3 c4 c5 w 0 (nI L) (nI G) (nI nc) (nI s0) (nI pc) (nI ns) d5 d6 ha wo st ke H' W' S' = some r ∧ EGood (nI it, a1, a2, a3, a4, a5, nI L, nI G, nI s0, nI pc, nI ns, nI nc, a6, a7, a8, S, H, W) r := by
  have hnc : nc ≤ 5 := P.2.2.2.2.2.2.2.2.1
  unfold X5_bridge_j89
  rw [if_pos rfl]
  refine lpUpE _ 14 (fun k s => ∃ g : Nat → Int32, s = (nI k, g) ∧ ∀ j, j < k → g j = 0) (fun o => ∃ r, o = some r ∧ EGood (nI it, a1, a2, a3, a4, a5, nI L, nI G, nI s0, nI pc, nI ns, nI nc, a6, a7, a8, S, H, W) r) ?_ ?_ (by omega) 0 (by omega) _ ⟨st, rfl, fun j hj => absurd hj (Nat.not_lt_zero j)⟩
  · intro k s rec hk hJ hrec
    obtain ⟨g, rfl, hg⟩ := hJ
    dsimp only
    unfold X5_bridge_f154
    rw [if_neg (show ¬ (14 : Int32) ≤ nI k from nI_ge (b := 14) hk (by omega)), st_ok hk (by decide), nI_1]
    refine hrec _ ⟨upd g k 0, rfl, fun j hj => ?_⟩
    by_cases q : j = k
    · rw [q, uq_eq]
    · rw [uq_ne q]; exact hg j (by omega)
  · intro s rec hJ
    obtain ⟨g0, rfl, hg⟩ := hJ
    dsimp only
    unfold X5_bridge_f154
    rw [if_pos (show (14 : Int32) ≤ nI 14 from nI_le (a := 14) (Nat.le_refl 14) (by decide))]
    dsimp only
    rw [show ∀ g : (Nat → Int32) → Option RB, stI 14 g0 1 (-9) g = g (upd g0 1 (-9)) from fun g => st_ok (i := 1) (by decide) (by decide)]
    refine lpUpE _ nc (fun k s => ∃ h1 h2 g' : Nat → Int32, s = (nI k, h1, h2, g') ∧ (∀ j, j < k → h1 j = H' j ∧ h2 j = W' j ∧ g' (4 + j) = S' j) ∧ g' 0 = 0 ∧ g' 1 = -9 ∧ g' 2 = 0 ∧ g' 3 = 0 ∧ ∀ j, j < 5 → g' (9 + j) = 0) (fun o => ∃ r, o = some r ∧ EGood (nI it, a1, a2, a3, a4, a5, nI L, nI G, nI s0, nI pc, nI ns, nI nc, a6, a7, a8, S, H, W) r) ?_ ?_ (by omega) 0 (by omega) _ ⟨ha, wo, upd g0 1 (-9), rfl, fun j hj => absurd hj (Nat.not_lt_zero j), ?_, uq_eq, ?_, ?_, fun j hj => ?_⟩
    · intro k s rec hk hJ hrec
      obtain ⟨h1, h2, g', rfl, h3, g0, g1, g2, g3, g9⟩ := hJ
      dsimp only
      unfold X5_bridge_f183
      rw [if_neg (nI_ge hk (by omega)), ld_ok (by omega) (by decide), st_ok (by omega) (by decide), ld_ok (by omega) (by decide), st_ok (by omega) (by decide), ld_ok (by omega) (by decide), show (4 : Int32) + nI k = nI (4 + k) from nI_add 4 k, st_ok (by omega) (by decide), nI_1]
      refine hrec _ ⟨_, _, _, rfl, fun j hj => ?_, ?_, ?_, ?_, ?_, fun j hj => ?_⟩
      · by_cases q : j = k
        · rw [q, uq_eq, uq_eq, uq_eq]; exact ⟨rfl, rfl, rfl⟩
        · rw [uq_ne q, uq_ne q, uq_ne (by omega)]; exact h3 j (by omega)
      · rw [uq_ne (by omega)]; exact g0
      · rw [uq_ne (by omega)]; exact g1
      · rw [uq_ne (by omega)]; exact g2
      · rw [uq_ne (by omega)]; exact g3
      · rw [uq_ne (by omega)]; exact g9 j hj
    · intro s rec hJ
      obtain ⟨h1, h2, g', rfl, h3, g0, g1, g2, g3, g9⟩ := hJ
      dsimp only
      unfold X5_bridge_f183
      rw [if_pos (nI_le (Nat.le_refl nc) (by omega))]
      dsimp only
      rw [show ∀ (f : Nat → Int32) (x : Int32) (g : (Nat → Int32) → Option RB), stI 2 f 0 x g = g (upd f 0 x) from fun f x g => st_ok (i := 0) (by decide) (by decide), show ∀ (f : Nat → Int32) (x : Int32) (g : (Nat → Int32) → Option RB), stI 2 f 1 x g = g (upd f 1 x) from fun f x g => st_ok (i := 1) (by decide) (by decide)]
      refine ⟨_, rfl, it, L, G, s0, pc, ns, nc, c, hb, wh, a1, a2, a3, a4, a5, a6, a7, a8, c2, c3, c4, c5, d5, d6, w, S, H, W, S', H', W', h1, h2, g', _, hit, rfl, rfl, P, X1, fun j hj => ?_, ⟨g0, g1, g2, g3, fun j hj => ?_, fun j hj => g9 j (by omega)⟩, ?_, ?_⟩
      · rw [(h3 j hj).1, (h3 j hj).2.1]; exact X2 j hj
      · rw [(h3 j hj).2.2]; exact (X2 j hj).1
      · rw [uq_ne (by decide), uq_eq]; rfl
      · rw [uq_eq]; rfl
    · rw [uq_ne (by decide)]; exact hg 0 (by decide)
    · rw [uq_ne (by decide)]; exact hg 2 (by decide)
    · rw [uq_ne (by decide)]; exact hg 3 (by decide)
    · rw [uq_ne (by omega)]; exact hg _ (by omega)

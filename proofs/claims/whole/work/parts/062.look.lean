/-! LOOKING AHEAD: at, the reference's table of taken cells, the class's spread and soonestFrom. -/
theorem e_pass9 {L G s0 pc ns nc m n : Nat} {hb wh : Nat → Nat} {s : (Nat → Nat) × Nat} {f e hc lc : Nat → Int32} (P : PlOK L G s0 pc ns nc hb wh) (Hc : HcOK nc hb wh hc lc) (h : Sok (L * G) n s) (hm : m < 2 ^ 20) (hnc : nc ≤ n) (hn : n ≤ 8) (hf : ∀ j, j < n → f j = nI (s.1 j)) :
    ∃ a : Int32, ∃ f' e' : Nat → Int32, m_X2_passMinute (nI n) (nI (om s.1 n)) (nI s.2) (-9) (nI m) f e (nI L) (nI s0) (nI pc) (nI ns) (nI nc) hc lc = some (a, nI (om (tk L s0 pc ns nc hb wh 99 n m s).1 n), nI (tk L s0 pc ns nc hb wh 99 n m s).2, nI (m + 1), f', e') ∧ ∀ j, j < n → f' j = nI ((tk L s0 pc ns nc hb wh 99 n m s).1 j) := by
  obtain ⟨f', e', h1, h2, -⟩ := e_passT (w := 99) (e := e) P Hc h hm hnc hn (Or.inr rfl) hf
  exact ⟨_, f', e', h1, h2⟩
theorem e_goes9 {L G s0 pc ns nc m n : Nat} {hb wh : Nat → Nat} {s : (Nat → Nat) × Nat} {f e hc lc : Nat → Int32} (P : PlOK L G s0 pc ns nc hb wh) (Hc : HcOK nc hb wh hc lc) (h : Sok (L * G) n s) (hm : m < 2 ^ 20) (hnc : nc ≤ n) (hn : n ≤ 8) (hf : ∀ j, j < n → f j = nI (s.1 j)) :
    ∃ a : Int32, ∃ f' e' : Nat → Int32, m_X5_goesOn (nI m) (nI G) (nI L) (nI nc) (nI s0) (nI pc) (nI ns) (nI n) (nI s.2) (-9) hc lc f e = some (a, nI (tk L s0 pc ns nc hb wh 99 n m s).2, f', e') ∧ ∀ j, j < n → f' j = nI ((tk L s0 pc ns nc hb wh 99 n m s).1 j) := by
  obtain ⟨f', e', h1, h2, -⟩ := e_goesT (w := 99) (e := e) P Hc h hm hnc hn (Or.inr rfl) hf
  exact ⟨_, f', e', h1, h2⟩
theorem e_sketch0 {n : Nat} {p : Nat → Nat} {F w m ov : Int32} {f e f1 e1 : Nat → Int32} (hn : n ≤ 8) (hf : ∀ j, j < n → f1 j = nI (p j)) : ∃ f' e' : Nat → Int32, m_X4_sketchWith 0 (nI n) (nI (om p n)) F w m ov f1 e1 f e = some (nI n, nI (om p n), F, -9, m, ov, f', e') ∧ ∀ j, j < n → f' j = nI (p j) := by
  have h : ∃ f' e' : Nat → Int32, m_X4_sketchWith 0 (nI n) (nI (om p n)) F w m ov f1 e1 f e = some (nI (exn 0 n 24), nI (om (exq 0 n p 24) (exn 0 n 24)), F, -9, m, ov, f', e') ∧ ∀ j, j < exn 0 n 24 → f' j = nI (exq 0 n p 24 j) := e_sketch (S := 0) (by decide) (by rw [exn_0]; exact hn) hf
  rw [exn_0, exq_0] at h
  exact h
theorem e_stands0 {L G n : Nat} {p : Nat → Nat} {x : Int32} {st f e : Nat → Int32} (hC : L * G ≤ 24) (hn5 : n ≤ 5) (hf : ∀ j, j < n → st (4 + j) = nI (p j)) : ∃ f' e' : Nat → Int32, m_X5_stands 0 x (nI G) (nI L) (nI n) st f e = some (nI n, st 3 ||| x, -9, f', e') ∧ (∀ j, j < n → f' j = nI (p j)) ∧ ∀ j, j < 8 → e' j = 0 := by
  have h : ∃ f' e' : Nat → Int32, m_X5_stands 0 x (nI G) (nI L) (nI n) st f e = some (nI (exn 0 n 24), st 3 ||| x, -9, f', e') ∧ (∀ j, j < exn 0 n 24 → f' j = nI (exq 0 n p 24 j)) ∧ ∀ j, j < 8 → e' j = 0 := e_stands (S := 0) hC (Nat.two_pow_pos _) hn5 (by rw [exn_0]; omega) hf
  rw [exn_0, exq_0] at h
  exact h
theorem v_at {L G s0 pc ns nc m w : Nat} {hb wh p : Nat → Nat} {F : Nat} {ov : Int32} {E f e st f2 e2 hc lc hc' lc' : Nat → Int32} {x y a b c : Int32} {d1 d2 d3 d4 d5 d6 : Int32} {g1 g2 : Nat → Int32} (P : PlOK L G s0 pc ns nc hb wh) (H1 : HcOK nc hb wh hc lc) (H2 : HcOK nc hb wh hc' lc') (S : SC L G nc p E F m w ov f e st) :
    ∃ r o o', m_X4_at x y (nI L) (nI s0) (nI pc) (nI ns) (nI nc) hc lc (nI nc) (nI (om p nc)) (nI F) (wI w) (nI m) ov f e d1 d2 d3 d4 d5 d6 g1 g2 = some (r, o) ∧ m_X5_at x y (nI G) (nI L) (nI nc) (nI s0) (nI pc) (nI ns) a b c hc' lc' st f2 e2 = some (r, o') := by
  have P' := P
  obtain ⟨h0, hL, hG0, hG, hC, hs, hp0, hp, hns, hnc5, hb3, hwh⟩ := P'
  obtain ⟨s1, s2, s3, s4, ⟨s5, s6⟩, s7⟩ := S
  unfold m_X4_at m_X5_at
  rcases e_isCatB (x := x) hnc5 with ⟨a1, a2⟩ | ⟨k, hk, rfl, a1, a2⟩
  · exact ⟨_, _, _, by rw [a1, obind, if_pos rfl], by rw [a2, obind, if_pos rfl]⟩
  · rw [a1, a2, obind, obind, if_neg (show ¬ (1 : Int32) = 0 by decide), if_neg (show ¬ (1 : Int32) = 0 by decide)]
    by_cases q1 : y < 0
    · exact ⟨_, _, _, by rw [if_pos q1], by rw [in_low q1, obind, if_pos rfl]⟩
    · obtain ⟨n, n2, rfl⟩ := i_nat q1
      by_cases q2 : n ≤ 40
      · rw [if_neg q1, if_pos ((le40 n2).mpr q2), in_yes q1 ((le40 n2).mpr q2), obind, if_neg (show ¬ (1 : Int32) = 0 by decide)]
        obtain ⟨f0, e0, b1, b2⟩ := e_sketch0 (n := nc) (p := p) (F := nI F) (w := wI w) (m := nI m) (ov := ov) (f := g1) (e := g2) (f1 := f) (e1 := e) (by omega) s5
        obtain ⟨f0', e0', c1, c2, -⟩ := e_stands0 (x := 0) (f := f2) (e := e2) hC hnc5 s7.2.2.2.2.1
        rw [s7.2.2.2.1, nI_or0] at c1
        rw [b1, c1, obind, obind]
        dsimp only
        have hon := sok_rn (w := 99) (m := m) P (Nat.le_refl nc) s1
        generalize hT : tk L s0 pc ns nc hb wh 99 nc = T at hon
        refine ⟨nI ((rn T m (p, F) n).1 k), ?_⟩
        have key1 : ∃ o, lpN (fun (rec : Int32 × Int32 × Int32 × Int32 × (Nat → Int32) × (Nat → Int32) → Option (Int32 × Int32 × Int32 × Int32 × Int32 × Int32 × Int32 × (Nat → Int32) × (Nat → Int32))) (s : Int32 × Int32 × Int32 × Int32 × (Nat → Int32) × (Nat → Int32)) => X4_at_f29 (nI n) (nI L) (nI s0) (nI pc) (nI ns) (nI nc) hc lc (nI nc) (-9) (fun e4 e5 e6 e7 e8 => (m_X2_cellOf (nI k) e7).bind (fun q9 => some (q9, nI nc, e4, e5, -9, e6, ov, e7, e8))) (fun r0 r1 r2 r3 r4 r5 => rec (r0, r1, r2, r3, r4, r5)) s.1 s.2.1 s.2.2.1 s.2.2.2.1 s.2.2.2.2.1 s.2.2.2.2.2) fz (0, nI (om p nc), nI F, nI m, f0, e0) = some (nI ((rn T m (p, F) n).1 k), o) := by
          refine lpUpE _ n (fun k s => ∃ f' e' : Nat → Int32, s = (nI k, nI (om (rn T m (p, F) k).1 nc), nI (rn T m (p, F) k).2, nI (m + k), f', e') ∧ ∀ j, j < nc → f' j = nI ((rn T m (p, F) k).1 j)) (fun z => ∃ o, z = some (nI ((rn T m (p, F) n).1 k), o)) ?_ ?_ (by omega) 0 (by omega) _ ⟨f0, e0, rfl, b2⟩
          · intro i s rec hi hJ hrec
            obtain ⟨f', e', rfl, z1⟩ := hJ
            obtain ⟨a3, f3, e3, z3, z4⟩ := e_pass9 (m := m + i) (e := e') P H1 (hon i) (by omega) (Nat.le_refl nc) (by omega) z1
            rw [hT] at z3 z4
            dsimp only
            unfold X4_at_f29
            rw [if_neg (nI_ge hi (by omega)), z3, obind, nI_1]
            exact hrec _ ⟨f3, e3, rfl, z4⟩
          · intro s rec hJ
            obtain ⟨f', e', rfl, z1⟩ := hJ
            dsimp only
            unfold X4_at_f29
            rw [if_pos (nI_le (Nat.le_refl n) (by omega))]
            dsimp only
            rw [e_cellR (by omega), obind, z1 k hk]
            exact ⟨_, rfl⟩
        have key2 : ∃ o, lpN (fun (rec : Int32 × Int32 × (Nat → Int32) × (Nat → Int32) → Option (Int32 × Int32 × Int32 × Int32 × (Nat → Int32) × (Nat → Int32))) (s : Int32 × Int32 × (Nat → Int32) × (Nat → Int32)) => X5_at_f28 (nI n) (nI G) (nI L) (nI nc) (nI s0) (nI pc) (nI ns) (nI nc) (-9) hc' lc' st (fun e6 e7 e8 => ldI 8 e7 (nI k) (fun y9 => some (y9, nI nc, e6, -9, e7, e8))) (fun r0 r1 r2 r3 => rec (r0, r1, r2, r3)) s.1 s.2.1 s.2.2.1 s.2.2.2) fz (0, nI F, f0', e0') = some (nI ((rn T m (p, F) n).1 k), o) := by
          refine lpUpE _ n (fun k s => ∃ f' e' : Nat → Int32, s = (nI k, nI (rn T m (p, F) k).2, f', e') ∧ ∀ j, j < nc → f' j = nI ((rn T m (p, F) k).1 j)) (fun z => ∃ o, z = some (nI ((rn T m (p, F) n).1 k), o)) ?_ ?_ (by omega) 0 (by omega) _ ⟨f0', e0', rfl, c2⟩
          · intro i s rec hi hJ hrec
            obtain ⟨f', e', rfl, z1⟩ := hJ
            obtain ⟨a3, f3, e3, z3, z4⟩ := e_goes9 (m := m + i) (e := e') P H2 (hon i) (by omega) (Nat.le_refl nc) (by omega) z1
            rw [hT] at z3 z4
            dsimp only
            unfold X5_at_f28
            rw [if_neg (nI_ge hi (by omega)), ldA0, s7.1, nI_add, z3, obind, nI_1]
            exact hrec _ ⟨f3, e3, rfl, z4⟩
          · intro s rec hJ
            obtain ⟨f', e', rfl, z1⟩ := hJ
            dsimp only
            unfold X5_at_f28
            rw [if_pos (nI_le (Nat.le_refl n) (by omega))]
            dsimp only
            rw [ld_ok (by omega) (by decide), z1 k hk]
            exact ⟨_, rfl⟩
        obtain ⟨o, k1⟩ := key1
        obtain ⟨o', k2⟩ := key2
        exact ⟨o, o', k1, k2⟩
      · exact ⟨_, _, _, by rw [if_neg q1, if_neg (fun z => q2 ((le40 n2).mp z))], by rw [in_high (fun z => q2 ((le40 n2).mp z)), obind, if_pos rfl]⟩
-- ===== the reference's table: which cells have a cat by minute
theorem lt40 {a : Nat} (h : a < 2 ^ 31) : (40 : Int32) < nI a ↔ 40 < a := nI_ltI (a := 40) (by decide) h
theorem e_find {L G s0 pc ns nc m S Xf : Nat} {hb wh p : Nat → Nat} {F : Nat} {st f e tq hc lc : Nat → Int32} (P : PlOK L G s0 pc ns nc hb wh) (Hc : HcOK nc hb wh hc lc) (hS : S < 2 ^ (L * G)) (hn : exn S nc 24 ≤ 8) (hok : Sok (L * G) (exn S nc 24) (exq S nc p 24, F ||| Xf)) (hm : m < 2 ^ 10) (r0 : st 0 = nI m) (r3 : st 3 = nI F) (r4 : ∀ j, j < nc → st (4 + j) = nI (p j)) :
    ∃ a b c : Int32, ∃ f' e' tq' : Nat → Int32, m_X5_findTaken (nI S) (nI Xf) (nI G) (nI L) (nI nc) (nI s0) (nI pc) (nI ns) hc lc st f e tq = some (a, b, c, f', e', tq') ∧ ∀ t, t < 41 → tq' t = nI (om (rn (tk L s0 pc ns nc hb wh 99 (exn S nc 24)) m (exq S nc p 24, F ||| Xf) t).1 (exn S nc 24)) := by
  have P' := P
  obtain ⟨h0, hL, hG0, hG, hC, hs, hp0, hp, hns, hnc5, hb3, hwh⟩ := P'
  obtain ⟨f0, e0, c1, c2, -⟩ := e_stands (x := nI Xf) (f := f) (e := e) hC hS hnc5 hn r4
  rw [r3, nI_or] at c1
  have hnc : nc ≤ exn S nc 24 := exn_ge
  have hon := sok_rn (w := 99) (m := m) P hnc hok
  unfold m_X5_findTaken
  rw [c1, obind]
  dsimp only
  generalize exn S nc 24 = n at *
  generalize hT : tk L s0 pc ns nc hb wh 99 n = T at hon
  generalize exq S nc p 24 = p0 at *
  refine lpUpE _ 41 (fun k s => ∃ f' e' g : Nat → Int32, s = (nI k, nI (rn T m (p0, F ||| Xf) k).2, f', e', g) ∧ (∀ j, j < n → f' j = nI ((rn T m (p0, F ||| Xf) k).1 j)) ∧ ∀ t, t < k → g t = nI (om (rn T m (p0, F ||| Xf) t).1 n)) (fun z => ∃ a b c : Int32, ∃ f' e' tq' : Nat → Int32, z = some (a, b, c, f', e', tq') ∧ ∀ t, t < 41 → tq' t = nI (om (rn T m (p0, F ||| Xf) t).1 n)) ?_ ?_ (by decide) 0 (by decide) _ ⟨f0, e0, tq, rfl, c2, fun t ht => absurd ht (Nat.not_lt_zero t)⟩
  · intro k s rec hk hJ hrec
    obtain ⟨f', e', g, rfl, z1, z2⟩ := hJ
    dsimp only
    unfold X5_findTaken_f8
    rw [if_neg (fun q => absurd ((lt40 (by omega)).mp q) (by omega))]
    have hb24 : ∀ j, j < n → (rn T m (p0, F ||| Xf) k).1 j < 24 := fun j hj => Nat.lt_of_lt_of_le ((hon k).1.1 j hj) hC
    refine lpUpE _ n (fun i s => s = (nI (om (rn T m (p0, F ||| Xf) k).1 i), nI i)) (fun z => ∃ a b c : Int32, ∃ f' e' tq' : Nat → Int32, z = some (a, b, c, f', e', tq') ∧ ∀ t, t < 41 → tq' t = nI (om (rn T m (p0, F ||| Xf) t).1 n)) ?_ ?_ (by omega) 0 (by omega) _ rfl
    · intro i s rec hi hs hr
      subst hs
      dsimp only
      unfold X5_findTaken_f20
      have := hb24 i hi
      rw [if_neg (nI_ge hi (by omega)), ld_ok (by omega) (by decide), z1 i hi, shl1 (by omega), nI_or, nm_eq, nI_1]
      exact hr _ rfl
    · intro s rec2 hs
      subst hs
      obtain ⟨a3, f3, e3, z3, z4⟩ := e_goes9 (m := m + k) (e := e') P Hc (hon k) (by omega) hnc hn z1
      rw [hT] at z3 z4
      dsimp only
      unfold X5_findTaken_f20
      rw [if_pos (nI_le (Nat.le_refl n) (by omega))]
      dsimp only
      rw [st_ok hk (by decide), ldA0, r0, nI_add, z3, obind, nI_1]
      refine hrec _ ⟨f3, e3, _, rfl, z4, fun t ht => ?_⟩
      unfold upd
      by_cases q : t = k
      · rw [if_pos q, q]
      · rw [if_neg q]; exact z2 t (by omega)
  · intro s rec hJ
    obtain ⟨f', e', g, rfl, z1, z2⟩ := hJ
    dsimp only
    unfold X5_findTaken_f8
    rw [if_pos ((lt40 (by decide)).mpr (by decide))]
    exact ⟨_, _, _, _, _, _, rfl, z2⟩

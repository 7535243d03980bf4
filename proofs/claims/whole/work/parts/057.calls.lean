/-! THE CALLS of the minutes: minutes, enter, move. SC: what both hold alike. -/
def SC (L G nc : Nat) (p : Nat → Nat) (E : Nat → Int32) (F m w : Nat) (ov : Int32) (f e st : Nat → Int32) : Prop := Sok (L * G) nc (p, F) ∧ m ≤ 199 ∧ (w = 99 ∨ w < L * G) ∧ exn F 0 24 ≤ 4 ∧ RC nc p E f e ∧ RM nc p E F m w ov st
theorem exn_mono {A B : Nat} (h : ∀ i, A.testBit i = true → B.testBit i = true) : ∀ c, exn A 0 c ≤ exn B 0 c
  | 0 => Nat.le_refl _
  | c + 1 => by
    have ih := exn_mono h c
    rw [exn, exn]
    by_cases a : A.testBit c = true
    · rw [if_pos a, if_pos (h c a)]; omega
    · rw [if_neg a]; split <;> omega
theorem exn_clr {F M c : Nat} : exn (clr F M) 0 c ≤ exn F 0 c := exn_mono (fun i q => by rw [clr_bit] at q; cases h : F.testBit i with | true => rfl | false => rw [h] at q; cases q) c
theorem exn_rn {L s0 pc ns nc n w m : Nat} {hb wh : Nat → Nat} {s : (Nat → Nat) × Nat} : ∀ t, exn (rn (tk L s0 pc ns nc hb wh w n) m s t).2 0 24 ≤ exn s.2 0 24
  | 0 => Nat.le_refl _
  | t + 1 => Nat.le_trans exn_clr (exn_rn t)
theorem i_nat1 {x : Int32} (h : ¬ x < 1) : ∃ n, 1 ≤ n ∧ n < 2 ^ 31 ∧ x = nI n := by
  rw [Int32.lt_iff_toInt_lt, show (1 : Int32).toInt = 1 by decide] at h
  obtain ⟨n, h1, rfl⟩ := i_nat (x := x) (by rw [Int32.lt_iff_toInt_lt, show (0 : Int32).toInt = 0 by decide]; omega)
  rw [nI_toInt h1] at h
  exact ⟨n, by omega, h1, rfl⟩
theorem le199 {a : Nat} (h : a < 2 ^ 31) : nI a ≤ (199 : Int32) ↔ a ≤ 199 := nI_leI (b := 199) h (by decide)
theorem lt199 {a : Nat} (h : a < 2 ^ 31) : nI a < (199 : Int32) ↔ a < 199 := nI_ltI (b := 199) h (by decide)
theorem eq199 {a : Nat} (h : a < 2 ^ 31) : nI a = (199 : Int32) ↔ a = 199 := nI_eq (b := 199) h (by decide)
theorem le40 {a : Nat} (h : a < 2 ^ 31) : nI a ≤ (40 : Int32) ↔ a ≤ 40 := nI_leI (b := 40) h (by decide)
theorem le4 {a : Nat} (h : a < 2 ^ 31) : nI a ≤ (4 : Int32) ↔ a ≤ 4 := nI_leI (b := 4) h (by decide)
theorem in_low {x l h : Int32} (q : x < l) : m_X5_in x l h = some 0 := by rw [e_inI, if_neg (fun z => Int32.not_le.mpr q z.1)]
theorem in_high {x l h : Int32} (q : ¬ x ≤ h) : m_X5_in x l h = some 0 := by rw [e_inI, if_neg (fun z => q z.2)]
theorem in_yes {x l h : Int32} (q1 : ¬ x < l) (q2 : x ≤ h) : m_X5_in x l h = some 1 := by rw [e_inI, if_pos ⟨Int32.not_lt.mp q1, q2⟩]
theorem sc_run {L G s0 pc ns nc m t w w' : Nat} {hb wh p : Nat → Nat} {F : Nat} {ov ov' : Int32} {E E' f e f' e' st st' : Nat → Int32} (P : PlOK L G s0 pc ns nc hb wh) (S : SC L G nc p E F m w ov f e st) (ht : m + t ≤ 199) (hw : w' = 99 ∨ w' < L * G)
    (R : RC nc (rn (tk L s0 pc ns nc hb wh w' nc) m (p, F) t).1 E' f' e') (R2 : RM nc (rn (tk L s0 pc ns nc hb wh w' nc) m (p, F) t).1 E' (rn (tk L s0 pc ns nc hb wh w' nc) m (p, F) t).2 (m + t) w' ov' st') :
    SC L G nc (rn (tk L s0 pc ns nc hb wh w' nc) m (p, F) t).1 E' (rn (tk L s0 pc ns nc hb wh w' nc) m (p, F) t).2 (m + t) w' ov' f' e' st' :=
  ⟨sok_rn P (Nat.le_refl nc) S.1 t, ht, hw, Nat.le_trans (exn_rn t) S.2.2.2.1, R, R2⟩
theorem v_minutes {L G s0 pc ns nc m w : Nat} {hb wh p : Nat → Nat} {F : Nat} {ov : Int32} {E f e st f2 e2 hc lc hc' lc' : Nat → Int32} {x a b c : Int32} (P : PlOK L G s0 pc ns nc hb wh) (H1 : HcOK nc hb wh hc lc) (H2 : HcOK nc hb wh hc' lc') (S : SC L G nc p E F m w ov f e st) :
    ∃ r p' E' F' m' f' e' a' b' c' st' f2' e2', m_X4_minutes x (nI L) (nI s0) (nI pc) (nI ns) (nI nc) hc lc (nI nc) (nI (om p nc)) (nI F) (wI w) (nI m) f e = some (r, nI (om p' nc), nI F', nI m', f', e') ∧ m_X5_minutes x (nI G) (nI L) (nI nc) (nI s0) (nI pc) (nI ns) a b c hc' lc' st f2 e2 = some (r, a', b', c', st', f2', e2') ∧ SC L G nc p' E' F' m' w ov f' e' st' := by
  have P' := P
  obtain ⟨h0, hL, hG0, hG, hC, hs, hp0, hp, hns, hnc5, hb3, hwh⟩ := P'
  have S' := S
  obtain ⟨s1, s2, s3, s4, ⟨s5, s6⟩, s7⟩ := S'
  have hw : w < 24 ∨ w = 99 := by omega
  unfold m_X4_minutes m_X5_minutes
  by_cases q1 : x < 1
  · rw [if_pos q1, in_low q1, obind, if_pos rfl]
    exact ⟨_, p, E, F, m, _, _, _, _, _, _, _, _, rfl, rfl, S⟩
  · rw [if_neg q1]
    by_cases q2 : x ≤ 40
    · rw [if_pos q2, in_yes q1 q2, obind, if_neg (show ¬ (1 : Int32) = 0 by decide)]
      obtain ⟨n, n1, n2, rfl⟩ := i_nat1 q1
      have n3 := (le40 n2).mp q2
      rw [ldA0, s7.1, nI_add]
      by_cases q3 : m + n ≤ 199
      · rw [if_pos ((le199 (by omega)).mpr q3), if_pos ((le199 (by omega)).mpr q3)]
        obtain ⟨a', b', c', st', f2', e2', h1, h2⟩ := e_passes (f := f2) (e := e2) P H2 s1 (by omega) n3 hw s7
        rw [h1, obind]
        have hC1 : ∃ f' e' : Nat → Int32, lpN (fun (rec : Int32 × Int32 × Int32 × Int32 × Int32 × (Nat → Int32) × (Nat → Int32) → Option (Int32 × Int32 × Int32 × Int32 × (Nat → Int32) × (Nat → Int32))) (s : Int32 × Int32 × Int32 × Int32 × Int32 × (Nat → Int32) × (Nat → Int32)) => X4_minutes_f35 (nI n) (nI L) (nI s0) (nI pc) (nI ns) (nI nc) hc lc (nI nc) (wI w) (fun e3 e4 e5 e6 e7 e8 => some (e3, e4, e5, e6, e7, e8)) (fun r0 r1 r2 r3 r4 r5 r6 => rec (r0, r1, r2, r3, r4, r5, r6)) s.1 s.2.1 s.2.2.1 s.2.2.2.1 s.2.2.2.2.1 s.2.2.2.2.2.1 s.2.2.2.2.2.2) fz (0, 0, nI (om p nc), nI F, nI m, f, e) = some (nI (eat (tk L s0 pc ns nc hb wh w nc) m (p, F) nc n), nI (om (rn (tk L s0 pc ns nc hb wh w nc) m (p, F) n).1 nc), nI (rn (tk L s0 pc ns nc hb wh w nc) m (p, F) n).2, nI (m + n), f', e') ∧ RC nc (rn (tk L s0 pc ns nc hb wh w nc) m (p, F) n).1 (fun j => E j + nI (eaj (tk L s0 pc ns nc hb wh w nc) m (p, F) j n)) f' e' := by
          have hon := sok_rn (w := w) (m := m) P (Nat.le_refl nc) s1
          generalize hT : tk L s0 pc ns nc hb wh w nc = T at hon
          refine lpUpE _ n (fun k s => ∃ f' e' : Nat → Int32, s = (nI (eat T m (p, F) nc k), nI k, nI (om (rn T m (p, F) k).1 nc), nI (rn T m (p, F) k).2, nI (m + k), f', e') ∧ (∀ j, j < nc → f' j = nI ((rn T m (p, F) k).1 j)) ∧ ∀ j, j < nc → e' j = E j + nI (eaj T m (p, F) j k)) (fun o => ∃ f' e' : Nat → Int32, o = some (nI (eat T m (p, F) nc n), nI (om (rn T m (p, F) n).1 nc), nI (rn T m (p, F) n).2, nI (m + n), f', e') ∧ RC nc (rn T m (p, F) n).1 (fun j => E j + nI (eaj T m (p, F) j n)) f' e') ?_ ?_ (by omega) 0 (by omega) _ ⟨f, e, rfl, s5, fun j hj => by rw [s6 j hj]; exact (Int32.add_zero _).symm⟩
          · intro k s rec hk hJ hrec
            obtain ⟨f', e', rfl, g1, g2⟩ := hJ
            obtain ⟨f3, e3, h3, h4, h5⟩ := e_passT (m := m + k) (w := w) (f := f') (e := e') P H1 (hon k) (by omega) (Nat.le_refl nc) (by omega) hw g1
            rw [hT] at h3 h4 h5
            dsimp only
            unfold X4_minutes_f35
            rw [if_neg (nI_ge hk (by omega)), h3, obind]
            dsimp only
            rw [nm_eq, nI_add, nI_1]
            refine hrec _ ⟨f3, e3, rfl, h4, fun j hj => ?_⟩
            rw [h5 j hj, g2 j hj, Int32.add_assoc, nI_add]
            rfl
          · intro s rec hJ
            obtain ⟨f', e', rfl, g1, g2⟩ := hJ
            dsimp only
            unfold X4_minutes_f35
            rw [if_pos (nI_le (Nat.le_refl n) (by omega))]
            exact ⟨f', e', rfl, g1, g2⟩
        obtain ⟨f', e', h3, h4⟩ := hC1
        rw [h3]
        exact ⟨_, _, _, _, _, _, _, _, _, _, _, _, _, rfl, rfl, sc_run P S q3 s3 h4 h2⟩
      · rw [if_neg (fun q => q3 ((le199 (by omega)).mp q)), if_neg (fun q => q3 ((le199 (by omega)).mp q))]
        exact ⟨_, p, E, F, m, _, _, _, _, _, _, _, _, rfl, rfl, S⟩
    · rw [if_neg q2, in_high q2, obind, if_pos rfl]
      exact ⟨_, p, E, F, m, _, _, _, _, _, _, _, _, rfl, rfl, S⟩
-- ===== which cat is in a cell
def ci (p : Nat → Nat) (c : Nat) : Nat → Int32
  | 0 => -9
  | k + 1 => if p k = c then nI k else ci p c k
theorem ci_no {p : Nat → Nat} {c : Nat} : ∀ {n : Nat}, (∀ k, k < n → ¬ p k = c) → ci p c n = -9
  | 0, _ => rfl
  | n + 1, h => by rw [ci, if_neg (h n (by omega)), ci_no (fun k hk => h k (by omega))]
theorem ci_yes {C : Nat} {p : Nat → Nat} {c k : Nat} : ∀ {n : Nat}, On C n p → k < n → p k = c → ci p c n = nI k
  | 0, _, h, _ => absurd h (Nat.not_lt_zero k)
  | n + 1, h, hk, e => by
    rw [ci]
    by_cases q : p n = c
    · rw [if_pos q, h.2 k n hk (by omega) (by rw [e, q])]
    · have : k < n := by
        have : ¬ k = n := fun z => q (by rw [← z]; exact e)
        omega
      rw [if_neg q, ci_yes ⟨fun i hi => h.1 i (by omega), fun i j hi hj z => h.2 i j (by omega) (by omega) z⟩ this e]
theorem ci_9 {C : Nat} {p : Nat → Nat} {c n : Nat} (h : On C n p) (hn : n ≤ 8) : ci p c n = -9 ↔ (om p n).testBit c = false := by
  constructor
  · intro q
    rw [om_nbit]
    intro k hk e
    rw [ci_yes h hk e] at q
    exact m9_ne (by omega) q
  · intro q; exact ci_no (om_nbit.mp q)
theorem e_catAt {nc c : Nat} {p : Nat → Nat} {st : Nat → Int32} (hn : nc ≤ 5) (hc : c < 2 ^ 20) (hp : ∀ j, j < nc → p j < 24) (h : ∀ j, j < nc → st (4 + j) = nI (p j)) : m_X5_catAt (nI c) (nI nc) st = some (ci p c nc) := by
  unfold m_X5_catAt
  refine lpUpI _ _ nc (fun k s => s = (ci p c k, nI k)) ?_ ?_ (by omega) 0 (by omega) _ rfl
  · intro k s rec hk hs hrec
    subst hs
    dsimp only
    unfold X5_catAt_f5
    rw [if_neg (nI_ge hk (by omega)), a4, ld_ok (by omega) (by decide), h k hk]
    unfold X5_catAt_j30
    have hpk := hp k hk
    by_cases q : p k = c
    · rw [if_pos (by rw [q]), nI_1]
      exact hrec _ (by rw [ci, if_pos q])
    · rw [if_neg (fun z => q ((nI_eq (by omega) (by omega)).mp z)), nI_1]
      exact hrec _ (by rw [ci, if_neg q])
  · intro s rec hs
    subst hs
    dsimp only
    unfold X5_catAt_f5
    rw [if_pos (nI_le (Nat.le_refl nc) (by omega))]
theorem e_catIn {C nc c : Nat} {p : Nat → Nat} {f : Nat → Int32} (hn : nc ≤ 8) (hc : c < 2 ^ 20) (hC : C ≤ 24) (ho : On C nc p) (h : ∀ j, j < nc → f j = nI (p j)) : m_X2_catIn (nI c) (nI nc) f = some (ci p c nc) := by
  unfold m_X2_catIn
  refine lpUpI _ _ nc (fun k s => s = nI k ∧ ∀ j, j < k → ¬ p j = c) ?_ ?_ (by omega) 0 (by omega) _ ⟨rfl, fun j hj => absurd hj (Nat.not_lt_zero j)⟩
  · intro k s rec hk hs hrec
    obtain ⟨rfl, hs⟩ := hs
    unfold X2_catIn_f2
    have hpk := ho.1 k hk
    rw [if_neg (nI_ge hk (by omega)), e_cellOf hn hk h, obind]
    by_cases q : p k = c
    · rw [if_pos (by rw [q]), ci_yes ho hk q]
    · rw [if_neg (fun z => q ((nI_eq (by omega) (by omega)).mp z)), nI_1]
      refine hrec _ ⟨rfl, fun j hj e => ?_⟩
      by_cases z : j = k
      · exact q (by rw [← z]; exact e)
      · exact hs j (by omega) e
  · intro s rec hs
    obtain ⟨rfl, hs⟩ := hs
    unfold X2_catIn_f2
    rw [if_pos (nI_le (Nat.le_refl nc) (by omega)), ci_no hs]
-- ===== a minute with another walker
theorem v_one {L G s0 pc ns nc m w w' : Nat} {hb wh p : Nat → Nat} {F : Nat} {ov ov' : Int32} {E f e st st2 f2 e2 hc lc hc' lc' : Nat → Int32} (P : PlOK L G s0 pc ns nc hb wh) (H1 : HcOK nc hb wh hc lc) (H2 : HcOK nc hb wh hc' lc') (S : SC L G nc p E F m w ov f e st) (hm : m < 199) (hw : w' = 99 ∨ w' < L * G) (R : RM nc p E F m w' ov' st2) :
    ∃ r r2 p' E' F' f' e' a' b' c' st' f2' e2', m_X2_passMinute (nI nc) (nI (om p nc)) (nI F) (wI w') (nI m) f e (nI L) (nI s0) (nI pc) (nI ns) (nI nc) hc lc = some (r, nI (om p' nc), nI F', nI (m + 1), f', e') ∧ m_X5_passes 1 (nI G) (nI L) (nI nc) (nI s0) (nI pc) (nI ns) hc' lc' st2 f2 e2 = some (r2, a', b', c', st', f2', e2') ∧ SC L G nc p' E' F' (m + 1) w' ov' f' e' st' := by
  have P' := P
  obtain ⟨h0, hL, hG0, hG, hC, hs, hp0, hp, hns, hnc5, hb3, hwh⟩ := P'
  have S' := S
  obtain ⟨s1, s2, s3, s4, ⟨s5, s6⟩, s7⟩ := S'
  have hw2 : w' < 24 ∨ w' = 99 := by omega
  obtain ⟨a', b', c', st', f2', e2', h1, h2⟩ := e_passes (t := 1) (f := f2) (e := e2) P H2 s1 (by omega) (by decide) hw2 R
  obtain ⟨f3, e3, h3, h4, h5⟩ := e_passT (m := m) (w := w') (f := f) (e := e) P H1 s1 (by omega) (Nat.le_refl nc) (by omega) hw2 s5
  refine ⟨_, _, _, _, _, f3, e3, _, _, _, st', _, _, h3, h1, sc_run (t := 1) P S (by omega) hw ⟨h4, fun j hj => ?_⟩ h2⟩
  rw [h5 j hj, s6 j hj]
  show E j + _ = E j + nI (0 + _)
  rw [Nat.zero_add]
  rfl
theorem w99 {w : Nat} (h : w < 24 ∨ w = 99) : wI w = -9 ↔ w = 99 := by
  unfold wI
  constructor
  · intro q
    split at q
    · assumption
    · exact absurd q (m9_ne (by omega))
  · intro q; rw [if_pos q]
theorem wIn {w : Nat} (h : w < 24) : wI w = nI w := by unfold wI; rw [if_neg (by omega)]
theorem rm_set {nc : Nat} {p : Nat → Nat} {E st : Nat → Int32} {F m w w' : Nat} {ov ov' : Int32} (R : RM nc p E F m w ov st) : RM nc p E F m w' ov' (upd (upd st 2 ov') 1 (wI w')) := by
  obtain ⟨r0, r1, r2, r3, r4, r5⟩ := R
  refine ⟨?_, ?_, ?_, ?_, fun j hj => ?_, fun j hj => ?_⟩
  · unfold upd; rw [if_neg (by decide), if_neg (by decide), r0]
  · unfold upd; rw [if_pos rfl]
  · unfold upd; rw [if_neg (by decide), if_pos rfl]
  · unfold upd; rw [if_neg (by decide), if_neg (by decide), r3]
  · unfold upd; rw [if_neg (by omega), if_neg (by omega), r4 j hj]
  · unfold upd; rw [if_neg (by omega), if_neg (by omega), r5 j hj]
theorem rm_set1 {nc : Nat} {p : Nat → Nat} {E st : Nat → Int32} {F m w w' : Nat} {ov : Int32} (R : RM nc p E F m w ov st) : RM nc p E F m w' ov (upd st 1 (wI w')) := by
  obtain ⟨r0, r1, r2, r3, r4, r5⟩ := R
  refine ⟨?_, ?_, ?_, ?_, fun j hj => ?_, fun j hj => ?_⟩
  · unfold upd; rw [if_neg (by decide), r0]
  · unfold upd; rw [if_pos rfl]
  · unfold upd; rw [if_neg (by decide), r2]
  · unfold upd; rw [if_neg (by decide), r3]
  · unfold upd; rw [if_neg (by omega), r4 j hj]
  · unfold upd; rw [if_neg (by omega), r5 j hj]
theorem v_enter {L G s0 pc ns nc m w : Nat} {hb wh p : Nat → Nat} {F : Nat} {ov : Int32} {E f e st f2 e2 hc lc hc' lc' : Nat → Int32} {x a b c : Int32} (P : PlOK L G s0 pc ns nc hb wh) (H1 : HcOK nc hb wh hc lc) (H2 : HcOK nc hb wh hc' lc') (S : SC L G nc p E F m w ov f e st) :
    ∃ r p' E' F' m' w' f' e' a' b' c' st' f2' e2', m_X4_enter x (nI L) (nI G) (nI s0) (nI pc) (nI ns) (nI nc) hc lc (nI nc) (nI (om p nc)) (nI F) (wI w) (nI m) f e = some (r, nI (om p' nc), nI F', wI w', nI m', f', e') ∧ m_X5_enter x (nI G) (nI L) (nI nc) (nI s0) (nI pc) (nI ns) a b c hc' lc' st f2 e2 = some (r, a', b', c', st', f2', e2') ∧ SC L G nc p' E' F' m' w' ov f' e' st' := by
  have P' := P
  obtain ⟨h0, hL, hG0, hG, hC, hs, hp0, hp, hns, hnc5, hb3, hwh⟩ := P'
  have S' := S
  obtain ⟨s1, s2, s3, s4, ⟨s5, s6⟩, s7⟩ := S'
  have hw : w < 24 ∨ w = 99 := by omega
  have hom : om p nc < 2 ^ 24 := om_lt (fun j hj => Nat.lt_of_lt_of_le (s1.1.1 j hj) hC)
  unfold m_X4_enter m_X5_enter
  by_cases q1 : x < 0
  · rw [if_pos q1, in_low q1, obind, if_pos rfl]
    exact ⟨_, p, E, F, m, w, _, _, _, _, _, _, _, _, rfl, rfl, S⟩
  · obtain ⟨n, n2, rfl⟩ := i_nat q1
    rw [if_neg q1, nI_s1 hG0]
    by_cases q2 : n < G
    · have hcell : n * L < L * G := by rw [Nat.mul_comm]; exact Nat.mul_lt_mul_of_pos_left q2 h0
      rw [if_pos ((nI_ltI n2 (by omega)).mpr q2), in_yes q1 (nI_le (by omega) (by omega)), obind, if_neg (show ¬ (1 : Int32) = 0 by decide), nm_eq, nI_mul, nI_mul, Nat.mul_comm L n, ldA1, s7.2.1]
      by_cases q3 : w = 99
      · rw [if_pos ((w99 hw).mpr q3), if_pos ((w99 hw).mpr q3), e_hasBit hom (by omega), obind, e_catAt hnc5 (by omega) (fun j hj => Nat.lt_of_lt_of_le (s1.1.1 j hj) hC) s7.2.2.2.2.1, obind]
        cases q4 : (om p nc).testBit (n * L) with
        | true =>
          rw [bn_t q4, if_neg (by decide), if_neg (fun z => by rw [ci_9 s1.1 (by omega), q4] at z; cases z)]
          exact ⟨_, p, E, F, m, w, _, _, _, _, _, _, _, _, rfl, rfl, S⟩
        | false =>
          rw [bn_f q4, if_pos (by rfl), if_pos ((ci_9 s1.1 (by omega)).mpr q4), ldA0, s7.1]
          by_cases q5 : m = 199
          · rw [if_neg (fun z => by have := (lt199 (by omega)).mp z; omega), if_pos ((eq199 (by omega)).mpr q5)]
            exact ⟨_, p, E, F, m, w, _, _, _, _, _, _, _, _, rfl, rfl, S⟩
          · rw [if_pos ((lt199 (by omega)).mpr (by omega)), if_neg (fun z => q5 ((eq199 (by omega)).mp z)), stA1, ← wIn (w := n * L) (by omega)]
            obtain ⟨r, r2, p', E', F', f', e', a', b', c', st', f2', e2', h1, h2, h3⟩ := v_one (w' := n * L) (f2 := f2) (e2 := e2) P H1 H2 S (by omega) (Or.inr hcell) (rm_set1 s7)
            rw [h1, h2, obind, obind]
            dsimp only
            rw [ldA1, h3.2.2.2.2.2.2.1]
            exact ⟨_, _, _, _, _, _, _, _, _, _, _, _, _, _, rfl, rfl, h3⟩
      · rw [if_neg (fun z => q3 ((w99 hw).mp z)), if_neg (fun z => q3 ((w99 hw).mp z))]
        exact ⟨_, p, E, F, m, w, _, _, _, _, _, _, _, _, rfl, rfl, S⟩
    · rw [if_neg (fun z => q2 ((nI_ltI n2 (by omega)).mp z)), in_high (nI_ge (by omega) n2), obind, if_pos rfl]
      exact ⟨_, p, E, F, m, w, _, _, _, _, _, _, _, _, rfl, rfl, S⟩

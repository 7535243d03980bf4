/-! RUNS: what some minutes make of a scene (its cats' cells and its fish). -/
def tk (L s0 pc ns nc : Nat) (hb wh : Nat → Nat) (w n m : Nat) (s : (Nat → Nat) × Nat) : (Nat → Nat) × Nat := (mvs L s0 pc ns nc hb wh m s.2 w n s.1 n, clr s.2 (om (mvs L s0 pc ns nc hb wh m s.2 w n s.1 n) n))
def rn (T : Nat → (Nat → Nat) × Nat → (Nat → Nat) × Nat) (m : Nat) (s : (Nat → Nat) × Nat) : Nat → (Nat → Nat) × Nat
  | 0 => s
  | t + 1 => T (m + t) (rn T m s t)
def eat (T : Nat → (Nat → Nat) × Nat → (Nat → Nat) × Nat) (m : Nat) (s : (Nat → Nat) × Nat) (n : Nat) : Nat → Nat
  | 0 => 0
  | t + 1 => eat T m s n t + ec (rn T m s t).2 (rn T m s (t + 1)).1 n
def eaj (T : Nat → (Nat → Nat) × Nat → (Nat → Nat) × Nat) (m : Nat) (s : (Nat → Nat) × Nat) (j : Nat) : Nat → Nat
  | 0 => 0
  | t + 1 => eaj T m s j t + bn (rn T m s t).2 ((rn T m s (t + 1)).1 j)
/-- a scene that can be: n cats, each in a cell of its own -/
def Sok (C n : Nat) (s : (Nat → Nat) × Nat) : Prop := On C n s.1 ∧ s.2 < 2 ^ C
theorem sok_tk {L G s0 pc ns nc n w m : Nat} {hb wh : Nat → Nat} {s : (Nat → Nat) × Nat} (P : PlOK L G s0 pc ns nc hb wh) (hnc : nc ≤ n) (h : Sok (L * G) n s) : Sok (L * G) n (tk L s0 pc ns nc hb wh w n m s) := by
  obtain ⟨h0, hL, hG0, hG, hC, hs, hp0, hp, hns, hnc5, hb3, hwh⟩ := P
  exact ⟨on_mvs h0 h.1 hnc h.2 hwh n (Nat.le_refl n), clr_lt h.2⟩
theorem sok_rn {L G s0 pc ns nc n w m : Nat} {hb wh : Nat → Nat} {s : (Nat → Nat) × Nat} (P : PlOK L G s0 pc ns nc hb wh) (hnc : nc ≤ n) (h : Sok (L * G) n s) : ∀ t, Sok (L * G) n (rn (tk L s0 pc ns nc hb wh w n) m s t)
  | 0 => h
  | t + 1 => sok_tk P hnc (sok_rn P hnc h t)
theorem e_passT {L G s0 pc ns nc m n w : Nat} {hb wh : Nat → Nat} {s : (Nat → Nat) × Nat} {f e hc lc : Nat → Int32} (P : PlOK L G s0 pc ns nc hb wh) (Hc : HcOK nc hb wh hc lc) (h : Sok (L * G) n s) (hm : m < 2 ^ 20) (hnc : nc ≤ n) (hn : n ≤ 8) (hw : w < 24 ∨ w = 99) (hf : ∀ j, j < n → f j = nI (s.1 j)) :
    ∃ f' e' : Nat → Int32, m_X2_passMinute (nI n) (nI (om s.1 n)) (nI s.2) (wI w) (nI m) f e (nI L) (nI s0) (nI pc) (nI ns) (nI nc) hc lc = some (nI (ec s.2 (tk L s0 pc ns nc hb wh w n m s).1 n), nI (om (tk L s0 pc ns nc hb wh w n m s).1 n), nI (tk L s0 pc ns nc hb wh w n m s).2, nI (m + 1), f', e') ∧ (∀ j, j < n → f' j = nI ((tk L s0 pc ns nc hb wh w n m s).1 j)) ∧ ∀ j, j < n → e' j = e j + nI (bn s.2 ((tk L s0 pc ns nc hb wh w n m s).1 j)) :=
  e_pass P Hc h.1 h.2 hm hnc hn hw hf
theorem e_goesT {L G s0 pc ns nc m n w : Nat} {hb wh : Nat → Nat} {s : (Nat → Nat) × Nat} {f e hc lc : Nat → Int32} (P : PlOK L G s0 pc ns nc hb wh) (Hc : HcOK nc hb wh hc lc) (h : Sok (L * G) n s) (hm : m < 2 ^ 20) (hnc : nc ≤ n) (hn : n ≤ 8) (hw : w < 24 ∨ w = 99) (hf : ∀ j, j < n → f j = nI (s.1 j)) :
    ∃ f' e' : Nat → Int32, m_X5_goesOn (nI m) (nI G) (nI L) (nI nc) (nI s0) (nI pc) (nI ns) (nI n) (nI s.2) (wI w) hc lc f e = some (nI (ec s.2 (tk L s0 pc ns nc hb wh w n m s).1 n), nI (tk L s0 pc ns nc hb wh w n m s).2, f', e') ∧ (∀ j, j < n → f' j = nI ((tk L s0 pc ns nc hb wh w n m s).1 j)) ∧ ∀ j, j < n → e' j = e j + nI (bn s.2 ((tk L s0 pc ns nc hb wh w n m s).1 j)) :=
  e_goesOn P Hc h.1 h.2 hm hnc hn hw hf
-- ===== how the two hold what goes on
def RC (nc : Nat) (p : Nat → Nat) (E f e : Nat → Int32) : Prop := (∀ j, j < nc → f j = nI (p j)) ∧ ∀ j, j < nc → e j = E j
def RM (nc : Nat) (p : Nat → Nat) (E : Nat → Int32) (F m w : Nat) (ov : Int32) (st : Nat → Int32) : Prop := st 0 = nI m ∧ st 1 = wI w ∧ st 2 = ov ∧ st 3 = nI F ∧ (∀ j, j < nc → st (4 + j) = nI (p j)) ∧ ∀ j, j < nc → st (9 + j) = E j
theorem i_nat {x : Int32} (h : ¬ x < 0) : ∃ n, n < 2 ^ 31 ∧ x = nI n := by
  have h0 : 0 ≤ x.toInt := by
    rw [Int32.lt_iff_toInt_lt, show (0 : Int32).toInt = 0 by decide] at h
    omega
  have h1 := Int32.toInt_lt x
  refine ⟨x.toInt.toNat, by omega, ?_⟩
  apply Int32.toInt_inj.mp
  rw [nI_toInt (by omega)]
  omega
theorem nI_or0 (a : Nat) : nI a ||| 0 = nI a := by
  have := nI_or a 0
  rw [Nat.or_zero] at this
  exact this
/-- the reference's t minutes -/
theorem e_passes {L G s0 pc ns nc m t w : Nat} {hb wh : Nat → Nat} {p : Nat → Nat} {F : Nat} {ov : Int32} {E st f e hc lc : Nat → Int32} (P : PlOK L G s0 pc ns nc hb wh) (Hc : HcOK nc hb wh hc lc) (h : Sok (L * G) nc (p, F)) (hm : m < 2 ^ 10) (ht : t ≤ 40) (hw : w < 24 ∨ w = 99) (R : RM nc p E F m w ov st) :
    ∃ a b c st' f' e', m_X5_passes (nI t) (nI G) (nI L) (nI nc) (nI s0) (nI pc) (nI ns) hc lc st f e = some (nI (eat (tk L s0 pc ns nc hb wh w nc) m (p, F) nc t), a, b, c, st', f', e') ∧ RM nc (rn (tk L s0 pc ns nc hb wh w nc) m (p, F) t).1 (fun j => E j + nI (eaj (tk L s0 pc ns nc hb wh w nc) m (p, F) j t)) (rn (tk L s0 pc ns nc hb wh w nc) m (p, F) t).2 (m + t) w ov st' := by
  have P' := P
  obtain ⟨h0, hL, hG0, hG, hC, hs, hp0, hp, hns, hnc5, hb3, hwh⟩ := P'
  obtain ⟨r0, r1, r2, r3, r4, r5⟩ := R
  have hS : ∃ f' e' : Nat → Int32, m_X5_stands 0 0 (nI G) (nI L) (nI nc) st f e = some (nI (exn 0 nc 24), st 3 ||| 0, -9, f', e') ∧ (∀ j, j < exn 0 nc 24 → f' j = nI (exq 0 nc p 24 j)) ∧ ∀ j, j < 8 → e' j = 0 := e_stands (S := 0) (x := 0) hC (Nat.two_pow_pos _) hnc5 (by rw [exn_0]; omega) r4
  rw [exn_0, exq_0, r3, nI_or0] at hS
  obtain ⟨f0, e0, hS, hf0, he0⟩ := hS
  have hon := sok_rn (w := w) (m := m) P (Nat.le_refl nc) h
  unfold m_X5_passes
  rw [hS, obind, ldA1, r1]
  dsimp only
  generalize hT : tk L s0 pc ns nc hb wh w nc = T at hon
  refine lpUpE _ t (fun k s => ∃ f' e' : Nat → Int32, s = (nI (eat T m (p, F) nc k), nI k, nI (rn T m (p, F) k).2, f', e') ∧ (∀ j, j < nc → f' j = nI ((rn T m (p, F) k).1 j)) ∧ ∀ j, j < nc → e' j = nI (eaj T m (p, F) j k)) (fun o => ∃ a b c st' f' e', o = some (nI (eat T m (p, F) nc t), a, b, c, st', f', e') ∧ RM nc (rn T m (p, F) t).1 (fun j => E j + nI (eaj T m (p, F) j t)) (rn T m (p, F) t).2 (m + t) w ov st') ?_ ?_ (by omega) 0 (by omega) _ ⟨f0, e0, rfl, hf0, fun j hj => he0 j (by omega)⟩
  · intro k s rec hk hJ hrec
    obtain ⟨f', e', rfl, h1, h2⟩ := hJ
    have hok := hon k
    obtain ⟨f2, e2, h3, h4, h5⟩ := e_goesT (m := m + k) (w := w) (f := f') (e := e') P Hc hok (by omega) (Nat.le_refl nc) (by omega) hw h1
    rw [hT] at h3 h4 h5
    dsimp only
    unfold X5_passes_f20
    rw [if_neg (nI_ge hk (by omega)), ldA0, r0, nI_add, h3, obind]
    dsimp only
    rw [nm_eq, nI_add, nI_1]
    refine hrec _ ⟨f2, e2, rfl, h4, fun j hj => ?_⟩
    rw [h5 j hj, h2 j hj, nI_add]
    rfl
  · intro s rec hJ
    obtain ⟨f', e', rfl, h1, h2⟩ := hJ
    dsimp only
    unfold X5_passes_f20
    rw [if_pos (nI_le (Nat.le_refl t) (by omega))]
    dsimp only
    refine lpUpE _ nc (fun k s => ∃ g : Nat → Int32, s = (nI k, g) ∧ (∀ j, j < k → g (4 + j) = nI ((rn T m (p, F) t).1 j)) ∧ (∀ j, j < k → g (9 + j) = E j + nI (eaj T m (p, F) j t)) ∧ ∀ i, (i < 4 ∨ (9 + k ≤ i)) → g i = st i) (fun o => ∃ a b c st' f' e', o = some (nI (eat T m (p, F) nc t), a, b, c, st', f', e') ∧ RM nc (rn T m (p, F) t).1 (fun j => E j + nI (eaj T m (p, F) j t)) (rn T m (p, F) t).2 (m + t) w ov st') ?_ ?_ (by omega) 0 (by omega) _ ⟨st, rfl, fun j hj => absurd hj (Nat.not_lt_zero j), fun j hj => absurd hj (Nat.not_lt_zero j), fun i _ => rfl⟩
    · intro k s rec hk hJ hrec
      obtain ⟨g, rfl, g1, g2, g3⟩ := hJ
      dsimp only
      unfold X5_passes_f52
      rw [if_neg (nI_ge hk (by omega)), ld_ok (by omega) (by decide), a4, st_ok (by omega) (by decide), a9, ld_ok (by omega) (by decide), ld_ok (by omega) (by decide), st_ok (by omega) (by decide), nI_1]
      have e1 : upd g (4 + k) (f' k) (9 + k) = E k := by
        unfold upd; rw [if_neg (by omega), g3 _ (Or.inr (by omega)), r5 k hk]
      rw [e1, h1 k hk, h2 k hk]
      refine hrec _ ⟨_, rfl, fun j hj => ?_, fun j hj => ?_, fun i hi => ?_⟩
      · unfold upd
        rw [if_neg (by omega)]
        by_cases q : j = k
        · rw [if_pos (by omega), q]
        · rw [if_neg (by omega)]; exact g1 j (by omega)
      · unfold upd
        by_cases q : j = k
        · rw [if_pos (by omega), q]
        · rw [if_neg (by omega), if_neg (by omega)]; exact g2 j (by omega)
      · unfold upd
        rw [if_neg (by omega), if_neg (by omega)]
        exact g3 i (by omega)
    · intro s rec hJ
      obtain ⟨g, rfl, g1, g2, g3⟩ := hJ
      dsimp only
      unfold X5_passes_f52
      rw [if_pos (nI_le (Nat.le_refl nc) (by omega))]
      dsimp only
      rw [stA3, ldA0, stA0]
      refine ⟨_, _, _, _, _, _, rfl, ?_, ?_, ?_, ?_, fun j hj => ?_, fun j hj => ?_⟩
      · unfold upd
        rw [if_pos rfl, if_neg (by decide), g3 0 (Or.inl (by decide)), r0, nI_add]
      · unfold upd
        rw [if_neg (by decide), if_neg (by decide), g3 1 (Or.inl (by decide)), r1]
      · unfold upd
        rw [if_neg (by decide), if_neg (by decide), g3 2 (Or.inl (by decide)), r2]
      · unfold upd
        rw [if_neg (by decide), if_pos rfl]
      · unfold upd
        rw [if_neg (by omega), if_neg (by omega), g1 j hj]
      · unfold upd
        rw [if_neg (by omega), if_neg (by omega), g2 j hj]

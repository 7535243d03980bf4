/-! CLOSE: the fewest cats more that close the bridge. -/
theorem exn_half {S : Nat} : ∀ c, exn S 0 (c + 1) = S % 2 + exn (S / 2) 0 c
  | 0 => by
    have e : exn S 0 1 = if S.testBit 0 = true then 0 + 1 else 0 := rfl
    rw [e, Nat.testBit_zero]
    rcases Nat.mod_two_eq_zero_or_one S with h | h <;> rw [h] <;> rfl
  | c + 1 => by
    have e1 : exn S 0 (c + 1 + 1) = if S.testBit (c + 1) = true then exn S 0 (c + 1) + 1 else exn S 0 (c + 1) := rfl
    have e2 : exn (S / 2) 0 (c + 1) = if (S / 2).testBit c = true then exn (S / 2) 0 c + 1 else exn (S / 2) 0 c := rfl
    rw [e1, e2, exn_half c, Nat.testBit_succ]
    split <;> omega
/-- the lowest bit goes -/
theorem exn_low : ∀ (c S : Nat), 0 < S → S < 2 ^ c → exn (S &&& (S - 1)) 0 c + 1 = exn S 0 c
  | 0, S, h, h2 => by rw [Nat.pow_zero] at h2; omega
  | c + 1, S, h, h2 => by
    rw [exn_half, exn_half]
    rw [Nat.pow_succ] at h2
    rcases Nat.mod_two_eq_zero_or_one S with e | e
    · have e1 : (S &&& (S - 1)) % 2 = 0 := by rw [Nat.and_mod_two_pow (n := 1)]; show (S % 2) &&& _ = 0; rw [e, Nat.zero_and]
      have e2 : (S &&& (S - 1)) / 2 = S / 2 &&& (S / 2 - 1) := by
        have := Nat.and_div_two_pow (a := S) (b := S - 1) (n := 1)
        rw [Nat.pow_one] at this
        rw [this, show (S - 1) / 2 = S / 2 - 1 by omega]
      have := exn_low c (S / 2) (by omega) (by omega)
      rw [e1, e2, e]
      omega
    · have e1 : (S &&& (S - 1)) % 2 = 0 := by rw [Nat.and_mod_two_pow (n := 1)]; show (S % 2) &&& ((S - 1) % 2) = 0; rw [e, show (S - 1) % 2 = 0 by omega]; rfl
      have e2 : (S &&& (S - 1)) / 2 = S / 2 := by
        have := Nat.and_div_two_pow (a := S) (b := S - 1) (n := 1)
        rw [Nat.pow_one] at this
        rw [this, show (S - 1) / 2 = S / 2 by omega, Nat.and_self]
      rw [e1, e2, e]
      omega
theorem exn_zero {S : Nat} : ∀ c, exn S 0 c = 0 → S < 2 ^ c → S = 0
  | 0, _, h => by rw [Nat.pow_zero] at h; omega
  | c + 1, h, h2 => by
    rw [exn_half] at h
    rw [Nat.pow_succ] at h2
    have := exn_zero c (S := S / 2) (by omega) (by omega)
    omega
theorem le0 {a : Nat} (h : a < 2 ^ 31) : nI a ≤ (0 : Int32) ↔ a = 0 := by
  have := nI_leI (b := 0) h (by decide)
  exact this.trans (by omega)
theorem e_bits5 {S : Nat} (hS : S < 2 ^ 24) : m_X5_bits (nI S) = some (nI (exn S 0 24)) := by
  have hb : ∀ (T c : Nat), exn T 0 c ≤ c := fun T c => by
    induction c with
    | zero => exact Nat.le_refl _
    | succ c ih =>
      have e1 : exn T 0 (c + 1) = if T.testBit c = true then exn T 0 c + 1 else exn T 0 c := rfl
      rw [e1]; split <;> omega
  have h24 := hb S 24
  unfold m_X5_bits
  refine lpUpI _ _ (exn S 0 24) (fun k s => ∃ T, T < 2 ^ 24 ∧ s = (nI k, nI T) ∧ exn T 0 24 + k = exn S 0 24) ?_ ?_ (by omega) 0 (by omega) _ ⟨S, hS, rfl, rfl⟩
  · intro k s rec hk hJ hrec
    obtain ⟨T, hT, rfl, hx⟩ := hJ
    have h0 : 0 < T := by
      rcases Nat.eq_zero_or_pos T with z | z
      · rw [z, exn_0] at hx; omega
      · exact z
    dsimp only
    unfold X5_bits_f4
    rw [if_neg (fun q => by have := (le0 (by omega)).mp q; omega), nI_s1 h0, nI_and, nm_eq, nI_1]
    refine hrec _ ⟨_, Nat.lt_of_le_of_lt Nat.and_le_left hT, rfl, ?_⟩
    have := exn_low 24 T h0 hT
    omega
  · intro s rec hJ
    obtain ⟨T, hT, rfl, hx⟩ := hJ
    have h0 : T = 0 := exn_zero 24 (by omega) hT
    dsimp only
    unfold X5_bits_f4
    rw [if_pos ((le0 (by omega)).mpr h0)]
/-- with r cats more, in cells from fst on, besides those of S, there is no way -/
def CC (C : Nat) (Tn : Nat → Bool) (W : Nat → Nat) : Nat → Nat → Nat → Prop
  | 0, _, S => W S = 1000
  | r + 1, fst, S => ∃ c, fst ≤ c ∧ c < C ∧ Tn c = false ∧ CC C Tn W r (c + 1) (S ||| 2 ^ c)
/-- S: n free cells before fst -/
def Ch (C nc fst n : Nat) (p : Nat → Nat) (S : Nat) : Prop := S < 2 ^ C ∧ exn S 0 24 = n ∧ (∀ i, fst ≤ i → S.testBit i = false) ∧ ∀ i, S.testBit i = true → (om p nc).testBit i = false
theorem ch_add {C nc fst n c : Nat} {p : Nat → Nat} {S : Nat} (hC : C ≤ 24) (h : Ch C nc fst n p S) (hc : fst ≤ c) (hcC : c < C) (hf : (om p nc).testBit c = false) : Ch C nc (c + 1) (n + 1) p (S ||| 2 ^ c) := by
  obtain ⟨h1, h2, h3, h4⟩ := h
  refine ⟨Nat.or_lt_two_pow h1 (Nat.pow_lt_pow_right (by decide) hcC), ?_, fun i hi => ?_, fun i hi => ?_⟩
  · rw [exn_or (h3 c hc), if_pos (by omega), h2]
  · rw [Nat.testBit_or, h3 i (by omega), Nat.testBit_two_pow, decide_eq_false (by omega)]; rfl
  · rw [Nat.testBit_or, Bool.or_eq_true, Nat.testBit_two_pow, decide_eq_true_eq] at hi
    rcases hi with q | q
    · exact h4 i q
    · rw [← q]; exact hf
theorem ch_sx {L G nc fst n : Nat} {p : Nat → Nat} {S : Nat} (hn5 : nc ≤ 5) (hn : n ≤ 3) (h : Ch (L * G) nc fst n p S) : SX L G nc p S 0 := ⟨h.1, Nat.two_pow_pos _, by rw [exn_add, h.2.1]; omega, h.2.2.2⟩
theorem le3' {a : Nat} (h : a < 2 ^ 31) : nI a ≤ (3 : Int32) ↔ a ≤ 3 := nI_leI (b := 3) h (by decide)
theorem gt0 {a : Nat} (h : a < 2 ^ 31) : (0 : Int32) < nI a ↔ 0 < a := nI_ltI (a := 0) (by decide) h
theorem e_cc2 {L G s0 pc ns nc m F r fst n S : Nat} {hb wh p : Nat → Nat} {w ov : Int32} {f e hc lc : Nat → Int32} {d1 d2 d3 d4 d5 d6 : Int32} {g1 g2 : Nat → Int32} (P : PlOK L G s0 pc ns nc hb wh) (Hc : HcOK nc hb wh hc lc) (h : Sok (L * G) nc (p, F)) (hm : m < 2 ^ 10) (hf : ∀ j, j < nc → f j = nI (p j)) {Tn : Nat → Bool} (hT : ∀ c, (om p nc).testBit c = Tn c) {W : Nat → Nat} (hW : ∀ S, Wf L G s0 pc ns nc hb wh p F m S 0 = W S) (hr : r ≤ 0) (hn : n + r ≤ 3) (hfst : fst ≤ L * G) (hS : Ch (L * G) nc fst n p S) :
    ∃ b : Bool, ∃ a1 a2 a3 a4 a5 a6 f' e', m_X4_canClose_L2 (nI S) (nI fst) (nI r) (nI L) (nI G) (nI s0) (nI pc) (nI ns) (nI nc) hc lc (nI nc) (nI (om p nc)) (nI F) w (nI m) ov f e d1 d2 d3 d4 d5 d6 g1 g2 = some ((if b = true then 1 else 0), a1, a2, a3, a4, a5, a6, f', e') ∧ (b = true ↔ CC (L * G) Tn W r fst S) := by
  have P' := P
  obtain ⟨h0, hL, hG0, hG, hC, hs, hp0, hp, hns, hnc5, hb3, hwh⟩ := P'
  have hom : om p nc < 2 ^ 24 := om_lt (fun j hj => Nat.lt_of_lt_of_le (h.1.1 j hj) hC)
  unfold m_X4_canClose_L2
  rw [if_pos ((le3' (by omega)).mpr (by omega))]
  by_cases q0 : r = 0
  · subst q0
    rw [if_neg (fun q => absurd ((gt0 (by decide)).mp q) (by decide))]
    have q := ch_sx hnc5 (by omega) hS
    obtain ⟨f', e', b1, b2⟩ := e_foresee (F := nI F) (w := w) (m := nI m) (ov := ov) (f := g1) (e := g2) (f1 := f) (e1 := e) (S := S) (Nat.lt_of_lt_of_le q.1 (Nat.pow_le_pow_right (by decide) hC)) q.2.2.1 hf
    obtain ⟨⟨p1, p2, p3, p4, p5⟩, c1⟩ := e_soonW (m := m) (e := e') P Hc h q hm b2
    rw [Nat.or_zero, hW] at c1
    have wc : W S = 1000 ∨ (1 ≤ W S ∧ W S ≤ 40) := by rw [← hW]; exact w_cases P
    rw [b1, obind]
    dsimp only
    rw [c1, obind]
    dsimp only
    by_cases y : W S = 1000
    · rw [if_pos ((cw_9 wc).mpr y), bz1]
      exact ⟨true, _, _, _, _, _, _, _, _, rfl, fun _ => y, fun _ => rfl⟩
    · rw [if_neg (fun z => y ((cw_9 wc).mp z)), bz0]
      exact ⟨false, _, _, _, _, _, _, _, _, rfl, fun z => absurd z (by decide), fun z => absurd z y⟩
  · omega
theorem e_cc3 {L G s0 pc ns nc m F r fst n S : Nat} {hb wh p : Nat → Nat} {w ov : Int32} {f e hc lc : Nat → Int32} {d1 d2 d3 d4 d5 d6 : Int32} {g1 g2 : Nat → Int32} (P : PlOK L G s0 pc ns nc hb wh) (Hc : HcOK nc hb wh hc lc) (h : Sok (L * G) nc (p, F)) (hm : m < 2 ^ 10) (hf : ∀ j, j < nc → f j = nI (p j)) {Tn : Nat → Bool} (hT : ∀ c, (om p nc).testBit c = Tn c) {W : Nat → Nat} (hW : ∀ S, Wf L G s0 pc ns nc hb wh p F m S 0 = W S) (hr : r ≤ 1) (hn : n + r ≤ 3) (hfst : fst ≤ L * G) (hS : Ch (L * G) nc fst n p S) :
    ∃ b : Bool, ∃ a1 a2 a3 a4 a5 a6 f' e', m_X4_canClose_L3 (nI S) (nI fst) (nI r) (nI L) (nI G) (nI s0) (nI pc) (nI ns) (nI nc) hc lc (nI nc) (nI (om p nc)) (nI F) w (nI m) ov f e d1 d2 d3 d4 d5 d6 g1 g2 = some ((if b = true then 1 else 0), a1, a2, a3, a4, a5, a6, f', e') ∧ (b = true ↔ CC (L * G) Tn W r fst S) := by
  have P' := P
  obtain ⟨h0, hL, hG0, hG, hC, hs, hp0, hp, hns, hnc5, hb3, hwh⟩ := P'
  have hom : om p nc < 2 ^ 24 := om_lt (fun j hj => Nat.lt_of_lt_of_le (h.1.1 j hj) hC)
  unfold m_X4_canClose_L3
  rw [if_pos ((le3' (by omega)).mpr (by omega))]
  by_cases q0 : r = 0
  · subst q0
    rw [if_neg (fun q => absurd ((gt0 (by decide)).mp q) (by decide))]
    have q := ch_sx hnc5 (by omega) hS
    obtain ⟨f', e', b1, b2⟩ := e_foresee (F := nI F) (w := w) (m := nI m) (ov := ov) (f := g1) (e := g2) (f1 := f) (e1 := e) (S := S) (Nat.lt_of_lt_of_le q.1 (Nat.pow_le_pow_right (by decide) hC)) q.2.2.1 hf
    obtain ⟨⟨p1, p2, p3, p4, p5⟩, c1⟩ := e_soonW (m := m) (e := e') P Hc h q hm b2
    rw [Nat.or_zero, hW] at c1
    have wc : W S = 1000 ∨ (1 ≤ W S ∧ W S ≤ 40) := by rw [← hW]; exact w_cases P
    rw [b1, obind]
    dsimp only
    rw [c1, obind]
    dsimp only
    by_cases y : W S = 1000
    · rw [if_pos ((cw_9 wc).mpr y), bz1]
      exact ⟨true, _, _, _, _, _, _, _, _, rfl, fun _ => y, fun _ => rfl⟩
    · rw [if_neg (fun z => y ((cw_9 wc).mp z)), bz0]
      exact ⟨false, _, _, _, _, _, _, _, _, rfl, fun z => absurd z (by decide), fun z => absurd z y⟩
  · obtain ⟨r, rfl⟩ : ∃ r', r = r' + 1 := ⟨r - 1, by omega⟩
    rw [if_pos ((gt0 (by omega)).mpr (by omega))]
    refine lpUpE _ (L * G) (fun k s => fst ≤ k ∧ (∃ a1 a2 a3 a4 a5 a6 f' e', s = (nI k, a1, a2, a3, a4, a5, a6, f', e')) ∧ ∀ c, fst ≤ c → c < k → Tn c = false → ¬ CC (L * G) Tn W r (c + 1) (S ||| 2 ^ c)) (fun z => ∃ b : Bool, ∃ a1 a2 a3 a4 a5 a6 f' e', z = some ((if b = true then 1 else 0), a1, a2, a3, a4, a5, a6, f', e') ∧ (b = true ↔ CC (L * G) Tn W (r + 1) fst S)) ?_ ?_ (by omega) fst hfst _ ⟨Nat.le_refl fst, ⟨_, _, _, _, _, _, _, _, rfl⟩, fun c q1 q2 => absurd q2 (by omega)⟩
    · intro k s rec hk hJ hrec
      obtain ⟨hfk, ⟨a1, a2, a3, a4, a5, a6, f', e', rfl⟩, hno⟩ := hJ
      dsimp only
      unfold X4_canClose_L3_f39
      rw [e_cells, obind, if_neg (nI_ge hk (by omega)), e_hasBit hom (by omega), obind]
      cases z : (om p nc).testBit k with
      | true =>
        rw [bn_t z, if_neg (by decide)]
        unfold X4_canClose_L3_j65
        rw [if_pos rfl]
        unfold X4_canClose_L3_j97
        rw [nI_1]
        refine hrec _ ⟨by omega, ⟨_, _, _, _, _, _, _, _, rfl⟩, fun c q1 q2 q3 => ?_⟩
        by_cases y : c = k
        · rw [y, ← hT, z] at q3; cases q3
        · exact hno c q1 (by omega) q3
      | false =>
        rw [bn_f z, if_pos (by rfl)]
        unfold X4_canClose_L3_j65
        obtain ⟨b, o1, o2, o3, o4, o5, o6, f2, e2, b1, b2⟩ := e_cc2 (r := r) (w := w) (ov := ov) (e := e) (d1 := a1) (d2 := a2) (d3 := a3) (d4 := a4) (d5 := a5) (d6 := a6) (g1 := f') (g2 := e') P Hc h hm hf hT hW (by omega) (by omega) (show k + 1 ≤ L * G by omega) (ch_add hC hS hfk hk z)
        rw [if_neg (show ¬ (1 : Int32) = 0 by decide), shl1 (by omega), nI_or, nI_1, nI_s1 (by omega), show r + 1 - 1 = r by omega, b1, obind]
        dsimp only
        cases b with
        | true =>
          rw [if_neg (by decide), bz1]
          exact ⟨true, _, _, _, _, _, _, _, _, rfl, fun _ => ⟨k, hfk, hk, by rw [← hT, z], b2.mp rfl⟩, fun _ => rfl⟩
        | false =>
          rw [if_pos (by rfl)]
          unfold X4_canClose_L3_j97
          rw [nI_1]
          refine hrec _ ⟨by omega, ⟨_, _, _, _, _, _, _, _, rfl⟩, fun c q1 q2 q3 => ?_⟩
          by_cases y : c = k
          · rw [y]; intro t; exact absurd (b2.mpr t) (by decide)
          · exact hno c q1 (by omega) q3
    · intro s rec hJ
      obtain ⟨hfk, ⟨a1, a2, a3, a4, a5, a6, f', e', rfl⟩, hno⟩ := hJ
      dsimp only
      unfold X4_canClose_L3_f39
      rw [e_cells, obind, if_pos (nI_le (Nat.le_refl _) (by omega))]
      dsimp only
      rw [bz0]
      exact ⟨false, _, _, _, _, _, _, _, _, rfl, fun q => absurd q (by decide), fun ⟨c, q1, q2, q3, q4⟩ => absurd q4 (hno c q1 q2 q3)⟩
theorem e_cc4 {L G s0 pc ns nc m F r fst n S : Nat} {hb wh p : Nat → Nat} {w ov : Int32} {f e hc lc : Nat → Int32} {d1 d2 d3 d4 d5 d6 : Int32} {g1 g2 : Nat → Int32} (P : PlOK L G s0 pc ns nc hb wh) (Hc : HcOK nc hb wh hc lc) (h : Sok (L * G) nc (p, F)) (hm : m < 2 ^ 10) (hf : ∀ j, j < nc → f j = nI (p j)) {Tn : Nat → Bool} (hT : ∀ c, (om p nc).testBit c = Tn c) {W : Nat → Nat} (hW : ∀ S, Wf L G s0 pc ns nc hb wh p F m S 0 = W S) (hr : r ≤ 2) (hn : n + r ≤ 3) (hfst : fst ≤ L * G) (hS : Ch (L * G) nc fst n p S) :
    ∃ b : Bool, ∃ a1 a2 a3 a4 a5 a6 f' e', m_X4_canClose_L4 (nI S) (nI fst) (nI r) (nI L) (nI G) (nI s0) (nI pc) (nI ns) (nI nc) hc lc (nI nc) (nI (om p nc)) (nI F) w (nI m) ov f e d1 d2 d3 d4 d5 d6 g1 g2 = some ((if b = true then 1 else 0), a1, a2, a3, a4, a5, a6, f', e') ∧ (b = true ↔ CC (L * G) Tn W r fst S) := by
  have P' := P
  obtain ⟨h0, hL, hG0, hG, hC, hs, hp0, hp, hns, hnc5, hb3, hwh⟩ := P'
  have hom : om p nc < 2 ^ 24 := om_lt (fun j hj => Nat.lt_of_lt_of_le (h.1.1 j hj) hC)
  unfold m_X4_canClose_L4
  rw [if_pos ((le3' (by omega)).mpr (by omega))]
  by_cases q0 : r = 0
  · subst q0
    rw [if_neg (fun q => absurd ((gt0 (by decide)).mp q) (by decide))]
    have q := ch_sx hnc5 (by omega) hS
    obtain ⟨f', e', b1, b2⟩ := e_foresee (F := nI F) (w := w) (m := nI m) (ov := ov) (f := g1) (e := g2) (f1 := f) (e1 := e) (S := S) (Nat.lt_of_lt_of_le q.1 (Nat.pow_le_pow_right (by decide) hC)) q.2.2.1 hf
    obtain ⟨⟨p1, p2, p3, p4, p5⟩, c1⟩ := e_soonW (m := m) (e := e') P Hc h q hm b2
    rw [Nat.or_zero, hW] at c1
    have wc : W S = 1000 ∨ (1 ≤ W S ∧ W S ≤ 40) := by rw [← hW]; exact w_cases P
    rw [b1, obind]
    dsimp only
    rw [c1, obind]
    dsimp only
    by_cases y : W S = 1000
    · rw [if_pos ((cw_9 wc).mpr y), bz1]
      exact ⟨true, _, _, _, _, _, _, _, _, rfl, fun _ => y, fun _ => rfl⟩
    · rw [if_neg (fun z => y ((cw_9 wc).mp z)), bz0]
      exact ⟨false, _, _, _, _, _, _, _, _, rfl, fun z => absurd z (by decide), fun z => absurd z y⟩
  · obtain ⟨r, rfl⟩ : ∃ r', r = r' + 1 := ⟨r - 1, by omega⟩
    rw [if_pos ((gt0 (by omega)).mpr (by omega))]
    refine lpUpE _ (L * G) (fun k s => fst ≤ k ∧ (∃ a1 a2 a3 a4 a5 a6 f' e', s = (nI k, a1, a2, a3, a4, a5, a6, f', e')) ∧ ∀ c, fst ≤ c → c < k → Tn c = false → ¬ CC (L * G) Tn W r (c + 1) (S ||| 2 ^ c)) (fun z => ∃ b : Bool, ∃ a1 a2 a3 a4 a5 a6 f' e', z = some ((if b = true then 1 else 0), a1, a2, a3, a4, a5, a6, f', e') ∧ (b = true ↔ CC (L * G) Tn W (r + 1) fst S)) ?_ ?_ (by omega) fst hfst _ ⟨Nat.le_refl fst, ⟨_, _, _, _, _, _, _, _, rfl⟩, fun c q1 q2 => absurd q2 (by omega)⟩
    · intro k s rec hk hJ hrec
      obtain ⟨hfk, ⟨a1, a2, a3, a4, a5, a6, f', e', rfl⟩, hno⟩ := hJ
      dsimp only
      unfold X4_canClose_L4_f39
      rw [e_cells, obind, if_neg (nI_ge hk (by omega)), e_hasBit hom (by omega), obind]
      cases z : (om p nc).testBit k with
      | true =>
        rw [bn_t z, if_neg (by decide)]
        unfold X4_canClose_L4_j65
        rw [if_pos rfl]
        unfold X4_canClose_L4_j97
        rw [nI_1]
        refine hrec _ ⟨by omega, ⟨_, _, _, _, _, _, _, _, rfl⟩, fun c q1 q2 q3 => ?_⟩
        by_cases y : c = k
        · rw [y, ← hT, z] at q3; cases q3
        · exact hno c q1 (by omega) q3
      | false =>
        rw [bn_f z, if_pos (by rfl)]
        unfold X4_canClose_L4_j65
        obtain ⟨b, o1, o2, o3, o4, o5, o6, f2, e2, b1, b2⟩ := e_cc3 (r := r) (w := w) (ov := ov) (e := e) (d1 := a1) (d2 := a2) (d3 := a3) (d4 := a4) (d5 := a5) (d6 := a6) (g1 := f') (g2 := e') P Hc h hm hf hT hW (by omega) (by omega) (show k + 1 ≤ L * G by omega) (ch_add hC hS hfk hk z)
        rw [if_neg (show ¬ (1 : Int32) = 0 by decide), shl1 (by omega), nI_or, nI_1, nI_s1 (by omega), show r + 1 - 1 = r by omega, b1, obind]
        dsimp only
        cases b with
        | true =>
          rw [if_neg (by decide), bz1]
          exact ⟨true, _, _, _, _, _, _, _, _, rfl, fun _ => ⟨k, hfk, hk, by rw [← hT, z], b2.mp rfl⟩, fun _ => rfl⟩
        | false =>
          rw [if_pos (by rfl)]
          unfold X4_canClose_L4_j97
          rw [nI_1]
          refine hrec _ ⟨by omega, ⟨_, _, _, _, _, _, _, _, rfl⟩, fun c q1 q2 q3 => ?_⟩
          by_cases y : c = k
          · rw [y]; intro t; exact absurd (b2.mpr t) (by decide)
          · exact hno c q1 (by omega) q3
    · intro s rec hJ
      obtain ⟨hfk, ⟨a1, a2, a3, a4, a5, a6, f', e', rfl⟩, hno⟩ := hJ
      dsimp only
      unfold X4_canClose_L4_f39
      rw [e_cells, obind, if_pos (nI_le (Nat.le_refl _) (by omega))]
      dsimp only
      rw [bz0]
      exact ⟨false, _, _, _, _, _, _, _, _, rfl, fun q => absurd q (by decide), fun ⟨c, q1, q2, q3, q4⟩ => absurd q4 (hno c q1 q2 q3)⟩
theorem e_cc5 {L G s0 pc ns nc m F r fst n S : Nat} {hb wh p : Nat → Nat} {w ov : Int32} {f e hc lc : Nat → Int32} {d1 d2 d3 d4 d5 d6 : Int32} {g1 g2 : Nat → Int32} (P : PlOK L G s0 pc ns nc hb wh) (Hc : HcOK nc hb wh hc lc) (h : Sok (L * G) nc (p, F)) (hm : m < 2 ^ 10) (hf : ∀ j, j < nc → f j = nI (p j)) {Tn : Nat → Bool} (hT : ∀ c, (om p nc).testBit c = Tn c) {W : Nat → Nat} (hW : ∀ S, Wf L G s0 pc ns nc hb wh p F m S 0 = W S) (hr : r ≤ 3) (hn : n + r ≤ 3) (hfst : fst ≤ L * G) (hS : Ch (L * G) nc fst n p S) :
    ∃ b : Bool, ∃ a1 a2 a3 a4 a5 a6 f' e', m_X4_canClose_L5 (nI S) (nI fst) (nI r) (nI L) (nI G) (nI s0) (nI pc) (nI ns) (nI nc) hc lc (nI nc) (nI (om p nc)) (nI F) w (nI m) ov f e d1 d2 d3 d4 d5 d6 g1 g2 = some ((if b = true then 1 else 0), a1, a2, a3, a4, a5, a6, f', e') ∧ (b = true ↔ CC (L * G) Tn W r fst S) := by
  have P' := P
  obtain ⟨h0, hL, hG0, hG, hC, hs, hp0, hp, hns, hnc5, hb3, hwh⟩ := P'
  have hom : om p nc < 2 ^ 24 := om_lt (fun j hj => Nat.lt_of_lt_of_le (h.1.1 j hj) hC)
  unfold m_X4_canClose_L5
  rw [if_pos ((le3' (by omega)).mpr (by omega))]
  by_cases q0 : r = 0
  · subst q0
    rw [if_neg (fun q => absurd ((gt0 (by decide)).mp q) (by decide))]
    have q := ch_sx hnc5 (by omega) hS
    obtain ⟨f', e', b1, b2⟩ := e_foresee (F := nI F) (w := w) (m := nI m) (ov := ov) (f := g1) (e := g2) (f1 := f) (e1 := e) (S := S) (Nat.lt_of_lt_of_le q.1 (Nat.pow_le_pow_right (by decide) hC)) q.2.2.1 hf
    obtain ⟨⟨p1, p2, p3, p4, p5⟩, c1⟩ := e_soonW (m := m) (e := e') P Hc h q hm b2
    rw [Nat.or_zero, hW] at c1
    have wc : W S = 1000 ∨ (1 ≤ W S ∧ W S ≤ 40) := by rw [← hW]; exact w_cases P
    rw [b1, obind]
    dsimp only
    rw [c1, obind]
    dsimp only
    by_cases y : W S = 1000
    · rw [if_pos ((cw_9 wc).mpr y), bz1]
      exact ⟨true, _, _, _, _, _, _, _, _, rfl, fun _ => y, fun _ => rfl⟩
    · rw [if_neg (fun z => y ((cw_9 wc).mp z)), bz0]
      exact ⟨false, _, _, _, _, _, _, _, _, rfl, fun z => absurd z (by decide), fun z => absurd z y⟩
  · obtain ⟨r, rfl⟩ : ∃ r', r = r' + 1 := ⟨r - 1, by omega⟩
    rw [if_pos ((gt0 (by omega)).mpr (by omega))]
    refine lpUpE _ (L * G) (fun k s => fst ≤ k ∧ (∃ a1 a2 a3 a4 a5 a6 f' e', s = (nI k, a1, a2, a3, a4, a5, a6, f', e')) ∧ ∀ c, fst ≤ c → c < k → Tn c = false → ¬ CC (L * G) Tn W r (c + 1) (S ||| 2 ^ c)) (fun z => ∃ b : Bool, ∃ a1 a2 a3 a4 a5 a6 f' e', z = some ((if b = true then 1 else 0), a1, a2, a3, a4, a5, a6, f', e') ∧ (b = true ↔ CC (L * G) Tn W (r + 1) fst S)) ?_ ?_ (by omega) fst hfst _ ⟨Nat.le_refl fst, ⟨_, _, _, _, _, _, _, _, rfl⟩, fun c q1 q2 => absurd q2 (by omega)⟩
    · intro k s rec hk hJ hrec
      obtain ⟨hfk, ⟨a1, a2, a3, a4, a5, a6, f', e', rfl⟩, hno⟩ := hJ
      dsimp only
      unfold X4_canClose_L5_f39
      rw [e_cells, obind, if_neg (nI_ge hk (by omega)), e_hasBit hom (by omega), obind]
      cases z : (om p nc).testBit k with
      | true =>
        rw [bn_t z, if_neg (by decide)]
        unfold X4_canClose_L5_j65
        rw [if_pos rfl]
        unfold X4_canClose_L5_j97
        rw [nI_1]
        refine hrec _ ⟨by omega, ⟨_, _, _, _, _, _, _, _, rfl⟩, fun c q1 q2 q3 => ?_⟩
        by_cases y : c = k
        · rw [y, ← hT, z] at q3; cases q3
        · exact hno c q1 (by omega) q3
      | false =>
        rw [bn_f z, if_pos (by rfl)]
        unfold X4_canClose_L5_j65
        obtain ⟨b, o1, o2, o3, o4, o5, o6, f2, e2, b1, b2⟩ := e_cc4 (r := r) (w := w) (ov := ov) (e := e) (d1 := a1) (d2 := a2) (d3 := a3) (d4 := a4) (d5 := a5) (d6 := a6) (g1 := f') (g2 := e') P Hc h hm hf hT hW (by omega) (by omega) (show k + 1 ≤ L * G by omega) (ch_add hC hS hfk hk z)
        rw [if_neg (show ¬ (1 : Int32) = 0 by decide), shl1 (by omega), nI_or, nI_1, nI_s1 (by omega), show r + 1 - 1 = r by omega, b1, obind]
        dsimp only
        cases b with
        | true =>
          rw [if_neg (by decide), bz1]
          exact ⟨true, _, _, _, _, _, _, _, _, rfl, fun _ => ⟨k, hfk, hk, by rw [← hT, z], b2.mp rfl⟩, fun _ => rfl⟩
        | false =>
          rw [if_pos (by rfl)]
          unfold X4_canClose_L5_j97
          rw [nI_1]
          refine hrec _ ⟨by omega, ⟨_, _, _, _, _, _, _, _, rfl⟩, fun c q1 q2 q3 => ?_⟩
          by_cases y : c = k
          · rw [y]; intro t; exact absurd (b2.mpr t) (by decide)
          · exact hno c q1 (by omega) q3
    · intro s rec hJ
      obtain ⟨hfk, ⟨a1, a2, a3, a4, a5, a6, f', e', rfl⟩, hno⟩ := hJ
      dsimp only
      unfold X4_canClose_L5_f39
      rw [e_cells, obind, if_pos (nI_le (Nat.le_refl _) (by omega))]
      dsimp only
      rw [bz0]
      exact ⟨false, _, _, _, _, _, _, _, _, rfl, fun q => absurd q (by decide), fun ⟨c, q1, q2, q3, q4⟩ => absurd q4 (hno c q1 q2 q3)⟩

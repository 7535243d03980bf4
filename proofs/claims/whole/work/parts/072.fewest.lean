/-! CLOSE, the call. -/
def T3 (a b c : Nat) : Nat := (2 ^ a ||| 2 ^ b) ||| 2 ^ c
def Iv (C : Nat) (Gd : Nat → Prop) (Pr : Nat → Nat → Nat → Prop) (b : Nat) : Prop := b ≤ 4 ∧ (∀ a1 a2 a3, a1 ≤ a2 → a2 ≤ a3 → a3 < C → Pr a1 a2 a3 → Gd (T3 a1 a2 a3) → b ≤ exn (T3 a1 a2 a3) 0 24) ∧ (b = 4 ∨ ∃ a1 a2 a3, a1 ≤ a2 ∧ a2 ≤ a3 ∧ a3 < C ∧ Gd (T3 a1 a2 a3) ∧ exn (T3 a1 a2 a3) 0 24 = b)
theorem iv_mono {C : Nat} {Gd : Nat → Prop} {Pr Pr' : Nat → Nat → Nat → Prop} {b : Nat} (h : Iv C Gd Pr b) (q : ∀ a1 a2 a3, a1 ≤ a2 → a2 ≤ a3 → a3 < C → Pr' a1 a2 a3 → Pr a1 a2 a3) : Iv C Gd Pr' b := ⟨h.1, fun a1 a2 a3 h1 h2 h3 h4 h5 => h.2.1 a1 a2 a3 h1 h2 h3 (q a1 a2 a3 h1 h2 h3 h4) h5, h.2.2⟩
theorem t3_bit {a b c i : Nat} : (T3 a b c).testBit i = true ↔ (i = a ∨ i = b ∨ i = c) := by
  unfold T3
  rw [Nat.testBit_or, Nat.testBit_or, Nat.testBit_two_pow, Nat.testBit_two_pow, Nat.testBit_two_pow, Bool.or_eq_true, Bool.or_eq_true, decide_eq_true_eq, decide_eq_true_eq, decide_eq_true_eq]
  constructor
  · rintro ((h | h) | h)
    · exact Or.inl h.symm
    · exact Or.inr (Or.inl h.symm)
    · exact Or.inr (Or.inr h.symm)
  · rintro (h | h | h)
    · exact Or.inl (Or.inl h.symm)
    · exact Or.inl (Or.inr h.symm)
    · exact Or.inr h.symm
theorem t3_lt {a b c C : Nat} (ha : a < C) (hb : b < C) (hc : c < C) : T3 a b c < 2 ^ C := Nat.or_lt_two_pow (Nat.or_lt_two_pow (Nat.pow_lt_pow_right (by decide) ha) (Nat.pow_lt_pow_right (by decide) hb)) (Nat.pow_lt_pow_right (by decide) hc)
theorem t3_1 {a : Nat} : T3 a a a = 0 ||| 2 ^ a := by unfold T3; rw [Nat.or_self, Nat.or_self, Nat.zero_or]
theorem t3_2 {a b : Nat} : T3 a a b = 0 ||| 2 ^ a ||| 2 ^ b := by unfold T3; rw [Nat.or_self, Nat.zero_or]
theorem t3_2' {a b : Nat} : T3 a b b = 0 ||| 2 ^ a ||| 2 ^ b := by unfold T3; rw [Nat.or_assoc, Nat.or_self, Nat.zero_or]
theorem t3_3 {a b c : Nat} : T3 a b c = 0 ||| 2 ^ a ||| 2 ^ b ||| 2 ^ c := by unfold T3; rw [Nat.zero_or]
theorem p_1 {a : Nat} (h : a < 24) : exn (0 ||| 2 ^ a) 0 24 = 1 := by rw [exn_or (Nat.zero_testBit a), exn_0, if_pos h]
theorem p_2 {a b : Nat} (h : a < b) (hb : b < 24) : exn (0 ||| 2 ^ a ||| 2 ^ b) 0 24 = 2 := by
  rw [exn_or (by rw [Nat.zero_or, Nat.testBit_two_pow, decide_eq_false (by omega)]), p_1 (by omega), if_pos hb]
theorem p_3 {a b c : Nat} (h : a < b) (hb : b < c) (hc : c < 24) : exn (0 ||| 2 ^ a ||| 2 ^ b ||| 2 ^ c) 0 24 = 3 := by
  rw [exn_or (by rw [Nat.zero_or, Nat.testBit_or, Nat.testBit_two_pow, Nat.testBit_two_pow, decide_eq_false (by omega), decide_eq_false (by omega)]; rfl), p_2 h (by omega), if_pos hc]
/-- what the least of the triples tells -/
theorem iv_cc {C b : Nat} {Tn : Nat → Bool} {W : Nat → Nat} (hC : C ≤ 24) (h0 : ¬ W 0 = 1000) (h : Iv C (fun T => (∀ i, T.testBit i = true → Tn i = false) ∧ W T = 1000) (fun _ _ _ => True) b) : (∀ r, r < b → ¬ CC C Tn W r 0 0) ∧ (b < 4 → CC C Tn W b 0 0) := by
  obtain ⟨h1, h2, h3⟩ := h
  constructor
  · intro r hr q
    rcases (show r = 0 ∨ r = 1 ∨ r = 2 ∨ r = 3 by omega) with e | e | e | e <;> subst e
    · exact h0 q
    · obtain ⟨c, -, q2, q3, q4⟩ := q
      have := h2 c c c (Nat.le_refl c) (Nat.le_refl c) q2 trivial ⟨fun i hi => by rcases t3_bit.mp hi with e | e | e <;> rw [e] <;> exact q3, by rw [t3_1]; exact q4⟩
      rw [t3_1, p_1 (by omega)] at this
      omega
    · obtain ⟨c, -, q2, q3, d, q5, q6, q7, q8⟩ := q
      have := h2 c c d (Nat.le_refl c) (by omega) q6 trivial ⟨fun i hi => by rcases t3_bit.mp hi with e | e | e <;> rw [e] <;> first | exact q3 | exact q7, by rw [t3_2]; exact q8⟩
      rw [t3_2, p_2 (by omega) (by omega)] at this
      omega
    · obtain ⟨c, -, q2, q3, d, q5, q6, q7, g, q8, q9, q10, q11⟩ := q
      have := h2 c d g (by omega) (by omega) q9 trivial ⟨fun i hi => by rcases t3_bit.mp hi with e | e | e <;> rw [e] <;> first | exact q3 | exact q7 | exact q10, by rw [t3_3]; exact q11⟩
      rw [t3_3, p_3 (by omega) (by omega) (by omega)] at this
      omega
  · intro hb
    rcases h3 with e | ⟨a1, a2, a3, q1, q2, q3, ⟨q4, q5⟩, q6⟩
    · omega
    · have f1 := q4 a1 (t3_bit.mpr (Or.inl rfl))
      have f2 := q4 a2 (t3_bit.mpr (Or.inr (Or.inl rfl)))
      have f3 := q4 a3 (t3_bit.mpr (Or.inr (Or.inr rfl)))
      by_cases e1 : a1 = a2
      · subst e1
        by_cases e2 : a1 = a3
        · subst e2
          rw [t3_1] at q5 q6
          rw [p_1 (by omega)] at q6
          subst q6
          exact ⟨a1, Nat.zero_le _, q3, f1, q5⟩
        · rw [t3_2] at q5 q6
          rw [p_2 (by omega) (by omega)] at q6
          subst q6
          exact ⟨a1, Nat.zero_le _, by omega, f1, a3, by omega, q3, f3, q5⟩
      · by_cases e2 : a2 = a3
        · subst e2
          rw [t3_2'] at q5 q6
          rw [p_2 (by omega) (by omega)] at q6
          subst q6
          exact ⟨a1, Nat.zero_le _, by omega, f1, a2, by omega, q3, f2, q5⟩
        · rw [t3_3] at q5 q6
          rw [p_3 (by omega) (by omega) (by omega)] at q6
          subst q6
          exact ⟨a1, Nat.zero_le _, by omega, f1, a2, by omega, by omega, f2, a3, by omega, q3, f3, q5⟩
/-- the cells with no cat -/
def fmk (Tn : Nat → Bool) : Nat → Nat
  | 0 => 0
  | c + 1 => if Tn c = true then fmk Tn c else fmk Tn c ||| 2 ^ c
theorem fmk_bit {Tn : Nat → Bool} {i : Nat} : ∀ c, (fmk Tn c).testBit i = true ↔ (i < c ∧ Tn i = false)
  | 0 => by rw [fmk, Nat.zero_testBit]; simp
  | c + 1 => by
    have ih := fmk_bit (Tn := Tn) (i := i) c
    rw [fmk]
    by_cases h : Tn c = true
    · rw [if_pos h, ih]
      constructor
      · rintro ⟨a, b⟩; exact ⟨by omega, b⟩
      · rintro ⟨a, b⟩
        by_cases e : i = c
        · rw [e, h] at b; cases b
        · exact ⟨by omega, b⟩
    · rw [if_neg h, Nat.testBit_or, Bool.or_eq_true, ih, Nat.testBit_two_pow, decide_eq_true_eq]
      constructor
      · rintro (⟨a, b⟩ | e)
        · exact ⟨by omega, b⟩
        · exact ⟨by omega, by rw [← e]; cases z : Tn c with | true => exact absurd z h | false => rfl⟩
      · rintro ⟨a, b⟩
        by_cases e : i = c
        · exact Or.inr e.symm
        · exact Or.inl ⟨by omega, b⟩
theorem fmk_lt {Tn : Nat → Bool} : ∀ c, fmk Tn c < 2 ^ c
  | 0 => by rw [fmk]; exact Nat.two_pow_pos 0
  | c + 1 => by
    have := fmk_lt (Tn := Tn) c
    rw [fmk]
    split
    · rw [Nat.pow_succ]; omega
    · exact Nat.or_lt_two_pow (Nat.lt_of_lt_of_le this (Nat.pow_le_pow_right (by decide) (by omega))) (Nat.pow_lt_pow_right (by decide) (by omega))
theorem clr_0 {A B : Nat} : clr A B = 0 ↔ ∀ i, A.testBit i = true → B.testBit i = true := by
  constructor
  · intro h i hi
    have := congrArg (fun x => x.testBit i) h
    simp only [clr_bit, Nat.zero_testBit, hi] at this
    cases z : B.testBit i with
    | true => rfl
    | false => rw [z] at this; cases this
  · intro h
    apply Nat.eq_of_testBit_eq
    intro i
    rw [clr_bit, Nat.zero_testBit]
    cases z : A.testBit i with
    | false => rfl
    | true => rw [h i z]; rfl
theorem gt3 {a : Nat} (h : a < 2 ^ 31) : (3 : Int32) < nI a ↔ 3 < a := nI_ltI (a := 3) (by decide) h
theorem v_close {L G s0 pc ns nc m w : Nat} {hb wh p : Nat → Nat} {F : Nat} {ov : Int32} {E f e st f3 e3 tq lq hc lc hc' lc' : Nat → Int32} {d1 d2 d3 d4 d5 d6 : Int32} {g1 g2 : Nat → Int32} (P : PlOK L G s0 pc ns nc hb wh) (H1 : HcOK nc hb wh hc lc) (H2 : HcOK nc hb wh hc' lc') (S : SC L G nc p E F m w ov f e st) :
    ∃ r o o', m_X4_close (nI L) (nI G) (nI s0) (nI pc) (nI ns) (nI nc) hc lc (nI nc) (nI (om p nc)) (nI F) (wI w) (nI m) ov f e d1 d2 d3 d4 d5 d6 g1 g2 = some (r, o) ∧ m_X5_close (nI G) (nI L) (nI nc) (nI s0) (nI pc) (nI ns) hc' lc' st f3 e3 tq lq = some (r, o') := by
  have P' := P
  obtain ⟨h0, hL, hG0, hG, hC, hs, hp0, hp, hns, hnc5, hb3, hwh⟩ := P'
  obtain ⟨s1, s2, s3, s4, ⟨s5, s6⟩, s7⟩ := S
  have hom : om p nc < 2 ^ 24 := om_lt (fun j hj => Nat.lt_of_lt_of_le (s1.1.1 j hj) hC)
  have hm : m < 2 ^ 10 := by omega
  generalize hWe : (fun S => Wf L G s0 pc ns nc hb wh p F m S 0) = W
  have hW : ∀ S, Wf L G s0 pc ns nc hb wh p F m S 0 = W S := fun S => by rw [← hWe]
  have wc : ∀ S, W S = 1000 ∨ (1 ≤ W S ∧ W S ≤ 40) := fun S => by rw [← hW]; exact w_cases P
  generalize hTn : (fun c => (om p nc).testBit c) = Tn
  have hT : ∀ c, (om p nc).testBit c = Tn c := fun c => by rw [← hTn]
  have A : ∃ v o, v ≤ 4 ∧ (∀ r, r < v → ¬ CC (L * G) Tn W r 0 0) ∧ (v < 4 → CC (L * G) Tn W v 0 0) ∧ m_X4_close (nI L) (nI G) (nI s0) (nI pc) (nI ns) (nI nc) hc lc (nI nc) (nI (om p nc)) (nI F) (wI w) (nI m) ov f e d1 d2 d3 d4 d5 d6 g1 g2 = some ((if v < 4 then nI v else -9), o) := by
    unfold m_X4_close
    refine lpUpE _ 4 (fun k s => (∃ a1 a2 a3 a4 a5 a6 f' e', s = (nI k, a1, a2, a3, a4, a5, a6, f', e')) ∧ ∀ r, r < k → ¬ CC (L * G) Tn W r 0 0) (fun z => ∃ v o, v ≤ 4 ∧ (∀ r, r < v → ¬ CC (L * G) Tn W r 0 0) ∧ (v < 4 → CC (L * G) Tn W v 0 0) ∧ z = some ((if v < 4 then nI v else -9), o)) ?_ ?_ (by decide) 0 (by decide) _ ⟨⟨_, _, _, _, _, _, _, _, rfl⟩, fun r hr => absurd hr (Nat.not_lt_zero r)⟩
    · intro k s rec hk hJ hrec
      obtain ⟨⟨a1, a2, a3, a4, a5, a6, f', e', rfl⟩, hno⟩ := hJ
      dsimp only
      unfold X4_close_f2
      have c : ∃ b : Bool, ∃ b1 b2 b3 b4 b5 b6 f2 e2, m_X4_canClose_L5 0 0 (nI k) (nI L) (nI G) (nI s0) (nI pc) (nI ns) (nI nc) hc lc (nI nc) (nI (om p nc)) (nI F) (wI w) (nI m) ov f e a1 a2 a3 a4 a5 a6 f' e' = some ((if b = true then 1 else 0), b1, b2, b3, b4, b5, b6, f2, e2) ∧ (b = true ↔ CC (L * G) Tn W k 0 0) := e_cc5 (S := 0) (fst := 0) (n := 0) P H1 s1 hm s5 hT hW (by omega) (by omega) (Nat.zero_le _) ⟨Nat.two_pow_pos _, exn_0 24, fun i _ => Nat.zero_testBit i, fun i q => by rw [Nat.zero_testBit] at q; cases q⟩
      obtain ⟨b, o1, o2, o3, o4, o5, o6, f2, e2, c1, c2⟩ := c
      rw [if_neg (fun q => by have := (gt3 (by omega)).mp q; omega), c1, obind]
      dsimp only
      cases b with
      | true =>
        rw [if_neg (by decide)]
        exact ⟨k, _, by omega, hno, fun _ => c2.mp rfl, by rw [if_pos hk]⟩
      | false =>
        rw [if_pos (by rfl), nI_1]
        refine hrec _ ⟨⟨_, _, _, _, _, _, _, _, rfl⟩, fun r hr => ?_⟩
        by_cases q : r = k
        · rw [q]; intro z; exact absurd (c2.mpr z) (by decide)
        · exact hno r (by omega)
    · intro s rec hJ
      obtain ⟨⟨a1, a2, a3, a4, a5, a6, f', e', rfl⟩, hno⟩ := hJ
      dsimp only
      unfold X4_close_f2
      rw [if_pos ((gt3 (by decide)).mpr (by decide))]
      exact ⟨4, _, Nat.le_refl 4, hno, fun q => absurd q (by decide), rfl⟩
  have B : ∃ v o, v ≤ 4 ∧ (∀ r, r < v → ¬ CC (L * G) Tn W r 0 0) ∧ (v < 4 → CC (L * G) Tn W v 0 0) ∧ m_X5_close (nI G) (nI L) (nI nc) (nI s0) (nI pc) (nI ns) hc' lc' st f3 e3 tq lq = some ((if v < 4 then nI v else -9), o) := by
    unfold m_X5_close
    refine lpUpE _ (L * G) (fun k s => s = (nI (fmk Tn k), nI k)) (fun z => ∃ v o, v ≤ 4 ∧ (∀ r, r < v → ¬ CC (L * G) Tn W r 0 0) ∧ (v < 4 → CC (L * G) Tn W v 0 0) ∧ z = some ((if v < 4 then nI v else -9), o)) ?_ ?_ (by omega) 0 (by omega) _ rfl
    · intro k s rec hk hJ hrec
      subst hJ
      dsimp only
      unfold X5_close_f4
      rw [e_cells5, obind, if_neg (nI_ge hk (by omega)), e_catAt hnc5 (by omega) (fun j hj => Nat.lt_of_lt_of_le (s1.1.1 j hj) hC) s7.2.2.2.2.1, obind]
      unfold X5_close_j30
      cases z : Tn k with
      | true =>
        rw [if_neg (fun y => by rw [ci_9 s1.1 (by omega), hT, z] at y; cases y), nI_or0, nm_eq, nI_1]
        exact hrec _ (by rw [fmk, if_pos z])
      | false =>
        rw [if_pos ((ci_9 s1.1 (by omega)).mpr (by rw [hT, z])), shl1 (by omega), nI_or, nm_eq, nI_1]
        exact hrec _ (by rw [fmk, if_neg (by rw [z]; decide)])
    · intro s rec hJ
      subst hJ
      dsimp only
      unfold X5_close_f4
      rw [e_cells5, obind, if_pos (nI_le (Nat.le_refl _) (by omega))]
      dsimp only
      have b : ∃ a b c : Int32, ∃ f' e' tq' lq' : Nat → Int32, m_X5_findWay 0 0 (nI G) (nI L) (nI nc) (nI s0) (nI pc) (nI ns) hc' lc' st f3 e3 tq lq = some (nI (Wf L G s0 pc ns nc hb wh p F m 0 0), a, b, c, f', e', tq', lq') := e_findW (S := 0) (X := 0) P H2 s1 (sx_0 hnc5) hm s7.1 s7.2.2.2.1 s7.2.2.2.2.1
      obtain ⟨a, b, c, u1, u2, u3, u4, b1⟩ := b
      have w0 := wc 0
      rw [b1, obind, hW]
      dsimp only
      have eq1000 : ∀ {a : Nat}, a < 2 ^ 31 → (nI a = (1000 : Int32) ↔ a = 1000) := fun h => nI_eq (b := 1000) h (by decide)
      by_cases q0 : W 0 = 1000
      · rw [if_pos ((eq1000 (by omega)).mpr q0)]
        exact ⟨0, _, by decide, fun r hr => absurd hr (Nat.not_lt_zero r), fun _ => q0, rfl⟩
      · rw [if_neg (fun z => q0 ((eq1000 (by omega)).mp z))]
        generalize hGd : (fun T => (∀ i, Nat.testBit T i = true → Tn i = false) ∧ W T = 1000) = Gd
        refine lpUpE _ (L * G) (fun k s => ∃ b o1 o2 o3 v1 v2 v3 v4, s = (nI b, nI k, o1, o2, o3, v1, v2, v3, v4) ∧ Iv (L * G) Gd (fun a1 a2 a3 => a1 < k) b) (fun z => ∃ v o, v ≤ 4 ∧ (∀ r, r < v → ¬ CC (L * G) Tn W r 0 0) ∧ (v < 4 → CC (L * G) Tn W v 0 0) ∧ z = some ((if v < 4 then nI v else -9), o)) ?_ ?_ (by omega) 0 (by omega) _ ⟨4, _, _, _, _, _, _, _, rfl, Nat.le_refl 4, fun a1 a2 a3 _ _ _ q => absurd q (Nat.not_lt_zero a1), Or.inl rfl⟩
        · intro k s rec hk hJ hrec
          obtain ⟨b, o1, o2, o3, v1, v2, v3, v4, rfl, hI⟩ := hJ
          dsimp only
          unfold X5_close_f56
          rw [e_cells5, obind, if_neg (nI_ge hk (by omega))]
          refine lpUpE _ (L * G) (fun k2 s => ∃ b o1 o2 o3 v1 v2 v3 v4, s = (nI b, nI k2, o1, o2, o3, v1, v2, v3, v4) ∧ k ≤ k2 ∧ Iv (L * G) Gd (fun a1 a2 a3 => a1 < k ∨ (a1 = k ∧ a2 < k2)) b) (fun z => ∃ v o, v ≤ 4 ∧ (∀ r, r < v → ¬ CC (L * G) Tn W r 0 0) ∧ (v < 4 → CC (L * G) Tn W v 0 0) ∧ z = some ((if v < 4 then nI v else -9), o)) ?_ ?_ (by omega) k (by omega) _ ⟨b, _, _, _, _, _, _, _, rfl, Nat.le_refl k, iv_mono hI (fun a1 a2 a3 h1 h2 h3 h4 => by omega)⟩
          · intro k2 s rec2 hk2 hJ2 hrec2
            obtain ⟨b, o1, o2, o3, v1, v2, v3, v4, rfl, hkk, hI⟩ := hJ2
            dsimp only
            unfold X5_close_f67
            rw [e_cells5, obind, if_neg (nI_ge hk2 (by omega))]
            refine lpUpE _ (L * G) (fun k3 s => ∃ b o1 o2 o3 v1 v2 v3 v4, s = (nI b, nI k3, o1, o2, o3, v1, v2, v3, v4) ∧ k2 ≤ k3 ∧ Iv (L * G) Gd (fun a1 a2 a3 => a1 < k ∨ (a1 = k ∧ (a2 < k2 ∨ (a2 = k2 ∧ a3 < k3)))) b) (fun z => ∃ v o, v ≤ 4 ∧ (∀ r, r < v → ¬ CC (L * G) Tn W r 0 0) ∧ (v < 4 → CC (L * G) Tn W v 0 0) ∧ z = some ((if v < 4 then nI v else -9), o)) ?_ ?_ (by omega) k2 (by omega) _ ⟨b, _, _, _, _, _, _, _, rfl, Nat.le_refl k2, iv_mono hI (fun a1 a2 a3 h1 h2 h3 h4 => by omega)⟩
            · intro k3 s rec3 hk3 hJ3 hrec3
              obtain ⟨b, o1, o2, o3, v1, v2, v3, v4, rfl, hkk2, hI⟩ := hJ3
              have hTl := t3_lt (a := k) (b := k2) (c := k3) hk hk2 hk3
              have hTl24 := Nat.lt_of_lt_of_le hTl (Nat.pow_le_pow_right (show 0 < 2 by decide) hC)
              have hcl : clr (T3 k k2 k3) (fmk Tn (L * G)) < 2 ^ 24 := clr_lt hTl24
              -- nothing new: this triple tells nothing below b
              have skip : ∀ (o1 o2 o3 : Int32) (v1 v2 v3 v4 : Nat → Int32), (Gd (T3 k k2 k3) → b ≤ exn (T3 k k2 k3) 0 24) → ∃ v o, v ≤ 4 ∧ (∀ r, r < v → ¬ CC (L * G) Tn W r 0 0) ∧ (v < 4 → CC (L * G) Tn W v 0 0) ∧ X5_close_j141 (fun r0 r1 r2 r3 r4 r5 r6 r7 r8 => rec3 (r0, r1, r2, r3, r4, r5, r6, r7, r8)) (nI b) (nI k3) o1 o2 o3 v1 v2 v3 v4 = some ((if v < 4 then nI v else -9), o) := by
                intro o1 o2 o3 v1 v2 v3 v4 hg
                unfold X5_close_j141
                rw [nI_1]
                refine hrec3 _ ⟨b, _, _, _, _, _, _, _, rfl, by omega, hI.1, fun a1 a2 a3 h1 h2 h3 h4 h5 => ?_, hI.2.2⟩
                by_cases y : a1 = k ∧ a2 = k2 ∧ a3 = k3
                · obtain ⟨t1, t2, t3⟩ := y; rw [t1, t2, t3] at h5 ⊢; exact hg h5
                · exact hI.2.1 a1 a2 a3 h1 h2 h3 (by omega) h5
              have hTe : ((2 ^ k ||| 2 ^ k2) ||| 2 ^ k3) = T3 k k2 k3 := rfl
              have hb4 := hI.1
              dsimp only
              unfold X5_close_f80
              rw [e_cells5, obind, if_neg (nI_ge hk3 (by omega)), shl1 (by omega), shl1 (by omega), shl1 (by omega), nI_or, nI_or, hTe, nm_eq, nI_anot]
              have hce : (T3 k k2 k3 ^^^ T3 k k2 k3 &&& fmk Tn (L * G)) = clr (T3 k k2 k3) (fmk Tn (L * G)) := rfl
              rw [hce]
              by_cases y : clr (T3 k k2 k3) (fmk Tn (L * G)) = 0
              · have hfree : ∀ i, (T3 k k2 k3).testBit i = true → Tn i = false := fun i hi => ((fmk_bit _).mp (clr_0.mp y i hi)).2
                rw [if_pos ((eq0 (by omega)).mpr y), e_bits5 hTl24, obind]
                have hpop : exn (T3 k k2 k3) 0 24 ≤ 24 := by
                  have : ∀ c, exn (T3 k k2 k3) 0 c ≤ c := fun c => by
                    induction c with
                    | zero => exact Nat.le_refl _
                    | succ c ih =>
                      have e1 : exn (T3 k k2 k3) 0 (c + 1) = if (T3 k k2 k3).testBit c = true then exn (T3 k k2 k3) 0 c + 1 else exn (T3 k k2 k3) 0 c := rfl
                      rw [e1]; split <;> omega
                  exact this 24
                by_cases y2 : b ≤ exn (T3 k k2 k3) 0 24
                · rw [if_pos (nI_le y2 (by omega))]
                  exact skip _ _ _ _ _ _ _ (fun _ => y2)
                · rw [if_neg (fun t => y2 ((nI_leI (by omega) (by omega)).mp t))]
                  have sx : SX L G nc p (T3 k k2 k3) 0 := ⟨hTl, Nat.two_pow_pos _, by rw [exn_add]; omega, fun i hi => by rw [hT]; exact hfree i hi⟩
                  have b2 : ∃ a b c : Int32, ∃ f' e' tq' lq' : Nat → Int32, m_X5_findWay (nI (T3 k k2 k3)) 0 (nI G) (nI L) (nI nc) (nI s0) (nI pc) (nI ns) hc' lc' st v1 v2 v3 v4 = some (nI (Wf L G s0 pc ns nc hb wh p F m (T3 k k2 k3) 0), a, b, c, f', e', tq', lq') := e_findW (X := 0) P H2 s1 sx hm s7.1 s7.2.2.2.1 s7.2.2.2.2.1
                  obtain ⟨a', b', c', z1, z2, z3, z4, b2⟩ := b2
                  have wT := wc (T3 k k2 k3)
                  rw [b2, obind, hW]
                  dsimp only
                  by_cases y3 : W (T3 k k2 k3) = 1000
                  · rw [if_pos ((eq1000 (by omega)).mpr y3), obind]
                    unfold X5_close_j141
                    rw [nI_1]
                    have hGT : Gd (T3 k k2 k3) := by rw [← hGd]; exact ⟨hfree, y3⟩
                    refine hrec3 _ ⟨exn (T3 k k2 k3) 0 24, _, _, _, _, _, _, _, rfl, by omega, by omega, fun a1 a2 a3 h1 h2 h3 h4 h5 => ?_, Or.inr ⟨k, k2, k3, hkk, hkk2, hk3, hGT, rfl⟩⟩
                    by_cases y : a1 = k ∧ a2 = k2 ∧ a3 = k3
                    · obtain ⟨t1, t2, t3⟩ := y; rw [t1, t2, t3]; exact Nat.le_refl _
                    · exact Nat.le_trans (by omega) (hI.2.1 a1 a2 a3 h1 h2 h3 (by omega) h5)
                  · rw [if_neg (fun t => y3 ((eq1000 (by omega)).mp t))]
                    exact skip _ _ _ _ _ _ _ (fun hg => by rw [← hGd] at hg; exact absurd hg.2 y3)
              · rw [if_neg (fun t => y ((eq0 (by omega)).mp t))]
                exact skip _ _ _ _ _ _ _ (fun hg => by
                  rw [← hGd] at hg
                  exact absurd (clr_0.mpr (fun i hi => (fmk_bit _).mpr ⟨by rcases t3_bit.mp hi with e | e | e <;> omega, hg.1 i hi⟩)) y)
            · intro s rec3 hJ3
              obtain ⟨b, o1, o2, o3, v1, v2, v3, v4, rfl, hkk2, hI⟩ := hJ3
              dsimp only
              unfold X5_close_f80
              rw [e_cells5, obind, if_pos (nI_le (Nat.le_refl _) (by omega))]
              dsimp only
              rw [nI_1]
              exact hrec2 _ ⟨b, _, _, _, _, _, _, _, rfl, by omega, iv_mono hI (fun a1 a2 a3 h1 h2 h3 h4 => by omega)⟩
          · intro s rec2 hJ2
            obtain ⟨b, o1, o2, o3, v1, v2, v3, v4, rfl, hkk, hI⟩ := hJ2
            dsimp only
            unfold X5_close_f67
            rw [e_cells5, obind, if_pos (nI_le (Nat.le_refl _) (by omega))]
            dsimp only
            rw [nI_1]
            exact hrec _ ⟨b, _, _, _, _, _, _, _, rfl, iv_mono hI (fun a1 a2 a3 h1 h2 h3 h4 => by omega)⟩
        · intro s rec hJ
          obtain ⟨b, o1, o2, o3, v1, v2, v3, v4, rfl, hI⟩ := hJ
          have hI2 := iv_mono hI (Pr' := fun _ _ _ => True) (fun a1 a2 a3 h1 h2 h3 _ => by omega)
          rw [← hGd] at hI2
          obtain ⟨t1, t2⟩ := iv_cc hC q0 hI2
          have hb4 := hI2.1
          dsimp only
          unfold X5_close_f56
          rw [e_cells5, obind, if_pos (nI_le (Nat.le_refl _) (by omega))]
          dsimp only
          by_cases y : b < 4
          · rw [if_pos ((le3' (by omega)).mpr (by omega))]
            exact ⟨b, _, hb4, t1, t2, by rw [if_pos y]⟩
          · rw [if_neg (fun t => by have := (le3' (by omega)).mp t; omega)]
            exact ⟨b, _, hb4, t1, t2, by rw [if_neg y]⟩
  obtain ⟨v, o, a1, a2, a3, a4⟩ := A
  obtain ⟨v', o', b1, b2, b3, b4⟩ := B
  have hv : v = v' := by
    rcases Nat.lt_trichotomy v v' with z | z | z
    · exact absurd (a3 (by omega)) (b2 v z)
    · exact z
    · exact absurd (b3 (by omega)) (a2 v' z)
  subst hv
  exact ⟨_, o, o', a4, b4⟩

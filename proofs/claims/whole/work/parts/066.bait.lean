/-! SOONEST, BAIT, TENTH. Wf: how many minutes with the cats S more asleep and the fish X more; 1000: never. -/
def Wf (L G s0 pc ns nc : Nat) (hb wh p : Nat → Nat) (F m S X : Nat) : Nat := lf L G (fun t => om (rn (tk L s0 pc ns nc hb wh 99 (exn S nc 24)) m (exq S nc p 24, F ||| X) t).1 (exn S nc 24)) 40 24
def cw (W : Nat) : Int32 := if W ≤ 40 then nI W else -9
theorem lf_cases {L G : Nat} {O : Nat → Nat} (h0 : 0 < L) (hC : L * G ≤ 24) (hG : G ≤ 3) : lf L G O 40 24 = 1000 ∨ (1 ≤ lf L G O 40 24 ∧ lf L G O 40 24 ≤ 40) := by
  rcases (lf_ok (O := O) h0 hC hG 40 (Nat.le_refl 40) 24 (Or.inr rfl)).1 with h | ⟨h1, h2, -⟩
  · exact Or.inl h
  · exact Or.inr ⟨h1, h2⟩
theorem exn_add {S n : Nat} : ∀ c, exn S n c = n + exn S 0 c
  | 0 => rfl
  | c + 1 => by
    have e1 : exn S n (c + 1) = if S.testBit c = true then exn S n c + 1 else exn S n c := rfl
    have e2 : exn S 0 (c + 1) = if S.testBit c = true then exn S 0 c + 1 else exn S 0 c := rfl
    rw [e1, e2, exn_add c]
    split <;> omega
theorem exn_one {c : Nat} (hc : c < 24) : exn (2 ^ c) 0 24 = 1 := by
  have := exn_or (F := 0) (c := c) (Nat.zero_testBit c) 24
  rw [Nat.zero_or, exn_0, if_pos hc] at this
  exact this
/-- what the sleepers S and the fish X may be -/
def SX (L G nc : Nat) (p : Nat → Nat) (S X : Nat) : Prop := S < 2 ^ (L * G) ∧ X < 2 ^ (L * G) ∧ exn S nc 24 ≤ 8 ∧ ∀ i, S.testBit i = true → (om p nc).testBit i = false
theorem sx_ok {L G nc F S X : Nat} {p : Nat → Nat} (h : Sok (L * G) nc (p, F)) (q : SX L G nc p S X) : Sok (L * G) (exn S nc 24) (exq S nc p 24, F ||| X) := ⟨ex_on h.1 q.1 q.2.2.2 24, Nat.or_lt_two_pow h.2 q.2.1⟩
theorem sx_0 {L G nc : Nat} {p : Nat → Nat} (hn : nc ≤ 5) : SX L G nc p 0 0 := ⟨Nat.two_pow_pos _, Nat.two_pow_pos _, by rw [exn_0]; omega, fun i q => by rw [Nat.zero_testBit] at q; cases q⟩
theorem sx_fish {L G nc c : Nat} {p : Nat → Nat} (hn : nc ≤ 5) (hc : c < L * G) : SX L G nc p 0 (2 ^ c) := ⟨Nat.two_pow_pos _, Nat.pow_lt_pow_right (by decide) hc, by rw [exn_0]; omega, fun i q => by rw [Nat.zero_testBit] at q; cases q⟩
theorem sx_cat {L G nc c : Nat} {p : Nat → Nat} (hn : nc ≤ 5) (hC : L * G ≤ 24) (hc : c < L * G) (hf : (om p nc).testBit c = false) : SX L G nc p (2 ^ c) 0 := ⟨Nat.pow_lt_pow_right (by decide) hc, Nat.two_pow_pos _, by rw [exn_add, exn_one (by omega)]; omega, fun i q => by rw [Nat.testBit_two_pow, decide_eq_true_eq] at q; rw [← q]; exact hf⟩
theorem e_soonW {L G s0 pc ns nc m F S X : Nat} {hb wh p : Nat → Nat} {f e hc lc : Nat → Int32} (P : PlOK L G s0 pc ns nc hb wh) (Hc : HcOK nc hb wh hc lc) (h : Sok (L * G) nc (p, F)) (q : SX L G nc p S X) (hm : m < 2 ^ 10) (hf : ∀ j, j < exn S nc 24 → f j = nI (exq S nc p 24 j)) :
    ∃ o, m_X3_soonestFrom (nI L) (nI G) (nI s0) (nI pc) (nI ns) (nI nc) hc lc (nI (exn S nc 24)) (nI (om (exq S nc p 24) (exn S nc 24))) (nI (F ||| X)) (-9) (nI m) f e = some (cw (Wf L G s0 pc ns nc hb wh p F m S X), o) := by
  obtain ⟨o, h1⟩ := e_soonC (m := m) (e := e) P Hc (sx_ok h q) hm exn_ge q.2.2.1 hf
  rw [sn_lf P.1 P.2.2.2.2.1 P.2.2.2.1] at h1
  exact ⟨o, h1⟩
theorem e_findW {L G s0 pc ns nc m F S X : Nat} {hb wh p : Nat → Nat} {st f e tq lq hc lc : Nat → Int32} (P : PlOK L G s0 pc ns nc hb wh) (Hc : HcOK nc hb wh hc lc) (h : Sok (L * G) nc (p, F)) (q : SX L G nc p S X) (hm : m < 2 ^ 10) (r0 : st 0 = nI m) (r3 : st 3 = nI F) (r4 : ∀ j, j < nc → st (4 + j) = nI (p j)) :
    ∃ a b c : Int32, ∃ f' e' tq' lq' : Nat → Int32, m_X5_findWay (nI S) (nI X) (nI G) (nI L) (nI nc) (nI s0) (nI pc) (nI ns) hc lc st f e tq lq = some (nI (Wf L G s0 pc ns nc hb wh p F m S X), a, b, c, f', e', tq', lq') := by
  obtain ⟨a, b, c, f', e', tq', lq', h1, -, -⟩ := e_findWay (f := f) (e := e) (tq := tq) (lq := lq) P Hc q.1 q.2.2.1 (sx_ok h q) hm r0 r3 r4 (fun t => rfl)
  refine ⟨a, b, c, f', e', tq', lq', ?_⟩
  rw [h1]
  unfold Wf
  rcases lf_cases (L := L) (G := G) (O := fun t => om (rn (tk L s0 pc ns nc hb wh 99 (exn S nc 24)) m (exq S nc p 24, F ||| X) t).1 (exn S nc 24)) P.1 P.2.2.2.2.1 P.2.2.2.1 with z | ⟨-, z⟩
  · rw [if_neg (by omega), z]; rfl
  · rw [if_pos z]
theorem w_cases {L G s0 pc ns nc m F S X : Nat} {hb wh p : Nat → Nat} (P : PlOK L G s0 pc ns nc hb wh) : Wf L G s0 pc ns nc hb wh p F m S X = 1000 ∨ (1 ≤ Wf L G s0 pc ns nc hb wh p F m S X ∧ Wf L G s0 pc ns nc hb wh p F m S X ≤ 40) := lf_cases P.1 P.2.2.2.2.1 P.2.2.2.1
theorem e_told {W : Nat} (h : W = 1000 ∨ (1 ≤ W ∧ W ≤ 40)) : m_X5_told (nI W) = some (cw W) := by
  unfold m_X5_told cw
  rcases h with h | ⟨h1, h2⟩
  · rw [h, if_pos (by rfl), if_neg (by decide)]
  · rw [if_neg (fun q => by have := (nI_eq (b := 1000) (by omega) (by decide)).mp q; omega), if_pos h2]
theorem cw_9 {W : Nat} (h : W = 1000 ∨ (1 ≤ W ∧ W ≤ 40)) : cw W = -9 ↔ W = 1000 := by
  unfold cw
  rcases h with h | ⟨h1, h2⟩
  · rw [h, if_neg (by decide)]; exact ⟨fun _ => rfl, fun _ => rfl⟩
  · rw [if_pos h2]; exact ⟨fun q => absurd q (m9_ne (by omega)), fun q => by omega⟩
theorem e_sooner {A B : Nat} (hA : A = 1000 ∨ (1 ≤ A ∧ A ≤ 40)) (hB : B = 1000 ∨ (1 ≤ B ∧ B ≤ 40)) : m_X4_isSooner (cw A) (cw B) = some (if A < B then 1 else 0) := by
  unfold m_X4_isSooner
  by_cases a : A = 1000
  · rw [if_pos ((cw_9 hA).mpr a), bz0, if_neg (by omega)]
  · rw [if_neg (fun q => a ((cw_9 hA).mp q))]
    by_cases b : B = 1000
    · rw [if_pos ((cw_9 hB).mpr b), bz1, if_pos (by omega)]
    · rw [if_neg (fun q => b ((cw_9 hB).mp q))]
      unfold cw
      rw [if_pos (show A ≤ 40 by omega), if_pos (show B ≤ 40 by omega)]
      by_cases q : A < B
      · rw [if_neg (nI_ge q (by omega)), bz1, if_pos q]
      · rw [if_pos (nI_le (by omega) (by omega)), bz0, if_neg q]
/-- the class's soonestWith -/
theorem e_withS {L G s0 pc ns nc m F S : Nat} {hb wh p : Nat → Nat} {w ov : Int32} {f e f2 e2 hc lc : Nat → Int32} (P : PlOK L G s0 pc ns nc hb wh) (Hc : HcOK nc hb wh hc lc) (h : Sok (L * G) nc (p, F)) (q : SX L G nc p S 0) (hm : m < 2 ^ 10) (hf : ∀ j, j < nc → f j = nI (p j)) :
    ∃ a1 a2 a3 a4 a5 a6 f' e', m_X4_soonestWith (nI S) (nI L) (nI G) (nI s0) (nI pc) (nI ns) (nI nc) hc lc (nI nc) (nI (om p nc)) (nI F) w (nI m) ov f e f2 e2 = some (cw (Wf L G s0 pc ns nc hb wh p F m S 0), a1, a2, a3, a4, a5, a6, f', e') := by
  have hS24 : S < 2 ^ 24 := Nat.lt_of_lt_of_le q.1 (Nat.pow_le_pow_right (by decide) P.2.2.2.2.1)
  obtain ⟨f', e', b1, b2⟩ := e_sketch (F := nI F) (w := w) (m := nI m) (ov := ov) (f := f2) (e := e2) (f1 := f) (e1 := e) hS24 q.2.2.1 hf
  obtain ⟨⟨o1, o2, o3, o4, o5⟩, c1⟩ := e_soonW (m := m) (e := e') P Hc h q hm b2
  rw [Nat.or_zero] at c1
  unfold m_X4_soonestWith
  rw [b1, obind]
  dsimp only
  rw [c1, obind]
  exact ⟨_, _, _, _, _, _, _, _, rfl⟩
theorem v_soonest {L G s0 pc ns nc m w : Nat} {hb wh p : Nat → Nat} {F : Nat} {ov : Int32} {E f e st f2 e2 f3 e3 tq lq hc lc hc' lc' : Nat → Int32} (P : PlOK L G s0 pc ns nc hb wh) (H1 : HcOK nc hb wh hc lc) (H2 : HcOK nc hb wh hc' lc') (S : SC L G nc p E F m w ov f e st) :
    ∃ r o o', m_X4_soonest (nI L) (nI G) (nI s0) (nI pc) (nI ns) (nI nc) hc lc (nI nc) (nI (om p nc)) (nI F) (wI w) (nI m) ov f e f2 e2 = some (r, o) ∧ m_X5_soonest (nI G) (nI L) (nI nc) (nI s0) (nI pc) (nI ns) hc' lc' st f3 e3 tq lq = some (r, o') := by
  obtain ⟨s1, s2, s3, s4, ⟨s5, s6⟩, s7⟩ := S
  have h1 : ∃ a1 a2 a3 a4 a5 a6 f' e', m_X4_soonestWith 0 (nI L) (nI G) (nI s0) (nI pc) (nI ns) (nI nc) hc lc (nI nc) (nI (om p nc)) (nI F) (wI w) (nI m) ov f e f2 e2 = some (cw (Wf L G s0 pc ns nc hb wh p F m 0 0), a1, a2, a3, a4, a5, a6, f', e') := e_withS P H1 s1 (sx_0 P.2.2.2.2.2.2.2.2.2.1) (by omega) s5
  have h2 : ∃ a b c : Int32, ∃ f' e' tq' lq' : Nat → Int32, m_X5_findWay 0 0 (nI G) (nI L) (nI nc) (nI s0) (nI pc) (nI ns) hc' lc' st f3 e3 tq lq = some (nI (Wf L G s0 pc ns nc hb wh p F m 0 0), a, b, c, f', e', tq', lq') := e_findW (S := 0) (X := 0) P H2 s1 (sx_0 P.2.2.2.2.2.2.2.2.2.1) (by omega) s7.1 s7.2.2.2.1 s7.2.2.2.2.1
  obtain ⟨a1, a2, a3, a4, a5, a6, f', e', h1⟩ := h1
  obtain ⟨a, b, c, g1, g2, g3, g4, h2⟩ := h2
  unfold m_X4_soonest m_X5_soonest
  rw [h1, h2, obind, obind]
  dsimp only
  rw [e_told (w_cases P), obind]
  exact ⟨_, _, _, rfl, rfl⟩
theorem e_baited {L G s0 pc ns nc m F c : Nat} {hb wh p : Nat → Nat} {w ov : Int32} {f e f2 e2 hc lc : Nat → Int32} (P : PlOK L G s0 pc ns nc hb wh) (Hc : HcOK nc hb wh hc lc) (h : Sok (L * G) nc (p, F)) (hcc : c < L * G) (hm : m < 2 ^ 10) (hf : ∀ j, j < nc → f j = nI (p j)) :
    ∃ a1 a2 a3 a4 a5 a6 f' e', m_X4_soonestBaited (nI c) (nI L) (nI G) (nI s0) (nI pc) (nI ns) (nI nc) hc lc (nI nc) (nI (om p nc)) (nI F) w (nI m) ov f e f2 e2 = some (cw (Wf L G s0 pc ns nc hb wh p F m 0 (2 ^ c)), a1, a2, a3, a4, a5, a6, f', e') := by
  have q := sx_fish (p := p) P.2.2.2.2.2.2.2.2.2.1 hcc
  have hC := P.2.2.2.2.1
  have b : ∃ f' e' : Nat → Int32, m_X4_sketchWith 0 (nI nc) (nI (om p nc)) (nI F) w (nI m) ov f e f2 e2 = some (nI (exn 0 nc 24), nI (om (exq 0 nc p 24) (exn 0 nc 24)), nI F, -9, nI m, ov, f', e') ∧ ∀ j, j < exn 0 nc 24 → f' j = nI (exq 0 nc p 24 j) := e_sketch (S := 0) (by decide) q.2.2.1 hf
  obtain ⟨f', e', b1, b2⟩ := b
  obtain ⟨⟨o1, o2, o3, o4, o5⟩, c1⟩ := e_soonW (m := m) (e := e') P Hc h q hm b2
  unfold m_X4_soonestBaited
  rw [b1, obind]
  dsimp only
  rw [shl1 (by omega), nI_or, nm_eq, c1, obind]
  exact ⟨_, _, _, _, _, _, _, _, rfl⟩
-- ===== bait
theorem ge4 {a : Nat} (h : a < 2 ^ 31) : (4 : Int32) ≤ nI a ↔ 4 ≤ a := nI_leI (a := 4) (by decide) h
theorem le1' {a : Nat} (h : a < 2 ^ 31) : nI a ≤ (1 : Int32) ↔ a ≤ 1 := nI_leI (b := 1) h (by decide)
/-- the best cell among the first k (99: none), and its minutes (1001: none) -/
def bs (Tn : Nat → Bool) (W : Nat → Nat) : Nat → Nat × Nat
  | 0 => (99, 1001)
  | c + 1 => if Tn c = true then bs Tn W c else if W c < (bs Tn W c).2 then (c, W c) else bs Tn W c
theorem bs_ok {Tn : Nat → Bool} {W : Nat → Nat} (hW : ∀ c, W c = 1000 ∨ (1 ≤ W c ∧ W c ≤ 40)) : ∀ k, (bs Tn W k = (99, 1001)) ∨ ((bs Tn W k).1 < k ∧ ((bs Tn W k).2 = 1000 ∨ (1 ≤ (bs Tn W k).2 ∧ (bs Tn W k).2 ≤ 40)))
  | 0 => Or.inl rfl
  | k + 1 => by
    rw [bs]
    split
    · rcases bs_ok (Tn := Tn) hW k with h | h
      · exact Or.inl h
      · exact Or.inr ⟨by omega, h.2⟩
    · split
      · exact Or.inr ⟨by show k < k + 1; omega, hW k⟩
      · rcases bs_ok (Tn := Tn) hW k with h | h
        · exact Or.inl h
        · exact Or.inr ⟨by omega, h.2⟩
def lw9 (W : Nat) : Int32 := if W = 1001 then -9 else cw W
theorem v_bait {L G s0 pc ns nc m w : Nat} {hb wh p : Nat → Nat} {F : Nat} {ov : Int32} {E f e st f3 e3 tq lq hc lc hc' lc' : Nat → Int32} {x d1 d2 d3 d4 d5 d6 y1 y2 y3 y4 : Int32} {g1 g2 : Nat → Int32} (P : PlOK L G s0 pc ns nc hb wh) (H1 : HcOK nc hb wh hc lc) (H2 : HcOK nc hb wh hc' lc') (S : SC L G nc p E F m w ov f e st) :
    ∃ r o o', m_X4_bait x (nI L) (nI G) (nI s0) (nI pc) (nI ns) (nI nc) hc lc (nI nc) (nI (om p nc)) (nI F) (wI w) (nI m) ov f e d1 d2 d3 d4 d5 d6 g1 g2 = some (r, o) ∧ m_X5_bait x (nI G) (nI L) (nI nc) (nI s0) (nI pc) (nI ns) y1 y2 y3 y4 hc' lc' st f3 e3 tq lq = some (r, o') := by
  have P' := P
  obtain ⟨h0, hL, hG0, hG, hC, hs, hp0, hp, hns, hnc5, hb3, hwh⟩ := P'
  obtain ⟨s1, s2, s3, s4, ⟨s5, s6⟩, s7⟩ := S
  have hF24 : F < 2 ^ 24 := Nat.lt_of_lt_of_le s1.2 (Nat.pow_le_pow_right (by decide) hC)
  have hom : om p nc < 2 ^ 24 := om_lt (fun j hj => Nat.lt_of_lt_of_le (s1.1.1 j hj) hC)
  have hCpos : 0 < L * G := Nat.mul_pos h0 hG0
  unfold m_X4_bait m_X5_bait
  by_cases q1 : x < 0
  · exact ⟨_, _, _, by rw [if_pos q1], by rw [in_low q1, obind, if_pos rfl]⟩
  · obtain ⟨i, n2, rfl⟩ := i_nat q1
    rw [if_neg q1]
    by_cases q2 : i ≤ 1
    · have hx1 : nI i ≤ (1 : Int32) := nI_le (b := 1) q2 (by decide)
      rw [if_pos hx1, in_yes q1 hx1, obind, if_neg (show ¬ (1 : Int32) = 0 by decide), e_bits hF24, obind]
      generalize hW : (fun c => Wf L G s0 pc ns nc hb wh p F m 0 (2 ^ c)) = W
      have hWc : ∀ c, Wf L G s0 pc ns nc hb wh p F m 0 (2 ^ c) = W c := fun c => by rw [← hW]
      have wc : ∀ c, W c = 1000 ∨ (1 ≤ W c ∧ W c ≤ 40) := fun c => by rw [← hWc]; exact w_cases P
      generalize hTn : (fun c => (F ||| om p nc).testBit c) = Tn
      have hT : ∀ c, (F ||| om p nc).testBit c = Tn c := fun c => by rw [← hTn]
      -- how far they look
      generalize hN : (if exn F 0 24 = 4 then 0 else L * G) = N
      have hNC : N ≤ L * G := by rw [← hN]; split <;> omega
      have A : ∃ o, X4_bait_j42 (nI i) (-9) (-9) (nI N) (nI L) (nI G) (nI s0) (nI pc) (nI ns) (nI nc) hc lc (nI nc) (nI (om p nc)) (nI F) (wI w) (nI m) ov f e d1 d2 d3 d4 d5 d6 g1 g2 = some ((if i = 0 then wI (bs Tn W N).1 else lw9 (bs Tn W N).2), o) := by
        unfold X4_bait_j42
        refine lpUpE _ N (fun k s => ∃ o, s = (wI (bs Tn W k).1, lw9 (bs Tn W k).2, nI k, o)) (fun z => ∃ o, z = some ((if i = 0 then wI (bs Tn W N).1 else lw9 (bs Tn W N).2), o)) ?_ ?_ (by omega) 0 (by omega) _ ⟨_, rfl⟩
        · intro k s rec hk hJ hrec
          obtain ⟨⟨o1, o2, o3, o4, o5, o6, o7, o8⟩, rfl⟩ := hJ
          dsimp only
          unfold X4_bait_f47
          rw [if_neg (nI_ge hk (by omega)), nI_or, e_hasBit (Nat.or_lt_two_pow hF24 hom) (by omega), obind]
          cases z : (F ||| om p nc).testBit k with
          | true =>
            have e1 : bs Tn W (k + 1) = bs Tn W k := by rw [bs, ← hT, z, if_pos rfl]
            rw [bn_t z, if_neg (by decide)]
            unfold X4_bait_j106
            rw [nI_1]
            exact hrec _ ⟨_, by rw [e1]⟩
          | false =>
            obtain ⟨a1, a2, a3, a4, a5, a6, f', e', b1⟩ := e_baited (m := m) (c := k) (w := wI w) (ov := ov) (e := e) (f2 := o7) (e2 := o8) P H1 s1 (by omega) (by omega) s5
            rw [bn_f z, if_pos (by rfl), b1, obind, hWc k]
            dsimp only
            have e0 : bs Tn W (k + 1) = if W k < (bs Tn W k).2 then (k, W k) else bs Tn W k := by rw [bs, ← hT, z, if_neg (by decide)]
            have wk := wc k
            have lwW : lw9 (W k) = cw (W k) := by unfold lw9; rw [if_neg (by omega)]
            rcases bs_ok (Tn := Tn) wc k with hb9 | ⟨hb1, hb2⟩
            · rw [hb9] at e0 ⊢
              rw [if_pos (by rfl)]
              unfold X4_bait_j100 X4_bait_j106
              rw [nI_1]
              refine hrec _ ⟨(a1, a2, a3, a4, a5, a6, f', e'), ?_⟩
              rw [e0, if_pos (by show W k < 1001; omega), wIn (by show k < 24; omega)]
              show _ = (_, lw9 (W k), _)
              rw [lwW]
            · rw [if_neg (by rw [wIn (by omega)]; exact m9_ne (by omega))]
              have lwB : lw9 (bs Tn W k).2 = cw (bs Tn W k).2 := by unfold lw9; rw [if_neg (by omega)]
              rw [lwB, e_sooner wk hb2, obind]
              by_cases y : W k < (bs Tn W k).2
              · rw [if_pos y, if_neg (by decide)]
                unfold X4_bait_j100 X4_bait_j106
                rw [nI_1]
                refine hrec _ ⟨(a1, a2, a3, a4, a5, a6, f', e'), ?_⟩
                rw [e0, if_pos y, wIn (by show k < 24; omega)]
                show _ = (_, lw9 (W k), _)
                rw [lwW]
              · rw [if_neg y, if_pos rfl]
                unfold X4_bait_j106
                rw [nI_1]
                refine hrec _ ⟨(a1, a2, a3, a4, a5, a6, f', e'), ?_⟩
                rw [e0, if_neg y, lwB]
        · intro s rec hJ
          obtain ⟨⟨o1, o2, o3, o4, o5, o6, o7, o8⟩, rfl⟩ := hJ
          dsimp only
          unfold X4_bait_f47
          rw [if_pos (nI_le (Nat.le_refl N) (by omega))]
          dsimp only
          by_cases z : i = 0
          · rw [if_pos z, if_pos ((eq0 n2).mpr z)]; exact ⟨_, rfl⟩
          · rw [if_neg z, if_neg (fun y => z ((eq0 n2).mp y))]; exact ⟨_, rfl⟩
      have B : ∃ a b c g1 g2 g3 g4, m_X5_findBait (nI G) (nI L) (nI nc) (nI s0) (nI pc) (nI ns) y1 y2 y3 hc' lc' st f3 e3 tq lq = some (nI (bs Tn W N).2, a, b, c, wI (bs Tn W N).1, g1, g2, g3, g4) := by
        unfold m_X5_findBait
        have hly := e_lying (F := F) hC s1.2 s7.2.2.2.1
        by_cases q4 : exn F 0 24 = 4
        · have hN0 : N = 0 := by rw [← hN, if_pos q4]
          subst hN0
          refine lpUpE _ 0 (fun k s => s = ((1001 : Int32), (0 : Int32), y1, y2, y3, (-9 : Int32), f3, e3, tq, lq)) (fun z => ∃ a b c g1 g2 g3 g4, z = some (nI (bs Tn W 0).2, a, b, c, wI (bs Tn W 0).1, g1, g2, g3, g4)) ?_ ?_ (by decide) 0 (by decide) _ rfl
          · intro k s rec hk; exact absurd hk (Nat.not_lt_zero k)
          · intro s rec hJ
            subst hJ
            dsimp only
            unfold X5_findBait_f12
            rw [e_cells5, obind, if_neg (fun y => by have := (nI_leI (b := 0) (by omega) (by decide)).mp y; omega), hly, obind, q4, if_pos (by decide)]
            exact ⟨_, _, _, _, _, _, _, rfl⟩
        · have hNL : N = L * G := by rw [← hN, if_neg q4]
          subst hNL
          refine lpUpE _ (L * G) (fun k s => ∃ o1 o2 o3 o5 o6 o7 o8, s = (nI (bs Tn W k).2, nI k, o1, o2, o3, wI (bs Tn W k).1, o5, o6, o7, o8)) (fun z => ∃ a b c g1 g2 g3 g4, z = some (nI (bs Tn W (L * G)).2, a, b, c, wI (bs Tn W (L * G)).1, g1, g2, g3, g4)) ?_ ?_ (by omega) 0 (by omega) _ ⟨_, _, _, _, _, _, _, rfl⟩
          · intro k s rec hk hJ hrec
            obtain ⟨o1, o2, o3, o5, o6, o7, o8, rfl⟩ := hJ
            dsimp only
            unfold X5_findBait_f12
            rw [e_cells5, obind, if_neg (nI_ge hk (by omega)), hly, obind, if_neg (fun y => by have := (ge4 (by omega)).mp y; omega), ldA3, s7.2.2.2.1, e_has (by omega) (by omega), obind]
            have hor : Tn k = (F.testBit k || (om p nc).testBit k) := by rw [← hT, Nat.testBit_or]
            have stay : Tn k = true → ∃ a b c g1 g2 g3 g4, X5_findBait_j88 (fun r0 r1 r2 r3 r4 r5 r6 r7 r8 r9 => rec (r0, r1, r2, r3, r4, r5, r6, r7, r8, r9)) (nI (bs Tn W k).2) (nI k) o1 o2 o3 (wI (bs Tn W k).1) o5 o6 o7 o8 = some (nI (bs Tn W (L * G)).2, a, b, c, wI (bs Tn W (L * G)).1, g1, g2, g3, g4) := by
              intro hy
              have e1 : bs Tn W (k + 1) = bs Tn W k := by rw [bs, hy, if_pos rfl]
              unfold X5_findBait_j88
              rw [nI_1]
              exact hrec _ ⟨_, _, _, _, _, _, _, by rw [e1]⟩
            cases z1 : F.testBit k with
            | true => rw [bn_t z1, if_neg (by decide)]; exact stay (by rw [hor, z1]; rfl)
            | false =>
              rw [bn_f z1, if_pos (by rfl), e_catAt hnc5 (by omega) (fun j hj => Nat.lt_of_lt_of_le (s1.1.1 j hj) hC) s7.2.2.2.2.1, obind]
              cases z2 : (om p nc).testBit k with
              | true => rw [if_neg (fun y => by rw [ci_9 s1.1 (by omega), z2] at y; cases y)]; exact stay (by rw [hor, z1, z2]; rfl)
              | false =>
                have hTk : Tn k = false := by rw [hor, z1, z2]; rfl
                have e0 : bs Tn W (k + 1) = if W k < (bs Tn W k).2 then (k, W k) else bs Tn W k := by rw [bs, hTk, if_neg (by decide)]
                have b : ∃ a b c : Int32, ∃ f' e' tq' lq' : Nat → Int32, m_X5_findWay 0 (nI (2 ^ k)) (nI G) (nI L) (nI nc) (nI s0) (nI pc) (nI ns) hc' lc' st o5 o6 o7 o8 = some (nI (Wf L G s0 pc ns nc hb wh p F m 0 (2 ^ k)), a, b, c, f', e', tq', lq') := e_findW (S := 0) P H2 s1 (sx_fish hnc5 hk) (by omega) s7.1 s7.2.2.2.1 s7.2.2.2.2.1
                obtain ⟨a, b, c, u1, u2, u3, u4, b1⟩ := b
                have wk := wc k
                have hb2 : (bs Tn W k).2 ≤ 1001 := by
                  rcases bs_ok (Tn := Tn) wc k with hb9 | ⟨-, hb2⟩
                  · rw [hb9]; exact Nat.le_refl _
                  · omega
                rw [if_pos ((ci_9 s1.1 (by omega)).mpr z2), shl1 (by omega), b1, obind, hWc k]
                dsimp only
                by_cases y : W k < (bs Tn W k).2
                · rw [if_neg (nI_ge y (by omega))]
                  unfold X5_findBait_j74
                  rw [if_neg (nI_ge y (by omega))]
                  unfold X5_findBait_j87 X5_findBait_j88
                  rw [nI_1]
                  exact hrec _ ⟨_, _, _, _, _, _, _, by rw [e0, if_pos y, wIn (by show k < 24; omega)]⟩
                · rw [if_pos (nI_le (by omega) (by omega))]
                  unfold X5_findBait_j74
                  rw [if_pos (nI_le (by omega) (by omega))]
                  unfold X5_findBait_j87 X5_findBait_j88
                  rw [nI_1]
                  exact hrec _ ⟨_, _, _, _, _, _, _, by rw [e0, if_neg y]⟩
          · intro s rec hJ
            obtain ⟨o1, o2, o3, o5, o6, o7, o8, rfl⟩ := hJ
            dsimp only
            unfold X5_findBait_f12
            rw [e_cells5, obind, if_pos (nI_le (Nat.le_refl _) (by omega))]
            exact ⟨_, _, _, _, _, _, _, rfl⟩
      obtain ⟨o, A⟩ := A
      obtain ⟨a, b, c, u1, u2, u3, u4, B⟩ := B
      have hA : (if (4 : Int32) ≤ nI (exn F 0 24) then X4_bait_j42 (nI i) (-9) (-9) 0 (nI L) (nI G) (nI s0) (nI pc) (nI ns) (nI nc) hc lc (nI nc) (nI (om p nc)) (nI F) (wI w) (nI m) ov f e d1 d2 d3 d4 d5 d6 g1 g2 else ((m_X0_cells (nI L) (nI G)).bind (fun q15 => X4_bait_j42 (nI i) (-9) (-9) q15 (nI L) (nI G) (nI s0) (nI pc) (nI ns) (nI nc) hc lc (nI nc) (nI (om p nc)) (nI F) (wI w) (nI m) ov f e d1 d2 d3 d4 d5 d6 g1 g2))) = some ((if i = 0 then wI (bs Tn W N).1 else lw9 (bs Tn W N).2), o) := by
        by_cases q4 : exn F 0 24 = 4
        · rw [if_pos (show (4 : Int32) ≤ nI (exn F 0 24) by rw [q4]; decide)]
          rw [← hN, if_pos q4] at A ⊢
          exact A
        · rw [if_neg (fun y => by have := (ge4 (by omega)).mp y; omega), e_cells, obind]
          rw [← hN, if_neg q4] at A ⊢
          exact A
      rw [hA, B, obind]
      dsimp only
      rcases bs_ok (Tn := Tn) wc N with hb9 | ⟨hb1, hb2⟩
      · rw [hb9]
        by_cases z : i = 0
        · rw [if_pos z, if_pos ((eq0 n2).mpr z)]; exact ⟨_, _, _, rfl, rfl⟩
        · rw [if_neg z, if_neg (fun y => z ((eq0 n2).mp y)), if_pos (by rfl)]; exact ⟨_, _, _, rfl, rfl⟩
      · by_cases z : i = 0
        · rw [if_pos z, if_pos ((eq0 n2).mpr z)]; exact ⟨_, _, _, rfl, rfl⟩
        · have lwB : lw9 (bs Tn W N).2 = cw (bs Tn W N).2 := by unfold lw9; rw [if_neg (by omega)]
          rw [if_neg z, if_neg (fun y => z ((eq0 n2).mp y)), if_neg (by rw [wIn (by omega)]; exact m9_ne (by omega)), e_told hb2, obind, lwB]
          exact ⟨_, _, _, rfl, rfl⟩
    · exact ⟨_, _, _, by rw [if_neg (fun y => q2 ((le1' n2).mp y))], by rw [in_high (fun y => q2 ((le1' n2).mp y)), obind, if_pos rfl]⟩

/-! STEP, the class's walk and the call. -/
def pI (c : Nat) : Int32 := if c = 24 then -9 else nI c
theorem lt5 {a : Nat} (h : a < 2 ^ 31) : nI a < (5 : Int32) ↔ a < 5 := nI_ltI (b := 5) h (by decide)
theorem gt4 {a : Nat} (h : a < 2 ^ 31) : (4 : Int32) < nI a ↔ 4 < a := nI_ltI (a := 4) (by decide) h
theorem e_firstWay {L G s0 pc ns nc m n W i : Nat} {hb wh : Nat → Nat} {s : (Nat → Nat) × Nat} {f e tq hq hc lc' : Nat → Int32} {O : Nat → Nat} (P : PlOK L G s0 pc ns nc hb wh) (Hc : HcOK nc hb wh hc lc') (h : Sok (L * G) n s) (hm : m < 2 ^ 10) (hnc : nc ≤ n) (hn : n ≤ 8) (hf : ∀ j, j < n → f j = nI (s.1 j)) (hW : 2 ≤ W) (hW2 : W ≤ 40) (hi : i < W) (hO : ∀ t, om (rn (tk L s0 pc ns nc hb wh 99 n) m s t).1 n = O t) (hl : lf L G O 40 24 = W) :
    ∃ o1 o2 o3 o4 o5 o6 o7, m_X3_firstWay (nI W) (nI i) tq hq (nI L) (nI G) (nI s0) (nI pc) (nI ns) (nI nc) hc lc' (nI n) (nI (om s.1 n)) (nI s.2) (-9) (nI m) f e = some (nI (wk L G O (i + 1)).2, o1, o2, o3, o4, o5, o6, o7) := by
  obtain ⟨tq', hq', ⟨u1, u2, u3, u4, u5⟩, h1, h2, h3⟩ := e_lookBack (e := e) (tq := tq) (hq := hq) P Hc h hm hnc hn hf hW hW2 hO
  have P' := P
  obtain ⟨h0, hL, hG0, hG, hC, hs, hp0, hp, hns, hnc5, hb3, hwh⟩ := P'
  unfold m_X3_firstWay
  rw [h1, obind]
  dsimp only
  refine lpUpE _ (i + 1) (fun t z => ∃ x5, z = (x5, nI (wk L G O t).2, nI t) ∧ (t < W → x5 = pI (wk L G O t).1)) (fun z => ∃ o1 o2 o3 o4 o5 o6 o7, z = some (nI (wk L G O (i + 1)).2, o1, o2, o3, o4, o5, o6, o7)) ?_ ?_ (by omega) 0 (by omega) _ ⟨-9, by rw [wk]; rfl, fun _ => by rw [wk_0]; rfl⟩
  · intro t z rec ht hJ hrec
    obtain ⟨x5, rfl, hx⟩ := hJ
    have htW : t < W := by omega
    obtain ⟨i1, i2⟩ := wk_ok h0 hC hG hl hW2 t htW
    have hx5 := hx htW
    subst hx5
    rw [wk_s] at hrec
    dsimp only at hrec
    generalize (wk L G O t).2 = oldc at hrec ⊢
    generalize (wk L G O t).1 = c at i1 i2 hrec ⊢
    have hd : lf L G O (40 - t) c = W - t - 1 + 1 := by rw [i2]; omega
    dsimp only
    unfold X3_firstWay_f18
    rw [if_neg (fun q => by have := (nI_ltI (by omega) (by omega)).mp q; omega), if_neg (nI_ge htW (by omega))]
    have nxo := nx_ok (t := t) (d := W - t - 1) (c := c) h0 hC hG (by omega) i1 hd
    by_cases h24 : c = 24
    · subst h24
      rw [if_pos (show pI 24 = -9 from rfl), e_entryW h0 hC hG hW2 htW i2 h2 h3, obind]
      generalize lc L G O t 24 = k at nxo hrec ⊢
      rcases nxo with ⟨a1, a2, a3, a4, -⟩ | ⟨-, a2, -⟩
      · unfold X3_firstWay_j58
        rcases a4 rfl with e8 | e5
        · rw [if_neg (fun q => by have := (lt5 (by omega)).mp q; omega), if_pos ((le8 (by omega)).mpr (by omega))]
          unfold X3_firstWay_j87
          rw [if_pos ((gt4 (by omega)).mpr (by omega))]
          unfold X3_firstWay_j103
          rw [nI_1]
          refine hrec _ ⟨_, rfl, fun _ => ?_⟩
          show pI 24 = pI (nx L G 24 (k))
          unfold nx; rw [if_pos rfl, if_pos e8]
        · rw [if_neg (fun q => by have := (lt5 (by omega)).mp q; omega), if_neg (fun q => by have := (le8 (by omega)).mp q; omega), s5 e5.1, nI_mul, nm_eq]
          unfold X3_firstWay_j103
          rw [nI_1]
          refine hrec _ ⟨_, rfl, fun _ => ?_⟩
          show _ = pI (nx L G 24 (k))
          have hz : L * (k - 5) < L * G := Nat.mul_lt_mul_of_pos_left (by omega) h0
          have hnx : nx L G 24 k = L * (k - 5) := by unfold nx; rw [if_pos rfl, if_neg (by omega)]
          rw [hnx]
          unfold pI
          rw [if_neg (by omega), Nat.mul_comm]
      · omega
    · have hcC : c < L * G := by omega
      have hpI : pI c = nI c := by unfold pI; rw [if_neg h24]
      rw [hpI, if_neg (m9_ne (by omega)), e_moveW h0 hL hC hG hW2 htW hcC i2 h2 h3, obind]
      generalize lc L G O t c = k at nxo hrec ⊢
      have h4 : k ≤ 4 := by
        rcases nxo with ⟨-, -, -, -, a5⟩ | ⟨-, -, a3, -⟩
        · exact (a5 hcC).1
        · omega
      unfold X3_firstWay_j58
      rw [if_pos ((lt5 (by omega)).mpr (by omega))]
      unfold X3_firstWay_j87
      rw [if_neg (fun q => by have := (gt4 (by omega)).mp q; omega), e_cellBy h0 hL hC hcC h4, obind]
      unfold X3_firstWay_j103
      rw [nI_1]
      refine hrec _ ⟨_, rfl, fun htw => ?_⟩
      rcases nxo with ⟨-, -, -, -, a5⟩ | ⟨a1, -, -, -⟩
      · have a7 := (a5 hcC).2
        have hz : cb L G c (k) < L * G := by rcases cb_lt (h := k) h0 hcC with z | z; exact absurd z a7; exact z
        show _ = pI (nx L G c (k))
        unfold nx pI
        rw [if_neg h24, if_neg (by omega), wIn (by omega)]
      · omega
  · intro z rec hJ
    obtain ⟨x5, rfl, -⟩ := hJ
    dsimp only
    unfold X3_firstWay_f18
    rw [if_pos ((nI_ltI (by omega) (by omega)).mpr (Nat.lt_succ_self i))]
    exact ⟨_, _, _, _, _, _, _, rfl⟩
theorem v_step {L G s0 pc ns nc m w : Nat} {hb wh p : Nat → Nat} {F : Nat} {ov : Int32} {E f e st f3 e3 tq lq hc lc hc' lc' : Nat → Int32} {x d1 d2 d3 d4 d5 d6 y1 y2 y3 : Int32} {g1 g2 wt wp : Nat → Int32} (P : PlOK L G s0 pc ns nc hb wh) (H1 : HcOK nc hb wh hc lc) (H2 : HcOK nc hb wh hc' lc') (S : SC L G nc p E F m w ov f e st) :
    ∃ r o o', m_X4_step x (nI L) (nI G) (nI s0) (nI pc) (nI ns) (nI nc) hc lc (nI nc) (nI (om p nc)) (nI F) (wI w) (nI m) ov f e d1 d2 d3 d4 d5 d6 g1 g2 wt wp = some (r, o) ∧ m_X5_step x (nI G) (nI L) (nI nc) (nI s0) (nI pc) (nI ns) y1 y2 y3 hc' lc' st f3 e3 tq lq = some (r, o') := by
  have P' := P
  obtain ⟨h0, hL, hG0, hG, hC, hs, hp0, hp, hns, hnc5, hb3, hwh⟩ := P'
  obtain ⟨s1, s2, s3, s4, ⟨s5, s6⟩, s7⟩ := S
  have q0 := sx_0 (L := L) (G := G) (p := p) hnc5
  unfold m_X4_step m_X5_step
  by_cases q1 : (0 : Int32) ≤ x
  · rw [if_pos q1, if_pos q1]
    obtain ⟨i, i2, rfl⟩ := i_nat (x := x) (fun z => by
      rw [Int32.lt_iff_toInt_lt] at z
      rw [Int32.le_iff_toInt_le] at q1
      omega)
    have ok := sx_ok (L := L) (G := G) s1 q0
    generalize hO : (fun t => om (rn (tk L s0 pc ns nc hb wh 99 (exn 0 nc 24)) m (exq 0 nc p 24, F ||| 0) t).1 (exn 0 nc 24)) = O
    have hOt : ∀ t, om (rn (tk L s0 pc ns nc hb wh 99 (exn 0 nc 24)) m (exq 0 nc p 24, F ||| 0) t).1 (exn 0 nc 24) = O t := fun t => by rw [← hO]
    have hWf : Wf L G s0 pc ns nc hb wh p F m 0 0 = lf L G O 40 24 := by unfold Wf; rw [hO]
    have h1 : ∃ a1 a2 a3 a4 a5 a6 f' e', m_X4_soonestWith 0 (nI L) (nI G) (nI s0) (nI pc) (nI ns) (nI nc) hc lc (nI nc) (nI (om p nc)) (nI F) (wI w) (nI m) ov f e g1 g2 = some (cw (Wf L G s0 pc ns nc hb wh p F m 0 0), a1, a2, a3, a4, a5, a6, f', e') := e_withS P H1 s1 q0 (by omega) s5
    have h2 : ∃ a b c : Int32, ∃ f' e' tq' lq' : Nat → Int32, m_X5_findWay 0 0 (nI G) (nI L) (nI nc) (nI s0) (nI pc) (nI ns) hc' lc' st f3 e3 tq lq = some ((if lf L G O 40 24 ≤ 40 then nI (lf L G O 40 24) else 1000), a, b, c, f', e', tq', lq') ∧ (∀ t, t < 41 → tq' t = nI (O t)) ∧ ∀ t, t ≤ 40 → ∀ z, z ≤ 24 → lq' (25 * t + z) = nI (lf L G O (40 - t) z) := e_findWay (S := 0) (Xf := 0) P H2 q0.1 q0.2.2.1 ok (by omega) s7.1 s7.2.2.2.1 s7.2.2.2.2.1 hOt
    obtain ⟨a1, a2, a3, a4, a5, a6, f', e', h1⟩ := h1
    obtain ⟨a, b, c, u1, u2, u3, u4, h2, h3, h4⟩ := h2
    rw [h1, h2, obind, obind, hWf]
    dsimp only
    have hO24 : ∀ t, O t < 2 ^ 24 := fun t => by
      rw [← hOt t]
      have hk := (sok_rn (w := 99) (m := m) P exn_ge ok t).1
      exact om_lt (fun j hj => Nat.lt_of_lt_of_le (hk.1 j hj) hC)
    rcases lf_cases (O := O) h0 hC hG with e9 | ⟨e1, e2⟩
    · rw [e9, if_pos (show cw 1000 = -9 from rfl), if_neg (show ¬ 1000 ≤ 40 by decide), if_pos rfl]
      exact ⟨_, _, _, rfl, rfl⟩
    · have hcw : cw (lf L G O 40 24) = nI (lf L G O 40 24) := by unfold cw; rw [if_pos e2]
      have hW2 : 2 ≤ lf L G O 40 24 := by
        rcases (lf_ok (O := O) h0 hC hG 40 (Nat.le_refl 40) 24 (Or.inr rfl)).1 with g | ⟨-, -, g⟩
        · omega
        · rcases Nat.lt_or_ge 1 (lf L G O 40 24) with z | z
          · exact z
          · rw [show lf L G O 40 24 = 0 + 1 by omega] at g
            rcases (pth_out hC).mp g with y | ⟨r, -, -, y⟩ <;> exact absurd y (by rw [pth]; exact id)
      rw [hcw, if_neg (m9_ne (by omega)), if_pos e2, if_neg (show ¬ nI (lf L G O 40 24) = (1000 : Int32) from fun q => by have := (nI_eq (b := 1000) (by omega) (by decide)).mp q; omega)]
      by_cases q2 : i < lf L G O 40 24
      · rw [if_pos ((nI_ltI i2 (by omega)).mpr q2), if_pos ((nI_ltI i2 (by omega)).mpr q2)]
        have bb : ∃ f'' e'' : Nat → Int32, m_X4_sketchWith 0 (nI nc) (nI (om p nc)) (nI F) (wI w) (nI m) ov f e f' e' = some (nI (exn 0 nc 24), nI (om (exq 0 nc p 24) (exn 0 nc 24)), nI F, -9, nI m, ov, f'', e'') ∧ ∀ j, j < exn 0 nc 24 → f'' j = nI (exq 0 nc p 24 j) := e_sketch (S := 0) (by decide) q0.2.2.1 s5
        obtain ⟨f'', e'', b1, b2⟩ := bb
        obtain ⟨o1, o2, o3, o4, o5, o6, o7, c1⟩ := e_firstWay (m := m) (e := e'') (tq := wt) (hq := wp) P H1 ok (by omega) exn_ge q0.2.2.1 b2 hW2 e2 q2 hOt rfl
        rw [Nat.or_zero] at c1
        obtain ⟨o, k1⟩ := e_stepM (a := a) (b := b) (c := c) (f := u1) (e := u2) h0 hL hC hG hO24 h3 h4 rfl e2 q2
        rw [b1, obind]
        dsimp only
        rw [c1, obind, k1]
        exact ⟨_, _, _, rfl, rfl⟩
      · rw [if_neg (fun z => q2 ((nI_ltI i2 (by omega)).mp z)), if_neg (fun z => q2 ((nI_ltI i2 (by omega)).mp z))]
        exact ⟨_, _, _, rfl, rfl⟩
  · rw [if_neg q1, if_neg q1]
    exact ⟨_, _, _, rfl, rfl⟩

/-! bridge, on both sides. -/
theorem neg10 : ∀ f, f ≤ 200 → ¬ (0 : Int32) ≤ -10 - nI f := by
  have : ∀ f, f < 201 → ¬ (0 : Int32) ≤ -10 - nI f := by decide +kernel
  exact fun f hf => this f (by omega)
abbrev QT := Int32 × Int32 × Nat × Nat × Int32 × Int32 × Int32 × Int32 × Int32 × Int32 × Int32 × Int32 × Int32 × Nat × Nat × Nat × (Nat → Int32) × (Nat → Int32) × (Nat → Int32) × Int32 × Int32 × Int32 × Int32 × Int32 × Int32 × Int32 × Int32 × Int32 × Nat × Nat × Nat × (Nat → Int32) × (Nat → Int32) × (Nat → Int32) × Int32 × Int32 × Int32 × Int32 × Int32 × Int32 × Int32 × Int32 × Int32 × Int32 × Int32 × (Nat → Int32) × (Nat → Int32) × (Nat → Int32)
theorem e_clr {kx : (Nat → Int32) → Option QT} {kp : Nat → Int32} : lpN (fun (rec : Int32 × (Nat → Int32) → Option QT) (s : Int32 × (Nat → Int32)) => X4_bridge_f69 kx (fun r0 r1 => rec (r0, r1)) s.1 s.2) fz (0, kp) = kx (upd (upd kp 0 0) 1 0) := by
  refine lpUpI _ _ 2 (fun k s => s = (nI k, if k = 0 then kp else if k = 1 then upd kp 0 0 else upd (upd kp 0 0) 1 0)) ?_ ?_ (by omega) 0 (by omega) _ rfl
  · intro k s rec hk hJ hrec
    subst hJ
    dsimp only
    unfold X4_bridge_f69
    rw [if_neg (show ¬ (Int32.ofNat 2) ≤ nI k from nI_ge (b := 2) hk (by omega)), st_ok hk (by decide), nI_1]
    refine hrec _ ?_
    rcases (show k = 0 ∨ k = 1 by omega) with rfl | rfl
    · rfl
    · rfl
  · intro s rec hJ
    subst hJ
    dsimp only
    unfold X4_bridge_f69
    rw [if_pos (show (Int32.ofNat 2) ≤ nI 2 from nI_le (a := 2) (Nat.le_refl 2) (by decide))]
    rfl
theorem v_bridge0 {ty td dd tS tH tW dS dH dW : Nat} {tx tx' S' H' W' sa sb sc da db dc ce ea kp ha wo st ke : Nat → Int32} {a1 a2 a3 a4 a5 a6 a7 a8 a9 hc ht hf hw hm ho wide len cats sun pace nose num : Int32} {wd : Int64} (hty : ty ≤ 200) (h1 : ∀ j, j < ty → tx j &&& 255 = tx' j) (h2 : ∀ j, j < ty → ∃ b, b < 256 ∧ tx' j = nI b) :
    ∃ q r, m_X4_bridge (nI ty) td dd tx a1 a2 a3 a4 a5 a6 a7 a8 a9 tS tH tW sa sb sc dS dH dW da db dc hc ht hf hw hm ho ce ea kp = some q ∧ m_X5_bridge wide len cats sun pace nose (nI ty) num wd ha wo st ke tx' H' W' S' = some r ∧
    ((∃ (f : Nat) (b1 b2 b3 b4 b5 b6 b7 b8 b9 r1 r2 r3 r4 r5 c2 c3 c4 c5 c6 c7 c8 c9 d1 d2 d3 d4 d5 : Int32) (w : Int64) (da' db' dc' B1 B2 B3 : Nat → Int32), q = (-10 - nI f, nI ty, td, dd, a1, a2, a3, a4, a5, a6, a7, a8, a9, tS, tH, tW, sa, sb, sc, b1, b2, b3, b4, b5, b6, b7, b8, b9, dS, dH, dW, da', db', dc', r1, r2, r3, r4, r5, hc, ht, hf, hw, hm, ho, ce, ea, kp) ∧ r = (-10 - nI f, wide, len, cats, sun, pace, nose, nI ty, c2, c3, c4, c5, w, c6, c7, c8, c9, d1, d2, d3, d4, d5, ha, wo, st, ke, B1, B2, B3))
    ∨ (∃ (it L G s0 pc ns nc : Nat) (c hb wh : Nat → Nat) (b7 b8 b9 r1 r2 r3 r4 r5 c2 c3 c4 c5 c6 c7 c8 c9 d1 d2 d3 d4 d5 : Int32) (w : Int64) (da' db' dc' ce' ea' kp' ha' wo' st' ke' B1 B2 B3 : Nat → Int32), q = (nI it, 0, dd, td, nI L, nI G, nI s0, nI pc, nI ns, nI nc, b7, b8, b9, dS, dH, dW, da', db', dc', a1, a2, a3, a4, a5, a6, a7, a8, a9, tS, tH, tW, sa, sb, sc, r1, r2, r3, r4, r5, nI nc, nI (om c nc), 0, -9, 0, 0, ce', ea', kp') ∧ r = (nI it, nI G, nI L, nI nc, nI s0, nI pc, nI ns, 0, c2, c3, c4, c5, w, c6, c7, c8, c9, d1, d2, d3, d4, d5, ha', wo', st', ke', B1, B2, B3) ∧ PB L G s0 pc ns nc c hb wh ∧ AR nc c hb wh da' db' dc' ∧ AR nc c hb wh B3 ha' wo' ∧ ST0 nc c st' ∧ ke' 0 = 0 ∧ ke' 1 = 0 ∧ kp' 0 = 0 ∧ kp' 1 = 0 ∧ (∀ j, j < nc → ce' j = nI (c j)) ∧ ∀ j, j < nc → ea' j = 0)) := by
  have hB : ∃ B : Nat → Nat, ∀ j, j < ty → B j < 256 ∧ tx' j = nI (B j) := by
    refine ⟨fun j => (tx' j).toNatClampNeg, fun j hj => ?_⟩
    obtain ⟨b, hb, hx⟩ := h2 j hj
    dsimp only
    rw [hx, clN (by omega)]
    exact ⟨hb, rfl⟩
  obtain ⟨B, hB⟩ := hB
  have T1 : TB ty B tx := ⟨hty, fun j hj => ⟨(hB j hj).1, by rw [h1 j hj]; exact (hB j hj).2⟩⟩
  have T2 : TM ty B tx' := ⟨hty, hB⟩
  obtain ⟨q, r, g1, g2, g3⟩ := v_read (S := da) (H := db) (W := dc) (S' := S') (H' := H') (W' := W') (wide := wide) (len := len) (cats := cats) (sun := sun) (pace := pace) (nose := nose) (num0 := num) (wd0 := wd) (ha := ha) (wo := wo) (st := st) (ke := ke) T1 T2
  have g0 : m_X0_becomeAsAtFirst = some (5, 2, 0, 1, 3, 0, 1, 1, 1) := by
    unfold m_X0_becomeAsAtFirst
    rw [bz1, bz1, bz1]
  unfold m_X4_bridge
  rw [g0, obind]
  dsimp only
  rw [g1, obind, g2]
  rcases g3 with g3 | g3
  · obtain ⟨f, hf, hq, c2, c3, c4, c5, c6, c7, c8, c9, d1, d2, d3, d4, d5, w, B1, B2, B3, hr⟩ := g3
    rw [if_neg (by rw [hq]; exact neg10 f hf), hq]
    exact ⟨_, _, rfl, rfl, Or.inl ⟨f, _, _, _, _, _, _, _, _, _, _, _, _, _, _, _, _, _, _, _, _, _, _, _, _, _, _, _, _, _, _, _, _, _, _, rfl, hr⟩⟩
  · obtain ⟨it, L, G, s0, pc, ns, nc, c, hb, wh, x1, x2, x3, x4, x5, x6, x7, x8, c2, c3, c4, c5, d4, d5, w, S1, H1, W1, S2, H2, W2, ha', wo', st', ke', hit, rfl, rfl, P, X1, X2, hst, k0, k1⟩ := g3
    dsimp only
    have P' := P
    obtain ⟨p1, p2, p3, p4, p5, p6, p7, p8, p9, p10, p11⟩ := P'
    have hLG : L * G ≤ 24 := Nat.le_trans (Nat.mul_le_mul p2 p4) (by decide)
    obtain ⟨ce', ea', s1, s2, s3⟩ := e_start (ce := ce) (ea := ea) p9 (fun j hj => by have := (p10 j hj).1; omega) (fun j hj => (X1 j hj).1)
    rw [if_pos (nI_pos' (by omega)), s1, obind]
    dsimp only
    rw [e_clr]
    exact ⟨_, _, rfl, rfl, Or.inr ⟨it, L, G, s0, pc, ns, nc, c, hb, wh, x6, x7, x8, x1, x2, x3, x4, x5, c2, c3, c4, c5, 0, nI L, nI G, nI nc, nI s0, nI pc, nI ns, d4, d5, w, S1, H1, W1, ce', ea', _, ha', wo', st', ke', H2, W2, S2, rfl, rfl, P, X1, X2, hst, k0, k1, by rw [uq_ne (by decide), uq_eq], uq_eq, s2, s3⟩⟩
/-- what a good text gives -/
theorem br_rel {L G s0 pc ns nc : Nat} {c hb wh : Nat → Nat} {S H W S' H' W' ce ea st : Nat → Int32} (P : PB L G s0 pc ns nc c hb wh) (X1 : AR nc c hb wh S H W) (X2 : AR nc c hb wh S' H' W') (h1 : ST0 nc c st) (h2 : ∀ j, j < nc → ce j = nI (c j)) (h3 : ∀ j, j < nc → ea j = 0) :
    PlOK L G s0 pc ns nc hb wh ∧ HcOK nc hb wh H W ∧ HcOK nc hb wh H' W' ∧ (∀ j, j < nc → hb j ≠ 3 → W' j = -9) ∧ SC L G nc c (fun _ => 0) 0 0 99 0 ce ea st := by
  obtain ⟨p1, p2, p3, p4, p5, p6, p7, p8, p9, p10, p11⟩ := P
  have hLG : L * G ≤ 24 := Nat.le_trans (Nat.mul_le_mul p2 p4) (by decide)
  refine ⟨⟨p1, p2, p3, p4, hLG, p5, p6, p7, p8, p9, fun j hj => (p10 j hj).2.1, fun j hj y => (p10 j hj).2.2 y⟩, ⟨fun j hj => (X1 j hj).2.1, fun j hj y => by rw [(X1 j hj).2.2, if_pos y]⟩, ⟨fun j hj => (X2 j hj).2.1, fun j hj y => by rw [(X2 j hj).2.2, if_pos y]⟩, fun j hj y => by rw [(X2 j hj).2.2, if_neg y], ⟨⟨fun i hi => (p10 i hi).1, fun i j hi hj y => p11 i j hi hj y⟩, Nat.pow_pos (by decide)⟩, by omega, Or.inl rfl, by decide, ⟨h2, h3⟩, h1.1, h1.2.1, h1.2.2.1, h1.2.2.2.1, h1.2.2.2.2.1, h1.2.2.2.2.2⟩

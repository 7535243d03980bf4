/-! READING: the loops over the items. -/
abbrev LC := Int32 × Int32 × Int32 × Int32 × Int32 × Int32 × Int32 × Int32 × Int32 × Int32 × Int32 × Int32 × Int32 × Int32 × Int32 × (Nat → Int32) × (Nat → Int32) × (Nat → Int32)
abbrev LR := Int32 × Int32 × Int32 × Int32 × Int32 × Int64 × Int32 × Int32 × Int32 × Int32 × Int32 × Int32 × Int32 × Int32 × Int32 × (Nat → Int32) × (Nat → Int32) × (Nat → Int32)
def JG (B : Nat → Nat) (n k : Nat) (s : LC) (r : LR) : Prop := ∃ (e it L G s0 pc ns nc b sm nm : Nat) (c hb wh : Nat → Nat) (S H W S' H' W' : Nat → Int32) (t num : Int32) (wd : Int64), k = n - e ∧ e ≤ n ∧ it ≤ e ∧ s = (nI it, nI it, nI (tkK B n e), nI (tkS B n e), nI (tkE B n e), -1, nI L, nI G, nI s0, nI pc, nI ns, nI nc, nI b, nI sm, nI nm, S, H, W) ∧ r = (nI it, nI (tkE B n e), nI (tkS B n e), t, num, wd, 0, nI L, nI G, nI nc, nI s0, nI pc, nI ns, nI (1 - sm), nI (1 - nm), H', W', S') ∧ RT B n e t num wd ∧ b = (if it = 0 then 1 else 0) ∧ (b = 1 → nc = 0) ∧ sm ≤ 1 ∧ nm ≤ 1 ∧ PB L G s0 pc ns nc c hb wh ∧ AR nc c hb wh S H W ∧ AR nc c hb wh S' H' W'
def JB (n : Nat) (s : LC) (r : LR) : Prop := ∃ f : Nat, f ≤ n ∧ s.2.2.2.2.2.1 = nI f ∧ r.2.2.1 = nI f ∧ r.2.2.2.2.2.2.1 = 1
theorem bad_end {wide len cats sun pace nose n : Int32} {ha wo st ke : Nat → Int32} {q : CAq} {o : Option RB} (g : ∃ r, o = some r ∧ EBad wide len cats sun pace nose n ha wo st ke q r) : ∃ q' r, some q = some q' ∧ o = some r ∧ (EBad wide len cats sun pace nose n ha wo st ke q' r ∨ EGood q' r) := by
  obtain ⟨r, h1, h2⟩ := g
  exact ⟨q, r, rfl, h1, Or.inl h2⟩
theorem good_end {wide len cats sun pace nose n : Int32} {ha wo st ke : Nat → Int32} {q : CAq} {o : Option RB} (g : ∃ r, o = some r ∧ EGood q r) : ∃ q' r, some q = some q' ∧ o = some r ∧ (EBad wide len cats sun pace nose n ha wo st ke q' r ∨ EGood q' r) := by
  obtain ⟨r, h1, h2⟩ := g
  exact ⟨q, r, rfl, h1, Or.inr h2⟩
theorem v_read {n : Nat} {B : Nat → Nat} {tx tx' S H W S' H' W' : Nat → Int32} {wide len cats sun pace nose num0 : Int32} {wd0 : Int64} {ha wo st ke : Nat → Int32} (h : TB n B tx) (h' : TM n B tx') :
    ∃ q r, m_X1_readAll (nI n) tx 5 2 0 1 3 0 1 1 1 S H W = some q ∧ m_X5_bridge wide len cats sun pace nose (nI n) num0 wd0 ha wo st ke tx' H' W' S' = some r ∧ (EBad wide len cats sun pace nose (nI n) ha wo st ke q r ∨ EGood q r) := by
  have hn := h.1
  have hmin : minI (nI n) (Int32.ofNat 200) = nI n := by
    unfold minI
    by_cases q : (Int32.ofNat 200) < nI n
    · exact absurd ((nI_ltI (a := 200) (by decide) (by omega)).mp q) (by omega)
    · rw [if_neg q]
  obtain ⟨t', num', wd', g1, R1⟩ := r_next (num := num0) (wd := wd0) h' (e := 0) (Nat.zero_le n)
  have g1' : m_X5_next (nI n) 0 num0 wd0 tx' = _ := g1
  have g2 : m_X1_takeToken (nI n) 0 tx = _ := e_take h (e := 0) (Nat.zero_le n)
  have key : ∀ (o1 : Option CAq) (o2 : Option RB), (fun o1 o2 => ∃ q r, o1 = some q ∧ o2 = some r ∧ (EBad wide len cats sun pace nose (nI n) ha wo st ke q r ∨ EGood q r)) o1 o2 → ∃ q r, o1 = some q ∧ o2 = some r ∧ (EBad wide len cats sun pace nose (nI n) ha wo st ke q r ∨ EGood q r) := fun _ _ y => y
  unfold m_X1_readAll m_X5_bridge
  rw [nm_eq, hmin, g2, obind, bz0, bz0, bz0, g1', obind]
  dsimp only
  refine key _ _ (lpT2 _ _ (fun k s r => JG B n k s r ∨ JB n s r) (fun o1 o2 => ∃ q r, o1 = some q ∧ o2 = some r ∧ (EBad wide len cats sun pace nose (nI n) ha wo st ke q r ∨ EGood q r)) ?_ n _ _ (by omega) (Or.inl ⟨0, 0, 5, 2, 0, 1, 3, 0, 1, 1, 1, fun _ => 0, fun _ => 0, fun _ => 0, S, H, W, S', H', W', t', num', wd', by omega, by omega, by omega, rfl, rfl, R1, rfl, fun _ => rfl, by omega, by omega, ⟨by omega, by omega, by omega, by omega, by omega, by omega, by omega, by omega, by omega, fun j hj => absurd hj (Nat.not_lt_zero j), fun i j hi => absurd hi (Nat.not_lt_zero i)⟩, fun j hj => absurd hj (Nat.not_lt_zero j), fun j hj => absurd hj (Nat.not_lt_zero j)⟩))
  intro k s r r1 r2 hJ hrec
  rcases hJ with hJ | hJ
  · obtain ⟨e, it, L, G, s0, pc, ns, nc, b, sm, nm, c, hb, wh, S, H, W, S', H', W', t, num, wd, hk, he, hit, rfl, rfl, R, hb1, hbn, hsm, hnm, P, X1, X2⟩ := hJ
    dsimp only
    unfold X1_readAll_f43 X5_bridge_f56
    rw [if_neg (fun y => by have := (nI_ltI (by omega) (by omega)).mp y; omega)]
    by_cases q0 : tkK B n e = 0
    · rw [if_pos (by rw [q0]; rfl), if_pos ((rt13 R).2.2.mpr q0)]
      unfold X1_readAll_j81
      dsimp only
      rw [if_pos rfl]
      exact good_end (r_good (by omega) P X1 X2)
    · have hkk := tkK_le (B := B) (n := n) (e := e)
      have hee := (tk_bd (B := B) he).2.2.2.2 q0
      have he2 := tk_bd (B := B) he
      have hb2 : b ≤ 1 := by rw [hb1]; split <;> omega
      obtain ⟨q, r, k1, k2, k3⟩ := j_item h h' he q0 R hb2 hsm hnm hbn P X1 X2
      rw [if_neg (fun y => q0 ((eq0 (by omega)).mp y)), if_pos rfl, k1, obind, if_neg (fun y => q0 ((rt13 R).2.2.mp y)), if_pos rfl]
      have fin : ∀ x1 x2 : Int32, x1 = nI b → x2 = nI (it + 1) → ∃ q' r', r1 (x2, x2, q.1, q.2.1, q.2.2.1, q.2.2.2.1, q.2.2.2.2.1, q.2.2.2.2.2.1, q.2.2.2.2.2.2.1, q.2.2.2.2.2.2.2.1, q.2.2.2.2.2.2.2.2.1, q.2.2.2.2.2.2.2.2.2.1, q.2.2.2.2.2.2.2.2.2.2.1, q.2.2.2.2.2.2.2.2.2.2.2.1, q.2.2.2.2.2.2.2.2.2.2.2.2.1, q.2.2.2.2.2.2.2.2.2.2.2.2.2.1, q.2.2.2.2.2.2.2.2.2.2.2.2.2.2.1, q.2.2.2.2.2.2.2.2.2.2.2.2.2.2.2) = some q' ∧ r2 (x2, r.1, r.2.1, r.2.2.1, r.2.2.2.1, r.2.2.2.2.1, r.2.2.2.2.2.1, r.2.2.2.2.2.2.1, r.2.2.2.2.2.2.2.1, r.2.2.2.2.2.2.2.2.1, r.2.2.2.2.2.2.2.2.2.1, r.2.2.2.2.2.2.2.2.2.2.1, r.2.2.2.2.2.2.2.2.2.2.2.1, r.2.2.2.2.2.2.2.2.2.2.2.2.1, r.2.2.2.2.2.2.2.2.2.2.2.2.2.1, r.2.2.2.2.2.2.2.2.2.2.2.2.2.2.1, r.2.2.2.2.2.2.2.2.2.2.2.2.2.2.2.1, r.2.2.2.2.2.2.2.2.2.2.2.2.2.2.2.2) = some r' ∧ (EBad wide len cats sun pace nose (nI n) ha wo st ke q' r' ∨ EGood q' r') := by
        intro x1 x2 _ hx2
        rcases k3 with k3 | k3
        · obtain ⟨e', L', G', s', p', o', nc', c', hb', wh', sm', nm', S1, H1, W1, S2, H2, W2, t', num', wd', rfl, rfl, g1, g2, g3, g4, g5, g6, g7, g8⟩ := k3
          refine hrec (n - e') _ _ (by omega) (Or.inl ⟨e', it + 1, L', G', s', p', o', nc', 0, sm', nm', c', hb', wh', S1, H1, W1, S2, H2, W2, t', num', wd', rfl, g2, by omega, ?_, ?_, g3, rfl, fun y => absurd y (by decide), g4, g5, g6, g7, g8⟩)
          · rw [hx2]; rfl
          · rw [hx2]
        · obtain ⟨f, f1, f2, f3, f4⟩ := k3
          exact hrec 0 _ _ (by omega) (Or.inr ⟨f, f1, f2, f3, f4⟩)
      by_cases y : it = 0
      · have eb : b = 1 := by rw [hb1, if_pos y]
        rw [eb] at k2
        rw [if_pos (by rw [y]; rfl)]
        unfold X5_bridge_j80
        rw [show m_X5_readItem 1 _ _ _ _ _ _ _ _ _ _ _ _ _ _ _ _ _ _ _ = some r from k2, obind]
        exact fin 1 (nI it + 1) (by rw [eb]; rfl) (by rw [nI_1])
      · have eb : b = 0 := by rw [hb1, if_neg y]
        rw [eb] at k2
        rw [if_neg (fun z => y ((eq0 (by omega)).mp z))]
        unfold X5_bridge_j80
        rw [show m_X5_readItem 0 _ _ _ _ _ _ _ _ _ _ _ _ _ _ _ _ _ _ _ = some r from k2, obind]
        exact fin 0 (nI it + 1) (by rw [eb]; rfl) (by rw [nI_1])
  · obtain ⟨f, hf, h1, h2, h3⟩ := hJ
    obtain ⟨s1, s2, s3, s4, s5, s6, s7, s8, s9, s10, s11, s12, s13, s14, s15, s16, s17, s18⟩ := s
    obtain ⟨u1, u2, u3, u4, u5, u6, u7, u8, u9, u10, u11, u12, u13, u14, u15, u16, u17, u18⟩ := r
    dsimp only at h1 h2 h3 ⊢
    subst h1 h2 h3
    have jc : X1_readAll_j81 s1 (nI n) s3 s4 s5 (nI f) s7 s8 s9 s10 s11 s12 s13 s14 s15 s16 s17 s18 = some ((-10) - nI f, nI n, s3, s4, s5, nI f, s7, s8, s9, s10, s11, s12, s13, s14, s15, s16, s17, s18) := by
      unfold X1_readAll_j81
      rw [if_neg (m1_ne (by omega))]
    have ec : X1_readAll_f43 (nI n) tx (fun e4 e5 e6 e7 e8 e9 e10 e11 e12 e13 e14 e15 e16 e17 e18 e19 e20 => X1_readAll_j81 e4 (nI n) e5 e6 e7 e8 e9 e10 e11 e12 e13 e14 e15 e16 e17 e18 e19 e20) (fun r0 r1' r2 r3 r4 r5 r6 r7 r8 r9 r10 r11 r12 r13 r14 r15 r16 r17 => r1 (r0, r1', r2, r3, r4, r5, r6, r7, r8, r9, r10, r11, r12, r13, r14, r15, r16, r17)) s1 s2 s3 s4 s5 (nI f) s7 s8 s9 s10 s11 s12 s13 s14 s15 s16 s17 s18 = some ((-10) - nI f, nI n, s3, s4, s5, nI f, s7, s8, s9, s10, s11, s12, s13, s14, s15, s16, s17, s18) := by
      unfold X1_readAll_f43
      by_cases y1 : nI n < s2
      · rw [if_pos y1]; exact jc
      · rw [if_neg y1]
        by_cases y2 : s3 = 0
        · rw [if_pos y2]; exact jc
        · rw [if_neg y2, if_neg (m1_ne (by omega))]; exact jc
    rw [ec]
    unfold X5_bridge_f56
    by_cases y : u4 = 0
    · rw [if_pos y]
      exact bad_end (r_bad (by omega) rfl)
    · rw [if_neg y, if_neg (by decide)]
      exact bad_end (r_bad (by omega) rfl)

/-! CALLS: keep, back, type. -/
theorem rm_congr {nc : Nat} {p : Nat → Nat} {E st st' : Nat → Int32} {F m w : Nat} {ov : Int32} (hn : nc ≤ 5) (R : RM nc p E F m w ov st) (h : ∀ k, k < 14 → st' k = st k) : RM nc p E F m w ov st' := by
  obtain ⟨r0, r1, r2, r3, r4, r5⟩ := R
  exact ⟨by rw [h 0 (by decide), r0], by rw [h 1 (by decide), r1], by rw [h 2 (by decide), r2], by rw [h 3 (by decide), r3], fun j hj => by rw [h _ (by omega), r4 j hj], fun j hj => by rw [h _ (by omega), r5 j hj]⟩
theorem sc_congr {L G nc : Nat} {p : Nat → Nat} {E f e st f' e' st' : Nat → Int32} {F m w : Nat} {ov : Int32} (hn : nc ≤ 5) (S : SC L G nc p E F m w ov f e st) (hf : ∀ j, j < nc → f' j = f j) (he : ∀ j, j < nc → e' j = e j) (h : ∀ k, k < 14 → st' k = st k) : SC L G nc p E F m w ov f' e' st' := by
  obtain ⟨s1, s2, s3, s4, ⟨s5, s6⟩, s7⟩ := S
  exact ⟨s1, s2, s3, s4, ⟨fun j hj => by rw [hf j hj, s5 j hj], fun j hj => by rw [he j hj, s6 j hj]⟩, rm_congr hn s7 h⟩
def IMG (L G nc : Nat) (ca tk fi wa mi ov : Int32) (ce ea im : Nat → Int32) (b : Nat) : Prop := ∃ p E F m w, ca = nI nc ∧ tk = nI (om p nc) ∧ fi = nI F ∧ wa = wI w ∧ mi = nI m ∧ SC L G nc p E F m w ov ce ea (fun k => im (b + k))
theorem img_congr {L G nc : Nat} {ca tk fi wa mi ov : Int32} {ce ea im im' : Nat → Int32} {b : Nat} (hn : nc ≤ 5) (I : IMG L G nc ca tk fi wa mi ov ce ea im b) (h : ∀ k, k < 14 → im' (b + k) = im (b + k)) : IMG L G nc ca tk fi wa mi ov ce ea im' b := by
  obtain ⟨p, E, F, m, w, h1, h2, h3, h4, h5, S⟩ := I
  exact ⟨p, E, F, m, w, h1, h2, h3, h4, h5, sc_congr hn S (fun _ _ => rfl) (fun _ _ => rfl) h⟩
theorem m14 (i : Nat) : (14 : Int32) * nI i = nI (14 * i) := nI_mul 14 i
theorem le14 {a : Nat} (h : a < 2 ^ 31) : (14 : Int32) ≤ nI a ↔ 14 ≤ a := nI_leI (a := 14) (by decide) h
theorem e_keep5 {i : Nat} {st im kp : Nat → Int32} (hi : i ≤ 1) : ∃ im' : Nat → Int32, lpN (fun (rec : Int32 × (Nat → Int32) → Option (Int32 × (Nat → Int32) × (Nat → Int32))) (s : Int32 × (Nat → Int32)) => X5_keep_f13 (nI i) st (fun e4 => stI 2 kp (nI i) (vp_nar .boolean 1) (fun f5 => ldI 14 st 0 (fun y6 => some (y6, e4, f5)))) (fun r0 r1 => rec (r0, r1)) s.1 s.2) fz (0, im) = some (st 0, im', upd kp i (vp_nar .boolean 1)) ∧ (∀ k, k < 14 → im' (14 * i + k) = st k) ∧ ∀ q, (q < 14 * i ∨ 14 * i + 14 ≤ q) → im' q = im q := by
  refine lpUpE _ 14 (fun k s => ∃ g : Nat → Int32, s = (nI k, g) ∧ (∀ j, j < k → g (14 * i + j) = st j) ∧ ∀ q, (q < 14 * i ∨ 14 * i + 14 ≤ q) → g q = im q) (fun o => ∃ im' : Nat → Int32, o = some (st 0, im', upd kp i (vp_nar .boolean 1)) ∧ (∀ k, k < 14 → im' (14 * i + k) = st k) ∧ ∀ q, (q < 14 * i ∨ 14 * i + 14 ≤ q) → im' q = im q) ?_ ?_ (by decide) 0 (by decide) _ ⟨im, rfl, fun j hj => absurd hj (Nat.not_lt_zero j), fun _ _ => rfl⟩
  · intro k s rec hk hJ hrec
    obtain ⟨g, rfl, h1, h2⟩ := hJ
    dsimp only
    unfold X5_keep_f13
    rw [if_neg (fun q => absurd ((le14 (by omega)).mp q) (by omega)), ld_ok hk (by decide), m14, nI_add, st_ok (by omega) (by decide), nI_1]
    refine hrec _ ⟨upd g (14 * i + k) (st k), rfl, fun j hj => ?_, fun q hq => ?_⟩
    · unfold upd
      by_cases z : j = k
      · rw [if_pos (by omega), z]
      · rw [if_neg (by omega)]; exact h1 j (by omega)
    · unfold upd
      rw [if_neg (by omega)]; exact h2 q hq
  · intro s rec hJ
    obtain ⟨g, rfl, h1, h2⟩ := hJ
    dsimp only
    unfold X5_keep_f13
    rw [if_pos ((le14 (by decide)).mpr (Nat.le_refl 14))]
    dsimp only
    rw [st_ok (by omega) (by decide), ldA0]
    exact ⟨g, rfl, h1, h2⟩
theorem e_back5 {i : Nat} {st im : Nat → Int32} (hi : i ≤ 1) : ∃ st' : Nat → Int32, lpN (fun (rec : Int32 × (Nat → Int32) → Option (Int32 × (Nat → Int32))) (s : Int32 × (Nat → Int32)) => X5_back_f25 (nI i) im (fun e5 => ldI 14 e5 0 (fun y6 => some (y6, e5))) (fun r0 r1 => rec (r0, r1)) s.1 s.2) fz (0, st) = some (im (14 * i), st') ∧ ∀ k, k < 14 → st' k = im (14 * i + k) := by
  refine lpUpE _ 14 (fun k s => ∃ g : Nat → Int32, s = (nI k, g) ∧ ∀ j, j < k → g j = im (14 * i + j)) (fun o => ∃ st' : Nat → Int32, o = some (im (14 * i), st') ∧ ∀ k, k < 14 → st' k = im (14 * i + k)) ?_ ?_ (by decide) 0 (by decide) _ ⟨st, rfl, fun j hj => absurd hj (Nat.not_lt_zero j)⟩
  · intro k s rec hk hJ hrec
    obtain ⟨g, rfl, h1⟩ := hJ
    dsimp only
    unfold X5_back_f25
    rw [if_neg (fun q => absurd ((le14 (by omega)).mp q) (by omega)), m14, nI_add, ld_ok (by omega) (by decide), st_ok hk (by decide), nI_1]
    refine hrec _ ⟨upd g k (im (14 * i + k)), rfl, fun j hj => ?_⟩
    unfold upd
    by_cases z : j = k
    · rw [if_pos z, z]
    · rw [if_neg z]; exact h1 j (by omega)
  · intro s rec hJ
    obtain ⟨g, rfl, h1⟩ := hJ
    dsimp only
    unfold X5_back_f25
    rw [if_pos ((le14 (by decide)).mpr (Nat.le_refl 14))]
    dsimp only
    rw [ldA0, h1 0 (by decide)]
    exact ⟨g, rfl, h1⟩
/-- the kept images -/
def KP (L G nc : Nat) (c0 t0 f0 w0 m0 o0 : Int32) (ce0 ea0 : Nat → Int32) (c1 t1 f1 w1 m1 o1 : Int32) (ce1 ea1 kp kp' im : Nat → Int32) : Prop := kp 0 = kp' 0 ∧ kp 1 = kp' 1 ∧ (¬ kp 0 = 0 → IMG L G nc c0 t0 f0 w0 m0 o0 ce0 ea0 im 0) ∧ (¬ kp 1 = 0 → IMG L G nc c1 t1 f1 w1 m1 o1 ce1 ea1 im 14)
theorem e_isImage {x : Int32} : (m_X4_isImage x = some 0 ∧ m_X5_in x 0 1 = some 0) ∨ ∃ i, i ≤ 1 ∧ x = nI i ∧ m_X4_isImage x = some 1 ∧ m_X5_in x 0 1 = some 1 := by
  unfold m_X4_isImage
  by_cases q1 : x < 0
  · exact Or.inl ⟨by rw [if_pos q1, bz0], in_low q1⟩
  · obtain ⟨n, n2, rfl⟩ := i_nat q1
    rw [if_neg q1, ofN]
    by_cases q2 : n ≤ 1
    · exact Or.inr ⟨n, q2, rfl, by rw [if_neg (nI_ge (by omega) (by decide)), if_neg (nI_ge (by omega) (by decide)), bz1], in_yes q1 (nI_le (b := 1) q2 (by decide))⟩
    · exact Or.inl ⟨by rw [if_pos (nI_le (by omega) n2), bz0], in_high (nI_ge (a := 1) (by omega) n2)⟩
theorem v_keep {L G nc m w : Nat} {p : Nat → Nat} {F : Nat} {ov : Int32} {E f e st : Nat → Int32} {x : Int32} {c0 t0 f0 w0 m0 o0 : Int32} {ce0 ea0 : Nat → Int32} {c1 t1 f1 w1 m1 o1 : Int32} {ce1 ea1 kp kp' im : Nat → Int32} (hn : nc ≤ 5) (S : SC L G nc p E F m w ov f e st) (K : KP L G nc c0 t0 f0 w0 m0 o0 ce0 ea0 c1 t1 f1 w1 m1 o1 ce1 ea1 kp kp' im) :
    ∃ r c0' t0' f0' w0' m0' o0' ce0' ea0' c1' t1' f1' w1' m1' o1' ce1' ea1' kq kq' im', m_X4_keep x (nI nc) (nI (om p nc)) (nI F) (wI w) (nI m) ov f e c0 t0 f0 w0 m0 o0 ce0 ea0 c1 t1 f1 w1 m1 o1 ce1 ea1 kp = some (r, c0', t0', f0', w0', m0', o0', ce0', ea0', c1', t1', f1', w1', m1', o1', ce1', ea1', kq) ∧ m_X5_keep x st im kp' = some (r, im', kq') ∧ KP L G nc c0' t0' f0' w0' m0' o0' ce0' ea0' c1' t1' f1' w1' m1' o1' ce1' ea1' kq kq' im' := by
  obtain ⟨k1, k2, k3, k4⟩ := K
  have hst : st 0 = nI m := S.2.2.2.2.2.1
  unfold m_X4_keep m_X5_keep
  rcases e_isImage (x := x) with ⟨a1, a2⟩ | ⟨i, hi, rfl, a1, a2⟩
  · rw [a1, a2, obind, obind, if_pos rfl, if_pos rfl]
    exact ⟨_, _, _, _, _, _, _, _, _, _, _, _, _, _, _, _, _, _, _, _, rfl, rfl, k1, k2, k3, k4⟩
  · rw [a1, a2, obind, obind, if_neg (show ¬ (1 : Int32) = 0 by decide), if_neg (show ¬ (1 : Int32) = 0 by decide)]
    obtain ⟨im', h1, h2, h3⟩ := e_keep5 (i := i) (st := st) (im := im) (kp := kp') hi
    rw [h1, hst]
    rcases (show i = 0 ∨ i = 1 by omega) with z | z <;> subst z
    · obtain ⟨f', e', g1, g2, g3⟩ := e_copy (n := nc) (tk := nI (om p nc)) (F := nI F) (w := wI w) (m := nI m) (ov := ov) (f := ce0) (e := ea0) (f1 := f) (e1 := e) (by omega)
      rw [if_pos (by rfl), g1, obind, st_ok (by decide) (by decide)]
      refine ⟨_, _, _, _, _, _, _, _, _, _, _, _, _, _, _, _, _, _, _, _, rfl, rfl, ?_, ?_, fun _ => ⟨p, E, F, m, w, rfl, rfl, rfl, rfl, rfl, sc_congr hn S g2 g3 (fun k hk => h2 k hk)⟩, fun q => img_congr hn (k4 ?_) (fun k hk => h3 _ (Or.inr (by omega)))⟩
      · unfold upd; rw [if_pos rfl, if_pos rfl]
      · unfold upd; rw [if_neg (by decide), if_neg (by decide)]; exact k2
      · unfold upd at q; rw [if_neg (by decide)] at q; exact q
    · obtain ⟨f', e', g1, g2, g3⟩ := e_copy (n := nc) (tk := nI (om p nc)) (F := nI F) (w := wI w) (m := nI m) (ov := ov) (f := ce1) (e := ea1) (f1 := f) (e1 := e) (by omega)
      rw [if_neg (by decide), if_pos (by rfl), g1, obind, st_ok (by decide) (by decide)]
      refine ⟨_, _, _, _, _, _, _, _, _, _, _, _, _, _, _, _, _, _, _, _, rfl, rfl, ?_, ?_, fun q => img_congr hn (k3 ?_) (fun k hk => h3 _ (Or.inl (by omega))), fun _ => ⟨p, E, F, m, w, rfl, rfl, rfl, rfl, rfl, sc_congr hn S g2 g3 (fun k hk => h2 k hk)⟩⟩
      · unfold upd; rw [if_neg (by decide), if_neg (by decide)]; exact k1
      · unfold upd; rw [if_pos rfl, if_pos rfl]
      · unfold upd at q; rw [if_neg (by decide)] at q; exact q
theorem v_back {L G nc m w : Nat} {p : Nat → Nat} {F : Nat} {ov : Int32} {E f e st : Nat → Int32} {x : Int32} {c0 t0 f0 w0 m0 o0 : Int32} {ce0 ea0 : Nat → Int32} {c1 t1 f1 w1 m1 o1 : Int32} {ce1 ea1 kp kp' im : Nat → Int32} (hn : nc ≤ 5) (S : SC L G nc p E F m w ov f e st) (K : KP L G nc c0 t0 f0 w0 m0 o0 ce0 ea0 c1 t1 f1 w1 m1 o1 ce1 ea1 kp kp' im) :
    ∃ r p' E' F' m' w' ov' f' e' st', m_X4_back x (nI nc) (nI (om p nc)) (nI F) (wI w) (nI m) ov f e c0 t0 f0 w0 m0 o0 ce0 ea0 c1 t1 f1 w1 m1 o1 ce1 ea1 kp = some (r, nI nc, nI (om p' nc), nI F', wI w', nI m', ov', f', e') ∧ m_X5_back x st im kp' = some (r, st') ∧ SC L G nc p' E' F' m' w' ov' f' e' st' := by
  obtain ⟨k1, k2, k3, k4⟩ := K
  unfold m_X4_back m_X5_back
  rcases e_isImage (x := x) with ⟨a1, a2⟩ | ⟨i, hi, rfl, a1, a2⟩
  · rw [a1, a2, obind, obind, if_pos rfl, if_pos rfl]
    exact ⟨_, p, E, F, m, w, ov, f, e, st, rfl, rfl, S⟩
  · rw [a1, a2, obind, obind, if_neg (show ¬ (1 : Int32) = 0 by decide), if_neg (show ¬ (1 : Int32) = 0 by decide), ld_ok (by omega) (by decide), ld_ok (by omega) (by decide)]
    obtain ⟨st', h1, h2⟩ := e_back5 (i := i) (st := st) (im := im) hi
    rw [h1]
    rcases (show i = 0 ∨ i = 1 by omega) with z | z <;> subst z
    · by_cases q : kp 0 = 0
      · rw [if_pos q, if_pos (by rw [← k1, q])]
        exact ⟨_, p, E, F, m, w, ov, f, e, st, rfl, rfl, S⟩
      · obtain ⟨p', E', F', m', w', rfl, rfl, rfl, rfl, rfl, S'⟩ := k3 q
        obtain ⟨f', e', g1, g2, g3⟩ := e_copy (n := nc) (tk := nI (om p' nc)) (F := nI F') (w := wI w') (m := nI m') (ov := o0) (f := f) (e := e) (f1 := ce0) (e1 := ea0) (by omega)
        rw [if_neg q, if_pos (by rfl), g1, obind, if_neg (by rw [← k1]; exact q)]
        have hm : im (14 * 0) = nI m' := S'.2.2.2.2.2.1
        rw [hm]
        exact ⟨_, p', E', F', m', w', o0, f', e', st', rfl, rfl, sc_congr hn S' g2 g3 (fun k hk => h2 k hk)⟩
    · by_cases q : kp 1 = 0
      · rw [if_pos q, if_pos (by rw [← k2, q])]
        exact ⟨_, p, E, F, m, w, ov, f, e, st, rfl, rfl, S⟩
      · obtain ⟨p', E', F', m', w', rfl, rfl, rfl, rfl, rfl, S'⟩ := k4 q
        obtain ⟨f', e', g1, g2, g3⟩ := e_copy (n := nc) (tk := nI (om p' nc)) (F := nI F') (w := wI w') (m := nI m') (ov := o1) (f := f) (e := e) (f1 := ce1) (e1 := ea1) (by omega)
        rw [if_neg q, if_neg (by decide), if_pos (by rfl), g1, obind, if_neg (by rw [← k2]; exact q)]
        have hm : im (14 * 1) = nI m' := S'.2.2.2.2.2.1
        rw [hm]
        exact ⟨_, p', E', F', m', w', o1, f', e', st', rfl, rfl, sc_congr hn S' g2 g3 (fun k hk => h2 k hk)⟩
-- ===== type
theorem ushL_bit {v : Int64} {s : Int32} {k : Nat} (hs : ((s.toInt64.toUInt64 &&& Int64.toUInt64 63).toBitVec % 64).toNat = k) : (ushL v s).toBitVec = v.toBitVec >>> k := by
  subst hs; rfl
theorem shrL_bit {v : Int64} {s : Int32} {k : Nat} (hs : ((s.toInt64 &&& 63).toBitVec.smod 64).toNat = k) : (shrL v s).toBitVec = v.toBitVec.sshiftRight k := by
  subst hs; rfl
theorem sh_u : ∀ k, k < 8 → ((((8 : Int32) * nI k).toInt64.toUInt64 &&& Int64.toUInt64 63).toBitVec % 64).toNat = 8 * k := by decide +kernel
theorem sh_s : ∀ k, k < 8 → ((((8 : Int32) * nI k).toInt64 &&& 63).toBitVec.smod 64).toNat = 8 * k := by decide +kernel
theorem b255a : ∀ i, i < 32 → (255#32).getLsbD i = decide (i < 8) := by decide +kernel
theorem b255b : ∀ i, i < 64 → (255#64).getLsbD i = decide (i < 8) := by decide +kernel
def yb (v : Int64) (k : Nat) : Int32 := Int64.toInt32 ((shrL v ((8 : Int32) * nI k)) &&& 255)
theorem byte_eq {v : Int64} {k : Nat} (hk : k < 8) : (vp_nar .byte (Int8.toInt32 (Int32.toInt8 (Int64.toInt32 (ushL v ((8 : Int32) * nI k)))))) &&& 255 = yb v k := by
  apply Int32.toBitVec_inj.1
  show (((((ushL v ((8 : Int32) * nI k)).toBitVec.signExtend 32).signExtend 8).signExtend 32).signExtend 8).signExtend 32 &&& 255#32 = ((shrL v ((8 : Int32) * nI k)).toBitVec &&& 255#64).signExtend 32
  rw [ushL_bit (sh_u k hk), shrL_bit (sh_s k hk)]
  apply BitVec.eq_of_getLsbD_eq
  intro i hi
  rw [BitVec.getLsbD_and, b255a i hi]
  by_cases q : i < 8
  · have q1 : i < 32 := by omega
    have q2 : i < 64 := by omega
    have q3 : 8 * k + i < 64 := by omega
    simp only [BitVec.getLsbD_signExtend, BitVec.getLsbD_and, b255b i q2, q, q1, q2, decide_true, Bool.true_and, Bool.and_true, if_true, BitVec.getLsbD_ushiftRight, BitVec.getLsbD_sshiftRight, q3]
    simp [Nat.not_le.mpr q2]
  · rw [decide_eq_false q, Bool.and_false, BitVec.getLsbD_signExtend, BitVec.getLsbD_and, if_pos (by omega), b255b i (by omega), decide_eq_false q, Bool.and_false, Bool.and_false]
/-- the index that goes down: r are left -/
def xr (r : Nat) : Int32 := if r = 0 then -1 else nI (r - 1)
theorem xr_dec {r : Nat} (h : 0 < r) (h2 : r < 2 ^ 20) : nI (r - 1) + (-1) = xr (r - 1) := by
  unfold xr
  by_cases q : r - 1 = 0
  · rw [if_pos q, q]; decide
  · rw [if_neg q, nI_m1 (by omega) (by omega)]
theorem le200 {a : Nat} (h : a < 2 ^ 31) : nI a ≤ (200 : Int32) ↔ a ≤ 200 := nI_leI (b := 200) h (by decide)
theorem le8' {a : Nat} (h : a < 2 ^ 31) : nI a ≤ (8 : Int32) ↔ a ≤ 8 := nI_leI (b := 8) h (by decide)
theorem v_type {v : Int64} {x : Int32} {ty : Nat} {tx tx' : Nat → Int32} (hty : ty ≤ 200) (ht : ∀ j, j < ty → tx j &&& 255 = tx' j) :
    ∃ r ty' tq tq', m_X4_type v x (nI ty) tx = some (r, nI ty', tq) ∧ m_X5_type v x (nI ty) tx' = some (r, nI ty', tq') ∧ ty' ≤ 200 ∧ (∀ j, j < ty' → tq j &&& 255 = tq' j) ∧ ∀ j, j < ty' → (j < ty → tq' j = tx' j) ∧ (ty ≤ j → ∃ u, u < 8 ∧ tq' j = yb v u) := by
  unfold m_X4_type m_X5_type
  by_cases q1 : x < 1
  · rw [if_pos q1, in_low q1, obind, if_pos rfl]
    exact ⟨_, ty, tx, tx', rfl, rfl, hty, ht, fun j hj => ⟨fun _ => rfl, fun h => absurd hj (by omega)⟩⟩
  · obtain ⟨n, n1, n2, rfl⟩ := i_nat1 q1
    rw [if_neg q1]
    by_cases q2 : n ≤ 8
    · rw [if_pos ((le8' n2).mpr q2), in_yes q1 ((le8' n2).mpr q2), obind, if_neg (show ¬ (1 : Int32) = 0 by decide), nI_add]
      by_cases q3 : ty + n ≤ 200
      · rw [if_pos ((le200 (by omega)).mpr q3), if_pos ((le200 (by omega)).mpr q3), nm_eq, nm_eq, nI_s1 n1]
        have hx0 : nI (n - 1) = xr n := by unfold xr; rw [if_neg (by omega)]
        rw [hx0]
        have A : ∃ g : Nat → Int32, lpN (fun (rec : Int32 × Int32 × (Nat → Int32) → Option (Int32 × Int32 × (Nat → Int32))) (s : Int32 × Int32 × (Nat → Int32)) => X4_type_f33 v (fun e4 e5 => some (e4, e4, e5)) (fun r0 r1 r2 => rec (r0, r1, r2)) s.1 s.2.1 s.2.2) fz (xr n, nI ty, tx) = some (nI (ty + n), nI (ty + n), g) ∧ (∀ j, j < ty → g j = tx j) ∧ ∀ u, u < n → g (ty + u) &&& 255 = yb v (n - 1 - u) := by
          refine lpUpE _ n (fun t s => ∃ g : Nat → Int32, s = (xr (n - t), nI (ty + t), g) ∧ (∀ j, j < ty → g j = tx j) ∧ ∀ u, u < t → g (ty + u) &&& 255 = yb v (n - 1 - u)) (fun o => ∃ g : Nat → Int32, o = some (nI (ty + n), nI (ty + n), g) ∧ (∀ j, j < ty → g j = tx j) ∧ ∀ u, u < n → g (ty + u) &&& 255 = yb v (n - 1 - u)) ?_ ?_ (by omega) 0 (by omega) _ ⟨tx, rfl, fun _ _ => rfl, fun u hu => absurd hu (Nat.not_lt_zero u)⟩
          · intro t s rec hk hJ hrec
            obtain ⟨g, rfl, h1, h2⟩ := hJ
            have hx : xr (n - t) = nI (n - t - 1) := by unfold xr; rw [if_neg (by omega)]
            dsimp only
            unfold X4_type_f33
            rw [hx, if_neg (nI_lt0 (by omega)), if_neg (nI_lt0 (by omega)), ofN, if_neg (nI_ge (by omega) (by omega)), st_ok (by omega) (by decide), nm_eq, nI_1]
            unfold X4_type_j85
            rw [xr_dec (by omega) (by omega)]
            refine hrec _ ⟨_, rfl, fun j hj => ?_, fun u hu => ?_⟩
            · unfold upd; rw [if_neg (by omega)]; exact h1 j hj
            · unfold upd
              by_cases z : u = t
              · rw [if_pos (by omega), byte_eq (by omega), z, show n - t - 1 = n - 1 - t by omega]
              · rw [if_neg (by omega)]; exact h2 u (by omega)
          · intro s rec hJ
            obtain ⟨g, rfl, h1, h2⟩ := hJ
            have hx : xr (n - n) = -1 := by unfold xr; rw [if_pos (by omega)]
            dsimp only
            unfold X4_type_f33
            rw [hx, if_pos (by decide)]
            exact ⟨g, rfl, h1, h2⟩
        have B : ∃ g : Nat → Int32, lpN (fun (rec : Int32 × Int32 × (Nat → Int32) → Option (Int32 × Int32 × (Nat → Int32))) (s : Int32 × Int32 × (Nat → Int32)) => X5_type_f32 v (fun e5 e6 => some (e5, e5, e6)) (fun r0 r1 r2 => rec (r0, r1, r2)) s.1 s.2.1 s.2.2) fz (xr n, nI ty, tx') = some (nI (ty + n), nI (ty + n), g) ∧ (∀ j, j < ty → g j = tx' j) ∧ ∀ u, u < n → g (ty + u) = yb v (n - 1 - u) := by
          refine lpUpE _ n (fun t s => ∃ g : Nat → Int32, s = (xr (n - t), nI (ty + t), g) ∧ (∀ j, j < ty → g j = tx' j) ∧ ∀ u, u < t → g (ty + u) = yb v (n - 1 - u)) (fun o => ∃ g : Nat → Int32, o = some (nI (ty + n), nI (ty + n), g) ∧ (∀ j, j < ty → g j = tx' j) ∧ ∀ u, u < n → g (ty + u) = yb v (n - 1 - u)) ?_ ?_ (by omega) 0 (by omega) _ ⟨tx', rfl, fun _ _ => rfl, fun u hu => absurd hu (Nat.not_lt_zero u)⟩
          · intro t s rec hk hJ hrec
            obtain ⟨g, rfl, h1, h2⟩ := hJ
            have hx : xr (n - t) = nI (n - t - 1) := by unfold xr; rw [if_neg (by omega)]
            dsimp only
            unfold X5_type_f32
            rw [hx, if_neg (nI_lt0 (by omega)), st_ok (by omega) (by decide), nm_eq, nI_1, xr_dec (by omega) (by omega)]
            refine hrec _ ⟨_, rfl, fun j hj => ?_, fun u hu => ?_⟩
            · unfold upd; rw [if_neg (by omega)]; exact h1 j hj
            · unfold upd
              by_cases z : u = t
              · rw [if_pos (by omega), z, show n - t - 1 = n - 1 - t by omega]; rfl
              · rw [if_neg (by omega)]; exact h2 u (by omega)
          · intro s rec hJ
            obtain ⟨g, rfl, h1, h2⟩ := hJ
            have hx : xr (n - n) = -1 := by unfold xr; rw [if_pos (by omega)]
            dsimp only
            unfold X5_type_f32
            rw [hx, if_pos (by decide)]
            exact ⟨g, rfl, h1, h2⟩
        obtain ⟨g, a1, a2, a3⟩ := A
        obtain ⟨g', b1, b2, b3⟩ := B
        rw [a1, b1]
        refine ⟨_, ty + n, g, g', rfl, rfl, q3, fun j hj => ?_, fun j hj => ⟨fun h => b2 j h, fun h => ?_⟩⟩
        · by_cases z : j < ty
          · rw [a2 j z, b2 j z, ht j z]
          · have e1 := a3 (j - ty) (by omega)
            have e2 := b3 (j - ty) (by omega)
            rw [show ty + (j - ty) = j by omega] at e1 e2
            rw [e1, e2]
        · have e2 := b3 (j - ty) (by omega)
          rw [show ty + (j - ty) = j by omega] at e2
          exact ⟨_, by omega, e2⟩
      · rw [if_neg (fun z => q3 ((le200 (by omega)).mp z)), if_neg (fun z => q3 ((le200 (by omega)).mp z))]
        exact ⟨_, ty, tx, tx', rfl, rfl, hty, ht, fun j hj => ⟨fun _ => rfl, fun h => absurd hj (by omega)⟩⟩
    · rw [if_neg (fun z => q2 ((le8' n2).mp z)), in_high (fun z => q2 ((le8' n2).mp z)), obind, if_pos rfl]
      exact ⟨_, ty, tx, tx', rfl, rfl, hty, ht, fun j hj => ⟨fun _ => rfl, fun h => absurd hj (by omega)⟩⟩

/-! THE LAW: rows of its own walk. -/
theorem kL_law_c : Cond.constantLong RL 13 4294967295 ∈ wsL_law := List.mem_of_getElem? (i := 6) (by decide +kernel)
theorem yb_byte {v : Int64} {k : Nat} : ∃ b, b < 256 ∧ yb v k = nI b := by
  refine ⟨((shrL v ((8 : Int32) * nI k)).toBitVec &&& 255#64).toNat, ?_, ?_⟩
  · rw [BitVec.toNat_and]
    exact Nat.lt_of_le_of_lt Nat.and_le_right (by decide)
  · apply Int32.toBitVec_inj.1
    show ((shrL v ((8 : Int32) * nI k)).toBitVec &&& 255#64).signExtend 32 = BitVec.ofNat 32 _
    generalize (shrL v ((8 : Int32) * nI k)).toBitVec &&& 255#64 = y
    apply BitVec.eq_of_getLsbD_eq
    intro i hi
    rw [BitVec.getLsbD_signExtend, if_pos (show i < 64 by omega), BitVec.getLsbD_ofNat, decide_eq_true hi, Bool.true_and, Bool.true_and]
    rfl
def LX (X : KX) (b N : Nat) (xs : Nat → Int32) : Prop :=
  match X with
  | (_, _, _, _, s, _, _, _, _, _, _, _, A) => va_X b N xs s s.heap ∧ b < s.heap.size ∧ ¬ A b
section SL
variable {X : KX} {Qf : Unit → State → Prop} {ca sl nL : Nat} {o : Option Unit} {ws : va_W} {pc : Nat} {lv : List (Nat × Value)} {st : List Value} {cc : ByteArray} {own : String} {Ts : List Cond} {rm : Room}
theorem s_sld (C : Cx X cc own Ts nL rm) {b N : Nat} {xs : Nat → Int32} (L : LX X b N xs) {i : Int32} (j : Nat) (hj : j < N) (hN : N < 2 ^ 31) (e : i = nI j) (d : decode cc pc = .ok (.iaload, 1)) (k : Sim X Qf ca sl nL o ws (pc + 1) lv (.int (xs j) :: st)) : Sim X Qf ca sl nL o ws pc lv (.int i :: .ref b :: st) := by
  subst e
  obtain ⟨p, l, e, R, s, m, args, below, meth, c, D, T, A⟩ := X
  obtain ⟨hx, hb, hml, hown, hts, hK, hA, hN', rfl⟩ := C
  obtain ⟨hX, hbl, hbA⟩ := L
  intro r hr H locs ls hP hD hS hl
  refine va_sld hx hb hX hbl hbA hS (vp_in_nI hj hN) d ?_
  rw [nI_clamp (by omega)]
  exact k r hr H locs ls hP hD hS hl
theorem s_slen (C : Cx X cc own Ts nL rm) {b N : Nat} {xs : Nat → Int32} (L : LX X b N xs) (d : decode cc pc = .ok (.arraylength, 1)) (k : Sim X Qf ca sl nL o ws (pc + 1) lv (.int (nI N) :: st)) : Sim X Qf ca sl nL o ws pc lv (.ref b :: st) := by
  obtain ⟨p, l, e, R, s, m, args, below, meth, c, D, T, A⟩ := X
  obtain ⟨hx, hb, hml, hown, hts, hK, hA, hN', rfl⟩ := C
  obtain ⟨hX, hbl, hbA⟩ := L
  intro r hr H locs ls hP hD hS hl
  exact va_slen hx hb hX hbl hbA hS d (k r hr H locs ls hP hD hS hl)
theorem l_callV (C : Cx X cc own Ts nL rm) {y : MethodName} {bytes : ByteArray} {maxL index n : Nat} {ret : Option FieldType} {wl wl' : List Cond} {rmc : Room} {b : Nat} {Cn : String} (As : List Value) (wc : va_W) (rv : Option Value) (w1 : va_W) (hM : Ct (xL X) y wl rmc (.ref b :: As) (xD X) (xT X) wc rv w1)
    (hG : GoodIn Ts (wsV own index Cn y wl)) (hw : wl = Cond.code y bytes maxL ret :: wl') (hrc : rmc.cells = 0) (hrs : rmc.slots = 0) (hd : y.cls = Cn ∧ y.cls ≠ "java/lang/invoke/MethodHandle" ∧ y.cls ≠ "java/lang/invoke/VarHandle" ∧ (parseMethodDescriptor y.desc).map (fun d => d.parameters.length) = some n) (hRm : rmc.frames + 1 ≤ rm.frames ∧ 8 + (maxL + 11) + rmc.locals ≤ rm.locals) (hca : ca ≤ rm.cells ∧ sl ≤ rm.slots) (ci kr : Nat) {fs : List Value} {Tr : u_T} {Nr : Nat} (hcr : vwCl[ci]? = some (Cn, Tr, Nr)) (hkr : ws[kr]? = some (b, .inr (ci, fs))) (hn : As.length = n) (st0 : List Value) (hst : st0 = (As.reverse ++ .ref b :: st)) (hrest : (st.map fun v => v.category).sum ≤ 8) (d : decode cc pc = .ok (.invokevirtual index, 3))
    (isC isR pm : List Nat) (ws' : va_W) (hC : isC.map (fun i => ws[i]?) = wc.map some) (hRr : isR.all (fun i => decide (i < ws.length)) = true) (hnc : va_nd isC = true) (hnr : va_nd isR = true) (hdis : ∀ i ∈ isR, i ∉ isC) (hpm : pm.map (fun i => (isR.filterMap (fun i => ws[i]?) ++ w1)[i]?) = ws'.map some) (hnp : va_nd pm = true) (st' : List Value) (hst' : rv.toList ++ st = st')
    (k : Sim X Qf ca sl nL o ws' (pc + 3) lv st') : Sim X Qf ca sl nL o ws pc lv st0 :=
  s_callV (α := Unit) (om := some ()) (f := fun _ => o) C As wc (fun _ => rv) (fun _ => w1) (fun _ _ => hM) hG hw hrc hrs hd hRm hca ci kr hcr hkr hn st0 hst hrest d isC isR pm (fun _ => ws') hC hRr hnc hnr hdis (fun _ => hpm) hnp (fun _ => st') (fun _ => hst') (fun _ => k)
theorem l_eq (C : Cx X cc own Ts nL rm) {x : Int32} {off : Int} (tgt : Nat) (d : decode cc pc = .ok (.if_icmp .eq off, 3)) (ht : (pc : Int) + off = (tgt : Int)) (k : Sim X Qf ca sl nL o ws tgt lv st) : Sim X Qf ca sl nL o ws pc lv (.int x :: .int x :: st) := by
  rw [show o = if x = x then o else none from (if_pos rfl).symm]
  exact s_icmp_eq C tgt d ht k s_none
theorem l_lcmp (C : Cx X cc own Ts nL rm) {x : Int64} {off : Int} (tgt : Nat) (d : decode cc pc = .ok (.lcmp, 1)) (d2 : decode cc (pc + 1) = .ok (.ifCond .eq off, 3)) (ht : ((pc + 1 : Nat) : Int) + off = (tgt : Int)) (k : Sim X Qf ca sl nL o ws tgt lv st) : Sim X Qf ca sl nL o ws pc lv (.long x :: .long x :: st) := by
  refine s_lcmp C d ?_
  rw [show o = if lg_cmp x x = 0 then o else none from (if_pos (lgc0.mpr rfl)).symm]
  exact s_if_eq C tgt d2 ht k s_none
theorem l_sw {x : Int32} (k : Nat) {t td : Nat} {ts : List Nat} (k1 : Sim X Qf ca sl nL o ws t lv st) (k2 : Sim X Qf ca sl nL o ws (swt x (k + 1) ts td) lv st) : Sim X Qf ca sl nL o ws (swt x k (t :: ts) td) lv st := by
  rw [swt]
  by_cases h : x = Int32.ofNat k
  · rw [if_pos h]; exact k1
  · rw [if_neg h]; exact k2
end SL
/-! the start of both objects -/
theorem v_init4 : ∃ ce ea : Nat → Int32, m_X4_init = some (5, 2, 0, 1, 3, 0, 1, 1, 1, 5, 2, 0, 1, 3, 0, 1, 1, 1, 0, 0, 0, (-9), 0, 0, ce, ea) := by
  have g0 : m_X0_becomeAsAtFirst = some (5, 2, 0, 1, 3, 0, 1, 1, 1) := by
    unfold m_X0_becomeAsAtFirst
    rw [bz1, bz1, bz1]
  have g1 : m_X0_init = some (5, 2, 0, 1, 3, 0, 1, 1, 1) := by
    unfold m_X0_init
    rw [g0, obind]
  obtain ⟨ce, ea, h1, -, -⟩ := e_start (nc := 0) (c := fun _ => 0) (S := fun _ => 0) (ce := fun _ => 0) (ea := fun _ => 0) (by decide) (fun j hj => absurd hj (Nat.not_lt_zero j)) (fun j hj => absurd hj (Nat.not_lt_zero j))
  have h1' : m_X2_startAs (fun _ => 0) (fun _ => 0) 0 (fun _ => 0) = _ := h1
  refine ⟨ce, ea, ?_⟩
  unfold m_X4_init m_X1_init m_X2_init m_X3_init
  rw [g1, obind, obind, obind, obind, obind, obind, obind, obind]
  dsimp only
  rw [h1', obind]
  rfl
theorem v_init5 : m_X5_init = some (upd (fun _ => 0) 1 (-9)) := by
  unfold m_X5_init
  exact st_ok (i := 1) (by decide) (by decide)

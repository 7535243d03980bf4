/-! String constants (places j < 7), and the JDK's methods that are called on them -/
def sCh (j : Nat) (i : Int32) : Int32 := (sByt.getD j []).getD i.toNatClampNeg 0
def slI {β : Type} (j : Nat) (o : Option β) : Option β := if j < 7 then o else none
def chI {β : Type} (j : Nat) (i : Int32) (g : Int32 → Option β) : Option β := if j < 7 then (if i < 0 ∨ sLen.getD j 0 ≤ i.toNatClampNeg then none else g (sCh j i)) else none
theorem sCh_byte : ∀ j, j < 7 → ∀ n, n < sLen.getD j 0 → (((((sByt.getD j []).getD n 0) &&& 255).toUInt32 % 65536).toInt32 = (sByt.getD j []).getD n 0 ∧ narrow .char (.int ((sByt.getD j []).getD n 0)) = .int ((sByt.getD j []).getD n 0)) := by decide +kernel
theorem sLen_small : ∀ j, j < 7 → sLen.getD j 0 ≤ 8 := by decide
section SS
variable {ρ : Type} {X : KX} {Qf : ρ → State → Prop} {ca sl nL : Nat} {o o1 o2 : Option ρ} {ws : va_W} {pc : Nat} {lv : List (Nat × Value)} {st : List Value} {cc : ByteArray} {own : String} {Ts : List Cond} {rm : Room}
theorem s_i2c (C : Cx X cc own Ts nL rm) {x : Int32} (d : decode cc pc = .ok (.i2c, 1)) (k : Sim X Qf ca sl nL o ws (pc + 1) lv (.int (x.toUInt32 % 65536).toInt32 :: st)) : Sim X Qf ca sl nL o ws pc lv (.int x :: st) := by
  obtain ⟨p, l, e, R, s, m, args, below, meth, c, D, T, A⟩ := X
  obtain ⟨hx, hb, hml, hown, hts, hK, hA, hN, hR⟩ := C
  intro r hr H locs ls hP hD hS hl
  exact lv_i2c hx hb d rfl (k r hr H locs ls hP hD hS hl)
theorem s_getsZ (C : Cx X cc own Ts nL rm) {idx : Nat} (hlink : Cond.fieldLink own idx "java/lang/String" "COMPACT_STRINGS" "Z" ∈ Ts) (d : decode cc pc = .ok (.getstatic idx, 3)) (k : Sim X Qf ca sl nL o ws (pc + 3) lv (.int 1 :: st)) : Sim X Qf ca sl nL o ws pc lv st := by
  obtain ⟨p, l, e, R, s, m, args, below, meth, c, D, T, A⟩ := X
  obtain ⟨hx, hb, hml, hown, hts, hK, hA, hN, hR⟩ := C
  intro r hr H locs ls hP hD hS hl
  exact va_gets hx hb hN.2.2.2.1 hS hown (hts _ hlink) (fun _ h9 => h9) d (k r hr H locs ls hP hD hS hl)
theorem s_getsQ (C : Cx X cc own Ts nL rm) {idx : Nat} (hlink : Cond.fieldLink own idx "jdk/internal/util/Preconditions" "SIOOBE_FORMATTER" "Ljava/util/function/BiFunction;" ∈ Ts) (d : decode cc pc = .ok (.getstatic idx, 3)) (k : ∀ v : Value, (v = .null ∨ ∃ t, v = .ref t) → Sim X Qf ca sl nL o ws (pc + 3) lv (v :: st)) : Sim X Qf ca sl nL o ws pc lv st := by
  obtain ⟨p, l, e, R, s, m, args, below, meth, c, D, T, A⟩ := X
  obtain ⟨hx, hb, hml, hown, hts, hK, hA, hN, hR⟩ := C
  intro r hr H locs ls hP hD hS hl
  rcases hN.2.2.2.2.1 with h | ⟨t, h⟩
  · exact va_gets hx hb h hS hown (hts _ hlink) (fun _ h9 => h9) d (k .null (Or.inl rfl) r hr H locs ls hP hD hS hl)
  · exact va_gets hx hb h hS hown (hts _ hlink) (fun _ h9 => h9) d (k (.ref t) (Or.inr ⟨t, rfl⟩) r hr H locs ls hP hD hS hl)
theorem s_getSv (C : Cx X cc own Ts nL rm) {idx j : Nat} (hj : j < 7) (hlink : Cond.fieldLink own idx "java/lang/String" "value" "[B" ∈ Ts) (d : decode cc pc = .ok (.getfield idx, 3)) (k : Sim X Qf ca sl nL o ws (pc + 3) lv (.ref (xT X (200 + j)) :: st)) : Sim X Qf ca sl nL o ws pc lv (.ref (xT X (100 + j)) :: st) := by
  obtain ⟨p, l, e, R, s, m, args, below, meth, c, D, T, A⟩ := X
  obtain ⟨hx, hb, hml, hown, hts, hK, hA, hN, hR⟩ := C
  intro r hr H locs ls hP hD hS hl
  exact vk_getf hx hb (hN.2.1.1 j hj).2.2.1 hS hown (hts _ hlink) (fun _ h9 => h9) d (k r hr H locs ls hP hD hS hl)
theorem s_getSc (C : Cx X cc own Ts nL rm) {idx j : Nat} (hj : j < 7) (hlink : Cond.fieldLink own idx "java/lang/String" "coder" "B" ∈ Ts) (d : decode cc pc = .ok (.getfield idx, 3)) (k : Sim X Qf ca sl nL o ws (pc + 3) lv (.int 0 :: st)) : Sim X Qf ca sl nL o ws pc lv (.ref (xT X (100 + j)) :: st) := by
  obtain ⟨p, l, e, R, s, m, args, below, meth, c, D, T, A⟩ := X
  obtain ⟨hx, hb, hml, hown, hts, hK, hA, hN, hR⟩ := C
  intro r hr H locs ls hP hD hS hl
  exact vk_getf hx hb (hN.2.1.1 j hj).2.1 hS hown (hts _ hlink) (fun _ h9 => h9) d (k r hr H locs ls hP hD hS hl)
theorem s_alenS (C : Cx X cc own Ts nL rm) {j : Nat} (hj : j < 7) (d : decode cc pc = .ok (.arraylength, 1)) (k : Sim X Qf ca sl nL o ws (pc + 1) lv (.int (Int32.ofNat (sLen.getD j 0)) :: st)) : Sim X Qf ca sl nL o ws pc lv (.ref (xT X (200 + j)) :: st) := by
  obtain ⟨p, l, e, R, s, m, args, below, meth, c, D, T, A⟩ := X
  obtain ⟨hx, hb, hml, hown, hts, hK, hA, hN, hR⟩ := C
  intro r hr H locs ls hP hD hS hl
  obtain ⟨cell, h1, h2, h3, h4, h5, h6, h7⟩ := ((hN.2.1.1 j hj).2.2.2).kept hS.2.1
  exact W.alen (n := Int32.ofNat (sLen.getD j 0)) hx hb h1 h2 h5 rfl rfl d (k r hr H locs ls hP hD hS hl)
theorem s_baldS (C : Cx X cc own Ts nL rm) {j : Nat} {i : Int32} (hj : j < 7) (h0 : ¬ i < 0) (hi : i.toNatClampNeg < sLen.getD j 0) (d : decode cc pc = .ok (.baload, 1)) (k : Sim X Qf ca sl nL o ws (pc + 1) lv (.int (sCh j i) :: st)) : Sim X Qf ca sl nL o ws pc lv (.int i :: .ref (xT X (200 + j)) :: st) := by
  obtain ⟨p, l, e, R, s, m, args, below, meth, c, D, T, A⟩ := X
  obtain ⟨hx, hb, hml, hown, hts, hK, hA, hN, hR⟩ := C
  intro r hr H locs ls hP hD hS hl
  obtain ⟨cell, h1, h2, h3, h4, h5, h6, h7⟩ := ((hN.2.1.1 j hj).2.2.2).kept hS.2.1
  exact W.bald (v := .int (sCh j i)) hx hb h1 h2 h3 (fun q => q.elim h0 (fun q => by omega)) (h6 _ hi) rfl rfl d (k r hr H locs ls hP hD hS hl)
theorem s_ldcS (C : Cx X cc own Ts nL rm) (j : Nat) (hj : j < 7) (d : decode cc pc = .ok (.ldc (sIx j), 2)) (ho : own = RX1 := by rfl) (k : Sim X Qf ca sl nL o ws (pc + 2) lv (.ref (xT X (100 + j)) :: st)) : Sim X Qf ca sl nL o ws pc lv st := by
  subst ho
  obtain ⟨p, l, e, R, s, m, args, below, meth, c, D, T, A⟩ := X
  obtain ⟨hx, hb, hml, hown, hts, hK, hA, hN, hR⟩ := C
  intro r hr H locs ls hP hD hS hl
  exact va_ldcS hx hb hown (hN.2.2.1 j hj) d (k r hr H locs ls hP hD hS hl)
theorem s_if_eq_n (C : Cx X cc own Ts nL rm) {x : Int32} {off : Int} (tgt : Nat) (h : ¬ x = 0) (d : decode cc pc = .ok (.ifCond .eq off, 3)) (ht : (pc : Int) + off = (tgt : Int)) (k : Sim X Qf ca sl nL o ws (pc + 3) lv st) : Sim X Qf ca sl nL o ws pc lv (.int x :: st) := by
  have z := s_if_eq (x := x) (o1 := none) C tgt d ht s_none k
  rwa [if_neg h] at z
theorem s_if_ne_n (C : Cx X cc own Ts nL rm) {x : Int32} {off : Int} (tgt : Nat) (h : x = 0) (d : decode cc pc = .ok (.ifCond .ne off, 3)) (ht : (pc : Int) + off = (tgt : Int)) (k : Sim X Qf ca sl nL o ws (pc + 3) lv st) : Sim X Qf ca sl nL o ws pc lv (.int x :: st) := by
  have z := s_if_ne (x := x) (o1 := none) C tgt d ht s_none k
  rwa [if_pos h] at z
theorem s_if_lt_n (C : Cx X cc own Ts nL rm) {x : Int32} {off : Int} (tgt : Nat) (h : ¬ x < 0) (d : decode cc pc = .ok (.ifCond .lt off, 3)) (ht : (pc : Int) + off = (tgt : Int)) (k : Sim X Qf ca sl nL o ws (pc + 3) lv st) : Sim X Qf ca sl nL o ws pc lv (.int x :: st) := by
  have z := s_if_lt (x := x) (o1 := none) C tgt d ht s_none k
  rwa [if_neg h] at z
theorem s_icmp_lt_t (C : Cx X cc own Ts nL rm) {x y : Int32} {off : Int} (tgt : Nat) (h : x < y) (d : decode cc pc = .ok (.if_icmp .lt off, 3)) (ht : (pc : Int) + off = (tgt : Int)) (k : Sim X Qf ca sl nL o ws tgt lv st) : Sim X Qf ca sl nL o ws pc lv (.int y :: .int x :: st) := by
  have z := s_icmp_lt (x := x) (y := y) (o2 := none) C tgt d ht k s_none
  rwa [if_pos h] at z
end SS
def RtN (ty : FieldType) {ρ : Type} (X : KX) (Qf : ρ → State → Prop) (cc : ByteArray) (nL : Nat) (RV : ρ → Option Value) (W1 : ρ → va_W) : Prop := ∀ (r : ρ) (pc : Nat) (lv : List (Nat × Value)) (v : Int32), RV r = some (.int v) → narrow ty (.int v) = .int v → decode cc pc = .ok (.ireturn, 1) → Wk X (Qf r) 0 0 nL (W1 r) pc lv [.int v]
theorem s_retN {ty : FieldType} {ρ : Type} {X : KX} {Qf : ρ → State → Prop} {cc : ByteArray} {nL : Nat} {ws : va_W} {pc : Nat} {lv : List (Nat × Value)} {RV : ρ → Option Value} {W1 : ρ → va_W} (hR : RtN ty X Qf cc nL RV W1) {v : Int32} (r : ρ) (hv : RV r = some (.int v)) (hn : narrow ty (.int v) = .int v) (hw : W1 r = ws) (d : decode cc pc = .ok (.ireturn, 1)) : Sim X Qf 0 0 nL (some r) ws pc lv [.int v] := by
  intro r' e
  obtain rfl := Option.some.inj e
  exact hw ▸ hR r pc lv v hv hn d
theorem ct_N (ty : FieldType) {ρ : Type} {l : Launch} {y : MethodName} {wl wl' : List Cond} {rm : Room} {av : List Value} {D : va_G} {T : Nat → ClassId} {W0 : va_W} {cc : ByteArray} {maxL : Nat} (hy : plainName y.cls = true) (hw : wl = .code y cc maxL (some ty) :: wl') (hlen : (lg_sl av).length ≤ maxL) (o : Option ρ) (RV : ρ → Option Value) (W1 : ρ → va_W)
    (body : ∀ (X : KX) (Qf : ρ → State → Prop), xL X = l → xD X = D → xT X = T → Cx X cc y.cls wl maxL rm → RtN ty X Qf cc maxL RV W1 → Sim X Qf 0 0 maxL o W0 0 (lv_args 0 av) []) : ∀ r : ρ, o = some r → Ct l y wl rm av D T W0 (RV r) (W1 r) := by
  intro r ho sz
  refine Met.ofW (cc := cc) (maxL := maxL) (ret := (some ty)) hy hw ?_
  intro p e s m args below meth c s₁ B hml hv
  obtain ⟨rfl, hsz, hP, hK, hN, hD0⟩ := hv
  have hx := B.exec
  have hb := B.bytes
  have hts := atoms_spec (ws := wl) B.pre
  have hown : s.vm.findClass y.cls = some m.cls := findClass_of_methodNamed B.named
  have hlocks := B.notSynchronized
  subst hsz
  have hD := hD0.self (sz := s.heap.size)
  have hl := lv_entry av hlen
  rw [lg_entry_eq]
  refine body (p, l, e, (headSpec wl rm).room, s, m, av.toArray, below, meth, c, D, T, va_A W0 s.heap.size) (fun r => MQ below (Qc0 D W0 s.heap.size (RV r) (W1 r)) av.toArray s 0 0 (va_A W0 s.heap.size)) rfl rfl rfl ⟨hx, hb, hml, hown, hts, hK, fun q h => Or.inr h, hN, rfl⟩ ?_ r ho s.heap [] _ hP hD va_S.rf hl
  intro r pc lv v hv h0 d H locs ls hP hD hS hl
  exact W.zret (ty := ty) hx hb B.returns h0 (fun t ht hW => ⟨⟨by rw [hv], by rw [ht]; exact hP, hD⟩, hS.F ht⟩) hS.2.2 d
set_option maxHeartbeats 4000000 in
theorem c_J0_coder_7d493 (l : Launch) (D : va_G) (T : Nat → ClassId) (j : Nat) (hj : j < 7) : Ct l yJ0_coder_7d493 wsJ0_coder_7d493 { frames := 0, cells := 0, slots := 0, locals := 0 } [.ref (T (100 + j))] D T [] (some (.int 0)) [] := by
  refine ct_N .byte (by decide) rfl (Nat.le_of_ble_eq_true rfl) (some ()) (fun _ => some (.int 0)) (fun _ => []) ?_ () rfl
  intro X Qf hL hD hT C hR
  subst hT
  refine s_getsZ C (by decide +kernel) dJ0_coder_7d493_0 ?_
  refine s_if_eq_n C 13 (by decide) dJ0_coder_7d493_3 (by decide) ?_
  refine s_aload_n C 0 dJ0_coder_7d493_6 rfl rfl ?_
  refine s_getSc C hj (by decide +kernel) dJ0_coder_7d493_7 ?_
  refine s_goto C 14 dJ0_coder_7d493_10 (by decide) ?_
  exact s_retN hR () rfl rfl rfl dJ0_coder_7d493_14
set_option maxHeartbeats 4000000 in
theorem c_J0_isLatin1_aae02 (l : Launch) (D : va_G) (T : Nat → ClassId) (j : Nat) (hj : j < 7) : Ct l yJ0_isLatin1_aae02 wsJ0_isLatin1_aae02 { frames := 0, cells := 0, slots := 0, locals := 0 } [.ref (T (100 + j))] D T [] (some (.int 1)) [] := by
  refine ct_N .boolean (by decide) rfl (Nat.le_of_ble_eq_true rfl) (some ()) (fun _ => some (.int 1)) (fun _ => []) ?_ () rfl
  intro X Qf hL hD hT C hR
  subst hT
  refine s_getsZ C (by decide +kernel) dJ0_isLatin1_aae02_0 ?_
  refine s_if_eq_n C 17 (by decide) dJ0_isLatin1_aae02_3 (by decide) ?_
  refine s_aload_n C 0 dJ0_isLatin1_aae02_6 rfl rfl ?_
  refine s_getSc C hj (by decide +kernel) dJ0_isLatin1_aae02_7 ?_
  refine s_if_ne_n C 17 rfl dJ0_isLatin1_aae02_10 (by decide) ?_
  refine s_iconst C 1 dJ0_isLatin1_aae02_13 (by decide) ?_
  refine s_goto C 18 dJ0_isLatin1_aae02_14 (by decide) ?_
  exact s_retN hR () rfl rfl rfl dJ0_isLatin1_aae02_18
set_option maxHeartbeats 4000000 in
theorem c_J0_length_8abf5 (l : Launch) (D : va_G) (T : Nat → ClassId) (j : Nat) (hj : j < 7) : Ct l yJ0_length_8abf5 wsJ0_length_8abf5 { frames := 1, cells := 0, slots := 0, locals := 20 } [.ref (T (100 + j))] D T [] (some (.int (Int32.ofNat (sLen.getD j 0)))) [] := by
  refine ct_I (by decide) rfl (Nat.le_of_ble_eq_true rfl) (some ()) (fun _ => some (.int (Int32.ofNat (sLen.getD j 0)))) (fun _ => []) ?_ () rfl
  intro X Qf hL hD hT C hR
  subst hT
  refine s_aload_n C 0 dJ0_length_8abf5_0 rfl rfl ?_
  refine s_getSv C hj (by decide +kernel) dJ0_length_8abf5_1 ?_
  refine s_alenS C hj dJ0_length_8abf5_4 ?_
  refine s_aload_n C 0 dJ0_length_8abf5_5 rfl rfl ?_
  show Sim X Qf 0 0 1 ((some ()).bind (fun _ => some ())) _ _ _ _
  refine s_callW (n := 0) (om := some ()) (f := fun _ => some ()) C [] _ _ _ (fun _ _ => c_J0_coder_7d493 (xL X) (xD X) (xT X) j hj) gJ0_length_8abf5_J0_coder_7d493 rfl rfl rfl ⟨rfl, by decide +kernel, by decide +kernel, by decide +kernel⟩ ⟨Nat.le_of_ble_eq_true rfl, Nat.le_of_ble_eq_true rfl⟩ ⟨Nat.le_of_ble_eq_true rfl, Nat.le_of_ble_eq_true rfl⟩ hj rfl [.ref (xT X (100 + j)), .int (Int32.ofNat (sLen.getD j 0))] rfl (Nat.le_of_ble_eq_true rfl) dJ0_length_8abf5_6 [] [] [] (fun _ => []) rfl rfl (by decide) (by decide) (by decide) (fun _ => rfl) (by decide) (fun _ => [.int 0, .int (Int32.ofNat (sLen.getD j 0))]) (fun _ => rfl) (fun _ => ?_)
  refine s_ishr C dJ0_length_8abf5_9 ?_
  exact s_retI hR () (by rw [show (Int32.ofNat (sLen.getD j 0)) >>> ((0 : Int32) &&& 31) = (Int32.ofNat (sLen.getD j 0)) from sc_shr0 (by have := sLen_small j hj; omega)]) rfl dJ0_length_8abf5_10
set_option maxHeartbeats 4000000 in
theorem c_J3_checkIndex_8e157 (l : Launch) (D : va_G) (T : Nat → ClassId) (i n : Int32) (v : Value) (hv : v = .null ∨ ∃ t, v = .ref t) (h0 : ¬ i < 0) (h1 : i < n) : Ct l yJ3_checkIndex_8e157 wsJ3_checkIndex_8e157 { frames := 0, cells := 0, slots := 0, locals := 0 } [.int i, .int n, v] D T [] (some (.int i)) [] := by
  rcases hv with rfl | ⟨t, rfl⟩
  · refine ct_I (by decide) rfl (Nat.le_of_ble_eq_true rfl) (some ()) (fun _ => some (.int i)) (fun _ => []) ?_ () rfl
    intro X Qf hL hD hT C hR
    subst hT
    refine s_iload_n C 0 dJ3_checkIndex_8e157_0 rfl rfl ?_
    refine s_if_lt_n C 9 h0 dJ3_checkIndex_8e157_1 (by decide) ?_
    refine s_iload_n C 0 dJ3_checkIndex_8e157_4 rfl rfl ?_
    refine s_iload_n C 1 dJ3_checkIndex_8e157_5 rfl rfl ?_
    refine s_icmp_lt_t C 16 h1 dJ3_checkIndex_8e157_6 (by decide) ?_
    refine s_iload_n C 0 dJ3_checkIndex_8e157_16 rfl rfl ?_
    exact s_retI hR () rfl rfl dJ3_checkIndex_8e157_17
  · refine ct_I (by decide) rfl (Nat.le_of_ble_eq_true rfl) (some ()) (fun _ => some (.int i)) (fun _ => []) ?_ () rfl
    intro X Qf hL hD hT C hR
    subst hT
    refine s_iload_n C 0 dJ3_checkIndex_8e157_0 rfl rfl ?_
    refine s_if_lt_n C 9 h0 dJ3_checkIndex_8e157_1 (by decide) ?_
    refine s_iload_n C 0 dJ3_checkIndex_8e157_4 rfl rfl ?_
    refine s_iload_n C 1 dJ3_checkIndex_8e157_5 rfl rfl ?_
    refine s_icmp_lt_t C 16 h1 dJ3_checkIndex_8e157_6 (by decide) ?_
    refine s_iload_n C 0 dJ3_checkIndex_8e157_16 rfl rfl ?_
    exact s_retI hR () rfl rfl dJ3_checkIndex_8e157_17
set_option maxHeartbeats 4000000 in
theorem c_J0_checkIndex_df160 (l : Launch) (D : va_G) (T : Nat → ClassId) (i n : Int32) (h0 : ¬ i < 0) (h1 : i < n) : Ct l yJ0_checkIndex_df160 wsJ0_checkIndex_df160 { frames := 1, cells := 0, slots := 0, locals := 22 } [.int i, .int n] D T [] (none) [] := by
  refine ct_V (by decide) rfl (Nat.le_of_ble_eq_true rfl) (some ()) (fun _ => none) (fun _ => []) ?_ () rfl
  intro X Qf hL hD hT C hR
  subst hT
  refine s_iload_n C 0 dJ0_checkIndex_df160_0 rfl rfl ?_
  refine s_iload_n C 1 dJ0_checkIndex_df160_1 rfl rfl ?_
  refine s_getsQ C (by decide +kernel) dJ0_checkIndex_df160_2 (fun v hv => ?_)
  show Sim X Qf 0 0 2 ((some ()).bind (fun _ => some ())) _ _ _ _
  refine s_callS (n := 3) (om := some ()) (f := fun _ => some ()) C [.int i, .int n, v] _ _ _ (fun _ _ => c_J3_checkIndex_8e157 (xL X) (xD X) (xT X) i n v hv h0 h1) gJ0_checkIndex_df160_J3_checkIndex_8e157 rfl rfl rfl ⟨by decide +kernel, by decide +kernel, by decide +kernel⟩ ⟨Nat.le_of_ble_eq_true rfl, Nat.le_of_ble_eq_true rfl⟩ ⟨Nat.le_of_ble_eq_true rfl, Nat.le_of_ble_eq_true rfl⟩ rfl [v, .int n, .int i] rfl (Nat.le_of_ble_eq_true rfl) dJ0_checkIndex_df160_5 [] [] [] (fun _ => []) rfl rfl (by decide) (by decide) (by decide) (fun _ => rfl) (by decide) (fun _ => [.int i]) (fun _ => rfl) (fun _ => ?_)
  refine s_pop C dJ0_checkIndex_df160_8 rfl ?_
  exact s_retV hR () rfl rfl dJ0_checkIndex_df160_9
set_option maxHeartbeats 4000000 in
theorem c_J1_charAt_3b067 (l : Launch) (D : va_G) (T : Nat → ClassId) (j : Nat) (i : Int32) (hj : j < 7) (h0 : ¬ i < 0) (hi : i.toNatClampNeg < sLen.getD j 0) : Ct l yJ1_charAt_3b067 wsJ1_charAt_3b067 { frames := 2, cells := 0, slots := 0, locals := 43 } [.ref (T (200 + j)), .int i] D T [] (some (.int (sCh j i))) [] := by
  refine ct_N .char (by decide) rfl (Nat.le_of_ble_eq_true rfl) (some ()) (fun _ => some (.int (sCh j i))) (fun _ => []) ?_ () rfl
  intro X Qf hL hD hT C hR
  subst hT
  have hb7 := sLen_small j hj
  have h1 : i < Int32.ofNat (sLen.getD j 0) := by obtain ⟨z, hz, rfl⟩ := nI_of h0; rw [nI_clamp hz] at hi; exact nI_lt hi (by omega)
  have hch := sCh_byte j hj _ hi
  refine s_iload_n C 1 dJ1_charAt_3b067_0 rfl rfl ?_
  refine s_aload_n C 0 dJ1_charAt_3b067_1 rfl rfl ?_
  refine s_alenS C hj dJ1_charAt_3b067_2 ?_
  show Sim X Qf 0 0 2 ((some ()).bind (fun _ => some ())) _ _ _ _
  refine s_callS (n := 2) (om := some ()) (f := fun _ => some ()) C [.int i, .int (Int32.ofNat (sLen.getD j 0))] _ _ _ (fun _ _ => c_J0_checkIndex_df160 (xL X) (xD X) (xT X) i (Int32.ofNat (sLen.getD j 0)) h0 h1) gJ1_charAt_3b067_J0_checkIndex_df160 rfl rfl rfl ⟨by decide +kernel, by decide +kernel, by decide +kernel⟩ ⟨Nat.le_of_ble_eq_true rfl, Nat.le_of_ble_eq_true rfl⟩ ⟨Nat.le_of_ble_eq_true rfl, Nat.le_of_ble_eq_true rfl⟩ rfl [.int (Int32.ofNat (sLen.getD j 0)), .int i] rfl (Nat.le_of_ble_eq_true rfl) dJ1_charAt_3b067_3 [] [] [] (fun _ => []) rfl rfl (by decide) (by decide) (by decide) (fun _ => rfl) (by decide) (fun _ => []) (fun _ => rfl) (fun _ => ?_)
  refine s_aload_n C 0 dJ1_charAt_3b067_6 rfl rfl ?_
  refine s_iload_n C 1 dJ1_charAt_3b067_7 rfl rfl ?_
  refine s_baldS C hj h0 hi dJ1_charAt_3b067_8 ?_
  refine s_sipush C 255 dJ1_charAt_3b067_9 (by decide) ?_
  refine s_iand C dJ1_charAt_3b067_12 ?_
  refine s_i2c C dJ1_charAt_3b067_13 ?_
  rw [show ((sCh j i &&& 255).toUInt32 % 65536).toInt32 = sCh j i from hch.1]
  exact s_retN hR () rfl hch.2 rfl dJ1_charAt_3b067_14
set_option maxHeartbeats 4000000 in
theorem c_J0_charAt_5068e (l : Launch) (D : va_G) (T : Nat → ClassId) (j : Nat) (i : Int32) (hj : j < 7) (h0 : ¬ i < 0) (hi : i.toNatClampNeg < sLen.getD j 0) : Ct l yJ0_charAt_5068e wsJ0_charAt_5068e { frames := 3, cells := 0, slots := 0, locals := 64 } [.ref (T (100 + j)), .int i] D T [] (some (.int (sCh j i))) [] := by
  refine ct_N .char (by decide) rfl (Nat.le_of_ble_eq_true rfl) (some ()) (fun _ => some (.int (sCh j i))) (fun _ => []) ?_ () rfl
  intro X Qf hL hD hT C hR
  subst hT
  have hch := sCh_byte j hj _ hi
  refine s_aload_n C 0 dJ0_charAt_5068e_0 rfl rfl ?_
  show Sim X Qf 0 0 2 ((some ()).bind (fun _ => some ())) _ _ _ _
  refine s_callW (n := 0) (om := some ()) (f := fun _ => some ()) C [] _ _ _ (fun _ _ => c_J0_isLatin1_aae02 (xL X) (xD X) (xT X) j hj) gJ0_charAt_5068e_J0_isLatin1_aae02 rfl rfl rfl ⟨rfl, by decide +kernel, by decide +kernel, by decide +kernel⟩ ⟨Nat.le_of_ble_eq_true rfl, Nat.le_of_ble_eq_true rfl⟩ ⟨Nat.le_of_ble_eq_true rfl, Nat.le_of_ble_eq_true rfl⟩ hj rfl [.ref (xT X (100 + j))] rfl (Nat.le_of_ble_eq_true rfl) dJ0_charAt_5068e_1 [] [] [] (fun _ => []) rfl rfl (by decide) (by decide) (by decide) (fun _ => rfl) (by decide) (fun _ => [.int 1]) (fun _ => rfl) (fun _ => ?_)
  refine s_if_eq_n C 16 (by decide) dJ0_charAt_5068e_4 (by decide) ?_
  refine s_aload_n C 0 dJ0_charAt_5068e_7 rfl rfl ?_
  refine s_getSv C hj (by decide +kernel) dJ0_charAt_5068e_8 ?_
  refine s_iload_n C 1 dJ0_charAt_5068e_11 rfl rfl ?_
  show Sim X Qf 0 0 2 ((some ()).bind (fun _ => some ())) _ _ _ _
  refine s_callS (n := 2) (om := some ()) (f := fun _ => some ()) C [.ref (xT X (200 + j)), .int i] _ _ _ (fun _ _ => c_J1_charAt_3b067 (xL X) (xD X) (xT X) j i hj h0 hi) gJ0_charAt_5068e_J1_charAt_3b067 rfl rfl rfl ⟨by decide +kernel, by decide +kernel, by decide +kernel⟩ ⟨Nat.le_of_ble_eq_true rfl, Nat.le_of_ble_eq_true rfl⟩ ⟨Nat.le_of_ble_eq_true rfl, Nat.le_of_ble_eq_true rfl⟩ rfl [.int i, .ref (xT X (200 + j))] rfl (Nat.le_of_ble_eq_true rfl) dJ0_charAt_5068e_12 [] [] [] (fun _ => []) rfl rfl (by decide) (by decide) (by decide) (fun _ => rfl) (by decide) (fun _ => [.int (sCh j i)]) (fun _ => rfl) (fun _ => ?_)
  exact s_retN hR () rfl hch.2 rfl dJ0_charAt_5068e_15
section SS2
variable {ρ : Type} {X : KX} {Qf : ρ → State → Prop} {ca sl nL : Nat} {o : Option ρ} {ws : va_W} {pc : Nat} {lv : List (Nat × Value)} {st : List Value} {cc : ByteArray} {own : String} {Ts : List Cond} {rm : Room}
theorem map_id : ∀ (ws : va_W), (List.range ws.length).map (fun i => ((List.range ws.length).filterMap (fun i => ws[i]?) ++ ([] : va_W))[i]?) = ws.map some := by
  intro ws
  have e : (List.range ws.length).filterMap (fun i => ws[i]?) = ws := by
    have h := map_all (ws := ws) (is := List.range ws.length) (List.all_eq_true.mpr (fun i hi => by simpa using hi))
    have h2 : (List.range ws.length).map (fun i => ws[i]?) = ws.map some := by
      apply List.ext_getElem?
      intro i
      by_cases hi : i < ws.length <;> simp [hi]
    rw [h2] at h
    exact (List.map_inj_right (fun _ _ h => Option.some.inj h)).mp h.symm
  rw [e, List.append_nil]
  apply List.ext_getElem?
  intro i
  by_cases hi : i < ws.length <;> simp [hi]
theorem nd_range : ∀ n, va_nd (List.range n) = true := by
  intro n
  have key : ∀ l : List Nat, l.Nodup → va_nd l = true := by
    intro l
    induction l with
    | nil => intro _; rfl
    | cons a l ih => intro h; rw [List.nodup_cons] at h; simp only [va_nd, Bool.and_eq_true, decide_eq_true_eq]; exact ⟨h.1, ih h.2⟩
  exact key _ List.nodup_range
theorem s_strlen (C : Cx X cc own Ts nL rm) {idx j : Nat} (hG : GoodIn Ts (wsV own idx RJ0 yJ0_length_8abf5 wsJ0_length_8abf5)) (hRm : 1 + 1 ≤ rm.frames ∧ 8 + (1 + 11) + 20 ≤ rm.locals) (hca : ca ≤ rm.cells ∧ sl ≤ rm.slots) (hrest : (st.map fun v => v.category).sum ≤ 8) (d : decode cc pc = .ok (.invokevirtual idx, 3)) (k : Sim X Qf ca sl nL o ws (pc + 3) lv (.int (Int32.ofNat (sLen.getD j 0)) :: st)) : Sim X Qf ca sl nL (slI j o) ws pc lv (.ref (xT X (100 + j)) :: st) := by
  by_cases hj : j < 7
  · rw [slI, if_pos hj]
    show Sim X Qf ca sl nL ((some ()).bind (fun _ => o)) _ _ _ _
    exact s_callW (n := 0) C [] _ _ _ (fun _ _ => c_J0_length_8abf5 (xL X) (xD X) (xT X) j hj) hG rfl rfl rfl ⟨rfl, by decide +kernel, by decide +kernel, by decide +kernel⟩ hRm hca hj rfl _ rfl hrest d [] (List.range ws.length) (List.range ws.length) (fun _ => ws) rfl (List.all_eq_true.mpr (fun i hi => by simpa using hi)) rfl (nd_range _) (fun _ _ => by simp) (fun _ => map_id ws) (nd_range _) (fun _ => .int (Int32.ofNat (sLen.getD j 0)) :: st) (fun _ => rfl) (fun _ => k)
  · rw [slI, if_neg hj]; exact s_none
theorem s_charAt (C : Cx X cc own Ts nL rm) {idx j : Nat} {i : Int32} {g : Int32 → Option ρ} (hG : GoodIn Ts (wsV own idx RJ0 yJ0_charAt_5068e wsJ0_charAt_5068e)) (hRm : 3 + 1 ≤ rm.frames ∧ 8 + (2 + 11) + 64 ≤ rm.locals) (hca : ca ≤ rm.cells ∧ sl ≤ rm.slots) (hrest : (st.map fun v => v.category).sum ≤ 8) (d : decode cc pc = .ok (.invokevirtual idx, 3)) (k : ∀ x : Int32, Sim X Qf ca sl nL (g x) ws (pc + 3) lv (.int x :: st)) : Sim X Qf ca sl nL (chI j i g) ws pc lv (.int i :: .ref (xT X (100 + j)) :: st) := by
  by_cases hj : j < 7
  · rw [chI, if_pos hj]
    by_cases h0 : i < 0 ∨ sLen.getD j 0 ≤ i.toNatClampNeg
    · rw [if_pos h0]; exact s_none
    · rw [if_neg h0]
      show Sim X Qf ca sl nL ((some ()).bind (fun _ => g (sCh j i))) _ _ _ _
      exact s_callW (n := 1) C [.int i] _ _ _ (fun _ _ => c_J0_charAt_5068e (xL X) (xD X) (xT X) j i hj (fun q => h0 (Or.inl q)) (by omega)) hG rfl rfl rfl ⟨rfl, by decide +kernel, by decide +kernel, by decide +kernel⟩ hRm hca hj rfl _ rfl hrest d [] (List.range ws.length) (List.range ws.length) (fun _ => ws) rfl (List.all_eq_true.mpr (fun i hi => by simpa using hi)) rfl (nd_range _) (fun _ _ => by simp) (fun _ => map_id ws) (nd_range _) (fun _ => .int (sCh j i) :: st) (fun _ => rfl) (fun _ => k _)
  · rw [chI, if_neg hj]; exact s_none
end SS2

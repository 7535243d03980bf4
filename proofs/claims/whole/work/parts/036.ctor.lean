/-! CONSTRUCTORS: new cells stand behind the world's others; a contract gives their addresses as ad 0, ad 1 .. -/
def CI (X : KX) : Prop := match X with
  | (_, _, _, _, _, _, _, _, meth, _, _, _, _) => meth.name = "<init>"
def QcN (D : va_G) (W0 : va_W) (sz : Nat) (W1 : (Nat → Nat) → va_W) : Array Value → State → Outcome → State → Prop := fun _ st oc t => (∃ ad : Nat → Nat, oc = .returned none ∧ va_P D vwCl (W1 ad) t.heap ∧ va_D (va_A W0 sz) (W1 ad)) ∧ va_F (va_A W0 sz) st t
def CtN (l : Launch) (y : MethodName) (wl : List Cond) (rm : Room) (av : List Value) (D : va_G) (T : Nat → ClassId) (W0 : va_W) (mc ms : Nat) (W1 : (Nat → Nat) → va_W) : Prop := ∀ sz : Nat, Met l y wl rm (va_Pc av (Pre0 D T W0 sz)) (QcN D W0 sz W1) mc ms (va_A W0 sz)
theorem imgF_eq {a b : Nat} : va_up (va_up (fun _ => none) (0 : Int32).toNatClampNeg (some a)) (1 : Int32).toNatClampNeg (some b) = imgF a b := by
  have e0 : (0 : Int32).toNatClampNeg = 0 := by decide
  have e1 : (1 : Int32).toNatClampNeg = 1 := by decide
  rw [e0, e1]
  funext j
  simp only [va_up, imgF]
  by_cases h1 : j = 1
  · subst h1; simp
  · by_cases h0 : j = 0
    · subst h0; simp
    · simp [h0, h1]
theorem after_callN {ca sl mc ms pc : Nat} {ws : va_W} {p : Program} {l : Launch} {e : Env} {R : Room} {s : State} {m : MethodId} {args : Array Value} {below : List Frame} {meth : Method} {c : Code} {H : Heap} {locs : List Loc} {Q : State → Prop} {ls : Array Slot} {st0 rest : List Value} {D : va_G} {A : Nat → Prop} {wc wr : va_W} {w1 ws' : (Nat → Nat) → va_W} {a : Array Value} (hr : va_Run p l e R s m args below meth c H locs ca sl mc ms (F0 m pc ls st0) rest (QcN D wc H.size w1 a) (va_A wc H.size))
    (hP : va_P D vwCl ws H) (hD : va_D A ws) (hS : va_S A s.heap H locs) (hA : ∀ q : Nat, s.heap.size ≤ q → A q) (isC isR pm : List Nat) (hC : isC.map (fun i => ws[i]?) = wc.map some) (hR : isR.map (fun i => ws[i]?) = wr.map some) (hn : va_nd isR = true) (hdis : ∀ i ∈ isR, i ∉ isC) (hpm : ∀ ad, pm.map (fun i => (wr ++ w1 ad)[i]?) = (ws' ad).map some) (hnp : va_nd pm = true)
    (kk : ∀ (ad : Nat → Nat) (H1 : Heap) (locs1 : List Loc), va_P D vwCl (ws' ad) H1 → va_D A (ws' ad) → va_S A s.heap H1 locs1 → W p l e R s m args below meth c H1 locs1 (ca + mc) (sl + ms) Q (F0 m (pc + 3) ls rest)) : W p l e R s m args below meth c H locs ca sl Q (F0 m pc ls st0) := by
  have hF := va_free (wc := wc) hD hS hA isC hC
  intro T hT X
  obtain ⟨v, st₀, t, T', L, h0, X', hL, e1, e2, ⟨⟨ad, hv, hp1, hd1⟩, hz, hk⟩, st⟩ := hr T hT X
  obtain rfl := Outcome.returned.inj hv
  rw [h0] at hz hk
  obtain ⟨hP2, hD2⟩ := va_join (H1 := T'.heap) hP hD isC isR hC hR hn hdis (fun q h1 h2 => by rw [e1]; exact hk q h1 h2) hF (by rw [e1]; exact hp1) hd1
  obtain ⟨t2, a1, b1⟩ := kk ad T'.heap (locs ++ L) (P_map hP2 pm (hpm ad)) (hD2.sub pm hnp (hpm ad))
    ⟨Nat.le_trans hS.1 (by rw [e1]; exact hz), fun q h1 h2 => by rw [e1, hk q (Nat.lt_of_lt_of_le h1 hS.1) (fun z => h2 (hF q z))]; exact hS.2.1 q h1 h2, fun q hq => by
      rcases List.mem_append.mp hq with h | h
      · exact hS.2.2 q h
      · exact hF _ (hL q h)⟩ T' rfl X'
  exact ⟨t2, st t2 a1, b1⟩
section SN
variable {ρ : Type} {X : KX} {Qf : ρ → State → Prop} {ca sl nL : Nat} {o : Option ρ} {ws : va_W} {pc : Nat} {lv : List (Nat × Value)} {st : List Value} {cc : ByteArray} {own : String} {Ts : List Cond} {rm : Room}
theorem s_eqw {ws' : va_W} (h : ws = ws') (k : Sim X Qf ca sl nL o ws' pc lv st) : Sim X Qf ca sl nL o ws pc lv st := h ▸ k
theorem s_objInit (C : Cx X cc own Ts nL rm) {idx a : Nat} (w1 : Cond.methodLink own idx objectInit ∈ Ts) (w2 : Cond.instanceMethod objectInit ∈ Ts) (w3 : Cond.code objectInit ⟨#[0xb1]⟩ 1 none ∈ Ts) (hRm : 1 ≤ rm.frames ∧ (st.map fun v => v.category).sum + 12 ≤ rm.locals) (d : decode cc pc = .ok (.invokespecial idx, 3)) (k : Sim X Qf ca sl nL o ws (pc + 3) lv st) : Sim X Qf ca sl nL o ws pc lv (.ref a :: st) := by
  obtain ⟨p, l, e, R, s, m, args, below, meth, c, D, T, A⟩ := X
  obtain ⟨hx, hb, hml, hown, hts, hK, hA, hN, rfl⟩ := C
  intro r hr H locs ls hP hD hS hl
  exact W.objInit hx hb hown (hts _ w1) (hts _ w2) (hts _ w3) rfl (hl.1.trans hml.symm) rfl d hRm.1 (by have e0 : (F0 m pc ls (.ref a :: st)).monitorRoom = 0 := rfl; rw [e0]; omega) (k r hr H locs ls hP hD hS hl)
theorem s_new (C : Cx X cc own Ts nL rm) {Cn : String} {Tn : u_T} {N index : Nat} (ci : Nat) (hin : ∀ w ∈ u_ws Cn Tn N, w ∈ Ts) (ty0 : Nat → FieldType) (hty : ∀ k, k < N → parseFieldDescriptor (Tn k).2.2.1 = some (ty0 k)) (w1 : Cond.classLink own index Cn ∈ Ts) (w2 : Cond.instantiable Cn N ∈ Ts) (w3 : Cond.initialized Cn ∈ Ts) (hc : vwCl[ci]? = some (Cn, Tn, N)) (fs : List Value) (hfs : ∀ j, j < N → defaultValue (ty0 j) = vp_V fs j) (hca : ca + 1 ≤ rm.cells ∧ sl + N ≤ rm.slots) (wsf : Nat → va_W) (hw : ∀ q, ws ++ [(q, .inr (ci, fs))] = wsf q) (d : decode cc pc = .ok (.new index, 3)) (k : ∀ q, Sim X Qf (ca + 1) (sl + N) nL o (wsf q) (pc + 3) lv (.ref q :: st)) : Sim X Qf ca sl nL o ws pc lv st := by
  obtain ⟨p, l, e, R, s, m, args, below, meth, c, D, T, A⟩ := X
  obtain ⟨hx, hb, hml, hown, hts, hK, hA, hN, rfl⟩ := C
  intro r hr H locs ls hP hD hS hl
  exact va_new hx hb hts hin ty0 hty hown (hts _ w1) (hts _ w2) (hts _ w3) hK hP hD hS hA hc hfs hca.1 hca.2 d (fun q H1 hP1 hD1 hS1 => k q r hr H1 locs ls (hw q ▸ hP1) (hw q ▸ hD1) hS1 hl)
theorem s_newaI (C : Cx X cc own Ts nL rm) {n : Int32} (N : Nat) (w1 : Cond.arrayClass .int ∈ Ts) (hn : ¬ n < 0) (hNn : n.toNatClampNeg = N) (hNb : N ≤ 10000) (hca : ca + 1 ≤ rm.cells ∧ sl + N ≤ rm.slots) (wsf : Nat → va_W) (hw : ∀ q, ws ++ [(q, .inl (xT X 1, N, .inl (fun _ => 0)))] = wsf q) (d : decode cc pc = .ok (.newarray .int, 2)) (k : ∀ q, Sim X Qf (ca + 1) (sl + N) nL o (wsf q) (pc + 2) lv (.ref q :: st)) : Sim X Qf ca sl nL o ws pc lv (.int n :: st) := by
  obtain ⟨p, l, e, R, s, m, args, below, meth, c, D, T, A⟩ := X
  obtain ⟨hx, hb, hml, hown, hts, hK, hA, hN, rfl⟩ := C
  intro r hr H locs ls hP hD hS hl
  refine va_newa (atype := .int) (ty := .int) (a0 := (N, .inl (fun _ => 0))) hx hb (hts _ w1) rfl hK hP hD hS hA (fun cA => rfl) hn hNn (by have e : componentBytes .int = 4 := rfl; rw [e]; omega) hca.1 hca.2 d (fun q cA H1 hK1 hP1 hD1 hS1 => ?_)
  have e1 : s.vm.findClass ("[" ++ FieldType.toString .int) = some cA := (hK1.2 5 (cA, .int) rfl).2
  have e2 : s.vm.findClass ("[" ++ FieldType.toString .int) = some (T 1) := (hK.2 1 (T 1, .int) rfl).2
  obtain rfl : cA = T 1 := Option.some.inj (e1.symm.trans e2)
  exact k q r hr H1 locs ls (hw q ▸ hP1) (hw q ▸ hD1) hS1 hl
theorem s_newaB (C : Cx X cc own Ts nL rm) {n : Int32} (N : Nat) (w1 : Cond.arrayClass .byte ∈ Ts) (hn : ¬ n < 0) (hNn : n.toNatClampNeg = N) (hNb : N ≤ 10000) (hca : ca + 1 ≤ rm.cells ∧ sl + N ≤ rm.slots) (wsf : Nat → va_W) (hw : ∀ q, ws ++ [(q, .inl (xT X 0, N, .inl (fun _ => 0)))] = wsf q) (d : decode cc pc = .ok (.newarray .byte, 2)) (k : ∀ q, Sim X Qf (ca + 1) (sl + N) nL o (wsf q) (pc + 2) lv (.ref q :: st)) : Sim X Qf ca sl nL o ws pc lv (.int n :: st) := by
  obtain ⟨p, l, e, R, s, m, args, below, meth, c, D, T, A⟩ := X
  obtain ⟨hx, hb, hml, hown, hts, hK, hA, hN, rfl⟩ := C
  intro r hr H locs ls hP hD hS hl
  refine va_newa (atype := .byte) (ty := .byte) (a0 := (N, .inl (fun _ => 0))) hx hb (hts _ w1) rfl hK hP hD hS hA (fun cA => rfl) hn hNn (by have e : componentBytes .byte = 1 := rfl; rw [e]; omega) hca.1 hca.2 d (fun q cA H1 hK1 hP1 hD1 hS1 => ?_)
  have e1 : s.vm.findClass ("[" ++ FieldType.toString .byte) = some cA := (hK1.2 5 (cA, .byte) rfl).2
  have e2 : s.vm.findClass ("[" ++ FieldType.toString .byte) = some (T 0) := (hK.2 0 (T 0, .byte) rfl).2
  obtain rfl : cA = T 0 := Option.some.inj (e1.symm.trans e2)
  exact k q r hr H1 locs ls (hw q ▸ hP1) (hw q ▸ hD1) hS1 hl
theorem s_newaZ (C : Cx X cc own Ts nL rm) {n : Int32} (N : Nat) (w1 : Cond.arrayClass .boolean ∈ Ts) (hn : ¬ n < 0) (hNn : n.toNatClampNeg = N) (hNb : N ≤ 10000) (hca : ca + 1 ≤ rm.cells ∧ sl + N ≤ rm.slots) (wsf : Nat → va_W) (hw : ∀ q, ws ++ [(q, .inl (xT X 3, N, .inl (fun _ => 0)))] = wsf q) (d : decode cc pc = .ok (.newarray .boolean, 2)) (k : ∀ q, Sim X Qf (ca + 1) (sl + N) nL o (wsf q) (pc + 2) lv (.ref q :: st)) : Sim X Qf ca sl nL o ws pc lv (.int n :: st) := by
  obtain ⟨p, l, e, R, s, m, args, below, meth, c, D, T, A⟩ := X
  obtain ⟨hx, hb, hml, hown, hts, hK, hA, hN, rfl⟩ := C
  intro r hr H locs ls hP hD hS hl
  refine va_newa (atype := .boolean) (ty := .boolean) (a0 := (N, .inl (fun _ => 0))) hx hb (hts _ w1) rfl hK hP hD hS hA (fun cA => rfl) hn hNn (by have e : componentBytes .boolean = 1 := rfl; rw [e]; omega) hca.1 hca.2 d (fun q cA H1 hK1 hP1 hD1 hS1 => ?_)
  have e1 : s.vm.findClass ("[" ++ FieldType.toString .boolean) = some cA := (hK1.2 5 (cA, .boolean) rfl).2
  have e2 : s.vm.findClass ("[" ++ FieldType.toString .boolean) = some (T 3) := (hK.2 3 (T 3, .boolean) rfl).2
  obtain rfl : cA = T 3 := Option.some.inj (e1.symm.trans e2)
  exact k q r hr H1 locs ls (hw q ▸ hP1) (hw q ▸ hD1) hS1 hl
theorem s_newaJ (C : Cx X cc own Ts nL rm) {n : Int32} (N : Nat) (w1 : Cond.arrayClass .long ∈ Ts) (hn : ¬ n < 0) (hNn : n.toNatClampNeg = N) (hNb : N ≤ 10000) (hca : ca + 1 ≤ rm.cells ∧ sl + N ≤ rm.slots) (wsf : Nat → va_W) (hw : ∀ q, ws ++ [(q, .inl (xT X 2, N, .inr (.inl (fun _ => 0))))] = wsf q) (d : decode cc pc = .ok (.newarray .long, 2)) (k : ∀ q, Sim X Qf (ca + 1) (sl + N) nL o (wsf q) (pc + 2) lv (.ref q :: st)) : Sim X Qf ca sl nL o ws pc lv (.int n :: st) := by
  obtain ⟨p, l, e, R, s, m, args, below, meth, c, D, T, A⟩ := X
  obtain ⟨hx, hb, hml, hown, hts, hK, hA, hN, rfl⟩ := C
  intro r hr H locs ls hP hD hS hl
  refine va_newa (atype := .long) (ty := .long) (a0 := (N, .inr (.inl (fun _ => 0)))) hx hb (hts _ w1) rfl hK hP hD hS hA (fun cA => rfl) hn hNn (by have e : componentBytes .long = 8 := rfl; rw [e]; omega) hca.1 hca.2 d (fun q cA H1 hK1 hP1 hD1 hS1 => ?_)
  have e1 : s.vm.findClass ("[" ++ FieldType.toString .long) = some cA := (hK1.2 5 (cA, .long) rfl).2
  have e2 : s.vm.findClass ("[" ++ FieldType.toString .long) = some (T 2) := (hK.2 2 (T 2, .long) rfl).2
  obtain rfl : cA = T 2 := Option.some.inj (e1.symm.trans e2)
  exact k q r hr H1 locs ls (hw q ▸ hP1) (hw q ▸ hD1) hS1 hl
theorem s_anew (C : Cx X cc own Ts nL rm) {n : Int32} {index : Nat} (N : Nat) (w1 : Cond.classLink own index RX2 ∈ Ts) (hn : ¬ n < 0) (hNn : n.toNatClampNeg = N) (hNb : N ≤ 10000) (hca : ca + 1 ≤ rm.cells ∧ sl + N ≤ rm.slots) (wsf : Nat → va_W) (hw : ∀ q, ws ++ [(q, .inl (xT X 4, N, .inr (.inr (.inr (.inr (fun _ => none))))))] = wsf q) (d : decode cc pc = .ok (.anewarray index, 3)) (k : ∀ q, Sim X Qf (ca + 1) (sl + N) nL o (wsf q) (pc + 3) lv (.ref q :: st)) : Sim X Qf ca sl nL o ws pc lv (.int n :: st) := by
  obtain ⟨p, l, e, R, s, m, args, below, meth, c, D, T, A⟩ := X
  obtain ⟨hx, hb, hml, hown, hts, hK, hA, hN, rfl⟩ := C
  intro r hr H locs ls hP hD hS hl
  refine va_newq (C := RX2) hx hb hown (hts _ w1) hN.2.2.2.2.2 hK hP hD hS hA hn hNn (by omega) hca.1 hca.2 d (fun q cA H1 hK1 hP1 hD1 hS1 => ?_)
  obtain ⟨kA, comp, g1, g2, g3, e1⟩ := (hK1.2 5 (cA, .object RX2) rfl).2
  obtain ⟨kA2, comp2, g12, g22, g32, e2⟩ := (hK.2 4 (T 4, .object RX2) rfl).2
  obtain rfl : cA = T 4 := Option.some.inj (e1.symm.trans e2)
  exact k q r hr H1 locs ls (hw q ▸ hP1) (hw q ▸ hD1) hS1 hl
theorem s_aast (C : Cx X cc own Ts nL rm) (q0 qk : Nat) {a n v : Nat} {vs : List Value} {f : Nat → Option Nat} {i : Int32} (ha : ws[q0]? = some (a, .inl (xT X 4, n, .inr (.inr (.inr (.inr f)))))) (hv : ws[qk]? = some (v, .inr (2, vs))) (hin : ¬ (i < 0 ∨ n ≤ i.toNatClampNeg)) (ws' : va_W) (hw : ws.set q0 (a, .inl (xT X 4, n, .inr (.inr (.inr (.inr (va_up f i.toNatClampNeg (some v))))))) = ws') (d : decode cc pc = .ok (.aastore, 1)) (k : Sim X Qf ca sl nL o ws' (pc + 1) lv st) : Sim X Qf ca sl nL o ws pc lv (.ref v :: .int i :: .ref a :: st) := by
  subst hw
  obtain ⟨p, l, e, R, s, m, args, below, meth, c, D, T, A⟩ := X
  obtain ⟨hx, hb, hml, hown, hts, hK, hA, hN, rfl⟩ := C
  intro r hr H locs ls hP hD hS hl
  exact va_astq (r := (RX2, TX2, 8)) hx hb hK hP hD hS q0 4 qk 2 ha rfl hv rfl hin d (fun H1 locs1 hP1 hD1 hS1 => k r hr H1 locs1 ls hP1 hD1 hS1 hl)
theorem s_putF (C : Cx X cc own Ts nL rm) (hI : CI X) {Cn : String} {Tn : u_T} {N ci index : Nat} (hin : ∀ w ∈ u_ws Cn Tn N, w ∈ Ts) (ty0 : Nat → FieldType) (hty : ∀ k, k < N → parseFieldDescriptor (Tn k).2.2.1 = some (ty0 k)) (hnm : ∀ a, a < N → ∀ b, b < N → a ≠ b → (Tn a).2.1 ≠ (Tn b).2.1) (q0 : Nat) {a : Nat} {fs : List Value} (he : ws[q0]? = some (a, .inr (ci, fs))) (hc : vwCl[ci]? = some (Cn, Tn, N)) (kf : Nat) (hk : kf < N) (hlink : Cond.fieldLink own index (Tn kf).1 (Tn kf).2.1 (Tn kf).2.2.1 ∈ Ts) (hfin : (Tn kf).2.2.2 = true) (hdecl : (Tn kf).1 = own) (ty : FieldType) {v : Value} (hd : parseFieldDescriptor (Tn kf).2.2.1 = some ty) (hn : narrow ty v = v) (hfit : fits ty v = true) (hlt : kf < fs.length) (ws' : va_W) (hw : ws.set q0 (a, .inr (ci, fs.set kf v)) = ws') (d : decode cc pc = .ok (.putfield index, 3)) (k : Sim X Qf ca sl nL o ws' (pc + 3) lv st) : Sim X Qf ca sl nL o ws pc lv (v :: .ref a :: st) := by
  subst hw
  obtain ⟨p, l, e, R, s, m, args, below, meth, c, D, T, A⟩ := X
  obtain ⟨hx, hb, hml, hown, hts, hK, hA, hN, rfl⟩ := C
  intro r hr H locs ls hP hD hS hl
  exact va_putF hx hb hts hin ty0 hty hnm hown hK hP hD hS q0 he hc kf hk (hts _ hlink) (fun _ h9 => h9) hfin hI hdecl hd hn hfit hlt d (fun H1 locs1 hP1 hD1 hS1 => k r hr H1 locs1 ls hP1 hD1 hS1 hl)
def RtC {ρ : Type} (X : KX) (Qf : ρ → State → Prop) (cc : ByteArray) (nL mc ms : Nat) (W1 : ρ → (Nat → Nat) → va_W) : Prop := ∀ (r : ρ) (ad : Nat → Nat) (pc ca sl : Nat) (lv : List (Nat × Value)), ca ≤ mc → sl ≤ ms → decode cc pc = .ok (.return_, 1) → Wk X (Qf r) ca sl nL (W1 r ad) pc lv []
theorem s_retC {mc ms : Nat} {W1 : ρ → (Nat → Nat) → va_W} (hR : RtC X Qf cc nL mc ms W1) (r : ρ) (ad : Nat → Nat) (hw : W1 r ad = ws) (h1 : ca ≤ mc) (h2 : sl ≤ ms) (d : decode cc pc = .ok (.return_, 1)) : Sim X Qf ca sl nL (some r) ws pc lv [] := by
  intro r' e
  obtain rfl := Option.some.inj e
  exact hw ▸ hR r ad pc ca sl lv h1 h2 d
theorem s_callI (C : Cx X cc own Ts nL rm) {y : MethodName} {bytes : ByteArray} {maxL index b : Nat} {wl wl' : List Cond} {rmc : Room} {mc ms : Nat} (wc : va_W) (w1f : (Nat → Nat) → va_W) (hM : CtN (xL X) y wl rmc [.ref b] (xD X) (xT X) wc mc ms w1f) (hG : GoodIn Ts wl) (hw : wl = Cond.code y bytes maxL none :: wl') (hrc : rmc.cells = mc) (hrs : rmc.slots = ms) (w1 : Cond.methodLink own index y ∈ Ts) (w2 : Cond.initialized y.cls ∈ Ts) (w3 : Cond.instanceMethod y ∈ Ts) (hy1 : y.name = "<init>") (hd : y.cls ≠ "java/lang/invoke/MethodHandle" ∧ y.cls ≠ "java/lang/invoke/VarHandle" ∧ (parseMethodDescriptor y.desc).map (fun d => d.parameters.length) = some 0) (hRm : rmc.frames + 1 ≤ rm.frames ∧ 8 + (maxL + 11) + rmc.locals ≤ rm.locals) (hca : ca + mc ≤ rm.cells ∧ sl + ms ≤ rm.slots) (hrest : (st.map fun v => v.category).sum ≤ 8) (d : decode cc pc = .ok (.invokespecial index, 3)) (isC isR pm : List Nat) (ws' : (Nat → Nat) → va_W) (hC : isC.map (fun i => ws[i]?) = wc.map some) (hRr : isR.all (fun i => decide (i < ws.length)) = true) (hnc : va_nd isC = true) (hnr : va_nd isR = true) (hdis : ∀ i ∈ isR, i ∉ isC) (hpm : ∀ ad, pm.map (fun i => (isR.filterMap (fun i => ws[i]?) ++ w1f ad)[i]?) = (ws' ad).map some) (hnp : va_nd pm = true)
    (k : ∀ ad : Nat → Nat, Sim X Qf (ca + mc) (sl + ms) nL o (ws' ad) (pc + 3) lv st) : Sim X Qf ca sl nL o ws pc lv (.ref b :: st) := by
  revert hM
  obtain ⟨p, l, e, R, s, m, args, below, meth, c, D, T, A⟩ := X
  obtain ⟨hx, hb, hml, hown, hts, hK, hA, hN, rfl⟩ := C
  intro hM r hr H locs ls hP hD hS hl
  refine after_callN (a := ([.ref b] : List Value).toArray) (ws := ws) (wc := wc) (w1 := w1f) (wr := isR.filterMap (fun i => ws[i]?)) (ws' := ws') (rest := st) ?_ hP hD hS hA isC isR pm hC (map_all hRr) hnr hdis hpm hnp (fun ad H1 locs1 hP1 hD1 hS1 => k ad r hr H1 locs1 ls hP1 hD1 hS1 hl)
  have hPc : va_P D vwCl wc H := P_map hP isC hC
  have hFc := va_free (wc := wc) hD hS hA isC hC
  have hDc : va_D (fun _ => True) wc := by
    refine ⟨fun i j p1 q1 h1 h2 h3 => ?_, fun _ _ _ => trivial⟩
    have z : ∀ (k : Nat) (q : Nat × va_E), wc[k]? = some q → ∃ i, isC[k]? = some i ∧ ws[i]? = some q := by
      intro k q hk
      have g1 : (isC.map (fun i => ws[i]?))[k]? = some (some q) := by rw [hC, List.getElem?_map, hk]; rfl
      rw [List.getElem?_map] at g1
      cases hi : isC[k]? with
      | none => rw [hi] at g1; cases g1
      | some i => rw [hi] at g1; exact ⟨i, rfl, Option.some.inj g1⟩
    obtain ⟨i1, a1, a2⟩ := z i p1 h1
    obtain ⟨j1, b1, b2⟩ := z j q1 h2
    have e1 := hD.1 i1 j1 p1 q1 a2 b2 h3
    subst e1
    exact va_nd_inj isC hnc i j i1 a1 b1
  exact va_runI (As := []) (rest := st) (bytes := bytes) (maxL := maxL) ⟨hx, hb, hml, hown, hts⟩ (hM H.size) (cwI 0 hts hG hw hrc hrs (hts _ w2) (hts _ w1) (hts _ w3) hy1 hd hRm) ⟨Pre0.blind, fun U hU hW => ⟨rfl, by rw [hU], by rw [hU]; exact hPc, va_K.moved hW.alike hK, ⟨NW.warm hW hN.1, by rw [hU]; exact SK.warm hW ((hN.2.kept hS.2.1).narrow hFc)⟩, hDc⟩⟩ rfl rfl hl.1 rfl (lv_room hrest) d ⟨hca.1, hca.2⟩
theorem s_callIN (C : Cx X cc own Ts nL rm) {y : MethodName} {bytes : ByteArray} {maxL index b : Nat} {wl wl' : List Cond} {rmc : Room} {mc ms : Nat} (wc : va_W) (w1f : (Nat → Nat) → va_W) (hM : CtN (xL X) y wl rmc [.ref b] (xD X) (xT X) wc mc ms w1f) (hG : GoodIn Ts wl) (hw : wl = Cond.code y bytes maxL none :: wl') (hrc : rmc.cells = mc) (hrs : rmc.slots = ms) (host : String) (w1 : Cond.methodLinkNest own index y host ∈ nwL) (w2 : Cond.initialized y.cls ∈ Ts) (w3 : Cond.instanceMethod y ∈ Ts) (hy1 : y.name = "<init>") (hd : y.cls ≠ "java/lang/invoke/MethodHandle" ∧ y.cls ≠ "java/lang/invoke/VarHandle" ∧ (parseMethodDescriptor y.desc).map (fun d => d.parameters.length) = some 0) (hRm : rmc.frames + 1 ≤ rm.frames ∧ 8 + (maxL + 11) + rmc.locals ≤ rm.locals) (hca : ca + mc ≤ rm.cells ∧ sl + ms ≤ rm.slots) (hrest : (st.map fun v => v.category).sum ≤ 8) (d : decode cc pc = .ok (.invokespecial index, 3)) (isC isR pm : List Nat) (ws' : (Nat → Nat) → va_W) (hC : isC.map (fun i => ws[i]?) = wc.map some) (hRr : isR.all (fun i => decide (i < ws.length)) = true) (hnc : va_nd isC = true) (hnr : va_nd isR = true) (hdis : ∀ i ∈ isR, i ∉ isC) (hpm : ∀ ad, pm.map (fun i => (isR.filterMap (fun i => ws[i]?) ++ w1f ad)[i]?) = (ws' ad).map some) (hnp : va_nd pm = true)
    (k : ∀ ad : Nat → Nat, Sim X Qf (ca + mc) (sl + ms) nL o (ws' ad) (pc + 3) lv st) : Sim X Qf ca sl nL o ws pc lv (.ref b :: st) := by
  revert hM
  obtain ⟨p, l, e, R, s, m, args, below, meth, c, D, T, A⟩ := X
  obtain ⟨hx, hb, hml, hown, hts, hK, hA, hN, rfl⟩ := C
  intro hM r hr H locs ls hP hD hS hl
  refine after_callN (a := ([.ref b] : List Value).toArray) (ws := ws) (wc := wc) (w1 := w1f) (wr := isR.filterMap (fun i => ws[i]?)) (ws' := ws') (rest := st) ?_ hP hD hS hA isC isR pm hC (map_all hRr) hnr hdis hpm hnp (fun ad H1 locs1 hP1 hD1 hS1 => k ad r hr H1 locs1 ls hP1 hD1 hS1 hl)
  have hPc : va_P D vwCl wc H := P_map hP isC hC
  have hFc := va_free (wc := wc) hD hS hA isC hC
  have hDc : va_D (fun _ => True) wc := by
    refine ⟨fun i j p1 q1 h1 h2 h3 => ?_, fun _ _ _ => trivial⟩
    have z : ∀ (k : Nat) (q : Nat × va_E), wc[k]? = some q → ∃ i, isC[k]? = some i ∧ ws[i]? = some q := by
      intro k q hk
      have g1 : (isC.map (fun i => ws[i]?))[k]? = some (some q) := by rw [hC, List.getElem?_map, hk]; rfl
      rw [List.getElem?_map] at g1
      cases hi : isC[k]? with
      | none => rw [hi] at g1; cases g1
      | some i => rw [hi] at g1; exact ⟨i, rfl, Option.some.inj g1⟩
    obtain ⟨i1, a1, a2⟩ := z i p1 h1
    obtain ⟨j1, b1, b2⟩ := z j q1 h2
    have e1 := hD.1 i1 j1 p1 q1 a2 b2 h3
    subst e1
    exact va_nd_inj isC hnc i j i1 a1 b1
  exact va_runIN (As := []) (rest := st) (bytes := bytes) (maxL := maxL) ⟨hx, hb, hml, hown, hts⟩ (hM H.size) (⟨va_cnB 0 hts hG hw hrc hrs (hN.1 _ w1) (hts _ w2) hd hRm, hy1, hts _ w3⟩) ⟨Pre0.blind, fun U hU hW => ⟨rfl, by rw [hU], by rw [hU]; exact hPc, va_K.moved hW.alike hK, ⟨NW.warm hW hN.1, by rw [hU]; exact SK.warm hW ((hN.2.kept hS.2.1).narrow hFc)⟩, hDc⟩⟩ rfl rfl hl.1 rfl (lv_room hrest) d ⟨hca.1, hca.2⟩
theorem s_bindq {α : Type} {om : Option α} {f : α → Option ρ} (k : ∀ q, om = some q → Sim X Qf ca sl nL (f q) ws pc lv st) : Sim X Qf ca sl nL (om.bind f) ws pc lv st := by
  cases ho : om with
  | none => exact s_none
  | some q => exact k q ho
end SN
theorem ct_C {ρ : Type} {l : Launch} {y : MethodName} {wl wl' : List Cond} {rm : Room} {av : List Value} {D : va_G} {T : Nat → ClassId} {W0 : va_W} {cc : ByteArray} {maxL : Nat} (mc ms : Nat) (hy : plainName y.cls = true) (hy1 : y.name = "<init>") (hw : wl = .code y cc maxL none :: wl') (hlen : (lg_sl av).length ≤ maxL) (o : Option ρ) (W1 : ρ → (Nat → Nat) → va_W)
    (body : ∀ (X : KX) (Qf : ρ → State → Prop), xL X = l → xD X = D → xT X = T → Cx X cc y.cls wl maxL rm → CI X → RtC X Qf cc maxL mc ms W1 → Sim X Qf 0 0 maxL o W0 0 (lv_args 0 av) []) : ∀ r : ρ, o = some r → CtN l y wl rm av D T W0 mc ms (W1 r) := by
  intro r ho sz
  refine Met.ofW (cc := cc) (maxL := maxL) (ret := none) hy hw ?_
  intro p e s m args below meth c s₁ B hml hv
  obtain ⟨rfl, hsz, hP, hK, hN, hD0⟩ := hv
  have hx := B.exec
  have hb := B.bytes
  have hts := atoms_spec (ws := wl) B.pre
  have hown : s.vm.findClass y.cls = some m.cls := findClass_of_methodNamed B.named
  have hlocks := B.notSynchronized
  have hin : meth.name = "<init>" := by rw [← hy1]; exact (name_of_methodNamed B.named B.method).1
  subst hsz
  have hD := hD0.self (sz := s.heap.size)
  have hl := lv_entry av hlen
  rw [lg_entry_eq]
  refine body (p, l, e, (headSpec wl rm).room, s, m, av.toArray, below, meth, c, D, T, va_A W0 s.heap.size) (fun r => MQ below (QcN D W0 s.heap.size (W1 r)) av.toArray s mc ms (va_A W0 s.heap.size)) rfl rfl rfl ⟨hx, hb, hml, hown, hts, hK, fun q h => Or.inr h, hN, rfl⟩ hin ?_ r ho s.heap [] _ hP hD va_S.rf hl
  intro r ad pc ca sl lv h1 h2 d H locs ls hP hD hS hl
  refine W.widen (k := mc) (n := ms) h1 h2 ?_
  exact W.vret hx hb B.returns (fun t ht hW => ⟨⟨ad, rfl, by rw [ht]; exact hP, hD⟩, hS.F ht⟩) hS.2.2 d

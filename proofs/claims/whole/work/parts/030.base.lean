/-! THE BASE: Wk says W over all heaps that hold a world; Sim says it for every answer that a pure program (an Option) gives. A row an instruction. -/
def tyL (T : Nat → ClassId) : List (ClassId × FieldType) := [(T 0, .byte), (T 1, .int), (T 2, .long), (T 3, .boolean), (T 4, .object RX2)]
def nwL : List Cond := [.methodLinkNest RX0 57 yX4_entry RX4, .methodLinkNest RX2 48 yX4_put RX4, .methodLinkNest RX0 53 yX4_put RX4, .methodLinkNest RX2 66 yX4_entry RX4, .methodLinkNest RX2 62 yX4_hasBit RX4, .methodLinkNest RX3 62 yX4_put RX4, .methodLinkNest RX3 66 yX4_entry RX4, .methodLinkNest RX3 77 yX4_hasBit RX4, .methodLinkNest RX3 114 yX4_entry_ RX4, .methodLinkNest RX3 107 yX4_add RX4, .methodLinkNest RX4 25 yX1_init RX4, .methodLinkNest RX4 32 yX2_init RX4, .methodLinkNest RX4 50 yX3_init RX4]
def NW (U : State) : Prop := ∀ w ∈ nwL, va_Nw w U
theorem nw_form : ∀ w ∈ nwL, ∃ (a : String) (i : Nat) (y : MethodName) (h : String), w = .methodLinkNest a i y h := by
  intro w hw
  simp only [nwL, List.mem_cons, List.not_mem_nil, or_false] at hw
  rcases hw with rfl | rfl | rfl | rfl | rfl | rfl | rfl | rfl | rfl | rfl | rfl | rfl | rfl <;> exact ⟨_, _, _, _, rfl⟩
theorem NW.same {u U : State} (h : u.vm = U.vm) (hN : NW u) : NW U := by
  intro w hw
  obtain ⟨a, i, y, hh, rfl⟩ := nw_form w hw
  exact va_Nw.same rfl h (hN _ hw)
theorem NW.warm {s U : State} (hW : s.WarmedH U.vm) (hN : NW s) : NW U := by
  intro w hw
  obtain ⟨a, i, y, hh, rfl⟩ := nw_form w hw
  exact va_Nw.warmM hW (hN _ hw)
def sLen : List Nat := [7, 5, 6, 8, 6, 3, 4]
def sByt : List (List Int32) := [[115, 108, 101, 101, 112, 101, 114], [115, 117, 110, 110, 121], [102, 105, 115, 104, 101, 114], [102, 111, 108, 108, 111, 119, 101, 114], [98, 114, 105, 100, 103, 101], [115, 117, 110], [110, 111, 115, 101]]
def sIx : Nat → Nat := fun i => match i with | 0 => 116 | 1 => 122 | 2 => 124 | 3 => 126 | 4 => 128 | 5 => 130 | _ => 132
def sTx : Nat → String := fun i => match i with | 0 => "sleeper" | 1 => "sunny" | 2 => "fisher" | 3 => "follower" | 4 => "bridge" | 5 => "sun" | _ => "nose"
/-- the class's String constants (addresses T (100 + i), their bytes T (200 + i)), two statics of the JDK's -/
def SK (T : Nat → Nat) (A : Nat → Prop) (U : State) (H : Heap) : Prop := vk_S 7 sLen sByt (fun i => T (100 + i)) (fun i => T (200 + i)) A U H ∧ (∀ i : Nat, i < 7 → vk_R RX1 (sIx i) (sTx i) (T (100 + i)) U) ∧ va_Z "java/lang/String" "COMPACT_STRINGS" "Z" (.int 1) A U H ∧ va_Zq "jdk/internal/util/Preconditions" "SIOOBE_FORMATTER" "Ljava/util/function/BiFunction;" A U H ∧ va_AO RX2 U
theorem SK.same {T : Nat → Nat} {A : Nat → Prop} {u U : State} {H : Heap} (hv : U.vm = u.vm) (ha : u.vm.Alike U.vm) (h : SK T A u H) : SK T A U H := ⟨h.1.moved ha, fun i hi => vk_R.same hv (h.2.1 i hi), va_Z.moved ha h.2.2.1, va_Zq.moved ha h.2.2.2.1, va_AO.moved ha h.2.2.2.2⟩
theorem SK.warm {T : Nat → Nat} {A : Nat → Prop} {s U : State} {H : Heap} (hW : s.WarmedH U.vm) (h : SK T A s H) : SK T A U H := ⟨h.1.moved hW.alike, fun i hi => vk_R.warm hW (h.2.1 i hi), va_Z.moved hW.alike h.2.2.1, va_Zq.moved hW.alike h.2.2.2.1, va_AO.moved hW.alike h.2.2.2.2⟩
theorem SK.kept {T : Nat → Nat} {A : Nat → Prop} {U : State} {H H1 : Heap} (h : SK T A U H) (hq : ∀ a : Nat, a < H.size → ¬ A a → H1[a]? = H[a]?) : SK T A U H1 := ⟨h.1.kept hq, h.2.1, h.2.2.1.kept hq, h.2.2.2.1.kept hq, h.2.2.2.2⟩
theorem SK.narrow {T : Nat → Nat} {A B : Nat → Prop} {U : State} {H : Heap} (h : SK T A U H) (hAB : ∀ q, B q → A q) : SK T B U H := ⟨h.1.narrow hAB, h.2.1, h.2.2.1.narrow hAB, h.2.2.2.1.narrow hAB, h.2.2.2.2⟩
abbrev KX : Type := Program × Launch × Env × Room × State × MethodId × Array Value × List Frame × Method × Code × va_G × (Nat → ClassId) × (Nat → Prop)
def xL (X : KX) : Launch := X.2.1
def xD (X : KX) : va_G := X.2.2.2.2.2.2.2.2.2.2.1
def xT (X : KX) : Nat → ClassId := X.2.2.2.2.2.2.2.2.2.2.2.1
def Wk (X : KX) (Q : State → Prop) (ca sl nL : Nat) (ws : va_W) (pc : Nat) (lv : List (Nat × Value)) (st : List Value) : Prop :=
  match X with
  | (p, l, e, R, s, m, args, below, meth, c, D, _, A) => ∀ (H : Heap) (locs : List Loc) (ls : Array Slot), va_P D vwCl ws H → va_D A ws → va_S A s.heap H locs → lv_has ls nL lv → W p l e R s m args below meth c H locs ca sl Q (F0 m pc ls st)
def Cx (X : KX) (cc : ByteArray) (own : String) (Ts : List Cond) (nL : Nat) (rm : Room) : Prop :=
  match X with
  | (p, _, _, R, s, m, args, _, _, c, D, T, A) => p.tables.exec = Jvm.exec ∧ c.code = cc ∧ c.maxLocals = nL ∧ s.vm.findClass own = some m.cls ∧ (∀ w ∈ Ts, w.before args s = true) ∧ va_K D vwCl (tyL T) s ∧ (∀ q : Nat, s.heap.size ≤ q → A q) ∧ (NW s ∧ SK T A s s.heap) ∧ R = rm
def Sim {ρ : Type} (X : KX) (Qf : ρ → State → Prop) (ca sl nL : Nat) (o : Option ρ) (ws : va_W) (pc : Nat) (lv : List (Nat × Value)) (st : List Value) : Prop := ∀ r, o = some r → Wk X (Qf r) ca sl nL ws pc lv st
def Pre0 (D : va_G) (T : Nat → ClassId) (W0 : va_W) (sz : Nat) (U : State) : Prop := U.heap.size = sz ∧ va_P D vwCl W0 U.heap ∧ va_K D vwCl (tyL T) U ∧ (NW U ∧ SK T (va_A W0 sz) U U.heap) ∧ va_D (fun _ => True) W0
def Qc0 (D : va_G) (W0 : va_W) (sz : Nat) (rv : Option Value) (W1 : va_W) : Array Value → State → Outcome → State → Prop := fun _ st oc t => (oc = .returned rv ∧ va_P D vwCl W1 t.heap ∧ va_D (va_A W0 sz) W1) ∧ va_F (va_A W0 sz) st t
def Ct (l : Launch) (y : MethodName) (wl : List Cond) (rm : Room) (av : List Value) (D : va_G) (T : Nat → ClassId) (W0 : va_W) (rv : Option Value) (W1 : va_W) : Prop := ∀ sz : Nat, Met l y wl rm (va_Pc av (Pre0 D T W0 sz)) (Qc0 D W0 sz rv W1) 0 0 (va_A W0 sz)
theorem Pre0.blind {av : List Value} {D : va_G} {T : Nat → ClassId} {W0 : va_W} {sz : Nat} : FrameBlind (va_Pc av (Pre0 D T W0 sz)) := by
  intro a U g mk h
  obtain ⟨h1, h2, h3, h4, h5, h6⟩ := h
  exact ⟨h1, h2, h3, va_K.moved (u := U) (U := U.calling g mk a) (Vm.Alike.refl U.vm) h4, ⟨NW.same (u := U) (U := U.calling g mk a) rfl h5.1, SK.same (u := U) (U := U.calling g mk a) rfl (Vm.Alike.refl U.vm) h5.2⟩, h6⟩
theorem P_map {D : va_G} {cl : List vw_C} {ws ws' : va_W} {H : Heap} (h : va_P D cl ws H) (is : List Nat) (hs : is.map (fun i => ws[i]?) = ws'.map some) : va_P D cl ws' H := by
  intro k q hk
  have h1 : (is.map (fun i => ws[i]?))[k]? = some (some q) := by rw [hs, List.getElem?_map, hk]; rfl
  rw [List.getElem?_map] at h1
  cases hi : is[k]? with
  | none => rw [hi] at h1; cases h1
  | some i => rw [hi] at h1; exact h i q (Option.some.inj h1)
theorem map_all {ws : va_W} : ∀ {is : List Nat}, is.all (fun i => decide (i < ws.length)) = true → is.map (fun i => ws[i]?) = (is.filterMap (fun i => ws[i]?)).map some
  | [], _ => rfl
  | i :: r, h => by
    simp only [List.all_cons, Bool.and_eq_true, decide_eq_true_eq] at h
    have e : ws[i]? = some ws[i] := List.getElem?_eq_getElem h.1
    simp only [List.map_cons, List.filterMap_cons, e, map_all h.2]
/-! the pure program's own words -/
def imgF (a b : Nat) : Nat → Option Nat := fun j => if j = 0 then some a else if j = 1 then some b else none
def nm {α β : Type} (e : α) (f : α → β) : β := f e
def ldI {α β : Type} (n : Nat) (f : Nat → α) (i : Int32) (k : α → Option β) : Option β := if i < 0 ∨ n ≤ i.toNatClampNeg then none else k (f i.toNatClampNeg)
def stI {β : Type} (n : Nat) (f : Nat → Int32) (i : Int32) (x : Int32) (k : (Nat → Int32) → Option β) : Option β := if i < 0 ∨ n ≤ i.toNatClampNeg then none else k (upd f i.toNatClampNeg x)
def stJ {β : Type} (n : Nat) (f : Nat → Int64) (i : Int32) (x : Int64) (k : (Nat → Int64) → Option β) : Option β := if i < 0 ∨ n ≤ i.toNatClampNeg then none else k (vp_updL f i.toNatClampNeg x)
def nzI {β : Type} (y : Int32) (o : Option β) : Option β := if y = 0 then none else o
def bzI {β : Type} (v : Int32) (o : Option β) : Option β := if v = 0 ∨ v = 1 then o else none
def lpN {σ ρ : Type} (F : (σ → Option ρ) → σ → Option ρ) : Nat → σ → Option ρ
  | 0, _ => none
  | n + 1, s => F (lpN F n) s
theorem fz_ex : ∃ n : Nat, 1000000 ≤ n := ⟨1000000, Nat.le_refl _⟩
noncomputable def fz : Nat := Classical.choose fz_ex
theorem fz_ge : 1000000 ≤ fz := Classical.choose_spec fz_ex
section SB
variable {ρ : Type} {X : KX} {Qf : ρ → State → Prop} {ca sl nL : Nat} {o o1 o2 : Option ρ} {ws : va_W} {pc : Nat} {lv : List (Nat × Value)} {st : List Value} {cc : ByteArray} {own : String} {Ts : List Cond} {rm : Room}
theorem s_none : Sim X Qf ca sl nL (none : Option ρ) ws pc lv st := fun r h => by cases h
theorem s_nm {α : Type} {e : α} {f : α → Option ρ} (wsf : α → va_W) (lvf : α → List (Nat × Value)) (stf : α → List Value) (k : ∀ x, Sim X Qf ca sl nL (f x) (wsf x) pc (lvf x) (stf x)) : Sim X Qf ca sl nL (nm e f) (wsf e) pc (lvf e) (stf e) := k e
theorem s_nmi {e : Int32} {f : Int32 → Option ρ} (k : ∀ x : Int32, Sim X Qf ca sl nL (f x) ws pc lv (.int x :: st)) : Sim X Qf ca sl nL (nm e f) ws pc lv (.int e :: st) := k e
theorem s_nml {e : Int64} {f : Int64 → Option ρ} (k : ∀ x : Int64, Sim X Qf ca sl nL (f x) ws pc lv (.long x :: st)) : Sim X Qf ca sl nL (nm e f) ws pc lv (.long e :: st) := k e
theorem s_lv (ks : List Nat) {lv' : List (Nat × Value)} (h : lv_pick lv ks = lv') (k : Sim X Qf ca sl nL o ws pc lv' st) : Sim X Qf ca sl nL o ws pc lv st := by
  obtain ⟨p, l, e, R, s, m, args, below, meth, c, D, T, A⟩ := X
  intro r hr H locs ls hP hD hS hl
  exact k r hr H locs ls hP hD hS (lv_sub hl ks h)
theorem s_perm (is : List Nat) {ws' : va_W} (hs : is.map (fun i => ws[i]?) = ws'.map some) (hn : va_nd is = true) (k : Sim X Qf ca sl nL o ws' pc lv st) : Sim X Qf ca sl nL o ws pc lv st := by
  obtain ⟨p, l, e, R, s, m, args, below, meth, c, D, T, A⟩ := X
  intro r hr H locs ls hP hD hS hl
  exact k r hr H locs ls (P_map hP is hs) (hD.sub is hn hs) hS hl
theorem s_loop {σ : Type} {F : (σ → Option ρ) → σ → Option ρ} (wsf : σ → va_W) (lvf : σ → List (Nat × Value)) (hF : ∀ rec : σ → Option ρ, (∀ s, Sim X Qf ca sl nL (rec s) (wsf s) pc (lvf s) []) → ∀ s, Sim X Qf ca sl nL (F rec s) (wsf s) pc (lvf s) []) : ∀ (n : Nat) (s : σ), Sim X Qf ca sl nL (lpN F n s) (wsf s) pc (lvf s) [] := by
  intro n
  induction n with
  | zero => intro s; exact s_none
  | succ n ih => intro s; exact hF (lpN F n) ih s
theorem s_iconst (C : Cx X cc own Ts nL rm) {n : Int} (v : Int32) (d : decode cc pc = .ok (.iconst n, 1)) (hv : Int32.ofInt n = v) (k : Sim X Qf ca sl nL o ws (pc + 1) lv (.int v :: st)) : Sim X Qf ca sl nL o ws pc lv st := by
  obtain ⟨p, l, e, R, s, m, args, below, meth, c, D, T, A⟩ := X
  obtain ⟨hx, hb, hml, hown, hts, hK, hA, hN, hR⟩ := C
  intro r hr H locs ls hP hD hS hl
  exact lv_iconst hx hb d hv (k r hr H locs ls hP hD hS hl)
theorem s_bipush (C : Cx X cc own Ts nL rm) {n : Int} (v : Int32) (d : decode cc pc = .ok (.bipush n, 2)) (hv : (Int8.ofInt n).toInt32 = v) (k : Sim X Qf ca sl nL o ws (pc + 2) lv (.int v :: st)) : Sim X Qf ca sl nL o ws pc lv st := by
  obtain ⟨p, l, e, R, s, m, args, below, meth, c, D, T, A⟩ := X
  obtain ⟨hx, hb, hml, hown, hts, hK, hA, hN, hR⟩ := C
  intro r hr H locs ls hP hD hS hl
  exact lv_bipush hx hb d hv (k r hr H locs ls hP hD hS hl)
theorem s_sipush (C : Cx X cc own Ts nL rm) {n : Int} (v : Int32) (d : decode cc pc = .ok (.sipush n, 3)) (hv : (Int16.ofInt n).toInt32 = v) (k : Sim X Qf ca sl nL o ws (pc + 3) lv (.int v :: st)) : Sim X Qf ca sl nL o ws pc lv st := by
  obtain ⟨p, l, e, R, s, m, args, below, meth, c, D, T, A⟩ := X
  obtain ⟨hx, hb, hml, hown, hts, hK, hA, hN, hR⟩ := C
  intro r hr H locs ls hP hD hS hl
  exact lv_sipush hx hb d hv (k r hr H locs ls hP hD hS hl)
theorem s_lconst (C : Cx X cc own Ts nL rm) {n : Fin 2} (v : Int64) (d : decode cc pc = .ok (.lconst n, 1)) (hv : Int64.ofNat (n : Nat) = v) (k : Sim X Qf ca sl nL o ws (pc + 1) lv (.long v :: st)) : Sim X Qf ca sl nL o ws pc lv st := by
  obtain ⟨p, l, e, R, s, m, args, below, meth, c, D, T, A⟩ := X
  obtain ⟨hx, hb, hml, hown, hts, hK, hA, hN, hR⟩ := C
  intro r hr H locs ls hP hD hS hl
  exact lv_lconst hx hb d hv (k r hr H locs ls hP hD hS hl)
theorem s_ldc (C : Cx X cc own Ts nL rm) {index : Nat} (v : Int32) (hw : Cond.constant own index v ∈ Ts) (d : decode cc pc = .ok (.ldc index, 2)) (k : Sim X Qf ca sl nL o ws (pc + 2) lv (.int v :: st)) : Sim X Qf ca sl nL o ws pc lv st := by
  obtain ⟨p, l, e, R, s, m, args, below, meth, c, D, T, A⟩ := X
  obtain ⟨hx, hb, hml, hown, hts, hK, hA, hN, hR⟩ := C
  intro r hr H locs ls hP hD hS hl
  exact lv_ldc hx hb hown (hts _ hw) d (k r hr H locs ls hP hD hS hl)
theorem s_ldcw (C : Cx X cc own Ts nL rm) {index : Nat} (v : Int32) (hw : Cond.constant own index v ∈ Ts) (d : decode cc pc = .ok (.ldc_w index, 3)) (k : Sim X Qf ca sl nL o ws (pc + 3) lv (.int v :: st)) : Sim X Qf ca sl nL o ws pc lv st := by
  obtain ⟨p, l, e, R, s, m, args, below, meth, c, D, T, A⟩ := X
  obtain ⟨hx, hb, hml, hown, hts, hK, hA, hN, hR⟩ := C
  intro r hr H locs ls hP hD hS hl
  exact lv_ldcw hx hb hown (hts _ hw) d (k r hr H locs ls hP hD hS hl)
theorem s_ldc2 (C : Cx X cc own Ts nL rm) {index : Nat} (v : Int64) (hw : Cond.constantLong own index v ∈ Ts) (d : decode cc pc = .ok (.ldc2_w index, 3)) (k : Sim X Qf ca sl nL o ws (pc + 3) lv (.long v :: st)) : Sim X Qf ca sl nL o ws pc lv st := by
  obtain ⟨p, l, e, R, s, m, args, below, meth, c, D, T, A⟩ := X
  obtain ⟨hx, hb, hml, hown, hts, hK, hA, hN, hR⟩ := C
  intro r hr H locs ls hP hD hS hl
  exact lv_ldc2 hx hb hown (hts _ hw) d (k r hr H locs ls hP hD hS hl)
theorem s_iload_n (C : Cx X cc own Ts nL rm) {kk : Fin 4} {i : Nat} {x : Int32} (q : Nat) (d : decode cc pc = .ok (.iload_n kk, 1)) (hi : (kk : Nat) = i) (hq : lv[q]? = some (i, .int x)) (k : Sim X Qf ca sl nL o ws (pc + 1) lv (.int x :: st)) : Sim X Qf ca sl nL o ws pc lv st := by
  obtain ⟨p, l, e, R, s, m, args, below, meth, c, D, T, A⟩ := X
  obtain ⟨hx, hb, hml, hown, hts, hK, hA, hN, hR⟩ := C
  intro r hr H locs ls hP hD hS hl
  exact lv_iload_n hx hb d hi (lv_at hl q hq) (k r hr H locs ls hP hD hS hl)
theorem s_iload (C : Cx X cc own Ts nL rm) {i : Nat} {x : Int32} (q : Nat) (d : decode cc pc = .ok (.iload i, 2)) (hq : lv[q]? = some (i, .int x)) (k : Sim X Qf ca sl nL o ws (pc + 2) lv (.int x :: st)) : Sim X Qf ca sl nL o ws pc lv st := by
  obtain ⟨p, l, e, R, s, m, args, below, meth, c, D, T, A⟩ := X
  obtain ⟨hx, hb, hml, hown, hts, hK, hA, hN, hR⟩ := C
  intro r hr H locs ls hP hD hS hl
  exact lv_iload hx hb d (lv_at hl q hq) (k r hr H locs ls hP hD hS hl)
theorem s_istore_n (C : Cx X cc own Ts nL rm) {kk : Fin 4} {i : Nat} {x : Int32} (lv' : List (Nat × Value)) (d : decode cc pc = .ok (.istore_n kk, 1)) (hi : (kk : Nat) = i) (hn : i < nL) (hl0 : (i, Value.int x) :: lv.filter (fun q => !(q.1 == i) && !(q.1 + 1 == i && q.2.category == 2)) = lv') (k : Sim X Qf ca sl nL o ws (pc + 1) lv' st) : Sim X Qf ca sl nL o ws pc lv (.int x :: st) := by
  obtain ⟨p, l, e, R, s, m, args, below, meth, c, D, T, A⟩ := X
  obtain ⟨hx, hb, hml, hown, hts, hK, hA, hN, hR⟩ := C
  intro r hr H locs ls hP hD hS hl
  exact lv_istore_n hx hb d hi hl hn hl0 (fun ls' hl' => k r hr H locs ls' hP hD hS hl')
theorem s_istore (C : Cx X cc own Ts nL rm) {i : Nat} {x : Int32} (lv' : List (Nat × Value)) (d : decode cc pc = .ok (.istore i, 2)) (hn : i < nL) (hl0 : (i, Value.int x) :: lv.filter (fun q => !(q.1 == i) && !(q.1 + 1 == i && q.2.category == 2)) = lv') (k : Sim X Qf ca sl nL o ws (pc + 2) lv' st) : Sim X Qf ca sl nL o ws pc lv (.int x :: st) := by
  obtain ⟨p, l, e, R, s, m, args, below, meth, c, D, T, A⟩ := X
  obtain ⟨hx, hb, hml, hown, hts, hK, hA, hN, hR⟩ := C
  intro r hr H locs ls hP hD hS hl
  exact lv_istore hx hb d hl hn hl0 (fun ls' hl' => k r hr H locs ls' hP hD hS hl')
theorem s_lload_n (C : Cx X cc own Ts nL rm) {kk : Fin 4} {i : Nat} {x : Int64} (q : Nat) (d : decode cc pc = .ok (.lload_n kk, 1)) (hi : (kk : Nat) = i) (hq : lv[q]? = some (i, .long x)) (k : Sim X Qf ca sl nL o ws (pc + 1) lv (.long x :: st)) : Sim X Qf ca sl nL o ws pc lv st := by
  obtain ⟨p, l, e, R, s, m, args, below, meth, c, D, T, A⟩ := X
  obtain ⟨hx, hb, hml, hown, hts, hK, hA, hN, hR⟩ := C
  intro r hr H locs ls hP hD hS hl
  exact lv_lload_n hx hb d hi (lv_at hl q hq) (k r hr H locs ls hP hD hS hl)
theorem s_lload (C : Cx X cc own Ts nL rm) {i : Nat} {x : Int64} (q : Nat) (d : decode cc pc = .ok (.lload i, 2)) (hq : lv[q]? = some (i, .long x)) (k : Sim X Qf ca sl nL o ws (pc + 2) lv (.long x :: st)) : Sim X Qf ca sl nL o ws pc lv st := by
  obtain ⟨p, l, e, R, s, m, args, below, meth, c, D, T, A⟩ := X
  obtain ⟨hx, hb, hml, hown, hts, hK, hA, hN, hR⟩ := C
  intro r hr H locs ls hP hD hS hl
  exact lv_lload hx hb d (lv_at hl q hq) (k r hr H locs ls hP hD hS hl)
theorem s_lstore_n (C : Cx X cc own Ts nL rm) {kk : Fin 4} {i : Nat} {x : Int64} (lv' : List (Nat × Value)) (d : decode cc pc = .ok (.lstore_n kk, 1)) (hi : (kk : Nat) = i) (hn : i + 1 < nL) (hl0 : (i, Value.long x) :: lv.filter (fun q => !(q.1 == i) && (!(q.1 == i + 1) && !(q.1 + 1 == i && q.2.category == 2))) = lv') (k : Sim X Qf ca sl nL o ws (pc + 1) lv' st) : Sim X Qf ca sl nL o ws pc lv (.long x :: st) := by
  obtain ⟨p, l, e, R, s, m, args, below, meth, c, D, T, A⟩ := X
  obtain ⟨hx, hb, hml, hown, hts, hK, hA, hN, hR⟩ := C
  intro r hr H locs ls hP hD hS hl
  exact lv_lstore_n hx hb d hi hl hn hl0 (fun ls' hl' => k r hr H locs ls' hP hD hS hl')
theorem s_lstore (C : Cx X cc own Ts nL rm) {i : Nat} {x : Int64} (lv' : List (Nat × Value)) (d : decode cc pc = .ok (.lstore i, 2)) (hn : i + 1 < nL) (hl0 : (i, Value.long x) :: lv.filter (fun q => !(q.1 == i) && (!(q.1 == i + 1) && !(q.1 + 1 == i && q.2.category == 2))) = lv') (k : Sim X Qf ca sl nL o ws (pc + 2) lv' st) : Sim X Qf ca sl nL o ws pc lv (.long x :: st) := by
  obtain ⟨p, l, e, R, s, m, args, below, meth, c, D, T, A⟩ := X
  obtain ⟨hx, hb, hml, hown, hts, hK, hA, hN, hR⟩ := C
  intro r hr H locs ls hP hD hS hl
  exact lv_lstore hx hb d hl hn hl0 (fun ls' hl' => k r hr H locs ls' hP hD hS hl')
theorem s_aload_n (C : Cx X cc own Ts nL rm) {kk : Fin 4} {i : Nat} {x : Nat} (q : Nat) (d : decode cc pc = .ok (.aload_n kk, 1)) (hi : (kk : Nat) = i) (hq : lv[q]? = some (i, .ref x)) (k : Sim X Qf ca sl nL o ws (pc + 1) lv (.ref x :: st)) : Sim X Qf ca sl nL o ws pc lv st := by
  obtain ⟨p, l, e, R, s, m, args, below, meth, c, D, T, A⟩ := X
  obtain ⟨hx, hb, hml, hown, hts, hK, hA, hN, hR⟩ := C
  intro r hr H locs ls hP hD hS hl
  exact lv_aload_n hx hb d hi (lv_at hl q hq) (k r hr H locs ls hP hD hS hl)
theorem s_aload (C : Cx X cc own Ts nL rm) {i : Nat} {x : Nat} (q : Nat) (d : decode cc pc = .ok (.aload i, 2)) (hq : lv[q]? = some (i, .ref x)) (k : Sim X Qf ca sl nL o ws (pc + 2) lv (.ref x :: st)) : Sim X Qf ca sl nL o ws pc lv st := by
  obtain ⟨p, l, e, R, s, m, args, below, meth, c, D, T, A⟩ := X
  obtain ⟨hx, hb, hml, hown, hts, hK, hA, hN, hR⟩ := C
  intro r hr H locs ls hP hD hS hl
  exact lv_aload hx hb d (lv_at hl q hq) (k r hr H locs ls hP hD hS hl)
theorem s_astore_n (C : Cx X cc own Ts nL rm) {kk : Fin 4} {i : Nat} {x : Nat} (lv' : List (Nat × Value)) (d : decode cc pc = .ok (.astore_n kk, 1)) (hi : (kk : Nat) = i) (hn : i < nL) (hl0 : (i, Value.ref x) :: lv.filter (fun q => !(q.1 == i) && !(q.1 + 1 == i && q.2.category == 2)) = lv') (k : Sim X Qf ca sl nL o ws (pc + 1) lv' st) : Sim X Qf ca sl nL o ws pc lv (.ref x :: st) := by
  obtain ⟨p, l, e, R, s, m, args, below, meth, c, D, T, A⟩ := X
  obtain ⟨hx, hb, hml, hown, hts, hK, hA, hN, hR⟩ := C
  intro r hr H locs ls hP hD hS hl
  exact lv_astore_n hx hb d hi hl hn hl0 (fun ls' hl' => k r hr H locs ls' hP hD hS hl')
theorem s_astore (C : Cx X cc own Ts nL rm) {i : Nat} {x : Nat} (lv' : List (Nat × Value)) (d : decode cc pc = .ok (.astore i, 2)) (hn : i < nL) (hl0 : (i, Value.ref x) :: lv.filter (fun q => !(q.1 == i) && !(q.1 + 1 == i && q.2.category == 2)) = lv') (k : Sim X Qf ca sl nL o ws (pc + 2) lv' st) : Sim X Qf ca sl nL o ws pc lv (.ref x :: st) := by
  obtain ⟨p, l, e, R, s, m, args, below, meth, c, D, T, A⟩ := X
  obtain ⟨hx, hb, hml, hown, hts, hK, hA, hN, hR⟩ := C
  intro r hr H locs ls hP hD hS hl
  exact lv_astore hx hb d hl hn hl0 (fun ls' hl' => k r hr H locs ls' hP hD hS hl')
theorem s_iinc (C : Cx X cc own Ts nL rm) {i : Nat} {n : Int} {x v : Int32} (lv' : List (Nat × Value)) (q : Nat) (d : decode cc pc = .ok (.iinc i n, 3)) (hq : lv[q]? = some (i, .int x)) (hv : x + Int32.ofInt n = v) (hn : i < nL) (hl0 : (i, Value.int v) :: lv.filter (fun q => !(q.1 == i) && !(q.1 + 1 == i && q.2.category == 2)) = lv') (k : Sim X Qf ca sl nL o ws (pc + 3) lv' st) : Sim X Qf ca sl nL o ws pc lv st := by
  obtain ⟨p, l, e, R, s, m, args, below, meth, c, D, T, A⟩ := X
  obtain ⟨hx, hb, hml, hown, hts, hK, hA, hN, hR⟩ := C
  intro r hr H locs ls hP hD hS hl
  exact lv_iinc hx hb d hl hq hv hn hl0 (fun ls' hl' => k r hr H locs ls' hP hD hS hl')
theorem s_iadd (C : Cx X cc own Ts nL rm) {x y : Int32} (d : decode cc pc = .ok (.iadd, 1)) (k : Sim X Qf ca sl nL o ws (pc + 1) lv (.int (x + y) :: st)) : Sim X Qf ca sl nL o ws pc lv (.int y :: .int x :: st) := by
  obtain ⟨p, l, e, R, s, m, args, below, meth, c, D, T, A⟩ := X
  obtain ⟨hx, hb, hml, hown, hts, hK, hA, hN, hR⟩ := C
  intro r hr H locs ls hP hD hS hl
  exact lv_iadd hx hb d (k r hr H locs ls hP hD hS hl)
theorem s_isub (C : Cx X cc own Ts nL rm) {x y : Int32} (d : decode cc pc = .ok (.isub, 1)) (k : Sim X Qf ca sl nL o ws (pc + 1) lv (.int (x - y) :: st)) : Sim X Qf ca sl nL o ws pc lv (.int y :: .int x :: st) := by
  obtain ⟨p, l, e, R, s, m, args, below, meth, c, D, T, A⟩ := X
  obtain ⟨hx, hb, hml, hown, hts, hK, hA, hN, hR⟩ := C
  intro r hr H locs ls hP hD hS hl
  exact lv_isub hx hb d (k r hr H locs ls hP hD hS hl)
theorem s_imul (C : Cx X cc own Ts nL rm) {x y : Int32} (d : decode cc pc = .ok (.imul, 1)) (k : Sim X Qf ca sl nL o ws (pc + 1) lv (.int (x * y) :: st)) : Sim X Qf ca sl nL o ws pc lv (.int y :: .int x :: st) := by
  obtain ⟨p, l, e, R, s, m, args, below, meth, c, D, T, A⟩ := X
  obtain ⟨hx, hb, hml, hown, hts, hK, hA, hN, hR⟩ := C
  intro r hr H locs ls hP hD hS hl
  exact lv_imul hx hb d (k r hr H locs ls hP hD hS hl)
theorem s_iand (C : Cx X cc own Ts nL rm) {x y : Int32} (d : decode cc pc = .ok (.iand, 1)) (k : Sim X Qf ca sl nL o ws (pc + 1) lv (.int (x &&& y) :: st)) : Sim X Qf ca sl nL o ws pc lv (.int y :: .int x :: st) := by
  obtain ⟨p, l, e, R, s, m, args, below, meth, c, D, T, A⟩ := X
  obtain ⟨hx, hb, hml, hown, hts, hK, hA, hN, hR⟩ := C
  intro r hr H locs ls hP hD hS hl
  exact lv_iand hx hb d (k r hr H locs ls hP hD hS hl)
theorem s_ior (C : Cx X cc own Ts nL rm) {x y : Int32} (d : decode cc pc = .ok (.ior, 1)) (k : Sim X Qf ca sl nL o ws (pc + 1) lv (.int (x ||| y) :: st)) : Sim X Qf ca sl nL o ws pc lv (.int y :: .int x :: st) := by
  obtain ⟨p, l, e, R, s, m, args, below, meth, c, D, T, A⟩ := X
  obtain ⟨hx, hb, hml, hown, hts, hK, hA, hN, hR⟩ := C
  intro r hr H locs ls hP hD hS hl
  exact lv_ior hx hb d (k r hr H locs ls hP hD hS hl)
theorem s_ixor (C : Cx X cc own Ts nL rm) {x y : Int32} (d : decode cc pc = .ok (.ixor, 1)) (k : Sim X Qf ca sl nL o ws (pc + 1) lv (.int (x ^^^ y) :: st)) : Sim X Qf ca sl nL o ws pc lv (.int y :: .int x :: st) := by
  obtain ⟨p, l, e, R, s, m, args, below, meth, c, D, T, A⟩ := X
  obtain ⟨hx, hb, hml, hown, hts, hK, hA, hN, hR⟩ := C
  intro r hr H locs ls hP hD hS hl
  exact lv_ixor hx hb d (k r hr H locs ls hP hD hS hl)
theorem s_ladd (C : Cx X cc own Ts nL rm) {x y : Int64} (d : decode cc pc = .ok (.ladd, 1)) (k : Sim X Qf ca sl nL o ws (pc + 1) lv (.long (x + y) :: st)) : Sim X Qf ca sl nL o ws pc lv (.long y :: .long x :: st) := by
  obtain ⟨p, l, e, R, s, m, args, below, meth, c, D, T, A⟩ := X
  obtain ⟨hx, hb, hml, hown, hts, hK, hA, hN, hR⟩ := C
  intro r hr H locs ls hP hD hS hl
  exact lv_ladd hx hb d (k r hr H locs ls hP hD hS hl)
theorem s_lsub (C : Cx X cc own Ts nL rm) {x y : Int64} (d : decode cc pc = .ok (.lsub, 1)) (k : Sim X Qf ca sl nL o ws (pc + 1) lv (.long (x - y) :: st)) : Sim X Qf ca sl nL o ws pc lv (.long y :: .long x :: st) := by
  obtain ⟨p, l, e, R, s, m, args, below, meth, c, D, T, A⟩ := X
  obtain ⟨hx, hb, hml, hown, hts, hK, hA, hN, hR⟩ := C
  intro r hr H locs ls hP hD hS hl
  exact lv_lsub hx hb d (k r hr H locs ls hP hD hS hl)
theorem s_lmul (C : Cx X cc own Ts nL rm) {x y : Int64} (d : decode cc pc = .ok (.lmul, 1)) (k : Sim X Qf ca sl nL o ws (pc + 1) lv (.long (x * y) :: st)) : Sim X Qf ca sl nL o ws pc lv (.long y :: .long x :: st) := by
  obtain ⟨p, l, e, R, s, m, args, below, meth, c, D, T, A⟩ := X
  obtain ⟨hx, hb, hml, hown, hts, hK, hA, hN, hR⟩ := C
  intro r hr H locs ls hP hD hS hl
  exact lv_lmul hx hb d (k r hr H locs ls hP hD hS hl)
theorem s_land (C : Cx X cc own Ts nL rm) {x y : Int64} (d : decode cc pc = .ok (.land, 1)) (k : Sim X Qf ca sl nL o ws (pc + 1) lv (.long (x &&& y) :: st)) : Sim X Qf ca sl nL o ws pc lv (.long y :: .long x :: st) := by
  obtain ⟨p, l, e, R, s, m, args, below, meth, c, D, T, A⟩ := X
  obtain ⟨hx, hb, hml, hown, hts, hK, hA, hN, hR⟩ := C
  intro r hr H locs ls hP hD hS hl
  exact lv_land hx hb d (k r hr H locs ls hP hD hS hl)
theorem s_lor (C : Cx X cc own Ts nL rm) {x y : Int64} (d : decode cc pc = .ok (.lor, 1)) (k : Sim X Qf ca sl nL o ws (pc + 1) lv (.long (x ||| y) :: st)) : Sim X Qf ca sl nL o ws pc lv (.long y :: .long x :: st) := by
  obtain ⟨p, l, e, R, s, m, args, below, meth, c, D, T, A⟩ := X
  obtain ⟨hx, hb, hml, hown, hts, hK, hA, hN, hR⟩ := C
  intro r hr H locs ls hP hD hS hl
  exact lv_lor hx hb d (k r hr H locs ls hP hD hS hl)
theorem s_lxor (C : Cx X cc own Ts nL rm) {x y : Int64} (d : decode cc pc = .ok (.lxor, 1)) (k : Sim X Qf ca sl nL o ws (pc + 1) lv (.long (x ^^^ y) :: st)) : Sim X Qf ca sl nL o ws pc lv (.long y :: .long x :: st) := by
  obtain ⟨p, l, e, R, s, m, args, below, meth, c, D, T, A⟩ := X
  obtain ⟨hx, hb, hml, hown, hts, hK, hA, hN, hR⟩ := C
  intro r hr H locs ls hP hD hS hl
  exact lv_lxor hx hb d (k r hr H locs ls hP hD hS hl)
theorem s_idiv (C : Cx X cc own Ts nL rm) {x y : Int32} (d : decode cc pc = .ok (.idiv, 1)) (k : Sim X Qf ca sl nL o ws (pc + 1) lv (.int (x / y) :: st)) : Sim X Qf ca sl nL (nzI y o) ws pc lv (.int y :: .int x :: st) := by
  by_cases h0 : y = 0
  · intro r hr; rw [nzI, if_pos h0] at hr; cases hr
  · rw [nzI, if_neg h0]
    revert h0
    obtain ⟨p, l, e, R, s, m, args, below, meth, c, D, T, A⟩ := X
    obtain ⟨hx, hb, hml, hown, hts, hK, hA, hN, hR⟩ := C
    intro h0 r hr H locs ls hP hD hS hl
    exact lv_idiv hx hb d h0 (k r hr H locs ls hP hD hS hl)
theorem s_irem (C : Cx X cc own Ts nL rm) {x y : Int32} (d : decode cc pc = .ok (.irem, 1)) (k : Sim X Qf ca sl nL o ws (pc + 1) lv (.int (x - x / y * y) :: st)) : Sim X Qf ca sl nL (nzI y o) ws pc lv (.int y :: .int x :: st) := by
  by_cases h0 : y = 0
  · intro r hr; rw [nzI, if_pos h0] at hr; cases hr
  · rw [nzI, if_neg h0]
    revert h0
    obtain ⟨p, l, e, R, s, m, args, below, meth, c, D, T, A⟩ := X
    obtain ⟨hx, hb, hml, hown, hts, hK, hA, hN, hR⟩ := C
    intro h0 r hr H locs ls hP hD hS hl
    exact lv_irem hx hb d h0 (k r hr H locs ls hP hD hS hl)
theorem s_ineg (C : Cx X cc own Ts nL rm) {x : Int32} (d : decode cc pc = .ok (.ineg, 1)) (k : Sim X Qf ca sl nL o ws (pc + 1) lv (.int (-x) :: st)) : Sim X Qf ca sl nL o ws pc lv (.int x :: st) := by
  obtain ⟨p, l, e, R, s, m, args, below, meth, c, D, T, A⟩ := X
  obtain ⟨hx, hb, hml, hown, hts, hK, hA, hN, hR⟩ := C
  intro r hr H locs ls hP hD hS hl
  exact lv_ineg hx hb d (k r hr H locs ls hP hD hS hl)
theorem s_ishl (C : Cx X cc own Ts nL rm) {x y : Int32} (d : decode cc pc = .ok (.ishl, 1)) (k : Sim X Qf ca sl nL o ws (pc + 1) lv (.int (x <<< (y &&& 31)) :: st)) : Sim X Qf ca sl nL o ws pc lv (.int y :: .int x :: st) := by
  obtain ⟨p, l, e, R, s, m, args, below, meth, c, D, T, A⟩ := X
  obtain ⟨hx, hb, hml, hown, hts, hK, hA, hN, hR⟩ := C
  intro r hr H locs ls hP hD hS hl
  exact lv_ishl hx hb d (k r hr H locs ls hP hD hS hl)
theorem s_ishr (C : Cx X cc own Ts nL rm) {x y : Int32} (d : decode cc pc = .ok (.ishr, 1)) (k : Sim X Qf ca sl nL o ws (pc + 1) lv (.int (x >>> (y &&& 31)) :: st)) : Sim X Qf ca sl nL o ws pc lv (.int y :: .int x :: st) := by
  obtain ⟨p, l, e, R, s, m, args, below, meth, c, D, T, A⟩ := X
  obtain ⟨hx, hb, hml, hown, hts, hK, hA, hN, hR⟩ := C
  intro r hr H locs ls hP hD hS hl
  exact lv_ishr hx hb d (k r hr H locs ls hP hD hS hl)
def ush (x y : Int32) : Int32 := (x.toUInt32 >>> (y.toUInt32 &&& Int32.toUInt32 31)).toInt32
def ushL (x : Int64) (y : Int32) : Int64 := (x.toUInt64 >>> (y.toInt64.toUInt64 &&& Int64.toUInt64 63)).toInt64
def shlL (x : Int64) (y : Int32) : Int64 := x <<< (y.toInt64 &&& 63)
def shrL (x : Int64) (y : Int32) : Int64 := x >>> (y.toInt64 &&& 63)
theorem s_iushr (C : Cx X cc own Ts nL rm) {x y : Int32} (d : decode cc pc = .ok (.iushr, 1)) (k : Sim X Qf ca sl nL o ws (pc + 1) lv (.int (ush x y) :: st)) : Sim X Qf ca sl nL o ws pc lv (.int y :: .int x :: st) := by
  obtain ⟨p, l, e, R, s, m, args, below, meth, c, D, T, A⟩ := X
  obtain ⟨hx, hb, hml, hown, hts, hK, hA, hN, hR⟩ := C
  intro r hr H locs ls hP hD hS hl
  exact lv_iushr hx hb d rfl (k r hr H locs ls hP hD hS hl)
theorem s_lushr (C : Cx X cc own Ts nL rm) {x : Int64} {y : Int32} (d : decode cc pc = .ok (.lushr, 1)) (k : Sim X Qf ca sl nL o ws (pc + 1) lv (.long (ushL x y) :: st)) : Sim X Qf ca sl nL o ws pc lv (.int y :: .long x :: st) := by
  obtain ⟨p, l, e, R, s, m, args, below, meth, c, D, T, A⟩ := X
  obtain ⟨hx, hb, hml, hown, hts, hK, hA, hN, hR⟩ := C
  intro r hr H locs ls hP hD hS hl
  exact lv_lushr hx hb d rfl (k r hr H locs ls hP hD hS hl)
theorem s_lshl (C : Cx X cc own Ts nL rm) {x : Int64} {y : Int32} (d : decode cc pc = .ok (.lshl, 1)) (k : Sim X Qf ca sl nL o ws (pc + 1) lv (.long (shlL x y) :: st)) : Sim X Qf ca sl nL o ws pc lv (.int y :: .long x :: st) := by
  obtain ⟨p, l, e, R, s, m, args, below, meth, c, D, T, A⟩ := X
  obtain ⟨hx, hb, hml, hown, hts, hK, hA, hN, hR⟩ := C
  intro r hr H locs ls hP hD hS hl
  exact lv_lshl hx hb d rfl (k r hr H locs ls hP hD hS hl)
theorem s_lshr (C : Cx X cc own Ts nL rm) {x : Int64} {y : Int32} (d : decode cc pc = .ok (.lshr, 1)) (k : Sim X Qf ca sl nL o ws (pc + 1) lv (.long (shrL x y) :: st)) : Sim X Qf ca sl nL o ws pc lv (.int y :: .long x :: st) := by
  obtain ⟨p, l, e, R, s, m, args, below, meth, c, D, T, A⟩ := X
  obtain ⟨hx, hb, hml, hown, hts, hK, hA, hN, hR⟩ := C
  intro r hr H locs ls hP hD hS hl
  exact lv_lshr hx hb d rfl (k r hr H locs ls hP hD hS hl)
theorem s_i2l (C : Cx X cc own Ts nL rm) {x : Int32} (d : decode cc pc = .ok (.i2l, 1)) (k : Sim X Qf ca sl nL o ws (pc + 1) lv (.long x.toInt64 :: st)) : Sim X Qf ca sl nL o ws pc lv (.int x :: st) := by
  obtain ⟨p, l, e, R, s, m, args, below, meth, c, D, T, A⟩ := X
  obtain ⟨hx, hb, hml, hown, hts, hK, hA, hN, hR⟩ := C
  intro r hr H locs ls hP hD hS hl
  exact lv_i2l hx hb d rfl (k r hr H locs ls hP hD hS hl)
theorem s_l2i (C : Cx X cc own Ts nL rm) {x : Int64} (d : decode cc pc = .ok (.l2i, 1)) (k : Sim X Qf ca sl nL o ws (pc + 1) lv (.int x.toInt32 :: st)) : Sim X Qf ca sl nL o ws pc lv (.long x :: st) := by
  obtain ⟨p, l, e, R, s, m, args, below, meth, c, D, T, A⟩ := X
  obtain ⟨hx, hb, hml, hown, hts, hK, hA, hN, hR⟩ := C
  intro r hr H locs ls hP hD hS hl
  exact lv_l2i hx hb d rfl (k r hr H locs ls hP hD hS hl)
theorem s_i2b (C : Cx X cc own Ts nL rm) {x : Int32} (d : decode cc pc = .ok (.i2b, 1)) (k : Sim X Qf ca sl nL o ws (pc + 1) lv (.int x.toInt8.toInt32 :: st)) : Sim X Qf ca sl nL o ws pc lv (.int x :: st) := by
  obtain ⟨p, l, e, R, s, m, args, below, meth, c, D, T, A⟩ := X
  obtain ⟨hx, hb, hml, hown, hts, hK, hA, hN, hR⟩ := C
  intro r hr H locs ls hP hD hS hl
  exact lv_i2b hx hb d rfl (k r hr H locs ls hP hD hS hl)
theorem s_lcmp (C : Cx X cc own Ts nL rm) {x y : Int64} (d : decode cc pc = .ok (.lcmp, 1)) (k : Sim X Qf ca sl nL o ws (pc + 1) lv (.int (lg_cmp x y) :: st)) : Sim X Qf ca sl nL o ws pc lv (.long y :: .long x :: st) := by
  obtain ⟨p, l, e, R, s, m, args, below, meth, c, D, T, A⟩ := X
  obtain ⟨hx, hb, hml, hown, hts, hK, hA, hN, hR⟩ := C
  intro r hr H locs ls hP hD hS hl
  exact W.lcmp hx hb d (k r hr H locs ls hP hD hS hl)
theorem s_dup (C : Cx X cc own Ts nL rm) {va : Value} (d : decode cc pc = .ok (.dup, 1)) (hva : va.category = 1) (k : Sim X Qf ca sl nL o ws (pc + 1) lv (va :: va :: st)) : Sim X Qf ca sl nL o ws pc lv (va :: st) := by
  obtain ⟨p, l, e, R, s, m, args, below, meth, c, D, T, A⟩ := X
  obtain ⟨hx, hb, hml, hown, hts, hK, hA, hN, hR⟩ := C
  intro r hr H locs ls hP hD hS hl
  exact lv_dup hx hb d hva (k r hr H locs ls hP hD hS hl)
theorem s_pop (C : Cx X cc own Ts nL rm) {va : Value} (d : decode cc pc = .ok (.pop, 1)) (hva : va.category = 1) (k : Sim X Qf ca sl nL o ws (pc + 1) lv st) : Sim X Qf ca sl nL o ws pc lv (va :: st) := by
  obtain ⟨p, l, e, R, s, m, args, below, meth, c, D, T, A⟩ := X
  obtain ⟨hx, hb, hml, hown, hts, hK, hA, hN, hR⟩ := C
  intro r hr H locs ls hP hD hS hl
  exact lv_pop hx hb d hva (k r hr H locs ls hP hD hS hl)
theorem s_dup2 (C : Cx X cc own Ts nL rm) {va vb : Value} (d : decode cc pc = .ok (.dup2, 1)) (hva : va.category = 1) (hvb : vb.category = 1) (k : Sim X Qf ca sl nL o ws (pc + 1) lv (va :: vb :: va :: vb :: st)) : Sim X Qf ca sl nL o ws pc lv (va :: vb :: st) := by
  obtain ⟨p, l, e, R, s, m, args, below, meth, c, D, T, A⟩ := X
  obtain ⟨hx, hb, hml, hown, hts, hK, hA, hN, hR⟩ := C
  intro r hr H locs ls hP hD hS hl
  exact lv_dup2_11 hx hb d hva hvb (k r hr H locs ls hP hD hS hl)
theorem s_if_eq (C : Cx X cc own Ts nL rm) {x : Int32} {off : Int} (tgt : Nat) (d : decode cc pc = .ok (.ifCond .eq off, 3)) (ht : (pc : Int) + off = (tgt : Int)) (k1 : Sim X Qf ca sl nL o1 ws tgt lv st) (k2 : Sim X Qf ca sl nL o2 ws (pc + 3) lv st) : Sim X Qf ca sl nL (if x = 0 then o1 else o2) ws pc lv (.int x :: st) := by
  obtain ⟨p, l, e, R, s, m, args, below, meth, c, D, T, A⟩ := X
  obtain ⟨hx, hb, hml, hown, hts, hK, hA, hN, hR⟩ := C
  intro r hr H locs ls hP hD hS hl
  exact lv_if_eq hx hb d ht (fun q => k1 r (by rw [if_pos q] at hr; exact hr) H locs ls hP hD hS hl) (fun q => k2 r (by rw [if_neg q] at hr; exact hr) H locs ls hP hD hS hl)
theorem s_icmp_eq (C : Cx X cc own Ts nL rm) {x y : Int32} {off : Int} (tgt : Nat) (d : decode cc pc = .ok (.if_icmp .eq off, 3)) (ht : (pc : Int) + off = (tgt : Int)) (k1 : Sim X Qf ca sl nL o1 ws tgt lv st) (k2 : Sim X Qf ca sl nL o2 ws (pc + 3) lv st) : Sim X Qf ca sl nL (if x = y then o1 else o2) ws pc lv (.int y :: .int x :: st) := by
  obtain ⟨p, l, e, R, s, m, args, below, meth, c, D, T, A⟩ := X
  obtain ⟨hx, hb, hml, hown, hts, hK, hA, hN, hR⟩ := C
  intro r hr H locs ls hP hD hS hl
  exact lv_icmp_eq hx hb d ht (fun q => k1 r (by rw [if_pos q] at hr; exact hr) H locs ls hP hD hS hl) (fun q => k2 r (by rw [if_neg q] at hr; exact hr) H locs ls hP hD hS hl)
theorem s_if_ne (C : Cx X cc own Ts nL rm) {x : Int32} {off : Int} (tgt : Nat) (d : decode cc pc = .ok (.ifCond .ne off, 3)) (ht : (pc : Int) + off = (tgt : Int)) (k1 : Sim X Qf ca sl nL o1 ws tgt lv st) (k2 : Sim X Qf ca sl nL o2 ws (pc + 3) lv st) : Sim X Qf ca sl nL (if x = 0 then o2 else o1) ws pc lv (.int x :: st) := by
  obtain ⟨p, l, e, R, s, m, args, below, meth, c, D, T, A⟩ := X
  obtain ⟨hx, hb, hml, hown, hts, hK, hA, hN, hR⟩ := C
  intro r hr H locs ls hP hD hS hl
  exact lv_if_ne hx hb d ht (fun q => k1 r (by rw [if_neg q] at hr; exact hr) H locs ls hP hD hS hl) (fun q => k2 r (by rw [if_pos q] at hr; exact hr) H locs ls hP hD hS hl)
theorem s_icmp_ne (C : Cx X cc own Ts nL rm) {x y : Int32} {off : Int} (tgt : Nat) (d : decode cc pc = .ok (.if_icmp .ne off, 3)) (ht : (pc : Int) + off = (tgt : Int)) (k1 : Sim X Qf ca sl nL o1 ws tgt lv st) (k2 : Sim X Qf ca sl nL o2 ws (pc + 3) lv st) : Sim X Qf ca sl nL (if x = y then o2 else o1) ws pc lv (.int y :: .int x :: st) := by
  obtain ⟨p, l, e, R, s, m, args, below, meth, c, D, T, A⟩ := X
  obtain ⟨hx, hb, hml, hown, hts, hK, hA, hN, hR⟩ := C
  intro r hr H locs ls hP hD hS hl
  exact lv_icmp_ne hx hb d ht (fun q => k1 r (by rw [if_neg q] at hr; exact hr) H locs ls hP hD hS hl) (fun q => k2 r (by rw [if_pos q] at hr; exact hr) H locs ls hP hD hS hl)
theorem s_if_lt (C : Cx X cc own Ts nL rm) {x : Int32} {off : Int} (tgt : Nat) (d : decode cc pc = .ok (.ifCond .lt off, 3)) (ht : (pc : Int) + off = (tgt : Int)) (k1 : Sim X Qf ca sl nL o1 ws tgt lv st) (k2 : Sim X Qf ca sl nL o2 ws (pc + 3) lv st) : Sim X Qf ca sl nL (if x < 0 then o1 else o2) ws pc lv (.int x :: st) := by
  obtain ⟨p, l, e, R, s, m, args, below, meth, c, D, T, A⟩ := X
  obtain ⟨hx, hb, hml, hown, hts, hK, hA, hN, hR⟩ := C
  intro r hr H locs ls hP hD hS hl
  exact lv_if_lt hx hb d ht (fun q => k1 r (by rw [if_pos q] at hr; exact hr) H locs ls hP hD hS hl) (fun q => k2 r (by rw [if_neg q] at hr; exact hr) H locs ls hP hD hS hl)
theorem s_icmp_lt (C : Cx X cc own Ts nL rm) {x y : Int32} {off : Int} (tgt : Nat) (d : decode cc pc = .ok (.if_icmp .lt off, 3)) (ht : (pc : Int) + off = (tgt : Int)) (k1 : Sim X Qf ca sl nL o1 ws tgt lv st) (k2 : Sim X Qf ca sl nL o2 ws (pc + 3) lv st) : Sim X Qf ca sl nL (if x < y then o1 else o2) ws pc lv (.int y :: .int x :: st) := by
  obtain ⟨p, l, e, R, s, m, args, below, meth, c, D, T, A⟩ := X
  obtain ⟨hx, hb, hml, hown, hts, hK, hA, hN, hR⟩ := C
  intro r hr H locs ls hP hD hS hl
  exact lv_icmp_lt hx hb d ht (fun q => k1 r (by rw [if_pos q] at hr; exact hr) H locs ls hP hD hS hl) (fun q => k2 r (by rw [if_neg q] at hr; exact hr) H locs ls hP hD hS hl)
theorem s_if_ge (C : Cx X cc own Ts nL rm) {x : Int32} {off : Int} (tgt : Nat) (d : decode cc pc = .ok (.ifCond .ge off, 3)) (ht : (pc : Int) + off = (tgt : Int)) (k1 : Sim X Qf ca sl nL o1 ws tgt lv st) (k2 : Sim X Qf ca sl nL o2 ws (pc + 3) lv st) : Sim X Qf ca sl nL (if 0 ≤ x then o1 else o2) ws pc lv (.int x :: st) := by
  obtain ⟨p, l, e, R, s, m, args, below, meth, c, D, T, A⟩ := X
  obtain ⟨hx, hb, hml, hown, hts, hK, hA, hN, hR⟩ := C
  intro r hr H locs ls hP hD hS hl
  exact lv_if_ge hx hb d ht (fun q => k1 r (by rw [if_pos q] at hr; exact hr) H locs ls hP hD hS hl) (fun q => k2 r (by rw [if_neg q] at hr; exact hr) H locs ls hP hD hS hl)
theorem s_icmp_ge (C : Cx X cc own Ts nL rm) {x y : Int32} {off : Int} (tgt : Nat) (d : decode cc pc = .ok (.if_icmp .ge off, 3)) (ht : (pc : Int) + off = (tgt : Int)) (k1 : Sim X Qf ca sl nL o1 ws tgt lv st) (k2 : Sim X Qf ca sl nL o2 ws (pc + 3) lv st) : Sim X Qf ca sl nL (if y ≤ x then o1 else o2) ws pc lv (.int y :: .int x :: st) := by
  obtain ⟨p, l, e, R, s, m, args, below, meth, c, D, T, A⟩ := X
  obtain ⟨hx, hb, hml, hown, hts, hK, hA, hN, hR⟩ := C
  intro r hr H locs ls hP hD hS hl
  exact lv_icmp_ge hx hb d ht (fun q => k1 r (by rw [if_pos q] at hr; exact hr) H locs ls hP hD hS hl) (fun q => k2 r (by rw [if_neg q] at hr; exact hr) H locs ls hP hD hS hl)
theorem s_if_gt (C : Cx X cc own Ts nL rm) {x : Int32} {off : Int} (tgt : Nat) (d : decode cc pc = .ok (.ifCond .gt off, 3)) (ht : (pc : Int) + off = (tgt : Int)) (k1 : Sim X Qf ca sl nL o1 ws tgt lv st) (k2 : Sim X Qf ca sl nL o2 ws (pc + 3) lv st) : Sim X Qf ca sl nL (if 0 < x then o1 else o2) ws pc lv (.int x :: st) := by
  obtain ⟨p, l, e, R, s, m, args, below, meth, c, D, T, A⟩ := X
  obtain ⟨hx, hb, hml, hown, hts, hK, hA, hN, hR⟩ := C
  intro r hr H locs ls hP hD hS hl
  exact lv_if_gt hx hb d ht (fun q => k1 r (by rw [if_pos q] at hr; exact hr) H locs ls hP hD hS hl) (fun q => k2 r (by rw [if_neg q] at hr; exact hr) H locs ls hP hD hS hl)
theorem s_icmp_gt (C : Cx X cc own Ts nL rm) {x y : Int32} {off : Int} (tgt : Nat) (d : decode cc pc = .ok (.if_icmp .gt off, 3)) (ht : (pc : Int) + off = (tgt : Int)) (k1 : Sim X Qf ca sl nL o1 ws tgt lv st) (k2 : Sim X Qf ca sl nL o2 ws (pc + 3) lv st) : Sim X Qf ca sl nL (if y < x then o1 else o2) ws pc lv (.int y :: .int x :: st) := by
  obtain ⟨p, l, e, R, s, m, args, below, meth, c, D, T, A⟩ := X
  obtain ⟨hx, hb, hml, hown, hts, hK, hA, hN, hR⟩ := C
  intro r hr H locs ls hP hD hS hl
  exact lv_icmp_gt hx hb d ht (fun q => k1 r (by rw [if_pos q] at hr; exact hr) H locs ls hP hD hS hl) (fun q => k2 r (by rw [if_neg q] at hr; exact hr) H locs ls hP hD hS hl)
theorem s_if_le (C : Cx X cc own Ts nL rm) {x : Int32} {off : Int} (tgt : Nat) (d : decode cc pc = .ok (.ifCond .le off, 3)) (ht : (pc : Int) + off = (tgt : Int)) (k1 : Sim X Qf ca sl nL o1 ws tgt lv st) (k2 : Sim X Qf ca sl nL o2 ws (pc + 3) lv st) : Sim X Qf ca sl nL (if x ≤ 0 then o1 else o2) ws pc lv (.int x :: st) := by
  obtain ⟨p, l, e, R, s, m, args, below, meth, c, D, T, A⟩ := X
  obtain ⟨hx, hb, hml, hown, hts, hK, hA, hN, hR⟩ := C
  intro r hr H locs ls hP hD hS hl
  exact lv_if_le hx hb d ht (fun q => k1 r (by rw [if_pos q] at hr; exact hr) H locs ls hP hD hS hl) (fun q => k2 r (by rw [if_neg q] at hr; exact hr) H locs ls hP hD hS hl)
theorem s_icmp_le (C : Cx X cc own Ts nL rm) {x y : Int32} {off : Int} (tgt : Nat) (d : decode cc pc = .ok (.if_icmp .le off, 3)) (ht : (pc : Int) + off = (tgt : Int)) (k1 : Sim X Qf ca sl nL o1 ws tgt lv st) (k2 : Sim X Qf ca sl nL o2 ws (pc + 3) lv st) : Sim X Qf ca sl nL (if x ≤ y then o1 else o2) ws pc lv (.int y :: .int x :: st) := by
  obtain ⟨p, l, e, R, s, m, args, below, meth, c, D, T, A⟩ := X
  obtain ⟨hx, hb, hml, hown, hts, hK, hA, hN, hR⟩ := C
  intro r hr H locs ls hP hD hS hl
  exact lv_icmp_le hx hb d ht (fun q => k1 r (by rw [if_pos q] at hr; exact hr) H locs ls hP hD hS hl) (fun q => k2 r (by rw [if_neg q] at hr; exact hr) H locs ls hP hD hS hl)
theorem s_goto (C : Cx X cc own Ts nL rm) {off : Int} (tgt : Nat) (d : decode cc pc = .ok (.goto off, 3)) (ht : (pc : Int) + off = (tgt : Int)) (k : Sim X Qf ca sl nL o ws tgt lv st) : Sim X Qf ca sl nL o ws pc lv st := by
  obtain ⟨p, l, e, R, s, m, args, below, meth, c, D, T, A⟩ := X
  obtain ⟨hx, hb, hml, hown, hts, hK, hA, hN, hR⟩ := C
  intro r hr H locs ls hP hD hS hl
  exact lv_goto hx hb d ht (k r hr H locs ls hP hD hS hl)
theorem s_ifnonnull (C : Cx X cc own Ts nL rm) {x : Nat} {off : Int} (tgt : Nat) (d : decode cc pc = .ok (.ifnonnull off, 3)) (ht : (pc : Int) + off = (tgt : Int)) (k : Sim X Qf ca sl nL o ws tgt lv st) : Sim X Qf ca sl nL o ws pc lv (.ref x :: st) := by
  obtain ⟨p, l, e, R, s, m, args, below, meth, c, D, T, A⟩ := X
  obtain ⟨hx, hb, hml, hown, hts, hK, hA, hN, hR⟩ := C
  intro r hr H locs ls hP hD hS hl
  exact lv_ifnonnull hx hb d ht (k r hr H locs ls hP hD hS hl)
theorem s_ifnull (C : Cx X cc own Ts nL rm) {x : Nat} {off : Int} (d : decode cc pc = .ok (.ifnull off, 3)) (k : Sim X Qf ca sl nL o ws (pc + 3) lv st) : Sim X Qf ca sl nL o ws pc lv (.ref x :: st) := by
  obtain ⟨p, l, e, R, s, m, args, below, meth, c, D, T, A⟩ := X
  obtain ⟨hx, hb, hml, hown, hts, hK, hA, hN, hR⟩ := C
  intro r hr H locs ls hP hD hS hl
  exact lv_ifnull hx hb d (k r hr H locs ls hP hD hS hl)
/-- where a switch goes: over the keys k, k + 1 .. -/
def swt (x : Int32) : Nat → List Nat → Nat → Nat
  | _, [], td => td
  | k, t :: r, td => if x = Int32.ofNat k then t else swt x (k + 1) r td
theorem swt_out {x : Int32} : ∀ (ts : List Nat) (k td : Nat), (k + ts.length < 2 ^ 31) → (x.toInt < (k : Int) ∨ (k : Int) + ts.length ≤ x.toInt) → swt x k ts td = td
  | [], _, _, _, _ => rfl
  | t :: r, k, td, hs, h => by
    simp only [List.length_cons] at hs h
    have hk : (Int32.ofNat k).toInt = (k : Int) := nI_toInt (by omega)
    have hne : ¬ x = Int32.ofNat k := fun q => by rw [q, hk] at h; omega
    rw [swt, if_neg hne]
    exact swt_out r (k + 1) td (by omega) (by omega)
theorem swt_in {x : Int32} : ∀ (ts : List Nat) (k td j t : Nat), (k + ts.length < 2 ^ 31) → ts[j]? = some t → x.toInt = (k : Int) + j → swt x k ts td = t
  | [], _, _, _, _, _, h, _ => by simp at h
  | t0 :: r, k, td, j, t, hs, h, hx => by
    simp only [List.length_cons] at hs
    have hk : (Int32.ofNat k).toInt = (k : Int) := nI_toInt (by omega)
    cases j with
    | zero =>
      have he : x = Int32.ofNat k := Int32.toInt_inj.mp (by rw [hk, hx]; simp)
      rw [swt, if_pos he]
      simpa using h
    | succ j =>
      have hne : ¬ x = Int32.ofNat k := fun q => by rw [q, hk] at hx; omega
      rw [swt, if_neg hne]
      exact swt_in r (k + 1) td j t (by omega) (by simpa using h) (by omega)
theorem s_table (C : Cx X cc own Ts nL rm) {dflt lo hi : Int} {offs : Array Int} {len : Nat} {x : Int32} (k0 : Nat) (ts : List Nat) (td : Nat) (d : decode cc pc = .ok (.tableswitch dflt lo hi offs, len)) (h1 : lo = (k0 : Int)) (h2 : hi + 1 = (k0 : Int) + ts.length) (h3 : offs.toList.map (fun z => (pc : Int) + z) = ts.map (fun (t : Nat) => (t : Int))) (h4 : (pc : Int) + dflt = (td : Int)) (h5 : k0 + ts.length < 2 ^ 31) (k : Sim X Qf ca sl nL o ws (swt x k0 ts td) lv st) : Sim X Qf ca sl nL o ws pc lv (.int x :: st) := by
  subst h1
  obtain ⟨p, l, e, R, s, m, args, below, meth, c, D, T, A⟩ := X
  obtain ⟨hx, hb, hml, hown, hts, hK, hA, hN, hR⟩ := C
  intro r hr H locs ls hP hD hS hl
  by_cases h : x.toInt < (k0 : Int) ∨ hi < x.toInt
  · have e : swt x k0 ts td = td := swt_out ts k0 td h5 (by omega)
    rw [e] at k
    exact lv_tableOut hx hb d h h4 (k r hr H locs ls hP hD hS hl)
  · have g1 : ¬ x.toInt < (k0 : Int) := fun q => h (Or.inl q)
    have g2 : ¬ hi < x.toInt := fun q => h (Or.inr q)
    have g3 : (x.toInt - (k0 : Int)).toNat < ts.length := by omega
    obtain ⟨t, ht⟩ : ∃ t, ts[(x.toInt - (k0 : Int)).toNat]? = some t := ⟨_, List.getElem?_eq_getElem g3⟩
    have e : swt x k0 ts td = t := swt_in ts k0 td _ t h5 ht (by omega)
    have q1 : (offs.toList.map (fun z => (pc : Int) + z))[(x.toInt - (k0 : Int)).toNat]? = some (t : Int) := by rw [h3, List.getElem?_map, ht]; rfl
    rw [List.getElem?_map] at q1
    cases ho : offs.toList[(x.toInt - (k0 : Int)).toNat]? with
    | none => rw [ho] at q1; cases q1
    | some off =>
      rw [ho] at q1
      rw [e] at k
      exact lv_tableIn hx hb d g1 g2 (by rw [← Array.getElem?_toList]; exact ho) (Option.some.inj q1) (k r hr H locs ls hP hD hS hl)
theorem s_sw {x : Int32} (k : Nat) {t td : Nat} {ts : List Nat} (k1 : Sim X Qf ca sl nL o1 ws t lv st) (k2 : Sim X Qf ca sl nL o2 ws (swt x (k + 1) ts td) lv st) : Sim X Qf ca sl nL (if x = Int32.ofNat k then o1 else o2) ws (swt x k (t :: ts) td) lv st := by
  rw [swt]
  by_cases h : x = Int32.ofNat k
  · rw [if_pos h, if_pos h]; exact k1
  · rw [if_neg h, if_neg h]; exact k2
theorem s_aald2 (C : Cx X cc own Ts nL rm) (q0 : Nat) {a u v : Nat} {i : Int32} (ha : ws[q0]? = some (a, .inl (xT X 4, 2, .inr (.inr (.inr (.inr (imgF u v))))))) (d : decode cc pc = .ok (.aaload, 1)) (k1 : Sim X Qf ca sl nL o1 ws (pc + 1) lv (.ref u :: st)) (k2 : Sim X Qf ca sl nL o2 ws (pc + 1) lv (.ref v :: st)) : Sim X Qf ca sl nL (if i = 0 then o1 else (if i = 1 then o2 else none)) ws pc lv (.int i :: .ref a :: st) := by
  by_cases h0 : i = 0
  · subst h0
    rw [if_pos rfl]
    obtain ⟨p, l, e, R, s, m, args, below, meth, c, D, T, A⟩ := X
    obtain ⟨hx, hb, hml, hown, hts, hK, hA, hN, hR⟩ := C
    intro r hr H locs ls hP hD hS hl
    exact va_aldq hx hb hK hP q0 4 ha rfl (show ¬ ((0 : Int32) < 0 ∨ 2 ≤ (0 : Int32).toNatClampNeg) by decide) d (k1 r hr H locs ls hP hD hS hl)
  · rw [if_neg h0]
    by_cases h1 : i = 1
    · subst h1
      rw [if_pos rfl]
      obtain ⟨p, l, e, R, s, m, args, below, meth, c, D, T, A⟩ := X
      obtain ⟨hx, hb, hml, hown, hts, hK, hA, hN, hR⟩ := C
      intro r hr H locs ls hP hD hS hl
      exact va_aldq hx hb hK hP q0 4 ha rfl (show ¬ ((1 : Int32) < 0 ∨ 2 ≤ (1 : Int32).toNatClampNeg) by decide) d (k2 r hr H locs ls hP hD hS hl)
    · rw [if_neg h1]; exact s_none
def lkt (x : Int32) : List (Nat × Nat) → Nat → Nat
  | [], td => td
  | q :: r, td => if x = Int32.ofNat q.1 then q.2 else lkt x r td
theorem lkt_off {x : Int32} {pc : Nat} {dflt : Int} {td : Nat} (h4 : (pc : Int) + dflt = (td : Int)) : ∀ (ps : List (Int × Int)) (prs : List (Nat × Nat)), ps.map (fun z => (z.1, (pc : Int) + z.2)) = prs.map (fun (z : Nat × Nat) => ((z.1 : Int), (z.2 : Int))) → prs.all (fun z => decide (z.1 < 2 ^ 31)) = true → (pc : Int) + Op.lookupswitch.offset ps dflt x.toInt = (lkt x prs td : Int)
  | [], [], _, _ => h4
  | [], _ :: _, h, _ => by simp at h
  | _ :: _, [], h, _ => by simp at h
  | (a, o) :: r, (kk, t) :: r2, h, h5 => by
    simp only [List.map_cons, List.cons.injEq, Prod.mk.injEq] at h
    simp only [List.all_cons, Bool.and_eq_true, decide_eq_true_eq] at h5
    obtain ⟨⟨e1, e2⟩, e3⟩ := h
    have ih := lkt_off (x := x) h4 r r2 e3 h5.2
    have hk : (Int32.ofNat kk).toInt = (kk : Int) := nI_toInt h5.1
    rw [lookupswitch.offset_cons, lkt]
    by_cases hx : x = Int32.ofNat kk
    · rw [if_pos (show a = x.toInt by rw [hx, hk, e1]), if_pos hx]; exact e2
    · rw [if_neg (fun q => hx (Int32.toInt_inj.mp (by rw [hk, ← e1]; exact q.symm))), if_neg hx]; exact ih
theorem s_lookup (C : Cx X cc own Ts nL rm) {dflt : Int} {ps : Array (Int × Int)} {len : Nat} {x : Int32} (prs : List (Nat × Nat)) (td : Nat) (d : decode cc pc = .ok (.lookupswitch dflt ps, len)) (hp : (ps.toList.zip (ps.toList.drop 1)).all (fun (a, next) => a.1 < next.1) = true) (h3 : ps.toList.map (fun z => (z.1, (pc : Int) + z.2)) = prs.map (fun (z : Nat × Nat) => ((z.1 : Int), (z.2 : Int)))) (h4 : (pc : Int) + dflt = (td : Int)) (h5 : prs.all (fun z => decide (z.1 < 2 ^ 31)) = true) (k : Sim X Qf ca sl nL o ws (lkt x prs td) lv st) : Sim X Qf ca sl nL o ws pc lv (.int x :: st) := by
  obtain ⟨p, l, e, R, s, m, args, below, meth, c, D, T, A⟩ := X
  obtain ⟨hx, hb, hml, hown, hts, hK, hA, hN, hR⟩ := C
  intro r hr H locs ls hP hD hS hl
  exact lv_lookup hx hb d hp rfl (lkt_off h4 _ _ h3 h5) (k r hr H locs ls hP hD hS hl)
theorem s_lw {x : Int32} (k : Nat) {t td : Nat} {ts : List (Nat × Nat)} (k1 : Sim X Qf ca sl nL o1 ws t lv st) (k2 : Sim X Qf ca sl nL o2 ws (lkt x ts td) lv st) : Sim X Qf ca sl nL (if x = Int32.ofNat k then o1 else o2) ws (lkt x ((k, t) :: ts) td) lv st := by
  rw [lkt]
  by_cases h : x = Int32.ofNat k
  · rw [if_pos h, if_pos h]; exact k1
  · rw [if_neg h, if_neg h]; exact k2
theorem s_lw0 {x : Int32} {td : Nat} (k1 : Sim X Qf ca sl nL o ws td lv st) : Sim X Qf ca sl nL o ws (lkt x [] td) lv st := k1
theorem s_sw0 {x : Int32} {k td : Nat} (k1 : Sim X Qf ca sl nL o ws td lv st) : Sim X Qf ca sl nL o ws (swt x k [] td) lv st := k1
theorem s_get (C : Cx X cc own Ts nL rm) {Cn : String} {Tn : u_T} {N ci index : Nat} (hin : ∀ w ∈ u_ws Cn Tn N, w ∈ Ts) (q0 : Nat) {a : Nat} {fs : List Value} (he : ws[q0]? = some (a, .inr (ci, fs))) (hc : vwCl[ci]? = some (Cn, Tn, N)) (kf : Nat) (hk : kf < N) (hlink : Cond.fieldLink own index (Tn kf).1 (Tn kf).2.1 (Tn kf).2.2.1 ∈ Ts) (v : Value) (hv : fs[kf]? = some v) (d : decode cc pc = .ok (.getfield index, 3)) (k : Sim X Qf ca sl nL o ws (pc + 3) lv (v :: st)) : Sim X Qf ca sl nL o ws pc lv (.ref a :: st) := by
  obtain ⟨p, l, e, R, s, m, args, below, meth, c, D, T, A⟩ := X
  obtain ⟨hx, hb, hml, hown, hts, hK, hA, hN, hR⟩ := C
  intro r hr H locs ls hP hD hS hl
  exact va_get hx hb hts hin hown hK hP q0 he hc kf hk (hts _ hlink) (fun _ h9 => h9) hv d (k r hr H locs ls hP hD hS hl)
theorem s_put (C : Cx X cc own Ts nL rm) {Cn : String} {Tn : u_T} {N ci index : Nat} (hin : ∀ w ∈ u_ws Cn Tn N, w ∈ Ts) (ty0 : Nat → FieldType) (hty : ∀ k, k < N → parseFieldDescriptor (Tn k).2.2.1 = some (ty0 k)) (hnm : ∀ a, a < N → ∀ b, b < N → a ≠ b → (Tn a).2.1 ≠ (Tn b).2.1) (q0 : Nat) {a : Nat} {fs : List Value} (he : ws[q0]? = some (a, .inr (ci, fs))) (hc : vwCl[ci]? = some (Cn, Tn, N)) (kf : Nat) (hk : kf < N) (hlink : Cond.fieldLink own index (Tn kf).1 (Tn kf).2.1 (Tn kf).2.2.1 ∈ Ts) (hfin : (Tn kf).2.2.2 = false) (ty : FieldType) {v : Value} (hd : parseFieldDescriptor (Tn kf).2.2.1 = some ty) (hn : narrow ty v = v) (hfit : fits ty v = true) (hlt : kf < fs.length) (ws' : va_W) (hw : ws.set q0 (a, .inr (ci, fs.set kf v)) = ws') (d : decode cc pc = .ok (.putfield index, 3)) (k : Sim X Qf ca sl nL o ws' (pc + 3) lv st) : Sim X Qf ca sl nL o ws pc lv (v :: .ref a :: st) := by
  subst hw
  obtain ⟨p, l, e, R, s, m, args, below, meth, c, D, T, A⟩ := X
  obtain ⟨hx, hb, hml, hown, hts, hK, hA, hN, hR⟩ := C
  intro r hr H locs ls hP hD hS hl
  exact va_put hx hb hts hin ty0 hty hnm hown hK hP hD hS q0 he hc kf hk (hts _ hlink) (fun _ h9 => h9) hfin hd hn hfit hlt d (fun H1 locs1 hP1 hD1 hS1 => k r hr H1 locs1 ls hP1 hD1 hS1 hl)
theorem s_putZ (C : Cx X cc own Ts nL rm) {Cn : String} {Tn : u_T} {N ci index : Nat} (hin : ∀ w ∈ u_ws Cn Tn N, w ∈ Ts) (ty0 : Nat → FieldType) (hty : ∀ k, k < N → parseFieldDescriptor (Tn k).2.2.1 = some (ty0 k)) (hnm : ∀ a, a < N → ∀ b, b < N → a ≠ b → (Tn a).2.1 ≠ (Tn b).2.1) (q0 : Nat) {a : Nat} {fs : List Value} (he : ws[q0]? = some (a, .inr (ci, fs))) (hc : vwCl[ci]? = some (Cn, Tn, N)) (kf : Nat) (hk : kf < N) (hlink : Cond.fieldLink own index (Tn kf).1 (Tn kf).2.1 (Tn kf).2.2.1 ∈ Ts) (hfin : (Tn kf).2.2.2 = false) {x : Int32} (hd : parseFieldDescriptor (Tn kf).2.2.1 = some .boolean) (hlt : kf < fs.length) (ws' : va_W) (hw : ws.set q0 (a, .inr (ci, fs.set kf (.int x))) = ws') (d : decode cc pc = .ok (.putfield index, 3)) (k : Sim X Qf ca sl nL o ws' (pc + 3) lv st) : Sim X Qf ca sl nL (bzI x o) ws pc lv (.int x :: .ref a :: st) := by
  by_cases h0 : x = 0 ∨ x = 1
  · rw [bzI, if_pos h0]
    have e1 : narrow .boolean (.int x) = .int x := by rcases h0 with rfl | rfl <;> rfl
    have e2 : fits .boolean (.int x) = true := by rcases h0 with rfl | rfl <;> rfl
    exact s_put C hin ty0 hty hnm q0 he hc kf hk hlink hfin .boolean hd e1 e2 hlt ws' hw d k
  · rw [bzI, if_neg h0]; exact s_none
theorem s_iald (C : Cx X cc own Ts nL rm) (q0 : Nat) {a n : Nat} {f : Nat → Int32} {i : Int32} {g : Int32 → Option ρ} (ha : ws[q0]? = some (a, .inl (xT X 1, n, .inl f))) (d : decode cc pc = .ok (.iaload, 1)) (k : ∀ x : Int32, Sim X Qf ca sl nL (g x) ws (pc + 1) lv (.int x :: st)) : Sim X Qf ca sl nL (ldI n f i g) ws pc lv (.int i :: .ref a :: st) := by
  by_cases h0 : i < 0 ∨ n ≤ i.toNatClampNeg
  · rw [ldI, if_pos h0]; exact s_none
  · rw [ldI, if_neg h0]
    have k := k (f i.toNatClampNeg)
    revert h0
    obtain ⟨p, l, e, R, s, m, args, below, meth, c, D, T, A⟩ := X
    obtain ⟨hx, hb, hml, hown, hts, hK, hA, hN, hR⟩ := C
    intro h0 r hr H locs ls hP hD hS hl
    exact va_iald hx hb hK hP q0 1 ha rfl h0 d (k r hr H locs ls hP hD hS hl)
theorem s_bald (C : Cx X cc own Ts nL rm) (q0 : Nat) {a n : Nat} {f : Nat → Int32} {i : Int32} {g : Int32 → Option ρ} (ha : ws[q0]? = some (a, .inl (xT X 0, n, .inl f))) (d : decode cc pc = .ok (.baload, 1)) (k : ∀ x : Int32, Sim X Qf ca sl nL (g x) ws (pc + 1) lv (.int x :: st)) : Sim X Qf ca sl nL (ldI n f i g) ws pc lv (.int i :: .ref a :: st) := by
  by_cases h0 : i < 0 ∨ n ≤ i.toNatClampNeg
  · rw [ldI, if_pos h0]; exact s_none
  · rw [ldI, if_neg h0]
    have k := k (f i.toNatClampNeg)
    revert h0
    obtain ⟨p, l, e, R, s, m, args, below, meth, c, D, T, A⟩ := X
    obtain ⟨hx, hb, hml, hown, hts, hK, hA, hN, hR⟩ := C
    intro h0 r hr H locs ls hP hD hS hl
    exact va_bald hx hb hK hP q0 0 ha rfl h0 d (k r hr H locs ls hP hD hS hl)
theorem s_zald (C : Cx X cc own Ts nL rm) (q0 : Nat) {a n : Nat} {f : Nat → Int32} {i : Int32} {g : Int32 → Option ρ} (ha : ws[q0]? = some (a, .inl (xT X 3, n, .inl f))) (d : decode cc pc = .ok (.baload, 1)) (k : ∀ x : Int32, Sim X Qf ca sl nL (g x) ws (pc + 1) lv (.int x :: st)) : Sim X Qf ca sl nL (ldI n f i g) ws pc lv (.int i :: .ref a :: st) := by
  by_cases h0 : i < 0 ∨ n ≤ i.toNatClampNeg
  · rw [ldI, if_pos h0]; exact s_none
  · rw [ldI, if_neg h0]
    have k := k (f i.toNatClampNeg)
    revert h0
    obtain ⟨p, l, e, R, s, m, args, below, meth, c, D, T, A⟩ := X
    obtain ⟨hx, hb, hml, hown, hts, hK, hA, hN, hR⟩ := C
    intro h0 r hr H locs ls hP hD hS hl
    exact va_zald hx hb hK hP q0 3 ha rfl h0 d (k r hr H locs ls hP hD hS hl)
theorem s_lald (C : Cx X cc own Ts nL rm) (q0 : Nat) {a n : Nat} {f : Nat → Int64} {i : Int32} {g : Int64 → Option ρ} (ha : ws[q0]? = some (a, .inl (xT X 2, n, .inr (.inl f)))) (d : decode cc pc = .ok (.laload, 1)) (k : ∀ x : Int64, Sim X Qf ca sl nL (g x) ws (pc + 1) lv (.long x :: st)) : Sim X Qf ca sl nL (ldI n f i g) ws pc lv (.int i :: .ref a :: st) := by
  by_cases h0 : i < 0 ∨ n ≤ i.toNatClampNeg
  · rw [ldI, if_pos h0]; exact s_none
  · rw [ldI, if_neg h0]
    have k := k (f i.toNatClampNeg)
    revert h0
    obtain ⟨p, l, e, R, s, m, args, below, meth, c, D, T, A⟩ := X
    obtain ⟨hx, hb, hml, hown, hts, hK, hA, hN, hR⟩ := C
    intro h0 r hr H locs ls hP hD hS hl
    exact va_lald hx hb hK hP q0 2 ha rfl h0 d (k r hr H locs ls hP hD hS hl)
theorem s_iast (C : Cx X cc own Ts nL rm) (q0 : Nat) {a n : Nat} {f : Nat → Int32} {i : Int32} {x : Int32} {g : (Nat → Int32) → Option ρ} (ha : ws[q0]? = some (a, .inl (xT X 1, n, .inl f))) (wsf : (Nat → Int32) → va_W) (hw : ∀ f', ws.set q0 (a, .inl (xT X 1, n, .inl f')) = wsf f') (d : decode cc pc = .ok (.iastore, 1)) (k : ∀ f', Sim X Qf ca sl nL (g f') (wsf f') (pc + 1) lv st) : Sim X Qf ca sl nL (stI n f i x g) ws pc lv (.int x :: .int i :: .ref a :: st) := by
  by_cases h0 : i < 0 ∨ n ≤ i.toNatClampNeg
  · rw [stI, if_pos h0]; exact s_none
  · rw [stI, if_neg h0]
    have k := k (upd f i.toNatClampNeg x)
    rw [← hw] at k
    revert h0
    obtain ⟨p, l, e, R, s, m, args, below, meth, c, D, T, A⟩ := X
    obtain ⟨hx, hb, hml, hown, hts, hK, hA, hN, hR⟩ := C
    intro h0 r hr H locs ls hP hD hS hl
    exact va_iast hx hb hK hP hD hS q0 1 ha rfl h0 d (fun H1 locs1 hP1 hD1 hS1 => k r hr H1 locs1 ls hP1 hD1 hS1 hl)
theorem s_bast (C : Cx X cc own Ts nL rm) (q0 : Nat) {a n : Nat} {f : Nat → Int32} {i : Int32} {x : Int32} {g : (Nat → Int32) → Option ρ} (ha : ws[q0]? = some (a, .inl (xT X 0, n, .inl f))) (wsf : (Nat → Int32) → va_W) (hw : ∀ f', ws.set q0 (a, .inl (xT X 0, n, .inl f')) = wsf f') (d : decode cc pc = .ok (.bastore, 1)) (k : ∀ f', Sim X Qf ca sl nL (g f') (wsf f') (pc + 1) lv st) : Sim X Qf ca sl nL (stI n f i (vp_nar .byte x) g) ws pc lv (.int x :: .int i :: .ref a :: st) := by
  by_cases h0 : i < 0 ∨ n ≤ i.toNatClampNeg
  · rw [stI, if_pos h0]; exact s_none
  · rw [stI, if_neg h0]
    have k := k (upd f i.toNatClampNeg (vp_nar .byte x))
    rw [← hw] at k
    revert h0
    obtain ⟨p, l, e, R, s, m, args, below, meth, c, D, T, A⟩ := X
    obtain ⟨hx, hb, hml, hown, hts, hK, hA, hN, hR⟩ := C
    intro h0 r hr H locs ls hP hD hS hl
    exact va_bast hx hb hK hP hD hS q0 0 ha rfl h0 d (fun H1 locs1 hP1 hD1 hS1 => k r hr H1 locs1 ls hP1 hD1 hS1 hl)
theorem s_zast (C : Cx X cc own Ts nL rm) (q0 : Nat) {a n : Nat} {f : Nat → Int32} {i : Int32} {x : Int32} {g : (Nat → Int32) → Option ρ} (ha : ws[q0]? = some (a, .inl (xT X 3, n, .inl f))) (wsf : (Nat → Int32) → va_W) (hw : ∀ f', ws.set q0 (a, .inl (xT X 3, n, .inl f')) = wsf f') (d : decode cc pc = .ok (.bastore, 1)) (k : ∀ f', Sim X Qf ca sl nL (g f') (wsf f') (pc + 1) lv st) : Sim X Qf ca sl nL (stI n f i (vp_nar .boolean x) g) ws pc lv (.int x :: .int i :: .ref a :: st) := by
  by_cases h0 : i < 0 ∨ n ≤ i.toNatClampNeg
  · rw [stI, if_pos h0]; exact s_none
  · rw [stI, if_neg h0]
    have k := k (upd f i.toNatClampNeg (vp_nar .boolean x))
    rw [← hw] at k
    revert h0
    obtain ⟨p, l, e, R, s, m, args, below, meth, c, D, T, A⟩ := X
    obtain ⟨hx, hb, hml, hown, hts, hK, hA, hN, hR⟩ := C
    intro h0 r hr H locs ls hP hD hS hl
    exact va_zast hx hb hK hP hD hS q0 3 ha rfl h0 d (fun H1 locs1 hP1 hD1 hS1 => k r hr H1 locs1 ls hP1 hD1 hS1 hl)
theorem s_last (C : Cx X cc own Ts nL rm) (q0 : Nat) {a n : Nat} {f : Nat → Int64} {i : Int32} {x : Int64} {g : (Nat → Int64) → Option ρ} (ha : ws[q0]? = some (a, .inl (xT X 2, n, .inr (.inl f)))) (wsf : (Nat → Int64) → va_W) (hw : ∀ f', ws.set q0 (a, .inl (xT X 2, n, .inr (.inl f'))) = wsf f') (d : decode cc pc = .ok (.lastore, 1)) (k : ∀ f', Sim X Qf ca sl nL (g f') (wsf f') (pc + 1) lv st) : Sim X Qf ca sl nL (stJ n f i x g) ws pc lv (.long x :: .int i :: .ref a :: st) := by
  by_cases h0 : i < 0 ∨ n ≤ i.toNatClampNeg
  · rw [stJ, if_pos h0]; exact s_none
  · rw [stJ, if_neg h0]
    have k := k (vp_updL f i.toNatClampNeg x)
    rw [← hw] at k
    revert h0
    obtain ⟨p, l, e, R, s, m, args, below, meth, c, D, T, A⟩ := X
    obtain ⟨hx, hb, hml, hown, hts, hK, hA, hN, hR⟩ := C
    intro h0 r hr H locs ls hP hD hS hl
    exact va_last hx hb hK hP hD hS q0 2 ha rfl h0 d (fun H1 locs1 hP1 hD1 hS1 => k r hr H1 locs1 ls hP1 hD1 hS1 hl)
theorem s_alen (C : Cx X cc own Ts nL rm) (q0 t0 : Nat) {a : Nat} {x : vp_A} (ha : ws[q0]? = some (a, .inl (xT X t0, x))) (ht : t0 < 5) (d : decode cc pc = .ok (.arraylength, 1)) (k : Sim X Qf ca sl nL o ws (pc + 1) lv (.int (Int32.ofNat x.1) :: st)) : Sim X Qf ca sl nL o ws pc lv (.ref a :: st) := by
  obtain ⟨p, l, e, R, s, m, args, below, meth, c, D, T, A⟩ := X
  obtain ⟨hx, hb, hml, hown, hts, hK, hA, hN, hR⟩ := C
  intro r hr H locs ls hP hD hS hl
  obtain ⟨ty, hty⟩ : ∃ ty, (tyL T)[t0]? = some (T t0, ty) := by
    rcases (show t0 = 0 ∨ t0 = 1 ∨ t0 = 2 ∨ t0 = 3 ∨ t0 = 4 by omega) with rfl | rfl | rfl | rfl | rfl <;> exact ⟨_, rfl⟩
  exact va_alen hx hb hK hP q0 t0 ha hty rfl d (k r hr H locs ls hP hD hS hl)
/-! calls -/
theorem after_call {p : Program} {l : Launch} {e : Env} {R : Room} {s : State} {m : MethodId} {args : Array Value} {below : List Frame} {meth : Method} {c : Code} {H : Heap} {locs : List Loc} {Q : State → Prop} {ls : Array Slot} {st0 rest : List Value} {D : va_G} {A : Nat → Prop} {wc w1 wr ws' : va_W} {rv : Option Value} {a : Array Value} (hr : va_Run p l e R s m args below meth c H locs ca sl 0 0 (F0 m pc ls st0) rest (Qc0 D wc H.size rv w1 a) (va_A wc H.size))
    (hP : va_P D vwCl ws H) (hD : va_D A ws) (hS : va_S A s.heap H locs) (hA : ∀ q : Nat, s.heap.size ≤ q → A q) (isC isR pm : List Nat) (hC : isC.map (fun i => ws[i]?) = wc.map some) (hR : isR.map (fun i => ws[i]?) = wr.map some) (hn : va_nd isR = true) (hdis : ∀ i ∈ isR, i ∉ isC) (hpm : pm.map (fun i => (wr ++ w1)[i]?) = ws'.map some) (hnp : va_nd pm = true)
    (kk : ∀ (H1 : Heap) (locs1 : List Loc), va_P D vwCl ws' H1 → va_D A ws' → va_S A s.heap H1 locs1 → W p l e R s m args below meth c H1 locs1 ca sl Q (F0 m (pc + 3) ls (rv.toList ++ rest))) : W p l e R s m args below meth c H locs ca sl Q (F0 m pc ls st0) := by
  have hF := va_free (wc := wc) hD hS hA isC hC
  intro T hT X
  obtain ⟨v, st₀, t, T', L, h0, X', hL, e1, e2, ⟨⟨hv, hp1, hd1⟩, hz, hk⟩, st⟩ := hr T hT X
  obtain rfl := Outcome.returned.inj hv
  rw [h0] at hz hk
  obtain ⟨hP2, hD2⟩ := va_join (H1 := T'.heap) hP hD isC isR hC hR hn hdis (fun q h1 h2 => by rw [e1]; exact hk q h1 h2) hF (by rw [e1]; exact hp1) hd1
  obtain ⟨t2, a1, b1⟩ := kk T'.heap (locs ++ L) (P_map hP2 pm hpm) (hD2.sub pm hnp hpm)
    ⟨Nat.le_trans hS.1 (by rw [e1]; exact hz), fun q h1 h2 => by rw [e1, hk q (Nat.lt_of_lt_of_le h1 hS.1) (fun z => h2 (hF q z))]; exact hS.2.1 q h1 h2, fun q hq => by
      rcases List.mem_append.mp hq with h | h
      · exact hS.2.2 q h
      · exact hF _ (hL q h)⟩ T' rfl X'
  exact ⟨t2, st t2 a1, b1⟩
theorem s_callV (C : Cx X cc own Ts nL rm) {α : Type} {om : Option α} {f : α → Option ρ} {y : MethodName} {bytes : ByteArray} {maxL index n : Nat} {ret : Option FieldType} {wl wl' : List Cond} {rmc : Room} {b : Nat} {Cn : String} (As : List Value) (wc : va_W) (rv : α → Option Value) (w1 : α → va_W) (hM : ∀ q, om = some q → Ct (xL X) y wl rmc (.ref b :: As) (xD X) (xT X) wc (rv q) (w1 q))
    (hG : GoodIn Ts (wsV own index Cn y wl)) (hw : wl = Cond.code y bytes maxL ret :: wl') (hrc : rmc.cells = 0) (hrs : rmc.slots = 0) (hd : y.cls = Cn ∧ y.cls ≠ "java/lang/invoke/MethodHandle" ∧ y.cls ≠ "java/lang/invoke/VarHandle" ∧ (parseMethodDescriptor y.desc).map (fun d => d.parameters.length) = some n) (hRm : rmc.frames + 1 ≤ rm.frames ∧ 8 + (maxL + 11) + rmc.locals ≤ rm.locals) (hca : ca ≤ rm.cells ∧ sl ≤ rm.slots) (ci kr : Nat) {fs : List Value} {Tr : u_T} {Nr : Nat} (hcr : vwCl[ci]? = some (Cn, Tr, Nr)) (hkr : ws[kr]? = some (b, .inr (ci, fs))) (hn : As.length = n) (st0 : List Value) (hst : st0 = (As.reverse ++ .ref b :: st)) (hrest : (st.map fun v => v.category).sum ≤ 8) (d : decode cc pc = .ok (.invokevirtual index, 3))
    (isC isR pm : List Nat) (ws' : α → va_W) (hC : isC.map (fun i => ws[i]?) = wc.map some) (hRr : isR.all (fun i => decide (i < ws.length)) = true) (hnc : va_nd isC = true) (hnr : va_nd isR = true) (hdis : ∀ i ∈ isR, i ∉ isC) (hpm : ∀ q, pm.map (fun i => (isR.filterMap (fun i => ws[i]?) ++ w1 q)[i]?) = (ws' q).map some) (hnp : va_nd pm = true) (st' : α → List Value) (hst' : ∀ q, (rv q).toList ++ st = st' q)
    (k : ∀ q : α, Sim X Qf ca sl nL (f q) (ws' q) (pc + 3) lv (st' q)) : Sim X Qf ca sl nL (om.bind f) ws pc lv st0 := by
  subst hst
  cases ho : om with
  | none => exact s_none
  | some q =>
    have hM := hM q ho
    have hpm := hpm q
    have hst' := hst' q
    have k := k q
    rw [← hst'] at k
    show Sim X Qf ca sl nL (f q) ws pc lv _
    revert hM
    clear ho
    obtain ⟨p, l, e, R, s, m, args, below, meth, c, D, T, A⟩ := X
    obtain ⟨hx, hb, hml, hown, hts, hK, hA, hN, rfl⟩ := C
    intro hM r hr H locs ls hP hD hS hl
    refine after_call (a := ((.ref b :: As) : List Value).toArray) (ws := ws) (wc := wc) (w1 := w1 q) (wr := isR.filterMap (fun i => ws[i]?)) (ws' := ws' q) (rv := rv q) (rest := st) ?_ hP hD hS hA isC isR pm hC (map_all hRr) hnr hdis hpm hnp (fun H1 locs1 hP1 hD1 hS1 => k r hr H1 locs1 ls hP1 hD1 hS1 hl)
    have hPc : va_P D vwCl wc H := P_map hP isC hC
    have hFc := va_free (wc := wc) hD hS hA isC hC
    have hDc : va_D (fun _ => True) wc := by
      refine ⟨fun i j p1 q1 h1 h2 h3 => ?_, fun _ _ _ => trivial⟩
      have z : ∀ (k : Nat) (q : Nat × va_E), wc[k]? = some q → ∃ i, isC[k]? = some i ∧ ws[i]? = some q := by
        intro k q hk
        have g1 : (isC.map (fun i => ws[i]?))[k]? = some (some q) := by rw [hC, List.getElem?_map, hk]; rfl
        rw [List.getElem?_map] at g1
        cases hi : isC[k]? with
        | none => rw [hi] at g1; cases g1
        | some i => rw [hi] at g1; exact ⟨i, rfl, Option.some.inj g1⟩
      obtain ⟨i1, a1, a2⟩ := z i p1 h1
      obtain ⟨j1, b1, b2⟩ := z j q1 h2
      have e1 := hD.1 i1 j1 p1 q1 a2 b2 h3
      subst e1
      exact va_nd_inj isC hnc i j i1 a1 b1
    exact va_runV (As := As) (rest := st) (ret := ret) (bytes := bytes) (maxL := maxL) ⟨hx, hb, hml, hown, hts⟩ (hM H.size) (cwV n hts hG hw hrc hrs hd hRm) ⟨Pre0.blind, va_recv hK hP hcr hkr, fun U hU hW => ⟨rfl, by rw [hU], by rw [hU]; exact hPc, va_K.moved hW.alike hK, ⟨NW.warm hW hN.1, by rw [hU]; exact SK.warm hW ((hN.2.kept hS.2.1).narrow hFc)⟩, hDc⟩⟩ rfl hn hl.1 rfl (lv_room hrest) d ⟨hca.1, hca.2⟩
theorem s_callW (C : Cx X cc own Ts nL rm) {α : Type} {om : Option α} {f : α → Option ρ} {y : MethodName} {bytes : ByteArray} {maxL index n : Nat} {ret : Option FieldType} {wl wl' : List Cond} {rmc : Room} {j : Nat} (As : List Value) (wc : va_W) (rv : α → Option Value) (w1 : α → va_W) (hM : ∀ q, om = some q → Ct (xL X) y wl rmc (.ref (xT X (100 + j)) :: As) (xD X) (xT X) wc (rv q) (w1 q))
    (hG : GoodIn Ts (wsV own index RJ0 y wl)) (hw : wl = Cond.code y bytes maxL ret :: wl') (hrc : rmc.cells = 0) (hrs : rmc.slots = 0) (hd : y.cls = RJ0 ∧ y.cls ≠ "java/lang/invoke/MethodHandle" ∧ y.cls ≠ "java/lang/invoke/VarHandle" ∧ (parseMethodDescriptor y.desc).map (fun d => d.parameters.length) = some n) (hRm : rmc.frames + 1 ≤ rm.frames ∧ 8 + (maxL + 11) + rmc.locals ≤ rm.locals) (hca : ca ≤ rm.cells ∧ sl ≤ rm.slots) (hj : j < 7) (hn : As.length = n) (st0 : List Value) (hst : st0 = (As.reverse ++ .ref (xT X (100 + j)) :: st)) (hrest : (st.map fun v => v.category).sum ≤ 8) (d : decode cc pc = .ok (.invokevirtual index, 3))
    (isC isR pm : List Nat) (ws' : α → va_W) (hC : isC.map (fun i => ws[i]?) = wc.map some) (hRr : isR.all (fun i => decide (i < ws.length)) = true) (hnc : va_nd isC = true) (hnr : va_nd isR = true) (hdis : ∀ i ∈ isR, i ∉ isC) (hpm : ∀ q, pm.map (fun i => (isR.filterMap (fun i => ws[i]?) ++ w1 q)[i]?) = (ws' q).map some) (hnp : va_nd pm = true) (st' : α → List Value) (hst' : ∀ q, (rv q).toList ++ st = st' q)
    (k : ∀ q : α, Sim X Qf ca sl nL (f q) (ws' q) (pc + 3) lv (st' q)) : Sim X Qf ca sl nL (om.bind f) ws pc lv st0 := by
  subst hst
  cases ho : om with
  | none => exact s_none
  | some q =>
    have hM := hM q ho
    have hpm := hpm q
    have hst' := hst' q
    have k := k q
    rw [← hst'] at k
    show Sim X Qf ca sl nL (f q) ws pc lv _
    revert hM
    clear ho
    obtain ⟨p, l, e, R, s, m, args, below, meth, c, D, T, A⟩ := X
    obtain ⟨hx, hb, hml, hown, hts, hK, hA, hN, rfl⟩ := C
    intro hM r hr H locs ls hP hD hS hl
    refine after_call (a := ((.ref (T (100 + j)) :: As) : List Value).toArray) (ws := ws) (wc := wc) (w1 := w1 q) (wr := isR.filterMap (fun i => ws[i]?)) (ws' := ws' q) (rv := rv q) (rest := st) ?_ hP hD hS hA isC isR pm hC (map_all hRr) hnr hdis hpm hnp (fun H1 locs1 hP1 hD1 hS1 => k r hr H1 locs1 ls hP1 hD1 hS1 hl)
    have hPc : va_P D vwCl wc H := P_map hP isC hC
    have hFc := va_free (wc := wc) hD hS hA isC hC
    have hDc : va_D (fun _ => True) wc := by
      refine ⟨fun i j p1 q1 h1 h2 h3 => ?_, fun _ _ _ => trivial⟩
      have z : ∀ (k : Nat) (q : Nat × va_E), wc[k]? = some q → ∃ i, isC[k]? = some i ∧ ws[i]? = some q := by
        intro k q hk
        have g1 : (isC.map (fun i => ws[i]?))[k]? = some (some q) := by rw [hC, List.getElem?_map, hk]; rfl
        rw [List.getElem?_map] at g1
        cases hi : isC[k]? with
        | none => rw [hi] at g1; cases g1
        | some i => rw [hi] at g1; exact ⟨i, rfl, Option.some.inj g1⟩
      obtain ⟨i1, a1, a2⟩ := z i p1 h1
      obtain ⟨j1, b1, b2⟩ := z j q1 h2
      have e1 := hD.1 i1 j1 p1 q1 a2 b2 h3
      subst e1
      exact va_nd_inj isC hnc i j i1 a1 b1
    exact va_runV (As := As) (rest := st) (ret := ret) (bytes := bytes) (maxL := maxL) ⟨hx, hb, hml, hown, hts⟩ (hM H.size) (cwV n hts hG hw hrc hrs hd hRm) ⟨Pre0.blind, vk_recv (i := j) hN.2.1 hj hS, fun U hU hW => ⟨rfl, by rw [hU], by rw [hU]; exact hPc, va_K.moved hW.alike hK, ⟨NW.warm hW hN.1, by rw [hU]; exact SK.warm hW ((hN.2.kept hS.2.1).narrow hFc)⟩, hDc⟩⟩ rfl hn hl.1 rfl (lv_room hrest) d ⟨hca.1, hca.2⟩
theorem s_callS (C : Cx X cc own Ts nL rm) {α : Type} {om : Option α} {f : α → Option ρ} {y : MethodName} {bytes : ByteArray} {maxL index n : Nat} {ret : Option FieldType} {wl wl' : List Cond} {rmc : Room}  (As : List Value) (wc : va_W) (rv : α → Option Value) (w1 : α → va_W) (hM : ∀ q, om = some q → Ct (xL X) y wl rmc As (xD X) (xT X) wc (rv q) (w1 q))
    (hG : GoodIn Ts (va_wsS own index y wl)) (hw : wl = Cond.code y bytes maxL ret :: wl') (hrc : rmc.cells = 0) (hrs : rmc.slots = 0) (hd : y.cls ≠ "java/lang/invoke/MethodHandle" ∧ y.cls ≠ "java/lang/invoke/VarHandle" ∧ (parseMethodDescriptor y.desc).map (fun d => d.parameters.length) = some n) (hRm : rmc.frames + 1 ≤ rm.frames ∧ 8 + (maxL + 11) + rmc.locals ≤ rm.locals) (hca : ca ≤ rm.cells ∧ sl ≤ rm.slots) (hn : As.length = n) (st0 : List Value) (hst : st0 = (As.reverse ++ st)) (hrest : (st.map fun v => v.category).sum ≤ 8) (d : decode cc pc = .ok (.invokestatic index, 3))
    (isC isR pm : List Nat) (ws' : α → va_W) (hC : isC.map (fun i => ws[i]?) = wc.map some) (hRr : isR.all (fun i => decide (i < ws.length)) = true) (hnc : va_nd isC = true) (hnr : va_nd isR = true) (hdis : ∀ i ∈ isR, i ∉ isC) (hpm : ∀ q, pm.map (fun i => (isR.filterMap (fun i => ws[i]?) ++ w1 q)[i]?) = (ws' q).map some) (hnp : va_nd pm = true) (st' : α → List Value) (hst' : ∀ q, (rv q).toList ++ st = st' q)
    (k : ∀ q : α, Sim X Qf ca sl nL (f q) (ws' q) (pc + 3) lv (st' q)) : Sim X Qf ca sl nL (om.bind f) ws pc lv st0 := by
  subst hst
  cases ho : om with
  | none => exact s_none
  | some q =>
    have hM := hM q ho
    have hpm := hpm q
    have hst' := hst' q
    have k := k q
    rw [← hst'] at k
    show Sim X Qf ca sl nL (f q) ws pc lv _
    revert hM
    clear ho
    obtain ⟨p, l, e, R, s, m, args, below, meth, c, D, T, A⟩ := X
    obtain ⟨hx, hb, hml, hown, hts, hK, hA, hN, rfl⟩ := C
    intro hM r hr H locs ls hP hD hS hl
    refine after_call (a := (As : List Value).toArray) (ws := ws) (wc := wc) (w1 := w1 q) (wr := isR.filterMap (fun i => ws[i]?)) (ws' := ws' q) (rv := rv q) (rest := st) ?_ hP hD hS hA isC isR pm hC (map_all hRr) hnr hdis hpm hnp (fun H1 locs1 hP1 hD1 hS1 => k r hr H1 locs1 ls hP1 hD1 hS1 hl)
    have hPc : va_P D vwCl wc H := P_map hP isC hC
    have hFc := va_free (wc := wc) hD hS hA isC hC
    have hDc : va_D (fun _ => True) wc := by
      refine ⟨fun i j p1 q1 h1 h2 h3 => ?_, fun _ _ _ => trivial⟩
      have z : ∀ (k : Nat) (q : Nat × va_E), wc[k]? = some q → ∃ i, isC[k]? = some i ∧ ws[i]? = some q := by
        intro k q hk
        have g1 : (isC.map (fun i => ws[i]?))[k]? = some (some q) := by rw [hC, List.getElem?_map, hk]; rfl
        rw [List.getElem?_map] at g1
        cases hi : isC[k]? with
        | none => rw [hi] at g1; cases g1
        | some i => rw [hi] at g1; exact ⟨i, rfl, Option.some.inj g1⟩
      obtain ⟨i1, a1, a2⟩ := z i p1 h1
      obtain ⟨j1, b1, b2⟩ := z j q1 h2
      have e1 := hD.1 i1 j1 p1 q1 a2 b2 h3
      subst e1
      exact va_nd_inj isC hnc i j i1 a1 b1
    exact va_runS (As := As) (rest := st) (ret := ret) (bytes := bytes) (maxL := maxL) ⟨hx, hb, hml, hown, hts⟩ (hM H.size) (va_cwS n hts hG hw hrc hrs hd hRm) ⟨Pre0.blind, fun U hU hW => ⟨rfl, by rw [hU], by rw [hU]; exact hPc, va_K.moved hW.alike hK, ⟨NW.warm hW hN.1, by rw [hU]; exact SK.warm hW ((hN.2.kept hS.2.1).narrow hFc)⟩, hDc⟩⟩ rfl hn hl.1 rfl (lv_room hrest) d ⟨hca.1, hca.2⟩
theorem s_callN (C : Cx X cc own Ts nL rm) {α : Type} {om : Option α} {f : α → Option ρ} {y : MethodName} {bytes : ByteArray} {maxL index n : Nat} {ret : Option FieldType} {wl wl' : List Cond} {rmc : Room} {host : String} (As : List Value) (wc : va_W) (rv : α → Option Value) (w1 : α → va_W) (hM : ∀ q, om = some q → Ct (xL X) y wl rmc As (xD X) (xT X) wc (rv q) (w1 q))
    (hG : GoodIn Ts wl) (hw : wl = Cond.code y bytes maxL ret :: wl') (hrc : rmc.cells = 0) (hrs : rmc.slots = 0) (hnw : Cond.methodLinkNest own index y host ∈ nwL) (hini : Cond.initialized y.cls ∈ Ts) (hstc : Cond.static y ∈ Ts) (hd : y.cls ≠ "java/lang/invoke/MethodHandle" ∧ y.cls ≠ "java/lang/invoke/VarHandle" ∧ (parseMethodDescriptor y.desc).map (fun d => d.parameters.length) = some n) (hRm : rmc.frames + 1 ≤ rm.frames ∧ 8 + (maxL + 11) + rmc.locals ≤ rm.locals) (hca : ca ≤ rm.cells ∧ sl ≤ rm.slots) (hn : As.length = n) (st0 : List Value) (hst : st0 = (As.reverse ++ st)) (hrest : (st.map fun v => v.category).sum ≤ 8) (d : decode cc pc = .ok (.invokestatic index, 3))
    (isC isR pm : List Nat) (ws' : α → va_W) (hC : isC.map (fun i => ws[i]?) = wc.map some) (hRr : isR.all (fun i => decide (i < ws.length)) = true) (hnc : va_nd isC = true) (hnr : va_nd isR = true) (hdis : ∀ i ∈ isR, i ∉ isC) (hpm : ∀ q, pm.map (fun i => (isR.filterMap (fun i => ws[i]?) ++ w1 q)[i]?) = (ws' q).map some) (hnp : va_nd pm = true) (st' : α → List Value) (hst' : ∀ q, (rv q).toList ++ st = st' q)
    (k : ∀ q : α, Sim X Qf ca sl nL (f q) (ws' q) (pc + 3) lv (st' q)) : Sim X Qf ca sl nL (om.bind f) ws pc lv st0 := by
  subst hst
  cases ho : om with
  | none => exact s_none
  | some q =>
    have hM := hM q ho
    have hpm := hpm q
    have hst' := hst' q
    have k := k q
    rw [← hst'] at k
    show Sim X Qf ca sl nL (f q) ws pc lv _
    revert hM
    clear ho
    obtain ⟨p, l, e, R, s, m, args, below, meth, c, D, T, A⟩ := X
    obtain ⟨hx, hb, hml, hown, hts, hK, hA, hN, rfl⟩ := C
    intro hM r hr H locs ls hP hD hS hl
    refine after_call (a := (As : List Value).toArray) (ws := ws) (wc := wc) (w1 := w1 q) (wr := isR.filterMap (fun i => ws[i]?)) (ws' := ws' q) (rv := rv q) (rest := st) ?_ hP hD hS hA isC isR pm hC (map_all hRr) hnr hdis hpm hnp (fun H1 locs1 hP1 hD1 hS1 => k r hr H1 locs1 ls hP1 hD1 hS1 hl)
    have hPc : va_P D vwCl wc H := P_map hP isC hC
    have hFc := va_free (wc := wc) hD hS hA isC hC
    have hDc : va_D (fun _ => True) wc := by
      refine ⟨fun i j p1 q1 h1 h2 h3 => ?_, fun _ _ _ => trivial⟩
      have z : ∀ (k : Nat) (q : Nat × va_E), wc[k]? = some q → ∃ i, isC[k]? = some i ∧ ws[i]? = some q := by
        intro k q hk
        have g1 : (isC.map (fun i => ws[i]?))[k]? = some (some q) := by rw [hC, List.getElem?_map, hk]; rfl
        rw [List.getElem?_map] at g1
        cases hi : isC[k]? with
        | none => rw [hi] at g1; cases g1
        | some i => rw [hi] at g1; exact ⟨i, rfl, Option.some.inj g1⟩
      obtain ⟨i1, a1, a2⟩ := z i p1 h1
      obtain ⟨j1, b1, b2⟩ := z j q1 h2
      have e1 := hD.1 i1 j1 p1 q1 a2 b2 h3
      subst e1
      exact va_nd_inj isC hnc i j i1 a1 b1
    exact va_runSN (As := As) (rest := st) (ret := ret) (bytes := bytes) (maxL := maxL) ⟨hx, hb, hml, hown, hts⟩ (hM H.size) (⟨va_cnB n hts hG hw hrc hrs (hN.1 _ hnw) (hts _ hini) hd hRm, hts _ hstc, trivial⟩) ⟨Pre0.blind, fun U hU hW => ⟨rfl, by rw [hU], by rw [hU]; exact hPc, va_K.moved hW.alike hK, ⟨NW.warm hW hN.1, by rw [hU]; exact SK.warm hW ((hN.2.kept hS.2.1).narrow hFc)⟩, hDc⟩⟩ rfl hn hl.1 rfl (lv_room hrest) d ⟨hca.1, hca.2⟩
def absI (x : Int32) : Int32 := if 0 ≤ x then x else 0 - x
def minI (x y : Int32) : Int32 := if y < x then y else x
theorem s_abs (C : Cx X cc own Ts nL rm) {index : Nat} {x : Int32} (w1 : Cond.methodLink own index Lib.Math.abs.name ∈ Ts) (w2 : Cond.static Lib.Math.abs.name ∈ Ts) (w3 : Cond.initialized "java/lang/Math" ∈ Ts) (w4 : Cond.code Lib.Math.abs.name Lib.Math.abs.code 1 (some .int) ∈ Ts) (hRm : 1 ≤ rm.frames ∧ (st.map fun v => v.category).sum + 13 ≤ rm.locals) (hca : ca ≤ rm.cells ∧ sl ≤ rm.slots) (d : decode cc pc = .ok (.invokestatic index, 3)) (k : Sim X Qf ca sl nL o ws (pc + 3) lv (.int (absI x) :: st)) : Sim X Qf ca sl nL o ws pc lv (.int x :: st) := by
  obtain ⟨p, l, e, R, s, m, args, below, meth, c, D, T, A⟩ := X
  obtain ⟨hx, hb, hml, hown, hts, hK, hA, hN, rfl⟩ := C
  intro r hr H locs ls hP hD hS hl
  exact va_mabs hx hb (hml.trans hl.1.symm) hown (hts _ w1) (hts _ w2) (hts _ w3) (hts _ w4) hRm.1 hRm.2 hca.1 hca.2 d (k r hr H locs ls hP hD hS hl)
theorem s_min (C : Cx X cc own Ts nL rm) {index : Nat} {x y : Int32} (w1 : Cond.methodLink own index Lib.Math.min.name ∈ Ts) (w2 : Cond.static Lib.Math.min.name ∈ Ts) (w3 : Cond.initialized "java/lang/Math" ∈ Ts) (w4 : Cond.code Lib.Math.min.name Lib.Math.min.code 2 (some .int) ∈ Ts) (hRm : 1 ≤ rm.frames ∧ (st.map fun v => v.category).sum + 13 ≤ rm.locals) (hca : ca ≤ rm.cells ∧ sl ≤ rm.slots) (d : decode cc pc = .ok (.invokestatic index, 3)) (k : Sim X Qf ca sl nL o ws (pc + 3) lv (.int (minI x y) :: st)) : Sim X Qf ca sl nL o ws pc lv (.int y :: .int x :: st) := by
  obtain ⟨p, l, e, R, s, m, args, below, meth, c, D, T, A⟩ := X
  obtain ⟨hx, hb, hml, hown, hts, hK, hA, hN, rfl⟩ := C
  intro r hr H locs ls hP hD hS hl
  exact va_mmin hx hb (hml.trans hl.1.symm) hown (hts _ w1) (hts _ w2) (hts _ w3) (hts _ w4) hRm.1 hRm.2 hca.1 hca.2 d (k r hr H locs ls hP hD hS hl)
def RtI {ρ : Type} (X : KX) (Qf : ρ → State → Prop) (cc : ByteArray) (nL : Nat) (RV : ρ → Option Value) (W1 : ρ → va_W) : Prop := ∀ (r : ρ) (pc : Nat) (lv : List (Nat × Value)) (v : Int32), RV r = some (.int v) → decode cc pc = .ok (.ireturn, 1) → Wk X (Qf r) 0 0 nL (W1 r) pc lv [.int v]
theorem s_retI {RV : ρ → Option Value} {W1 : ρ → va_W} (hR : RtI X Qf cc nL RV W1) {v : Int32} (r : ρ) (hv : RV r = some (.int v)) (hw : W1 r = ws) (d : decode cc pc = .ok (.ireturn, 1)) : Sim X Qf 0 0 nL (some r) ws pc lv [.int v] := by
  intro r' e
  obtain rfl := Option.some.inj e
  exact hw ▸ hR r pc lv v hv d
def RtZ {ρ : Type} (X : KX) (Qf : ρ → State → Prop) (cc : ByteArray) (nL : Nat) (RV : ρ → Option Value) (W1 : ρ → va_W) : Prop := ∀ (r : ρ) (pc : Nat) (lv : List (Nat × Value)) (v : Int32), RV r = some (.int v) → (v = 0 ∨ v = 1) → decode cc pc = .ok (.ireturn, 1) → Wk X (Qf r) 0 0 nL (W1 r) pc lv [.int v]
theorem s_retZ {RV : ρ → Option Value} {W1 : ρ → va_W} (hR : RtZ X Qf cc nL RV W1) {v : Int32} (r : ρ) (hv : RV r = some (.int v)) (hw : W1 r = ws) (d : decode cc pc = .ok (.ireturn, 1)) : Sim X Qf 0 0 nL (bzI v (some r)) ws pc lv [.int v] := by
  by_cases h0 : v = 0 ∨ v = 1
  · rw [bzI, if_pos h0]
    intro r' e
    obtain rfl := Option.some.inj e
    exact hw ▸ hR r pc lv v hv h0 d
  · rw [bzI, if_neg h0]; exact s_none
def RtL {ρ : Type} (X : KX) (Qf : ρ → State → Prop) (cc : ByteArray) (nL : Nat) (RV : ρ → Option Value) (W1 : ρ → va_W) : Prop := ∀ (r : ρ) (pc : Nat) (lv : List (Nat × Value)) (v : Int64), RV r = some (.long v) → decode cc pc = .ok (.lreturn, 1) → Wk X (Qf r) 0 0 nL (W1 r) pc lv [.long v]
theorem s_retL {RV : ρ → Option Value} {W1 : ρ → va_W} (hR : RtL X Qf cc nL RV W1) {v : Int64} (r : ρ) (hv : RV r = some (.long v)) (hw : W1 r = ws) (d : decode cc pc = .ok (.lreturn, 1)) : Sim X Qf 0 0 nL (some r) ws pc lv [.long v] := by
  intro r' e
  obtain rfl := Option.some.inj e
  exact hw ▸ hR r pc lv v hv d
def RtA {ρ : Type} (X : KX) (Qf : ρ → State → Prop) (cc : ByteArray) (nL : Nat) (RV : ρ → Option Value) (W1 : ρ → va_W) : Prop := ∀ (r : ρ) (pc : Nat) (lv : List (Nat × Value)) (v : Nat), RV r = some (.ref v) → decode cc pc = .ok (.areturn, 1) → Wk X (Qf r) 0 0 nL (W1 r) pc lv [.ref v]
theorem s_retA {RV : ρ → Option Value} {W1 : ρ → va_W} (hR : RtA X Qf cc nL RV W1) {v : Nat} (r : ρ) (hv : RV r = some (.ref v)) (hw : W1 r = ws) (d : decode cc pc = .ok (.areturn, 1)) : Sim X Qf 0 0 nL (some r) ws pc lv [.ref v] := by
  intro r' e
  obtain rfl := Option.some.inj e
  exact hw ▸ hR r pc lv v hv d
def RtV {ρ : Type} (X : KX) (Qf : ρ → State → Prop) (cc : ByteArray) (nL : Nat) (RV : ρ → Option Value) (W1 : ρ → va_W) : Prop := ∀ (r : ρ) (pc : Nat) (lv : List (Nat × Value)), RV r = none → decode cc pc = .ok (.return_, 1) → Wk X (Qf r) 0 0 nL (W1 r) pc lv []
theorem s_retV {RV : ρ → Option Value} {W1 : ρ → va_W} (hR : RtV X Qf cc nL RV W1) (r : ρ) (hv : RV r = none) (hw : W1 r = ws) (d : decode cc pc = .ok (.return_, 1)) : Sim X Qf 0 0 nL (some r) ws pc lv [] := by
  intro r' e
  obtain rfl := Option.some.inj e
  exact hw ▸ hR r pc lv hv d
end SB
theorem ct_I {ρ : Type} {l : Launch} {y : MethodName} {wl wl' : List Cond} {rm : Room} {av : List Value} {D : va_G} {T : Nat → ClassId} {W0 : va_W} {cc : ByteArray} {maxL : Nat} (hy : plainName y.cls = true) (hw : wl = .code y cc maxL (some .int) :: wl') (hlen : (lg_sl av).length ≤ maxL) (o : Option ρ) (RV : ρ → Option Value) (W1 : ρ → va_W)
    (body : ∀ (X : KX) (Qf : ρ → State → Prop), xL X = l → xD X = D → xT X = T → Cx X cc y.cls wl maxL rm → RtI X Qf cc maxL RV W1 → Sim X Qf 0 0 maxL o W0 0 (lv_args 0 av) []) : ∀ r : ρ, o = some r → Ct l y wl rm av D T W0 (RV r) (W1 r) := by
  intro r ho sz
  refine Met.ofW (cc := cc) (maxL := maxL) (ret := (some .int)) hy hw ?_
  intro p e s m args below meth c s₁ B hml hv
  obtain ⟨rfl, hsz, hP, hK, hN, hD0⟩ := hv
  have hx := B.exec
  have hb := B.bytes
  have hts := atoms_spec (ws := wl) B.pre
  have hown : s.vm.findClass y.cls = some m.cls := findClass_of_methodNamed B.named
  have hlocks := B.notSynchronized
  subst hsz
  have hD := hD0.self (sz := s.heap.size)
  have hl := lv_entry av hlen
  rw [lg_entry_eq]
  refine body (p, l, e, (headSpec wl rm).room, s, m, av.toArray, below, meth, c, D, T, va_A W0 s.heap.size) (fun r => MQ below (Qc0 D W0 s.heap.size (RV r) (W1 r)) av.toArray s 0 0 (va_A W0 s.heap.size)) rfl rfl rfl ⟨hx, hb, hml, hown, hts, hK, fun q h => Or.inr h, hN, rfl⟩ ?_ r ho s.heap [] _ hP hD va_S.rf hl
  intro r pc lv v hv d H locs ls hP hD hS hl
  exact W.iret hx hb B.returns (fun t ht hW => ⟨⟨by rw [hv], by rw [ht]; exact hP, hD⟩, hS.F ht⟩) hS.2.2 d
theorem ct_Z {ρ : Type} {l : Launch} {y : MethodName} {wl wl' : List Cond} {rm : Room} {av : List Value} {D : va_G} {T : Nat → ClassId} {W0 : va_W} {cc : ByteArray} {maxL : Nat} (hy : plainName y.cls = true) (hw : wl = .code y cc maxL (some .boolean) :: wl') (hlen : (lg_sl av).length ≤ maxL) (o : Option ρ) (RV : ρ → Option Value) (W1 : ρ → va_W)
    (body : ∀ (X : KX) (Qf : ρ → State → Prop), xL X = l → xD X = D → xT X = T → Cx X cc y.cls wl maxL rm → RtZ X Qf cc maxL RV W1 → Sim X Qf 0 0 maxL o W0 0 (lv_args 0 av) []) : ∀ r : ρ, o = some r → Ct l y wl rm av D T W0 (RV r) (W1 r) := by
  intro r ho sz
  refine Met.ofW (cc := cc) (maxL := maxL) (ret := (some .boolean)) hy hw ?_
  intro p e s m args below meth c s₁ B hml hv
  obtain ⟨rfl, hsz, hP, hK, hN, hD0⟩ := hv
  have hx := B.exec
  have hb := B.bytes
  have hts := atoms_spec (ws := wl) B.pre
  have hown : s.vm.findClass y.cls = some m.cls := findClass_of_methodNamed B.named
  have hlocks := B.notSynchronized
  subst hsz
  have hD := hD0.self (sz := s.heap.size)
  have hl := lv_entry av hlen
  rw [lg_entry_eq]
  refine body (p, l, e, (headSpec wl rm).room, s, m, av.toArray, below, meth, c, D, T, va_A W0 s.heap.size) (fun r => MQ below (Qc0 D W0 s.heap.size (RV r) (W1 r)) av.toArray s 0 0 (va_A W0 s.heap.size)) rfl rfl rfl ⟨hx, hb, hml, hown, hts, hK, fun q h => Or.inr h, hN, rfl⟩ ?_ r ho s.heap [] _ hP hD va_S.rf hl
  intro r pc lv v hv h0 d H locs ls hP hD hS hl
  exact W.zret (ty := .boolean) hx hb B.returns (by rcases h0 with rfl | rfl <;> rfl) (fun t ht hW => ⟨⟨by rw [hv], by rw [ht]; exact hP, hD⟩, hS.F ht⟩) hS.2.2 d
theorem ct_L {ρ : Type} {l : Launch} {y : MethodName} {wl wl' : List Cond} {rm : Room} {av : List Value} {D : va_G} {T : Nat → ClassId} {W0 : va_W} {cc : ByteArray} {maxL : Nat} (hy : plainName y.cls = true) (hw : wl = .code y cc maxL (some .long) :: wl') (hlen : (lg_sl av).length ≤ maxL) (o : Option ρ) (RV : ρ → Option Value) (W1 : ρ → va_W)
    (body : ∀ (X : KX) (Qf : ρ → State → Prop), xL X = l → xD X = D → xT X = T → Cx X cc y.cls wl maxL rm → RtL X Qf cc maxL RV W1 → Sim X Qf 0 0 maxL o W0 0 (lv_args 0 av) []) : ∀ r : ρ, o = some r → Ct l y wl rm av D T W0 (RV r) (W1 r) := by
  intro r ho sz
  refine Met.ofW (cc := cc) (maxL := maxL) (ret := (some .long)) hy hw ?_
  intro p e s m args below meth c s₁ B hml hv
  obtain ⟨rfl, hsz, hP, hK, hN, hD0⟩ := hv
  have hx := B.exec
  have hb := B.bytes
  have hts := atoms_spec (ws := wl) B.pre
  have hown : s.vm.findClass y.cls = some m.cls := findClass_of_methodNamed B.named
  have hlocks := B.notSynchronized
  subst hsz
  have hD := hD0.self (sz := s.heap.size)
  have hl := lv_entry av hlen
  rw [lg_entry_eq]
  refine body (p, l, e, (headSpec wl rm).room, s, m, av.toArray, below, meth, c, D, T, va_A W0 s.heap.size) (fun r => MQ below (Qc0 D W0 s.heap.size (RV r) (W1 r)) av.toArray s 0 0 (va_A W0 s.heap.size)) rfl rfl rfl ⟨hx, hb, hml, hown, hts, hK, fun q h => Or.inr h, hN, rfl⟩ ?_ r ho s.heap [] _ hP hD va_S.rf hl
  intro r pc lv v hv d H locs ls hP hD hS hl
  exact W.lret hx hb B.returns (fun t ht hW => ⟨⟨by rw [hv], by rw [ht]; exact hP, hD⟩, hS.F ht⟩) hS.2.2 d
theorem ct_A {ρ : Type} {l : Launch} {y : MethodName} {wl wl' : List Cond} {rm : Room} {av : List Value} {D : va_G} {T : Nat → ClassId} {W0 : va_W} {cc : ByteArray} {maxL : Nat} (rt : FieldType) (hrt : (∃ n, rt = .object n) ∨ ∃ t, rt = .array t) (hy : plainName y.cls = true) (hw : wl = .code y cc maxL (some rt) :: wl') (hlen : (lg_sl av).length ≤ maxL) (o : Option ρ) (RV : ρ → Option Value) (W1 : ρ → va_W)
    (body : ∀ (X : KX) (Qf : ρ → State → Prop), xL X = l → xD X = D → xT X = T → Cx X cc y.cls wl maxL rm → RtA X Qf cc maxL RV W1 → Sim X Qf 0 0 maxL o W0 0 (lv_args 0 av) []) : ∀ r : ρ, o = some r → Ct l y wl rm av D T W0 (RV r) (W1 r) := by
  intro r ho sz
  refine Met.ofW (cc := cc) (maxL := maxL) (ret := (some rt)) hy hw ?_
  intro p e s m args below meth c s₁ B hml hv
  obtain ⟨rfl, hsz, hP, hK, hN, hD0⟩ := hv
  have hx := B.exec
  have hb := B.bytes
  have hts := atoms_spec (ws := wl) B.pre
  have hown : s.vm.findClass y.cls = some m.cls := findClass_of_methodNamed B.named
  have hlocks := B.notSynchronized
  subst hsz
  have hD := hD0.self (sz := s.heap.size)
  have hl := lv_entry av hlen
  rw [lg_entry_eq]
  refine body (p, l, e, (headSpec wl rm).room, s, m, av.toArray, below, meth, c, D, T, va_A W0 s.heap.size) (fun r => MQ below (Qc0 D W0 s.heap.size (RV r) (W1 r)) av.toArray s 0 0 (va_A W0 s.heap.size)) rfl rfl rfl ⟨hx, hb, hml, hown, hts, hK, fun q h => Or.inr h, hN, rfl⟩ ?_ r ho s.heap [] _ hP hD va_S.rf hl
  intro r pc lv v hv d H locs ls hP hD hS hl
  exact W.aret (rt := rt) hx hb B.returns hrt (Or.inr ⟨_, rfl⟩) (fun t ht hW => ⟨⟨by rw [hv], by rw [ht]; exact hP, hD⟩, hS.F ht⟩) hS.2.2 d
theorem ct_V {ρ : Type} {l : Launch} {y : MethodName} {wl wl' : List Cond} {rm : Room} {av : List Value} {D : va_G} {T : Nat → ClassId} {W0 : va_W} {cc : ByteArray} {maxL : Nat} (hy : plainName y.cls = true) (hw : wl = .code y cc maxL none :: wl') (hlen : (lg_sl av).length ≤ maxL) (o : Option ρ) (RV : ρ → Option Value) (W1 : ρ → va_W)
    (body : ∀ (X : KX) (Qf : ρ → State → Prop), xL X = l → xD X = D → xT X = T → Cx X cc y.cls wl maxL rm → RtV X Qf cc maxL RV W1 → Sim X Qf 0 0 maxL o W0 0 (lv_args 0 av) []) : ∀ r : ρ, o = some r → Ct l y wl rm av D T W0 (RV r) (W1 r) := by
  intro r ho sz
  refine Met.ofW (cc := cc) (maxL := maxL) (ret := none) hy hw ?_
  intro p e s m args below meth c s₁ B hml hv
  obtain ⟨rfl, hsz, hP, hK, hN, hD0⟩ := hv
  have hx := B.exec
  have hb := B.bytes
  have hts := atoms_spec (ws := wl) B.pre
  have hown : s.vm.findClass y.cls = some m.cls := findClass_of_methodNamed B.named
  have hlocks := B.notSynchronized
  subst hsz
  have hD := hD0.self (sz := s.heap.size)
  have hl := lv_entry av hlen
  rw [lg_entry_eq]
  refine body (p, l, e, (headSpec wl rm).room, s, m, av.toArray, below, meth, c, D, T, va_A W0 s.heap.size) (fun r => MQ below (Qc0 D W0 s.heap.size (RV r) (W1 r)) av.toArray s 0 0 (va_A W0 s.heap.size)) rfl rfl rfl ⟨hx, hb, hml, hown, hts, hK, fun q h => Or.inr h, hN, rfl⟩ ?_ r ho s.heap [] _ hP hD va_S.rf hl
  intro r pc lv hv d H locs ls hP hD hS hl
  exact W.vret hx hb B.returns (fun t ht hW => ⟨⟨by rw [hv], by rw [ht]; exact hP, hD⟩, hS.F ht⟩) hS.2.2 d

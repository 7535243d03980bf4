/-! NUMBERS, MASKS AND LOOPS of the pure programs (no machine here). nI n is a small number, nI M a mask of cells. -/
theorem lpM {σ ρ : Type} (F : (σ → Option ρ) → σ → Option ρ) (out : Option ρ) (J : σ → Prop) (μ : σ → Nat) (h : ∀ (s : σ) (rec : σ → Option ρ), J s → (∀ s', J s' → μ s' < μ s → rec s' = out) → F rec s = out) : ∀ (m : Nat) (s : σ), μ s < m → J s → lpN F m s = out := by
  intro m
  induction m with
  | zero => intro s hm; exact absurd hm (Nat.not_lt_zero _)
  | succ m ih =>
    intro s hm hJ
    show F (lpN F m) s = out
    exact h s _ hJ (fun s' hJ' hm' => ih s' (by omega) hJ')
/-- a loop with a number that counts up from k to N, the rest of its state told by st -/
theorem lpUp {σ ρ : Type} (F : (σ → Option ρ) → σ → Option ρ) (out : Option ρ) (N : Nat) (st : Nat → σ) (hs : ∀ (k : Nat) (rec : σ → Option ρ), k < N → rec (st (k + 1)) = out → F rec (st k) = out) (he : ∀ rec : σ → Option ρ, F rec (st N) = out) (hN : N < 1000000) (k : Nat) (hk : k ≤ N) : lpN F fz (st k) = out := by
  have key : ∀ (m k : Nat), k ≤ N → N - k < m → lpN F m (st k) = out := by
    intro m
    induction m with
    | zero => intro k _ h; exact absurd h (Nat.not_lt_zero _)
    | succ m ih =>
      intro k hk hm
      show F (lpN F m) (st k) = out
      by_cases h : k = N
      · subst h; exact he _
      · exact hs k _ (by omega) (ih (k + 1) (by omega) (by omega))
  exact key fz k hk (by have := fz_ge; omega)
/-- the same, with a property of the state instead of its value -/
theorem lpUpI {σ ρ : Type} (F : (σ → Option ρ) → σ → Option ρ) (out : Option ρ) (N : Nat) (J : Nat → σ → Prop) (hs : ∀ (k : Nat) (s : σ) (rec : σ → Option ρ), k < N → J k s → (∀ s', J (k + 1) s' → rec s' = out) → F rec s = out) (he : ∀ (s : σ) (rec : σ → Option ρ), J N s → F rec s = out) (hN : N < 1000000) (k : Nat) (hk : k ≤ N) (s : σ) (h : J k s) : lpN F fz s = out := by
  have key : ∀ (m k : Nat) (s : σ), k ≤ N → N - k < m → J k s → lpN F m s = out := by
    intro m
    induction m with
    | zero => intro k _ _ h; exact absurd h (Nat.not_lt_zero _)
    | succ m ih =>
      intro k s hk hm hJ
      show F (lpN F m) s = out
      by_cases h : k = N
      · subst h; exact he _ _ hJ
      · exact hs k s _ (by omega) hJ (fun s' hJ' => ih (k + 1) s' (by omega) (by omega) hJ')
  exact key fz k s hk (by have := fz_ge; omega) h
/-- there is a state at the end: for loops whose end is told by 'some end that J N holds of' -/
theorem lpUpE {σ ρ : Type} (F : (σ → Option ρ) → σ → Option ρ) (N : Nat) (J : Nat → σ → Prop) (P : Option ρ → Prop) (hs : ∀ (k : Nat) (s : σ) (rec : σ → Option ρ), k < N → J k s → (∀ s', J (k + 1) s' → P (rec s')) → P (F rec s)) (he : ∀ (s : σ) (rec : σ → Option ρ), J N s → P (F rec s)) (hN : N < 1000000) (k : Nat) (hk : k ≤ N) (s : σ) (h : J k s) : P (lpN F fz s) := by
  have key : ∀ (m k : Nat) (s : σ), k ≤ N → N - k < m → J k s → P (lpN F m s) := by
    intro m
    induction m with
    | zero => intro k _ _ h; exact absurd h (Nat.not_lt_zero _)
    | succ m ih =>
      intro k s hk hm hJ
      show P (F (lpN F m) s)
      by_cases h : k = N
      · subst h; exact he _ _ hJ
      · exact hs k s _ (by omega) hJ (fun s' hJ' => ih (k + 1) s' (by omega) (by omega) hJ')
  exact key fz k s hk (by have := fz_ge; omega) h
/-- a loop with a measure -/
theorem lpME {σ ρ : Type} (F : (σ → Option ρ) → σ → Option ρ) (J : σ → Prop) (μ : σ → Nat) (P : Option ρ → Prop) (h : ∀ (s : σ) (rec : σ → Option ρ), J s → (∀ s', J s' → μ s' < μ s → P (rec s')) → P (F rec s)) (s : σ) (hm : μ s < 1000000) (hJ : J s) : P (lpN F fz s) := by
  have key : ∀ (m : Nat) (s : σ), μ s < m → J s → P (lpN F m s) := by
    intro m
    induction m with
    | zero => intro s hm; exact absurd hm (Nat.not_lt_zero _)
    | succ m ih =>
      intro s hm hJ
      show P (F (lpN F m) s)
      exact h s _ hJ (fun s' hJ' hm' => ih s' (by omega) hJ')
  exact key fz s (by have := fz_ge; omega) hJ
-- ===== literals
theorem NL : (0 : Int32) = nI 0 ∧ (1 : Int32) = nI 1 ∧ (2 : Int32) = nI 2 ∧ (3 : Int32) = nI 3 ∧ (4 : Int32) = nI 4 ∧ (5 : Int32) = nI 5 ∧ (6 : Int32) = nI 6 ∧ (7 : Int32) = nI 7 ∧ (8 : Int32) = nI 8 ∧ (9 : Int32) = nI 9 ∧ (10 : Int32) = nI 10 ∧ (14 : Int32) = nI 14 ∧ (16 : Int32) = nI 16 ∧ (20 : Int32) = nI 20 ∧ (24 : Int32) = nI 24 ∧ (25 : Int32) = nI 25 ∧ (28 : Int32) = nI 28 ∧ (32 : Int32) = nI 32 ∧ (39 : Int32) = nI 39 ∧ (40 : Int32) = nI 40 ∧ (48 : Int32) = nI 48 ∧ (57 : Int32) = nI 57 ∧ (59 : Int32) = nI 59 ∧ (97 : Int32) = nI 97 ∧ (122 : Int32) = nI 122 ∧ (199 : Int32) = nI 199 ∧ (200 : Int32) = nI 200 ∧ (255 : Int32) = nI 255 ∧ (384 : Int32) = nI 384 ∧ (400 : Int32) = nI 400 ∧ (1000 : Int32) = nI 1000 := by
  refine ⟨rfl, rfl, rfl, rfl, rfl, rfl, rfl, rfl, rfl, rfl, rfl, rfl, rfl, rfl, rfl, rfl, rfl, rfl, rfl, rfl, rfl, rfl, rfl, rfl, rfl, rfl, rfl, rfl, rfl, rfl, rfl⟩
theorem ofN (n : Nat) : Int32.ofNat n = nI n := rfl
theorem clN {n : Nat} (h : n < 2 ^ 31) : (nI n).toNatClampNeg = n := nI_clamp h
theorem toI {n : Nat} (h : n < 2 ^ 31) : (nI n).toInt = (n : Int) := nI_toInt h
theorem nI_sub {a b : Nat} (h : b ≤ a) : nI a - nI b = nI (a - b) := pk_sub h
theorem nI_mul (a b : Nat) : nI a * nI b = nI (a * b) := pk_mul a b
theorem nI_div {a d : Nat} (ha : a < 2 ^ 31) (h0 : 0 < d) (hd : d < 2 ^ 31) : nI a / nI d = nI (a / d) := pk_div ha h0 hd
theorem nI_rem {a d : Nat} (ha : a < 2 ^ 31) (h0 : 0 < d) (hd : d < 2 ^ 31) : nI a - nI a / nI d * nI d = nI (a % d) := pk_rem ha h0 hd
theorem nI_lt0 {a : Nat} (h : a < 2 ^ 31) : ¬ nI a < 0 := nI_pos h
theorem nI_oob {i n : Nat} (hi : i < n) (hn : n < 2 ^ 31) : ¬ (nI i < 0 ∨ n ≤ (nI i).toNatClampNeg) := vp_in_nI hi hn
theorem ld_ok {α β : Type} {n i : Nat} {f : Nat → α} {k : α → Option β} (hi : i < n) (hn : n < 2 ^ 31) : ldI n f (nI i) k = k (f i) := by
  rw [ldI, if_neg (nI_oob hi hn), nI_clamp (by omega)]
theorem st_ok {β : Type} {n i : Nat} {f : Nat → Int32} {x : Int32} {k : (Nat → Int32) → Option β} (hi : i < n) (hn : n < 2 ^ 31) : stI n f (nI i) x k = k (upd f i x) := by
  rw [stI, if_neg (nI_oob hi hn), nI_clamp (by omega)]
theorem stJ_ok {β : Type} {n i : Nat} {f : Nat → Int64} {x : Int64} {k : (Nat → Int64) → Option β} (hi : i < n) (hn : n < 2 ^ 31) : stJ n f (nI i) x k = k (vp_updL f i x) := by
  rw [stJ, if_neg (nI_oob hi hn), nI_clamp (by omega)]
theorem nz_ok {β : Type} {y : Nat} {o : Option β} (h0 : 0 < y) (h : y < 2 ^ 31) : nzI (nI y) o = o := by
  rw [nzI, if_neg (nI_ne0 h0 h)]
theorem bz0 {β : Type} {o : Option β} : bzI 0 o = o := by rw [bzI, if_pos (Or.inl rfl)]
theorem bz1 {β : Type} {o : Option β} : bzI 1 o = o := by rw [bzI, if_pos (Or.inr rfl)]
theorem bz_nI {β : Type} {b : Nat} {o : Option β} (h : b ≤ 1) : bzI (nI b) o = o := by
  rcases (show b = 0 ∨ b = 1 by omega) with rfl | rfl
  · exact bz0
  · exact bz1
theorem nm_eq {α β : Type} (e : α) (f : α → β) : nm e f = f e := rfl
theorem obind {α β : Type} (a : α) (f : α → Option β) : (some a).bind f = f a := rfl
theorem m9_ne {a : Nat} (h : a < 2 ^ 31) : ¬ nI a = -9 := fun q => by
  have := congrArg Int32.toInt q
  rw [nI_toInt h, show (-9 : Int32).toInt = -9 by decide] at this
  omega
theorem m9_ne' {a : Nat} (h : a < 2 ^ 31) : ¬ -9 = nI a := fun q => m9_ne h q.symm
theorem m1_ne {a : Nat} (h : a < 2 ^ 31) : ¬ nI a = -1 := fun q => by
  have := congrArg Int32.toInt q
  rw [nI_toInt h, show (-1 : Int32).toInt = -1 by decide] at this
  omega
theorem eq0 {a : Nat} (h : a < 2 ^ 31) : nI a = 0 ↔ a = 0 := nI_eq (b := 0) h (by decide)
theorem le24 {a : Nat} (h : a < 2 ^ 31) : (24 : Int32) ≤ nI a ↔ 24 ≤ a := nI_leI (a := 24) (by decide) h
theorem le1 {a : Nat} (h : a < 2 ^ 31) : (1 : Int32) ≤ nI a ↔ 1 ≤ a := nI_leI (a := 1) (by decide) h
theorem lt1 {a : Nat} (h : a < 2 ^ 31) : nI a < (1 : Int32) ↔ a < 1 := nI_ltI (b := 1) h (by decide)
-- ===== bits
theorem nI_and (a b : Nat) : nI a &&& nI b = nI (a &&& b) := by
  apply Int32.toBitVec_inj.1
  show BitVec.ofNat 32 a &&& BitVec.ofNat 32 b = BitVec.ofNat 32 (a &&& b)
  apply BitVec.eq_of_getLsbD_eq
  intro i hi
  simp [hi]
theorem nI_or (a b : Nat) : nI a ||| nI b = nI (a ||| b) := by
  apply Int32.toBitVec_inj.1
  show BitVec.ofNat 32 a ||| BitVec.ofNat 32 b = BitVec.ofNat 32 (a ||| b)
  apply BitVec.eq_of_getLsbD_eq
  intro i hi
  simp [hi]
theorem nI_xor (a b : Nat) : nI a ^^^ nI b = nI (a ^^^ b) := by
  apply Int32.toBitVec_inj.1
  show BitVec.ofNat 32 a ^^^ BitVec.ofNat 32 b = BitVec.ofNat 32 (a ^^^ b)
  apply BitVec.eq_of_getLsbD_eq
  intro i hi
  simp [hi]
theorem nI_anot (a b : Nat) : nI a &&& (nI b ^^^ (-1)) = nI (a ^^^ (a &&& b)) := by
  apply Int32.toBitVec_inj.1
  show BitVec.ofNat 32 a &&& (BitVec.ofNat 32 b ^^^ BitVec.allOnes 32) = BitVec.ofNat 32 (a ^^^ (a &&& b))
  apply BitVec.eq_of_getLsbD_eq
  intro i hi
  simp only [BitVec.getLsbD_and, BitVec.getLsbD_xor, BitVec.getLsbD_allOnes, BitVec.getLsbD_ofNat, Nat.testBit_xor, Nat.testBit_and, hi, decide_true, Bool.true_and]
  cases a.testBit i <;> cases b.testBit i <;> rfl
theorem s_l' : ∀ n, n < 32 → ((nI n &&& 31).toBitVec.smod 32).toNat = n := by decide +kernel
theorem s_u' : ∀ n, n < 32 → (((nI n).toUInt32 &&& Int32.toUInt32 31).toBitVec % 32).toNat = n := by decide +kernel
theorem shl1 {c : Nat} (hc : c < 31) : (1 : Int32) <<< (nI c &&& 31) = nI (2 ^ c) := by
  have h : 1 * 2 ^ c < 2 ^ 32 := by rw [Nat.one_mul]; exact Nat.pow_lt_pow_right (by decide) (by omega)
  have := pk_shlN (n := 1) (nI c &&& 31) c (s_l' c (by omega)) h
  rw [Nat.one_mul] at this
  exact this
theorem ush1 {M c : Nat} (hM : M < 2 ^ 31) (hc : c < 32) : ush (nI M) (nI c) = nI (M / 2 ^ c) := pk_ushrN (by omega) _ c (s_u' c hc)
theorem shr1 {M c : Nat} (hM : M < 2 ^ 31) (hc : c < 32) : nI M >>> (nI c &&& 31) = nI (M / 2 ^ c) := pk_shrN hM _ c (s_l' c hc)
/-- the bit c of a mask, as a number -/
def bn (M c : Nat) : Nat := if M.testBit c then 1 else 0
theorem bn_le (M c : Nat) : bn M c ≤ 1 := by unfold bn; split <;> omega
theorem bn_t {M c : Nat} (h : M.testBit c = true) : bn M c = 1 := by unfold bn; rw [if_pos h]
theorem bn_f {M c : Nat} (h : M.testBit c = false) : bn M c = 0 := by unfold bn; rw [h]; rfl
theorem bit1 (M c : Nat) : nI (M / 2 ^ c) &&& 1 = nI (bn M c) := by
  show nI (M / 2 ^ c) &&& nI 1 = _
  rw [nI_and, Nat.and_one_is_mod]
  unfold bn
  rw [Nat.testBit_eq_decide_div_mod_eq]
  by_cases h : M / 2 ^ c % 2 = 1
  · simp [h]
  · have : M / 2 ^ c % 2 = 0 := by omega
    simp [this]
theorem bn_out {M c n : Nat} (hM : M < 2 ^ n) (hc : n ≤ c) : bn M c = 0 := by
  unfold bn
  rw [Nat.testBit_lt_two_pow (Nat.lt_of_lt_of_le hM (Nat.pow_le_pow_right (by decide) hc))]
  rfl
theorem e_hasBit {M c : Nat} (hM : M < 2 ^ 24) (hc : c < 2 ^ 31) : m_X4_hasBit (nI M) (nI c) = some (nI (bn M c)) := by
  unfold m_X4_hasBit
  rw [if_neg (nI_lt0 hc)]
  by_cases h : 24 ≤ c
  · rw [if_pos ((le24 hc).mpr h), bz0, bn_out hM h]; rfl
  · rw [if_neg (fun q => h ((le24 hc).mp q)), ush1 (by omega) (by omega), bit1]
    unfold bn
    by_cases hb : M.testBit c
    · rw [if_pos hb, if_pos (show nI 1 = 1 from rfl), bz1]; rfl
    · rw [if_neg hb, if_neg (show ¬ nI 0 = 1 by decide), bz0]; rfl
theorem e_hasBit9 {x : Int32} : m_X4_hasBit x (-9) = some 0 := by
  unfold m_X4_hasBit
  rw [if_pos (by decide), bz0]
theorem e_has {M c : Nat} (hM : M < 2 ^ 31) (hc : c < 32) : m_X5_has (nI M) (nI c) = some (nI (bn M c)) := by
  unfold m_X5_has
  rw [shr1 hM hc, bit1]
  unfold bn
  by_cases hb : M.testBit c
  · rw [if_pos hb, if_pos (show nI 1 = 1 from rfl), bz1]; rfl
  · rw [if_neg hb, if_neg (show ¬ nI 0 = 1 by decide), bz0]; rfl
theorem e_in {a l h : Nat} (ha : a < 2 ^ 31) (hl : l < 2 ^ 31) (hh : h < 2 ^ 31) : m_X5_in (nI a) (nI l) (nI h) = some (if l ≤ a ∧ a ≤ h then 1 else 0) := by
  unfold m_X5_in
  by_cases h1 : a < l
  · rw [if_pos ((nI_ltI ha hl).mpr h1), bz0, if_neg (by omega)]
  · rw [if_neg (fun q => h1 ((nI_ltI ha hl).mp q))]
    by_cases h2 : h < a
    · rw [if_pos ((nI_ltI hh ha).mpr h2), bz0, if_neg (by omega)]
    · rw [if_neg (fun q => h2 ((nI_ltI hh ha).mp q)), bz1, if_pos (by omega)]
theorem e_inI {x l h : Int32} : m_X5_in x l h = some (if l ≤ x ∧ x ≤ h then 1 else 0) := by
  unfold m_X5_in
  by_cases h1 : x < l
  · rw [if_pos h1, bz0, if_neg (fun q => by have := Int32.not_le.mpr h1; exact this q.1)]
  · rw [if_neg h1]
    by_cases h2 : h < x
    · rw [if_pos h2, bz0, if_neg (fun q => by have := Int32.not_le.mpr h2; exact this q.2)]
    · rw [if_neg h2, bz1, if_pos ⟨Int32.not_lt.mp h1, Int32.not_lt.mp h2⟩]
theorem e_entry {i n : Nat} {f : Nat → Int32} (hi : i < n) (hn : n < 2 ^ 31) : m_X4_entry (nI i) n f = some (f i) := by
  unfold m_X4_entry
  rw [if_neg (nI_lt0 (by omega)), ofN, if_neg (nI_ge hi hn), ld_ok hi hn]
theorem e_put {i n : Nat} {f : Nat → Int32} {v : Int32} (hi : i < n) (hn : n < 2 ^ 31) : m_X4_put (nI i) v n f = some (upd f i v) := by
  unfold m_X4_put
  rw [if_neg (nI_lt0 (by omega)), ofN, if_neg (nI_ge hi hn), st_ok hi hn]
theorem e_entryJ {i n : Nat} {f : Nat → Int64} (hi : i < n) (hn : n < 2 ^ 31) : m_X4_entry_ (nI i) n f = some (f i) := by
  unfold m_X4_entry_
  rw [if_neg (nI_lt0 (by omega)), ofN, if_neg (nI_ge hi hn), ld_ok hi hn]
theorem e_add {i n : Nat} {f : Nat → Int64} {v : Int64} (hi : i < n) (hn : n < 2 ^ 31) : m_X4_add (nI i) v n f = some (vp_updL f i (f i + v)) := by
  unfold m_X4_add
  rw [if_neg (nI_lt0 (by omega)), ofN, if_neg (nI_ge hi hn), ld_ok hi hn, stJ_ok hi hn]

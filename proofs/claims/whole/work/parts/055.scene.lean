/-! SCENES: copies, more sleepers (S, a mask of cells), the reference's stands. -/
def exn (S n : Nat) : Nat → Nat
  | 0 => n
  | c + 1 => if S.testBit c = true then exn S n c + 1 else exn S n c
def exq (S n : Nat) (p : Nat → Nat) : Nat → (Nat → Nat)
  | 0 => p
  | c + 1 => if S.testBit c = true then updN (exq S n p c) (exn S n c) c else exq S n p c
theorem exn_le {S n c : Nat} : ∀ {d : Nat}, c ≤ d → exn S n c ≤ exn S n d
  | 0, h => by rw [show c = 0 by omega]; exact Nat.le_refl _
  | d + 1, h => by
    by_cases q : c = d + 1
    · rw [q]; exact Nat.le_refl _
    · have := exn_le (S := S) (n := n) (c := c) (d := d) (by omega)
      rw [exn]; split <;> omega
theorem exn_ge {S n c : Nat} : n ≤ exn S n c := exn_le (c := 0) (Nat.zero_le c)
theorem exn_0 {n : Nat} : ∀ c, exn 0 n c = n
  | 0 => rfl
  | c + 1 => by rw [exn, Nat.zero_testBit, if_neg (by decide), exn_0 c]
theorem exq_0 {n : Nat} {p : Nat → Nat} : ∀ c, exq 0 n p c = p
  | 0 => rfl
  | c + 1 => by rw [exq, Nat.zero_testBit, if_neg (by decide), exq_0 c]
theorem exn_ext {S n b : Nat} (h : S < 2 ^ b) : ∀ d, exn S n (b + d) = exn S n b
  | 0 => rfl
  | d + 1 => by rw [← Nat.add_assoc, exn, Nat.testBit_lt_two_pow (Nat.lt_of_lt_of_le h (Nat.pow_le_pow_right (by decide) (Nat.le_add_right b d))), if_neg (by decide), exn_ext h d]
theorem exq_ext {S n b : Nat} {p : Nat → Nat} (h : S < 2 ^ b) : ∀ d, exq S n p (b + d) = exq S n p b
  | 0 => rfl
  | d + 1 => by rw [← Nat.add_assoc, exq, Nat.testBit_lt_two_pow (Nat.lt_of_lt_of_le h (Nat.pow_le_pow_right (by decide) (Nat.le_add_right b d))), if_neg (by decide), exq_ext h d]
theorem om_add {p : Nat → Nat} {n c : Nat} : om (updN p n c) (n + 1) = om p n ||| 2 ^ c := by
  rw [om, om_cong (q := p) (fun k hk => by unfold updN; rw [if_neg (by omega)])]
  unfold updN
  rw [if_pos rfl]
/-- the base cats stay where they were -/
theorem exq_base {S n : Nat} {p : Nat → Nat} {j : Nat} (hj : j < n) : ∀ c, exq S n p c j = p j
  | 0 => rfl
  | c + 1 => by
    rw [exq]
    split
    · unfold updN
      rw [if_neg (by have := exn_ge (S := S) (n := n) (c := c); omega)]
      exact exq_base hj c
    · exact exq_base hj c
theorem ex_om {S n : Nat} {p : Nat → Nat} {i : Nat} : ∀ c, (om (exq S n p c) (exn S n c)).testBit i = true ↔ ((om p n).testBit i = true ∨ (i < c ∧ S.testBit i = true))
  | 0 => by rw [exq, exn]; simp
  | c + 1 => by
    have ih := ex_om (S := S) (n := n) (p := p) (i := i) c
    rw [exq, exn]
    by_cases h : S.testBit c = true
    · rw [if_pos h, if_pos h, om_add, Nat.testBit_or, Bool.or_eq_true, ih, Nat.testBit_two_pow, decide_eq_true_eq]
      constructor
      · rintro ((q | ⟨q, r⟩) | q)
        · exact Or.inl q
        · exact Or.inr ⟨by omega, r⟩
        · exact Or.inr ⟨by omega, by rw [← q]; exact h⟩
      · rintro (q | ⟨q, r⟩)
        · exact Or.inl (Or.inl q)
        · by_cases z : c = i
          · exact Or.inr z
          · exact Or.inl (Or.inr ⟨by omega, r⟩)
    · rw [if_neg h, if_neg h, ih]
      constructor
      · rintro (q | ⟨q, r⟩)
        · exact Or.inl q
        · exact Or.inr ⟨by omega, r⟩
      · rintro (q | ⟨q, r⟩)
        · exact Or.inl q
        · exact Or.inr ⟨by have : ¬ i = c := fun z => h (by rw [← z]; exact r); omega, r⟩
theorem ex_on {C S n : Nat} {p : Nat → Nat} (h : On C n p) (hS : S < 2 ^ C) (hd : ∀ i, S.testBit i = true → (om p n).testBit i = false) : ∀ c, On C (exn S n c) (exq S n p c)
  | 0 => h
  | c + 1 => by
    have ih := ex_on h hS hd c
    rw [exn, exq]
    by_cases q : S.testBit c = true
    · rw [if_pos q, if_pos q]
      have hc : c < C := by
        rcases Nat.lt_or_ge c C with z | z
        · exact z
        · rw [Nat.testBit_lt_two_pow (Nat.lt_of_lt_of_le hS (Nat.pow_le_pow_right (by decide) z))] at q; cases q
      have hno : ∀ i, i < exn S n c → ¬ exq S n p c i = c := by
        intro i hi e
        have h1 : (om (exq S n p c) (exn S n c)).testBit c = true := om_bit.mpr ⟨i, hi, e⟩
        rcases (ex_om c).mp h1 with z | z
        · rw [hd c q] at z; cases z
        · omega
      refine ⟨fun i hi => ?_, fun i j hi hj e => ?_⟩
      · unfold updN; split
        · exact hc
        · exact ih.1 i (by omega)
      · unfold updN at e
        split at e
        · split at e
          · omega
          · exact absurd e.symm (hno j (by omega))
        · split at e
          · exact absurd e (hno i (by omega))
          · exact ih.2 i j (by omega) (by omega) e
    · rw [if_neg q, if_neg q]; exact ih
theorem e_cellR {k : Nat} {f : Nat → Int32} (hk : k < 8) : m_X2_cellOf (nI k) f = some (f k) := by
  unfold m_X2_cellOf; rw [e_entry hk (by decide), obind]
theorem e_eatR {k : Nat} {f : Nat → Int32} (hk : k < 8) : m_X2_eatenBy (nI k) f = some (f k) := by
  unfold m_X2_eatenBy; rw [e_entry hk (by decide), obind]
theorem e_copy {n : Nat} {tk F w m ov : Int32} {f e f1 e1 : Nat → Int32} (hn : n ≤ 8) : ∃ f' e' : Nat → Int32, m_X2_copyFrom f e (nI n) tk F w m ov f1 e1 = some (nI n, tk, F, w, m, ov, f', e') ∧ (∀ j, j < n → f' j = f1 j) ∧ ∀ j, j < n → e' j = e1 j := by
  unfold m_X2_copyFrom
  refine lpUpE _ n (fun k s => ∃ f' e' : Nat → Int32, s = (nI k, f', e') ∧ (∀ j, j < k → f' j = f1 j) ∧ ∀ j, j < k → e' j = e1 j) (fun o => ∃ f' e' : Nat → Int32, o = some (nI n, tk, F, w, m, ov, f', e') ∧ (∀ j, j < n → f' j = f1 j) ∧ ∀ j, j < n → e' j = e1 j) ?_ ?_ (by omega) 0 (by omega) _ ⟨f, e, rfl, fun j hj => absurd hj (Nat.not_lt_zero j), fun j hj => absurd hj (Nat.not_lt_zero j)⟩
  · intro k s rec hk hJ hrec
    obtain ⟨f', e', rfl, h1, h2⟩ := hJ
    dsimp only
    unfold X2_copyFrom_f50
    rw [if_neg (nI_ge hk (by omega)), e_cellR (by omega), obind, e_put (by omega) (by decide), obind, e_eatR (by omega), obind, e_put (by omega) (by decide), obind, nI_1]
    refine hrec _ ⟨upd f' k (f1 k), upd e' k (e1 k), rfl, fun j hj => ?_, fun j hj => ?_⟩
    · unfold upd; by_cases q : j = k
      · rw [if_pos q, q]
      · rw [if_neg q]; exact h1 j (by omega)
    · unfold upd; by_cases q : j = k
      · rw [if_pos q, q]
      · rw [if_neg q]; exact h2 j (by omega)
  · intro s rec hJ
    obtain ⟨f', e', rfl, h1, h2⟩ := hJ
    dsimp only
    unfold X2_copyFrom_f50
    rw [if_pos (nI_le (Nat.le_refl n) (by omega))]
    exact ⟨f', e', rfl, h1, h2⟩
theorem e_addCat {n c M : Nat} {f e : Nat → Int32} (hn : n < 8) (hc : c < 31) : m_X2_addCat (nI c) (nI n) (nI M) f e = some (nI (n + 1), nI (M ||| 2 ^ c), upd f n (nI c), upd e n 0) := by
  unfold m_X2_addCat
  rw [ofN, if_neg (nI_ge hn (by decide)), e_put hn (by decide), obind, e_put hn (by decide), obind, nm_eq, nm_eq, shl1 hc, nI_or, nI_1]
theorem e_foresee {S n : Nat} {p : Nat → Nat} {F w m ov : Int32} {f e f1 e1 : Nat → Int32} (hS : S < 2 ^ 24) (hn : exn S n 24 ≤ 8) (hf : ∀ j, j < n → f1 j = nI (p j)) : ∃ f' e' : Nat → Int32, m_X2_foresee (nI S) f e (nI n) (nI (om p n)) F w m ov f1 e1 = some (nI (exn S n 24), nI (om (exq S n p 24) (exn S n 24)), F, -9, m, ov, f', e') ∧ ∀ j, j < exn S n 24 → f' j = nI (exq S n p 24 j) := by
  have hn0 := exn_ge (S := S) (n := n) (c := 24)
  obtain ⟨fc, ec, hc, hcf, -⟩ := e_copy (n := n) (tk := nI (om p n)) (F := F) (w := w) (m := m) (ov := ov) (f := f) (e := e) (f1 := f1) (e1 := e1) (by omega)
  unfold m_X2_foresee
  rw [hc, obind]
  dsimp only
  refine lpUpE _ 24 (fun k s => ∃ f' e' : Nat → Int32, s = (nI k, nI (exn S n k), nI (om (exq S n p k) (exn S n k)), f', e') ∧ ∀ j, j < exn S n k → f' j = nI (exq S n p k j)) (fun o => ∃ f' e' : Nat → Int32, o = some (nI (exn S n 24), nI (om (exq S n p 24) (exn S n 24)), F, -9, m, ov, f', e') ∧ ∀ j, j < exn S n 24 → f' j = nI (exq S n p 24 j)) ?_ ?_ (by decide) 0 (by decide) _ ⟨fc, ec, rfl, fun j hj => by rw [hcf j hj, hf j hj]; rfl⟩
  · intro k s rec hk hJ hrec
    obtain ⟨f', e', rfl, h1⟩ := hJ
    dsimp only
    unfold X2_foresee_f13
    rw [if_neg (fun q => absurd ((le24 (by omega)).mp q) (by omega))]
    by_cases z : S = 0
    · subst z
      rw [if_pos ((eq0 (by omega)).mpr rfl)]
      rw [exn_0, exq_0] at h1
      rw [exn_0, exq_0, exn_0, exq_0]
      exact ⟨f', e', rfl, h1⟩
    · rw [if_neg (fun q => z ((eq0 (by omega)).mp q)), e_hasBit hS (by omega), obind]
      by_cases b : S.testBit k = true
      · have e1 : exn S n (k + 1) = exn S n k + 1 := by rw [exn, if_pos b]
        have e2 : exq S n p (k + 1) = updN (exq S n p k) (exn S n k) k := by rw [exq, if_pos b]
        have e3 := exn_le (S := S) (n := n) (c := k + 1) (d := 24) (by omega)
        rw [bn_t b, if_neg (by decide), e_addCat (by omega) (by omega), obind]
        unfold X2_foresee_j36
        dsimp only
        rw [nI_1]
        refine hrec _ ⟨upd f' (exn S n k) (nI k), upd e' (exn S n k) 0, ?_, fun j hj => ?_⟩
        · rw [e1, e2, om_add]
        · rw [e2]
          unfold upd updN
          split
          · rfl
          · exact h1 j (by omega)
      · have e1 : exn S n (k + 1) = exn S n k := by rw [exn, if_neg b]
        have e2 : exq S n p (k + 1) = exq S n p k := by rw [exq, if_neg b]
        rw [bn_f (by rw [← Bool.not_eq_true]; exact b), if_pos (by rfl)]
        unfold X2_foresee_j36
        rw [nI_1]
        exact hrec _ ⟨f', e', by rw [e1, e2], by rw [e1, e2]; exact h1⟩
  · intro s rec hJ
    obtain ⟨f', e', rfl, h1⟩ := hJ
    dsimp only
    unfold X2_foresee_f13
    rw [if_pos ((le24 (by decide)).mpr (Nat.le_refl 24))]
    exact ⟨f', e', rfl, h1⟩
theorem e_sketch {S n : Nat} {p : Nat → Nat} {F w m ov : Int32} {f e f1 e1 : Nat → Int32} (hS : S < 2 ^ 24) (hn : exn S n 24 ≤ 8) (hf : ∀ j, j < n → f1 j = nI (p j)) : ∃ f' e' : Nat → Int32, m_X4_sketchWith (nI S) (nI n) (nI (om p n)) F w m ov f1 e1 f e = some (nI (exn S n 24), nI (om (exq S n p 24) (exn S n 24)), F, -9, m, ov, f', e') ∧ ∀ j, j < exn S n 24 → f' j = nI (exq S n p 24 j) := by
  obtain ⟨f', e', h1, h2⟩ := e_foresee (F := F) (w := w) (m := m) (ov := ov) (f := f) (e := e) (e1 := e1) hS hn hf
  refine ⟨f', e', ?_, h2⟩
  unfold m_X4_sketchWith
  rw [h1, obind]
-- ===== the reference
theorem a4 (k : Nat) : (4 : Int32) + nI k = nI (4 + k) := nI_add 4 k
theorem a9 (k : Nat) : (9 : Int32) + nI k = nI (9 + k) := nI_add 9 k
theorem ldA0 {β : Type} {f : Nat → Int32} {k : Int32 → Option β} : ldI 14 f 0 k = k (f 0) := ld_ok (i := 0) (by decide) (by decide)
theorem ldA1 {β : Type} {f : Nat → Int32} {k : Int32 → Option β} : ldI 14 f 1 k = k (f 1) := ld_ok (i := 1) (by decide) (by decide)
theorem ldA2 {β : Type} {f : Nat → Int32} {k : Int32 → Option β} : ldI 14 f 2 k = k (f 2) := ld_ok (i := 2) (by decide) (by decide)
theorem ldA3 {β : Type} {f : Nat → Int32} {k : Int32 → Option β} : ldI 14 f 3 k = k (f 3) := ld_ok (i := 3) (by decide) (by decide)
theorem stA0 {β : Type} {f : Nat → Int32} {x : Int32} {k : (Nat → Int32) → Option β} : stI 14 f 0 x k = k (upd f 0 x) := st_ok (i := 0) (by decide) (by decide)
theorem stA1 {β : Type} {f : Nat → Int32} {x : Int32} {k : (Nat → Int32) → Option β} : stI 14 f 1 x k = k (upd f 1 x) := st_ok (i := 1) (by decide) (by decide)
theorem stA2 {β : Type} {f : Nat → Int32} {x : Int32} {k : (Nat → Int32) → Option β} : stI 14 f 2 x k = k (upd f 2 x) := st_ok (i := 2) (by decide) (by decide)
theorem stA3 {β : Type} {f : Nat → Int32} {x : Int32} {k : (Nat → Int32) → Option β} : stI 14 f 3 x k = k (upd f 3 x) := st_ok (i := 3) (by decide) (by decide)
theorem le8 {a : Nat} (h : a < 2 ^ 31) : (8 : Int32) ≤ nI a ↔ 8 ≤ a := nI_leI (a := 8) (by decide) h
theorem e_stands {L G S n : Nat} {p : Nat → Nat} {x : Int32} {st f e : Nat → Int32} (hC : L * G ≤ 24) (hS : S < 2 ^ (L * G)) (hn5 : n ≤ 5) (hn : exn S n 24 ≤ 8) (hf : ∀ j, j < n → st (4 + j) = nI (p j)) : ∃ f' e' : Nat → Int32, m_X5_stands (nI S) x (nI G) (nI L) (nI n) st f e = some (nI (exn S n 24), st 3 ||| x, -9, f', e') ∧ (∀ j, j < exn S n 24 → f' j = nI (exq S n p 24 j)) ∧ ∀ j, j < 8 → e' j = 0 := by
  have hE1 : exn S n 24 = exn S n (L * G) := by have := exn_ext (n := n) hS (24 - L * G); rwa [show L * G + (24 - L * G) = 24 by omega] at this
  have hE2 : exq S n p 24 = exq S n p (L * G) := by have := exq_ext (n := n) (p := p) hS (24 - L * G); rwa [show L * G + (24 - L * G) = 24 by omega] at this
  have hS24 : S < 2 ^ 24 := Nat.lt_of_lt_of_le hS (Nat.pow_le_pow_right (by decide) hC)
  rw [hE1, hE2]
  rw [hE1] at hn
  unfold m_X5_stands
  refine lpUpE _ n (fun k s => ∃ f' : Nat → Int32, s = (nI k, f') ∧ ∀ j, j < k → f' j = nI (p j)) (fun o => ∃ f' e' : Nat → Int32, o = some (nI (exn S n (L * G)), st 3 ||| x, -9, f', e') ∧ (∀ j, j < exn S n (L * G) → f' j = nI (exq S n p (L * G) j)) ∧ ∀ j, j < 8 → e' j = 0) ?_ ?_ (by omega) 0 (by omega) _ ⟨f, rfl, fun j hj => absurd hj (Nat.not_lt_zero j)⟩
  · intro k s rec hk hJ hrec
    obtain ⟨f', rfl, h1⟩ := hJ
    dsimp only
    unfold X5_stands_f10
    rw [if_neg (nI_ge hk (by omega)), a4, ld_ok (by omega) (by decide), st_ok (by omega) (by decide), nI_1]
    refine hrec _ ⟨upd f' k (st (4 + k)), rfl, fun j hj => ?_⟩
    unfold upd
    by_cases q : j = k
    · rw [if_pos q, q, hf k hk]
    · rw [if_neg q]; exact h1 j (by omega)
  · intro s rec hJ
    obtain ⟨f0, rfl, h0⟩ := hJ
    dsimp only
    unfold X5_stands_f10
    rw [if_pos (nI_le (Nat.le_refl n) (by omega))]
    refine lpUpE _ (L * G) (fun k s => ∃ f' : Nat → Int32, s = (nI k, nI (exn S n k), f') ∧ ∀ j, j < exn S n k → f' j = nI (exq S n p k j)) (fun o => ∃ f' e' : Nat → Int32, o = some (nI (exn S n (L * G)), st 3 ||| x, -9, f', e') ∧ (∀ j, j < exn S n (L * G) → f' j = nI (exq S n p (L * G) j)) ∧ ∀ j, j < 8 → e' j = 0) ?_ ?_ (by omega) 0 (by omega) _ ⟨f0, rfl, h0⟩
    · intro k s rec hk hJ hrec
      obtain ⟨f', rfl, h1⟩ := hJ
      dsimp only
      unfold X5_stands_f40
      rw [e_cells5, obind, if_neg (nI_ge hk (by omega)), e_has (by omega) (by omega), obind]
      by_cases b : S.testBit k = true
      · have e1 : exn S n (k + 1) = exn S n k + 1 := by rw [exn, if_pos b]
        have e2 : exq S n p (k + 1) = updN (exq S n p k) (exn S n k) k := by rw [exq, if_pos b]
        have e3 := exn_le (S := S) (n := n) (c := k + 1) (d := L * G) (by omega)
        rw [bn_t b, if_neg (by decide), st_ok (by omega) (by decide), nm_eq]
        unfold X5_stands_j76
        rw [nI_1, nI_1]
        refine hrec _ ⟨upd f' (exn S n k) (nI k), by rw [e1], fun j hj => ?_⟩
        rw [e2]
        unfold upd updN
        split
        · rfl
        · exact h1 j (by omega)
      · have e1 : exn S n (k + 1) = exn S n k := by rw [exn, if_neg b]
        have e2 : exq S n p (k + 1) = exq S n p k := by rw [exq, if_neg b]
        rw [bn_f (by rw [← Bool.not_eq_true]; exact b), if_pos (by rfl)]
        unfold X5_stands_j76
        rw [nI_1]
        exact hrec _ ⟨f', by rw [e1], by rw [e1, e2]; exact h1⟩
    · intro s rec hJ
      obtain ⟨f1, rfl, h1⟩ := hJ
      dsimp only
      unfold X5_stands_f40
      rw [e_cells5, obind, if_pos (nI_le (Nat.le_refl _) (by omega))]
      dsimp only
      rw [ldA3, nm_eq]
      refine lpUpE _ 8 (fun k s => ∃ e' : Nat → Int32, s = (nI k, e') ∧ ∀ j, j < k → e' j = 0) (fun o => ∃ f' e' : Nat → Int32, o = some (nI (exn S n (L * G)), st 3 ||| x, -9, f', e') ∧ (∀ j, j < exn S n (L * G) → f' j = nI (exq S n p (L * G) j)) ∧ ∀ j, j < 8 → e' j = 0) ?_ ?_ (by decide) 0 (by decide) _ ⟨e, rfl, fun j hj => absurd hj (Nat.not_lt_zero j)⟩
      · intro k s rec hk hJ hrec
        obtain ⟨e', rfl, h2⟩ := hJ
        dsimp only
        unfold X5_stands_f102
        rw [if_neg (fun q => absurd ((le8 (by omega)).mp q) (by omega)), st_ok (by omega) (by decide), nI_1]
        refine hrec _ ⟨upd e' k 0, rfl, fun j hj => ?_⟩
        unfold upd
        by_cases q : j = k
        · rw [if_pos q]
        · rw [if_neg q]; exact h2 j (by omega)
      · intro s rec hJ
        obtain ⟨e', rfl, h2⟩ := hJ
        dsimp only
        unfold X5_stands_f102
        rw [if_pos ((le8 (by decide)).mpr (Nat.le_refl 8))]
        exact ⟨f1, e', rfl, h1, h2⟩

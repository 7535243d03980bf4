/-! TOKENS of a text: B, its bytes; n, how many. -/
def cls (b : Nat) : Nat := if 97 ≤ b ∧ b ≤ 122 then 1 else if 48 ≤ b ∧ b ≤ 57 then 2 else if b = 59 then 3 else 4
def skp (B : Nat → Nat) (n : Nat) : Nat → Nat → Nat
  | 0, i => i
  | k + 1, i => if i < n ∧ B i = 32 then skp B n k (i + 1) else i
def rnt (B : Nat → Nat) (n q : Nat) : Nat → Nat → Nat
  | 0, i => i
  | k + 1, i => if i < n ∧ cls (B i) = q then rnt B n q k (i + 1) else i
def tkS (B : Nat → Nat) (n e : Nat) : Nat := skp B n (n - e) e
def tkK (B : Nat → Nat) (n e : Nat) : Nat := if tkS B n e < n then cls (B (tkS B n e)) else 0
def tkE (B : Nat → Nat) (n e : Nat) : Nat := if tkS B n e < n then (if tkK B n e = 1 ∨ tkK B n e = 2 then rnt B n (tkK B n e) (n - (tkS B n e + 1)) (tkS B n e + 1) else tkS B n e + 1) else n
theorem skp_le {B : Nat → Nat} {n : Nat} : ∀ k i, i + k ≤ n → i ≤ skp B n k i ∧ skp B n k i ≤ n
  | 0, i, h => ⟨Nat.le_refl _, h⟩
  | k + 1, i, h => by
    rw [skp]
    split
    · have := skp_le (B := B) (n := n) k (i + 1) (by omega); omega
    · omega
theorem rnt_le {B : Nat → Nat} {n q : Nat} : ∀ k i, i + k ≤ n → i ≤ rnt B n q k i ∧ rnt B n q k i ≤ n
  | 0, i, h => ⟨Nat.le_refl _, h⟩
  | k + 1, i, h => by
    rw [rnt]
    split
    · have := rnt_le (B := B) (n := n) (q := q) k (i + 1) (by omega); omega
    · omega
theorem cls_le {b : Nat} : 1 ≤ cls b ∧ cls b ≤ 4 := by unfold cls; split <;> (try split) <;> (try split) <;> omega
theorem lt97 {a : Nat} (h : a < 2 ^ 31) : nI a < (97 : Int32) ↔ a < 97 := nI_ltI (b := 97) h (by decide)
theorem gt122 {a : Nat} (h : a < 2 ^ 31) : (122 : Int32) < nI a ↔ 122 < a := nI_ltI (a := 122) (by decide) h
theorem lt48 {a : Nat} (h : a < 2 ^ 31) : nI a < (48 : Int32) ↔ a < 48 := nI_ltI (b := 48) h (by decide)
theorem gt57 {a : Nat} (h : a < 2 ^ 31) : (57 : Int32) < nI a ↔ 57 < a := nI_ltI (a := 57) (by decide) h
theorem eq59 {a : Nat} (h : a < 2 ^ 31) : nI a = (59 : Int32) ↔ a = 59 := nI_eq (b := 59) h (by decide)
theorem eq32 {a : Nat} (h : a < 2 ^ 31) : nI a = (32 : Int32) ↔ a = 32 := nI_eq (b := 32) h (by decide)
theorem eq1 {a : Nat} (h : a < 2 ^ 31) : nI a = (1 : Int32) ↔ a = 1 := nI_eq (b := 1) h (by decide)
theorem eq2 {a : Nat} (h : a < 2 ^ 31) : nI a = (2 : Int32) ↔ a = 2 := nI_eq (b := 2) h (by decide)
theorem e_tokenOf {b : Nat} (h : b < 256) : m_X1_tokenOf (nI b) = some (nI (cls b)) := by
  have k28 : ¬ (97 ≤ b ∧ b ≤ 122) → ¬ (48 ≤ b ∧ b ≤ 57) → X1_tokenOf_j28 (nI b) = some (nI (cls b)) := by
    intro q1 q2
    unfold X1_tokenOf_j28 cls
    rw [if_neg q1, if_neg q2]
    by_cases q : b = 59
    · rw [if_pos ((eq59 (by omega)).mpr q), if_pos q]; rfl
    · rw [if_neg (fun z => q ((eq59 (by omega)).mp z)), if_neg q]; rfl
  have k14 : ¬ (97 ≤ b ∧ b ≤ 122) → X1_tokenOf_j14 (nI b) = some (nI (cls b)) := by
    intro q1
    unfold X1_tokenOf_j14
    by_cases a1 : b < 48
    · rw [if_pos ((lt48 (by omega)).mpr a1)]; exact k28 q1 (by omega)
    · rw [if_neg (fun z => a1 ((lt48 (by omega)).mp z))]
      by_cases a2 : 57 < b
      · rw [if_pos ((gt57 (by omega)).mpr a2)]; exact k28 q1 (by omega)
      · rw [if_neg (fun z => a2 ((gt57 (by omega)).mp z))]
        unfold cls
        rw [if_neg q1, if_pos ⟨by omega, by omega⟩]; rfl
  unfold m_X1_tokenOf
  by_cases a1 : b < 97
  · rw [if_pos ((lt97 (by omega)).mpr a1)]; exact k14 (by omega)
  · rw [if_neg (fun z => a1 ((lt97 (by omega)).mp z))]
    by_cases a2 : 122 < b
    · rw [if_pos ((gt122 (by omega)).mpr a2)]; exact k14 (by omega)
    · rw [if_neg (fun z => a2 ((gt122 (by omega)).mp z))]
      unfold cls
      rw [if_pos ⟨by omega, by omega⟩]; rfl
/-- the class's text holds the bytes B -/
def TB (n : Nat) (B : Nat → Nat) (tx : Nat → Int32) : Prop := n ≤ 200 ∧ ∀ j, j < n → B j < 256 ∧ tx j &&& 255 = nI (B j)
theorem e_byteC {n i : Nat} {B : Nat → Nat} {tx : Nat → Int32} (h : TB n B tx) (hi : i < n) : m_X1_byteAt (nI i) tx = some (nI (B i)) := by
  have hn := h.1
  unfold m_X1_byteAt
  rw [if_neg (nI_lt0 (by omega)), ofN, if_neg (nI_ge (by omega) (by decide)), ld_ok (by omega) (by decide), (h.2 i hi).2]
theorem e_take {n e : Nat} {B : Nat → Nat} {tx : Nat → Int32} (h : TB n B tx) (he : e ≤ n) : m_X1_takeToken (nI n) (nI e) tx = some (nI (tkK B n e), nI (tkS B n e), nI (tkE B n e)) := by
  have hn := h.1
  have hS := skp_le (B := B) (n := n) (n - e) e (by omega)
  have j113 : ∀ (z q s i : Nat), z ≤ 1 → i ≤ n → q ≤ 4 → X1_takeToken_j113 (nI z) (nI n) (nI q) (nI s) (nI i) tx = some (nI q, nI s, nI (if z = 0 then i else rnt B n q (n - i) i)) := by
    intro z q s i hz hi hq
    unfold X1_takeToken_j113
    refine lpUpI _ _ n (fun k st => st = nI k ∧ i ≤ k ∧ (z = 0 → k = i) ∧ rnt B n q (n - k) k = rnt B n q (n - i) i) ?_ ?_ (by omega) i hi _ ⟨rfl, Nat.le_refl i, fun _ => rfl, rfl⟩
    · intro k st rec hk hJ hrec
      obtain ⟨rfl, h1, h2, h3⟩ := hJ
      unfold X1_takeToken_f114
      by_cases z0 : z = 0
      · rw [if_pos ((eq0 (by omega)).mpr z0), if_pos z0, h2 z0]
      · have hb := h.2 k hk
        have hcl := cls_le (b := B k)
        rw [if_neg (fun y => z0 ((eq0 (by omega)).mp y)), if_neg (nI_ge hk (by omega)), e_byteC h hk, obind, e_tokenOf hb.1, obind]
        have er : rnt B n q (n - k) k = if k < n ∧ cls (B k) = q then rnt B n q (n - (k + 1)) (k + 1) else k := by
          rw [show n - k = n - (k + 1) + 1 by omega, rnt]
        by_cases y : cls (B k) = q
        · rw [if_pos (by rw [y]), nm_eq, nI_1]
          refine hrec _ ⟨rfl, by omega, fun t => absurd t z0, ?_⟩
          rw [← h3, er, if_pos ⟨hk, y⟩]
        · rw [if_neg (fun t => y ((nI_eq (by omega) (by omega)).mp t))]
          rw [er, if_neg (fun t => y t.2)] at h3
          rw [if_neg z0, ← h3]
    · intro st rec hJ
      obtain ⟨rfl, h1, h2, h3⟩ := hJ
      unfold X1_takeToken_f114
      have h4 : rnt B n q (n - n) n = n := by rw [Nat.sub_self, rnt]
      by_cases z0 : z = 0
      · rw [if_pos ((eq0 (by omega)).mpr z0), if_pos z0, h2 z0]
      · rw [if_neg (fun y => z0 ((eq0 (by omega)).mp y)), if_pos (nI_le (Nat.le_refl n) (by omega)), if_neg z0, ← h3, h4]
  have j45 : X1_takeToken_j45 (nI n) (nI (tkS B n e)) tx = some (nI (tkK B n e), nI (tkS B n e), nI (tkE B n e)) := by
    have hS2 : tkS B n e ≤ n := hS.2
    unfold X1_takeToken_j45
    by_cases q : tkS B n e < n
    · have hb := h.2 _ q
      have hcl := cls_le (b := B (tkS B n e))
      have ek : tkK B n e = cls (B (tkS B n e)) := by unfold tkK; rw [if_pos q]
      have hmin : minI (nI (tkS B n e) + 1) (nI n) = nI (tkS B n e + 1) := by
        rw [nI_1]; unfold minI; rw [if_neg (fun t => by have := (nI_ltI (by omega) (by omega)).mp t; omega)]
      rw [if_neg (nI_ge q (by omega)), e_byteC h q, obind, e_tokenOf hb.1, obind, ← ek]
      rw [← ek] at hcl
      unfold X1_takeToken_j72
      rw [hmin, nm_eq]
      unfold X1_takeToken_j108
      by_cases k1 : tkK B n e = 1 ∨ tkK B n e = 2
      · have g : X1_takeToken_j113 1 (nI n) (nI (tkK B n e)) (nI (tkS B n e)) (nI (tkS B n e + 1)) tx = _ := j113 1 (tkK B n e) (tkS B n e) (tkS B n e + 1) (by decide) (by omega) (by omega)
        have eE : tkE B n e = rnt B n (tkK B n e) (n - (tkS B n e + 1)) (tkS B n e + 1) := by unfold tkE; rw [if_pos q, if_pos k1]
        rw [if_neg (by decide), ← eE] at g
        by_cases k2 : tkK B n e = 1
        · rw [if_pos ((eq1 (by omega)).mpr k2)]; exact g
        · rw [if_neg (fun y => k2 ((eq1 (by omega)).mp y)), if_pos ((eq2 (by omega)).mpr (by omega))]; exact g
      · have g : X1_takeToken_j113 0 (nI n) (nI (tkK B n e)) (nI (tkS B n e)) (nI (tkS B n e + 1)) tx = _ := j113 0 (tkK B n e) (tkS B n e) (tkS B n e + 1) (by decide) (by omega) (by omega)
        have eE : tkE B n e = tkS B n e + 1 := by unfold tkE; rw [if_pos q, if_neg k1]
        rw [if_pos rfl, ← eE] at g
        rw [if_neg (fun y => k1 (Or.inl ((eq1 (by omega)).mp y))), if_neg (fun y => k1 (Or.inr ((eq2 (by omega)).mp y))), ← eE]
        exact g
    · have ek : tkK B n e = 0 := by unfold tkK; rw [if_neg q]
      have eE : tkE B n e = n := by unfold tkE; rw [if_neg q]
      have eS : tkS B n e = n := by omega
      have hmin : minI (nI n + 1) (nI n) = nI n := by
        rw [nI_1]; unfold minI; rw [if_pos ((nI_ltI (by omega) (by omega)).mpr (Nat.lt_succ_self n))]
      have g : X1_takeToken_j113 0 (nI n) 0 (nI n) (nI n) tx = _ := j113 0 0 n n (by decide) (Nat.le_refl n) (by decide)
      rw [if_pos rfl] at g
      rw [ek, eE, eS, if_pos (nI_le (Nat.le_refl n) (by omega))]
      unfold X1_takeToken_j72
      rw [hmin, nm_eq, if_neg (by decide), if_neg (by decide)]
      exact g
  unfold m_X1_takeToken
  refine lpUpI _ _ n (fun k st => st = nI k ∧ skp B n (n - k) k = tkS B n e) ?_ ?_ (by omega) e he _ ⟨rfl, rfl⟩
  · intro k st rec hk hJ hrec
    obtain ⟨rfl, h1⟩ := hJ
    have hb := h.2 k hk
    have er : skp B n (n - k) k = if k < n ∧ B k = 32 then skp B n (n - (k + 1)) (k + 1) else k := by
      rw [show n - k = n - (k + 1) + 1 by omega, skp]
    unfold X1_takeToken_f8
    rw [if_neg (nI_ge hk (by omega)), e_byteC h hk, obind]
    by_cases y : B k = 32
    · rw [if_pos ((eq32 (by omega)).mpr y), nm_eq, nI_1]
      refine hrec _ ⟨rfl, ?_⟩
      rw [← h1, er, if_pos ⟨hk, y⟩]
    · rw [if_neg (fun t => y ((eq32 (by omega)).mp t))]
      rw [er, if_neg (fun t => y t.2)] at h1
      exact Eq.trans (congrArg (fun x => X1_takeToken_j45 (nI n) x tx) (congrArg nI h1)) j45
  · intro st rec hJ
    obtain ⟨rfl, h1⟩ := hJ
    rw [Nat.sub_self, skp] at h1
    unfold X1_takeToken_f8
    rw [if_pos (nI_le (Nat.le_refl n) (by omega))]
    exact Eq.trans (congrArg (fun x => X1_takeToken_j45 (nI n) x tx) (congrArg nI h1)) j45

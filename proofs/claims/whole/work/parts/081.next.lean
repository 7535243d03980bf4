/-! TOKENS: the reference's next. -/
def TM (n : Nat) (B : Nat → Nat) (tx : Nat → Int32) : Prop := n ≤ 200 ∧ ∀ j, j < n → B j < 256 ∧ tx j = nI (B j)
def nb (B : Nat → Nat) (s : Nat) : Nat → Int32
  | 0 => 0
  | k + 1 => if 3 ≤ k then nb B s k else ((10 * nb B s k) + nI (B (s + k))) - 48
def pk8 (B : Nat → Nat) (s : Nat) : Nat → Int64
  | 0 => 0
  | k + 1 => if 8 ≤ k then 0 else (shlL (pk8 B s k) 8) ||| (Int32.toInt64 (nI (B (s + k))))
/-- whether the digits are a number: not more than two, no 0 ahead of another -/
def gd (B : Nat → Nat) (n e : Nat) : Prop := tkE B n e - tkS B n e < 3 ∧ (B (tkS B n e) = 48 → tkE B n e - tkS B n e = 1)
theorem e_byteM {n i : Nat} {B : Nat → Nat} {tx : Nat → Int32} (h : TM n B tx) (hi : i < n) : m_X5_byteAt (nI i) (nI n) tx = some (nI (B i)) := by
  have hn := h.1
  unfold m_X5_byteAt
  rw [if_neg (nI_ge hi (by omega)), ld_ok (by omega) (by decide), (h.2 i hi).2]
theorem e_byteEnd {n : Nat} {tx : Nat → Int32} (hn : n ≤ 200) : m_X5_byteAt (nI n) (nI n) tx = some (-1) := by
  unfold m_X5_byteAt
  rw [if_pos (nI_le (Nat.le_refl n) (by omega))]
theorem inL {b : Nat} (h : b < 256) : m_X5_in (nI b) 97 122 = some (if 97 ≤ b ∧ b ≤ 122 then 1 else 0) := e_in (l := 97) (h := 122) (by omega) (by decide) (by decide)
theorem inD {b : Nat} (h : b < 256) : m_X5_in (nI b) 48 57 = some (if 48 ≤ b ∧ b ≤ 57 then 1 else 0) := e_in (l := 48) (h := 57) (by omega) (by decide) (by decide)
theorem inL1 : m_X5_in (-1) 97 122 = some 0 := in_low (by decide)
theorem inD1 : m_X5_in (-1) 48 57 = some 0 := in_low (by decide)
theorem le3n {a : Nat} (h : a < 2 ^ 31) : (3 : Int32) ≤ nI a ↔ 3 ≤ a := nI_leI (a := 3) (by decide) h
theorem eq48 {a : Nat} (h : a < 2 ^ 31) : nI a = (48 : Int32) ↔ a = 48 := nI_eq (b := 48) h (by decide)
theorem cls1 {b : Nat} : cls b = 1 ↔ 97 ≤ b ∧ b ≤ 122 := by
  unfold cls
  by_cases q : 97 ≤ b ∧ b ≤ 122
  · rw [if_pos q]; exact ⟨fun _ => q, fun _ => rfl⟩
  · rw [if_neg q]; exact ⟨fun y => by (split at y <;> try split at y) <;> omega, fun y => absurd y q⟩
theorem cls2 {b : Nat} : cls b = 2 ↔ 48 ≤ b ∧ b ≤ 57 := by
  unfold cls
  by_cases q : 97 ≤ b ∧ b ≤ 122
  · rw [if_pos q]; exact ⟨fun y => by omega, fun y => by omega⟩
  · rw [if_neg q]
    by_cases q2 : 48 ≤ b ∧ b ≤ 57
    · rw [if_pos q2]; exact ⟨fun _ => q2, fun _ => rfl⟩
    · rw [if_neg q2]; exact ⟨fun y => by split at y <;> omega, fun y => absurd y q2⟩
theorem e_next {n e : Nat} {B : Nat → Nat} {tx : Nat → Int32} {num : Int32} {wd : Int64} (h : TM n B tx) (he : e ≤ n) :
    ∃ tk num' wd', m_X5_next (nI n) (nI e) num wd tx = some (nI (tkE B n e), nI (tkS B n e), nI tk, num', wd') ∧ (tkK B n e ≠ 2 → tk = tkK B n e) ∧ (tkK B n e = 2 → gd B n e → tk = 2) ∧ (tkK B n e = 2 → ¬ gd B n e → tk = 4) ∧ (tkK B n e = 2 → num' = nb B (tkS B n e) (tkE B n e - tkS B n e)) ∧ (tkK B n e = 1 → wd' = pk8 B (tkS B n e) (tkE B n e - tkS B n e)) := by
  have hn := h.1
  have hS := skp_le (B := B) (n := n) (n - e) e (by omega)
  have hS2 : tkS B n e ≤ n := hS.2
  have rn1 : ∀ (q i : Nat), i < n → rnt B n q (n - i) i = if i < n ∧ cls (B i) = q then rnt B n q (n - (i + 1)) (i + 1) else i := fun q i hi => by rw [show n - i = n - (i + 1) + 1 by omega, rnt]
  have rnN : ∀ q, rnt B n q (n - n) n = n := fun q => by rw [Nat.sub_self, rnt]
  unfold m_X5_next
  refine lpUpE _ n (fun k st => st = nI k ∧ skp B n (n - k) k = tkS B n e) (fun o => ∃ tk num' wd', o = some (nI (tkE B n e), nI (tkS B n e), nI tk, num', wd') ∧ (tkK B n e ≠ 2 → tk = tkK B n e) ∧ (tkK B n e = 2 → gd B n e → tk = 2) ∧ (tkK B n e = 2 → ¬ gd B n e → tk = 4) ∧ (tkK B n e = 2 → num' = nb B (tkS B n e) (tkE B n e - tkS B n e)) ∧ (tkK B n e = 1 → wd' = pk8 B (tkS B n e) (tkE B n e - tkS B n e))) ?_ ?_ (by omega) e he _ ⟨rfl, rfl⟩
  · intro k st rec hk hJ hrec
    obtain ⟨rfl, h1⟩ := hJ
    have hb := (h.2 k hk).1
    have er : skp B n (n - k) k = if k < n ∧ B k = 32 then skp B n (n - (k + 1)) (k + 1) else k := by
      rw [show n - k = n - (k + 1) + 1 by omega, skp]
    unfold X5_next_f0
    rw [e_byteM h hk, obind]
    by_cases y : B k = 32
    · rw [if_pos ((eq32 (by omega)).mpr y), nm_eq, nI_1]
      refine hrec _ ⟨rfl, ?_⟩
      rw [← h1, er, if_pos ⟨hk, y⟩]
    · rw [if_neg (fun t => y ((eq32 (by omega)).mp t))]
      rw [er, if_neg (fun t => y t.2)] at h1
      have hk2 : tkS B n e < n := by omega
      have ek : tkK B n e = cls (B (tkS B n e)) := by unfold tkK; rw [if_pos hk2]
      dsimp only
      rw [e_byteM h hk, obind, if_pos (nI_pos' (by omega)), inL hb, obind]
      by_cases q1 : 97 ≤ B k ∧ B k ≤ 122
      · have ek1 : tkK B n e = 1 := by rw [ek, ← h1]; exact cls1.mpr q1
        have eE : tkE B n e = rnt B n 1 (n - k) k := by
          unfold tkE; rw [if_pos hk2, if_pos (Or.inl ek1), ek1, rn1 1 k hk, if_pos ⟨hk, cls1.mpr q1⟩, h1]
        rw [if_pos q1, if_neg (by decide)]
        refine lpUpE _ n (fun i st => k ≤ i ∧ st = (nI i, pk8 B k (i - k)) ∧ rnt B n 1 (n - i) i = tkE B n e) (fun o => ∃ tk num' wd', o = some (nI (tkE B n e), nI (tkS B n e), nI tk, num', wd') ∧ (tkK B n e ≠ 2 → tk = tkK B n e) ∧ (tkK B n e = 2 → gd B n e → tk = 2) ∧ (tkK B n e = 2 → ¬ gd B n e → tk = 4) ∧ (tkK B n e = 2 → num' = nb B (tkS B n e) (tkE B n e - tkS B n e)) ∧ (tkK B n e = 1 → wd' = pk8 B (tkS B n e) (tkE B n e - tkS B n e))) ?_ ?_ (by omega) k (by omega) _ ⟨Nat.le_refl k, by rw [Nat.sub_self]; rfl, eE.symm⟩
        · intro i st rec2 hi hJ2 hrec2
          obtain ⟨hki, rfl, z1⟩ := hJ2
          have hbi := (h.2 i hi).1
          rw [rn1 1 i hi] at z1
          dsimp only
          unfold X5_next_f76
          rw [e_byteM h hi, obind, inL hbi, obind]
          by_cases z : 97 ≤ B i ∧ B i ≤ 122
          · rw [if_pos ⟨hi, cls1.mpr z⟩] at z1
            rw [if_pos z, if_neg (by decide), nI_sub hki]
            by_cases z8 : 8 ≤ i - k
            · rw [if_pos ((le8 (by omega)).mpr z8)]
              unfold X5_next_j130
              rw [nm_eq, nI_1]
              refine hrec2 _ ⟨by omega, ?_, z1⟩
              rw [show i + 1 - k = i - k + 1 by omega, pk8, if_pos z8]
            · rw [if_neg (fun t => z8 ((le8 (by omega)).mp t)), obind]
              unfold X5_next_j130
              rw [nm_eq, nI_1]
              refine hrec2 _ ⟨by omega, ?_, z1⟩
              rw [show i + 1 - k = i - k + 1 by omega, pk8, if_neg z8, show k + (i - k) = i by omega]
          · rw [if_neg (fun t => z (cls1.mp t.2))] at z1
            rw [if_neg z, if_pos rfl]
            refine ⟨1, num, pk8 B k (i - k), by rw [← z1, ← h1]; rfl, fun _ => ek1.symm, fun t => by omega, fun t => by omega, fun t => by omega, fun _ => by rw [← h1, ← z1]⟩
        · intro st rec2 hJ2
          obtain ⟨hki, rfl, z1⟩ := hJ2
          rw [rnN] at z1
          dsimp only
          unfold X5_next_f76
          rw [e_byteEnd hn, obind, inL1, obind, if_pos rfl]
          refine ⟨1, num, pk8 B k (n - k), by rw [← z1, ← h1]; rfl, fun _ => ek1.symm, fun t => by omega, fun t => by omega, fun t => by omega, fun _ => by rw [← h1, ← z1]⟩
      · rw [if_neg q1, if_pos rfl, inD hb, obind]
        by_cases q2 : 48 ≤ B k ∧ B k ≤ 57
        · have ek2 : tkK B n e = 2 := by rw [ek, ← h1]; exact cls2.mpr q2
          have eE : tkE B n e = rnt B n 2 (n - k) k := by
            unfold tkE; rw [if_pos hk2, if_pos (Or.inr ek2), ek2, rn1 2 k hk, if_pos ⟨hk, cls2.mpr q2⟩, h1]
          have hgt : k < tkE B n e := by
            rw [eE, rn1 2 k hk, if_pos ⟨hk, cls2.mpr q2⟩]
            have := rnt_le (B := B) (n := n) (q := 2) (n - (k + 1)) (k + 1) (by omega)
            omega
          have fin : ∀ i, i ≤ n → k ≤ i → i = tkE B n e → ∃ tk num' wd', (if (3 : Int32) ≤ (nI i - nI k) then (X5_next_j273 (nI i) (nI k) (nb B k (i - k)) wd) else (if nI (B k) = 48 then (if (nI i - nI k) = 1 then (X5_next_j269 (nI i) (nI k) (nb B k (i - k)) wd) else (X5_next_j273 (nI i) (nI k) (nb B k (i - k)) wd)) else (X5_next_j269 (nI i) (nI k) (nb B k (i - k)) wd))) = some (nI (tkE B n e), nI (tkS B n e), nI tk, num', wd') ∧ (tkK B n e ≠ 2 → tk = tkK B n e) ∧ (tkK B n e = 2 → gd B n e → tk = 2) ∧ (tkK B n e = 2 → ¬ gd B n e → tk = 4) ∧ (tkK B n e = 2 → num' = nb B (tkS B n e) (tkE B n e - tkS B n e)) ∧ (tkK B n e = 1 → wd' = pk8 B (tkS B n e) (tkE B n e - tkS B n e)) := by
            intro i hi hki hie
            have g2 : gd B n e → ∃ tk num' wd', X5_next_j269 (nI i) (nI k) (nb B k (i - k)) wd = some (nI (tkE B n e), nI (tkS B n e), nI tk, num', wd') ∧ (tkK B n e ≠ 2 → tk = tkK B n e) ∧ (tkK B n e = 2 → gd B n e → tk = 2) ∧ (tkK B n e = 2 → ¬ gd B n e → tk = 4) ∧ (tkK B n e = 2 → num' = nb B (tkS B n e) (tkE B n e - tkS B n e)) ∧ (tkK B n e = 1 → wd' = pk8 B (tkS B n e) (tkE B n e - tkS B n e)) := fun hg => ⟨2, _, _, by rw [← hie, ← h1]; rfl, fun t => absurd ek2 t, fun _ _ => rfl, fun _ t => absurd hg t, fun _ => by rw [← hie, ← h1], fun t => by omega⟩
            have g4 : ¬ gd B n e → ∃ tk num' wd', X5_next_j273 (nI i) (nI k) (nb B k (i - k)) wd = some (nI (tkE B n e), nI (tkS B n e), nI tk, num', wd') ∧ (tkK B n e ≠ 2 → tk = tkK B n e) ∧ (tkK B n e = 2 → gd B n e → tk = 2) ∧ (tkK B n e = 2 → ¬ gd B n e → tk = 4) ∧ (tkK B n e = 2 → num' = nb B (tkS B n e) (tkE B n e - tkS B n e)) ∧ (tkK B n e = 1 → wd' = pk8 B (tkS B n e) (tkE B n e - tkS B n e)) := fun hg => ⟨4, _, _, by rw [← hie, ← h1]; rfl, fun t => absurd ek2 t, fun _ t => absurd t hg, fun _ _ => rfl, fun _ => by rw [← hie, ← h1], fun t => by omega⟩
            have gdi : gd B n e ↔ (i - k < 3 ∧ (B k = 48 → i - k = 1)) := by unfold gd; rw [← hie, ← h1]
            rw [nI_sub hki]
            by_cases a3 : 3 ≤ i - k
            · rw [if_pos ((le3n (by omega)).mpr a3)]; exact g4 (fun t => by have := (gdi.mp t).1; omega)
            · rw [if_neg (fun t => a3 ((le3n (by omega)).mp t))]
              by_cases a8 : B k = 48
              · rw [if_pos ((eq48 (by omega)).mpr a8)]
                by_cases a1 : i - k = 1
                · rw [if_pos ((eq1 (by omega)).mpr a1)]; exact g2 (gdi.mpr ⟨by omega, fun _ => a1⟩)
                · rw [if_neg (fun t => a1 ((eq1 (by omega)).mp t))]; exact g4 (fun t => a1 ((gdi.mp t).2 a8))
              · rw [if_neg (fun t => a8 ((eq48 (by omega)).mp t))]; exact g2 (gdi.mpr ⟨by omega, fun t => absurd t a8⟩)
          rw [if_pos q2, if_neg (by decide)]
          refine lpUpE _ n (fun i st => k ≤ i ∧ st = (nI i, nb B k (i - k)) ∧ rnt B n 2 (n - i) i = tkE B n e) (fun o => ∃ tk num' wd', o = some (nI (tkE B n e), nI (tkS B n e), nI tk, num', wd') ∧ (tkK B n e ≠ 2 → tk = tkK B n e) ∧ (tkK B n e = 2 → gd B n e → tk = 2) ∧ (tkK B n e = 2 → ¬ gd B n e → tk = 4) ∧ (tkK B n e = 2 → num' = nb B (tkS B n e) (tkE B n e - tkS B n e)) ∧ (tkK B n e = 1 → wd' = pk8 B (tkS B n e) (tkE B n e - tkS B n e))) ?_ ?_ (by omega) k (by omega) _ ⟨Nat.le_refl k, by rw [Nat.sub_self]; rfl, eE.symm⟩
          · intro i st rec2 hi hJ2 hrec2
            obtain ⟨hki, rfl, z1⟩ := hJ2
            have hbi := (h.2 i hi).1
            rw [rn1 2 i hi] at z1
            dsimp only
            unfold X5_next_f162
            rw [e_byteM h hi, obind, inD hbi, obind]
            by_cases z : 48 ≤ B i ∧ B i ≤ 57
            · rw [if_pos ⟨hi, cls2.mpr z⟩] at z1
              rw [if_pos z, if_neg (by decide), nI_sub hki]
              by_cases z3 : 3 ≤ i - k
              · rw [if_pos ((le3n (by omega)).mpr z3)]
                unfold X5_next_j220
                rw [nm_eq, nI_1]
                refine hrec2 _ ⟨by omega, ?_, z1⟩
                rw [show i + 1 - k = i - k + 1 by omega, nb, if_pos z3]
              · rw [if_neg (fun t => z3 ((le3n (by omega)).mp t)), obind]
                unfold X5_next_j220
                rw [nm_eq, nI_1]
                refine hrec2 _ ⟨by omega, ?_, z1⟩
                rw [show i + 1 - k = i - k + 1 by omega, nb, if_neg z3, show k + (i - k) = i by omega]
            · rw [if_neg (fun t => z (cls2.mp t.2))] at z1
              rw [if_neg z, if_pos rfl]
              exact fin i (by omega) hki z1
          · intro st rec2 hJ2
            obtain ⟨hki, rfl, z1⟩ := hJ2
            rw [rnN] at z1
            dsimp only
            unfold X5_next_f162
            rw [e_byteEnd hn, obind, inD1, obind, if_pos rfl]
            exact fin n (Nat.le_refl n) hki z1
        · have k1 : ¬ tkK B n e = 1 := fun t => q1 (cls1.mp (by rw [h1, ← ek]; exact t))
          have k2 : ¬ tkK B n e = 2 := fun t => q2 (cls2.mp (by rw [h1, ← ek]; exact t))
          have eE : tkE B n e = k + 1 := by unfold tkE; rw [if_pos hk2, if_neg (by omega), h1]
          rw [if_neg q2, if_pos rfl]
          have ec : cls (B k) = if B k = 59 then 3 else 4 := by unfold cls; rw [if_neg q1, if_neg q2]
          by_cases q3 : B k = 59
          · rw [if_pos ((eq59 (by omega)).mpr q3)]
            unfold X5_next_j292
            rw [nm_eq, nI_1]
            exact ⟨3, _, _, by rw [eE, ← h1]; rfl, fun _ => by rw [ek, ← h1, ec, if_pos q3], fun t => absurd t k2, fun t => absurd t k2, fun t => absurd t k2, fun t => absurd t k1⟩
          · rw [if_neg (fun t => q3 ((eq59 (by omega)).mp t))]
            unfold X5_next_j292
            rw [nm_eq, nI_1]
            exact ⟨4, _, _, by rw [eE, ← h1]; rfl, fun _ => by rw [ek, ← h1, ec, if_neg q3], fun t => absurd t k2, fun t => absurd t k2, fun t => absurd t k2, fun t => absurd t k1⟩
  · intro st rec hJ
    obtain ⟨rfl, h1⟩ := hJ
    rw [Nat.sub_self, skp] at h1
    have ek : tkK B n e = 0 := by unfold tkK; rw [if_neg (by omega)]
    have eE : tkE B n e = n := by unfold tkE; rw [if_neg (by omega)]
    unfold X5_next_f0
    rw [e_byteEnd hn, obind, if_neg (by decide)]
    dsimp only
    rw [e_byteEnd hn, obind, if_neg (by decide)]
    exact ⟨0, num, wd, by rw [eE, ← h1]; rfl, fun _ => ek.symm, fun t => by omega, fun t => by omega, fun t => by omega, fun t => by omega⟩

/-! READING: both sides' steps. e, where the token's search begins; w, 1 once there is a fault. -/
def flC (w s : Nat) : Int32 := if w = 0 then -1 else nI s
def RT (B : Nat → Nat) (n e : Nat) (t num : Int32) (wd : Int64) : Prop := ∃ tk, t = nI tk ∧ tk ≤ 4 ∧ (tkK B n e ≠ 2 → tk = tkK B n e) ∧ (tkK B n e = 2 → gd B n e → tk = 2) ∧ (tkK B n e = 2 → ¬ gd B n e → tk = 4) ∧ (tkK B n e = 2 → num = nb B (tkS B n e) (tkE B n e - tkS B n e)) ∧ (tkK B n e = 1 → wd = pk8 B (tkS B n e) (tkE B n e - tkS B n e))
def Adv (B : Nat → Nat) (n : Nat) (ok : Prop) (e w e' w' : Nat) : Prop := (w = 0 ∧ ok → w' = 0 ∧ e' = tkE B n e) ∧ (¬ (w = 0 ∧ ok) → w' = 1 ∧ e' = e)
/-- the number of the token, in lo .. hi -/
def Nm (B : Nat → Nat) (n e : Nat) (lo hi : Int32) : Prop := tkK B n e = 2 ∧ gd B n e ∧ lo ≤ nb B (tkS B n e) (tkE B n e - tkS B n e) ∧ nb B (tkS B n e) (tkE B n e - tkS B n e) ≤ hi
theorem tkK_le {B : Nat → Nat} {n e : Nat} : tkK B n e ≤ 4 := by
  unfold tkK
  split
  · exact cls_le.2
  · omega
theorem tk_bd {B : Nat → Nat} {n e : Nat} (he : e ≤ n) : e ≤ tkS B n e ∧ tkS B n e ≤ n ∧ tkS B n e ≤ tkE B n e ∧ tkE B n e ≤ n ∧ (tkK B n e ≠ 0 → tkS B n e < tkE B n e) := by
  have h1 := skp_le (B := B) (n := n) (n - e) e (by omega)
  have h2 : tkS B n e = skp B n (n - e) e := rfl
  have h3 := rnt_le (B := B) (n := n) (q := tkK B n e) (n - (tkS B n e + 1)) (tkS B n e + 1)
  rw [← h2] at h1
  refine ⟨h1.1, h1.2, ?_, ?_, ?_⟩
  · unfold tkE; split
    · have := h3 (by omega); split <;> omega
    · omega
  · unfold tkE; split
    · have := h3 (by omega); split <;> omega
    · omega
  · intro hk
    have h4 : tkS B n e < n := by
      rcases Nat.lt_or_ge (tkS B n e) n with z | z
      · exact z
      · exact absurd (by unfold tkK; rw [if_neg (by omega)]) hk
    unfold tkE
    rw [if_pos h4]
    have := h3 (by omega); split <;> omega
theorem adv_ex {B : Nat → Nat} {n : Nat} (ok : Prop) (e w : Nat) : ∃ e' w', Adv B n ok e w e' w' := by
  by_cases h : w = 0 ∧ ok
  · exact ⟨tkE B n e, 0, fun _ => ⟨rfl, rfl⟩, fun q => absurd h q⟩
  · exact ⟨e, 1, fun q => absurd q h, fun _ => ⟨rfl, rfl⟩⟩
theorem adv_bd {B : Nat → Nat} {n : Nat} {ok : Prop} {e w e' w' : Nat} (A : Adv B n ok e w e' w') (he : e ≤ n) : e ≤ e' ∧ e' ≤ n ∧ w' ≤ 1 ∧ (w' = 0 → w = 0 ∧ ok ∧ e' = tkE B n e) := by
  have hb := tk_bd (B := B) he
  by_cases h : w = 0 ∧ ok
  · obtain ⟨rfl, rfl⟩ := A.1 h
    exact ⟨by omega, by omega, by omega, fun _ => ⟨h.1, h.2, rfl⟩⟩
  · obtain ⟨rfl, rfl⟩ := A.2 h
    exact ⟨Nat.le_refl _, he, Nat.le_refl _, fun q => by omega⟩
theorem flC0 {s : Nat} : flC 0 s = -1 := rfl
theorem flC1 {s : Nat} : flC 1 s = nI s := rfl
theorem c_fail {w s : Nat} (hw : w ≤ 1) (hs : s < 2 ^ 31) : m_X1_fail (nI s) (flC w s) = some (flC 1 s) := by
  unfold m_X1_fail
  rcases (show w = 0 ∨ w = 1 by omega) with rfl | rfl
  · rw [flC0, if_pos rfl]; rfl
  · rw [flC1, if_neg (m1_ne hs)]
theorem c_stop {n e w e' w' : Nat} {B : Nat → Nat} {tx : Nat → Int32} (h : TB n B tx) (he : e ≤ n) (hw : w ≤ 1) (A : Adv B n (tkK B n e = 3) e w e' w') :
    m_X1_takeStop (nI n) (nI (tkK B n e)) (nI (tkS B n e)) (nI (tkE B n e)) (flC w (tkS B n e)) tx = some (nI (tkK B n e'), nI (tkS B n e'), nI (tkE B n e'), flC w' (tkS B n e')) := by
  have hn := h.1
  have hb := tk_bd (B := B) he
  have hk := tkK_le (B := B) (n := n) (e := e)
  have j0 : X1_takeStop_j12 (nI n) (nI (tkK B n e)) (nI (tkS B n e)) (nI (tkE B n e)) (flC 0 (tkS B n e)) tx = some (nI (tkK B n (tkE B n e)), nI (tkS B n (tkE B n e)), nI (tkE B n (tkE B n e)), -1) := by
    unfold X1_takeStop_j12
    rw [flC0, if_pos rfl, e_take h (by omega), obind]
  have j1 : X1_takeStop_j12 (nI n) (nI (tkK B n e)) (nI (tkS B n e)) (nI (tkE B n e)) (flC 1 (tkS B n e)) tx = some (nI (tkK B n e), nI (tkS B n e), nI (tkE B n e), flC 1 (tkS B n e)) := by
    unfold X1_takeStop_j12
    rw [flC1, if_neg (m1_ne (by omega))]
  unfold m_X1_takeStop
  by_cases q : tkK B n e = 3
  · rw [if_pos (by rw [q]; rfl)]
    rcases (show w = 0 ∨ w = 1 by omega) with rfl | rfl
    · obtain ⟨rfl, rfl⟩ := A.1 ⟨rfl, q⟩
      exact j0
    · obtain ⟨rfl, rfl⟩ := A.2 (fun t => by omega)
      exact j1
  · have q3 : ¬ nI (tkK B n e) = (3 : Int32) := fun t => q ((nI_eq (b := 3) (by omega) (by decide)).mp t)
    obtain ⟨rfl, rfl⟩ := A.2 (fun t => q t.2)
    rw [if_neg q3, c_fail hw (by omega), obind]
    exact j1
theorem c_num {n e w e' w' : Nat} {B : Nat → Nat} {tx : Nat → Int32} {lo hi : Int32} (h : TB n B tx) (he : e ≤ n) (hw : w ≤ 1) (hlo : (-1 : Int32) < lo) (A : Adv B n (Nm B n e lo hi) e w e' w') :
    m_X1_takeNumber lo hi (nI n) (nI (tkK B n e)) (nI (tkS B n e)) (nI (tkE B n e)) (flC w (tkS B n e)) tx = some (if w' = 0 then nb B (tkS B n e) (tkE B n e - tkS B n e) else lo, nI (tkK B n e'), nI (tkS B n e'), nI (tkE B n e'), flC w' (tkS B n e')) := by
  have hn := h.1
  have hb := tk_bd (B := B) he
  have j0 : ∀ x, X1_takeNumber_j19 lo x (nI n) (nI (tkK B n e)) (nI (tkS B n e)) (nI (tkE B n e)) (flC 0 (tkS B n e)) tx = some (x, nI (tkK B n (tkE B n e)), nI (tkS B n (tkE B n e)), nI (tkE B n (tkE B n e)), -1) := by
    intro x
    unfold X1_takeNumber_j19
    rw [flC0, if_pos rfl, e_take h (by omega), obind]
  have j1 : ∀ x, X1_takeNumber_j19 lo x (nI n) (nI (tkK B n e)) (nI (tkS B n e)) (nI (tkE B n e)) (flC 1 (tkS B n e)) tx = some (lo, nI (tkK B n e), nI (tkS B n e), nI (tkE B n e), flC 1 (tkS B n e)) := by
    intro x
    unfold X1_takeNumber_j19
    rw [flC1, if_neg (m1_ne (by omega))]
  have j2 : ∀ x, X1_takeNumber_j15 lo x (nI n) (nI (tkK B n e)) (nI (tkS B n e)) (nI (tkE B n e)) (flC w (tkS B n e)) tx = some (lo, nI (tkK B n e), nI (tkS B n e), nI (tkE B n e), flC 1 (tkS B n e)) := by
    intro x
    unfold X1_takeNumber_j15
    rw [c_fail hw (by omega), obind]
    exact j1 x
  unfold m_X1_takeNumber
  by_cases q : tkK B n e = 2 ∧ gd B n e
  · rw [(e_number h he).1 q.1 q.2, obind]
    by_cases q1 : nb B (tkS B n e) (tkE B n e - tkS B n e) < lo
    · obtain ⟨rfl, rfl⟩ := A.2 (fun t => Int32.not_le.mpr q1 t.2.2.2.1)
      rw [if_pos q1, if_neg (by decide)]
      exact j2 _
    · rw [if_neg q1]
      by_cases q2 : nb B (tkS B n e) (tkE B n e - tkS B n e) ≤ hi
      · rw [if_pos q2]
        rcases (show w = 0 ∨ w = 1 by omega) with rfl | rfl
        · obtain ⟨rfl, rfl⟩ := A.1 ⟨rfl, q.1, q.2, Int32.not_lt.mp q1, q2⟩
          rw [if_pos rfl]
          exact j0 _
        · obtain ⟨rfl, rfl⟩ := A.2 (fun t => by omega)
          rw [if_neg (by decide)]
          exact j1 _
      · obtain ⟨rfl, rfl⟩ := A.2 (fun t => q2 t.2.2.2.2)
        rw [if_neg q2, if_neg (by decide)]
        exact j2 _
  · obtain ⟨rfl, rfl⟩ := A.2 (fun t => q ⟨t.2.1, t.2.2.1⟩)
    rw [(e_number h he).2 q, obind, if_pos hlo, if_neg (by decide)]
    exact j2 _
theorem r_next {n e : Nat} {B : Nat → Nat} {tx : Nat → Int32} {num : Int32} {wd : Int64} (h : TM n B tx) (he : e ≤ n) : ∃ t' num' wd', m_X5_next (nI n) (nI e) num wd tx = some (nI (tkE B n e), nI (tkS B n e), t', num', wd') ∧ RT B n e t' num' wd' := by
  obtain ⟨tk, num', wd', h1, h2, h3, h4, h5, h6⟩ := e_next (num := num) (wd := wd) h he
  refine ⟨nI tk, num', wd', h1, tk, rfl, ?_, h2, h3, h4, h5, h6⟩
  have hk := tkK_le (B := B) (n := n) (e := e)
  by_cases q : tkK B n e = 2
  · by_cases q2 : gd B n e
    · rw [h3 q q2]; omega
    · rw [h4 q q2]; omega
  · rw [h2 q]; omega
theorem r_must {n e w z e' w' : Nat} {B : Nat → Nat} {tx : Nat → Int32} {t num : Int32} {wd : Int64} (h : TM n B tx) (he : e ≤ n) (hw : w ≤ 1) (hz : z ≤ 1) (R : RT B n e t num wd) (A : Adv B n (z = 1) e w e' w') :
    ∃ t' num' wd', m_X5_must (nI z) (nI n) (nI (tkE B n e)) (nI (tkS B n e)) t num wd (nI w) tx = some (nI (tkE B n e'), nI (tkS B n e'), t', num', wd', nI w') ∧ RT B n e' t' num' wd' := by
  have hn := h.1
  have hb := tk_bd (B := B) he
  have jw : X5_must_j12 (nI n) (nI (tkE B n e)) (nI (tkS B n e)) t num wd tx = some (nI (tkE B n e), nI (tkS B n e), t, num, wd, nI 1) := by
    unfold X5_must_j12 X5_must_j17
    rw [bz1, if_neg (by decide)]; rfl
  unfold m_X5_must
  rcases (show w = 0 ∨ w = 1 by omega) with rfl | rfl
  · rw [if_pos (show nI 0 = 0 from rfl)]
    rcases (show z = 0 ∨ z = 1 by omega) with rfl | rfl
    · obtain ⟨rfl, rfl⟩ := A.2 (fun t => by omega)
      rw [if_pos (show nI 0 = 0 from rfl), jw]
      exact ⟨_, _, _, rfl, R⟩
    · obtain ⟨rfl, rfl⟩ := A.1 ⟨rfl, rfl⟩
      obtain ⟨t', num', wd', h1, h2⟩ := r_next (num := num) (wd := wd) h hb.2.2.2.1
      rw [if_neg (by decide)]
      unfold X5_must_j17
      rw [bz0, if_pos rfl, h1, obind]
      exact ⟨_, _, _, rfl, h2⟩
  · obtain ⟨rfl, rfl⟩ := A.2 (fun t => by omega)
    rw [if_neg (by decide), jw]
    exact ⟨_, _, _, rfl, R⟩
theorem adv_cg {B : Nat → Nat} {n : Nat} {ok ok' : Prop} {e w e' w' : Nat} (A : Adv B n ok e w e' w') (hq : ok ↔ ok') : Adv B n ok' e w e' w' := ⟨fun t => A.1 ⟨t.1, hq.mpr t.2⟩, fun t => A.2 (fun y => t ⟨y.1, hq.mp y.2⟩)⟩
/-- the reference's token is a number just where the class's is -/
theorem rt2 {n e : Nat} {B : Nat → Nat} {t num : Int32} {wd : Int64} (R : RT B n e t num wd) : (t = 2 ↔ tkK B n e = 2 ∧ gd B n e) ∧ (tkK B n e = 2 → num = nb B (tkS B n e) (tkE B n e - tkS B n e)) := by
  obtain ⟨tk, rfl, h1, h2, h3, h4, h5, h6⟩ := R
  refine ⟨?_, h5⟩
  constructor
  · intro q
    have q := (nI_eq (b := 2) (by omega) (by decide)).mp q
    by_cases y : tkK B n e = 2
    · refine ⟨y, ?_⟩
      by_cases z : gd B n e
      · exact z
      · have := h4 y z; omega
    · have := h2 y; omega
  · intro q
    rw [h3 q.1 q.2]; rfl
theorem rt13 {n e : Nat} {B : Nat → Nat} {t num : Int32} {wd : Int64} (R : RT B n e t num wd) : (t = 3 ↔ tkK B n e = 3) ∧ (t = 1 ↔ tkK B n e = 1) ∧ (t = 0 ↔ tkK B n e = 0) := by
  obtain ⟨tk, rfl, h1, h2, h3, h4, h5, h6⟩ := R
  have hk : tkK B n e = 2 → tk = 2 ∨ tk = 4 := fun y => by
    by_cases z : gd B n e
    · exact Or.inl (h3 y z)
    · exact Or.inr (h4 y z)
  have hkk : ∀ c, c ≠ 2 → c ≠ 4 → (tk = c ↔ tkK B n e = c) := by
    intro c c2 c4
    by_cases y : tkK B n e = 2
    · have := hk y; omega
    · have := h2 y; omega
  refine ⟨?_, ?_, ?_⟩
  · exact Iff.trans (nI_eq (b := 3) (by omega) (by decide)) (hkk 3 (by decide) (by decide))
  · exact Iff.trans (nI_eq (b := 1) (by omega) (by decide)) (hkk 1 (by decide) (by decide))
  · exact Iff.trans (nI_eq (b := 0) (by omega) (by decide)) (hkk 0 (by decide) (by decide))
theorem r_num {n e w e' w' : Nat} {B : Nat → Nat} {tx : Nat → Int32} {t num lo hi : Int32} {wd : Int64} (h : TM n B tx) (he : e ≤ n) (hw : w ≤ 1) (R : RT B n e t num wd) (A : Adv B n (Nm B n e lo hi) e w e' w') :
    ∃ v t' num' wd', m_X5_readNumber lo hi (nI n) (nI (tkE B n e)) (nI (tkS B n e)) t num wd (nI w) tx = some (v, nI (tkE B n e'), nI (tkS B n e'), t', num', wd', nI w') ∧ RT B n e' t' num' wd' ∧ (w' = 0 → v = nb B (tkS B n e) (tkE B n e - tkS B n e)) := by
  have h2 := rt2 R
  have hbd := adv_bd A he
  have key : ∀ z : Nat, z ≤ 1 → (z = 1 ↔ Nm B n e lo hi) → ∃ v t' num' wd', X5_readNumber_j28 num (nI z) (nI n) (nI (tkE B n e)) (nI (tkS B n e)) t num wd (nI w) tx = some (v, nI (tkE B n e'), nI (tkS B n e'), t', num', wd', nI w') ∧ RT B n e' t' num' wd' ∧ (w' = 0 → v = nb B (tkS B n e) (tkE B n e - tkS B n e)) := by
    intro z hz hq
    obtain ⟨t', num', wd', g1, g2⟩ := r_must h he hw hz R (adv_cg A hq.symm)
    unfold X5_readNumber_j28
    rw [g1, obind]
    exact ⟨_, _, _, _, rfl, g2, fun y => h2.2 (hbd.2.2.2 y).2.1.1⟩
  unfold m_X5_readNumber
  by_cases q : t = 2
  · have q' := h2.1.mp q
    rw [if_pos q, e_inI, obind]
    by_cases y : lo ≤ num ∧ num ≤ hi
    · rw [if_pos y, if_neg (by decide)]
      exact key 1 (by omega) ⟨fun _ => ⟨q'.1, q'.2, by rw [← h2.2 q'.1]; exact y.1, by rw [← h2.2 q'.1]; exact y.2⟩, fun _ => rfl⟩
    · rw [if_neg y, if_pos rfl]
      exact key 0 (by omega) ⟨fun z => by omega, fun z => absurd ⟨by rw [h2.2 q'.1]; exact z.2.2.1, by rw [h2.2 q'.1]; exact z.2.2.2⟩ y⟩
  · rw [if_neg q]
    exact key 0 (by omega) ⟨fun z => by omega, fun z => absurd (h2.1.mpr ⟨z.1, z.2.1⟩) q⟩
/-- the number of a token is small -/
theorem nm_val {n e : Nat} {B : Nat → Nat} (he : e ≤ n) (q : tkK B n e = 2 ∧ gd B n e) : ∃ k, k ≤ 99 ∧ nb B (tkS B n e) (tkE B n e - tkS B n e) = nI k := by
  obtain ⟨d1, d2, d3, d4⟩ := dig q.1
  have hg := q.2.1
  have := nb_val (B := B) (s := tkS B n e) (l := tkE B n e - tkS B n e) (by omega) (fun j a b => d4 j a (by omega))
  exact ⟨_, this.2, this.1⟩

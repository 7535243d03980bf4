/-! READING: the cats that the text has told so far. -/
theorem c_tells {nc : Nat} {x : Int32} {f : Nat → Int32} (hnc : nc ≤ 5) : ((∃ j, j < nc ∧ f j = x) → m_X0_tellsCatIn x (nI nc) f = some 1) ∧ ((¬ ∃ j, j < nc ∧ f j = x) → m_X0_tellsCatIn x (nI nc) f = some 0) := by
  have key : ∀ r : Int32, ((∃ j, j < nc ∧ f j = x) → r = 1) → ((¬ ∃ j, j < nc ∧ f j = x) → r = 0) → m_X0_tellsCatIn x (nI nc) f = some r := by
    intro r h1 h0
    unfold m_X0_tellsCatIn
    refine lpUpI _ _ nc (fun k st => st = nI k ∧ ∀ j, j < k → ¬ f j = x) ?_ ?_ (by omega) 0 (by omega) _ ⟨rfl, fun j hj => absurd hj (Nat.not_lt_zero j)⟩
    · intro k st rec hk hJ hrec
      obtain ⟨rfl, hJ⟩ := hJ
      unfold X0_tellsCatIn_f2
      rw [if_neg (nI_ge hk (by omega))]
      unfold m_X0_startOf
      rw [e_entry (by omega) (by decide), obind, obind]
      by_cases q : f k = x
      · rw [if_pos q, bz1, h1 ⟨k, hk, q⟩]
      · rw [if_neg q, nI_1]
        refine hrec _ ⟨rfl, fun j hj => ?_⟩
        by_cases y : j = k
        · rw [y]; exact q
        · exact hJ j (by omega)
    · intro st rec hJ
      obtain ⟨rfl, hJ⟩ := hJ
      unfold X0_tellsCatIn_f2
      rw [if_pos (nI_le (Nat.le_refl nc) (by omega)), bz0, h0 (fun ⟨j, hj, hf⟩ => hJ j hj hf)]
  exact ⟨fun h => key 1 (fun _ => rfl) (fun y => absurd h y), fun h => key 0 (fun y => absurd y h) (fun _ => rfl)⟩
theorem r_taken {nc : Nat} {x : Int32} {f : Nat → Int32} (hnc : nc ≤ 5) : ((∃ j, j < nc ∧ f j = x) → m_X5_isTaken x (nI nc) f = some 1) ∧ ((¬ ∃ j, j < nc ∧ f j = x) → m_X5_isTaken x (nI nc) f = some 0) := by
  have key : ∀ r : Nat, r ≤ 1 → ((∃ j, j < nc ∧ f j = x) ↔ r = 1) → m_X5_isTaken x (nI nc) f = some (nI r) := by
    intro r hr hq
    unfold m_X5_isTaken
    refine lpUpI _ _ nc (fun k st => ∃ b, b ≤ 1 ∧ st = (nI b, nI k) ∧ ((∃ j, j < k ∧ f j = x) ↔ b = 1)) ?_ ?_ (by omega) 0 (by omega) _ ⟨0, by omega, rfl, ⟨fun ⟨j, hj, _⟩ => absurd hj (Nat.not_lt_zero j), fun h => absurd h (by decide)⟩⟩
    · intro k st rec hk hJ hrec
      obtain ⟨b, hb, rfl, hJ⟩ := hJ
      dsimp only
      unfold X5_isTaken_f4
      rw [if_neg (nI_ge hk (by omega))]
      rcases (show b = 0 ∨ b = 1 by omega) with rfl | rfl
      · rw [if_pos (show nI 0 = 0 from rfl), ld_ok (by omega) (by decide)]
        by_cases q : f k = x
        · rw [if_pos q]
          unfold X5_isTaken_j26 X5_isTaken_j31
          rw [nI_1]
          exact hrec _ ⟨1, by omega, rfl, ⟨fun _ => rfl, fun _ => ⟨k, by omega, q⟩⟩⟩
        · rw [if_neg q]
          unfold X5_isTaken_j31
          rw [nI_1]
          refine hrec _ ⟨0, by omega, rfl, ⟨fun ⟨j, hj, hf⟩ => ?_, fun h => absurd h (by decide)⟩⟩
          by_cases y : j = k
          · rw [y] at hf; exact absurd hf q
          · exact hJ.mp ⟨j, by omega, hf⟩
      · rw [if_neg (by decide)]
        unfold X5_isTaken_j26 X5_isTaken_j31
        rw [nI_1]
        obtain ⟨j, hj, hf⟩ := hJ.mpr rfl
        exact hrec _ ⟨1, by omega, rfl, ⟨fun _ => rfl, fun _ => ⟨j, by omega, hf⟩⟩⟩
    · intro st rec hJ
      obtain ⟨b, hb, rfl, hJ⟩ := hJ
      dsimp only
      unfold X5_isTaken_f4
      have hbr : b = r := by
        rcases (show b = 0 ∨ b = 1 by omega) with h | h
        · have := fun y => h ▸ (hJ.mp (hq.mpr y)); omega
        · have := hq.mp (hJ.mpr h); omega
      rw [if_pos (nI_le (Nat.le_refl nc) (by omega)), hbr]
      exact bz_nI hr
  exact ⟨fun h => key 1 (by omega) ⟨fun _ => rfl, fun _ => h⟩, fun h => key 0 (by omega) ⟨fun y => absurd y h, fun y => by omega⟩⟩
/-- the cats told, in arrays -/
def AR (nc : Nat) (c hb wh : Nat → Nat) (S H W : Nat → Int32) : Prop := ∀ j, j < nc → S j = nI (c j) ∧ H j = nI (hb j) ∧ W j = if hb j = 3 then nI (wh j) else -9
def Tk (nc : Nat) (S : Nat → Int32) (x : Int32) : Prop := ∃ j, j < nc ∧ S j = x
def Nv (B : Nat → Nat) (n e : Nat) : Int32 := nb B (tkS B n e) (tkE B n e - tkS B n e)
/-- the cell of a cat -/
def Cl (B : Nat → Nat) (n e L G nc : Nat) (S : Nat → Int32) : Prop := Nm B n e 0 (nI (L * G) - 1) ∧ ¬ Tk nc S (Nv B n e)
theorem c_cat {n e hj L G nc e2 w2 e3 w3 : Nat} {B : Nat → Nat} {tx S H W : Nat → Int32} {c hb wh : Nat → Nat} (h : TB n B tx) (he : e ≤ n) (hh : hj ≤ 3) (hnc : nc < 5) (hc : ∀ j, j < nc → c j < 2 ^ 20) (R : AR nc c hb wh S H W) (A2 : Adv B n (Cl B n e L G nc S) e 0 e2 w2) (A3 : hj = 3 → Adv B n (Nm B n e2 0 (nI nc - 1)) e2 w2 e3 w3) (A3' : hj ≠ 3 → e3 = e2 ∧ w3 = w2) :
    ∃ x z, m_X1_readCat (nI hj) (nI n) (nI (tkK B n e)) (nI (tkS B n e)) (nI (tkE B n e)) (-1) tx (nI L) (nI G) (nI nc) S H W = some (nI (tkK B n e3), nI (tkS B n e3), nI (tkE B n e3), flC w3 (tkS B n e3), nI (nc + 1), upd S nc x, upd H nc (nI hj), upd W nc z) ∧ (w3 = 0 → x = Nv B n e ∧ z = if hj = 3 then Nv B n e2 else -9) := by
  have hn := h.1
  have hb2 := adv_bd A2 he
  have hbd := tk_bd (B := B) he
  have j48 : ∀ x z : Int32, X1_readCat_j48 (nI hj) x z (nI (tkK B n e3)) (nI (tkS B n e3)) (nI (tkE B n e3)) (flC w3 (tkS B n e3)) (nI nc) S H W = some (nI (tkK B n e3), nI (tkS B n e3), nI (tkE B n e3), flC w3 (tkS B n e3), nI (nc + 1), upd S nc x, upd H nc (nI hj), upd W nc z) := by
    intro x z
    unfold X1_readCat_j48 m_X0_addCat
    rw [if_neg (show ¬ (5 : Int32) ≤ nI nc from nI_ge (b := 5) hnc (by decide)), e_put (by omega) (by decide), obind, e_put (by omega) (by decide), obind, e_put (by omega) (by decide), obind, nm_eq, nI_1, obind]
  have j15 : ∀ w, w ≤ 1 → Adv B n (Nm B n e 0 (nI (L * G) - 1)) e w e2 w2 → ∃ x z, X1_readCat_j15 (nI hj) (nI n) (nI (tkK B n e)) (nI (tkS B n e)) (nI (tkE B n e)) (flC w (tkS B n e)) tx (nI L) (nI G) (nI nc) S H W = some (nI (tkK B n e3), nI (tkS B n e3), nI (tkE B n e3), flC w3 (tkS B n e3), nI (nc + 1), upd S nc x, upd H nc (nI hj), upd W nc z) ∧ (w3 = 0 → x = Nv B n e ∧ z = if hj = 3 then Nv B n e2 else -9) := by
    intro w hw A
    unfold X1_readCat_j15 m_X0_cells
    rw [nI_mul, obind, c_num h he hw (by decide) A, obind]
    dsimp only
    by_cases q : hj = 3
    · have A3 := A3 q
      have hb3 := adv_bd A3 hb2.2.1
      rw [if_pos (by rw [q]; rfl), c_num h hb2.2.1 hb2.2.2.1 (by decide) A3, obind]
      dsimp only
      rw [j48]
      refine ⟨_, _, rfl, fun y => ?_⟩
      rw [if_pos q, if_pos y, if_pos (hb3.2.2.2 y).1]
      exact ⟨rfl, rfl⟩
    · obtain ⟨rfl, rfl⟩ := A3' q
      rw [if_neg (show ¬ nI hj = (3 : Int32) from fun t => q ((nI_eq (b := 3) (by omega) (by decide)).mp t)), j48]
      refine ⟨_, _, rfl, fun y => ?_⟩
      rw [if_neg q, if_pos y]
      exact ⟨rfl, rfl⟩
  unfold m_X1_readCat
  by_cases g : tkK B n e = 2 ∧ gd B n e
  · rw [(e_number h he).1 g.1 g.2, obind]
    by_cases q : Tk nc S (Nv B n e)
    · obtain ⟨rfl, rfl⟩ := A2.2 (fun t => t.2.2 q)
      rw [show m_X0_tellsCatIn (nb B (tkS B n e2) (tkE B n e2 - tkS B n e2)) (nI nc) S = some 1 from (c_tells (by omega)).1 q, obind, if_neg (by decide), show m_X1_fail (nI (tkS B n e2)) (-1) = _ from c_fail (w := 0) (by omega) (by omega), obind]
      exact j15 1 (by omega) ⟨fun t => by omega, fun _ => ⟨rfl, rfl⟩⟩
    · rw [show m_X0_tellsCatIn (nb B (tkS B n e) (tkE B n e - tkS B n e)) (nI nc) S = some 0 from (c_tells (by omega)).2 q, obind, if_pos rfl]
      exact j15 0 (by omega) (adv_cg A2 ⟨fun t => t.1, fun t => ⟨t, q⟩⟩)
  · have nt : ¬ Tk nc S (-1) := by
      rintro ⟨j, hj, hs⟩
      rw [(R j hj).1] at hs
      exact m1_ne (by have := hc j hj; omega) hs
    rw [(e_number h he).2 g, obind, show m_X0_tellsCatIn _ _ _ = some 0 from (c_tells (by omega)).2 nt, obind, if_pos rfl]
    exact j15 0 (by omega) (adv_cg A2 ⟨fun t => t.1, fun t => absurd ⟨t.1, t.2.1⟩ g⟩)
theorem r_cat {n e hj L G nc w e1 w1 e2 w2 e3 w3 e4 w4 : Nat} {B : Nat → Nat} {tx S H W : Nat → Int32} {t num : Int32} {wd : Int64} (h : TM n B tx) (he : e ≤ n) (hw : w ≤ 1) (hh : hj ≤ 3) (hnc : nc ≤ 5) (R : RT B n e t num wd) (A1 : Adv B n (nc < 5) e w e1 w1) (A2 : Adv B n (Cl B n e1 L G nc S) e1 w1 e2 w2) (A3 : hj = 3 → Adv B n (Nm B n e2 0 (nI nc - 1)) e2 w2 e3 w3) (A3' : hj ≠ 3 → e3 = e2 ∧ w3 = w2) (A4 : Adv B n (tkK B n e3 = 3) e3 w3 e4 w4) :
    ∃ t' num' wd' x z, m_X5_readCat (nI hj) (nI n) (nI (tkE B n e)) (nI (tkS B n e)) t num wd (nI w) (nI L) (nI G) (nI nc) tx H W S = some (nI (tkE B n e4), nI (tkS B n e4), t', num', wd', nI w4, (if w4 = 0 then nI (nc + 1) else nI nc), (if w4 = 0 then upd H nc (nI hj) else H), (if w4 = 0 then upd W nc z else W), (if w4 = 0 then upd S nc x else S)) ∧ RT B n e4 t' num' wd' ∧ (w4 = 0 → x = Nv B n e1 ∧ z = if hj = 3 then Nv B n e2 else -9) := by
  have hn := h.1
  have hb1 := adv_bd A1 he
  have hb2 := adv_bd A2 hb1.2.1
  have hb3 : e2 ≤ e3 ∧ e3 ≤ n ∧ w3 ≤ 1 ∧ (w3 = 0 → w2 = 0) := by
    by_cases q : hj = 3
    · have := adv_bd (A3 q) hb2.2.1
      exact ⟨this.1, this.2.1, this.2.2.1, fun y => (this.2.2.2 y).1⟩
    · obtain ⟨rfl, rfl⟩ := A3' q
      exact ⟨Nat.le_refl _, hb2.2.1, hb2.2.2.1, fun y => y⟩
  have hb4 := adv_bd A4 hb3.2.1
  have j109 : ∀ (zz : Nat) (x0 z0 t num : Int32) (wd : Int64), RT B n e3 t num wd → zz ≤ 1 → (zz = 1 ↔ tkK B n e3 = 3) → (w4 = 0 → x0 = Nv B n e1 ∧ z0 = if hj = 3 then Nv B n e2 else -9) →
      ∃ t' num' wd' x z, X5_readCat_j109 (nI hj) x0 z0 (nI zz) (nI n) (nI (tkE B n e3)) (nI (tkS B n e3)) t num wd (nI w3) (nI nc) tx H W S = some (nI (tkE B n e4), nI (tkS B n e4), t', num', wd', nI w4, (if w4 = 0 then nI (nc + 1) else nI nc), (if w4 = 0 then upd H nc (nI hj) else H), (if w4 = 0 then upd W nc z else W), (if w4 = 0 then upd S nc x else S)) ∧ RT B n e4 t' num' wd' ∧ (w4 = 0 → x = Nv B n e1 ∧ z = if hj = 3 then Nv B n e2 else -9) := by
    intro zz x0 z0 t num wd R hz hzz hv
    obtain ⟨t', num', wd', g1, g2⟩ := r_must h hb3.2.1 hb3.2.2.1 hz R (adv_cg A4 hzz.symm)
    refine ⟨t', num', wd', x0, z0, ?_, g2, hv⟩
    unfold X5_readCat_j109
    rw [g1, obind]
    dsimp only
    rcases (show w4 = 0 ∨ w4 = 1 by omega) with q | q
    · rw [if_pos (by rw [q]; rfl), st_ok (by omega) (by decide), st_ok (by omega) (by decide), st_ok (by omega) (by decide), nm_eq, nI_1, if_pos q, if_pos q, if_pos q, if_pos q]
    · rw [if_neg (by rw [q]; decide), if_neg (by omega), if_neg (by omega), if_neg (by omega), if_neg (by omega)]
  have j94 : ∀ (x0 z0 t num : Int32) (wd : Int64), RT B n e3 t num wd → (w4 = 0 → x0 = Nv B n e1 ∧ z0 = if hj = 3 then Nv B n e2 else -9) →
      ∃ t' num' wd' x z, X5_readCat_j94 (nI hj) x0 z0 (nI n) (nI (tkE B n e3)) (nI (tkS B n e3)) t num wd (nI w3) (nI nc) tx H W S = some (nI (tkE B n e4), nI (tkS B n e4), t', num', wd', nI w4, (if w4 = 0 then nI (nc + 1) else nI nc), (if w4 = 0 then upd H nc (nI hj) else H), (if w4 = 0 then upd W nc z else W), (if w4 = 0 then upd S nc x else S)) ∧ RT B n e4 t' num' wd' ∧ (w4 = 0 → x = Nv B n e1 ∧ z = if hj = 3 then Nv B n e2 else -9) := by
    intro x0 z0 t num wd R hv
    have h3 := (rt13 R).1
    unfold X5_readCat_j94
    by_cases q : t = 3
    · rw [if_pos q]
      exact j109 1 x0 z0 t num wd R (by omega) ⟨fun _ => h3.mp q, fun _ => rfl⟩ hv
    · rw [if_neg q]
      exact j109 0 x0 z0 t num wd R (by omega) ⟨fun y => by omega, fun y => absurd (h3.mpr y) q⟩ hv
  have j63 : ∀ (zz : Nat) (x0 t num : Int32) (wd : Int64), RT B n e1 t num wd → zz ≤ 1 → (zz = 1 ↔ Cl B n e1 L G nc S) → (w4 = 0 → x0 = Nv B n e1) →
      ∃ t' num' wd' x z, X5_readCat_j63 (nI hj) x0 (nI zz) (nI n) (nI (tkE B n e1)) (nI (tkS B n e1)) t num wd (nI w1) (nI nc) tx H W S = some (nI (tkE B n e4), nI (tkS B n e4), t', num', wd', nI w4, (if w4 = 0 then nI (nc + 1) else nI nc), (if w4 = 0 then upd H nc (nI hj) else H), (if w4 = 0 then upd W nc z else W), (if w4 = 0 then upd S nc x else S)) ∧ RT B n e4 t' num' wd' ∧ (w4 = 0 → x = Nv B n e1 ∧ z = if hj = 3 then Nv B n e2 else -9) := by
    intro zz x0 t num wd R hz hzz hv
    obtain ⟨t', num', wd', g1, g2⟩ := r_must h hb1.2.1 hb1.2.2.1 hz R (adv_cg A2 hzz.symm)
    unfold X5_readCat_j63
    rw [g1, obind]
    dsimp only
    by_cases q : hj = 3
    · rw [if_pos (by rw [q]; rfl)]
      rcases (show w2 = 0 ∨ w2 = 1 by omega) with q2 | q2
      · obtain ⟨v, t2, num2, wd2, k1, k2, k3⟩ := r_num h hb2.2.1 hb2.2.2.1 g2 (A3 q)
        rw [if_pos (by rw [q2]; rfl), k1, obind]
        refine j94 x0 v t2 num2 wd2 k2 (fun y => ⟨hv y, ?_⟩)
        rw [if_pos q]
        exact k3 (hb4.2.2.2 y).1
      · obtain ⟨w3e, e3e⟩ := (A3 q).2 (fun y => by omega)
        have gg := j94 x0 (-9) t' num' wd' (by rw [e3e]; exact g2) (fun y => by have := (hb4.2.2.2 y).1; omega)
        rw [e3e, w3e] at gg
        rw [if_neg (by rw [q2]; decide)]
        unfold X5_readCat_j92
        rw [q2]
        exact gg
    · obtain ⟨e3e, w3e⟩ := A3' q
      have gg := j94 x0 (-9) t' num' wd' (by rw [e3e]; exact g2) (fun y => ⟨hv y, by rw [if_neg q]⟩)
      rw [e3e, w3e] at gg
      rw [if_neg (show ¬ nI hj = (3 : Int32) from fun t => q ((nI_eq (b := 3) (by omega) (by decide)).mp t))]
      unfold X5_readCat_j92
      exact gg
  have j14 : ∀ zz : Nat, zz ≤ 1 → (zz = 1 ↔ nc < 5) → ∃ t' num' wd' x z, X5_readCat_j14 (nI hj) (nI zz) (nI n) (nI (tkE B n e)) (nI (tkS B n e)) t num wd (nI w) (nI L) (nI G) (nI nc) tx H W S = some (nI (tkE B n e4), nI (tkS B n e4), t', num', wd', nI w4, (if w4 = 0 then nI (nc + 1) else nI nc), (if w4 = 0 then upd H nc (nI hj) else H), (if w4 = 0 then upd W nc z else W), (if w4 = 0 then upd S nc x else S)) ∧ RT B n e4 t' num' wd' ∧ (w4 = 0 → x = Nv B n e1 ∧ z = if hj = 3 then Nv B n e2 else -9) := by
    intro zz hz hzz
    obtain ⟨t', num', wd', g1, g2⟩ := r_must h he hw hz R (adv_cg A1 hzz.symm)
    have h2 := rt2 g2
    have hx : w4 = 0 → num' = Nv B n e1 := fun y => h2.2 (hb2.2.2.2 (hb3.2.2.2 (hb4.2.2.2 y).1)).2.1.1.1
    unfold X5_readCat_j14
    rw [g1, obind]
    dsimp only
    have j62 : ¬ Cl B n e1 L G nc S → _ := fun nq => j63 0 num' t' num' wd' g2 (by omega) ⟨fun y => by omega, fun y => absurd y nq⟩ hx
    by_cases q : t' = 2
    · have q' := h2.1.mp q
      have hv : num' = Nv B n e1 := h2.2 q'.1
      rw [if_pos q, nI_mul, e_inI, obind]
      by_cases y : 0 ≤ num' ∧ num' ≤ nI (L * G) - 1
      · rw [if_pos y, if_neg (by decide)]
        by_cases tk : Tk nc S num'
        · rw [show m_X5_isTaken _ _ _ = some 1 from (r_taken (by omega)).1 tk, obind, if_neg (by decide)]
          unfold X5_readCat_j62
          exact j62 (fun t => t.2 (hv ▸ tk))
        · rw [show m_X5_isTaken _ _ _ = some 0 from (r_taken (by omega)).2 tk, obind, if_pos rfl]
          exact j63 1 num' t' num' wd' g2 (by omega) ⟨fun _ => ⟨⟨q'.1, q'.2, (show 0 ≤ Nv B n e1 from hv ▸ y.1), (show Nv B n e1 ≤ nI (L * G) - 1 from hv ▸ y.2)⟩, hv ▸ tk⟩, fun _ => rfl⟩ hx
      · rw [if_neg y, if_pos rfl]
        unfold X5_readCat_j62
        exact j62 (fun t => y (hv ▸ ⟨t.1.2.2.1, t.1.2.2.2⟩))
    · rw [if_neg q]
      unfold X5_readCat_j62
      exact j62 (fun t => q (h2.1.mpr ⟨t.1.1, t.1.2.1⟩))
  unfold m_X5_readCat
  by_cases q : 5 ≤ nc
  · rw [if_pos (show (5 : Int32) ≤ nI nc from nI_le (a := 5) q (by omega))]
    exact j14 0 (by omega) ⟨fun y => by omega, fun y => by omega⟩
  · rw [if_neg (show ¬ (5 : Int32) ≤ nI nc from nI_ge (b := 5) (by omega) (by decide))]
    exact j14 1 (by omega) ⟨fun y => by omega, fun y => rfl⟩

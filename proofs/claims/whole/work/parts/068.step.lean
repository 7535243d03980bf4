/-! STEP: the first of the shortest ways. -/
/-- he is at c at the minute t, 24: before the bridge; d + 1 minutes are left, no fewer would do -/
theorem q_stv {L G t d c z h : Nat} {O : Nat → Nat} (h0 : 0 < L) (hC : L * G ≤ 24) (hG : G ≤ 3) (ht : t + d + 1 ≤ 40) (hc : c < L * G ∨ c = 24) (hl : lf L G O (40 - t) c = d + 1) (hh : h < 9) (hz : z < L * G ∨ z = 24) (hv : lv L G O (lf L G O (39 - t)) t c h = stv O (lf L G O (39 - t)) t z) : lv L G O (lf L G O (39 - t)) t c h = d + 1 ↔ (fr O t z ∧ pth L G O d (t + 1) z) := by
  have e1 : lf L G O (40 - t) c = mnv (lv L G O (lf L G O (39 - t)) t c) 9 := by
    rw [show 40 - t = 39 - t + 1 by omega, lf, if_pos hc, show 40 - (39 - t + 1) = t by omega]
  have hm := mnv_le (v := lv L G O (lf L G O (39 - t)) t c) hh
  rw [← e1, hl] at hm
  obtain ⟨hA, hB⟩ := lf_ok (O := O) h0 hC hG (39 - t) (by omega) z hz
  rw [show 40 - (39 - t) = t + 1 by omega] at hA hB
  rcases stv_fr (O := O) (g := lf L G O (39 - t)) (t := t) (z := z) with ⟨f1, f2⟩ | ⟨f1, f2⟩
  · constructor
    · intro q
      have e2 : lf L G O (39 - t) z = d := by omega
      rcases hA with g | ⟨g1, g2, g3⟩
      · omega
      · rw [e2] at g3; exact ⟨f1, g3⟩
    · rintro ⟨-, q⟩
      have := hB d (by omega) q
      omega
  · constructor
    · intro q; omega
    · rintro ⟨q, -⟩; exact absurd q f1
/-- the code that is chosen -/
def lc (L G : Nat) (O : Nat → Nat) (t c : Nat) : Nat := fm (fun h => decide (lv L G O (lf L G O (39 - t)) t c h = lf L G O (40 - t) c)) 9
def nx (L G c h : Nat) : Nat := if c = 24 then (if h = 8 then 24 else L * (h - 5)) else cb L G c h
def wk (L G : Nat) (O : Nat → Nat) : Nat → Nat × Nat
  | 0 => (24, 8)
  | t + 1 => (nx L G (wk L G O t).1 (lc L G O t (wk L G O t).1), lc L G O t (wk L G O t).1)
theorem lc_spec {L G t d c : Nat} {O : Nat → Nat} (ht : t + d + 1 ≤ 40) (hc : c < L * G ∨ c = 24) (hl : lf L G O (40 - t) c = d + 1) : lc L G O t c < 9 ∧ lv L G O (lf L G O (39 - t)) t c (lc L G O t c) = d + 1 ∧ ∀ j, j < lc L G O t c → ¬ lv L G O (lf L G O (39 - t)) t c j = d + 1 := by
  have e1 : lf L G O (40 - t) c = mnv (lv L G O (lf L G O (39 - t)) t c) 9 := by
    rw [show 40 - t = 39 - t + 1 by omega, lf, if_pos hc, show 40 - (39 - t + 1) = t by omega]
  have hex : ∃ j, j < 9 ∧ lv L G O (lf L G O (39 - t)) t c j = d + 1 := by
    rcases mnv_get (v := lv L G O (lf L G O (39 - t)) t c) 9 with q | ⟨j, hj, q, -⟩
    · omega
    · exact ⟨j, hj, by omega⟩
  have key : ∀ (q : Nat → Bool) (N : Nat), (∃ j, j < N ∧ q j = true) → ∃ k, k < N ∧ q k = true ∧ ∀ j, j < k → q j = false := by
    intro q N
    induction N with
    | zero => rintro ⟨j, hj, -⟩; exact absurd hj (Nat.not_lt_zero j)
    | succ N ih =>
      rintro ⟨j, hj, e⟩
      by_cases z : ∃ j, j < N ∧ q j = true
      · obtain ⟨k, k1, k2, k3⟩ := ih z
        exact ⟨k, by omega, k2, k3⟩
      · have hjN : j = N := by
          rcases Nat.lt_or_ge j N with y | y
          · exact absurd ⟨j, y, e⟩ z
          · omega
        subst hjN
        exact ⟨j, hj, e, fun i hi => by
          rw [← Bool.not_eq_true]
          intro y
          exact z ⟨i, hi, y⟩⟩
  obtain ⟨j, hj, ej⟩ := hex
  obtain ⟨k, k1, k2, k3⟩ := key (fun h => decide (lv L G O (lf L G O (39 - t)) t c h = lf L G O (40 - t) c)) 9 ⟨j, hj, by rw [hl]; exact decide_eq_true ej⟩
  have e2 : lc L G O t c = k := fm_eq k3 k2 k1
  rw [e2]
  rw [hl] at k2 k3
  exact ⟨k1, of_decide_eq_true k2, fun i hi => of_decide_eq_false (k3 i hi)⟩
/-- where the chosen code leads -/
theorem nx_ok {L G t d c : Nat} {O : Nat → Nat} (h0 : 0 < L) (hC : L * G ≤ 24) (hG : G ≤ 3) (ht : t + d + 1 ≤ 40) (hc : c < L * G ∨ c = 24) (hl : lf L G O (40 - t) c = d + 1) :
    (0 < d ∧ (nx L G c (lc L G O t c) < L * G ∨ nx L G c (lc L G O t c) = 24) ∧ lf L G O (39 - t) (nx L G c (lc L G O t c)) = d ∧ (c = 24 → lc L G O t c = 8 ∨ (5 ≤ lc L G O t c ∧ lc L G O t c ≤ 4 + G)) ∧ (c < L * G → lc L G O t c ≤ 4 ∧ ¬ cb L G c (lc L G O t c) = 99)) ∨ (d = 0 ∧ c < L * G ∧ lc L G O t c = 0 ∧ cb L G c 0 = 99) := by
  obtain ⟨c1, c2, -⟩ := lc_spec ht hc hl
  generalize lc L G O t c = h at c1 c2
  have pos : ∀ z, (z < L * G ∨ z = 24) → lf L G O (39 - t) z = d → 0 < d := by
    intro z hz e
    rcases (lf_ok (O := O) h0 hC hG (39 - t) (by omega) z hz).1 with g | ⟨g, -, -⟩ <;> omega
  have st : ∀ z, (z < L * G ∨ z = 24) → stv O (lf L G O (39 - t)) t z = d + 1 → lf L G O (39 - t) z = d := by
    intro z hz e
    rcases stv_fr (O := O) (g := lf L G O (39 - t)) (t := t) (z := z) with ⟨f1, f2⟩ | ⟨f1, f2⟩ <;> omega
  by_cases h24 : c = 24
  · subst h24
    left
    unfold lv at c2
    rw [if_pos rfl] at c2
    unfold nx
    rw [if_pos rfl]
    by_cases q8 : h = 8
    · rw [if_pos q8] at c2 ⊢
      have e : lf L G O (39 - t) 24 = d := by omega
      exact ⟨pos 24 (Or.inr rfl) e, Or.inr rfl, e, fun _ => Or.inl q8, fun q => by omega⟩
    · rw [if_neg q8] at c2 ⊢
      by_cases q5 : 5 ≤ h ∧ h ≤ 4 + G
      · rw [if_pos q5] at c2
        have hz : L * (h - 5) < L * G := Nat.mul_lt_mul_of_pos_left (by omega) h0
        have e := st _ (Or.inl hz) c2
        exact ⟨pos _ (Or.inl hz) e, Or.inl hz, e, fun _ => Or.inr q5, fun q => by omega⟩
      · rw [if_neg q5] at c2; omega
  · have hcC : c < L * G := by omega
    unfold lv at c2
    rw [if_neg h24] at c2
    unfold nx
    rw [if_neg h24]
    by_cases q4 : h ≤ 4
    · rw [if_pos q4] at c2
      by_cases q9 : cb L G c h = 99
      · rw [if_pos q9] at c2
        by_cases q0 : h = 0
        · rw [if_pos q0] at c2
          subst q0
          exact Or.inr ⟨by omega, hcC, rfl, q9⟩
        · rw [if_neg q0] at c2; omega
      · rw [if_neg q9] at c2
        have hz : cb L G c h < L * G := by rcases cb_lt (h := h) h0 hcC with z | z; exact absurd z q9; exact z
        have e := st _ (Or.inl hz) c2
        exact Or.inl ⟨pos _ (Or.inl hz) e, Or.inl hz, e, fun q => absurd q h24, fun _ => ⟨q4, q9⟩⟩
    · rw [if_neg q4] at c2; omega
theorem wk_s {L G t : Nat} {O : Nat → Nat} : wk L G O (t + 1) = (nx L G (wk L G O t).1 (lc L G O t (wk L G O t).1), lc L G O t (wk L G O t).1) := by rw [wk]
theorem wk_0 {L G : Nat} {O : Nat → Nat} : (wk L G O 0).1 = 24 := by rw [wk]
/-- the way goes on as long as minutes are left -/
theorem wk_ok {L G W : Nat} {O : Nat → Nat} (h0 : 0 < L) (hC : L * G ≤ 24) (hG : G ≤ 3) (hW : lf L G O 40 24 = W) (hW2 : W ≤ 40) : ∀ t, t < W → ((wk L G O t).1 < L * G ∨ (wk L G O t).1 = 24) ∧ lf L G O (40 - t) (wk L G O t).1 = W - t := by
  intro t
  induction t with
  | zero =>
    intro _
    rw [wk_0, Nat.sub_zero, Nat.sub_zero]
    exact ⟨Or.inr rfl, hW⟩
  | succ t ih =>
    intro ht
    obtain ⟨i1, i2⟩ := ih (by omega)
    rw [wk_s]
    generalize (wk L G O t).1 = c at i1 i2 ⊢
    have hd : lf L G O (40 - t) c = W - t - 1 + 1 := by rw [i2]; omega
    rcases nx_ok (t := t) (d := W - t - 1) (c := c) h0 hC hG (by omega) i1 hd with ⟨-, a2, a3, -⟩ | ⟨a1, -⟩
    · refine ⟨a2, ?_⟩
      rw [show 40 - (t + 1) = 39 - t by omega, show W - (t + 1) = W - t - 1 by omega]
      exact a3
    · omega
-- ===== the reference's step
theorem e_stepM {L G W i : Nat} {O : Nat → Nat} {tq lq : Nat → Int32} {a b c : Int32} {f e : Nat → Int32} (h0 : 0 < L) (hL : L ≤ 8) (hC : L * G ≤ 24) (hG : G ≤ 3) (hO : ∀ t, O t < 2 ^ 24) (hq : ∀ t, t < 41 → tq t = nI (O t)) (hlq : ∀ t, t ≤ 40 → ∀ z, z ≤ 24 → lq (25 * t + z) = nI (lf L G O (40 - t) z)) (hW : lf L G O 40 24 = W) (hW2 : W ≤ 40) (hi : i < W) :
    ∃ o, lpN (fun (rec : Int32 × Int32 × Int32 → Option (Int32 × Int32 × Int32 × Int32 × (Nat → Int32) × (Nat → Int32) × (Nat → Int32) × (Nat → Int32))) (s : Int32 × Int32 × Int32) => X5_step_f41 (nI i) (nI G) (nI L) tq lq (fun e6 => some (e6, a, b, c, f, e, tq, lq)) (fun r0 r1 r2 => rec (r0, r1, r2)) s.1 s.2.1 s.2.2) fz (24, (-9), 0) = some (nI (wk L G O (i + 1)).2, o) := by
  refine lpUpE _ (i + 1) (fun t s => ∃ x4, s = ((if t < W then nI (wk L G O t).1 else 24), x4, nI t) ∧ (0 < t → x4 = nI (wk L G O t).2)) (fun z => ∃ o, z = some (nI (wk L G O (i + 1)).2, o)) ?_ ?_ (by omega) 0 (by omega) _ ⟨-9, by rw [if_pos (show 0 < W by omega), wk_0]; rfl, fun q => absurd q (Nat.lt_irrefl 0)⟩
  · intro t s rec ht hJ hrec
    obtain ⟨x4, rfl, -⟩ := hJ
    obtain ⟨i1, i2⟩ := wk_ok h0 hC hG hW hW2 t (by omega)
    generalize hcc : (wk L G O t).1 = cc at i1 i2 hrec
    have hwk : wk L G O (t + 1) = (nx L G cc (lc L G O t cc), lc L G O t cc) := by rw [wk_s, hcc]
    rw [if_pos (by omega)]
    dsimp only
    unfold X5_step_f41
    rw [if_neg (fun q => by have := (nI_ltI (by omega) (by omega)).mp q; omega)]
    obtain ⟨k1, k2, k3⟩ := lc_spec (t := t) (d := W - t - 1) (c := cc) (by omega) i1 (by rw [i2]; omega)
    have hlf : lf L G O (40 - t) cc = W - t - 1 + 1 := by rw [i2]; omega
    have hrow := hlq t (by omega) cc (by omega)
    -- the codes are looked at from 8 down: the last that fits is the least
    refine lpUpE _ 9 (fun j s => s.2 = xr (9 - j) ∧ (9 - j ≤ lc L G O t cc → s.1 = nI (lc L G O t cc))) (fun z => ∃ o, z = some (nI (wk L G O (i + 1)).2, o)) ?_ ?_ (by decide) 0 (by decide) _ ⟨rfl, fun q => absurd q (by omega)⟩
    · intro j s rec2 hj hJ2 hrec2
      obtain ⟨y1, y2⟩ := s
      obtain ⟨z1, z2⟩ := hJ2
      dsimp only at z1 z2 ⊢
      subst z1
      have hx : xr (9 - j) = nI (8 - j) := by unfold xr; rw [if_neg (by omega), show 9 - j - 1 = 8 - j by omega]
      have hx2 : nI (8 - j) + (-1) = xr (9 - (j + 1)) := by
        have := xr_dec (r := 9 - j) (by omega) (by omega)
        rw [show 9 - j - 1 = 8 - j by omega] at this
        rw [this, show 9 - (j + 1) = 8 - j by omega]
      unfold X5_step_f55
      rw [hx, if_neg (nI_lt0 (by omega)), e_leftBy (g := lf L G O (39 - t)) h0 hL hC hG (by omega) i1 (by omega) hO hq (fun z hz => by
        have := hlq (t + 1) (by omega) z hz
        rwa [show 40 - (t + 1) = 39 - t by omega] at this), obind, m25, nI_add, ld_ok (by omega) (by decide), hrow]
      have hl2 := lv_le (L := L) (G := G) (t := t) (c := cc) (h := 8 - j) (O := O) (g := lf L G O (39 - t)) (fun z => lf_top)
      unfold X5_step_j91
      rw [hx2]
      by_cases q : lv L G O (lf L G O (39 - t)) t cc (8 - j) = lf L G O (40 - t) cc
      · rw [if_pos (by rw [q])]
        refine hrec2 _ ⟨rfl, fun h => ?_⟩
        have : ¬ 8 - j < lc L G O t cc := fun z => k3 _ z (by rw [q, hlf])
        show nI (8 - j) = nI (lc L G O t cc)
        rw [show 8 - j = lc L G O t cc by omega]
      · rw [if_neg (fun z => q ((nI_eq (by omega) (by omega)).mp z))]
        refine hrec2 _ ⟨rfl, fun h => z2 ?_⟩
        have : ¬ 8 - j = lc L G O t cc := fun z => q (by rw [z, k2, hlf])
        omega
    · intro s rec2 hJ2
      obtain ⟨y1, y2⟩ := s
      obtain ⟨z1, z2⟩ := hJ2
      dsimp only at z1 z2 ⊢
      subst z1
      have z3 := z2 (by omega)
      subst z3
      unfold X5_step_f55
      rw [show xr (9 - 9) = -1 from rfl, if_pos (by decide)]
      dsimp only
      rcases nx_ok (t := t) (d := W - t - 1) (c := cc) h0 hC hG (by omega) i1 hlf with ⟨a1, a2, a3, a4, a5⟩ | ⟨a1, a2, a3, a4⟩
      · have go : ∀ z : Int32, z = nI (nx L G cc (lc L G O t cc)) → ∃ o, X5_step_j136 (fun r0 r1 r2 => rec (r0, r1, r2)) (nI (lc L G O t cc)) (nI t) z = some (nI (wk L G O (i + 1)).2, o) := by
          intro z hz
          subst hz
          unfold X5_step_j136
          rw [nI_1]
          refine hrec _ ⟨nI (lc L G O t cc), ?_, fun _ => by rw [hwk]⟩
          rw [if_pos (by omega), hwk]
        by_cases h24 : cc = 24
        · rw [if_pos ((eq24 (by omega)).mpr h24)]
          rcases a4 h24 with e8 | e5
          · rw [if_pos ((eq8 (by omega)).mpr e8)]
            refine go _ ?_
            unfold nx; rw [if_pos h24, if_pos e8]; rfl
          · rw [if_neg (fun q => by have := (eq8 (by omega)).mp q; omega), s5 e5.1, nI_mul]
            refine go _ ?_
            unfold nx; rw [if_pos h24, if_neg (by omega)]
        · have hcC : cc < L * G := by omega
          obtain ⟨b1, b2⟩ := a5 hcC
          rw [if_neg (fun q => h24 ((eq24 (by omega)).mp q)), e_comesTo h0 hL hC hcC b1, obind]
          refine go _ ?_
          unfold cbM nx; rw [if_neg b2, if_neg h24]
      · rw [if_neg (fun q => by have := (eq24 (by omega)).mp q; omega), a3, show nI 0 = nI 0 from rfl, e_comesTo h0 hL hC a2 (by decide), obind]
        unfold cbM X5_step_j136
        rw [if_pos a4, if_pos (Or.inl rfl), nI_1]
        refine hrec _ ⟨nI 0, ?_, fun _ => by rw [hwk, a3]⟩
        rw [if_neg (by omega)]
  · intro s rec hJ
    obtain ⟨x4, rfl, hx4⟩ := hJ
    dsimp only
    unfold X5_step_f41
    rw [if_pos ((nI_ltI (by omega) (by omega)).mpr (Nat.lt_succ_self i)), hx4 (by omega)]
    exact ⟨_, rfl⟩

/-! WAYS, MARKS: pushing and pulling count the same. -/
def wv (L G : Nat) (O : Nat → Nat) (set t i : Nat) : Nat := if i < 384 then NN L G O set t (i / 16) (i % 16) else if i = 384 then 1 else 0
theorem sm_split {f : Nat → Nat} : ∀ a, sm f (a * 16) = sm (fun p => sm (fun s => f (16 * p + s)) 16) a
  | 0 => by rw [Nat.zero_mul]; rfl
  | a + 1 => by
    have key : ∀ b, sm f (a * 16 + b) = sm f (a * 16) + sm (fun s => f (16 * a + s)) b := by
      intro b
      induction b with
      | zero => rfl
      | succ b ih => rw [← Nat.add_assoc, sm, ih, sm, Nat.add_assoc, Nat.mul_comm a 16]
    rw [Nat.add_mul, Nat.one_mul, key 16, sm_split a]
    rfl
theorem sm_if {p : Prop} [Decidable p] {f : Nat → Nat} {n : Nat} : sm (fun i => if p then f i else 0) n = if p then sm f n else 0 := by
  by_cases h : p
  · rw [if_pos h]; exact sm_congr (fun i _ => if_pos h)
  · rw [if_neg h]; exact sm_zero (fun i _ => if_neg h)
theorem nn_out {L G set t c s : Nat} {O : Nat → Nat} (hc : L * G ≤ c) : NN L G O set t c s = 0 := by
  cases t with
  | zero => rfl
  | succ t =>
    show (if c < L * G ∧ (O t ||| O (t + 1)).testBit c = false then _ else 0) = 0
    rw [if_neg (fun z => by omega)]
def rev (h : Nat) : Nat := if h = 0 then 3 else if h = 1 then 2 else if h = 2 then 1 else if h = 3 then 0 else 4
theorem cb0 {L G a : Nat} : cb L G a 0 = if L ≤ a % L + 1 then 99 else a + 1 := by unfold cb; rw [if_pos rfl]
theorem cb1 {L G a : Nat} : cb L G a 1 = if a < L then 99 else a - L := by unfold cb; rw [if_neg (by decide), if_pos rfl]
theorem cb2 {L G a : Nat} : cb L G a 2 = if L * G ≤ a + L then 99 else a + L := by unfold cb; rw [if_neg (by decide), if_neg (by decide), if_pos rfl]
theorem cb3 {L G a : Nat} : cb L G a 3 = if a % L = 0 then 99 else a - 1 := by unfold cb; rw [if_neg (by decide), if_neg (by decide), if_neg (by decide), if_pos rfl]
theorem cb4 {L G a : Nat} : cb L G a 4 = a := by unfold cb; rw [if_neg (by decide), if_neg (by decide), if_neg (by decide), if_neg (by decide)]
theorem cb_rev {L G c z h : Nat} (h0 : 0 < L) (hC : L * G ≤ 24) (hc : c < L * G) (hz : z < L * G) (hh : h ≤ 4) : cb L G c h = z ↔ cb L G z (rev h) = c := by
  have h3 : c % L < L := Nat.mod_lt _ h0
  have h4 : z % L < L := Nat.mod_lt _ h0
  have h5 := Nat.div_add_mod c L
  have h6 := Nat.div_add_mod z L
  have up : ∀ a, a % L + 1 < L → (a + 1) % L = a % L + 1 := fun a q => by
    conv => lhs; rw [← Nat.div_add_mod a L, Nat.add_assoc, Nat.mul_add_mod, Nat.mod_eq_of_lt q]
  have dn : ∀ a, 0 < a % L → (a - 1) % L = a % L - 1 := fun a q => by
    have q1 := Nat.div_add_mod a L
    have q2 : a % L < L := Nat.mod_lt _ h0
    have q3 : a - 1 = L * (a / L) + (a % L - 1) := by omega
    rw [q3, Nat.mul_add_mod, Nat.mod_eq_of_lt (by omega)]
  rcases (show h = 0 ∨ h = 1 ∨ h = 2 ∨ h = 3 ∨ h = 4 by omega) with e | e | e | e | e <;> subst e
  · rw [show rev 0 = 3 from rfl, cb0, cb3]
    constructor
    · intro q
      split at q
      · omega
      · have := up c (by omega)
        rw [← q, if_neg (by omega)]; omega
    · intro q
      split at q
      · omega
      · have := dn z (by omega)
        have hzl : z % L ≤ z := Nat.mod_le _ _
        rw [← q, if_neg (by omega)]; omega
  · rw [show rev 1 = 2 from rfl, cb1, cb2]
    constructor
    · intro q; split at q
      · omega
      · rw [if_neg (by omega)]; omega
    · intro q; split at q
      · omega
      · rw [if_neg (by omega)]; omega
  · rw [show rev 2 = 1 from rfl, cb1, cb2]
    constructor
    · intro q; split at q
      · omega
      · rw [if_neg (by omega)]; omega
    · intro q; split at q
      · omega
      · rw [if_neg (by omega)]; omega
  · rw [show rev 3 = 0 from rfl, cb0, cb3]
    constructor
    · intro q
      split at q
      · omega
      · have := dn c (by omega)
        have hcl : c % L ≤ c := Nat.mod_le _ _
        rw [← q, if_neg (by omega)]; omega
    · intro q
      split at q
      · omega
      · have := up z (by omega)
        rw [← q, if_neg (by omega)]; omega
  · rw [show rev 4 = 4 from rfl, cb4, cb4]
    exact ⟨fun q => q.symm, fun q => q.symm⟩
/-- what comes to z from the cells -/
theorem pull_cells {L G z : Nat} {f : Nat → Nat} (h0 : 0 < L) (hC : L * G ≤ 24) (hz : z < L * G) (hf : ∀ c, L * G ≤ c → f c = 0) : sm (fun pl => sm (fun h => if tgt L G pl h = z then f pl else 0) 9) 24 = sm (fun h => if cb L G z h = 99 then 0 else f (cb L G z h)) 5 := by
  rw [sm_swap]
  have e1 : ∀ h, h ≤ 4 → sm (fun pl => if tgt L G pl h = z then f pl else 0) 24 = if cb L G z (rev h) = 99 then 0 else f (cb L G z (rev h)) := by
    intro h hh
    have hr : rev h ≤ 4 := by unfold rev; repeat (first | omega | split)
    have only : ∀ pl, pl < 24 → (if tgt L G pl h = z then f pl else 0) = if pl < L * G ∧ cb L G z (rev h) = pl then f pl else 0 := by
      intro pl hpl
      by_cases hp : pl < L * G
      · have e := cb_rev (h := h) h0 hC hp hz hh
        have et : tgt L G pl h = z ↔ cb L G pl h = z := by
          unfold tgt
          rw [if_neg (by omega), if_pos hh]
          by_cases q : cb L G pl h = 99
          · rw [if_pos q, q]
            constructor
            · intro y; split at y <;> omega
            · intro y; omega
          · rw [if_neg q]
        by_cases q : cb L G pl h = z
        · rw [if_pos (et.mpr q), if_pos ⟨hp, e.mp q⟩]
        · rw [if_neg (fun y => q (et.mp y)), if_neg (fun y => q (e.mpr y.2))]
      · rw [hf pl (by omega)]; split <;> split <;> rfl
    rw [sm_congr only]
    by_cases q : cb L G z (rev h) = 99
    · rw [if_pos q, sm_zero (fun i hi => if_neg (fun y => by omega))]
    · have hb : cb L G z (rev h) < L * G := by rcases cb_lt (h := rev h) h0 hz with y | y; exact absurd y q; exact y
      rw [if_neg q, sm_one (a := cb L G z (rev h)) (by omega) (fun i hi hne => if_neg (fun y => hne y.2.symm)), if_pos ⟨hb, rfl⟩]
  have e2 : ∀ h, 4 < h → sm (fun pl => if tgt L G pl h = z then f pl else 0) 24 = 0 := fun h hh => sm_zero (fun pl hpl => if_neg (fun y => by
    unfold tgt at y
    rw [if_neg (by omega), if_neg (by omega)] at y
    omega))
  have e3 : sm (fun h => sm (fun pl => if tgt L G pl h = z then f pl else 0) 24) 9 = sm (fun h => sm (fun pl => if tgt L G pl h = z then f pl else 0) 24) 5 := by
    show sm _ (5 + 4) = _
    show sm (fun h => sm (fun pl => if tgt L G pl h = z then f pl else 0) 24) 5 + sm (fun pl => if tgt L G pl 5 = z then f pl else 0) 24 + sm (fun pl => if tgt L G pl 6 = z then f pl else 0) 24 + sm (fun pl => if tgt L G pl 7 = z then f pl else 0) 24 + sm (fun pl => if tgt L G pl 8 = z then f pl else 0) 24 = _
    rw [e2 5 (by decide), e2 6 (by decide), e2 7 (by decide), e2 8 (by decide)]
    rfl
  rw [e3, sm_congr (fun h hh => e1 h (by omega))]
  show 0 + (if cb L G z 3 = 99 then 0 else f (cb L G z 3)) + (if cb L G z 2 = 99 then 0 else f (cb L G z 2)) + (if cb L G z 1 = 99 then 0 else f (cb L G z 1)) + (if cb L G z 0 = 99 then 0 else f (cb L G z 0)) + (if cb L G z 4 = 99 then 0 else f (cb L G z 4)) = 0 + (if cb L G z 0 = 99 then 0 else f (cb L G z 0)) + (if cb L G z 1 = 99 then 0 else f (cb L G z 1)) + (if cb L G z 2 = 99 then 0 else f (cb L G z 2)) + (if cb L G z 3 = 99 then 0 else f (cb L G z 3)) + (if cb L G z 4 = 99 then 0 else f (cb L G z 4))
  omega
/-- from before the bridge one comes to the cells of the first column, by one code each -/
theorem pull_out {L G z v : Nat} (h0 : 0 < L) (hG : G ≤ 3) (hz : z < L * G) (hC : L * G ≤ 24) : sm (fun h => if tgt L G 24 h = z then v else 0) 9 = if z % L = 0 then v else 0 := by
  have et : ∀ h, h < 9 → (tgt L G 24 h = z ↔ (5 ≤ h ∧ h ≤ 4 + G ∧ L * (h - 5) = z)) := by
    intro h hh
    unfold tgt
    rw [if_pos rfl]
    by_cases q8 : h = 8
    · rw [if_pos q8]; constructor
      · intro y; omega
      · rintro ⟨y1, y2, y3⟩; omega
    · rw [if_neg q8]
      by_cases q5 : 5 ≤ h ∧ h ≤ 4 + G
      · rw [if_pos q5]; exact ⟨fun y => ⟨q5.1, q5.2, y⟩, fun y => y.2.2⟩
      · rw [if_neg q5]; constructor
        · intro y; omega
        · rintro ⟨y1, y2, y3⟩; exact absurd ⟨y1, y2⟩ q5
  by_cases q : z % L = 0
  · have h3 := Nat.div_add_mod z L
    have hr : z / L < G := Nat.div_lt_of_lt_mul hz
    generalize hd : z / L = d at h3 hr
    rw [if_pos q, sm_one (a := 5 + d) (by omega) (fun i hi hne => if_neg (fun y => by
      obtain ⟨y1, y2, y3⟩ := (et i hi).mp y
      apply hne
      have : d = i - 5 := by rw [← hd, ← y3]; exact Nat.mul_div_cancel_left _ h0
      omega)), if_pos ((et _ (by omega)).mpr ⟨by omega, by omega, by rw [show 5 + d - 5 = d by omega]; omega⟩)]
  · rw [if_neg q]
    refine sm_zero (fun h hh => if_neg (fun y => q ?_))
    obtain ⟨-, -, y3⟩ := (et h hh).mp y
    rw [← y3]; exact Nat.mul_mod_right _ _

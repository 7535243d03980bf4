/-! WAYS, MARKS: the reference's table minute by minute, and the calls. -/
theorem ti_lt {L G set t pl s h i : Nat} {O : Nat → Nat} (hs : s < 16) (hmk : ∀ c, c < 24 → s ||| mkc set c < 16) (hi : i < 384) : ti L G O set t pl s h = i ↔ (tgt L G pl h = i / 16 ∧ (O t ||| O (t + 1)).testBit (i / 16) = false ∧ s ||| mkc set (i / 16) = i % 16) := by
  unfold ti
  by_cases h24 : tgt L G pl h = 24
  · rw [if_pos h24]; constructor
    · intro y; omega
    · rintro ⟨y, -⟩; omega
  · rw [if_neg h24]
    by_cases q : tgt L G pl h < 24 ∧ (O t ||| O (t + 1)).testBit (tgt L G pl h) = false
    · rw [if_pos q]
      have := hmk _ q.1
      constructor
      · intro y
        have e : tgt L G pl h = i / 16 := by omega
        rw [e] at q y
        exact ⟨e, q.2, by omega⟩
      · rintro ⟨y1, y2, y3⟩
        rw [y1, y3]; omega
    · rw [if_neg q]; constructor
      · intro y; omega
      · rintro ⟨y1, y2, -⟩
        exact absurd ⟨by omega, by rw [y1]; exact y2⟩ q
theorem ti_ge {L G set t pl s h i : Nat} {O : Nat → Nat} (hmk : ∀ c, c < 24 → s ||| mkc set c < 16) (hi : 384 ≤ i) (hi2 : i < 400) : ti L G O set t pl s h = i ↔ (tgt L G pl h = 24 ∧ 384 + s = i) := by
  unfold ti
  by_cases h24 : tgt L G pl h = 24
  · rw [if_pos h24]; exact ⟨fun y => ⟨h24, y⟩, fun y => y.2⟩
  · rw [if_neg h24]
    by_cases q : tgt L G pl h < 24 ∧ (O t ||| O (t + 1)).testBit (tgt L G pl h) = false
    · have := hmk _ q.1
      rw [if_pos q]; exact ⟨fun y => by omega, fun y => absurd y.1 h24⟩
    · rw [if_neg q]; exact ⟨fun y => by omega, fun y => absurd y.1 h24⟩
theorem tgt_24 {L G pl h : Nat} (h0 : 0 < L) (hC : L * G ≤ 24) (hpl : pl < L * G ∨ pl = 24) : tgt L G pl h = 24 ↔ (pl = 24 ∧ h = 8) := by
  unfold tgt
  by_cases q : pl = 24
  · rw [if_pos q]
    by_cases q8 : h = 8
    · rw [if_pos q8]; exact ⟨fun _ => ⟨q, q8⟩, fun _ => rfl⟩
    · rw [if_neg q8]
      by_cases q5 : 5 ≤ h ∧ h ≤ 4 + G
      · have hz : L * (h - 5) < L * G := Nat.mul_lt_mul_of_pos_left (by omega) h0
        rw [if_pos q5]; exact ⟨fun y => by omega, fun y => absurd y.2 q8⟩
      · rw [if_neg q5]; exact ⟨fun y => by omega, fun y => absurd y.2 q8⟩
  · have hcC : pl < L * G := by omega
    rw [if_neg q]
    by_cases q4 : h ≤ 4
    · rw [if_pos q4]
      by_cases q9 : cb L G pl h = 99
      · rw [if_pos q9]; exact ⟨fun y => by split at y <;> omega, fun y => absurd y.1 q⟩
      · have hz : cb L G pl h < L * G := by rcases cb_lt (h := h) h0 hcC with z | z; exact absurd z q9; exact z
        rw [if_neg q9]; exact ⟨fun y => by omega, fun y => absurd y.1 q⟩
    · rw [if_neg q4]; exact ⟨fun y => by omega, fun y => absurd y.1 q⟩
def vs (L G : Nat) (O : Nat → Nat) (set t pl s : Nat) : Nat := if pl = 24 then (if s = 0 then 1 else 0) else NN L G O set t pl s
theorem vs_24 {L G set t s : Nat} {O : Nat → Nat} : vs L G O set t 24 s = if s = 0 then 1 else 0 := by unfold vs; rw [if_pos rfl]
theorem vs_in {L G set t pl s : Nat} {O : Nat → Nat} (h : ¬ pl = 24) : vs L G O set t pl s = NN L G O set t pl s := by unfold vs; rw [if_neg h]
theorem sm_s {f : Nat → Nat} {n : Nat} : sm f (n + 1) = sm f n + f n := rfl
theorem wv_0 {L G set t pl s : Nat} {O : Nat → Nat} (hpl : pl < 25) (hs : s < 16) : wv L G O set t (16 * pl + s) = vs L G O set t pl s := by
  unfold wv vs
  by_cases q : pl = 24
  · rw [if_pos q, if_neg (by omega)]
    by_cases y : s = 0
    · rw [if_pos y, if_pos (by omega)]
    · rw [if_neg y, if_neg (by omega)]
  · rw [if_neg q, if_pos (by omega), show (16 * pl + s) / 16 = pl by omega, show (16 * pl + s) % 16 = s by omega]
/-- the sum of all that is pushed to i -/
theorem push_sum {L G set t i : Nat} {O : Nat → Nat} (h0 : 0 < L) (hC : L * G ≤ 24) (hG : G ≤ 3) (hp : exn set 0 24 ≤ 4) (hi : i < 400) : sm (fun j => sm (fun h => if ti L G O set t (j / 16) (j % 16) h = i then wv L G O set t j else 0) 9) 400 = wv L G O set (t + 1) i := by
  have hp16 := pop4 hp
  have hpp := Nat.two_pow_pos (exn set 0 24)
  rw [show 400 = 25 * 16 from rfl, sm_split]
  have e0 : ∀ pl, pl < 25 → sm (fun s => sm (fun h => if ti L G O set t ((16 * pl + s) / 16) ((16 * pl + s) % 16) h = i then wv L G O set t (16 * pl + s) else 0) 9) 16 = sm (fun s => sm (fun h => if ti L G O set t pl s h = i then vs L G O set t pl s else 0) 9) 16 := fun pl hpl => sm_congr (fun s hs => by
    rw [show (16 * pl + s) / 16 = pl by omega, show (16 * pl + s) % 16 = s by omega, wv_0 hpl hs])
  rw [sm_congr e0]
  have hmk : ∀ s, s < 2 ^ exn set 0 24 → ∀ c, c < 24 → s ||| mkc set c < 16 := fun s hs c hc => Nat.lt_of_lt_of_le (or_lt16 hs hc) hp16
  -- marks beyond those of the set are never seen
  have big : ∀ pl s, 2 ^ exn set 0 24 ≤ s → s < 16 → pl < 25 → vs L G O set t pl s = 0 := by
    intro pl s hs hs2 hpl
    by_cases q : pl = 24
    · rw [q, vs_24, if_neg (by omega)]
    · rw [vs_in q]; exact nn_zero (by omega) hs t
  by_cases hi3 : i < 384
  · have e1 : ∀ pl, pl < 25 → ∀ s, s < 16 → sm (fun h => if ti L G O set t pl s h = i then vs L G O set t pl s else 0) 9 = if (O t ||| O (t + 1)).testBit (i / 16) = false ∧ s ||| mkc set (i / 16) = i % 16 then sm (fun h => if tgt L G pl h = i / 16 then vs L G O set t pl s else 0) 9 else 0 := by
      intro pl hpl s hs
      by_cases hs2 : s < 2 ^ exn set 0 24
      · rw [← sm_if]
        refine sm_congr (fun h _ => ?_)
        have e := ti_lt (L := L) (G := G) (t := t) (pl := pl) (h := h) (O := O) hs (hmk s hs2) hi3
        by_cases q : ti L G O set t pl s h = i
        · obtain ⟨y1, y2, y3⟩ := e.mp q
          rw [if_pos q, if_pos ⟨y2, y3⟩, if_pos y1]
        · rw [if_neg q]
          by_cases y : (O t ||| O (t + 1)).testBit (i / 16) = false ∧ s ||| mkc set (i / 16) = i % 16
          · rw [if_pos y, if_neg (fun z => q (e.mpr ⟨z, y.1, y.2⟩))]
          · rw [if_neg y]
      · rw [big pl s (by omega) hs hpl, sm_zero (fun _ _ => by split <;> rfl), sm_zero (fun _ _ => by split <;> rfl)]
        split <;> rfl
    rw [sm_congr (fun pl hpl => sm_congr (fun s hs => e1 pl hpl s hs)), sm_swap]
    have ew : wv L G O set (t + 1) i = NN L G O set (t + 1) (i / 16) (i % 16) := by unfold wv; rw [if_pos hi3]
    rw [ew]
    by_cases hzC : i / 16 < L * G
    · have e2 : ∀ s, s < 16 → sm (fun pl => if (O t ||| O (t + 1)).testBit (i / 16) = false ∧ s ||| mkc set (i / 16) = i % 16 then sm (fun h => if tgt L G pl h = i / 16 then vs L G O set t pl s else 0) 9 else 0) 25 = if (O t ||| O (t + 1)).testBit (i / 16) = false ∧ s ||| mkc set (i / 16) = i % 16 then com L G (NN L G O set t) (i / 16) s else 0 := by
        intro s hs
        rw [sm_if]
        have e3 : sm (fun pl => sm (fun h => if tgt L G pl h = i / 16 then vs L G O set t pl s else 0) 9) 25 = com L G (NN L G O set t) (i / 16) s := by
          rw [show (25 : Nat) = 24 + 1 from rfl, sm_s, sm_congr (g := fun pl => sm (fun h => if tgt L G pl h = i / 16 then NN L G O set t pl s else 0) 9) (fun pl hpl => sm_congr (fun h _ => by rw [vs_in (show ¬ pl = 24 by omega)])), pull_cells (f := fun c => NN L G O set t c s) h0 hC hzC (fun c hc => nn_out hc), vs_24, pull_out h0 hG hzC hC]
          unfold com
          have e4 : (if (i / 16) % L = 0 then (if s = 0 then 1 else 0) else 0) = if s = 0 ∧ (i / 16) % L = 0 then 1 else 0 := by
            by_cases a1 : (i / 16) % L = 0
            · rw [if_pos a1]
              by_cases a2 : s = 0
              · rw [if_pos a2, if_pos ⟨a2, a1⟩]
              · rw [if_neg a2, if_neg (fun z => a2 z.1)]
            · rw [if_neg a1, if_neg (fun z => a1 z.2)]
          rw [e4, Nat.add_comm]
        rw [e3]
      rw [sm_congr e2]
      show _ = if i / 16 < L * G ∧ (O t ||| O (t + 1)).testBit (i / 16) = false then sm (fun s => if s ||| mkc set (i / 16) = i % 16 then com L G (NN L G O set t) (i / 16) s else 0) (2 ^ exn set 0 24) else 0
      by_cases y : (O t ||| O (t + 1)).testBit (i / 16) = false
      · rw [if_pos ⟨hzC, y⟩]
        have hsum : ∀ f : Nat → Nat, (∀ s, 2 ^ exn set 0 24 ≤ s → f s = 0) → sm f 16 = sm f (2 ^ exn set 0 24) := fun f hf => by
          have := sm_ext (f := f) (16 - 2 ^ exn set 0 24) hf
          rwa [show 2 ^ exn set 0 24 + (16 - 2 ^ exn set 0 24) = 16 by omega] at this
        rw [hsum _ (fun s hs => by
          have hcom : com L G (NN L G O set t) (i / 16) s = 0 := by
            unfold com
            rw [if_neg (fun z => by have := z.1; omega), sm_zero (fun h hh => by
              by_cases q9 : cb L G (i / 16) h = 99
              · rw [if_pos q9]
              · have hz : cb L G (i / 16) h < L * G := by rcases cb_lt (h := h) h0 hzC with z | z; exact absurd z q9; exact z
                rw [if_neg q9]; exact nn_zero (by omega) hs t)]
          rw [hcom]; split <;> rfl)]
        exact sm_congr (fun s _ => by
          by_cases q : s ||| mkc set (i / 16) = i % 16
          · rw [if_pos ⟨y, q⟩, if_pos q]
          · rw [if_neg (fun z => q z.2), if_neg q])
      · rw [if_neg (fun z => y z.2)]
        exact sm_zero (fun s _ => if_neg (fun z => y z.1))
    · rw [nn_out (by omega)]
      refine sm_zero (fun s hs => sm_zero (fun pl hpl => ?_))
      rw [sm_zero (fun h _ => ?_)]
      · split <;> rfl
      · by_cases q : pl < L * G ∨ pl = 24
        · refine if_neg (fun y => ?_)
          unfold tgt at y
          split at y
          · split at y
            · omega
            · split at y
              · rename_i _ _ q5
                have hz : L * (h - 5) < L * G := Nat.mul_lt_mul_of_pos_left (by omega) h0
                omega
              · omega
          · split at y
            · split at y
              · split at y <;> omega
              · rename_i hh9
                rcases cb_lt (h := h) h0 (show pl < L * G by omega) with z | z
                · exact hh9 z
                · omega
            · omega
        · rw [vs_in (show ¬ pl = 24 by omega), nn_out (by omega)]; split <;> rfl
  · have ew : wv L G O set (t + 1) i = if i = 384 then 1 else 0 := by unfold wv; rw [if_neg hi3]
    rw [ew]
    have e1 : ∀ pl, pl < 25 → ∀ s, s < 16 → sm (fun h => if ti L G O set t pl s h = i then vs L G O set t pl s else 0) 9 = if pl = 24 ∧ s = 0 ∧ i = 384 then 1 else 0 := by
      intro pl hpl s hs
      by_cases hs2 : s < 2 ^ exn set 0 24
      · by_cases q : pl < L * G ∨ pl = 24
        · have e : ∀ h, (ti L G O set t pl s h = i ↔ ((pl = 24 ∧ h = 8) ∧ 384 + s = i)) := fun h => by
            rw [ti_ge (hmk s hs2) (by omega) hi, tgt_24 h0 hC q]
          by_cases y : pl = 24 ∧ 384 + s = i
          · rw [sm_one (a := 8) (by decide) (fun h _ hne => if_neg (fun z => hne ((e h).mp z).1.2)), if_pos ((e 8).mpr ⟨⟨y.1, rfl⟩, y.2⟩), y.1, vs_24]
            by_cases s0 : s = 0
            · rw [if_pos s0, if_pos ⟨rfl, s0, by omega⟩]
            · rw [if_neg s0, if_neg (fun z => s0 z.2.1)]
          · rw [sm_zero (fun h _ => if_neg (fun z => y ⟨((e h).mp z).1.1, ((e h).mp z).2⟩)), if_neg (fun z => y ⟨z.1, by omega⟩)]
        · rw [if_neg (show ¬ (pl = 24 ∧ s = 0 ∧ i = 384) by omega)]
          refine sm_zero (fun h _ => ?_)
          rw [vs_in (show ¬ pl = 24 by omega), nn_out (by omega)]; split <;> rfl
      · rw [big pl s (by omega) hs hpl, sm_zero (fun _ _ => by split <;> rfl), if_neg (fun z => by omega)]
    rw [sm_congr (fun pl hpl => sm_congr (fun s hs => e1 pl hpl s hs)), sm_one (a := 24) (by decide) (fun pl _ hne => sm_zero (fun s _ => if_neg (fun z => hne z.1))), sm_one (a := 0) (by decide) (fun s _ hne => if_neg (fun z => hne z.2.1))]
    by_cases q : i = 384
    · rw [if_pos ⟨rfl, rfl, q⟩, if_pos q]
    · rw [if_neg (fun z => q z.2.2), if_neg q]

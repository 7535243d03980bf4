/-! WAYS, MARKS: the reference's count. -/
theorem sm_app {f : Nat → Nat} {a : Nat} : ∀ b, sm f (a + b) = sm f a + sm (fun i => f (a + i)) b
  | 0 => rfl
  | b + 1 => by rw [← Nat.add_assoc, sm_s, sm_app b, sm_s, Nat.add_assoc]
theorem sm_col {L : Nat} {f : Nat → Nat} (h0 : 0 < L) : ∀ G, sm (fun c => if L ≤ c % L + 1 then f c else 0) (L * G) = sm (fun r => f (r * L + L - 1)) G
  | 0 => rfl
  | G + 1 => by
    rw [Nat.mul_add, Nat.mul_one, sm_app, sm_col h0 G, sm_s]
    have e : ∀ b, b < L → (L * G + b) % L = b := fun b hb => by rw [Nat.mul_add_mod, Nat.mod_eq_of_lt hb]
    rw [sm_one (a := L - 1) (by omega) (fun i hi hne => if_neg (by rw [e i hi]; omega)), if_pos (by rw [e (L - 1) (by omega)]; omega), Nat.mul_comm G L, show L * G + L - 1 = L * G + (L - 1) by omega]
def tot (L G : Nat) (O : Nat → Nat) (set t : Nat) (j : Nat) : Nat := if tgt L G (j / 16) 0 = 99 ∧ j % 16 = 2 ^ exn set 0 24 - 1 then wv L G O set t j else 0
theorem tot_wans {L G set n : Nat} {O : Nat → Nat} (h0 : 0 < L) (hC : L * G ≤ 24) (hp : exn set 0 24 ≤ 4) (hn : 1 ≤ n) : sm (tot L G O set (n - 1)) 400 = wans L G O set n := by
  have hp16 := pop4 hp
  have hpp := Nat.two_pow_pos (exn set 0 24)
  rw [show 400 = 25 * 16 from rfl, sm_split]
  have e1 : ∀ pl, pl < 25 → sm (fun s => tot L G O set (n - 1) (16 * pl + s)) 16 = if tgt L G pl 0 = 99 then vs L G O set (n - 1) pl (2 ^ exn set 0 24 - 1) else 0 := by
    intro pl hpl
    have e2 : ∀ s, s < 16 → tot L G O set (n - 1) (16 * pl + s) = if tgt L G pl 0 = 99 ∧ s = 2 ^ exn set 0 24 - 1 then vs L G O set (n - 1) pl s else 0 := fun s hs => by
      unfold tot
      rw [show (16 * pl + s) / 16 = pl by omega, show (16 * pl + s) % 16 = s by omega, wv_0 hpl hs]
    rw [sm_congr e2, sm_one (a := 2 ^ exn set 0 24 - 1) (by omega) (fun s hs hne => if_neg (fun z => hne z.2))]
    by_cases q : tgt L G pl 0 = 99
    · rw [if_pos ⟨q, rfl⟩, if_pos q]
    · rw [if_neg (fun z => q z.1), if_neg q]
  rw [sm_congr e1, show (25 : Nat) = 24 + 1 from rfl, sm_s, if_neg (show ¬ tgt L G 24 0 = 99 by unfold tgt; rw [if_pos rfl, if_neg (by decide), if_neg (by omega)]; decide), Nat.add_zero]
  have e3 : ∀ pl, pl < 24 → (if tgt L G pl 0 = 99 then vs L G O set (n - 1) pl (2 ^ exn set 0 24 - 1) else 0) = if L ≤ pl % L + 1 then NN L G O set (n - 1) pl (2 ^ exn set 0 24 - 1) else 0 := by
    intro pl hpl
    rw [vs_in (show ¬ pl = 24 by omega)]
    have et : tgt L G pl 0 = 99 ↔ (L ≤ pl % L + 1 ∨ pl = 98) := by
      unfold tgt
      rw [if_neg (by omega), if_pos (by decide), cb0]
      by_cases q : L ≤ pl % L + 1
      · rw [if_pos q, if_pos rfl, if_pos rfl]; exact ⟨fun _ => Or.inl q, fun _ => rfl⟩
      · rw [if_neg q]
        by_cases y : pl + 1 = 99
        · omega
        · rw [if_neg y]; exact ⟨fun z => absurd z y, fun z => by omega⟩
    by_cases q : L ≤ pl % L + 1
    · rw [if_pos (et.mpr (Or.inl q)), if_pos q]
    · rw [if_neg (fun z => by rcases et.mp z with y | y <;> omega), if_neg q]
  rw [sm_congr e3]
  unfold wans
  rw [← sm_col (f := fun c => NN L G O set (n - 1) c (2 ^ exn set 0 24 - 1)) h0 G]
  have := sm_ext (f := fun c => if L ≤ c % L + 1 then NN L G O set (n - 1) c (2 ^ exn set 0 24 - 1) else 0) (a := L * G) (24 - L * G) (fun c hc => by rw [nn_out hc]; split <;> rfl)
  rwa [show L * G + (24 - L * G) = 24 by omega] at this
theorem le400 {a : Nat} (h : a < 2 ^ 31) : (400 : Int32) ≤ nI a ↔ 400 ≤ a := nI_leI (a := 400) (by decide) h
theorem nz16 {β : Type} {o : Option β} : nzI 16 o = o := nz_ok (y := 16) (by decide) (by decide)
theorem d16 {a : Nat} (h : a < 2 ^ 31) : nI a / (16 : Int32) = nI (a / 16) := nI_div (d := 16) h (by decide) (by decide)
theorem r16 {a : Nat} (h : a < 2 ^ 31) : nI a - nI a / (16 : Int32) * 16 = nI (a % 16) := nI_rem (d := 16) h (by decide) (by decide)
theorem nJ_le0 {v : Nat} (h : v < 2 ^ 63) : lg_cmp (nJ v) 0 ≤ 0 ↔ v = 0 := by
  rw [lg_cmp_le, Int64.le_iff_toInt_le, show (0 : Int64).toInt = 0 by decide]
  unfold nJ
  rw [Int64.toInt_ofNat_of_lt h]
  omega
theorem e_count {L G s0 pc ns nc m n set : Nat} {hb wh p : Nat → Nat} {F : Nat} {st f e tq hc lc : Nat → Int32} {O : Nat → Nat} {wys thn : Nat → Int64} (P : PlOK L G s0 pc ns nc hb wh) (Hc : HcOK nc hb wh hc lc) (h : Sok (L * G) nc (p, F)) (hm : m < 2 ^ 10) (r0 : st 0 = nI m) (r3 : st 3 = nI F) (r4 : ∀ j, j < nc → st (4 + j) = nI (p j)) (hset : set < 2 ^ (L * G)) (hp4 : exn set 0 24 ≤ 4) (hn1 : 1 ≤ n) (hn2 : n ≤ 20)
    (hOe : ∀ t, om (rn (tk L s0 pc ns nc hb wh 99 (exn 0 nc 24)) m (exq 0 nc p 24, F ||| 0) t).1 (exn 0 nc 24) = O t) :
    ∃ o, m_X5_count (nI n) (nI set) (nI G) (nI L) (nI nc) (nI s0) (nI pc) (nI ns) hc lc st f e tq wys thn = some (nJ (wans L G O set n), o) := by
  have P' := P
  obtain ⟨h0, hL, hG0, hG, hC, hs, hp0, hp, hns, hnc5, hb3, hwh⟩ := P'
  have q0 := sx_0 (L := L) (G := G) (p := p) hnc5
  have ok := sx_ok (L := L) (G := G) h q0
  have hset24 : set < 2 ^ 24 := Nat.lt_of_lt_of_le hset (Nat.pow_le_pow_right (by decide) hC)
  have hp16 := pop4 hp4
  have hpp := Nat.two_pow_pos (exn set 0 24)
  have hO24 : ∀ t, O t < 2 ^ 24 := fun t => by
    rw [← hOe t]
    have hk := (sok_rn (w := 99) (m := m) P exn_ge ok t).1
    exact om_lt (fun j hj => Nat.lt_of_lt_of_le (hk.1 j hj) hC)
  have hE1 : exn set 0 24 = exn set 0 (L * G) := by have := exn_ext (n := 0) hset (24 - L * G); rwa [show L * G + (24 - L * G) = 24 by omega] at this
  have bb : ∃ a b c : Int32, ∃ f' e' tq' : Nat → Int32, m_X5_findTaken 0 0 (nI G) (nI L) (nI nc) (nI s0) (nI pc) (nI ns) hc lc st f e tq = some (a, b, c, f', e', tq') ∧ ∀ t, t < 41 → tq' t = nI (om (rn (tk L s0 pc ns nc hb wh 99 (exn 0 nc 24)) m (exq 0 nc p 24, F ||| 0) t).1 (exn 0 nc 24)) := e_find (S := 0) (Xf := 0) P Hc q0.1 q0.2.2.1 ok hm r0 r3 r4
  obtain ⟨a, b, c, f', e', tq', b1, b2⟩ := bb
  have hq : ∀ t, t < 41 → tq' t = nI (O t) := fun t ht => by rw [b2 t ht, hOe]
  unfold m_X5_count
  refine lpUpE _ (L * G) (fun k s => s = (nI (exn set 0 k), nI k)) (fun z => ∃ o, z = some (nJ (wans L G O set n), o)) ?_ ?_ (by omega) 0 (by omega) _ rfl
  · intro k s rec hk hJ hrec
    subst hJ
    dsimp only
    unfold X5_count_f5
    rw [e_cells5, obind, if_neg (nI_ge hk (by omega)), shr1 (by omega) (by omega), bit1, nI_add, nm_eq, nI_1]
    refine hrec _ ?_
    have e2 : exn set 0 (k + 1) = if set.testBit k = true then exn set 0 k + 1 else exn set 0 k := rfl
    rw [e2]; unfold bn; split <;> rfl
  · intro s rec hJ
    subst hJ
    dsimp only
    unfold X5_count_f5
    rw [e_cells5, obind, if_pos (nI_le (Nat.le_refl _) (by omega))]
    dsimp only
    rw [b1, obind, ← hE1]
    dsimp only
    have w0 : ∀ i, i < 400 → wv L G O set 0 i = if i = 384 then 1 else 0 := fun i hi => by
      unfold wv
      by_cases q : i < 384
      · rw [if_pos q, if_neg (by omega)]; rfl
      · rw [if_neg q]
    refine lpUpE _ 400 (fun k s => ∃ g : Nat → Int64, s = (nI k, g) ∧ ∀ i, i < k → g i = nJ (wv L G O set 0 i)) (fun z => ∃ o, z = some (nJ (wans L G O set n), o)) ?_ ?_ (by decide) 0 (by decide) _ ⟨wys, rfl, fun i hi => absurd hi (Nat.not_lt_zero i)⟩
    · intro k s rec2 hk hJ2 hrec2
      obtain ⟨g, rfl, g1⟩ := hJ2
      have fin : ∀ v : Int64, v = nJ (wv L G O set 0 k) → ∃ o, X5_count_j65 (fun r0 r1 => rec2 (r0, r1)) (nI k) (nI k) v g = some (nJ (wans L G O set n), o) := by
        intro v hv
        unfold X5_count_j65
        rw [stJ_ok hk (by decide), nI_1]
        refine hrec2 _ ⟨_, rfl, fun i hi => ?_⟩
        unfold vp_updL
        by_cases q : i = k
        · rw [if_pos q, hv, q]
        · rw [if_neg q]; exact g1 i (by omega)
      dsimp only
      unfold X5_count_f38
      rw [if_neg (fun q => by have := (le400 (by omega)).mp q; omega)]
      by_cases q : k = 384
      · rw [if_pos (show nI k = (384 : Int32) by rw [q]; rfl)]
        exact fin _ (by rw [w0 k hk, if_pos q]; rfl)
      · rw [if_neg (show ¬ nI k = (384 : Int32) from fun z => q ((nI_eq (b := 384) (by omega) (by decide)).mp z))]
        exact fin _ (by rw [w0 k hk, if_neg q]; rfl)
    · intro s rec2 hJ2
      obtain ⟨g0, rfl, g1⟩ := hJ2
      dsimp only
      unfold X5_count_f38
      rw [if_pos ((le400 (by decide)).mpr (Nat.le_refl 400))]
      dsimp only
      rw [shl1 (by omega), nI_s1 hpp, nm_eq]
      refine lpUpE _ n (fun t s => ∃ x4 wy th, s = (x4, nI t, wy, th) ∧ (0 < t → x4 = nJ (sm (tot L G O set (t - 1)) 400)) ∧ ∀ i, i < 400 → wy i = nJ (wv L G O set t i)) (fun z => ∃ o, z = some (nJ (wans L G O set n), o)) ?_ ?_ (by omega) 0 (by omega) _ ⟨0, g0, thn, rfl, fun q => absurd q (Nat.lt_irrefl 0), g1⟩
      · intro t s rec3 ht hJ3 hrec3
        obtain ⟨x4, wy, th, rfl, -, hwy⟩ := hJ3
        dsimp only
        unfold X5_count_f85
        rw [if_neg (nI_ge ht (by omega))]
        refine lpUpE _ 400 (fun k s => ∃ g : Nat → Int64, s = (nI k, g) ∧ ∀ i, i < k → g i = nJ 0) (fun z => ∃ o, z = some (nJ (wans L G O set n), o)) ?_ ?_ (by decide) 0 (by decide) _ ⟨th, rfl, fun i hi => absurd hi (Nat.not_lt_zero i)⟩
        · intro k s rec4 hk hJ4 hrec4
          obtain ⟨g, rfl, y1⟩ := hJ4
          dsimp only
          unfold X5_count_f94
          rw [if_neg (fun q => by have := (le400 (by omega)).mp q; omega), stJ_ok hk (by decide), nI_1]
          refine hrec4 _ ⟨_, rfl, fun i hi => ?_⟩
          unfold vp_updL
          by_cases q : i = k
          · rw [if_pos q]; rfl
          · rw [if_neg q]; exact y1 i (by omega)
        · intro s rec4 hJ4
          obtain ⟨gz, rfl, y1⟩ := hJ4
          dsimp only
          unfold X5_count_f94
          rw [if_pos ((le400 (by decide)).mpr (Nat.le_refl 400))]
          dsimp only
          refine lpUpE _ 400 (fun j s => ∃ g : Nat → Int64, s = (nJ (sm (tot L G O set t) j), nI j, g) ∧ ∀ i, i < 400 → g i = nJ (sm (fun j' => sm (fun h => if ti L G O set t (j' / 16) (j' % 16) h = i then wv L G O set t j' else 0) 9) j)) (fun z => ∃ o, z = some (nJ (wans L G O set n), o)) ?_ ?_ (by decide) 0 (by decide) _ ⟨gz, rfl, fun i hi => y1 i hi⟩
          · intro j s rec5 hj hJ5 hrec5
            obtain ⟨g, rfl, z1⟩ := hJ5
            have hj16 : j / 16 < 25 := by omega
            have es : ∀ f : Nat → Nat, sm f (j + 1) = sm f j + f j := fun _ => rfl
            have hwlt : wv L G O set t j < 2 ^ 63 := by
              unfold wv
              by_cases q : j < 384
              · rw [if_pos q]; exact nn_lt hC h0 hp4 (by omega) (by omega) (by omega)
              · rw [if_neg q]; split <;> decide
            dsimp only
            unfold X5_count_f122
            rw [if_neg (fun q => by have := (le400 (by omega)).mp q; omega), ld_ok hj (by decide), hwy j hj]
            by_cases v0 : wv L G O set t j = 0
            · rw [if_pos ((nJ_le0 hwlt).mpr v0)]
              unfold X5_count_j180
              rw [nI_1]
              have et : tot L G O set t j = 0 := by unfold tot; rw [v0]; split <;> rfl
              refine hrec5 _ ⟨g, by rw [es, et]; rfl, fun i hi => ?_⟩
              have ez : sm (fun h => if ti L G O set t (j / 16) (j % 16) h = i then wv L G O set t j else 0) 9 = 0 := sm_zero (fun h _ => by rw [v0]; split <;> rfl)
              rw [es, ez, Nat.add_zero]
              exact z1 i hi
            · have hpl : j / 16 < L * G ∨ j / 16 = 24 := by
                by_cases q : j < 384
                · left
                  rcases Nat.lt_or_ge (j / 16) (L * G) with z | z
                  · exact z
                  · exact absurd (by unfold wv; rw [if_pos q]; exact nn_out z) v0
                · right; omega
              have hs2 : j % 16 < 2 ^ exn set 0 24 := by
                by_cases q : j < 384
                · rcases Nat.lt_or_ge (j % 16) (2 ^ exn set 0 24) with z | z
                  · exact z
                  · exact absurd (by unfold wv; rw [if_pos q]; exact nn_zero (by omega) z t) v0
                · have : j = 384 := by
                    apply Classical.byContradiction
                    intro z
                    exact v0 (by unfold wv; rw [if_neg q, if_neg z])
                  rw [this]; exact hpp
              obtain ⟨th', c1, c2⟩ := e_goesOver (t := t) (pl := j / 16) (s := j % 16) (V := wv L G O set t j) (wys := wy) (th := g) h0 hL hC hG (by omega) hO24 hq hset24 hp4 hpl hs2 (by rw [show 16 * (j / 16) + j % 16 = j by omega]; exact hwy j hj)
              have hth : ∀ i, i < 400 → th' i = nJ (sm (fun j' => sm (fun h => if ti L G O set t (j' / 16) (j' % 16) h = i then wv L G O set t j' else 0) 9) (j + 1)) := fun i hi => by
                rw [c2 i hi, z1 i hi, nJ_add, es]
              rw [if_neg (fun z => v0 ((nJ_le0 hwlt).mp z)), nz16, r16 (by omega), d16 (by omega), nm_eq, nz16, nm_eq, c1, obind]
              dsimp only
              have fin : ∀ v, nJ v = nJ (tot L G O set t j) → ∃ o, X5_count_j177 (fun r0 r1 r2 => rec5 (r0, r1, r2)) (nI j) (nJ (sm (tot L G O set t) j)) (nJ v) th' = some (nJ (wans L G O set n), o) := by
                intro v hv
                unfold X5_count_j177 X5_count_j180
                rw [hv, nJ_add, nm_eq, nI_1]
                exact hrec5 _ ⟨th', rfl, hth⟩
              by_cases y : tgt L G (j / 16) 0 = 99
              · rw [if_pos y]
                by_cases y2 : j % 16 = 2 ^ exn set 0 24 - 1
                · rw [if_pos (show nI (j % 16) = nI (2 ^ exn set 0 24 - 1) by rw [y2]), ld_ok hj (by decide), hwy j hj]
                  exact fin _ (by unfold tot; rw [if_pos ⟨y, y2⟩])
                · rw [if_neg (fun z => y2 ((nI_eq (by omega) (by omega)).mp z))]
                  exact fin 0 (by unfold tot; rw [if_neg (fun z => y2 z.2)])
              · rw [if_neg y, if_neg (m9_ne' (by omega))]
                exact fin 0 (by unfold tot; rw [if_neg (fun z => y z.1)])
          · intro s rec5 hJ5
            obtain ⟨g, rfl, z1⟩ := hJ5
            dsimp only
            unfold X5_count_f122
            rw [if_pos ((le400 (by decide)).mpr (Nat.le_refl 400))]
            dsimp only
            refine lpUpE _ 400 (fun k s => ∃ u : Nat → Int64, s = (nI k, u) ∧ ∀ i, i < k → u i = nJ (wv L G O set (t + 1) i)) (fun z => ∃ o, z = some (nJ (wans L G O set n), o)) ?_ ?_ (by decide) 0 (by decide) _ ⟨wy, rfl, fun i hi => absurd hi (Nat.not_lt_zero i)⟩
            · intro k s rec6 hk hJ6 hrec6
              obtain ⟨u, rfl, u1⟩ := hJ6
              dsimp only
              unfold X5_count_f189
              rw [if_neg (fun q => by have := (le400 (by omega)).mp q; omega), ld_ok hk (by decide), stJ_ok hk (by decide), nI_1]
              refine hrec6 _ ⟨_, rfl, fun i hi => ?_⟩
              unfold vp_updL
              by_cases q : i = k
              · rw [if_pos q, z1 k hk, q, push_sum h0 hC hG hp4 hk]
              · rw [if_neg q]; exact u1 i (by omega)
            · intro s rec6 hJ6
              obtain ⟨u, rfl, u1⟩ := hJ6
              dsimp only
              unfold X5_count_f189
              rw [if_pos ((le400 (by decide)).mpr (Nat.le_refl 400))]
              dsimp only
              rw [nI_1]
              exact hrec3 _ ⟨_, u, g, rfl, fun _ => rfl, u1⟩
      · intro s rec3 hJ3
        obtain ⟨x4, wy, th, rfl, hx, -⟩ := hJ3
        dsimp only
        unfold X5_count_f85
        rw [if_pos (nI_le (Nat.le_refl n) (by omega)), hx (by omega), tot_wans h0 hC hp4 hn1]
        exact ⟨_, rfl⟩

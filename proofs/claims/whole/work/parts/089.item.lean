/-! READING: an item. -/
theorem lgc0 {x y : Int64} : lg_cmp x y = 0 ↔ x = y := by
  unfold lg_cmp
  by_cases q : x > y
  · rw [if_pos q]
    exact ⟨fun t => absurd t (by decide), fun t => absurd q (by rw [t]; exact Int64.lt_irrefl)⟩
  · rw [if_neg q]
    by_cases y : x = y
    · rw [if_pos y]; exact ⟨fun _ => y, fun _ => rfl⟩
    · rw [if_neg y]; exact ⟨fun t => absurd t (by decide), fun t => absurd t y⟩
def cwd (i : Nat) : Int64 := ([32488805071086962, 495891410553, 112603093820786, 7381237527265895794, 108243533981541, 7566702, 1852797797] : List Int64).getD i 0
theorem cwd_pk : ∀ i, i < 7 → cwd i = nJ (pkN (wb i) 0 (sLen.getD i 0)) := by decide +kernel
theorem cwd_ne0 : ∀ i, i < 7 → cwd i ≠ 0 := by decide +kernel
theorem cwd_inj : ∀ i, i < 7 → ∀ j, j < 7 → cwd i = cwd j → i = j := by decide +kernel
theorem nJ_inj {a b : Nat} (ha : a < 2 ^ 64) (hb : b < 2 ^ 64) (h : nJ a = nJ b) : a = b := by
  have h2 : BitVec.ofNat 64 a = BitVec.ofNat 64 b := congrArg Int64.toBitVec h
  have h3 := congrArg BitVec.toNat h2
  rw [BitVec.toNat_ofNat, BitVec.toNat_ofNat, Nat.mod_eq_of_lt ha, Nat.mod_eq_of_lt hb] at h3
  exact h3
theorem pk_le8 {B : Nat → Nat} {s : Nat} : ∀ k, (∀ i, i < k → B (s + i) < 256) → pkN B s k < 2 ^ 64
  | 0, _ => by rw [pkN]; decide
  | k + 1, h => by
    by_cases q : 8 ≤ k
    · rw [pkN, if_pos q]; decide
    · have := pkN_lt (B := B) (s := s) (k + 1) h
      have h2 : 256 ^ (k + 1) ≤ 256 ^ 8 := Nat.pow_le_pow_right (by decide) (by omega)
      have h3 : (256 : Nat) ^ 8 = 2 ^ 64 := by decide
      omega
/-- the letters of a word token -/
theorem let_ {B : Nat → Nat} {n e : Nat} (h2 : tkK B n e = 1) : tkS B n e < n ∧ tkS B n e < tkE B n e ∧ tkE B n e ≤ n ∧ ∀ j, tkS B n e ≤ j → j < tkE B n e → 97 ≤ B j ∧ B j ≤ 122 := by
  have hk2 : tkS B n e < n := by
    rcases Nat.lt_or_ge (tkS B n e) n with z | z
    · exact z
    · unfold tkK at h2; rw [if_neg (by omega)] at h2; omega
  have ek : cls (B (tkS B n e)) = 1 := by unfold tkK at h2; rw [if_pos hk2] at h2; exact h2
  have eE : tkE B n e = rnt B n 1 (n - (tkS B n e + 1)) (tkS B n e + 1) := by unfold tkE; rw [if_pos hk2, if_pos (Or.inl h2), h2]
  have hr := rnt_le (B := B) (n := n) (q := 1) (n - (tkS B n e + 1)) (tkS B n e + 1) (by omega)
  rw [← eE] at hr
  refine ⟨hk2, by omega, hr.2, fun j h3 h4 => cls1.mp ?_⟩
  by_cases z : j = tkS B n e
  · rw [z]; exact ek
  · rw [eE] at h4
    exact rnt_all _ _ j (by omega) h4
theorem r_word {n e j : Nat} {B : Nat → Nat} {t num : Int32} {wd : Int64} (R : RT B n e t num wd) (hj : j < 7) : ((if t = 1 then wd else 0) = cwd j) ↔ (tkK B n e = 1 ∧ Wd B (tkS B n e) (tkE B n e - tkS B n e) j) := by
  have h1 := (rt13 R).2.1
  by_cases q : t = 1
  · have q' := h1.mp q
    obtain ⟨d1, d2, d3, d4⟩ := let_ q'
    obtain ⟨tk, _, _, _, _, _, _, hwd⟩ := R
    have hB : ∀ i, i < tkE B n e - tkS B n e → 97 ≤ B (tkS B n e + i) ∧ B (tkS B n e + i) < 256 := fun i hi => by have := d4 (tkS B n e + i) (by omega) (by omega); omega
    rw [if_pos q, hwd q', pk_nat _ (fun i hi => (hB i hi).2), cwd_pk j hj]
    have hw := pk_word (B := B) (s := tkS B n e) (l := tkE B n e - tkS B n e) hj (by omega) hB
    constructor
    · intro y
      have := nJ_inj (pk_le8 _ (fun i hi => (hB i hi).2)) (pk_le8 _ (fun i hi => by rw [Nat.zero_add]; exact wb_lt j hj i hi)) y
      exact ⟨q', hw.mp this⟩
    · intro y
      rw [hw.mpr y.2]
  · rw [if_neg q]
    exact ⟨fun y => absurd y.symm (cwd_ne0 j hj), fun y => absurd (h1.mpr y.1) q⟩
/-- the word of an item, on both sides -/
theorem j_word {n e : Nat} {B : Nat → Nat} {tx : Nat → Int32} {t num : Int32} {wd : Int64} (h : TB n B tx) (he : e ≤ n) (R : RT B n e t num wd) : ∃ j, j ≤ 7 ∧ m_X1_wordHere (nI (tkK B n e)) (nI (tkS B n e)) (nI (tkE B n e)) tx = some (nI j) ∧ ∀ i, i < 7 → (lg_cmp (if t = 1 then wd else 0) (cwd i) = 0 ↔ i = j) := by
  obtain ⟨j, hj, hw, h1, h2⟩ := e_wordHere h he
  refine ⟨j, hj, hw, fun i hi => ?_⟩
  rw [lgc0]
  constructor
  · intro y
    rcases Nat.lt_or_ge j 7 with z | z
    · exact cwd_inj i hi j z (y.symm.trans ((r_word R z).mpr (h1 z)))
    · exact absurd ((r_word R hi).mp y) (h2 i (by omega))
  · intro y
    subst y
    exact (r_word R hi).mpr (h1 hi)
def PB (L G s0 pc ns nc : Nat) (c hb wh : Nat → Nat) : Prop := 0 < L ∧ L ≤ 8 ∧ 0 < G ∧ G ≤ 3 ∧ s0 ≤ 7 ∧ 0 < pc ∧ pc ≤ 9 ∧ ns ≤ 9 ∧ nc ≤ 5 ∧ (∀ j, j < nc → c j < L * G ∧ hb j ≤ 3 ∧ (hb j = 3 → wh j < nc)) ∧ ∀ i j, i < nc → j < nc → c i = c j → i = j
abbrev CT := Int32 × Int32 × Int32 × Int32 × Int32 × Int32 × Int32 × Int32 × Int32 × Int32 × Int32 × Int32 × Int32 × (Nat → Int32) × (Nat → Int32) × (Nat → Int32)
abbrev RR := Int32 × Int32 × Int32 × Int32 × Int64 × Int32 × Int32 × Int32 × Int32 × Int32 × Int32 × Int32 × Int32 × Int32 × (Nat → Int32) × (Nat → Int32) × (Nat → Int32)
def IPg (B : Nat → Nat) (n e : Nat) (q : CT) (r : RR) : Prop := ∃ (e' L G s0 pc ns nc : Nat) (c hb wh : Nat → Nat) (sm nm : Nat) (S H W S' H' W' : Nat → Int32) (t num : Int32) (wd : Int64), q = (nI (tkK B n e'), nI (tkS B n e'), nI (tkE B n e'), -1, nI L, nI G, nI s0, nI pc, nI ns, nI nc, 0, nI sm, nI nm, S, H, W) ∧ r = (nI (tkE B n e'), nI (tkS B n e'), t, num, wd, 0, nI L, nI G, nI nc, nI s0, nI pc, nI ns, nI (1 - sm), nI (1 - nm), H', W', S') ∧ e < e' ∧ e' ≤ n ∧ RT B n e' t num wd ∧ sm ≤ 1 ∧ nm ≤ 1 ∧ PB L G s0 pc ns nc c hb wh ∧ AR nc c hb wh S H W ∧ AR nc c hb wh S' H' W'
def IPb (n : Nat) (q : CT) (r : RR) : Prop := ∃ s, s ≤ n ∧ q.2.2.2.1 = nI s ∧ r.2.1 = nI s ∧ r.2.2.2.2.2.1 = 1
theorem nm_rng {n e a b : Nat} {B : Nat → Nat} (he : e ≤ n) (ha : a < 2 ^ 31) (hb : b < 2 ^ 31) (N : Nm B n e (nI a) (nI b)) : ∃ k, a ≤ k ∧ k ≤ b ∧ Nv B n e = nI k := by
  obtain ⟨k, hk, h1⟩ := nm_val he ⟨N.1, N.2.1⟩
  have h2 := N.2.2.1
  have h3 := N.2.2.2
  rw [h1] at h2 h3
  exact ⟨k, (nI_leI ha (by omega)).mp h2, (nI_leI (by omega) hb).mp h3, h1⟩
theorem IPb_mk {B : Nat → Nat} {n e w : Nat} (he : e ≤ n) (hw : w = 1) {q : CT} {r : RR} (h1 : q.2.2.2.1 = flC w (tkS B n e)) (h2 : r.2.1 = nI (tkS B n e)) (h3 : r.2.2.2.2.2.1 = nI w) : IPb n q r := by
  subst hw
  exact ⟨tkS B n e, (tk_bd he).2.1, h1, h2, h3⟩

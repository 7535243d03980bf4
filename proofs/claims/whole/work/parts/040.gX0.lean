theorem iX0_becomeAsAtFirst_X0 : ∀ w ∈ u_ws RX0 TX0 12, w ∈ wsX0_becomeAsAtFirst := by decide +kernel
theorem kX0_becomeAsAtFirst_24 : Cond.fieldLink RX0 24 "NineCats$Plan" "length" "I" ∈ wsX0_becomeAsAtFirst := by decide +kernel
theorem kX0_becomeAsAtFirst_28 : Cond.fieldLink RX0 28 "NineCats$Plan" "width" "I" ∈ wsX0_becomeAsAtFirst := by decide +kernel
theorem kX0_becomeAsAtFirst_31 : Cond.fieldLink RX0 31 "NineCats$Plan" "sunFirst" "I" ∈ wsX0_becomeAsAtFirst := by decide +kernel
theorem kX0_becomeAsAtFirst_34 : Cond.fieldLink RX0 34 "NineCats$Plan" "pace" "I" ∈ wsX0_becomeAsAtFirst := by decide +kernel
theorem kX0_becomeAsAtFirst_37 : Cond.fieldLink RX0 37 "NineCats$Plan" "nose" "I" ∈ wsX0_becomeAsAtFirst := by decide +kernel
theorem kX0_becomeAsAtFirst_40 : Cond.fieldLink RX0 40 "NineCats$Plan" "cats" "I" ∈ wsX0_becomeAsAtFirst := by decide +kernel
theorem kX0_becomeAsAtFirst_43 : Cond.fieldLink RX0 43 "NineCats$Plan" "bridgeMay" "Z" ∈ wsX0_becomeAsAtFirst := by decide +kernel
theorem kX0_becomeAsAtFirst_47 : Cond.fieldLink RX0 47 "NineCats$Plan" "sunMay" "Z" ∈ wsX0_becomeAsAtFirst := by decide +kernel
theorem kX0_becomeAsAtFirst_50 : Cond.fieldLink RX0 50 "NineCats$Plan" "noseMay" "Z" ∈ wsX0_becomeAsAtFirst := by decide +kernel
abbrev w1_X0_becomeAsAtFirst (T : Nat → ClassId) (t : Nat) (t_starts : Nat) (t_habits : Nat) (t_leaders : Nat) (q : Int32 × Int32 × Int32 × Int32 × Int32 × Int32 × Int32 × Int32 × Int32) : va_W := [(t, .inr (0, [.int q.1, .int q.2.1, .int q.2.2.1, .int q.2.2.2.1, .int q.2.2.2.2.1, .int q.2.2.2.2.2.1, .int q.2.2.2.2.2.2.1, .int q.2.2.2.2.2.2.2.1, .int q.2.2.2.2.2.2.2.2, .ref t_starts, .ref t_habits, .ref t_leaders]))]
noncomputable def m_X0_becomeAsAtFirst  : Option (Int32 × Int32 × Int32 × Int32 × Int32 × Int32 × Int32 × Int32 × Int32) :=
  bzI 1 (bzI 1 (bzI 1 (some (5, 2, 0, 1, 3, 0, 1, 1, 1))))
set_option maxHeartbeats 4000000 in
theorem b_X0_becomeAsAtFirst {X : KX} {Qf : Int32 × Int32 × Int32 × Int32 × Int32 × Int32 × Int32 × Int32 × Int32 → State → Prop} {t : Nat} {t_length : Int32} {t_width : Int32} {t_sunFirst : Int32} {t_pace : Int32} {t_nose : Int32} {t_cats : Int32} {t_bridgeMay : Int32} {t_sunMay : Int32} {t_noseMay : Int32} {t_starts : Nat} {t_habits : Nat} {t_leaders : Nat} (C : Cx X cX0_becomeAsAtFirst RX0 wsX0_becomeAsAtFirst 1 { frames := 0, cells := 0, slots := 0, locals := 0 }) (hR : RtV X Qf cX0_becomeAsAtFirst 1 (fun _ => none) (w1_X0_becomeAsAtFirst (xT X) t t_starts t_habits t_leaders)) : Sim X Qf 0 0 1 (m_X0_becomeAsAtFirst ) [(t, .inr (0, [.int t_length, .int t_width, .int t_sunFirst, .int t_pace, .int t_nose, .int t_cats, .int t_bridgeMay, .int t_sunMay, .int t_noseMay, .ref t_starts, .ref t_habits, .ref t_leaders]))] 0 [(0, .ref t)] [] := by
  unfold m_X0_becomeAsAtFirst
  refine s_aload_n C 0 dX0_becomeAsAtFirst_0 rfl rfl ?_
  refine s_iconst C 5 dX0_becomeAsAtFirst_1 (by decide) ?_
  refine s_put C iX0_becomeAsAtFirst_X0 tyX0 tyX0_ok nmX0 0 rfl rfl 0 (by decide) kX0_becomeAsAtFirst_24 rfl .int (by decide +kernel) rfl rfl (Nat.le_of_ble_eq_true rfl) [(t, .inr (0, [.int 5, .int t_width, .int t_sunFirst, .int t_pace, .int t_nose, .int t_cats, .int t_bridgeMay, .int t_sunMay, .int t_noseMay, .ref t_starts, .ref t_habits, .ref t_leaders]))] rfl dX0_becomeAsAtFirst_2 ?_
  refine s_aload_n C 0 dX0_becomeAsAtFirst_5 rfl rfl ?_
  refine s_iconst C 2 dX0_becomeAsAtFirst_6 (by decide) ?_
  refine s_put C iX0_becomeAsAtFirst_X0 tyX0 tyX0_ok nmX0 0 rfl rfl 1 (by decide) kX0_becomeAsAtFirst_28 rfl .int (by decide +kernel) rfl rfl (Nat.le_of_ble_eq_true rfl) [(t, .inr (0, [.int 5, .int 2, .int t_sunFirst, .int t_pace, .int t_nose, .int t_cats, .int t_bridgeMay, .int t_sunMay, .int t_noseMay, .ref t_starts, .ref t_habits, .ref t_leaders]))] rfl dX0_becomeAsAtFirst_7 ?_
  refine s_aload_n C 0 dX0_becomeAsAtFirst_10 rfl rfl ?_
  refine s_iconst C 0 dX0_becomeAsAtFirst_11 (by decide) ?_
  refine s_put C iX0_becomeAsAtFirst_X0 tyX0 tyX0_ok nmX0 0 rfl rfl 2 (by decide) kX0_becomeAsAtFirst_31 rfl .int (by decide +kernel) rfl rfl (Nat.le_of_ble_eq_true rfl) [(t, .inr (0, [.int 5, .int 2, .int 0, .int t_pace, .int t_nose, .int t_cats, .int t_bridgeMay, .int t_sunMay, .int t_noseMay, .ref t_starts, .ref t_habits, .ref t_leaders]))] rfl dX0_becomeAsAtFirst_12 ?_
  refine s_aload_n C 0 dX0_becomeAsAtFirst_15 rfl rfl ?_
  refine s_iconst C 1 dX0_becomeAsAtFirst_16 (by decide) ?_
  refine s_put C iX0_becomeAsAtFirst_X0 tyX0 tyX0_ok nmX0 0 rfl rfl 3 (by decide) kX0_becomeAsAtFirst_34 rfl .int (by decide +kernel) rfl rfl (Nat.le_of_ble_eq_true rfl) [(t, .inr (0, [.int 5, .int 2, .int 0, .int 1, .int t_nose, .int t_cats, .int t_bridgeMay, .int t_sunMay, .int t_noseMay, .ref t_starts, .ref t_habits, .ref t_leaders]))] rfl dX0_becomeAsAtFirst_17 ?_
  refine s_aload_n C 0 dX0_becomeAsAtFirst_20 rfl rfl ?_
  refine s_iconst C 3 dX0_becomeAsAtFirst_21 (by decide) ?_
  refine s_put C iX0_becomeAsAtFirst_X0 tyX0 tyX0_ok nmX0 0 rfl rfl 4 (by decide) kX0_becomeAsAtFirst_37 rfl .int (by decide +kernel) rfl rfl (Nat.le_of_ble_eq_true rfl) [(t, .inr (0, [.int 5, .int 2, .int 0, .int 1, .int 3, .int t_cats, .int t_bridgeMay, .int t_sunMay, .int t_noseMay, .ref t_starts, .ref t_habits, .ref t_leaders]))] rfl dX0_becomeAsAtFirst_22 ?_
  refine s_aload_n C 0 dX0_becomeAsAtFirst_25 rfl rfl ?_
  refine s_iconst C 0 dX0_becomeAsAtFirst_26 (by decide) ?_
  refine s_put C iX0_becomeAsAtFirst_X0 tyX0 tyX0_ok nmX0 0 rfl rfl 5 (by decide) kX0_becomeAsAtFirst_40 rfl .int (by decide +kernel) rfl rfl (Nat.le_of_ble_eq_true rfl) [(t, .inr (0, [.int 5, .int 2, .int 0, .int 1, .int 3, .int 0, .int t_bridgeMay, .int t_sunMay, .int t_noseMay, .ref t_starts, .ref t_habits, .ref t_leaders]))] rfl dX0_becomeAsAtFirst_27 ?_
  refine s_aload_n C 0 dX0_becomeAsAtFirst_30 rfl rfl ?_
  refine s_iconst C 1 dX0_becomeAsAtFirst_31 (by decide) ?_
  refine s_putZ C iX0_becomeAsAtFirst_X0 tyX0 tyX0_ok nmX0 0 rfl rfl 6 (by decide) kX0_becomeAsAtFirst_43 rfl (by decide +kernel) (Nat.le_of_ble_eq_true rfl) [(t, .inr (0, [.int 5, .int 2, .int 0, .int 1, .int 3, .int 0, .int 1, .int t_sunMay, .int t_noseMay, .ref t_starts, .ref t_habits, .ref t_leaders]))] rfl dX0_becomeAsAtFirst_32 ?_
  refine s_aload_n C 0 dX0_becomeAsAtFirst_35 rfl rfl ?_
  refine s_iconst C 1 dX0_becomeAsAtFirst_36 (by decide) ?_
  refine s_putZ C iX0_becomeAsAtFirst_X0 tyX0 tyX0_ok nmX0 0 rfl rfl 7 (by decide) kX0_becomeAsAtFirst_47 rfl (by decide +kernel) (Nat.le_of_ble_eq_true rfl) [(t, .inr (0, [.int 5, .int 2, .int 0, .int 1, .int 3, .int 0, .int 1, .int 1, .int t_noseMay, .ref t_starts, .ref t_habits, .ref t_leaders]))] rfl dX0_becomeAsAtFirst_37 ?_
  refine s_aload_n C 0 dX0_becomeAsAtFirst_40 rfl rfl ?_
  refine s_iconst C 1 dX0_becomeAsAtFirst_41 (by decide) ?_
  refine s_putZ C iX0_becomeAsAtFirst_X0 tyX0 tyX0_ok nmX0 0 rfl rfl 8 (by decide) kX0_becomeAsAtFirst_50 rfl (by decide +kernel) (Nat.le_of_ble_eq_true rfl) [(t, .inr (0, [.int 5, .int 2, .int 0, .int 1, .int 3, .int 0, .int 1, .int 1, .int 1, .ref t_starts, .ref t_habits, .ref t_leaders]))] rfl dX0_becomeAsAtFirst_42 ?_
  exact s_retV hR (5, 2, 0, 1, 3, 0, 1, 1, 1) rfl rfl dX0_becomeAsAtFirst_45
theorem c_X0_becomeAsAtFirst (l : Launch) (D : va_G) (T : Nat → ClassId) (t : Nat) (t_length : Int32) (t_width : Int32) (t_sunFirst : Int32) (t_pace : Int32) (t_nose : Int32) (t_cats : Int32) (t_bridgeMay : Int32) (t_sunMay : Int32) (t_noseMay : Int32) (t_starts : Nat) (t_habits : Nat) (t_leaders : Nat) : ∀ q : Int32 × Int32 × Int32 × Int32 × Int32 × Int32 × Int32 × Int32 × Int32, m_X0_becomeAsAtFirst  = some q → Ct l yX0_becomeAsAtFirst wsX0_becomeAsAtFirst { frames := 0, cells := 0, slots := 0, locals := 0 } [.ref t] D T [(t, .inr (0, [.int t_length, .int t_width, .int t_sunFirst, .int t_pace, .int t_nose, .int t_cats, .int t_bridgeMay, .int t_sunMay, .int t_noseMay, .ref t_starts, .ref t_habits, .ref t_leaders]))] ((fun _ => none) q) (w1_X0_becomeAsAtFirst T t t_starts t_habits t_leaders q) := by
  refine ct_V (by decide) rfl (Nat.le_of_ble_eq_true rfl) (m_X0_becomeAsAtFirst ) (fun _ => none) (w1_X0_becomeAsAtFirst T t t_starts t_habits t_leaders) ?_
  intro X Qf hL hD hT C hR
  subst hT
  exact b_X0_becomeAsAtFirst C hR
theorem iX0_init_X0 : ∀ w ∈ u_ws RX0 TX0 12, w ∈ wsX0_init := by decide +kernel
theorem kX0_init_15 : Cond.fieldLink RX0 15 "NineCats$Plan" "habits" "[I" ∈ wsX0_init := by decide +kernel
theorem kX0_init_18 : Cond.fieldLink RX0 18 "NineCats$Plan" "leaders" "[I" ∈ wsX0_init := by decide +kernel
theorem kX0_init_9 : Cond.fieldLink RX0 9 "NineCats$Plan" "starts" "[I" ∈ wsX0_init := by decide +kernel
theorem nX0_init_int : Cond.arrayClass .int ∈ wsX0_init := by decide +kernel
theorem nX0_init_o0 : Cond.methodLink RX0 3 objectInit ∈ wsX0_init := by decide +kernel
theorem nX0_init_o1 : Cond.instanceMethod objectInit ∈ wsX0_init := by decide +kernel
theorem nX0_init_o2 : Cond.code objectInit ⟨#[0xb1]⟩ 1 none ∈ wsX0_init := by decide +kernel
abbrev w1_X0_init (T : Nat → ClassId) (t : Nat) (q : Int32 × Int32 × Int32 × Int32 × Int32 × Int32 × Int32 × Int32 × Int32) (ad : Nat → Nat) : va_W := [(t, .inr (0, [.int (q.1), .int (q.2.1), .int (q.2.2.1), .int (q.2.2.2.1), .int (q.2.2.2.2.1), .int (q.2.2.2.2.2.1), .int (q.2.2.2.2.2.2.1), .int (q.2.2.2.2.2.2.2.1), .int (q.2.2.2.2.2.2.2.2), .ref (ad 0), .ref (ad 1), .ref (ad 2)])), ((ad 0), .inl (T 1, 5, .inl (fun _ => 0))), ((ad 1), .inl (T 1, 5, .inl (fun _ => 0))), ((ad 2), .inl (T 1, 5, .inl (fun _ => 0)))]
noncomputable def m_X0_init : Option (Int32 × Int32 × Int32 × Int32 × Int32 × Int32 × Int32 × Int32 × Int32) :=
  (m_X0_becomeAsAtFirst ).bind (fun q4 => some (q4.1, q4.2.1, q4.2.2.1, q4.2.2.2.1, q4.2.2.2.2.1, q4.2.2.2.2.2.1, q4.2.2.2.2.2.2.1, q4.2.2.2.2.2.2.2.1, q4.2.2.2.2.2.2.2.2))
set_option maxHeartbeats 4000000 in
theorem b_X0_init {X : KX} {Qf : Int32 × Int32 × Int32 × Int32 × Int32 × Int32 × Int32 × Int32 × Int32 → State → Prop} {t : Nat} (C : Cx X cX0_init RX0 wsX0_init 1 { frames := 1, cells := 3, slots := 15, locals := 20 }) (hI : CI X) (hR : RtC X Qf cX0_init 1 3 15 (w1_X0_init (xT X) t)) : Sim X Qf 0 0 1 m_X0_init [(t, .inr (0, [.int 0, .int 0, .int 0, .int 0, .int 0, .int 0, .int 0, .int 0, .int 0, .null, .null, .null]))] 0 [(0, .ref t)] [] := by
  unfold m_X0_init
  refine s_aload_n C 0 dX0_init_0 rfl rfl ?_
  refine s_objInit C nX0_init_o0 nX0_init_o1 nX0_init_o2 ⟨Nat.le_of_ble_eq_true rfl, Nat.le_of_ble_eq_true rfl⟩ dX0_init_1 ?_
  refine s_aload_n C 0 dX0_init_4 rfl rfl ?_
  refine s_iconst C 5 dX0_init_5 (by decide) ?_
  refine s_newaI C 5 nX0_init_int (by decide) (by decide) (Nat.le_of_ble_eq_true rfl) ⟨Nat.le_of_ble_eq_true rfl, Nat.le_of_ble_eq_true rfl⟩ (fun a1 => [(t, .inr (0, [.int 0, .int 0, .int 0, .int 0, .int 0, .int 0, .int 0, .int 0, .int 0, .null, .null, .null])), (a1, .inl ((xT X) 1, 5, .inl (fun _ => 0)))]) (fun _ => rfl) dX0_init_6 (fun a1 => ?_)
  refine s_putF C hI iX0_init_X0 tyX0 tyX0_ok nmX0 0 rfl rfl 9 (by decide) kX0_init_9 rfl rfl (.array .int) (by decide +kernel) rfl rfl (Nat.le_of_ble_eq_true rfl) [(t, .inr (0, [.int 0, .int 0, .int 0, .int 0, .int 0, .int 0, .int 0, .int 0, .int 0, .ref a1, .null, .null])), (a1, .inl ((xT X) 1, 5, .inl (fun _ => 0)))] rfl dX0_init_8 ?_
  refine s_aload_n C 0 dX0_init_11 rfl rfl ?_
  refine s_iconst C 5 dX0_init_12 (by decide) ?_
  refine s_newaI C 5 nX0_init_int (by decide) (by decide) (Nat.le_of_ble_eq_true rfl) ⟨Nat.le_of_ble_eq_true rfl, Nat.le_of_ble_eq_true rfl⟩ (fun a2 => [(t, .inr (0, [.int 0, .int 0, .int 0, .int 0, .int 0, .int 0, .int 0, .int 0, .int 0, .ref a1, .null, .null])), (a1, .inl ((xT X) 1, 5, .inl (fun _ => 0))), (a2, .inl ((xT X) 1, 5, .inl (fun _ => 0)))]) (fun _ => rfl) dX0_init_13 (fun a2 => ?_)
  refine s_putF C hI iX0_init_X0 tyX0 tyX0_ok nmX0 0 rfl rfl 10 (by decide) kX0_init_15 rfl rfl (.array .int) (by decide +kernel) rfl rfl (Nat.le_of_ble_eq_true rfl) [(t, .inr (0, [.int 0, .int 0, .int 0, .int 0, .int 0, .int 0, .int 0, .int 0, .int 0, .ref a1, .ref a2, .null])), (a1, .inl ((xT X) 1, 5, .inl (fun _ => 0))), (a2, .inl ((xT X) 1, 5, .inl (fun _ => 0)))] rfl dX0_init_15 ?_
  refine s_aload_n C 0 dX0_init_18 rfl rfl ?_
  refine s_iconst C 5 dX0_init_19 (by decide) ?_
  refine s_newaI C 5 nX0_init_int (by decide) (by decide) (Nat.le_of_ble_eq_true rfl) ⟨Nat.le_of_ble_eq_true rfl, Nat.le_of_ble_eq_true rfl⟩ (fun a3 => [(t, .inr (0, [.int 0, .int 0, .int 0, .int 0, .int 0, .int 0, .int 0, .int 0, .int 0, .ref a1, .ref a2, .null])), (a1, .inl ((xT X) 1, 5, .inl (fun _ => 0))), (a2, .inl ((xT X) 1, 5, .inl (fun _ => 0))), (a3, .inl ((xT X) 1, 5, .inl (fun _ => 0)))]) (fun _ => rfl) dX0_init_20 (fun a3 => ?_)
  refine s_putF C hI iX0_init_X0 tyX0 tyX0_ok nmX0 0 rfl rfl 11 (by decide) kX0_init_18 rfl rfl (.array .int) (by decide +kernel) rfl rfl (Nat.le_of_ble_eq_true rfl) [(t, .inr (0, [.int 0, .int 0, .int 0, .int 0, .int 0, .int 0, .int 0, .int 0, .int 0, .ref a1, .ref a2, .ref a3])), (a1, .inl ((xT X) 1, 5, .inl (fun _ => 0))), (a2, .inl ((xT X) 1, 5, .inl (fun _ => 0))), (a3, .inl ((xT X) 1, 5, .inl (fun _ => 0)))] rfl dX0_init_22 ?_
  refine s_aload_n C 0 dX0_init_25 rfl rfl ?_
  refine s_callV (n := 0) C [] _ _ _ (fun q4 hq => c_X0_becomeAsAtFirst (xL X) (xD X) (xT X) t 0 0 0 0 0 0 0 0 0 a1 a2 a3 q4 hq) gX0_init_X0_becomeAsAtFirst rfl rfl rfl ⟨rfl, by decide +kernel, by decide +kernel, by decide +kernel⟩ ⟨Nat.le_of_ble_eq_true rfl, Nat.le_of_ble_eq_true rfl⟩ ⟨Nat.le_of_ble_eq_true rfl, Nat.le_of_ble_eq_true rfl⟩ 0 0 rfl rfl rfl [.ref t] rfl (Nat.le_of_ble_eq_true rfl) dX0_init_26 [0] [1, 2, 3] [3, 0, 1, 2] (fun q4 => [(t, .inr (0, [.int q4.1, .int q4.2.1, .int q4.2.2.1, .int q4.2.2.2.1, .int q4.2.2.2.2.1, .int q4.2.2.2.2.2.1, .int q4.2.2.2.2.2.2.1, .int q4.2.2.2.2.2.2.2.1, .int q4.2.2.2.2.2.2.2.2, .ref a1, .ref a2, .ref a3])), (a1, .inl ((xT X) 1, 5, .inl (fun _ => 0))), (a2, .inl ((xT X) 1, 5, .inl (fun _ => 0))), (a3, .inl ((xT X) 1, 5, .inl (fun _ => 0)))]) rfl rfl (by decide) (by decide) (by decide) (fun _ => rfl) (by decide) (fun q4 => []) (fun _ => rfl) (fun q4 => ?_)
  exact s_retC hR (q4.1, q4.2.1, q4.2.2.1, q4.2.2.2.1, q4.2.2.2.2.1, q4.2.2.2.2.2.1, q4.2.2.2.2.2.2.1, q4.2.2.2.2.2.2.2.1, q4.2.2.2.2.2.2.2.2) (fun i => match i with | 0 => a1 | 1 => a2 | 2 => a3 | _ => 0) rfl (Nat.le_of_ble_eq_true rfl) (Nat.le_of_ble_eq_true rfl) dX0_init_29
theorem c_X0_init (l : Launch) (D : va_G) (T : Nat → ClassId) (t : Nat) : ∀ q : Int32 × Int32 × Int32 × Int32 × Int32 × Int32 × Int32 × Int32 × Int32, m_X0_init = some q → CtN l yX0_init wsX0_init { frames := 1, cells := 3, slots := 15, locals := 20 } [.ref t] D T [(t, .inr (0, [.int 0, .int 0, .int 0, .int 0, .int 0, .int 0, .int 0, .int 0, .int 0, .null, .null, .null]))] 3 15 (w1_X0_init T t q) := by
  refine ct_C 3 15 (by decide) rfl rfl (Nat.le_of_ble_eq_true rfl) m_X0_init (w1_X0_init T t) ?_
  intro X Qf hL hD hT C hI hR
  subst hT
  exact b_X0_init C hI hR
abbrev w1_X4_put (T : Nat → ClassId) (p0 : Nat) (p0_n : Nat) (q : (Nat → Int32)) : va_W := [(p0, .inl (T 1, p0_n, .inl q))]
noncomputable def m_X4_put (x1 : Int32) (x2 : Int32) (p0_n : Nat) (p0_c : Nat → Int32) : Option ((Nat → Int32)) :=
  if x1 < 0 then (some p0_c) else (if (Int32.ofNat p0_n) ≤ x1 then (some p0_c) else (stI p0_n p0_c x1 x2 (fun f1 => some f1)))
set_option maxHeartbeats 4000000 in
theorem b_X4_put {X : KX} {Qf : (Nat → Int32) → State → Prop} {x1 : Int32} {x2 : Int32} {p0 : Nat} {p0_n : Nat} {p0_c : Nat → Int32} (C : Cx X cX4_put RX4 wsX4_put 3 { frames := 0, cells := 0, slots := 0, locals := 0 }) (hR : RtV X Qf cX4_put 3 (fun _ => none) (w1_X4_put (xT X) p0 p0_n)) : Sim X Qf 0 0 3 (m_X4_put x1 x2 p0_n p0_c) [(p0, .inl ((xT X) 1, p0_n, .inl p0_c))] 0 [(0, .ref p0), (1, .int x1), (2, .int x2)] [] := by
  unfold m_X4_put
  refine s_iload_n C 1 dX4_put_0 rfl rfl ?_
  refine s_if_lt C 14 dX4_put_1 (by decide) ?_ ?_
  · exact s_retV hR p0_c rfl rfl dX4_put_14
  · refine s_iload_n C 1 dX4_put_4 rfl rfl ?_
    refine s_aload_n C 0 dX4_put_5 rfl rfl ?_
    refine s_alen C 0 1 rfl (by decide) dX4_put_6 ?_
    refine s_icmp_ge C 14 dX4_put_7 (by decide) ?_ ?_
    · exact s_retV hR p0_c rfl rfl dX4_put_14
    · refine s_aload_n C 0 dX4_put_10 rfl rfl ?_
      refine s_iload_n C 1 dX4_put_11 rfl rfl ?_
      refine s_iload_n C 2 dX4_put_12 rfl rfl ?_
      refine s_iast C 0 rfl (fun f1 => [(p0, .inl ((xT X) 1, p0_n, .inl f1))]) (fun _ => rfl) dX4_put_13 (fun f1 => ?_)
      exact s_retV hR f1 rfl rfl dX4_put_14
theorem c_X4_put (l : Launch) (D : va_G) (T : Nat → ClassId) (x1 : Int32) (x2 : Int32) (p0 : Nat) (p0_n : Nat) (p0_c : Nat → Int32) : ∀ q : (Nat → Int32), m_X4_put x1 x2 p0_n p0_c = some q → Ct l yX4_put wsX4_put { frames := 0, cells := 0, slots := 0, locals := 0 } [.ref p0, .int x1, .int x2] D T [(p0, .inl (T 1, p0_n, .inl p0_c))] ((fun _ => none) q) (w1_X4_put T p0 p0_n q) := by
  refine ct_V (by decide) rfl (Nat.le_of_ble_eq_true rfl) (m_X4_put x1 x2 p0_n p0_c) (fun _ => none) (w1_X4_put T p0 p0_n) ?_
  intro X Qf hL hD hT C hR
  subst hT
  exact b_X4_put C hR
theorem iX0_addCat_X0 : ∀ w ∈ u_ws RX0 TX0 12, w ∈ wsX0_addCat := by decide +kernel
theorem kX0_addCat_15 : Cond.fieldLink RX0 15 "NineCats$Plan" "habits" "[I" ∈ wsX0_addCat := by decide +kernel
theorem kX0_addCat_18 : Cond.fieldLink RX0 18 "NineCats$Plan" "leaders" "[I" ∈ wsX0_addCat := by decide +kernel
theorem kX0_addCat_40 : Cond.fieldLink RX0 40 "NineCats$Plan" "cats" "I" ∈ wsX0_addCat := by decide +kernel
theorem kX0_addCat_9 : Cond.fieldLink RX0 9 "NineCats$Plan" "starts" "[I" ∈ wsX0_addCat := by decide +kernel
abbrev w1_X0_addCat (T : Nat → ClassId) (t : Nat) (t_length : Int32) (t_width : Int32) (t_sunFirst : Int32) (t_pace : Int32) (t_nose : Int32) (t_bridgeMay : Int32) (t_sunMay : Int32) (t_noseMay : Int32) (t_starts : Nat) (t_habits : Nat) (t_leaders : Nat) (q : Int32 × (Nat → Int32) × (Nat → Int32) × (Nat → Int32)) : va_W := [(t, .inr (0, [.int t_length, .int t_width, .int t_sunFirst, .int t_pace, .int t_nose, .int q.1, .int t_bridgeMay, .int t_sunMay, .int t_noseMay, .ref t_starts, .ref t_habits, .ref t_leaders])), (t_starts, .inl (T 1, 5, .inl q.2.1)), (t_habits, .inl (T 1, 5, .inl q.2.2.1)), (t_leaders, .inl (T 1, 5, .inl q.2.2.2))]
noncomputable def m_X0_addCat (x1 : Int32) (x2 : Int32) (x3 : Int32) (t_cats : Int32) (t_starts_c : Nat → Int32) (t_habits_c : Nat → Int32) (t_leaders_c : Nat → Int32) : Option (Int32 × (Nat → Int32) × (Nat → Int32) × (Nat → Int32)) :=
  if 5 ≤ t_cats then (some (t_cats, t_starts_c, t_habits_c, t_leaders_c)) else ((m_X4_put t_cats x1 5 t_starts_c).bind (fun q1 => (m_X4_put t_cats x2 5 t_habits_c).bind (fun q2 => (m_X4_put t_cats x3 5 t_leaders_c).bind (fun q3 => nm (t_cats + 1) (fun y4 => some (y4, q1, q2, q3))))))
set_option maxHeartbeats 4000000 in
theorem b_X0_addCat {X : KX} {Qf : Int32 × (Nat → Int32) × (Nat → Int32) × (Nat → Int32) → State → Prop} {x1 : Int32} {x2 : Int32} {x3 : Int32} {t : Nat} {t_length : Int32} {t_width : Int32} {t_sunFirst : Int32} {t_pace : Int32} {t_nose : Int32} {t_cats : Int32} {t_bridgeMay : Int32} {t_sunMay : Int32} {t_noseMay : Int32} {t_starts : Nat} {t_habits : Nat} {t_leaders : Nat} {t_starts_c : Nat → Int32} {t_habits_c : Nat → Int32} {t_leaders_c : Nat → Int32} (C : Cx X cX0_addCat RX0 wsX0_addCat 4 { frames := 1, cells := 0, slots := 0, locals := 22 }) (hR : RtV X Qf cX0_addCat 4 (fun _ => none) (w1_X0_addCat (xT X) t t_length t_width t_sunFirst t_pace t_nose t_bridgeMay t_sunMay t_noseMay t_starts t_habits t_leaders)) : Sim X Qf 0 0 4 (m_X0_addCat x1 x2 x3 t_cats t_starts_c t_habits_c t_leaders_c) [(t, .inr (0, [.int t_length, .int t_width, .int t_sunFirst, .int t_pace, .int t_nose, .int t_cats, .int t_bridgeMay, .int t_sunMay, .int t_noseMay, .ref t_starts, .ref t_habits, .ref t_leaders])), (t_starts, .inl ((xT X) 1, 5, .inl t_starts_c)), (t_habits, .inl ((xT X) 1, 5, .inl t_habits_c)), (t_leaders, .inl ((xT X) 1, 5, .inl t_leaders_c))] 0 [(0, .ref t), (1, .int x1), (2, .int x2), (3, .int x3)] [] := by
  unfold m_X0_addCat
  refine s_aload_n C 0 dX0_addCat_0 rfl rfl ?_
  refine s_get C iX0_addCat_X0 0 rfl rfl 5 (by decide) kX0_addCat_40 (.int t_cats) rfl dX0_addCat_1 ?_
  refine s_iconst C 5 dX0_addCat_4 (by decide) ?_
  refine s_icmp_ge C 54 dX0_addCat_5 (by decide) ?_ ?_
  · exact s_retV hR (t_cats, t_starts_c, t_habits_c, t_leaders_c) rfl rfl dX0_addCat_54
  · refine s_aload_n C 0 dX0_addCat_8 rfl rfl ?_
    refine s_get C iX0_addCat_X0 0 rfl rfl 9 (by decide) kX0_addCat_9 (.ref t_starts) rfl dX0_addCat_9 ?_
    refine s_aload_n C 0 dX0_addCat_12 rfl rfl ?_
    refine s_get C iX0_addCat_X0 0 rfl rfl 5 (by decide) kX0_addCat_40 (.int t_cats) rfl dX0_addCat_13 ?_
    refine s_iload_n C 1 dX0_addCat_16 rfl rfl ?_
    refine s_callN (n := 3) C [.ref t_starts, .int t_cats, .int x1] _ _ _ (fun q1 hq => c_X4_put (xL X) (xD X) (xT X) t_cats x1 t_starts 5 t_starts_c q1 hq) gX0_addCat_X4_put_n53 rfl rfl rfl (host := RX4) (by decide +kernel) (by decide +kernel) (by decide +kernel) ⟨by decide +kernel, by decide +kernel, by decide +kernel⟩ ⟨Nat.le_of_ble_eq_true rfl, Nat.le_of_ble_eq_true rfl⟩ ⟨Nat.le_of_ble_eq_true rfl, Nat.le_of_ble_eq_true rfl⟩ rfl [.int x1, .int t_cats, .ref t_starts] rfl (Nat.le_of_ble_eq_true rfl) dX0_addCat_17 [1] [0, 2, 3] [0, 3, 1, 2] (fun q1 => [(t, .inr (0, [.int t_length, .int t_width, .int t_sunFirst, .int t_pace, .int t_nose, .int t_cats, .int t_bridgeMay, .int t_sunMay, .int t_noseMay, .ref t_starts, .ref t_habits, .ref t_leaders])), (t_starts, .inl ((xT X) 1, 5, .inl q1)), (t_habits, .inl ((xT X) 1, 5, .inl t_habits_c)), (t_leaders, .inl ((xT X) 1, 5, .inl t_leaders_c))]) rfl rfl (by decide) (by decide) (by decide) (fun _ => rfl) (by decide) (fun q1 => []) (fun _ => rfl) (fun q1 => ?_)
    refine s_aload_n C 0 dX0_addCat_20 rfl rfl ?_
    refine s_get C iX0_addCat_X0 0 rfl rfl 10 (by decide) kX0_addCat_15 (.ref t_habits) rfl dX0_addCat_21 ?_
    refine s_aload_n C 0 dX0_addCat_24 rfl rfl ?_
    refine s_get C iX0_addCat_X0 0 rfl rfl 5 (by decide) kX0_addCat_40 (.int t_cats) rfl dX0_addCat_25 ?_
    refine s_iload_n C 2 dX0_addCat_28 rfl rfl ?_
    refine s_callN (n := 3) C [.ref t_habits, .int t_cats, .int x2] _ _ _ (fun q2 hq => c_X4_put (xL X) (xD X) (xT X) t_cats x2 t_habits 5 t_habits_c q2 hq) gX0_addCat_X4_put_n53 rfl rfl rfl (host := RX4) (by decide +kernel) (by decide +kernel) (by decide +kernel) ⟨by decide +kernel, by decide +kernel, by decide +kernel⟩ ⟨Nat.le_of_ble_eq_true rfl, Nat.le_of_ble_eq_true rfl⟩ ⟨Nat.le_of_ble_eq_true rfl, Nat.le_of_ble_eq_true rfl⟩ rfl [.int x2, .int t_cats, .ref t_habits] rfl (Nat.le_of_ble_eq_true rfl) dX0_addCat_29 [2] [0, 1, 3] [0, 1, 3, 2] (fun q2 => [(t, .inr (0, [.int t_length, .int t_width, .int t_sunFirst, .int t_pace, .int t_nose, .int t_cats, .int t_bridgeMay, .int t_sunMay, .int t_noseMay, .ref t_starts, .ref t_habits, .ref t_leaders])), (t_starts, .inl ((xT X) 1, 5, .inl q1)), (t_habits, .inl ((xT X) 1, 5, .inl q2)), (t_leaders, .inl ((xT X) 1, 5, .inl t_leaders_c))]) rfl rfl (by decide) (by decide) (by decide) (fun _ => rfl) (by decide) (fun q2 => []) (fun _ => rfl) (fun q2 => ?_)
    refine s_aload_n C 0 dX0_addCat_32 rfl rfl ?_
    refine s_get C iX0_addCat_X0 0 rfl rfl 11 (by decide) kX0_addCat_18 (.ref t_leaders) rfl dX0_addCat_33 ?_
    refine s_aload_n C 0 dX0_addCat_36 rfl rfl ?_
    refine s_get C iX0_addCat_X0 0 rfl rfl 5 (by decide) kX0_addCat_40 (.int t_cats) rfl dX0_addCat_37 ?_
    refine s_iload_n C 3 dX0_addCat_40 rfl rfl ?_
    refine s_callN (n := 3) C [.ref t_leaders, .int t_cats, .int x3] _ _ _ (fun q3 hq => c_X4_put (xL X) (xD X) (xT X) t_cats x3 t_leaders 5 t_leaders_c q3 hq) gX0_addCat_X4_put_n53 rfl rfl rfl (host := RX4) (by decide +kernel) (by decide +kernel) (by decide +kernel) ⟨by decide +kernel, by decide +kernel, by decide +kernel⟩ ⟨Nat.le_of_ble_eq_true rfl, Nat.le_of_ble_eq_true rfl⟩ ⟨Nat.le_of_ble_eq_true rfl, Nat.le_of_ble_eq_true rfl⟩ rfl [.int x3, .int t_cats, .ref t_leaders] rfl (Nat.le_of_ble_eq_true rfl) dX0_addCat_41 [3] [0, 1, 2] [0, 1, 2, 3] (fun q3 => [(t, .inr (0, [.int t_length, .int t_width, .int t_sunFirst, .int t_pace, .int t_nose, .int t_cats, .int t_bridgeMay, .int t_sunMay, .int t_noseMay, .ref t_starts, .ref t_habits, .ref t_leaders])), (t_starts, .inl ((xT X) 1, 5, .inl q1)), (t_habits, .inl ((xT X) 1, 5, .inl q2)), (t_leaders, .inl ((xT X) 1, 5, .inl q3))]) rfl rfl (by decide) (by decide) (by decide) (fun _ => rfl) (by decide) (fun q3 => []) (fun _ => rfl) (fun q3 => ?_)
    refine s_aload_n C 0 dX0_addCat_44 rfl rfl ?_
    refine s_dup C dX0_addCat_45 rfl ?_
    refine s_get C iX0_addCat_X0 0 rfl rfl 5 (by decide) kX0_addCat_40 (.int t_cats) rfl dX0_addCat_46 ?_
    refine s_iconst C 1 dX0_addCat_49 (by decide) ?_
    refine s_iadd C dX0_addCat_50 ?_
    refine s_nmi (fun y4 => ?_)
    refine s_put C iX0_addCat_X0 tyX0 tyX0_ok nmX0 0 rfl rfl 5 (by decide) kX0_addCat_40 rfl .int (by decide +kernel) rfl rfl (Nat.le_of_ble_eq_true rfl) [(t, .inr (0, [.int t_length, .int t_width, .int t_sunFirst, .int t_pace, .int t_nose, .int y4, .int t_bridgeMay, .int t_sunMay, .int t_noseMay, .ref t_starts, .ref t_habits, .ref t_leaders])), (t_starts, .inl ((xT X) 1, 5, .inl q1)), (t_habits, .inl ((xT X) 1, 5, .inl q2)), (t_leaders, .inl ((xT X) 1, 5, .inl q3))] rfl dX0_addCat_51 ?_
    exact s_retV hR (y4, q1, q2, q3) rfl rfl dX0_addCat_54
theorem c_X0_addCat (l : Launch) (D : va_G) (T : Nat → ClassId) (x1 : Int32) (x2 : Int32) (x3 : Int32) (t : Nat) (t_length : Int32) (t_width : Int32) (t_sunFirst : Int32) (t_pace : Int32) (t_nose : Int32) (t_cats : Int32) (t_bridgeMay : Int32) (t_sunMay : Int32) (t_noseMay : Int32) (t_starts : Nat) (t_habits : Nat) (t_leaders : Nat) (t_starts_c : Nat → Int32) (t_habits_c : Nat → Int32) (t_leaders_c : Nat → Int32) : ∀ q : Int32 × (Nat → Int32) × (Nat → Int32) × (Nat → Int32), m_X0_addCat x1 x2 x3 t_cats t_starts_c t_habits_c t_leaders_c = some q → Ct l yX0_addCat wsX0_addCat { frames := 1, cells := 0, slots := 0, locals := 22 } [.ref t, .int x1, .int x2, .int x3] D T [(t, .inr (0, [.int t_length, .int t_width, .int t_sunFirst, .int t_pace, .int t_nose, .int t_cats, .int t_bridgeMay, .int t_sunMay, .int t_noseMay, .ref t_starts, .ref t_habits, .ref t_leaders])), (t_starts, .inl (T 1, 5, .inl t_starts_c)), (t_habits, .inl (T 1, 5, .inl t_habits_c)), (t_leaders, .inl (T 1, 5, .inl t_leaders_c))] ((fun _ => none) q) (w1_X0_addCat T t t_length t_width t_sunFirst t_pace t_nose t_bridgeMay t_sunMay t_noseMay t_starts t_habits t_leaders q) := by
  refine ct_V (by decide) rfl (Nat.le_of_ble_eq_true rfl) (m_X0_addCat x1 x2 x3 t_cats t_starts_c t_habits_c t_leaders_c) (fun _ => none) (w1_X0_addCat T t t_length t_width t_sunFirst t_pace t_nose t_bridgeMay t_sunMay t_noseMay t_starts t_habits t_leaders) ?_
  intro X Qf hL hD hT C hR
  subst hT
  exact b_X0_addCat C hR
abbrev w1_X4_entry (T : Nat → ClassId) (p0 : Nat) (p0_n : Nat) (p0_c : Nat → Int32) (q : Int32) : va_W := [(p0, .inl (T 1, p0_n, .inl p0_c))]
noncomputable def m_X4_entry (x1 : Int32) (p0_n : Nat) (p0_c : Nat → Int32) : Option (Int32) :=
  if x1 < 0 then (some 0) else (if (Int32.ofNat p0_n) ≤ x1 then (some 0) else (ldI p0_n p0_c x1 (fun y1 => some y1)))
set_option maxHeartbeats 4000000 in
theorem b_X4_entry {X : KX} {Qf : Int32 → State → Prop} {x1 : Int32} {p0 : Nat} {p0_n : Nat} {p0_c : Nat → Int32} (C : Cx X cX4_entry RX4 wsX4_entry 2 { frames := 0, cells := 0, slots := 0, locals := 0 }) (hR : RtI X Qf cX4_entry 2 (fun q => some (.int q)) (w1_X4_entry (xT X) p0 p0_n p0_c)) : Sim X Qf 0 0 2 (m_X4_entry x1 p0_n p0_c) [(p0, .inl ((xT X) 1, p0_n, .inl p0_c))] 0 [(0, .ref p0), (1, .int x1)] [] := by
  unfold m_X4_entry
  refine s_iload_n C 1 dX4_entry_0 rfl rfl ?_
  refine s_if_lt C 16 dX4_entry_1 (by decide) ?_ ?_
  · refine s_iconst C 0 dX4_entry_16 (by decide) ?_
    exact s_retI hR 0 rfl rfl dX4_entry_17
  · refine s_iload_n C 1 dX4_entry_4 rfl rfl ?_
    refine s_aload_n C 0 dX4_entry_5 rfl rfl ?_
    refine s_alen C 0 1 rfl (by decide) dX4_entry_6 ?_
    refine s_icmp_ge C 16 dX4_entry_7 (by decide) ?_ ?_
    · refine s_iconst C 0 dX4_entry_16 (by decide) ?_
      exact s_retI hR 0 rfl rfl dX4_entry_17
    · refine s_aload_n C 0 dX4_entry_10 rfl rfl ?_
      refine s_iload_n C 1 dX4_entry_11 rfl rfl ?_
      refine s_iald C 0 rfl dX4_entry_12 (fun y1 => ?_)
      refine s_goto C 17 dX4_entry_13 (by decide) ?_
      exact s_retI hR y1 rfl rfl dX4_entry_17
theorem c_X4_entry (l : Launch) (D : va_G) (T : Nat → ClassId) (x1 : Int32) (p0 : Nat) (p0_n : Nat) (p0_c : Nat → Int32) : ∀ q : Int32, m_X4_entry x1 p0_n p0_c = some q → Ct l yX4_entry wsX4_entry { frames := 0, cells := 0, slots := 0, locals := 0 } [.ref p0, .int x1] D T [(p0, .inl (T 1, p0_n, .inl p0_c))] ((fun q => some (.int q)) q) (w1_X4_entry T p0 p0_n p0_c q) := by
  refine ct_I (by decide) rfl (Nat.le_of_ble_eq_true rfl) (m_X4_entry x1 p0_n p0_c) (fun q => some (.int q)) (w1_X4_entry T p0 p0_n p0_c) ?_
  intro X Qf hL hD hT C hR
  subst hT
  exact b_X4_entry C hR
theorem iX0_startOf_X0 : ∀ w ∈ u_ws RX0 TX0 12, w ∈ wsX0_startOf := by decide +kernel
theorem kX0_startOf_9 : Cond.fieldLink RX0 9 "NineCats$Plan" "starts" "[I" ∈ wsX0_startOf := by decide +kernel
abbrev w1_X0_startOf (T : Nat → ClassId) (t : Nat) (t_length : Int32) (t_width : Int32) (t_sunFirst : Int32) (t_pace : Int32) (t_nose : Int32) (t_cats : Int32) (t_bridgeMay : Int32) (t_sunMay : Int32) (t_noseMay : Int32) (t_starts : Nat) (t_habits : Nat) (t_leaders : Nat) (t_starts_c : Nat → Int32) (q : Int32) : va_W := [(t, .inr (0, [.int t_length, .int t_width, .int t_sunFirst, .int t_pace, .int t_nose, .int t_cats, .int t_bridgeMay, .int t_sunMay, .int t_noseMay, .ref t_starts, .ref t_habits, .ref t_leaders])), (t_starts, .inl (T 1, 5, .inl t_starts_c))]
noncomputable def m_X0_startOf (x1 : Int32) (t_starts_c : Nat → Int32) : Option (Int32) :=
  (m_X4_entry x1 5 t_starts_c).bind (fun q1 => some q1)
set_option maxHeartbeats 4000000 in
theorem b_X0_startOf {X : KX} {Qf : Int32 → State → Prop} {x1 : Int32} {t : Nat} {t_length : Int32} {t_width : Int32} {t_sunFirst : Int32} {t_pace : Int32} {t_nose : Int32} {t_cats : Int32} {t_bridgeMay : Int32} {t_sunMay : Int32} {t_noseMay : Int32} {t_starts : Nat} {t_habits : Nat} {t_leaders : Nat} {t_starts_c : Nat → Int32} (C : Cx X cX0_startOf RX0 wsX0_startOf 2 { frames := 1, cells := 0, slots := 0, locals := 21 }) (hR : RtI X Qf cX0_startOf 2 (fun q => some (.int q)) (w1_X0_startOf (xT X) t t_length t_width t_sunFirst t_pace t_nose t_cats t_bridgeMay t_sunMay t_noseMay t_starts t_habits t_leaders t_starts_c)) : Sim X Qf 0 0 2 (m_X0_startOf x1 t_starts_c) [(t, .inr (0, [.int t_length, .int t_width, .int t_sunFirst, .int t_pace, .int t_nose, .int t_cats, .int t_bridgeMay, .int t_sunMay, .int t_noseMay, .ref t_starts, .ref t_habits, .ref t_leaders])), (t_starts, .inl ((xT X) 1, 5, .inl t_starts_c))] 0 [(0, .ref t), (1, .int x1)] [] := by
  unfold m_X0_startOf
  refine s_aload_n C 0 dX0_startOf_0 rfl rfl ?_
  refine s_get C iX0_startOf_X0 0 rfl rfl 9 (by decide) kX0_startOf_9 (.ref t_starts) rfl dX0_startOf_1 ?_
  refine s_iload_n C 1 dX0_startOf_4 rfl rfl ?_
  refine s_callN (n := 2) C [.ref t_starts, .int x1] _ _ _ (fun q1 hq => c_X4_entry (xL X) (xD X) (xT X) x1 t_starts 5 t_starts_c q1 hq) gX0_startOf_X4_entry_n57 rfl rfl rfl (host := RX4) (by decide +kernel) (by decide +kernel) (by decide +kernel) ⟨by decide +kernel, by decide +kernel, by decide +kernel⟩ ⟨Nat.le_of_ble_eq_true rfl, Nat.le_of_ble_eq_true rfl⟩ ⟨Nat.le_of_ble_eq_true rfl, Nat.le_of_ble_eq_true rfl⟩ rfl [.int x1, .ref t_starts] rfl (Nat.le_of_ble_eq_true rfl) dX0_startOf_5 [1] [0] [0, 1] (fun q1 => [(t, .inr (0, [.int t_length, .int t_width, .int t_sunFirst, .int t_pace, .int t_nose, .int t_cats, .int t_bridgeMay, .int t_sunMay, .int t_noseMay, .ref t_starts, .ref t_habits, .ref t_leaders])), (t_starts, .inl ((xT X) 1, 5, .inl t_starts_c))]) rfl rfl (by decide) (by decide) (by decide) (fun _ => rfl) (by decide) (fun q1 => [.int q1]) (fun _ => rfl) (fun q1 => ?_)
  exact s_retI hR q1 rfl rfl dX0_startOf_8
theorem c_X0_startOf (l : Launch) (D : va_G) (T : Nat → ClassId) (x1 : Int32) (t : Nat) (t_length : Int32) (t_width : Int32) (t_sunFirst : Int32) (t_pace : Int32) (t_nose : Int32) (t_cats : Int32) (t_bridgeMay : Int32) (t_sunMay : Int32) (t_noseMay : Int32) (t_starts : Nat) (t_habits : Nat) (t_leaders : Nat) (t_starts_c : Nat → Int32) : ∀ q : Int32, m_X0_startOf x1 t_starts_c = some q → Ct l yX0_startOf wsX0_startOf { frames := 1, cells := 0, slots := 0, locals := 21 } [.ref t, .int x1] D T [(t, .inr (0, [.int t_length, .int t_width, .int t_sunFirst, .int t_pace, .int t_nose, .int t_cats, .int t_bridgeMay, .int t_sunMay, .int t_noseMay, .ref t_starts, .ref t_habits, .ref t_leaders])), (t_starts, .inl (T 1, 5, .inl t_starts_c))] ((fun q => some (.int q)) q) (w1_X0_startOf T t t_length t_width t_sunFirst t_pace t_nose t_cats t_bridgeMay t_sunMay t_noseMay t_starts t_habits t_leaders t_starts_c q) := by
  refine ct_I (by decide) rfl (Nat.le_of_ble_eq_true rfl) (m_X0_startOf x1 t_starts_c) (fun q => some (.int q)) (w1_X0_startOf T t t_length t_width t_sunFirst t_pace t_nose t_cats t_bridgeMay t_sunMay t_noseMay t_starts t_habits t_leaders t_starts_c) ?_
  intro X Qf hL hD hT C hR
  subst hT
  exact b_X0_startOf C hR
theorem iX0_habitOf_X0 : ∀ w ∈ u_ws RX0 TX0 12, w ∈ wsX0_habitOf := by decide +kernel
theorem kX0_habitOf_15 : Cond.fieldLink RX0 15 "NineCats$Plan" "habits" "[I" ∈ wsX0_habitOf := by decide +kernel
theorem kX0_habitOf_40 : Cond.fieldLink RX0 40 "NineCats$Plan" "cats" "I" ∈ wsX0_habitOf := by decide +kernel
abbrev w1_X0_habitOf (T : Nat → ClassId) (t : Nat) (t_length : Int32) (t_width : Int32) (t_sunFirst : Int32) (t_pace : Int32) (t_nose : Int32) (t_cats : Int32) (t_bridgeMay : Int32) (t_sunMay : Int32) (t_noseMay : Int32) (t_starts : Nat) (t_habits : Nat) (t_leaders : Nat) (t_habits_c : Nat → Int32) (q : Int32) : va_W := [(t, .inr (0, [.int t_length, .int t_width, .int t_sunFirst, .int t_pace, .int t_nose, .int t_cats, .int t_bridgeMay, .int t_sunMay, .int t_noseMay, .ref t_starts, .ref t_habits, .ref t_leaders])), (t_habits, .inl (T 1, 5, .inl t_habits_c))]
noncomputable def m_X0_habitOf (x1 : Int32) (t_cats : Int32) (t_habits_c : Nat → Int32) : Option (Int32) :=
  if t_cats ≤ x1 then (some 0) else ((m_X4_entry x1 5 t_habits_c).bind (fun q1 => some q1))
set_option maxHeartbeats 4000000 in
theorem b_X0_habitOf {X : KX} {Qf : Int32 → State → Prop} {x1 : Int32} {t : Nat} {t_length : Int32} {t_width : Int32} {t_sunFirst : Int32} {t_pace : Int32} {t_nose : Int32} {t_cats : Int32} {t_bridgeMay : Int32} {t_sunMay : Int32} {t_noseMay : Int32} {t_starts : Nat} {t_habits : Nat} {t_leaders : Nat} {t_habits_c : Nat → Int32} (C : Cx X cX0_habitOf RX0 wsX0_habitOf 2 { frames := 1, cells := 0, slots := 0, locals := 21 }) (hR : RtI X Qf cX0_habitOf 2 (fun q => some (.int q)) (w1_X0_habitOf (xT X) t t_length t_width t_sunFirst t_pace t_nose t_cats t_bridgeMay t_sunMay t_noseMay t_starts t_habits t_leaders t_habits_c)) : Sim X Qf 0 0 2 (m_X0_habitOf x1 t_cats t_habits_c) [(t, .inr (0, [.int t_length, .int t_width, .int t_sunFirst, .int t_pace, .int t_nose, .int t_cats, .int t_bridgeMay, .int t_sunMay, .int t_noseMay, .ref t_starts, .ref t_habits, .ref t_leaders])), (t_habits, .inl ((xT X) 1, 5, .inl t_habits_c))] 0 [(0, .ref t), (1, .int x1)] [] := by
  unfold m_X0_habitOf
  refine s_iload_n C 1 dX0_habitOf_0 rfl rfl ?_
  refine s_aload_n C 0 dX0_habitOf_1 rfl rfl ?_
  refine s_get C iX0_habitOf_X0 0 rfl rfl 5 (by decide) kX0_habitOf_40 (.int t_cats) rfl dX0_habitOf_2 ?_
  refine s_icmp_ge C 19 dX0_habitOf_5 (by decide) ?_ ?_
  · refine s_iconst C 0 dX0_habitOf_19 (by decide) ?_
    exact s_retI hR 0 rfl rfl dX0_habitOf_20
  · refine s_aload_n C 0 dX0_habitOf_8 rfl rfl ?_
    refine s_get C iX0_habitOf_X0 0 rfl rfl 10 (by decide) kX0_habitOf_15 (.ref t_habits) rfl dX0_habitOf_9 ?_
    refine s_iload_n C 1 dX0_habitOf_12 rfl rfl ?_
    refine s_callN (n := 2) C [.ref t_habits, .int x1] _ _ _ (fun q1 hq => c_X4_entry (xL X) (xD X) (xT X) x1 t_habits 5 t_habits_c q1 hq) gX0_habitOf_X4_entry_n57 rfl rfl rfl (host := RX4) (by decide +kernel) (by decide +kernel) (by decide +kernel) ⟨by decide +kernel, by decide +kernel, by decide +kernel⟩ ⟨Nat.le_of_ble_eq_true rfl, Nat.le_of_ble_eq_true rfl⟩ ⟨Nat.le_of_ble_eq_true rfl, Nat.le_of_ble_eq_true rfl⟩ rfl [.int x1, .ref t_habits] rfl (Nat.le_of_ble_eq_true rfl) dX0_habitOf_13 [1] [0] [0, 1] (fun q1 => [(t, .inr (0, [.int t_length, .int t_width, .int t_sunFirst, .int t_pace, .int t_nose, .int t_cats, .int t_bridgeMay, .int t_sunMay, .int t_noseMay, .ref t_starts, .ref t_habits, .ref t_leaders])), (t_habits, .inl ((xT X) 1, 5, .inl t_habits_c))]) rfl rfl (by decide) (by decide) (by decide) (fun _ => rfl) (by decide) (fun q1 => [.int q1]) (fun _ => rfl) (fun q1 => ?_)
    refine s_goto C 20 dX0_habitOf_16 (by decide) ?_
    exact s_retI hR q1 rfl rfl dX0_habitOf_20
theorem c_X0_habitOf (l : Launch) (D : va_G) (T : Nat → ClassId) (x1 : Int32) (t : Nat) (t_length : Int32) (t_width : Int32) (t_sunFirst : Int32) (t_pace : Int32) (t_nose : Int32) (t_cats : Int32) (t_bridgeMay : Int32) (t_sunMay : Int32) (t_noseMay : Int32) (t_starts : Nat) (t_habits : Nat) (t_leaders : Nat) (t_habits_c : Nat → Int32) : ∀ q : Int32, m_X0_habitOf x1 t_cats t_habits_c = some q → Ct l yX0_habitOf wsX0_habitOf { frames := 1, cells := 0, slots := 0, locals := 21 } [.ref t, .int x1] D T [(t, .inr (0, [.int t_length, .int t_width, .int t_sunFirst, .int t_pace, .int t_nose, .int t_cats, .int t_bridgeMay, .int t_sunMay, .int t_noseMay, .ref t_starts, .ref t_habits, .ref t_leaders])), (t_habits, .inl (T 1, 5, .inl t_habits_c))] ((fun q => some (.int q)) q) (w1_X0_habitOf T t t_length t_width t_sunFirst t_pace t_nose t_cats t_bridgeMay t_sunMay t_noseMay t_starts t_habits t_leaders t_habits_c q) := by
  refine ct_I (by decide) rfl (Nat.le_of_ble_eq_true rfl) (m_X0_habitOf x1 t_cats t_habits_c) (fun q => some (.int q)) (w1_X0_habitOf T t t_length t_width t_sunFirst t_pace t_nose t_cats t_bridgeMay t_sunMay t_noseMay t_starts t_habits t_leaders t_habits_c) ?_
  intro X Qf hL hD hT C hR
  subst hT
  exact b_X0_habitOf C hR
theorem iX0_leaderOf_X0 : ∀ w ∈ u_ws RX0 TX0 12, w ∈ wsX0_leaderOf := by decide +kernel
theorem kX0_leaderOf_18 : Cond.fieldLink RX0 18 "NineCats$Plan" "leaders" "[I" ∈ wsX0_leaderOf := by decide +kernel
abbrev w1_X0_leaderOf (T : Nat → ClassId) (t : Nat) (t_length : Int32) (t_width : Int32) (t_sunFirst : Int32) (t_pace : Int32) (t_nose : Int32) (t_cats : Int32) (t_bridgeMay : Int32) (t_sunMay : Int32) (t_noseMay : Int32) (t_starts : Nat) (t_habits : Nat) (t_leaders : Nat) (t_leaders_c : Nat → Int32) (q : Int32) : va_W := [(t, .inr (0, [.int t_length, .int t_width, .int t_sunFirst, .int t_pace, .int t_nose, .int t_cats, .int t_bridgeMay, .int t_sunMay, .int t_noseMay, .ref t_starts, .ref t_habits, .ref t_leaders])), (t_leaders, .inl (T 1, 5, .inl t_leaders_c))]
noncomputable def m_X0_leaderOf (x1 : Int32) (t_leaders_c : Nat → Int32) : Option (Int32) :=
  (m_X4_entry x1 5 t_leaders_c).bind (fun q1 => some q1)
set_option maxHeartbeats 4000000 in
theorem b_X0_leaderOf {X : KX} {Qf : Int32 → State → Prop} {x1 : Int32} {t : Nat} {t_length : Int32} {t_width : Int32} {t_sunFirst : Int32} {t_pace : Int32} {t_nose : Int32} {t_cats : Int32} {t_bridgeMay : Int32} {t_sunMay : Int32} {t_noseMay : Int32} {t_starts : Nat} {t_habits : Nat} {t_leaders : Nat} {t_leaders_c : Nat → Int32} (C : Cx X cX0_leaderOf RX0 wsX0_leaderOf 2 { frames := 1, cells := 0, slots := 0, locals := 21 }) (hR : RtI X Qf cX0_leaderOf 2 (fun q => some (.int q)) (w1_X0_leaderOf (xT X) t t_length t_width t_sunFirst t_pace t_nose t_cats t_bridgeMay t_sunMay t_noseMay t_starts t_habits t_leaders t_leaders_c)) : Sim X Qf 0 0 2 (m_X0_leaderOf x1 t_leaders_c) [(t, .inr (0, [.int t_length, .int t_width, .int t_sunFirst, .int t_pace, .int t_nose, .int t_cats, .int t_bridgeMay, .int t_sunMay, .int t_noseMay, .ref t_starts, .ref t_habits, .ref t_leaders])), (t_leaders, .inl ((xT X) 1, 5, .inl t_leaders_c))] 0 [(0, .ref t), (1, .int x1)] [] := by
  unfold m_X0_leaderOf
  refine s_aload_n C 0 dX0_leaderOf_0 rfl rfl ?_
  refine s_get C iX0_leaderOf_X0 0 rfl rfl 11 (by decide) kX0_leaderOf_18 (.ref t_leaders) rfl dX0_leaderOf_1 ?_
  refine s_iload_n C 1 dX0_leaderOf_4 rfl rfl ?_
  refine s_callN (n := 2) C [.ref t_leaders, .int x1] _ _ _ (fun q1 hq => c_X4_entry (xL X) (xD X) (xT X) x1 t_leaders 5 t_leaders_c q1 hq) gX0_leaderOf_X4_entry_n57 rfl rfl rfl (host := RX4) (by decide +kernel) (by decide +kernel) (by decide +kernel) ⟨by decide +kernel, by decide +kernel, by decide +kernel⟩ ⟨Nat.le_of_ble_eq_true rfl, Nat.le_of_ble_eq_true rfl⟩ ⟨Nat.le_of_ble_eq_true rfl, Nat.le_of_ble_eq_true rfl⟩ rfl [.int x1, .ref t_leaders] rfl (Nat.le_of_ble_eq_true rfl) dX0_leaderOf_5 [1] [0] [0, 1] (fun q1 => [(t, .inr (0, [.int t_length, .int t_width, .int t_sunFirst, .int t_pace, .int t_nose, .int t_cats, .int t_bridgeMay, .int t_sunMay, .int t_noseMay, .ref t_starts, .ref t_habits, .ref t_leaders])), (t_leaders, .inl ((xT X) 1, 5, .inl t_leaders_c))]) rfl rfl (by decide) (by decide) (by decide) (fun _ => rfl) (by decide) (fun q1 => [.int q1]) (fun _ => rfl) (fun q1 => ?_)
  exact s_retI hR q1 rfl rfl dX0_leaderOf_8
theorem c_X0_leaderOf (l : Launch) (D : va_G) (T : Nat → ClassId) (x1 : Int32) (t : Nat) (t_length : Int32) (t_width : Int32) (t_sunFirst : Int32) (t_pace : Int32) (t_nose : Int32) (t_cats : Int32) (t_bridgeMay : Int32) (t_sunMay : Int32) (t_noseMay : Int32) (t_starts : Nat) (t_habits : Nat) (t_leaders : Nat) (t_leaders_c : Nat → Int32) : ∀ q : Int32, m_X0_leaderOf x1 t_leaders_c = some q → Ct l yX0_leaderOf wsX0_leaderOf { frames := 1, cells := 0, slots := 0, locals := 21 } [.ref t, .int x1] D T [(t, .inr (0, [.int t_length, .int t_width, .int t_sunFirst, .int t_pace, .int t_nose, .int t_cats, .int t_bridgeMay, .int t_sunMay, .int t_noseMay, .ref t_starts, .ref t_habits, .ref t_leaders])), (t_leaders, .inl (T 1, 5, .inl t_leaders_c))] ((fun q => some (.int q)) q) (w1_X0_leaderOf T t t_length t_width t_sunFirst t_pace t_nose t_cats t_bridgeMay t_sunMay t_noseMay t_starts t_habits t_leaders t_leaders_c q) := by
  refine ct_I (by decide) rfl (Nat.le_of_ble_eq_true rfl) (m_X0_leaderOf x1 t_leaders_c) (fun q => some (.int q)) (w1_X0_leaderOf T t t_length t_width t_sunFirst t_pace t_nose t_cats t_bridgeMay t_sunMay t_noseMay t_starts t_habits t_leaders t_leaders_c) ?_
  intro X Qf hL hD hT C hR
  subst hT
  exact b_X0_leaderOf C hR
theorem iX0_tellsCatIn_X0 : ∀ w ∈ u_ws RX0 TX0 12, w ∈ wsX0_tellsCatIn := by decide +kernel
theorem kX0_tellsCatIn_40 : Cond.fieldLink RX0 40 "NineCats$Plan" "cats" "I" ∈ wsX0_tellsCatIn := by decide +kernel
abbrev w1_X0_tellsCatIn (T : Nat → ClassId) (t : Nat) (t_length : Int32) (t_width : Int32) (t_sunFirst : Int32) (t_pace : Int32) (t_nose : Int32) (t_cats : Int32) (t_bridgeMay : Int32) (t_sunMay : Int32) (t_noseMay : Int32) (t_starts : Nat) (t_habits : Nat) (t_leaders : Nat) (t_starts_c : Nat → Int32) (q : Int32) : va_W := [(t, .inr (0, [.int t_length, .int t_width, .int t_sunFirst, .int t_pace, .int t_nose, .int t_cats, .int t_bridgeMay, .int t_sunMay, .int t_noseMay, .ref t_starts, .ref t_habits, .ref t_leaders])), (t_starts, .inl (T 1, 5, .inl t_starts_c))]
noncomputable def X0_tellsCatIn_f2 (x1 : Int32) (t_cats : Int32) (t_starts_c : Nat → Int32) (kx2_19 : Unit → Option (Int32)) (kx2_27 : Unit → Option (Int32)) (rec2 : Int32 → Option (Int32)) (x2 : Int32) : Option (Int32) :=
  if t_cats ≤ x2 then (kx2_27 ()) else ((m_X0_startOf x2 t_starts_c).bind (fun q1 => if q1 = x1 then (kx2_19 ()) else (rec2 (x2 + 1))))
set_option maxHeartbeats 4000000 in
theorem bX0_tellsCatIn_f2 {X : KX} {Qf : Int32 → State → Prop} {x1 : Int32} {t : Nat} {t_length : Int32} {t_width : Int32} {t_sunFirst : Int32} {t_pace : Int32} {t_nose : Int32} {t_cats : Int32} {t_bridgeMay : Int32} {t_sunMay : Int32} {t_noseMay : Int32} {t_starts : Nat} {t_habits : Nat} {t_leaders : Nat} {t_starts_c : Nat → Int32} (C : Cx X cX0_tellsCatIn RX0 wsX0_tellsCatIn 3 { frames := 2, cells := 0, slots := 0, locals := 42 }) (hR : RtZ X Qf cX0_tellsCatIn 3 (fun q => some (.int q)) (w1_X0_tellsCatIn (xT X) t t_length t_width t_sunFirst t_pace t_nose t_cats t_bridgeMay t_sunMay t_noseMay t_starts t_habits t_leaders t_starts_c)) (kx2_19 : Unit → Option (Int32)) (hkx2_19 : ∀ (_ : Unit), Sim X Qf 0 0 3 (kx2_19 ()) [(t, .inr (0, [.int t_length, .int t_width, .int t_sunFirst, .int t_pace, .int t_nose, .int t_cats, .int t_bridgeMay, .int t_sunMay, .int t_noseMay, .ref t_starts, .ref t_habits, .ref t_leaders])), (t_starts, .inl ((xT X) 1, 5, .inl t_starts_c))] 19 [] []) (kx2_27 : Unit → Option (Int32)) (hkx2_27 : ∀ (_ : Unit), Sim X Qf 0 0 3 (kx2_27 ()) [(t, .inr (0, [.int t_length, .int t_width, .int t_sunFirst, .int t_pace, .int t_nose, .int t_cats, .int t_bridgeMay, .int t_sunMay, .int t_noseMay, .ref t_starts, .ref t_habits, .ref t_leaders])), (t_starts, .inl ((xT X) 1, 5, .inl t_starts_c))] 27 [] []) (rec2 : Int32 → Option (Int32)) (hrec2 : ∀ (x2 : Int32), Sim X Qf 0 0 3 (rec2 x2) [(t, .inr (0, [.int t_length, .int t_width, .int t_sunFirst, .int t_pace, .int t_nose, .int t_cats, .int t_bridgeMay, .int t_sunMay, .int t_noseMay, .ref t_starts, .ref t_habits, .ref t_leaders])), (t_starts, .inl ((xT X) 1, 5, .inl t_starts_c))] 2 [(0, .ref t), (1, .int x1), (2, .int x2)] []) (x2 : Int32) : Sim X Qf 0 0 3 (X0_tellsCatIn_f2 x1 t_cats t_starts_c kx2_19 kx2_27 rec2 x2) [(t, .inr (0, [.int t_length, .int t_width, .int t_sunFirst, .int t_pace, .int t_nose, .int t_cats, .int t_bridgeMay, .int t_sunMay, .int t_noseMay, .ref t_starts, .ref t_habits, .ref t_leaders])), (t_starts, .inl ((xT X) 1, 5, .inl t_starts_c))] 2 [(0, .ref t), (1, .int x1), (2, .int x2)] [] := by
  unfold X0_tellsCatIn_f2
  refine s_iload_n C 2 dX0_tellsCatIn_2 rfl rfl ?_
  refine s_aload_n C 0 dX0_tellsCatIn_3 rfl rfl ?_
  refine s_get C iX0_tellsCatIn_X0 0 rfl rfl 5 (by decide) kX0_tellsCatIn_40 (.int t_cats) rfl dX0_tellsCatIn_4 ?_
  refine s_icmp_ge C 27 dX0_tellsCatIn_7 (by decide) ?_ ?_
  · refine s_lv [] (lv' := []) rfl ?_
    exact hkx2_27 ()
  · refine s_aload_n C 0 dX0_tellsCatIn_10 rfl rfl ?_
    refine s_iload_n C 2 dX0_tellsCatIn_11 rfl rfl ?_
    refine s_callV (n := 1) C [.int x2] _ _ _ (fun q1 hq => c_X0_startOf (xL X) (xD X) (xT X) x2 t t_length t_width t_sunFirst t_pace t_nose t_cats t_bridgeMay t_sunMay t_noseMay t_starts t_habits t_leaders t_starts_c q1 hq) gX0_tellsCatIn_X0_startOf rfl rfl rfl ⟨rfl, by decide +kernel, by decide +kernel, by decide +kernel⟩ ⟨Nat.le_of_ble_eq_true rfl, Nat.le_of_ble_eq_true rfl⟩ ⟨Nat.le_of_ble_eq_true rfl, Nat.le_of_ble_eq_true rfl⟩ 0 0 rfl rfl rfl [.int x2, .ref t] rfl (Nat.le_of_ble_eq_true rfl) dX0_tellsCatIn_12 [0, 1] [] [0, 1] (fun q1 => [(t, .inr (0, [.int t_length, .int t_width, .int t_sunFirst, .int t_pace, .int t_nose, .int t_cats, .int t_bridgeMay, .int t_sunMay, .int t_noseMay, .ref t_starts, .ref t_habits, .ref t_leaders])), (t_starts, .inl ((xT X) 1, 5, .inl t_starts_c))]) rfl rfl (by decide) (by decide) (by decide) (fun _ => rfl) (by decide) (fun q1 => [.int q1]) (fun _ => rfl) (fun q1 => ?_)
    refine s_iload_n C 1 dX0_tellsCatIn_15 rfl rfl ?_
    refine s_icmp_ne C 21 dX0_tellsCatIn_16 (by decide) ?_ ?_
    · refine s_iinc C [(2, .int (x2 + 1)), (0, .ref t), (1, .int x1)] 2 dX0_tellsCatIn_21 rfl (congrArg (fun z => x2 + z) (show Int32.ofInt 1 = 1 by decide)) (by decide) rfl ?_
      refine s_goto C 2 dX0_tellsCatIn_24 (by decide) ?_
      refine s_lv [1, 2, 0] (lv' := [(0, .ref t), (1, .int x1), (2, .int (x2 + 1))]) rfl ?_
      exact hrec2 (x2 + 1)
    · refine s_lv [] (lv' := []) rfl ?_
      exact hkx2_19 ()
noncomputable def m_X0_tellsCatIn (x1 : Int32) (t_cats : Int32) (t_starts_c : Nat → Int32) : Option (Int32) :=
  lpN (fun (rec : Int32 → Option (Int32)) (s : Int32) => X0_tellsCatIn_f2 x1 t_cats t_starts_c (fun _ => bzI 1 (some 1)) (fun _ => bzI 0 (some 0)) (fun r0 => rec (r0)) s) fz (0)
set_option maxHeartbeats 4000000 in
theorem b_X0_tellsCatIn {X : KX} {Qf : Int32 → State → Prop} {x1 : Int32} {t : Nat} {t_length : Int32} {t_width : Int32} {t_sunFirst : Int32} {t_pace : Int32} {t_nose : Int32} {t_cats : Int32} {t_bridgeMay : Int32} {t_sunMay : Int32} {t_noseMay : Int32} {t_starts : Nat} {t_habits : Nat} {t_leaders : Nat} {t_starts_c : Nat → Int32} (C : Cx X cX0_tellsCatIn RX0 wsX0_tellsCatIn 3 { frames := 2, cells := 0, slots := 0, locals := 42 }) (hR : RtZ X Qf cX0_tellsCatIn 3 (fun q => some (.int q)) (w1_X0_tellsCatIn (xT X) t t_length t_width t_sunFirst t_pace t_nose t_cats t_bridgeMay t_sunMay t_noseMay t_starts t_habits t_leaders t_starts_c)) : Sim X Qf 0 0 3 (m_X0_tellsCatIn x1 t_cats t_starts_c) [(t, .inr (0, [.int t_length, .int t_width, .int t_sunFirst, .int t_pace, .int t_nose, .int t_cats, .int t_bridgeMay, .int t_sunMay, .int t_noseMay, .ref t_starts, .ref t_habits, .ref t_leaders])), (t_starts, .inl ((xT X) 1, 5, .inl t_starts_c))] 0 [(0, .ref t), (1, .int x1)] [] := by
  unfold m_X0_tellsCatIn
  refine s_iconst C 0 dX0_tellsCatIn_0 (by decide) ?_
  refine s_istore_n C [(2, .int 0), (0, .ref t), (1, .int x1)] dX0_tellsCatIn_1 rfl (by decide) rfl ?_
  refine s_lv [1, 2, 0] (lv' := [(0, .ref t), (1, .int x1), (2, .int 0)]) rfl ?_
  refine s_loop (fun s : Int32 => [(t, .inr (0, [.int t_length, .int t_width, .int t_sunFirst, .int t_pace, .int t_nose, .int t_cats, .int t_bridgeMay, .int t_sunMay, .int t_noseMay, .ref t_starts, .ref t_habits, .ref t_leaders])), (t_starts, .inl ((xT X) 1, 5, .inl t_starts_c))]) (fun s : Int32 => [(0, .ref t), (1, .int x1), (2, .int s)]) (fun rec hrec s => ?_) fz (0)
  refine bX0_tellsCatIn_f2 C hR _ (fun _ => ?_) _ (fun _ => ?_) (fun r0 => rec (r0)) (fun r0 => hrec (r0)) s
  · refine s_iconst C 1 dX0_tellsCatIn_19 (by decide) ?_
    exact s_retZ hR 1 rfl rfl dX0_tellsCatIn_20
  · refine s_iconst C 0 dX0_tellsCatIn_27 (by decide) ?_
    exact s_retZ hR 0 rfl rfl dX0_tellsCatIn_28
theorem c_X0_tellsCatIn (l : Launch) (D : va_G) (T : Nat → ClassId) (x1 : Int32) (t : Nat) (t_length : Int32) (t_width : Int32) (t_sunFirst : Int32) (t_pace : Int32) (t_nose : Int32) (t_cats : Int32) (t_bridgeMay : Int32) (t_sunMay : Int32) (t_noseMay : Int32) (t_starts : Nat) (t_habits : Nat) (t_leaders : Nat) (t_starts_c : Nat → Int32) : ∀ q : Int32, m_X0_tellsCatIn x1 t_cats t_starts_c = some q → Ct l yX0_tellsCatIn wsX0_tellsCatIn { frames := 2, cells := 0, slots := 0, locals := 42 } [.ref t, .int x1] D T [(t, .inr (0, [.int t_length, .int t_width, .int t_sunFirst, .int t_pace, .int t_nose, .int t_cats, .int t_bridgeMay, .int t_sunMay, .int t_noseMay, .ref t_starts, .ref t_habits, .ref t_leaders])), (t_starts, .inl (T 1, 5, .inl t_starts_c))] ((fun q => some (.int q)) q) (w1_X0_tellsCatIn T t t_length t_width t_sunFirst t_pace t_nose t_cats t_bridgeMay t_sunMay t_noseMay t_starts t_habits t_leaders t_starts_c q) := by
  refine ct_Z (by decide) rfl (Nat.le_of_ble_eq_true rfl) (m_X0_tellsCatIn x1 t_cats t_starts_c) (fun q => some (.int q)) (w1_X0_tellsCatIn T t t_length t_width t_sunFirst t_pace t_nose t_cats t_bridgeMay t_sunMay t_noseMay t_starts t_habits t_leaders t_starts_c) ?_
  intro X Qf hL hD hT C hR
  subst hT
  exact b_X0_tellsCatIn C hR
theorem iX0_cells_X0 : ∀ w ∈ u_ws RX0 TX0 12, w ∈ wsX0_cells := by decide +kernel
theorem kX0_cells_24 : Cond.fieldLink RX0 24 "NineCats$Plan" "length" "I" ∈ wsX0_cells := by decide +kernel
theorem kX0_cells_28 : Cond.fieldLink RX0 28 "NineCats$Plan" "width" "I" ∈ wsX0_cells := by decide +kernel
abbrev w1_X0_cells (T : Nat → ClassId) (t : Nat) (t_length : Int32) (t_width : Int32) (t_sunFirst : Int32) (t_pace : Int32) (t_nose : Int32) (t_cats : Int32) (t_bridgeMay : Int32) (t_sunMay : Int32) (t_noseMay : Int32) (t_starts : Nat) (t_habits : Nat) (t_leaders : Nat) (q : Int32) : va_W := [(t, .inr (0, [.int t_length, .int t_width, .int t_sunFirst, .int t_pace, .int t_nose, .int t_cats, .int t_bridgeMay, .int t_sunMay, .int t_noseMay, .ref t_starts, .ref t_habits, .ref t_leaders]))]
noncomputable def m_X0_cells (t_length : Int32) (t_width : Int32) : Option (Int32) :=
  some (t_length * t_width)
set_option maxHeartbeats 4000000 in
theorem b_X0_cells {X : KX} {Qf : Int32 → State → Prop} {t : Nat} {t_length : Int32} {t_width : Int32} {t_sunFirst : Int32} {t_pace : Int32} {t_nose : Int32} {t_cats : Int32} {t_bridgeMay : Int32} {t_sunMay : Int32} {t_noseMay : Int32} {t_starts : Nat} {t_habits : Nat} {t_leaders : Nat} (C : Cx X cX0_cells RX0 wsX0_cells 1 { frames := 0, cells := 0, slots := 0, locals := 0 }) (hR : RtI X Qf cX0_cells 1 (fun q => some (.int q)) (w1_X0_cells (xT X) t t_length t_width t_sunFirst t_pace t_nose t_cats t_bridgeMay t_sunMay t_noseMay t_starts t_habits t_leaders)) : Sim X Qf 0 0 1 (m_X0_cells t_length t_width) [(t, .inr (0, [.int t_length, .int t_width, .int t_sunFirst, .int t_pace, .int t_nose, .int t_cats, .int t_bridgeMay, .int t_sunMay, .int t_noseMay, .ref t_starts, .ref t_habits, .ref t_leaders]))] 0 [(0, .ref t)] [] := by
  unfold m_X0_cells
  refine s_aload_n C 0 dX0_cells_0 rfl rfl ?_
  refine s_get C iX0_cells_X0 0 rfl rfl 0 (by decide) kX0_cells_24 (.int t_length) rfl dX0_cells_1 ?_
  refine s_aload_n C 0 dX0_cells_4 rfl rfl ?_
  refine s_get C iX0_cells_X0 0 rfl rfl 1 (by decide) kX0_cells_28 (.int t_width) rfl dX0_cells_5 ?_
  refine s_imul C dX0_cells_8 ?_
  exact s_retI hR (t_length * t_width) rfl rfl dX0_cells_9
theorem c_X0_cells (l : Launch) (D : va_G) (T : Nat → ClassId) (t : Nat) (t_length : Int32) (t_width : Int32) (t_sunFirst : Int32) (t_pace : Int32) (t_nose : Int32) (t_cats : Int32) (t_bridgeMay : Int32) (t_sunMay : Int32) (t_noseMay : Int32) (t_starts : Nat) (t_habits : Nat) (t_leaders : Nat) : ∀ q : Int32, m_X0_cells t_length t_width = some q → Ct l yX0_cells wsX0_cells { frames := 0, cells := 0, slots := 0, locals := 0 } [.ref t] D T [(t, .inr (0, [.int t_length, .int t_width, .int t_sunFirst, .int t_pace, .int t_nose, .int t_cats, .int t_bridgeMay, .int t_sunMay, .int t_noseMay, .ref t_starts, .ref t_habits, .ref t_leaders]))] ((fun q => some (.int q)) q) (w1_X0_cells T t t_length t_width t_sunFirst t_pace t_nose t_cats t_bridgeMay t_sunMay t_noseMay t_starts t_habits t_leaders q) := by
  refine ct_I (by decide) rfl (Nat.le_of_ble_eq_true rfl) (m_X0_cells t_length t_width) (fun q => some (.int q)) (w1_X0_cells T t t_length t_width t_sunFirst t_pace t_nose t_cats t_bridgeMay t_sunMay t_noseMay t_starts t_habits t_leaders) ?_
  intro X Qf hL hD hT C hR
  subst hT
  exact b_X0_cells C hR
abbrev w1_X0_isCell (T : Nat → ClassId) (t : Nat) (t_length : Int32) (t_width : Int32) (t_sunFirst : Int32) (t_pace : Int32) (t_nose : Int32) (t_cats : Int32) (t_bridgeMay : Int32) (t_sunMay : Int32) (t_noseMay : Int32) (t_starts : Nat) (t_habits : Nat) (t_leaders : Nat) (q : Int32) : va_W := [(t, .inr (0, [.int t_length, .int t_width, .int t_sunFirst, .int t_pace, .int t_nose, .int t_cats, .int t_bridgeMay, .int t_sunMay, .int t_noseMay, .ref t_starts, .ref t_habits, .ref t_leaders]))]
noncomputable def m_X0_isCell (x1 : Int32) (t_length : Int32) (t_width : Int32) : Option (Int32) :=
  if x1 < 0 then (bzI 0 (some 0)) else ((m_X0_cells t_length t_width).bind (fun q1 => if q1 ≤ x1 then (bzI 0 (some 0)) else (bzI 1 (some 1))))
set_option maxHeartbeats 4000000 in
theorem b_X0_isCell {X : KX} {Qf : Int32 → State → Prop} {x1 : Int32} {t : Nat} {t_length : Int32} {t_width : Int32} {t_sunFirst : Int32} {t_pace : Int32} {t_nose : Int32} {t_cats : Int32} {t_bridgeMay : Int32} {t_sunMay : Int32} {t_noseMay : Int32} {t_starts : Nat} {t_habits : Nat} {t_leaders : Nat} (C : Cx X cX0_isCell RX0 wsX0_isCell 2 { frames := 1, cells := 0, slots := 0, locals := 20 }) (hR : RtZ X Qf cX0_isCell 2 (fun q => some (.int q)) (w1_X0_isCell (xT X) t t_length t_width t_sunFirst t_pace t_nose t_cats t_bridgeMay t_sunMay t_noseMay t_starts t_habits t_leaders)) : Sim X Qf 0 0 2 (m_X0_isCell x1 t_length t_width) [(t, .inr (0, [.int t_length, .int t_width, .int t_sunFirst, .int t_pace, .int t_nose, .int t_cats, .int t_bridgeMay, .int t_sunMay, .int t_noseMay, .ref t_starts, .ref t_habits, .ref t_leaders]))] 0 [(0, .ref t), (1, .int x1)] [] := by
  unfold m_X0_isCell
  refine s_iload_n C 1 dX0_isCell_0 rfl rfl ?_
  refine s_if_lt C 16 dX0_isCell_1 (by decide) ?_ ?_
  · refine s_iconst C 0 dX0_isCell_16 (by decide) ?_
    exact s_retZ hR 0 rfl rfl dX0_isCell_17
  · refine s_iload_n C 1 dX0_isCell_4 rfl rfl ?_
    refine s_aload_n C 0 dX0_isCell_5 rfl rfl ?_
    refine s_callV (n := 0) C [] _ _ _ (fun q1 hq => c_X0_cells (xL X) (xD X) (xT X) t t_length t_width t_sunFirst t_pace t_nose t_cats t_bridgeMay t_sunMay t_noseMay t_starts t_habits t_leaders q1 hq) gX0_isCell_X0_cells rfl rfl rfl ⟨rfl, by decide +kernel, by decide +kernel, by decide +kernel⟩ ⟨Nat.le_of_ble_eq_true rfl, Nat.le_of_ble_eq_true rfl⟩ ⟨Nat.le_of_ble_eq_true rfl, Nat.le_of_ble_eq_true rfl⟩ 0 0 rfl rfl rfl [.ref t, .int x1] rfl (Nat.le_of_ble_eq_true rfl) dX0_isCell_6 [0] [] [0] (fun q1 => [(t, .inr (0, [.int t_length, .int t_width, .int t_sunFirst, .int t_pace, .int t_nose, .int t_cats, .int t_bridgeMay, .int t_sunMay, .int t_noseMay, .ref t_starts, .ref t_habits, .ref t_leaders]))]) rfl rfl (by decide) (by decide) (by decide) (fun _ => rfl) (by decide) (fun q1 => [.int q1, .int x1]) (fun _ => rfl) (fun q1 => ?_)
    refine s_icmp_ge C 16 dX0_isCell_9 (by decide) ?_ ?_
    · refine s_iconst C 0 dX0_isCell_16 (by decide) ?_
      exact s_retZ hR 0 rfl rfl dX0_isCell_17
    · refine s_iconst C 1 dX0_isCell_12 (by decide) ?_
      refine s_goto C 17 dX0_isCell_13 (by decide) ?_
      exact s_retZ hR 1 rfl rfl dX0_isCell_17
theorem c_X0_isCell (l : Launch) (D : va_G) (T : Nat → ClassId) (x1 : Int32) (t : Nat) (t_length : Int32) (t_width : Int32) (t_sunFirst : Int32) (t_pace : Int32) (t_nose : Int32) (t_cats : Int32) (t_bridgeMay : Int32) (t_sunMay : Int32) (t_noseMay : Int32) (t_starts : Nat) (t_habits : Nat) (t_leaders : Nat) : ∀ q : Int32, m_X0_isCell x1 t_length t_width = some q → Ct l yX0_isCell wsX0_isCell { frames := 1, cells := 0, slots := 0, locals := 20 } [.ref t, .int x1] D T [(t, .inr (0, [.int t_length, .int t_width, .int t_sunFirst, .int t_pace, .int t_nose, .int t_cats, .int t_bridgeMay, .int t_sunMay, .int t_noseMay, .ref t_starts, .ref t_habits, .ref t_leaders]))] ((fun q => some (.int q)) q) (w1_X0_isCell T t t_length t_width t_sunFirst t_pace t_nose t_cats t_bridgeMay t_sunMay t_noseMay t_starts t_habits t_leaders q) := by
  refine ct_Z (by decide) rfl (Nat.le_of_ble_eq_true rfl) (m_X0_isCell x1 t_length t_width) (fun q => some (.int q)) (w1_X0_isCell T t t_length t_width t_sunFirst t_pace t_nose t_cats t_bridgeMay t_sunMay t_noseMay t_starts t_habits t_leaders) ?_
  intro X Qf hL hD hT C hR
  subst hT
  exact b_X0_isCell C hR
abbrev w1_X0_allCells (T : Nat → ClassId) (t : Nat) (t_length : Int32) (t_width : Int32) (t_sunFirst : Int32) (t_pace : Int32) (t_nose : Int32) (t_cats : Int32) (t_bridgeMay : Int32) (t_sunMay : Int32) (t_noseMay : Int32) (t_starts : Nat) (t_habits : Nat) (t_leaders : Nat) (q : Int32) : va_W := [(t, .inr (0, [.int t_length, .int t_width, .int t_sunFirst, .int t_pace, .int t_nose, .int t_cats, .int t_bridgeMay, .int t_sunMay, .int t_noseMay, .ref t_starts, .ref t_habits, .ref t_leaders]))]
noncomputable def m_X0_allCells (t_length : Int32) (t_width : Int32) : Option (Int32) :=
  (m_X0_cells t_length t_width).bind (fun q1 => some ((1 <<< (q1 &&& 31)) - 1))
set_option maxHeartbeats 4000000 in
theorem b_X0_allCells {X : KX} {Qf : Int32 → State → Prop} {t : Nat} {t_length : Int32} {t_width : Int32} {t_sunFirst : Int32} {t_pace : Int32} {t_nose : Int32} {t_cats : Int32} {t_bridgeMay : Int32} {t_sunMay : Int32} {t_noseMay : Int32} {t_starts : Nat} {t_habits : Nat} {t_leaders : Nat} (C : Cx X cX0_allCells RX0 wsX0_allCells 1 { frames := 1, cells := 0, slots := 0, locals := 20 }) (hR : RtI X Qf cX0_allCells 1 (fun q => some (.int q)) (w1_X0_allCells (xT X) t t_length t_width t_sunFirst t_pace t_nose t_cats t_bridgeMay t_sunMay t_noseMay t_starts t_habits t_leaders)) : Sim X Qf 0 0 1 (m_X0_allCells t_length t_width) [(t, .inr (0, [.int t_length, .int t_width, .int t_sunFirst, .int t_pace, .int t_nose, .int t_cats, .int t_bridgeMay, .int t_sunMay, .int t_noseMay, .ref t_starts, .ref t_habits, .ref t_leaders]))] 0 [(0, .ref t)] [] := by
  unfold m_X0_allCells
  refine s_iconst C 1 dX0_allCells_0 (by decide) ?_
  refine s_aload_n C 0 dX0_allCells_1 rfl rfl ?_
  refine s_callV (n := 0) C [] _ _ _ (fun q1 hq => c_X0_cells (xL X) (xD X) (xT X) t t_length t_width t_sunFirst t_pace t_nose t_cats t_bridgeMay t_sunMay t_noseMay t_starts t_habits t_leaders q1 hq) gX0_allCells_X0_cells rfl rfl rfl ⟨rfl, by decide +kernel, by decide +kernel, by decide +kernel⟩ ⟨Nat.le_of_ble_eq_true rfl, Nat.le_of_ble_eq_true rfl⟩ ⟨Nat.le_of_ble_eq_true rfl, Nat.le_of_ble_eq_true rfl⟩ 0 0 rfl rfl rfl [.ref t, .int 1] rfl (Nat.le_of_ble_eq_true rfl) dX0_allCells_2 [0] [] [0] (fun q1 => [(t, .inr (0, [.int t_length, .int t_width, .int t_sunFirst, .int t_pace, .int t_nose, .int t_cats, .int t_bridgeMay, .int t_sunMay, .int t_noseMay, .ref t_starts, .ref t_habits, .ref t_leaders]))]) rfl rfl (by decide) (by decide) (by decide) (fun _ => rfl) (by decide) (fun q1 => [.int q1, .int 1]) (fun _ => rfl) (fun q1 => ?_)
  refine s_ishl C dX0_allCells_5 ?_
  refine s_iconst C 1 dX0_allCells_6 (by decide) ?_
  refine s_isub C dX0_allCells_7 ?_
  exact s_retI hR ((1 <<< (q1 &&& 31)) - 1) rfl rfl dX0_allCells_8
theorem c_X0_allCells (l : Launch) (D : va_G) (T : Nat → ClassId) (t : Nat) (t_length : Int32) (t_width : Int32) (t_sunFirst : Int32) (t_pace : Int32) (t_nose : Int32) (t_cats : Int32) (t_bridgeMay : Int32) (t_sunMay : Int32) (t_noseMay : Int32) (t_starts : Nat) (t_habits : Nat) (t_leaders : Nat) : ∀ q : Int32, m_X0_allCells t_length t_width = some q → Ct l yX0_allCells wsX0_allCells { frames := 1, cells := 0, slots := 0, locals := 20 } [.ref t] D T [(t, .inr (0, [.int t_length, .int t_width, .int t_sunFirst, .int t_pace, .int t_nose, .int t_cats, .int t_bridgeMay, .int t_sunMay, .int t_noseMay, .ref t_starts, .ref t_habits, .ref t_leaders]))] ((fun q => some (.int q)) q) (w1_X0_allCells T t t_length t_width t_sunFirst t_pace t_nose t_cats t_bridgeMay t_sunMay t_noseMay t_starts t_habits t_leaders q) := by
  refine ct_I (by decide) rfl (Nat.le_of_ble_eq_true rfl) (m_X0_allCells t_length t_width) (fun q => some (.int q)) (w1_X0_allCells T t t_length t_width t_sunFirst t_pace t_nose t_cats t_bridgeMay t_sunMay t_noseMay t_starts t_habits t_leaders) ?_
  intro X Qf hL hD hT C hR
  subst hT
  exact b_X0_allCells C hR
theorem iX0_columnCells_X0 : ∀ w ∈ u_ws RX0 TX0 12, w ∈ wsX0_columnCells := by decide +kernel
theorem kX0_columnCells_24 : Cond.fieldLink RX0 24 "NineCats$Plan" "length" "I" ∈ wsX0_columnCells := by decide +kernel
theorem kX0_columnCells_28 : Cond.fieldLink RX0 28 "NineCats$Plan" "width" "I" ∈ wsX0_columnCells := by decide +kernel
abbrev w1_X0_columnCells (T : Nat → ClassId) (t : Nat) (t_length : Int32) (t_width : Int32) (t_sunFirst : Int32) (t_pace : Int32) (t_nose : Int32) (t_cats : Int32) (t_bridgeMay : Int32) (t_sunMay : Int32) (t_noseMay : Int32) (t_starts : Nat) (t_habits : Nat) (t_leaders : Nat) (q : Int32) : va_W := [(t, .inr (0, [.int t_length, .int t_width, .int t_sunFirst, .int t_pace, .int t_nose, .int t_cats, .int t_bridgeMay, .int t_sunMay, .int t_noseMay, .ref t_starts, .ref t_habits, .ref t_leaders]))]
noncomputable def X0_columnCells_f4 (x1 : Int32) (t_length : Int32) (t_width : Int32) (kx4_31 : Int32 → Option (Int32)) (rec4 : Int32 → Int32 → Option (Int32)) (x2 : Int32) (x3 : Int32) : Option (Int32) :=
  if t_width ≤ x3 then (kx4_31 x2) else (nm (x2 ||| (1 <<< (((x3 * t_length) + x1) &&& 31))) (fun y1 => rec4 y1 (x3 + 1)))
set_option maxHeartbeats 4000000 in
theorem bX0_columnCells_f4 {X : KX} {Qf : Int32 → State → Prop} {x1 : Int32} {t : Nat} {t_length : Int32} {t_width : Int32} {t_sunFirst : Int32} {t_pace : Int32} {t_nose : Int32} {t_cats : Int32} {t_bridgeMay : Int32} {t_sunMay : Int32} {t_noseMay : Int32} {t_starts : Nat} {t_habits : Nat} {t_leaders : Nat} (C : Cx X cX0_columnCells RX0 wsX0_columnCells 4 { frames := 0, cells := 0, slots := 0, locals := 0 }) (hR : RtI X Qf cX0_columnCells 4 (fun q => some (.int q)) (w1_X0_columnCells (xT X) t t_length t_width t_sunFirst t_pace t_nose t_cats t_bridgeMay t_sunMay t_noseMay t_starts t_habits t_leaders)) (kx4_31 : Int32 → Option (Int32)) (hkx4_31 : ∀ (x2 : Int32), Sim X Qf 0 0 4 (kx4_31 x2) [(t, .inr (0, [.int t_length, .int t_width, .int t_sunFirst, .int t_pace, .int t_nose, .int t_cats, .int t_bridgeMay, .int t_sunMay, .int t_noseMay, .ref t_starts, .ref t_habits, .ref t_leaders]))] 31 [(2, .int x2)] []) (rec4 : Int32 → Int32 → Option (Int32)) (hrec4 : ∀ (x2 : Int32) (x3 : Int32), Sim X Qf 0 0 4 (rec4 x2 x3) [(t, .inr (0, [.int t_length, .int t_width, .int t_sunFirst, .int t_pace, .int t_nose, .int t_cats, .int t_bridgeMay, .int t_sunMay, .int t_noseMay, .ref t_starts, .ref t_habits, .ref t_leaders]))] 4 [(0, .ref t), (1, .int x1), (2, .int x2), (3, .int x3)] []) (x2 : Int32) (x3 : Int32) : Sim X Qf 0 0 4 (X0_columnCells_f4 x1 t_length t_width kx4_31 rec4 x2 x3) [(t, .inr (0, [.int t_length, .int t_width, .int t_sunFirst, .int t_pace, .int t_nose, .int t_cats, .int t_bridgeMay, .int t_sunMay, .int t_noseMay, .ref t_starts, .ref t_habits, .ref t_leaders]))] 4 [(0, .ref t), (1, .int x1), (2, .int x2), (3, .int x3)] [] := by
  unfold X0_columnCells_f4
  refine s_iload_n C 3 dX0_columnCells_4 rfl rfl ?_
  refine s_aload_n C 0 dX0_columnCells_5 rfl rfl ?_
  refine s_get C iX0_columnCells_X0 0 rfl rfl 1 (by decide) kX0_columnCells_28 (.int t_width) rfl dX0_columnCells_6 ?_
  refine s_icmp_ge C 31 dX0_columnCells_9 (by decide) ?_ ?_
  · refine s_lv [2] (lv' := [(2, .int x2)]) rfl ?_
    exact hkx4_31 x2
  · refine s_iload_n C 2 dX0_columnCells_12 rfl rfl ?_
    refine s_iconst C 1 dX0_columnCells_13 (by decide) ?_
    refine s_iload_n C 3 dX0_columnCells_14 rfl rfl ?_
    refine s_aload_n C 0 dX0_columnCells_15 rfl rfl ?_
    refine s_get C iX0_columnCells_X0 0 rfl rfl 0 (by decide) kX0_columnCells_24 (.int t_length) rfl dX0_columnCells_16 ?_
    refine s_imul C dX0_columnCells_19 ?_
    refine s_iload_n C 1 dX0_columnCells_20 rfl rfl ?_
    refine s_iadd C dX0_columnCells_21 ?_
    refine s_ishl C dX0_columnCells_22 ?_
    refine s_ior C dX0_columnCells_23 ?_
    refine s_nmi (fun y1 => ?_)
    refine s_istore_n C [(2, .int y1), (0, .ref t), (1, .int x1), (3, .int x3)] dX0_columnCells_24 rfl (by decide) rfl ?_
    refine s_iinc C [(3, .int (x3 + 1)), (2, .int y1), (0, .ref t), (1, .int x1)] 3 dX0_columnCells_25 rfl (congrArg (fun z => x3 + z) (show Int32.ofInt 1 = 1 by decide)) (by decide) rfl ?_
    refine s_goto C 4 dX0_columnCells_28 (by decide) ?_
    refine s_lv [2, 3, 1, 0] (lv' := [(0, .ref t), (1, .int x1), (2, .int y1), (3, .int (x3 + 1))]) rfl ?_
    exact hrec4 y1 (x3 + 1)
noncomputable def m_X0_columnCells (x1 : Int32) (t_length : Int32) (t_width : Int32) : Option (Int32) :=
  lpN (fun (rec : Int32 × Int32 → Option (Int32)) (s : Int32 × Int32) => X0_columnCells_f4 x1 t_length t_width (fun e2 => some e2) (fun r0 r1 => rec (r0, r1)) s.1 s.2) fz (0, 0)
set_option maxHeartbeats 4000000 in
theorem b_X0_columnCells {X : KX} {Qf : Int32 → State → Prop} {x1 : Int32} {t : Nat} {t_length : Int32} {t_width : Int32} {t_sunFirst : Int32} {t_pace : Int32} {t_nose : Int32} {t_cats : Int32} {t_bridgeMay : Int32} {t_sunMay : Int32} {t_noseMay : Int32} {t_starts : Nat} {t_habits : Nat} {t_leaders : Nat} (C : Cx X cX0_columnCells RX0 wsX0_columnCells 4 { frames := 0, cells := 0, slots := 0, locals := 0 }) (hR : RtI X Qf cX0_columnCells 4 (fun q => some (.int q)) (w1_X0_columnCells (xT X) t t_length t_width t_sunFirst t_pace t_nose t_cats t_bridgeMay t_sunMay t_noseMay t_starts t_habits t_leaders)) : Sim X Qf 0 0 4 (m_X0_columnCells x1 t_length t_width) [(t, .inr (0, [.int t_length, .int t_width, .int t_sunFirst, .int t_pace, .int t_nose, .int t_cats, .int t_bridgeMay, .int t_sunMay, .int t_noseMay, .ref t_starts, .ref t_habits, .ref t_leaders]))] 0 [(0, .ref t), (1, .int x1)] [] := by
  unfold m_X0_columnCells
  refine s_iconst C 0 dX0_columnCells_0 (by decide) ?_
  refine s_istore_n C [(2, .int 0), (0, .ref t), (1, .int x1)] dX0_columnCells_1 rfl (by decide) rfl ?_
  refine s_iconst C 0 dX0_columnCells_2 (by decide) ?_
  refine s_istore_n C [(3, .int 0), (2, .int 0), (0, .ref t), (1, .int x1)] dX0_columnCells_3 rfl (by decide) rfl ?_
  refine s_lv [2, 3, 1, 0] (lv' := [(0, .ref t), (1, .int x1), (2, .int 0), (3, .int 0)]) rfl ?_
  refine s_loop (fun s : Int32 × Int32 => [(t, .inr (0, [.int t_length, .int t_width, .int t_sunFirst, .int t_pace, .int t_nose, .int t_cats, .int t_bridgeMay, .int t_sunMay, .int t_noseMay, .ref t_starts, .ref t_habits, .ref t_leaders]))]) (fun s : Int32 × Int32 => [(0, .ref t), (1, .int x1), (2, .int s.1), (3, .int s.2)]) (fun rec hrec s => ?_) fz (0, 0)
  refine bX0_columnCells_f4 C hR _ (fun e2 => ?_) (fun r0 r1 => rec (r0, r1)) (fun r0 r1 => hrec (r0, r1)) s.1 s.2
  · refine s_iload_n C 0 dX0_columnCells_31 rfl rfl ?_
    exact s_retI hR e2 rfl rfl dX0_columnCells_32
theorem c_X0_columnCells (l : Launch) (D : va_G) (T : Nat → ClassId) (x1 : Int32) (t : Nat) (t_length : Int32) (t_width : Int32) (t_sunFirst : Int32) (t_pace : Int32) (t_nose : Int32) (t_cats : Int32) (t_bridgeMay : Int32) (t_sunMay : Int32) (t_noseMay : Int32) (t_starts : Nat) (t_habits : Nat) (t_leaders : Nat) : ∀ q : Int32, m_X0_columnCells x1 t_length t_width = some q → Ct l yX0_columnCells wsX0_columnCells { frames := 0, cells := 0, slots := 0, locals := 0 } [.ref t, .int x1] D T [(t, .inr (0, [.int t_length, .int t_width, .int t_sunFirst, .int t_pace, .int t_nose, .int t_cats, .int t_bridgeMay, .int t_sunMay, .int t_noseMay, .ref t_starts, .ref t_habits, .ref t_leaders]))] ((fun q => some (.int q)) q) (w1_X0_columnCells T t t_length t_width t_sunFirst t_pace t_nose t_cats t_bridgeMay t_sunMay t_noseMay t_starts t_habits t_leaders q) := by
  refine ct_I (by decide) rfl (Nat.le_of_ble_eq_true rfl) (m_X0_columnCells x1 t_length t_width) (fun q => some (.int q)) (w1_X0_columnCells T t t_length t_width t_sunFirst t_pace t_nose t_cats t_bridgeMay t_sunMay t_noseMay t_starts t_habits t_leaders) ?_
  intro X Qf hL hD hT C hR
  subst hT
  exact b_X0_columnCells C hR
theorem iX0_columnOf_X0 : ∀ w ∈ u_ws RX0 TX0 12, w ∈ wsX0_columnOf := by decide +kernel
theorem kX0_columnOf_24 : Cond.fieldLink RX0 24 "NineCats$Plan" "length" "I" ∈ wsX0_columnOf := by decide +kernel
abbrev w1_X0_columnOf (T : Nat → ClassId) (t : Nat) (t_length : Int32) (t_width : Int32) (t_sunFirst : Int32) (t_pace : Int32) (t_nose : Int32) (t_cats : Int32) (t_bridgeMay : Int32) (t_sunMay : Int32) (t_noseMay : Int32) (t_starts : Nat) (t_habits : Nat) (t_leaders : Nat) (q : Int32) : va_W := [(t, .inr (0, [.int t_length, .int t_width, .int t_sunFirst, .int t_pace, .int t_nose, .int t_cats, .int t_bridgeMay, .int t_sunMay, .int t_noseMay, .ref t_starts, .ref t_habits, .ref t_leaders]))]
noncomputable def m_X0_columnOf (x1 : Int32) (t_length : Int32) : Option (Int32) :=
  if 1 ≤ t_length then (nzI t_length (nm (x1 - x1 / t_length * t_length) (fun y1 => some y1))) else (some 0)
set_option maxHeartbeats 4000000 in
theorem b_X0_columnOf {X : KX} {Qf : Int32 → State → Prop} {x1 : Int32} {t : Nat} {t_length : Int32} {t_width : Int32} {t_sunFirst : Int32} {t_pace : Int32} {t_nose : Int32} {t_cats : Int32} {t_bridgeMay : Int32} {t_sunMay : Int32} {t_noseMay : Int32} {t_starts : Nat} {t_habits : Nat} {t_leaders : Nat} (C : Cx X cX0_columnOf RX0 wsX0_columnOf 2 { frames := 0, cells := 0, slots := 0, locals := 0 }) (hR : RtI X Qf cX0_columnOf 2 (fun q => some (.int q)) (w1_X0_columnOf (xT X) t t_length t_width t_sunFirst t_pace t_nose t_cats t_bridgeMay t_sunMay t_noseMay t_starts t_habits t_leaders)) : Sim X Qf 0 0 2 (m_X0_columnOf x1 t_length) [(t, .inr (0, [.int t_length, .int t_width, .int t_sunFirst, .int t_pace, .int t_nose, .int t_cats, .int t_bridgeMay, .int t_sunMay, .int t_noseMay, .ref t_starts, .ref t_habits, .ref t_leaders]))] 0 [(0, .ref t), (1, .int x1)] [] := by
  unfold m_X0_columnOf
  refine s_aload_n C 0 dX0_columnOf_0 rfl rfl ?_
  refine s_get C iX0_columnOf_X0 0 rfl rfl 0 (by decide) kX0_columnOf_24 (.int t_length) rfl dX0_columnOf_1 ?_
  refine s_iconst C 1 dX0_columnOf_4 (by decide) ?_
  refine s_icmp_ge C 12 dX0_columnOf_5 (by decide) ?_ ?_
  · refine s_iload_n C 1 dX0_columnOf_12 rfl rfl ?_
    refine s_aload_n C 0 dX0_columnOf_13 rfl rfl ?_
    refine s_get C iX0_columnOf_X0 0 rfl rfl 0 (by decide) kX0_columnOf_24 (.int t_length) rfl dX0_columnOf_14 ?_
    refine s_irem C dX0_columnOf_17 ?_
    refine s_nmi (fun y1 => ?_)
    exact s_retI hR y1 rfl rfl dX0_columnOf_18
  · refine s_iconst C 0 dX0_columnOf_8 (by decide) ?_
    refine s_goto C 18 dX0_columnOf_9 (by decide) ?_
    exact s_retI hR 0 rfl rfl dX0_columnOf_18
theorem c_X0_columnOf (l : Launch) (D : va_G) (T : Nat → ClassId) (x1 : Int32) (t : Nat) (t_length : Int32) (t_width : Int32) (t_sunFirst : Int32) (t_pace : Int32) (t_nose : Int32) (t_cats : Int32) (t_bridgeMay : Int32) (t_sunMay : Int32) (t_noseMay : Int32) (t_starts : Nat) (t_habits : Nat) (t_leaders : Nat) : ∀ q : Int32, m_X0_columnOf x1 t_length = some q → Ct l yX0_columnOf wsX0_columnOf { frames := 0, cells := 0, slots := 0, locals := 0 } [.ref t, .int x1] D T [(t, .inr (0, [.int t_length, .int t_width, .int t_sunFirst, .int t_pace, .int t_nose, .int t_cats, .int t_bridgeMay, .int t_sunMay, .int t_noseMay, .ref t_starts, .ref t_habits, .ref t_leaders]))] ((fun q => some (.int q)) q) (w1_X0_columnOf T t t_length t_width t_sunFirst t_pace t_nose t_cats t_bridgeMay t_sunMay t_noseMay t_starts t_habits t_leaders q) := by
  refine ct_I (by decide) rfl (Nat.le_of_ble_eq_true rfl) (m_X0_columnOf x1 t_length) (fun q => some (.int q)) (w1_X0_columnOf T t t_length t_width t_sunFirst t_pace t_nose t_cats t_bridgeMay t_sunMay t_noseMay t_starts t_habits t_leaders) ?_
  intro X Qf hL hD hT C hR
  subst hT
  exact b_X0_columnOf C hR
theorem iX0_sunColumn_X0 : ∀ w ∈ u_ws RX0 TX0 12, w ∈ wsX0_sunColumn := by decide +kernel
theorem kX0_sunColumn_24 : Cond.fieldLink RX0 24 "NineCats$Plan" "length" "I" ∈ wsX0_sunColumn := by decide +kernel
theorem kX0_sunColumn_31 : Cond.fieldLink RX0 31 "NineCats$Plan" "sunFirst" "I" ∈ wsX0_sunColumn := by decide +kernel
theorem kX0_sunColumn_34 : Cond.fieldLink RX0 34 "NineCats$Plan" "pace" "I" ∈ wsX0_sunColumn := by decide +kernel
abbrev w1_X0_sunColumn (T : Nat → ClassId) (t : Nat) (t_length : Int32) (t_width : Int32) (t_sunFirst : Int32) (t_pace : Int32) (t_nose : Int32) (t_cats : Int32) (t_bridgeMay : Int32) (t_sunMay : Int32) (t_noseMay : Int32) (t_starts : Nat) (t_habits : Nat) (t_leaders : Nat) (q : Int32) : va_W := [(t, .inr (0, [.int t_length, .int t_width, .int t_sunFirst, .int t_pace, .int t_nose, .int t_cats, .int t_bridgeMay, .int t_sunMay, .int t_noseMay, .ref t_starts, .ref t_habits, .ref t_leaders]))]
noncomputable def m_X0_sunColumn (x1 : Int32) (t_length : Int32) (t_sunFirst : Int32) (t_pace : Int32) : Option (Int32) :=
  if t_length < 1 then (some 0) else (if 1 ≤ t_pace then (nzI t_pace (nm (x1 / t_pace) (fun y1 => nzI t_length (nm ((t_sunFirst + y1) - (t_sunFirst + y1) / t_length * t_length) (fun y2 => some y2))))) else (some 0))
set_option maxHeartbeats 4000000 in
theorem b_X0_sunColumn {X : KX} {Qf : Int32 → State → Prop} {x1 : Int32} {t : Nat} {t_length : Int32} {t_width : Int32} {t_sunFirst : Int32} {t_pace : Int32} {t_nose : Int32} {t_cats : Int32} {t_bridgeMay : Int32} {t_sunMay : Int32} {t_noseMay : Int32} {t_starts : Nat} {t_habits : Nat} {t_leaders : Nat} (C : Cx X cX0_sunColumn RX0 wsX0_sunColumn 2 { frames := 0, cells := 0, slots := 0, locals := 0 }) (hR : RtI X Qf cX0_sunColumn 2 (fun q => some (.int q)) (w1_X0_sunColumn (xT X) t t_length t_width t_sunFirst t_pace t_nose t_cats t_bridgeMay t_sunMay t_noseMay t_starts t_habits t_leaders)) : Sim X Qf 0 0 2 (m_X0_sunColumn x1 t_length t_sunFirst t_pace) [(t, .inr (0, [.int t_length, .int t_width, .int t_sunFirst, .int t_pace, .int t_nose, .int t_cats, .int t_bridgeMay, .int t_sunMay, .int t_noseMay, .ref t_starts, .ref t_habits, .ref t_leaders]))] 0 [(0, .ref t), (1, .int x1)] [] := by
  unfold m_X0_sunColumn
  refine s_aload_n C 0 dX0_sunColumn_0 rfl rfl ?_
  refine s_get C iX0_sunColumn_X0 0 rfl rfl 0 (by decide) kX0_sunColumn_24 (.int t_length) rfl dX0_sunColumn_1 ?_
  refine s_iconst C 1 dX0_sunColumn_4 (by decide) ?_
  refine s_icmp_lt C 16 dX0_sunColumn_5 (by decide) ?_ ?_
  · refine s_iconst C 0 dX0_sunColumn_16 (by decide) ?_
    refine s_goto C 36 dX0_sunColumn_17 (by decide) ?_
    exact s_retI hR 0 rfl rfl dX0_sunColumn_36
  · refine s_aload_n C 0 dX0_sunColumn_8 rfl rfl ?_
    refine s_get C iX0_sunColumn_X0 0 rfl rfl 3 (by decide) kX0_sunColumn_34 (.int t_pace) rfl dX0_sunColumn_9 ?_
    refine s_iconst C 1 dX0_sunColumn_12 (by decide) ?_
    refine s_icmp_ge C 20 dX0_sunColumn_13 (by decide) ?_ ?_
    · refine s_aload_n C 0 dX0_sunColumn_20 rfl rfl ?_
      refine s_get C iX0_sunColumn_X0 0 rfl rfl 2 (by decide) kX0_sunColumn_31 (.int t_sunFirst) rfl dX0_sunColumn_21 ?_
      refine s_iload_n C 1 dX0_sunColumn_24 rfl rfl ?_
      refine s_aload_n C 0 dX0_sunColumn_25 rfl rfl ?_
      refine s_get C iX0_sunColumn_X0 0 rfl rfl 3 (by decide) kX0_sunColumn_34 (.int t_pace) rfl dX0_sunColumn_26 ?_
      refine s_idiv C dX0_sunColumn_29 ?_
      refine s_nmi (fun y1 => ?_)
      refine s_iadd C dX0_sunColumn_30 ?_
      refine s_aload_n C 0 dX0_sunColumn_31 rfl rfl ?_
      refine s_get C iX0_sunColumn_X0 0 rfl rfl 0 (by decide) kX0_sunColumn_24 (.int t_length) rfl dX0_sunColumn_32 ?_
      refine s_irem C dX0_sunColumn_35 ?_
      refine s_nmi (fun y2 => ?_)
      exact s_retI hR y2 rfl rfl dX0_sunColumn_36
    · refine s_iconst C 0 dX0_sunColumn_16 (by decide) ?_
      refine s_goto C 36 dX0_sunColumn_17 (by decide) ?_
      exact s_retI hR 0 rfl rfl dX0_sunColumn_36
theorem c_X0_sunColumn (l : Launch) (D : va_G) (T : Nat → ClassId) (x1 : Int32) (t : Nat) (t_length : Int32) (t_width : Int32) (t_sunFirst : Int32) (t_pace : Int32) (t_nose : Int32) (t_cats : Int32) (t_bridgeMay : Int32) (t_sunMay : Int32) (t_noseMay : Int32) (t_starts : Nat) (t_habits : Nat) (t_leaders : Nat) : ∀ q : Int32, m_X0_sunColumn x1 t_length t_sunFirst t_pace = some q → Ct l yX0_sunColumn wsX0_sunColumn { frames := 0, cells := 0, slots := 0, locals := 0 } [.ref t, .int x1] D T [(t, .inr (0, [.int t_length, .int t_width, .int t_sunFirst, .int t_pace, .int t_nose, .int t_cats, .int t_bridgeMay, .int t_sunMay, .int t_noseMay, .ref t_starts, .ref t_habits, .ref t_leaders]))] ((fun q => some (.int q)) q) (w1_X0_sunColumn T t t_length t_width t_sunFirst t_pace t_nose t_cats t_bridgeMay t_sunMay t_noseMay t_starts t_habits t_leaders q) := by
  refine ct_I (by decide) rfl (Nat.le_of_ble_eq_true rfl) (m_X0_sunColumn x1 t_length t_sunFirst t_pace) (fun q => some (.int q)) (w1_X0_sunColumn T t t_length t_width t_sunFirst t_pace t_nose t_cats t_bridgeMay t_sunMay t_noseMay t_starts t_habits t_leaders) ?_
  intro X Qf hL hD hT C hR
  subst hT
  exact b_X0_sunColumn C hR
theorem iX0_stepsBetween_X0 : ∀ w ∈ u_ws RX0 TX0 12, w ∈ wsX0_stepsBetween := by decide +kernel
theorem kX0_stepsBetween_24 : Cond.fieldLink RX0 24 "NineCats$Plan" "length" "I" ∈ wsX0_stepsBetween := by decide +kernel
theorem mX0_stepsBetween_69a : Cond.methodLink RX0 69 Lib.Math.abs.name ∈ wsX0_stepsBetween := by decide +kernel
theorem mX0_stepsBetween_69b : Cond.static Lib.Math.abs.name ∈ wsX0_stepsBetween := by decide +kernel
theorem mX0_stepsBetween_69c : Cond.initialized "java/lang/Math" ∈ wsX0_stepsBetween := by decide +kernel
theorem mX0_stepsBetween_69d : Cond.code Lib.Math.abs.name Lib.Math.abs.code 1 (some .int) ∈ wsX0_stepsBetween := by decide +kernel
abbrev w1_X0_stepsBetween (T : Nat → ClassId) (t : Nat) (t_length : Int32) (t_width : Int32) (t_sunFirst : Int32) (t_pace : Int32) (t_nose : Int32) (t_cats : Int32) (t_bridgeMay : Int32) (t_sunMay : Int32) (t_noseMay : Int32) (t_starts : Nat) (t_habits : Nat) (t_leaders : Nat) (q : Int32) : va_W := [(t, .inr (0, [.int t_length, .int t_width, .int t_sunFirst, .int t_pace, .int t_nose, .int t_cats, .int t_bridgeMay, .int t_sunMay, .int t_noseMay, .ref t_starts, .ref t_habits, .ref t_leaders]))]
noncomputable def m_X0_stepsBetween (x1 : Int32) (x2 : Int32) (t_length : Int32) : Option (Int32) :=
  if 1 ≤ t_length then (nzI t_length (nm (x1 / t_length) (fun y1 => nzI t_length (nm (x2 / t_length) (fun y2 => nzI t_length (nm (x1 - x1 / t_length * t_length) (fun y3 => nzI t_length (nm (x2 - x2 / t_length * t_length) (fun y4 => some ((absI (y1 - y2)) + (absI (y3 - y4)))))))))))) else (some 0)
set_option maxHeartbeats 4000000 in
theorem b_X0_stepsBetween {X : KX} {Qf : Int32 → State → Prop} {x1 : Int32} {x2 : Int32} {t : Nat} {t_length : Int32} {t_width : Int32} {t_sunFirst : Int32} {t_pace : Int32} {t_nose : Int32} {t_cats : Int32} {t_bridgeMay : Int32} {t_sunMay : Int32} {t_noseMay : Int32} {t_starts : Nat} {t_habits : Nat} {t_leaders : Nat} (C : Cx X cX0_stepsBetween RX0 wsX0_stepsBetween 3 { frames := 1, cells := 0, slots := 0, locals := 24 }) (hR : RtI X Qf cX0_stepsBetween 3 (fun q => some (.int q)) (w1_X0_stepsBetween (xT X) t t_length t_width t_sunFirst t_pace t_nose t_cats t_bridgeMay t_sunMay t_noseMay t_starts t_habits t_leaders)) : Sim X Qf 0 0 3 (m_X0_stepsBetween x1 x2 t_length) [(t, .inr (0, [.int t_length, .int t_width, .int t_sunFirst, .int t_pace, .int t_nose, .int t_cats, .int t_bridgeMay, .int t_sunMay, .int t_noseMay, .ref t_starts, .ref t_habits, .ref t_leaders]))] 0 [(0, .ref t), (1, .int x1), (2, .int x2)] [] := by
  unfold m_X0_stepsBetween
  refine s_aload_n C 0 dX0_stepsBetween_0 rfl rfl ?_
  refine s_get C iX0_stepsBetween_X0 0 rfl rfl 0 (by decide) kX0_stepsBetween_24 (.int t_length) rfl dX0_stepsBetween_1 ?_
  refine s_iconst C 1 dX0_stepsBetween_4 (by decide) ?_
  refine s_icmp_ge C 10 dX0_stepsBetween_5 (by decide) ?_ ?_
  · refine s_iload_n C 1 dX0_stepsBetween_10 rfl rfl ?_
    refine s_aload_n C 0 dX0_stepsBetween_11 rfl rfl ?_
    refine s_get C iX0_stepsBetween_X0 0 rfl rfl 0 (by decide) kX0_stepsBetween_24 (.int t_length) rfl dX0_stepsBetween_12 ?_
    refine s_idiv C dX0_stepsBetween_15 ?_
    refine s_nmi (fun y1 => ?_)
    refine s_iload_n C 2 dX0_stepsBetween_16 rfl rfl ?_
    refine s_aload_n C 0 dX0_stepsBetween_17 rfl rfl ?_
    refine s_get C iX0_stepsBetween_X0 0 rfl rfl 0 (by decide) kX0_stepsBetween_24 (.int t_length) rfl dX0_stepsBetween_18 ?_
    refine s_idiv C dX0_stepsBetween_21 ?_
    refine s_nmi (fun y2 => ?_)
    refine s_isub C dX0_stepsBetween_22 ?_
    refine s_abs C mX0_stepsBetween_69a mX0_stepsBetween_69b mX0_stepsBetween_69c mX0_stepsBetween_69d ⟨Nat.le_of_ble_eq_true rfl, Nat.le_of_ble_eq_true rfl⟩ ⟨Nat.le_of_ble_eq_true rfl, Nat.le_of_ble_eq_true rfl⟩ dX0_stepsBetween_23 ?_
    refine s_iload_n C 1 dX0_stepsBetween_26 rfl rfl ?_
    refine s_aload_n C 0 dX0_stepsBetween_27 rfl rfl ?_
    refine s_get C iX0_stepsBetween_X0 0 rfl rfl 0 (by decide) kX0_stepsBetween_24 (.int t_length) rfl dX0_stepsBetween_28 ?_
    refine s_irem C dX0_stepsBetween_31 ?_
    refine s_nmi (fun y3 => ?_)
    refine s_iload_n C 2 dX0_stepsBetween_32 rfl rfl ?_
    refine s_aload_n C 0 dX0_stepsBetween_33 rfl rfl ?_
    refine s_get C iX0_stepsBetween_X0 0 rfl rfl 0 (by decide) kX0_stepsBetween_24 (.int t_length) rfl dX0_stepsBetween_34 ?_
    refine s_irem C dX0_stepsBetween_37 ?_
    refine s_nmi (fun y4 => ?_)
    refine s_isub C dX0_stepsBetween_38 ?_
    refine s_abs C mX0_stepsBetween_69a mX0_stepsBetween_69b mX0_stepsBetween_69c mX0_stepsBetween_69d ⟨Nat.le_of_ble_eq_true rfl, Nat.le_of_ble_eq_true rfl⟩ ⟨Nat.le_of_ble_eq_true rfl, Nat.le_of_ble_eq_true rfl⟩ dX0_stepsBetween_39 ?_
    refine s_iadd C dX0_stepsBetween_42 ?_
    exact s_retI hR ((absI (y1 - y2)) + (absI (y3 - y4))) rfl rfl dX0_stepsBetween_43
  · refine s_iconst C 0 dX0_stepsBetween_8 (by decide) ?_
    exact s_retI hR 0 rfl rfl dX0_stepsBetween_9
theorem c_X0_stepsBetween (l : Launch) (D : va_G) (T : Nat → ClassId) (x1 : Int32) (x2 : Int32) (t : Nat) (t_length : Int32) (t_width : Int32) (t_sunFirst : Int32) (t_pace : Int32) (t_nose : Int32) (t_cats : Int32) (t_bridgeMay : Int32) (t_sunMay : Int32) (t_noseMay : Int32) (t_starts : Nat) (t_habits : Nat) (t_leaders : Nat) : ∀ q : Int32, m_X0_stepsBetween x1 x2 t_length = some q → Ct l yX0_stepsBetween wsX0_stepsBetween { frames := 1, cells := 0, slots := 0, locals := 24 } [.ref t, .int x1, .int x2] D T [(t, .inr (0, [.int t_length, .int t_width, .int t_sunFirst, .int t_pace, .int t_nose, .int t_cats, .int t_bridgeMay, .int t_sunMay, .int t_noseMay, .ref t_starts, .ref t_habits, .ref t_leaders]))] ((fun q => some (.int q)) q) (w1_X0_stepsBetween T t t_length t_width t_sunFirst t_pace t_nose t_cats t_bridgeMay t_sunMay t_noseMay t_starts t_habits t_leaders q) := by
  refine ct_I (by decide) rfl (Nat.le_of_ble_eq_true rfl) (m_X0_stepsBetween x1 x2 t_length) (fun q => some (.int q)) (w1_X0_stepsBetween T t t_length t_width t_sunFirst t_pace t_nose t_cats t_bridgeMay t_sunMay t_noseMay t_starts t_habits t_leaders) ?_
  intro X Qf hL hD hT C hR
  subst hT
  exact b_X0_stepsBetween C hR
abbrev w1_X0_oneTowards (T : Nat → ClassId)  (q : Int32) : va_W := []
noncomputable def m_X0_oneTowards (x0 : Int32) (x1 : Int32) : Option (Int32) :=
  if x0 = x1 then (some 0) else (if x1 ≤ x0 then (some (-1)) else (some 1))
set_option maxHeartbeats 4000000 in
theorem b_X0_oneTowards {X : KX} {Qf : Int32 → State → Prop} {x0 : Int32} {x1 : Int32} (C : Cx X cX0_oneTowards RX0 wsX0_oneTowards 2 { frames := 0, cells := 0, slots := 0, locals := 0 }) (hR : RtI X Qf cX0_oneTowards 2 (fun q => some (.int q)) (w1_X0_oneTowards (xT X) )) : Sim X Qf 0 0 2 (m_X0_oneTowards x0 x1) [] 0 [(0, .int x0), (1, .int x1)] [] := by
  unfold m_X0_oneTowards
  refine s_iload_n C 0 dX0_oneTowards_0 rfl rfl ?_
  refine s_iload_n C 1 dX0_oneTowards_1 rfl rfl ?_
  refine s_icmp_ne C 7 dX0_oneTowards_2 (by decide) ?_ ?_
  · refine s_iload_n C 0 dX0_oneTowards_7 rfl rfl ?_
    refine s_iload_n C 1 dX0_oneTowards_8 rfl rfl ?_
    refine s_icmp_ge C 16 dX0_oneTowards_9 (by decide) ?_ ?_
    · refine s_iconst C (-1) dX0_oneTowards_16 (by decide) ?_
      exact s_retI hR (-1) rfl rfl dX0_oneTowards_17
    · refine s_iconst C 1 dX0_oneTowards_12 (by decide) ?_
      refine s_goto C 17 dX0_oneTowards_13 (by decide) ?_
      exact s_retI hR 1 rfl rfl dX0_oneTowards_17
  · refine s_iconst C 0 dX0_oneTowards_5 (by decide) ?_
    exact s_retI hR 0 rfl rfl dX0_oneTowards_6
theorem c_X0_oneTowards (l : Launch) (D : va_G) (T : Nat → ClassId) (x0 : Int32) (x1 : Int32) : ∀ q : Int32, m_X0_oneTowards x0 x1 = some q → Ct l yX0_oneTowards wsX0_oneTowards { frames := 0, cells := 0, slots := 0, locals := 0 } [.int x0, .int x1] D T [] ((fun q => some (.int q)) q) (w1_X0_oneTowards T  q) := by
  refine ct_I (by decide) rfl (Nat.le_of_ble_eq_true rfl) (m_X0_oneTowards x0 x1) (fun q => some (.int q)) (w1_X0_oneTowards T ) ?_
  intro X Qf hL hD hT C hR
  subst hT
  exact b_X0_oneTowards C hR
abbrev w1_X0_stepToColumn (T : Nat → ClassId) (t : Nat) (t_length : Int32) (t_width : Int32) (t_sunFirst : Int32) (t_pace : Int32) (t_nose : Int32) (t_cats : Int32) (t_bridgeMay : Int32) (t_sunMay : Int32) (t_noseMay : Int32) (t_starts : Nat) (t_habits : Nat) (t_leaders : Nat) (q : Int32) : va_W := [(t, .inr (0, [.int t_length, .int t_width, .int t_sunFirst, .int t_pace, .int t_nose, .int t_cats, .int t_bridgeMay, .int t_sunMay, .int t_noseMay, .ref t_starts, .ref t_habits, .ref t_leaders]))]
noncomputable def m_X0_stepToColumn (x1 : Int32) (x2 : Int32) (t_length : Int32) : Option (Int32) :=
  (m_X0_columnOf x1 t_length).bind (fun q1 => (m_X0_oneTowards q1 x2).bind (fun q2 => some (x1 + q2)))
set_option maxHeartbeats 4000000 in
theorem b_X0_stepToColumn {X : KX} {Qf : Int32 → State → Prop} {x1 : Int32} {x2 : Int32} {t : Nat} {t_length : Int32} {t_width : Int32} {t_sunFirst : Int32} {t_pace : Int32} {t_nose : Int32} {t_cats : Int32} {t_bridgeMay : Int32} {t_sunMay : Int32} {t_noseMay : Int32} {t_starts : Nat} {t_habits : Nat} {t_leaders : Nat} (C : Cx X cX0_stepToColumn RX0 wsX0_stepToColumn 3 { frames := 1, cells := 0, slots := 0, locals := 21 }) (hR : RtI X Qf cX0_stepToColumn 3 (fun q => some (.int q)) (w1_X0_stepToColumn (xT X) t t_length t_width t_sunFirst t_pace t_nose t_cats t_bridgeMay t_sunMay t_noseMay t_starts t_habits t_leaders)) : Sim X Qf 0 0 3 (m_X0_stepToColumn x1 x2 t_length) [(t, .inr (0, [.int t_length, .int t_width, .int t_sunFirst, .int t_pace, .int t_nose, .int t_cats, .int t_bridgeMay, .int t_sunMay, .int t_noseMay, .ref t_starts, .ref t_habits, .ref t_leaders]))] 0 [(0, .ref t), (1, .int x1), (2, .int x2)] [] := by
  unfold m_X0_stepToColumn
  refine s_iload_n C 1 dX0_stepToColumn_0 rfl rfl ?_
  refine s_aload_n C 0 dX0_stepToColumn_1 rfl rfl ?_
  refine s_iload_n C 1 dX0_stepToColumn_2 rfl rfl ?_
  refine s_callV (n := 1) C [.int x1] _ _ _ (fun q1 hq => c_X0_columnOf (xL X) (xD X) (xT X) x1 t t_length t_width t_sunFirst t_pace t_nose t_cats t_bridgeMay t_sunMay t_noseMay t_starts t_habits t_leaders q1 hq) gX0_stepToColumn_X0_columnOf rfl rfl rfl ⟨rfl, by decide +kernel, by decide +kernel, by decide +kernel⟩ ⟨Nat.le_of_ble_eq_true rfl, Nat.le_of_ble_eq_true rfl⟩ ⟨Nat.le_of_ble_eq_true rfl, Nat.le_of_ble_eq_true rfl⟩ 0 0 rfl rfl rfl [.int x1, .ref t, .int x1] rfl (Nat.le_of_ble_eq_true rfl) dX0_stepToColumn_3 [0] [] [0] (fun q1 => [(t, .inr (0, [.int t_length, .int t_width, .int t_sunFirst, .int t_pace, .int t_nose, .int t_cats, .int t_bridgeMay, .int t_sunMay, .int t_noseMay, .ref t_starts, .ref t_habits, .ref t_leaders]))]) rfl rfl (by decide) (by decide) (by decide) (fun _ => rfl) (by decide) (fun q1 => [.int q1, .int x1]) (fun _ => rfl) (fun q1 => ?_)
  refine s_iload_n C 2 dX0_stepToColumn_6 rfl rfl ?_
  refine s_callS (n := 2) C [.int q1, .int x2] _ _ _ (fun q2 hq => c_X0_oneTowards (xL X) (xD X) (xT X) q1 x2 q2 hq) gX0_stepToColumn_X0_oneTowards rfl rfl rfl ⟨by decide +kernel, by decide +kernel, by decide +kernel⟩ ⟨Nat.le_of_ble_eq_true rfl, Nat.le_of_ble_eq_true rfl⟩ ⟨Nat.le_of_ble_eq_true rfl, Nat.le_of_ble_eq_true rfl⟩ rfl [.int x2, .int q1, .int x1] rfl (Nat.le_of_ble_eq_true rfl) dX0_stepToColumn_7 [] [0] [0] (fun q2 => [(t, .inr (0, [.int t_length, .int t_width, .int t_sunFirst, .int t_pace, .int t_nose, .int t_cats, .int t_bridgeMay, .int t_sunMay, .int t_noseMay, .ref t_starts, .ref t_habits, .ref t_leaders]))]) rfl rfl (by decide) (by decide) (by decide) (fun _ => rfl) (by decide) (fun q2 => [.int q2, .int x1]) (fun _ => rfl) (fun q2 => ?_)
  refine s_iadd C dX0_stepToColumn_10 ?_
  exact s_retI hR (x1 + q2) rfl rfl dX0_stepToColumn_11
theorem c_X0_stepToColumn (l : Launch) (D : va_G) (T : Nat → ClassId) (x1 : Int32) (x2 : Int32) (t : Nat) (t_length : Int32) (t_width : Int32) (t_sunFirst : Int32) (t_pace : Int32) (t_nose : Int32) (t_cats : Int32) (t_bridgeMay : Int32) (t_sunMay : Int32) (t_noseMay : Int32) (t_starts : Nat) (t_habits : Nat) (t_leaders : Nat) : ∀ q : Int32, m_X0_stepToColumn x1 x2 t_length = some q → Ct l yX0_stepToColumn wsX0_stepToColumn { frames := 1, cells := 0, slots := 0, locals := 21 } [.ref t, .int x1, .int x2] D T [(t, .inr (0, [.int t_length, .int t_width, .int t_sunFirst, .int t_pace, .int t_nose, .int t_cats, .int t_bridgeMay, .int t_sunMay, .int t_noseMay, .ref t_starts, .ref t_habits, .ref t_leaders]))] ((fun q => some (.int q)) q) (w1_X0_stepToColumn T t t_length t_width t_sunFirst t_pace t_nose t_cats t_bridgeMay t_sunMay t_noseMay t_starts t_habits t_leaders q) := by
  refine ct_I (by decide) rfl (Nat.le_of_ble_eq_true rfl) (m_X0_stepToColumn x1 x2 t_length) (fun q => some (.int q)) (w1_X0_stepToColumn T t t_length t_width t_sunFirst t_pace t_nose t_cats t_bridgeMay t_sunMay t_noseMay t_starts t_habits t_leaders) ?_
  intro X Qf hL hD hT C hR
  subst hT
  exact b_X0_stepToColumn C hR
theorem iX0_stepTowards_X0 : ∀ w ∈ u_ws RX0 TX0 12, w ∈ wsX0_stepTowards := by decide +kernel
theorem kX0_stepTowards_24 : Cond.fieldLink RX0 24 "NineCats$Plan" "length" "I" ∈ wsX0_stepTowards := by decide +kernel
abbrev w1_X0_stepTowards (T : Nat → ClassId) (t : Nat) (t_length : Int32) (t_width : Int32) (t_sunFirst : Int32) (t_pace : Int32) (t_nose : Int32) (t_cats : Int32) (t_bridgeMay : Int32) (t_sunMay : Int32) (t_noseMay : Int32) (t_starts : Nat) (t_habits : Nat) (t_leaders : Nat) (q : Int32) : va_W := [(t, .inr (0, [.int t_length, .int t_width, .int t_sunFirst, .int t_pace, .int t_nose, .int t_cats, .int t_bridgeMay, .int t_sunMay, .int t_noseMay, .ref t_starts, .ref t_habits, .ref t_leaders]))]
noncomputable def m_X0_stepTowards (x1 : Int32) (x2 : Int32) (t_length : Int32) : Option (Int32) :=
  (m_X0_columnOf x2 t_length).bind (fun q1 => (m_X0_columnOf x1 t_length).bind (fun q2 => if q1 = q2 then ((m_X0_oneTowards x1 x2).bind (fun q3 => some (x1 + (t_length * q3)))) else ((m_X0_columnOf x1 t_length).bind (fun q4 => (m_X0_oneTowards q4 q1).bind (fun q5 => some (x1 + q5))))))
set_option maxHeartbeats 4000000 in
theorem b_X0_stepTowards {X : KX} {Qf : Int32 → State → Prop} {x1 : Int32} {x2 : Int32} {t : Nat} {t_length : Int32} {t_width : Int32} {t_sunFirst : Int32} {t_pace : Int32} {t_nose : Int32} {t_cats : Int32} {t_bridgeMay : Int32} {t_sunMay : Int32} {t_noseMay : Int32} {t_starts : Nat} {t_habits : Nat} {t_leaders : Nat} (C : Cx X cX0_stepTowards RX0 wsX0_stepTowards 4 { frames := 1, cells := 0, slots := 0, locals := 21 }) (hR : RtI X Qf cX0_stepTowards 4 (fun q => some (.int q)) (w1_X0_stepTowards (xT X) t t_length t_width t_sunFirst t_pace t_nose t_cats t_bridgeMay t_sunMay t_noseMay t_starts t_habits t_leaders)) : Sim X Qf 0 0 4 (m_X0_stepTowards x1 x2 t_length) [(t, .inr (0, [.int t_length, .int t_width, .int t_sunFirst, .int t_pace, .int t_nose, .int t_cats, .int t_bridgeMay, .int t_sunMay, .int t_noseMay, .ref t_starts, .ref t_habits, .ref t_leaders]))] 0 [(0, .ref t), (1, .int x1), (2, .int x2)] [] := by
  unfold m_X0_stepTowards
  refine s_aload_n C 0 dX0_stepTowards_0 rfl rfl ?_
  refine s_iload_n C 2 dX0_stepTowards_1 rfl rfl ?_
  refine s_callV (n := 1) C [.int x2] _ _ _ (fun q1 hq => c_X0_columnOf (xL X) (xD X) (xT X) x2 t t_length t_width t_sunFirst t_pace t_nose t_cats t_bridgeMay t_sunMay t_noseMay t_starts t_habits t_leaders q1 hq) gX0_stepTowards_X0_columnOf rfl rfl rfl ⟨rfl, by decide +kernel, by decide +kernel, by decide +kernel⟩ ⟨Nat.le_of_ble_eq_true rfl, Nat.le_of_ble_eq_true rfl⟩ ⟨Nat.le_of_ble_eq_true rfl, Nat.le_of_ble_eq_true rfl⟩ 0 0 rfl rfl rfl [.int x2, .ref t] rfl (Nat.le_of_ble_eq_true rfl) dX0_stepTowards_2 [0] [] [0] (fun q1 => [(t, .inr (0, [.int t_length, .int t_width, .int t_sunFirst, .int t_pace, .int t_nose, .int t_cats, .int t_bridgeMay, .int t_sunMay, .int t_noseMay, .ref t_starts, .ref t_habits, .ref t_leaders]))]) rfl rfl (by decide) (by decide) (by decide) (fun _ => rfl) (by decide) (fun q1 => [.int q1]) (fun _ => rfl) (fun q1 => ?_)
  refine s_istore_n C [(3, .int q1), (0, .ref t), (1, .int x1), (2, .int x2)] dX0_stepTowards_5 rfl (by decide) rfl ?_
  refine s_iload_n C 0 dX0_stepTowards_6 rfl rfl ?_
  refine s_aload_n C 1 dX0_stepTowards_7 rfl rfl ?_
  refine s_iload_n C 2 dX0_stepTowards_8 rfl rfl ?_
  refine s_callV (n := 1) C [.int x1] _ _ _ (fun q2 hq => c_X0_columnOf (xL X) (xD X) (xT X) x1 t t_length t_width t_sunFirst t_pace t_nose t_cats t_bridgeMay t_sunMay t_noseMay t_starts t_habits t_leaders q2 hq) gX0_stepTowards_X0_columnOf rfl rfl rfl ⟨rfl, by decide +kernel, by decide +kernel, by decide +kernel⟩ ⟨Nat.le_of_ble_eq_true rfl, Nat.le_of_ble_eq_true rfl⟩ ⟨Nat.le_of_ble_eq_true rfl, Nat.le_of_ble_eq_true rfl⟩ 0 0 rfl rfl rfl [.int x1, .ref t, .int q1] rfl (Nat.le_of_ble_eq_true rfl) dX0_stepTowards_9 [0] [] [0] (fun q2 => [(t, .inr (0, [.int t_length, .int t_width, .int t_sunFirst, .int t_pace, .int t_nose, .int t_cats, .int t_bridgeMay, .int t_sunMay, .int t_noseMay, .ref t_starts, .ref t_habits, .ref t_leaders]))]) rfl rfl (by decide) (by decide) (by decide) (fun _ => rfl) (by decide) (fun q2 => [.int q2, .int q1]) (fun _ => rfl) (fun q2 => ?_)
  refine s_icmp_eq C 27 dX0_stepTowards_12 (by decide) ?_ ?_
  · refine s_iload_n C 2 dX0_stepTowards_27 rfl rfl ?_
    refine s_aload_n C 1 dX0_stepTowards_28 rfl rfl ?_
    refine s_get C iX0_stepTowards_X0 0 rfl rfl 0 (by decide) kX0_stepTowards_24 (.int t_length) rfl dX0_stepTowards_29 ?_
    refine s_iload_n C 2 dX0_stepTowards_32 rfl rfl ?_
    refine s_iload_n C 3 dX0_stepTowards_33 rfl rfl ?_
    refine s_callS (n := 2) C [.int x1, .int x2] _ _ _ (fun q3 hq => c_X0_oneTowards (xL X) (xD X) (xT X) x1 x2 q3 hq) gX0_stepTowards_X0_oneTowards rfl rfl rfl ⟨by decide +kernel, by decide +kernel, by decide +kernel⟩ ⟨Nat.le_of_ble_eq_true rfl, Nat.le_of_ble_eq_true rfl⟩ ⟨Nat.le_of_ble_eq_true rfl, Nat.le_of_ble_eq_true rfl⟩ rfl [.int x2, .int x1, .int t_length, .int x1] rfl (Nat.le_of_ble_eq_true rfl) dX0_stepTowards_34 [] [0] [0] (fun q3 => [(t, .inr (0, [.int t_length, .int t_width, .int t_sunFirst, .int t_pace, .int t_nose, .int t_cats, .int t_bridgeMay, .int t_sunMay, .int t_noseMay, .ref t_starts, .ref t_habits, .ref t_leaders]))]) rfl rfl (by decide) (by decide) (by decide) (fun _ => rfl) (by decide) (fun q3 => [.int q3, .int t_length, .int x1]) (fun _ => rfl) (fun q3 => ?_)
    refine s_imul C dX0_stepTowards_37 ?_
    refine s_iadd C dX0_stepTowards_38 ?_
    exact s_retI hR (x1 + (t_length * q3)) rfl rfl dX0_stepTowards_39
  · refine s_iload_n C 2 dX0_stepTowards_15 rfl rfl ?_
    refine s_aload_n C 1 dX0_stepTowards_16 rfl rfl ?_
    refine s_iload_n C 2 dX0_stepTowards_17 rfl rfl ?_
    refine s_callV (n := 1) C [.int x1] _ _ _ (fun q4 hq => c_X0_columnOf (xL X) (xD X) (xT X) x1 t t_length t_width t_sunFirst t_pace t_nose t_cats t_bridgeMay t_sunMay t_noseMay t_starts t_habits t_leaders q4 hq) gX0_stepTowards_X0_columnOf rfl rfl rfl ⟨rfl, by decide +kernel, by decide +kernel, by decide +kernel⟩ ⟨Nat.le_of_ble_eq_true rfl, Nat.le_of_ble_eq_true rfl⟩ ⟨Nat.le_of_ble_eq_true rfl, Nat.le_of_ble_eq_true rfl⟩ 0 0 rfl rfl rfl [.int x1, .ref t, .int x1] rfl (Nat.le_of_ble_eq_true rfl) dX0_stepTowards_18 [0] [] [0] (fun q4 => [(t, .inr (0, [.int t_length, .int t_width, .int t_sunFirst, .int t_pace, .int t_nose, .int t_cats, .int t_bridgeMay, .int t_sunMay, .int t_noseMay, .ref t_starts, .ref t_habits, .ref t_leaders]))]) rfl rfl (by decide) (by decide) (by decide) (fun _ => rfl) (by decide) (fun q4 => [.int q4, .int x1]) (fun _ => rfl) (fun q4 => ?_)
    refine s_iload_n C 0 dX0_stepTowards_21 rfl rfl ?_
    refine s_callS (n := 2) C [.int q4, .int q1] _ _ _ (fun q5 hq => c_X0_oneTowards (xL X) (xD X) (xT X) q4 q1 q5 hq) gX0_stepTowards_X0_oneTowards rfl rfl rfl ⟨by decide +kernel, by decide +kernel, by decide +kernel⟩ ⟨Nat.le_of_ble_eq_true rfl, Nat.le_of_ble_eq_true rfl⟩ ⟨Nat.le_of_ble_eq_true rfl, Nat.le_of_ble_eq_true rfl⟩ rfl [.int q1, .int q4, .int x1] rfl (Nat.le_of_ble_eq_true rfl) dX0_stepTowards_22 [] [0] [0] (fun q5 => [(t, .inr (0, [.int t_length, .int t_width, .int t_sunFirst, .int t_pace, .int t_nose, .int t_cats, .int t_bridgeMay, .int t_sunMay, .int t_noseMay, .ref t_starts, .ref t_habits, .ref t_leaders]))]) rfl rfl (by decide) (by decide) (by decide) (fun _ => rfl) (by decide) (fun q5 => [.int q5, .int x1]) (fun _ => rfl) (fun q5 => ?_)
    refine s_iadd C dX0_stepTowards_25 ?_
    exact s_retI hR (x1 + q5) rfl rfl dX0_stepTowards_26
theorem c_X0_stepTowards (l : Launch) (D : va_G) (T : Nat → ClassId) (x1 : Int32) (x2 : Int32) (t : Nat) (t_length : Int32) (t_width : Int32) (t_sunFirst : Int32) (t_pace : Int32) (t_nose : Int32) (t_cats : Int32) (t_bridgeMay : Int32) (t_sunMay : Int32) (t_noseMay : Int32) (t_starts : Nat) (t_habits : Nat) (t_leaders : Nat) : ∀ q : Int32, m_X0_stepTowards x1 x2 t_length = some q → Ct l yX0_stepTowards wsX0_stepTowards { frames := 1, cells := 0, slots := 0, locals := 21 } [.ref t, .int x1, .int x2] D T [(t, .inr (0, [.int t_length, .int t_width, .int t_sunFirst, .int t_pace, .int t_nose, .int t_cats, .int t_bridgeMay, .int t_sunMay, .int t_noseMay, .ref t_starts, .ref t_habits, .ref t_leaders]))] ((fun q => some (.int q)) q) (w1_X0_stepTowards T t t_length t_width t_sunFirst t_pace t_nose t_cats t_bridgeMay t_sunMay t_noseMay t_starts t_habits t_leaders q) := by
  refine ct_I (by decide) rfl (Nat.le_of_ble_eq_true rfl) (m_X0_stepTowards x1 x2 t_length) (fun q => some (.int q)) (w1_X0_stepTowards T t t_length t_width t_sunFirst t_pace t_nose t_cats t_bridgeMay t_sunMay t_noseMay t_starts t_habits t_leaders) ?_
  intro X Qf hL hD hT C hR
  subst hT
  exact b_X0_stepTowards C hR
theorem iX0_cellBy_X0 : ∀ w ∈ u_ws RX0 TX0 12, w ∈ wsX0_cellBy := by decide +kernel
theorem kX0_cellBy_24 : Cond.fieldLink RX0 24 "NineCats$Plan" "length" "I" ∈ wsX0_cellBy := by decide +kernel
abbrev w1_X0_cellBy (T : Nat → ClassId) (t : Nat) (t_length : Int32) (t_width : Int32) (t_sunFirst : Int32) (t_pace : Int32) (t_nose : Int32) (t_cats : Int32) (t_bridgeMay : Int32) (t_sunMay : Int32) (t_noseMay : Int32) (t_starts : Nat) (t_habits : Nat) (t_leaders : Nat) (q : Int32) : va_W := [(t, .inr (0, [.int t_length, .int t_width, .int t_sunFirst, .int t_pace, .int t_nose, .int t_cats, .int t_bridgeMay, .int t_sunMay, .int t_noseMay, .ref t_starts, .ref t_habits, .ref t_leaders]))]
noncomputable def m_X0_cellBy (x1 : Int32) (x2 : Int32) (t_length : Int32) (t_width : Int32) : Option (Int32) :=
  if x2 = Int32.ofNat 0 then ((m_X0_columnOf x1 t_length).bind (fun q1 => if t_length ≤ (q1 + 1) then (some (-9)) else (some (x1 + 1)))) else (if x2 = Int32.ofNat 1 then (if (x1 - t_length) < 0 then (some (-9)) else (some (x1 - t_length))) else (if x2 = Int32.ofNat 2 then ((m_X0_cells t_length t_width).bind (fun q2 => if q2 ≤ (x1 + t_length) then (some (-9)) else (some (x1 + t_length)))) else (if x2 = Int32.ofNat 3 then ((m_X0_columnOf x1 t_length).bind (fun q3 => if q3 ≤ 0 then (some (-9)) else (some (x1 - 1)))) else (some x1))))
set_option maxHeartbeats 4000000 in
theorem b_X0_cellBy {X : KX} {Qf : Int32 → State → Prop} {x1 : Int32} {x2 : Int32} {t : Nat} {t_length : Int32} {t_width : Int32} {t_sunFirst : Int32} {t_pace : Int32} {t_nose : Int32} {t_cats : Int32} {t_bridgeMay : Int32} {t_sunMay : Int32} {t_noseMay : Int32} {t_starts : Nat} {t_habits : Nat} {t_leaders : Nat} (C : Cx X cX0_cellBy RX0 wsX0_cellBy 3 { frames := 1, cells := 0, slots := 0, locals := 21 }) (hR : RtI X Qf cX0_cellBy 3 (fun q => some (.int q)) (w1_X0_cellBy (xT X) t t_length t_width t_sunFirst t_pace t_nose t_cats t_bridgeMay t_sunMay t_noseMay t_starts t_habits t_leaders)) : Sim X Qf 0 0 3 (m_X0_cellBy x1 x2 t_length t_width) [(t, .inr (0, [.int t_length, .int t_width, .int t_sunFirst, .int t_pace, .int t_nose, .int t_cats, .int t_bridgeMay, .int t_sunMay, .int t_noseMay, .ref t_starts, .ref t_habits, .ref t_leaders]))] 0 [(0, .ref t), (1, .int x1), (2, .int x2)] [] := by
  unfold m_X0_cellBy
  refine s_iload_n C 2 dX0_cellBy_0 rfl rfl ?_
  refine s_table C 0 [32, 55, 76, 101] 118 dX0_cellBy_1 (by decide) (by decide) (by decide) (by decide) (by decide) ?_
  refine s_sw 0 ?_ ?_
  · refine s_aload_n C 0 dX0_cellBy_32 rfl rfl ?_
    refine s_iload_n C 1 dX0_cellBy_33 rfl rfl ?_
    refine s_callV (n := 1) C [.int x1] _ _ _ (fun q1 hq => c_X0_columnOf (xL X) (xD X) (xT X) x1 t t_length t_width t_sunFirst t_pace t_nose t_cats t_bridgeMay t_sunMay t_noseMay t_starts t_habits t_leaders q1 hq) gX0_cellBy_X0_columnOf rfl rfl rfl ⟨rfl, by decide +kernel, by decide +kernel, by decide +kernel⟩ ⟨Nat.le_of_ble_eq_true rfl, Nat.le_of_ble_eq_true rfl⟩ ⟨Nat.le_of_ble_eq_true rfl, Nat.le_of_ble_eq_true rfl⟩ 0 0 rfl rfl rfl [.int x1, .ref t] rfl (Nat.le_of_ble_eq_true rfl) dX0_cellBy_34 [0] [] [0] (fun q1 => [(t, .inr (0, [.int t_length, .int t_width, .int t_sunFirst, .int t_pace, .int t_nose, .int t_cats, .int t_bridgeMay, .int t_sunMay, .int t_noseMay, .ref t_starts, .ref t_habits, .ref t_leaders]))]) rfl rfl (by decide) (by decide) (by decide) (fun _ => rfl) (by decide) (fun q1 => [.int q1]) (fun _ => rfl) (fun q1 => ?_)
    refine s_iconst C 1 dX0_cellBy_37 (by decide) ?_
    refine s_iadd C dX0_cellBy_38 ?_
    refine s_aload_n C 0 dX0_cellBy_39 rfl rfl ?_
    refine s_get C iX0_cellBy_X0 0 rfl rfl 0 (by decide) kX0_cellBy_24 (.int t_length) rfl dX0_cellBy_40 ?_
    refine s_icmp_ge C 52 dX0_cellBy_43 (by decide) ?_ ?_
    · refine s_bipush C (-9) dX0_cellBy_52 (by decide) ?_
      exact s_retI hR (-9) rfl rfl dX0_cellBy_54
    · refine s_iload_n C 1 dX0_cellBy_46 rfl rfl ?_
      refine s_iconst C 1 dX0_cellBy_47 (by decide) ?_
      refine s_iadd C dX0_cellBy_48 ?_
      refine s_goto C 54 dX0_cellBy_49 (by decide) ?_
      exact s_retI hR (x1 + 1) rfl rfl dX0_cellBy_54
  refine s_sw 1 ?_ ?_
  · refine s_iload_n C 1 dX0_cellBy_55 rfl rfl ?_
    refine s_aload_n C 0 dX0_cellBy_56 rfl rfl ?_
    refine s_get C iX0_cellBy_X0 0 rfl rfl 0 (by decide) kX0_cellBy_24 (.int t_length) rfl dX0_cellBy_57 ?_
    refine s_isub C dX0_cellBy_60 ?_
    refine s_if_lt C 73 dX0_cellBy_61 (by decide) ?_ ?_
    · refine s_bipush C (-9) dX0_cellBy_73 (by decide) ?_
      exact s_retI hR (-9) rfl rfl dX0_cellBy_75
    · refine s_iload_n C 1 dX0_cellBy_64 rfl rfl ?_
      refine s_aload_n C 0 dX0_cellBy_65 rfl rfl ?_
      refine s_get C iX0_cellBy_X0 0 rfl rfl 0 (by decide) kX0_cellBy_24 (.int t_length) rfl dX0_cellBy_66 ?_
      refine s_isub C dX0_cellBy_69 ?_
      refine s_goto C 75 dX0_cellBy_70 (by decide) ?_
      exact s_retI hR (x1 - t_length) rfl rfl dX0_cellBy_75
  refine s_sw 2 ?_ ?_
  · refine s_iload_n C 1 dX0_cellBy_76 rfl rfl ?_
    refine s_aload_n C 0 dX0_cellBy_77 rfl rfl ?_
    refine s_get C iX0_cellBy_X0 0 rfl rfl 0 (by decide) kX0_cellBy_24 (.int t_length) rfl dX0_cellBy_78 ?_
    refine s_iadd C dX0_cellBy_81 ?_
    refine s_aload_n C 0 dX0_cellBy_82 rfl rfl ?_
    refine s_callV (n := 0) C [] _ _ _ (fun q2 hq => c_X0_cells (xL X) (xD X) (xT X) t t_length t_width t_sunFirst t_pace t_nose t_cats t_bridgeMay t_sunMay t_noseMay t_starts t_habits t_leaders q2 hq) gX0_cellBy_X0_cells rfl rfl rfl ⟨rfl, by decide +kernel, by decide +kernel, by decide +kernel⟩ ⟨Nat.le_of_ble_eq_true rfl, Nat.le_of_ble_eq_true rfl⟩ ⟨Nat.le_of_ble_eq_true rfl, Nat.le_of_ble_eq_true rfl⟩ 0 0 rfl rfl rfl [.ref t, .int (x1 + t_length)] rfl (Nat.le_of_ble_eq_true rfl) dX0_cellBy_83 [0] [] [0] (fun q2 => [(t, .inr (0, [.int t_length, .int t_width, .int t_sunFirst, .int t_pace, .int t_nose, .int t_cats, .int t_bridgeMay, .int t_sunMay, .int t_noseMay, .ref t_starts, .ref t_habits, .ref t_leaders]))]) rfl rfl (by decide) (by decide) (by decide) (fun _ => rfl) (by decide) (fun q2 => [.int q2, .int (x1 + t_length)]) (fun _ => rfl) (fun q2 => ?_)
    refine s_icmp_ge C 98 dX0_cellBy_86 (by decide) ?_ ?_
    · refine s_bipush C (-9) dX0_cellBy_98 (by decide) ?_
      exact s_retI hR (-9) rfl rfl dX0_cellBy_100
    · refine s_iload_n C 1 dX0_cellBy_89 rfl rfl ?_
      refine s_aload_n C 0 dX0_cellBy_90 rfl rfl ?_
      refine s_get C iX0_cellBy_X0 0 rfl rfl 0 (by decide) kX0_cellBy_24 (.int t_length) rfl dX0_cellBy_91 ?_
      refine s_iadd C dX0_cellBy_94 ?_
      refine s_goto C 100 dX0_cellBy_95 (by decide) ?_
      exact s_retI hR (x1 + t_length) rfl rfl dX0_cellBy_100
  refine s_sw 3 ?_ ?_
  · refine s_aload_n C 0 dX0_cellBy_101 rfl rfl ?_
    refine s_iload_n C 1 dX0_cellBy_102 rfl rfl ?_
    refine s_callV (n := 1) C [.int x1] _ _ _ (fun q3 hq => c_X0_columnOf (xL X) (xD X) (xT X) x1 t t_length t_width t_sunFirst t_pace t_nose t_cats t_bridgeMay t_sunMay t_noseMay t_starts t_habits t_leaders q3 hq) gX0_cellBy_X0_columnOf rfl rfl rfl ⟨rfl, by decide +kernel, by decide +kernel, by decide +kernel⟩ ⟨Nat.le_of_ble_eq_true rfl, Nat.le_of_ble_eq_true rfl⟩ ⟨Nat.le_of_ble_eq_true rfl, Nat.le_of_ble_eq_true rfl⟩ 0 0 rfl rfl rfl [.int x1, .ref t] rfl (Nat.le_of_ble_eq_true rfl) dX0_cellBy_103 [0] [] [0] (fun q3 => [(t, .inr (0, [.int t_length, .int t_width, .int t_sunFirst, .int t_pace, .int t_nose, .int t_cats, .int t_bridgeMay, .int t_sunMay, .int t_noseMay, .ref t_starts, .ref t_habits, .ref t_leaders]))]) rfl rfl (by decide) (by decide) (by decide) (fun _ => rfl) (by decide) (fun q3 => [.int q3]) (fun _ => rfl) (fun q3 => ?_)
    refine s_if_le C 115 dX0_cellBy_106 (by decide) ?_ ?_
    · refine s_bipush C (-9) dX0_cellBy_115 (by decide) ?_
      exact s_retI hR (-9) rfl rfl dX0_cellBy_117
    · refine s_iload_n C 1 dX0_cellBy_109 rfl rfl ?_
      refine s_iconst C 1 dX0_cellBy_110 (by decide) ?_
      refine s_isub C dX0_cellBy_111 ?_
      refine s_goto C 117 dX0_cellBy_112 (by decide) ?_
      exact s_retI hR (x1 - 1) rfl rfl dX0_cellBy_117
  refine s_sw0 ?_
  refine s_iload_n C 1 dX0_cellBy_118 rfl rfl ?_
  exact s_retI hR x1 rfl rfl dX0_cellBy_119
theorem c_X0_cellBy (l : Launch) (D : va_G) (T : Nat → ClassId) (x1 : Int32) (x2 : Int32) (t : Nat) (t_length : Int32) (t_width : Int32) (t_sunFirst : Int32) (t_pace : Int32) (t_nose : Int32) (t_cats : Int32) (t_bridgeMay : Int32) (t_sunMay : Int32) (t_noseMay : Int32) (t_starts : Nat) (t_habits : Nat) (t_leaders : Nat) : ∀ q : Int32, m_X0_cellBy x1 x2 t_length t_width = some q → Ct l yX0_cellBy wsX0_cellBy { frames := 1, cells := 0, slots := 0, locals := 21 } [.ref t, .int x1, .int x2] D T [(t, .inr (0, [.int t_length, .int t_width, .int t_sunFirst, .int t_pace, .int t_nose, .int t_cats, .int t_bridgeMay, .int t_sunMay, .int t_noseMay, .ref t_starts, .ref t_habits, .ref t_leaders]))] ((fun q => some (.int q)) q) (w1_X0_cellBy T t t_length t_width t_sunFirst t_pace t_nose t_cats t_bridgeMay t_sunMay t_noseMay t_starts t_habits t_leaders q) := by
  refine ct_I (by decide) rfl (Nat.le_of_ble_eq_true rfl) (m_X0_cellBy x1 x2 t_length t_width) (fun q => some (.int q)) (w1_X0_cellBy T t t_length t_width t_sunFirst t_pace t_nose t_cats t_bridgeMay t_sunMay t_noseMay t_starts t_habits t_leaders) ?_
  intro X Qf hL hD hT C hR
  subst hT
  exact b_X0_cellBy C hR
theorem iX0_spread_X0 : ∀ w ∈ u_ws RX0 TX0 12, w ∈ wsX0_spread := by decide +kernel
theorem kX0_spread_24 : Cond.fieldLink RX0 24 "NineCats$Plan" "length" "I" ∈ wsX0_spread := by decide +kernel
abbrev w1_X0_spread (T : Nat → ClassId) (t : Nat) (t_length : Int32) (t_width : Int32) (t_sunFirst : Int32) (t_pace : Int32) (t_nose : Int32) (t_cats : Int32) (t_bridgeMay : Int32) (t_sunMay : Int32) (t_noseMay : Int32) (t_starts : Nat) (t_habits : Nat) (t_leaders : Nat) (q : Int32) : va_W := [(t, .inr (0, [.int t_length, .int t_width, .int t_sunFirst, .int t_pace, .int t_nose, .int t_cats, .int t_bridgeMay, .int t_sunMay, .int t_noseMay, .ref t_starts, .ref t_habits, .ref t_leaders]))]
noncomputable def m_X0_spread (x1 : Int32) (t_length : Int32) (t_width : Int32) : Option (Int32) :=
  (m_X0_columnCells (t_length - 1) t_length t_width).bind (fun q1 => nm ((x1 &&& (q1 ^^^ (-1))) <<< (1 &&& 31)) (fun y2 => (m_X0_columnCells 0 t_length t_width).bind (fun q3 => nm (ush (x1 &&& (q3 ^^^ (-1))) 1) (fun y4 => (m_X0_allCells t_length t_width).bind (fun q5 => some (((((x1 ||| y2) ||| y4) ||| (x1 <<< (t_length &&& 31))) ||| (ush x1 t_length)) &&& q5))))))
set_option maxHeartbeats 4000000 in
theorem b_X0_spread {X : KX} {Qf : Int32 → State → Prop} {x1 : Int32} {t : Nat} {t_length : Int32} {t_width : Int32} {t_sunFirst : Int32} {t_pace : Int32} {t_nose : Int32} {t_cats : Int32} {t_bridgeMay : Int32} {t_sunMay : Int32} {t_noseMay : Int32} {t_starts : Nat} {t_habits : Nat} {t_leaders : Nat} (C : Cx X cX0_spread RX0 wsX0_spread 4 { frames := 2, cells := 0, slots := 0, locals := 40 }) (hR : RtI X Qf cX0_spread 4 (fun q => some (.int q)) (w1_X0_spread (xT X) t t_length t_width t_sunFirst t_pace t_nose t_cats t_bridgeMay t_sunMay t_noseMay t_starts t_habits t_leaders)) : Sim X Qf 0 0 4 (m_X0_spread x1 t_length t_width) [(t, .inr (0, [.int t_length, .int t_width, .int t_sunFirst, .int t_pace, .int t_nose, .int t_cats, .int t_bridgeMay, .int t_sunMay, .int t_noseMay, .ref t_starts, .ref t_habits, .ref t_leaders]))] 0 [(0, .ref t), (1, .int x1)] [] := by
  unfold m_X0_spread
  refine s_iload_n C 1 dX0_spread_0 rfl rfl ?_
  refine s_aload_n C 0 dX0_spread_1 rfl rfl ?_
  refine s_aload_n C 0 dX0_spread_2 rfl rfl ?_
  refine s_get C iX0_spread_X0 0 rfl rfl 0 (by decide) kX0_spread_24 (.int t_length) rfl dX0_spread_3 ?_
  refine s_iconst C 1 dX0_spread_6 (by decide) ?_
  refine s_isub C dX0_spread_7 ?_
  refine s_callV (n := 1) C [.int (t_length - 1)] _ _ _ (fun q1 hq => c_X0_columnCells (xL X) (xD X) (xT X) (t_length - 1) t t_length t_width t_sunFirst t_pace t_nose t_cats t_bridgeMay t_sunMay t_noseMay t_starts t_habits t_leaders q1 hq) gX0_spread_X0_columnCells rfl rfl rfl ⟨rfl, by decide +kernel, by decide +kernel, by decide +kernel⟩ ⟨Nat.le_of_ble_eq_true rfl, Nat.le_of_ble_eq_true rfl⟩ ⟨Nat.le_of_ble_eq_true rfl, Nat.le_of_ble_eq_true rfl⟩ 0 0 rfl rfl rfl [.int (t_length - 1), .ref t, .int x1] rfl (Nat.le_of_ble_eq_true rfl) dX0_spread_8 [0] [] [0] (fun q1 => [(t, .inr (0, [.int t_length, .int t_width, .int t_sunFirst, .int t_pace, .int t_nose, .int t_cats, .int t_bridgeMay, .int t_sunMay, .int t_noseMay, .ref t_starts, .ref t_habits, .ref t_leaders]))]) rfl rfl (by decide) (by decide) (by decide) (fun _ => rfl) (by decide) (fun q1 => [.int q1, .int x1]) (fun _ => rfl) (fun q1 => ?_)
  refine s_iconst C (-1) dX0_spread_11 (by decide) ?_
  refine s_ixor C dX0_spread_12 ?_
  refine s_iand C dX0_spread_13 ?_
  refine s_iconst C 1 dX0_spread_14 (by decide) ?_
  refine s_ishl C dX0_spread_15 ?_
  refine s_nmi (fun y2 => ?_)
  refine s_istore_n C [(2, .int y2), (0, .ref t), (1, .int x1)] dX0_spread_16 rfl (by decide) rfl ?_
  refine s_iload_n C 2 dX0_spread_17 rfl rfl ?_
  refine s_aload_n C 1 dX0_spread_18 rfl rfl ?_
  refine s_iconst C 0 dX0_spread_19 (by decide) ?_
  refine s_callV (n := 1) C [.int 0] _ _ _ (fun q3 hq => c_X0_columnCells (xL X) (xD X) (xT X) 0 t t_length t_width t_sunFirst t_pace t_nose t_cats t_bridgeMay t_sunMay t_noseMay t_starts t_habits t_leaders q3 hq) gX0_spread_X0_columnCells rfl rfl rfl ⟨rfl, by decide +kernel, by decide +kernel, by decide +kernel⟩ ⟨Nat.le_of_ble_eq_true rfl, Nat.le_of_ble_eq_true rfl⟩ ⟨Nat.le_of_ble_eq_true rfl, Nat.le_of_ble_eq_true rfl⟩ 0 0 rfl rfl rfl [.int 0, .ref t, .int x1] rfl (Nat.le_of_ble_eq_true rfl) dX0_spread_20 [0] [] [0] (fun q3 => [(t, .inr (0, [.int t_length, .int t_width, .int t_sunFirst, .int t_pace, .int t_nose, .int t_cats, .int t_bridgeMay, .int t_sunMay, .int t_noseMay, .ref t_starts, .ref t_habits, .ref t_leaders]))]) rfl rfl (by decide) (by decide) (by decide) (fun _ => rfl) (by decide) (fun q3 => [.int q3, .int x1]) (fun _ => rfl) (fun q3 => ?_)
  refine s_iconst C (-1) dX0_spread_23 (by decide) ?_
  refine s_ixor C dX0_spread_24 ?_
  refine s_iand C dX0_spread_25 ?_
  refine s_iconst C 1 dX0_spread_26 (by decide) ?_
  refine s_iushr C dX0_spread_27 ?_
  refine s_nmi (fun y4 => ?_)
  refine s_istore_n C [(3, .int y4), (2, .int y2), (0, .ref t), (1, .int x1)] dX0_spread_28 rfl (by decide) rfl ?_
  refine s_iload_n C 3 dX0_spread_29 rfl rfl ?_
  refine s_iload_n C 1 dX0_spread_30 rfl rfl ?_
  refine s_ior C dX0_spread_31 ?_
  refine s_iload_n C 0 dX0_spread_32 rfl rfl ?_
  refine s_ior C dX0_spread_33 ?_
  refine s_iload_n C 3 dX0_spread_34 rfl rfl ?_
  refine s_aload_n C 2 dX0_spread_35 rfl rfl ?_
  refine s_get C iX0_spread_X0 0 rfl rfl 0 (by decide) kX0_spread_24 (.int t_length) rfl dX0_spread_36 ?_
  refine s_ishl C dX0_spread_39 ?_
  refine s_ior C dX0_spread_40 ?_
  refine s_iload_n C 3 dX0_spread_41 rfl rfl ?_
  refine s_aload_n C 2 dX0_spread_42 rfl rfl ?_
  refine s_get C iX0_spread_X0 0 rfl rfl 0 (by decide) kX0_spread_24 (.int t_length) rfl dX0_spread_43 ?_
  refine s_iushr C dX0_spread_46 ?_
  refine s_ior C dX0_spread_47 ?_
  refine s_aload_n C 2 dX0_spread_48 rfl rfl ?_
  refine s_callV (n := 0) C [] _ _ _ (fun q5 hq => c_X0_allCells (xL X) (xD X) (xT X) t t_length t_width t_sunFirst t_pace t_nose t_cats t_bridgeMay t_sunMay t_noseMay t_starts t_habits t_leaders q5 hq) gX0_spread_X0_allCells rfl rfl rfl ⟨rfl, by decide +kernel, by decide +kernel, by decide +kernel⟩ ⟨Nat.le_of_ble_eq_true rfl, Nat.le_of_ble_eq_true rfl⟩ ⟨Nat.le_of_ble_eq_true rfl, Nat.le_of_ble_eq_true rfl⟩ 0 0 rfl rfl rfl [.ref t, .int ((((x1 ||| y2) ||| y4) ||| (x1 <<< (t_length &&& 31))) ||| (ush x1 t_length))] rfl (Nat.le_of_ble_eq_true rfl) dX0_spread_49 [0] [] [0] (fun q5 => [(t, .inr (0, [.int t_length, .int t_width, .int t_sunFirst, .int t_pace, .int t_nose, .int t_cats, .int t_bridgeMay, .int t_sunMay, .int t_noseMay, .ref t_starts, .ref t_habits, .ref t_leaders]))]) rfl rfl (by decide) (by decide) (by decide) (fun _ => rfl) (by decide) (fun q5 => [.int q5, .int ((((x1 ||| y2) ||| y4) ||| (x1 <<< (t_length &&& 31))) ||| (ush x1 t_length))]) (fun _ => rfl) (fun q5 => ?_)
  refine s_iand C dX0_spread_52 ?_
  exact s_retI hR (((((x1 ||| y2) ||| y4) ||| (x1 <<< (t_length &&& 31))) ||| (ush x1 t_length)) &&& q5) rfl rfl dX0_spread_53
theorem c_X0_spread (l : Launch) (D : va_G) (T : Nat → ClassId) (x1 : Int32) (t : Nat) (t_length : Int32) (t_width : Int32) (t_sunFirst : Int32) (t_pace : Int32) (t_nose : Int32) (t_cats : Int32) (t_bridgeMay : Int32) (t_sunMay : Int32) (t_noseMay : Int32) (t_starts : Nat) (t_habits : Nat) (t_leaders : Nat) : ∀ q : Int32, m_X0_spread x1 t_length t_width = some q → Ct l yX0_spread wsX0_spread { frames := 2, cells := 0, slots := 0, locals := 40 } [.ref t, .int x1] D T [(t, .inr (0, [.int t_length, .int t_width, .int t_sunFirst, .int t_pace, .int t_nose, .int t_cats, .int t_bridgeMay, .int t_sunMay, .int t_noseMay, .ref t_starts, .ref t_habits, .ref t_leaders]))] ((fun q => some (.int q)) q) (w1_X0_spread T t t_length t_width t_sunFirst t_pace t_nose t_cats t_bridgeMay t_sunMay t_noseMay t_starts t_habits t_leaders q) := by
  refine ct_I (by decide) rfl (Nat.le_of_ble_eq_true rfl) (m_X0_spread x1 t_length t_width) (fun q => some (.int q)) (w1_X0_spread T t t_length t_width t_sunFirst t_pace t_nose t_cats t_bridgeMay t_sunMay t_noseMay t_starts t_habits t_leaders) ?_
  intro X Qf hL hD hT C hR
  subst hT
  exact b_X0_spread C hR

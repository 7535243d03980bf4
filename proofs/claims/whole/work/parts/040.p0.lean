theorem iX0_cells_X0 : ∀ w ∈ u_ws RX0 TX0 12, w ∈ wsX0_cells := by decide +kernel
theorem kX0_cells_24 : Cond.fieldLink RX0 24 "NineCats$Plan" "length" "I" ∈ wsX0_cells := by decide +kernel
theorem kX0_cells_28 : Cond.fieldLink RX0 28 "NineCats$Plan" "width" "I" ∈ wsX0_cells := by decide +kernel
abbrev w1_X0_cells (T : Nat → ClassId) (t : Nat) (t_length : Int32) (t_width : Int32) (t_sunFirst : Int32) (t_pace : Int32) (t_nose : Int32) (t_cats : Int32) (t_bridgeMay : Int32) (t_sunMay : Int32) (t_noseMay : Int32) (t_starts : Nat) (t_habits : Nat) (t_leaders : Nat) (q : Int32) : va_W := [(t, .inr (0, [.int t_length, .int t_width, .int t_sunFirst, .int t_pace, .int t_nose, .int t_cats, .int t_bridgeMay, .int t_sunMay, .int t_noseMay, .ref t_starts, .ref t_habits, .ref t_leaders]))]
noncomputable def m_X0_cells (t_length : Int32) (t_width : Int32) : Option (Int32) :=
  some (t_length * t_width)
set_option maxHeartbeats 4000000 in
theorem b_X0_cells {X : KX} {Qf : Int32 → State → Prop} {t : Nat} {t_length : Int32} {t_width : Int32} {t_sunFirst : Int32} {t_pace : Int32} {t_nose : Int32} {t_cats : Int32} {t_bridgeMay : Int32} {t_sunMay : Int32} {t_noseMay : Int32} {t_starts : Nat} {t_habits : Nat} {t_leaders : Nat} (C : Cx X cX0_cells RX0 wsX0_cells 1 { frames := 0, cells := 0, slots := 0, locals := 0 }) (hR : RtI X Qf cX0_cells 1 (fun q => some (.int q)) (w1_X0_cells (xT X) t t_length t_width t_sunFirst t_pace t_nose t_cats t_bridgeMay t_sunMay t_noseMay t_starts t_habits t_leaders)) : Sim X Qf 0 0 1 (m_X0_cells t_length t_width) [(t, .inr (0, [.int t_length, .int t_width, .int t_sunFirst, .int t_pace, .int t_nose, .int t_cats, .int t_bridgeMay, .int t_sunMay, .int t_noseMay, .ref t_starts, .ref t_habits, .ref t_leaders]))] 0 [(0, .ref t)] [] := by
  unfold m_X0_cells
  refine s_aload_n C 0 dX0_cells_0 rfl rfl ?_
  refine s_get C iX0_cells_X0 0 rfl rfl 0 (by decide) kX0_cells_24 (.int t_length) rfl dX0_cells_1 ?_
  refine s_aload_n C 0 dX0_cells_4 rfl rfl ?_
  refine s_get C iX0_cells_X0 0 rfl rfl 1 (by decide) kX0_cells_28 (.int t_width) rfl dX0_cells_5 ?_
  refine s_imul C dX0_cells_8 ?_
  exact s_retI hR (t_length * t_width) rfl rfl dX0_cells_9
theorem c_X0_cells (l : Launch) (D : va_G) (T : Nat → ClassId) (t : Nat) (t_length : Int32) (t_width : Int32) (t_sunFirst : Int32) (t_pace : Int32) (t_nose : Int32) (t_cats : Int32) (t_bridgeMay : Int32) (t_sunMay : Int32) (t_noseMay : Int32) (t_starts : Nat) (t_habits : Nat) (t_leaders : Nat) : ∀ q : Int32, m_X0_cells t_length t_width = some q → Ct l yX0_cells wsX0_cells { frames := 0, cells := 0, slots := 0, locals := 0 } [.ref t] D T [(t, .inr (0, [.int t_length, .int t_width, .int t_sunFirst, .int t_pace, .int t_nose, .int t_cats, .int t_bridgeMay, .int t_sunMay, .int t_noseMay, .ref t_starts, .ref t_habits, .ref t_leaders]))] ((fun q => some (.int q)) q) (w1_X0_cells T t t_length t_width t_sunFirst t_pace t_nose t_cats t_bridgeMay t_sunMay t_noseMay t_starts t_habits t_leaders q) := by
  refine ct_I (by decide) rfl (Nat.le_of_ble_eq_true rfl) (m_X0_cells t_length t_width) (fun q => some (.int q)) (w1_X0_cells T t t_length t_width t_sunFirst t_pace t_nose t_cats t_bridgeMay t_sunMay t_noseMay t_starts t_habits t_leaders) ?_
  intro X Qf hL hD hT C hR
  subst hT
  exact b_X0_cells C hR
abbrev w1_X0_isCell (T : Nat → ClassId) (t : Nat) (t_length : Int32) (t_width : Int32) (t_sunFirst : Int32) (t_pace : Int32) (t_nose : Int32) (t_cats : Int32) (t_bridgeMay : Int32) (t_sunMay : Int32) (t_noseMay : Int32) (t_starts : Nat) (t_habits : Nat) (t_leaders : Nat) (q : Int32) : va_W := [(t, .inr (0, [.int t_length, .int t_width, .int t_sunFirst, .int t_pace, .int t_nose, .int t_cats, .int t_bridgeMay, .int t_sunMay, .int t_noseMay, .ref t_starts, .ref t_habits, .ref t_leaders]))]
noncomputable def m_X0_isCell (x1 : Int32) (t_length : Int32) (t_width : Int32) : Option (Int32) :=
  if x1 < 0 then (bzI 0 (some 0)) else ((m_X0_cells t_length t_width).bind (fun q1 => if q1 ≤ x1 then (bzI 0 (some 0)) else (bzI 1 (some 1))))
set_option maxHeartbeats 4000000 in
theorem b_X0_isCell {X : KX} {Qf : Int32 → State → Prop} {x1 : Int32} {t : Nat} {t_length : Int32} {t_width : Int32} {t_sunFirst : Int32} {t_pace : Int32} {t_nose : Int32} {t_cats : Int32} {t_bridgeMay : Int32} {t_sunMay : Int32} {t_noseMay : Int32} {t_starts : Nat} {t_habits : Nat} {t_leaders : Nat} (C : Cx X cX0_isCell RX0 wsX0_isCell 2 { frames := 1, cells := 0, slots := 0, locals := 20 }) (hR : RtZ X Qf cX0_isCell 2 (fun q => some (.int q)) (w1_X0_isCell (xT X) t t_length t_width t_sunFirst t_pace t_nose t_cats t_bridgeMay t_sunMay t_noseMay t_starts t_habits t_leaders)) : Sim X Qf 0 0 2 (m_X0_isCell x1 t_length t_width) [(t, .inr (0, [.int t_length, .int t_width, .int t_sunFirst, .int t_pace, .int t_nose, .int t_cats, .int t_bridgeMay, .int t_sunMay, .int t_noseMay, .ref t_starts, .ref t_habits, .ref t_leaders]))] 0 [(0, .ref t), (1, .int x1)] [] := by
  unfold m_X0_isCell
  refine s_iload_n C 1 dX0_isCell_0 rfl rfl ?_
  refine s_if_lt C 16 dX0_isCell_1 (by decide) ?_ ?_
  · refine s_iconst C 0 dX0_isCell_16 (by decide) ?_
    exact s_retZ hR 0 rfl rfl dX0_isCell_17
  · refine s_iload_n C 1 dX0_isCell_4 rfl rfl ?_
    refine s_aload_n C 0 dX0_isCell_5 rfl rfl ?_
    refine s_callV C [] _ _ _ (fun q1 hq => c_X0_cells (xL X) (xD X) (xT X) t t_length t_width t_sunFirst t_pace t_nose t_cats t_bridgeMay t_sunMay t_noseMay t_starts t_habits t_leaders q1 hq) gX0_isCell_X0_cells rfl rfl rfl ⟨rfl, by decide +kernel, by decide +kernel, by decide +kernel⟩ ⟨Nat.le_of_ble_eq_true rfl, Nat.le_of_ble_eq_true rfl⟩ ⟨Nat.le_of_ble_eq_true rfl, Nat.le_of_ble_eq_true rfl⟩ 0 0 rfl rfl rfl [.ref t, .int x1] rfl (by decide) dX0_isCell_6 [0] [] [0] (fun q1 => [(t, .inr (0, [.int t_length, .int t_width, .int t_sunFirst, .int t_pace, .int t_nose, .int t_cats, .int t_bridgeMay, .int t_sunMay, .int t_noseMay, .ref t_starts, .ref t_habits, .ref t_leaders]))]) rfl rfl (by decide) (by decide) (by decide) (fun _ => rfl) (by decide) (fun q1 => [.int q1, .int x1]) (fun _ => rfl) (fun q1 => ?_)
    refine s_icmp_ge C 16 dX0_isCell_9 (by decide) ?_ ?_
    · refine s_iconst C 0 dX0_isCell_16 (by decide) ?_
      exact s_retZ hR 0 rfl rfl dX0_isCell_17
    · refine s_iconst C 1 dX0_isCell_12 (by decide) ?_
      refine s_goto C 17 dX0_isCell_13 (by decide) ?_
      exact s_retZ hR 1 rfl rfl dX0_isCell_17
theorem c_X0_isCell (l : Launch) (D : va_G) (T : Nat → ClassId) (x1 : Int32) (t : Nat) (t_length : Int32) (t_width : Int32) (t_sunFirst : Int32) (t_pace : Int32) (t_nose : Int32) (t_cats : Int32) (t_bridgeMay : Int32) (t_sunMay : Int32) (t_noseMay : Int32) (t_starts : Nat) (t_habits : Nat) (t_leaders : Nat) : ∀ q : Int32, m_X0_isCell x1 t_length t_width = some q → Ct l yX0_isCell wsX0_isCell { frames := 1, cells := 0, slots := 0, locals := 20 } [.ref t, .int x1] D T [(t, .inr (0, [.int t_length, .int t_width, .int t_sunFirst, .int t_pace, .int t_nose, .int t_cats, .int t_bridgeMay, .int t_sunMay, .int t_noseMay, .ref t_starts, .ref t_habits, .ref t_leaders]))] ((fun q => some (.int q)) q) (w1_X0_isCell T t t_length t_width t_sunFirst t_pace t_nose t_cats t_bridgeMay t_sunMay t_noseMay t_starts t_habits t_leaders q) := by
  refine ct_Z (by decide) rfl (Nat.le_of_ble_eq_true rfl) (m_X0_isCell x1 t_length t_width) (fun q => some (.int q)) (w1_X0_isCell T t t_length t_width t_sunFirst t_pace t_nose t_cats t_bridgeMay t_sunMay t_noseMay t_starts t_habits t_leaders) ?_
  intro X Qf hL hD hT C hR
  subst hT
  exact b_X0_isCell C hR
abbrev w1_X0_allCells (T : Nat → ClassId) (t : Nat) (t_length : Int32) (t_width : Int32) (t_sunFirst : Int32) (t_pace : Int32) (t_nose : Int32) (t_cats : Int32) (t_bridgeMay : Int32) (t_sunMay : Int32) (t_noseMay : Int32) (t_starts : Nat) (t_habits : Nat) (t_leaders : Nat) (q : Int32) : va_W := [(t, .inr (0, [.int t_length, .int t_width, .int t_sunFirst, .int t_pace, .int t_nose, .int t_cats, .int t_bridgeMay, .int t_sunMay, .int t_noseMay, .ref t_starts, .ref t_habits, .ref t_leaders]))]
noncomputable def m_X0_allCells (t_length : Int32) (t_width : Int32) : Option (Int32) :=
  (m_X0_cells t_length t_width).bind (fun q1 => some ((1 <<< (q1 &&& 31)) - 1))
set_option maxHeartbeats 4000000 in
theorem b_X0_allCells {X : KX} {Qf : Int32 → State → Prop} {t : Nat} {t_length : Int32} {t_width : Int32} {t_sunFirst : Int32} {t_pace : Int32} {t_nose : Int32} {t_cats : Int32} {t_bridgeMay : Int32} {t_sunMay : Int32} {t_noseMay : Int32} {t_starts : Nat} {t_habits : Nat} {t_leaders : Nat} (C : Cx X cX0_allCells RX0 wsX0_allCells 1 { frames := 1, cells := 0, slots := 0, locals := 20 }) (hR : RtI X Qf cX0_allCells 1 (fun q => some (.int q)) (w1_X0_allCells (xT X) t t_length t_width t_sunFirst t_pace t_nose t_cats t_bridgeMay t_sunMay t_noseMay t_starts t_habits t_leaders)) : Sim X Qf 0 0 1 (m_X0_allCells t_length t_width) [(t, .inr (0, [.int t_length, .int t_width, .int t_sunFirst, .int t_pace, .int t_nose, .int t_cats, .int t_bridgeMay, .int t_sunMay, .int t_noseMay, .ref t_starts, .ref t_habits, .ref t_leaders]))] 0 [(0, .ref t)] [] := by
  unfold m_X0_allCells
  refine s_iconst C 1 dX0_allCells_0 (by decide) ?_
  refine s_aload_n C 0 dX0_allCells_1 rfl rfl ?_
  refine s_callV C [] _ _ _ (fun q1 hq => c_X0_cells (xL X) (xD X) (xT X) t t_length t_width t_sunFirst t_pace t_nose t_cats t_bridgeMay t_sunMay t_noseMay t_starts t_habits t_leaders q1 hq) gX0_allCells_X0_cells rfl rfl rfl ⟨rfl, by decide +kernel, by decide +kernel, by decide +kernel⟩ ⟨Nat.le_of_ble_eq_true rfl, Nat.le_of_ble_eq_true rfl⟩ ⟨Nat.le_of_ble_eq_true rfl, Nat.le_of_ble_eq_true rfl⟩ 0 0 rfl rfl rfl [.ref t, .int 1] rfl (by decide) dX0_allCells_2 [0] [] [0] (fun q1 => [(t, .inr (0, [.int t_length, .int t_width, .int t_sunFirst, .int t_pace, .int t_nose, .int t_cats, .int t_bridgeMay, .int t_sunMay, .int t_noseMay, .ref t_starts, .ref t_habits, .ref t_leaders]))]) rfl rfl (by decide) (by decide) (by decide) (fun _ => rfl) (by decide) (fun q1 => [.int q1, .int 1]) (fun _ => rfl) (fun q1 => ?_)
  refine s_ishl C dX0_allCells_5 ?_
  refine s_iconst C 1 dX0_allCells_6 (by decide) ?_
  refine s_isub C dX0_allCells_7 ?_
  exact s_retI hR ((1 <<< (q1 &&& 31)) - 1) rfl rfl dX0_allCells_8
theorem c_X0_allCells (l : Launch) (D : va_G) (T : Nat → ClassId) (t : Nat) (t_length : Int32) (t_width : Int32) (t_sunFirst : Int32) (t_pace : Int32) (t_nose : Int32) (t_cats : Int32) (t_bridgeMay : Int32) (t_sunMay : Int32) (t_noseMay : Int32) (t_starts : Nat) (t_habits : Nat) (t_leaders : Nat) : ∀ q : Int32, m_X0_allCells t_length t_width = some q → Ct l yX0_allCells wsX0_allCells { frames := 1, cells := 0, slots := 0, locals := 20 } [.ref t] D T [(t, .inr (0, [.int t_length, .int t_width, .int t_sunFirst, .int t_pace, .int t_nose, .int t_cats, .int t_bridgeMay, .int t_sunMay, .int t_noseMay, .ref t_starts, .ref t_habits, .ref t_leaders]))] ((fun q => some (.int q)) q) (w1_X0_allCells T t t_length t_width t_sunFirst t_pace t_nose t_cats t_bridgeMay t_sunMay t_noseMay t_starts t_habits t_leaders q) := by
  refine ct_I (by decide) rfl (Nat.le_of_ble_eq_true rfl) (m_X0_allCells t_length t_width) (fun q => some (.int q)) (w1_X0_allCells T t t_length t_width t_sunFirst t_pace t_nose t_cats t_bridgeMay t_sunMay t_noseMay t_starts t_habits t_leaders) ?_
  intro X Qf hL hD hT C hR
  subst hT
  exact b_X0_allCells C hR
theorem iX0_columnOf_X0 : ∀ w ∈ u_ws RX0 TX0 12, w ∈ wsX0_columnOf := by decide +kernel
theorem kX0_columnOf_24 : Cond.fieldLink RX0 24 "NineCats$Plan" "length" "I" ∈ wsX0_columnOf := by decide +kernel
abbrev w1_X0_columnOf (T : Nat → ClassId) (t : Nat) (t_length : Int32) (t_width : Int32) (t_sunFirst : Int32) (t_pace : Int32) (t_nose : Int32) (t_cats : Int32) (t_bridgeMay : Int32) (t_sunMay : Int32) (t_noseMay : Int32) (t_starts : Nat) (t_habits : Nat) (t_leaders : Nat) (q : Int32) : va_W := [(t, .inr (0, [.int t_length, .int t_width, .int t_sunFirst, .int t_pace, .int t_nose, .int t_cats, .int t_bridgeMay, .int t_sunMay, .int t_noseMay, .ref t_starts, .ref t_habits, .ref t_leaders]))]
noncomputable def m_X0_columnOf (x1 : Int32) (t_length : Int32) : Option (Int32) :=
  if 1 ≤ t_length then (nzI t_length (nm (x1 - x1 / t_length * t_length) (fun y1 => some y1))) else (some 0)
set_option maxHeartbeats 4000000 in
theorem b_X0_columnOf {X : KX} {Qf : Int32 → State → Prop} {x1 : Int32} {t : Nat} {t_length : Int32} {t_width : Int32} {t_sunFirst : Int32} {t_pace : Int32} {t_nose : Int32} {t_cats : Int32} {t_bridgeMay : Int32} {t_sunMay : Int32} {t_noseMay : Int32} {t_starts : Nat} {t_habits : Nat} {t_leaders : Nat} (C : Cx X cX0_columnOf RX0 wsX0_columnOf 2 { frames := 0, cells := 0, slots := 0, locals := 0 }) (hR : RtI X Qf cX0_columnOf 2 (fun q => some (.int q)) (w1_X0_columnOf (xT X) t t_length t_width t_sunFirst t_pace t_nose t_cats t_bridgeMay t_sunMay t_noseMay t_starts t_habits t_leaders)) : Sim X Qf 0 0 2 (m_X0_columnOf x1 t_length) [(t, .inr (0, [.int t_length, .int t_width, .int t_sunFirst, .int t_pace, .int t_nose, .int t_cats, .int t_bridgeMay, .int t_sunMay, .int t_noseMay, .ref t_starts, .ref t_habits, .ref t_leaders]))] 0 [(0, .ref t), (1, .int x1)] [] := by
  unfold m_X0_columnOf
  refine s_aload_n C 0 dX0_columnOf_0 rfl rfl ?_
  refine s_get C iX0_columnOf_X0 0 rfl rfl 0 (by decide) kX0_columnOf_24 (.int t_length) rfl dX0_columnOf_1 ?_
  refine s_iconst C 1 dX0_columnOf_4 (by decide) ?_
  refine s_icmp_ge C 12 dX0_columnOf_5 (by decide) ?_ ?_
  · refine s_iload_n C 1 dX0_columnOf_12 rfl rfl ?_
    refine s_aload_n C 0 dX0_columnOf_13 rfl rfl ?_
    refine s_get C iX0_columnOf_X0 0 rfl rfl 0 (by decide) kX0_columnOf_24 (.int t_length) rfl dX0_columnOf_14 ?_
    refine s_irem C dX0_columnOf_17 ?_
    refine s_nmi (fun y1 => ?_)
    exact s_retI hR y1 rfl rfl dX0_columnOf_18
  · refine s_iconst C 0 dX0_columnOf_8 (by decide) ?_
    refine s_goto C 18 dX0_columnOf_9 (by decide) ?_
    exact s_retI hR 0 rfl rfl dX0_columnOf_18
theorem c_X0_columnOf (l : Launch) (D : va_G) (T : Nat → ClassId) (x1 : Int32) (t : Nat) (t_length : Int32) (t_width : Int32) (t_sunFirst : Int32) (t_pace : Int32) (t_nose : Int32) (t_cats : Int32) (t_bridgeMay : Int32) (t_sunMay : Int32) (t_noseMay : Int32) (t_starts : Nat) (t_habits : Nat) (t_leaders : Nat) : ∀ q : Int32, m_X0_columnOf x1 t_length = some q → Ct l yX0_columnOf wsX0_columnOf { frames := 0, cells := 0, slots := 0, locals := 0 } [.ref t, .int x1] D T [(t, .inr (0, [.int t_length, .int t_width, .int t_sunFirst, .int t_pace, .int t_nose, .int t_cats, .int t_bridgeMay, .int t_sunMay, .int t_noseMay, .ref t_starts, .ref t_habits, .ref t_leaders]))] ((fun q => some (.int q)) q) (w1_X0_columnOf T t t_length t_width t_sunFirst t_pace t_nose t_cats t_bridgeMay t_sunMay t_noseMay t_starts t_habits t_leaders q) := by
  refine ct_I (by decide) rfl (Nat.le_of_ble_eq_true rfl) (m_X0_columnOf x1 t_length) (fun q => some (.int q)) (w1_X0_columnOf T t t_length t_width t_sunFirst t_pace t_nose t_cats t_bridgeMay t_sunMay t_noseMay t_starts t_habits t_leaders) ?_
  intro X Qf hL hD hT C hR
  subst hT
  exact b_X0_columnOf C hR
theorem iX0_columnCells_X0 : ∀ w ∈ u_ws RX0 TX0 12, w ∈ wsX0_columnCells := by decide +kernel
theorem kX0_columnCells_24 : Cond.fieldLink RX0 24 "NineCats$Plan" "length" "I" ∈ wsX0_columnCells := by decide +kernel
theorem kX0_columnCells_28 : Cond.fieldLink RX0 28 "NineCats$Plan" "width" "I" ∈ wsX0_columnCells := by decide +kernel
abbrev w1_X0_columnCells (T : Nat → ClassId) (t : Nat) (t_length : Int32) (t_width : Int32) (t_sunFirst : Int32) (t_pace : Int32) (t_nose : Int32) (t_cats : Int32) (t_bridgeMay : Int32) (t_sunMay : Int32) (t_noseMay : Int32) (t_starts : Nat) (t_habits : Nat) (t_leaders : Nat) (q : Int32) : va_W := [(t, .inr (0, [.int t_length, .int t_width, .int t_sunFirst, .int t_pace, .int t_nose, .int t_cats, .int t_bridgeMay, .int t_sunMay, .int t_noseMay, .ref t_starts, .ref t_habits, .ref t_leaders]))]
noncomputable def X0_columnCells_f4 (x1 : Int32) (t_length : Int32) (t_width : Int32) (kx4_31 : Int32 → Option (Int32)) (rec4 : Int32 → Int32 → Option (Int32)) (x2 : Int32) (x3 : Int32) : Option (Int32) :=
  if t_width ≤ x3 then (kx4_31 x2) else (nm (x2 ||| (1 <<< (((x3 * t_length) + x1) &&& 31))) (fun y1 => rec4 y1 (x3 + 1)))
set_option maxHeartbeats 4000000 in
theorem bX0_columnCells_f4 {X : KX} {Qf : Int32 → State → Prop} {x1 : Int32} {t : Nat} {t_length : Int32} {t_width : Int32} {t_sunFirst : Int32} {t_pace : Int32} {t_nose : Int32} {t_cats : Int32} {t_bridgeMay : Int32} {t_sunMay : Int32} {t_noseMay : Int32} {t_starts : Nat} {t_habits : Nat} {t_leaders : Nat} (C : Cx X cX0_columnCells RX0 wsX0_columnCells 4 { frames := 0, cells := 0, slots := 0, locals := 0 }) (hR : RtI X Qf cX0_columnCells 4 (fun q => some (.int q)) (w1_X0_columnCells (xT X) t t_length t_width t_sunFirst t_pace t_nose t_cats t_bridgeMay t_sunMay t_noseMay t_starts t_habits t_leaders)) (kx4_31 : Int32 → Option (Int32)) (hkx4_31 : ∀ (x2 : Int32), Sim X Qf 0 0 4 (kx4_31 x2) [(t, .inr (0, [.int t_length, .int t_width, .int t_sunFirst, .int t_pace, .int t_nose, .int t_cats, .int t_bridgeMay, .int t_sunMay, .int t_noseMay, .ref t_starts, .ref t_habits, .ref t_leaders]))] 31 [(2, .int x2)] []) (rec4 : Int32 → Int32 → Option (Int32)) (hrec4 : ∀ (x2 : Int32) (x3 : Int32), Sim X Qf 0 0 4 (rec4 x2 x3) [(t, .inr (0, [.int t_length, .int t_width, .int t_sunFirst, .int t_pace, .int t_nose, .int t_cats, .int t_bridgeMay, .int t_sunMay, .int t_noseMay, .ref t_starts, .ref t_habits, .ref t_leaders]))] 4 [(0, .ref t), (1, .int x1), (2, .int x2), (3, .int x3)] []) (x2 : Int32) (x3 : Int32) : Sim X Qf 0 0 4 (X0_columnCells_f4 x1 t_length t_width kx4_31 rec4 x2 x3) [(t, .inr (0, [.int t_length, .int t_width, .int t_sunFirst, .int t_pace, .int t_nose, .int t_cats, .int t_bridgeMay, .int t_sunMay, .int t_noseMay, .ref t_starts, .ref t_habits, .ref t_leaders]))] 4 [(0, .ref t), (1, .int x1), (2, .int x2), (3, .int x3)] [] := by
  unfold X0_columnCells_f4
  refine s_iload_n C 3 dX0_columnCells_4 rfl rfl ?_
  refine s_aload_n C 0 dX0_columnCells_5 rfl rfl ?_
  refine s_get C iX0_columnCells_X0 0 rfl rfl 1 (by decide) kX0_columnCells_28 (.int t_width) rfl dX0_columnCells_6 ?_
  refine s_icmp_ge C 31 dX0_columnCells_9 (by decide) ?_ ?_
  · refine s_lv [2] (lv' := [(2, .int x2)]) rfl ?_
    exact hkx4_31 x2
  · refine s_iload_n C 2 dX0_columnCells_12 rfl rfl ?_
    refine s_iconst C 1 dX0_columnCells_13 (by decide) ?_
    refine s_iload_n C 3 dX0_columnCells_14 rfl rfl ?_
    refine s_aload_n C 0 dX0_columnCells_15 rfl rfl ?_
    refine s_get C iX0_columnCells_X0 0 rfl rfl 0 (by decide) kX0_columnCells_24 (.int t_length) rfl dX0_columnCells_16 ?_
    refine s_imul C dX0_columnCells_19 ?_
    refine s_iload_n C 1 dX0_columnCells_20 rfl rfl ?_
    refine s_iadd C dX0_columnCells_21 ?_
    refine s_ishl C dX0_columnCells_22 ?_
    refine s_ior C dX0_columnCells_23 ?_
    refine s_nmi (fun y1 => ?_)
    refine s_istore_n C [(2, .int y1), (0, .ref t), (1, .int x1), (3, .int x3)] dX0_columnCells_24 rfl (by decide) rfl ?_
    refine s_iinc C [(3, .int (x3 + 1)), (2, .int y1), (0, .ref t), (1, .int x1)] 3 dX0_columnCells_25 rfl (congrArg (fun z => x3 + z) (show Int32.ofInt 1 = 1 by decide)) (by decide) rfl ?_
    refine s_goto C 4 dX0_columnCells_28 (by decide) ?_
    refine s_lv [2, 3, 1, 0] (lv' := [(0, .ref t), (1, .int x1), (2, .int y1), (3, .int (x3 + 1))]) rfl ?_
    exact hrec4 y1 (x3 + 1)
noncomputable def m_X0_columnCells (x1 : Int32) (t_length : Int32) (t_width : Int32) : Option (Int32) :=
  lpN (fun (rec : Int32 × Int32 → Option (Int32)) (s : Int32 × Int32) => X0_columnCells_f4 x1 t_length t_width (fun e2 => some e2) (fun r0 r1 => rec (r0, r1)) s.1 s.2) fz (0, 0)
set_option maxHeartbeats 4000000 in
theorem b_X0_columnCells {X : KX} {Qf : Int32 → State → Prop} {x1 : Int32} {t : Nat} {t_length : Int32} {t_width : Int32} {t_sunFirst : Int32} {t_pace : Int32} {t_nose : Int32} {t_cats : Int32} {t_bridgeMay : Int32} {t_sunMay : Int32} {t_noseMay : Int32} {t_starts : Nat} {t_habits : Nat} {t_leaders : Nat} (C : Cx X cX0_columnCells RX0 wsX0_columnCells 4 { frames := 0, cells := 0, slots := 0, locals := 0 }) (hR : RtI X Qf cX0_columnCells 4 (fun q => some (.int q)) (w1_X0_columnCells (xT X) t t_length t_width t_sunFirst t_pace t_nose t_cats t_bridgeMay t_sunMay t_noseMay t_starts t_habits t_leaders)) : Sim X Qf 0 0 4 (m_X0_columnCells x1 t_length t_width) [(t, .inr (0, [.int t_length, .int t_width, .int t_sunFirst, .int t_pace, .int t_nose, .int t_cats, .int t_bridgeMay, .int t_sunMay, .int t_noseMay, .ref t_starts, .ref t_habits, .ref t_leaders]))] 0 [(0, .ref t), (1, .int x1)] [] := by
  unfold m_X0_columnCells
  refine s_iconst C 0 dX0_columnCells_0 (by decide) ?_
  refine s_istore_n C [(2, .int 0), (0, .ref t), (1, .int x1)] dX0_columnCells_1 rfl (by decide) rfl ?_
  refine s_iconst C 0 dX0_columnCells_2 (by decide) ?_
  refine s_istore_n C [(3, .int 0), (2, .int 0), (0, .ref t), (1, .int x1)] dX0_columnCells_3 rfl (by decide) rfl ?_
  refine s_lv [2, 3, 1, 0] (lv' := [(0, .ref t), (1, .int x1), (2, .int 0), (3, .int 0)]) rfl ?_
  refine s_loop (fun s : Int32 × Int32 => [(t, .inr (0, [.int t_length, .int t_width, .int t_sunFirst, .int t_pace, .int t_nose, .int t_cats, .int t_bridgeMay, .int t_sunMay, .int t_noseMay, .ref t_starts, .ref t_habits, .ref t_leaders]))]) (fun s : Int32 × Int32 => [(0, .ref t), (1, .int x1), (2, .int s.1), (3, .int s.2)]) (fun rec hrec s => ?_) fz (0, 0)
  refine bX0_columnCells_f4 C hR _ (fun e2 => ?_) (fun r0 r1 => rec (r0, r1)) (fun r0 r1 => hrec (r0, r1)) s.1 s.2
  · refine s_iload_n C 0 dX0_columnCells_31 rfl rfl ?_
    exact s_retI hR e2 rfl rfl dX0_columnCells_32
theorem c_X0_columnCells (l : Launch) (D : va_G) (T : Nat → ClassId) (x1 : Int32) (t : Nat) (t_length : Int32) (t_width : Int32) (t_sunFirst : Int32) (t_pace : Int32) (t_nose : Int32) (t_cats : Int32) (t_bridgeMay : Int32) (t_sunMay : Int32) (t_noseMay : Int32) (t_starts : Nat) (t_habits : Nat) (t_leaders : Nat) : ∀ q : Int32, m_X0_columnCells x1 t_length t_width = some q → Ct l yX0_columnCells wsX0_columnCells { frames := 0, cells := 0, slots := 0, locals := 0 } [.ref t, .int x1] D T [(t, .inr (0, [.int t_length, .int t_width, .int t_sunFirst, .int t_pace, .int t_nose, .int t_cats, .int t_bridgeMay, .int t_sunMay, .int t_noseMay, .ref t_starts, .ref t_habits, .ref t_leaders]))] ((fun q => some (.int q)) q) (w1_X0_columnCells T t t_length t_width t_sunFirst t_pace t_nose t_cats t_bridgeMay t_sunMay t_noseMay t_starts t_habits t_leaders q) := by
  refine ct_I (by decide) rfl (Nat.le_of_ble_eq_true rfl) (m_X0_columnCells x1 t_length t_width) (fun q => some (.int q)) (w1_X0_columnCells T t t_length t_width t_sunFirst t_pace t_nose t_cats t_bridgeMay t_sunMay t_noseMay t_starts t_habits t_leaders) ?_
  intro X Qf hL hD hT C hR
  subst hT
  exact b_X0_columnCells C hR

theorem nX1_init_o0 : Cond.methodLink RX1 3 objectInit ∈ wsX1_init := by decide +kernel
theorem nX1_init_o1 : Cond.instanceMethod objectInit ∈ wsX1_init := by decide +kernel
theorem nX1_init_o2 : Cond.code objectInit ⟨#[0xb1]⟩ 1 none ∈ wsX1_init := by decide +kernel
abbrev w1_X1_init (T : Nat → ClassId) (t : Nat) (q : Unit) (ad : Nat → Nat) : va_W := [(t, .inr (1, [.null, .int 0, .int 0, .int 0, .int 0, .int 0]))]
noncomputable def m_X1_init : Option (Unit) :=
  some ()
set_option maxHeartbeats 4000000 in
theorem b_X1_init {X : KX} {Qf : Unit → State → Prop} {t : Nat} (C : Cx X cX1_init RX1 wsX1_init 1 { frames := 1, cells := 0, slots := 0, locals := 20 }) (hI : CI X) (hR : RtC X Qf cX1_init 1 0 0 (w1_X1_init (xT X) t)) : Sim X Qf 0 0 1 m_X1_init [(t, .inr (1, [.null, .int 0, .int 0, .int 0, .int 0, .int 0]))] 0 [(0, .ref t)] [] := by
  unfold m_X1_init
  refine s_aload_n C 0 dX1_init_0 rfl rfl ?_
  refine s_objInit C nX1_init_o0 nX1_init_o1 nX1_init_o2 ⟨Nat.le_of_ble_eq_true rfl, Nat.le_of_ble_eq_true rfl⟩ dX1_init_1 ?_
  exact s_retC hR () (fun _ => 0) rfl (Nat.le_of_ble_eq_true rfl) (Nat.le_of_ble_eq_true rfl) dX1_init_4
theorem c_X1_init (l : Launch) (D : va_G) (T : Nat → ClassId) (t : Nat) : ∀ q : Unit, m_X1_init = some q → CtN l yX1_init wsX1_init { frames := 1, cells := 0, slots := 0, locals := 20 } [.ref t] D T [(t, .inr (1, [.null, .int 0, .int 0, .int 0, .int 0, .int 0]))] 0 0 (w1_X1_init T t q) := by
  refine ct_C 0 0 (by decide) rfl rfl (Nat.le_of_ble_eq_true rfl) m_X1_init (w1_X1_init T t) ?_
  intro X Qf hL hD hT C hI hR
  subst hT
  exact b_X1_init C hI hR
theorem iX1_byteAt_X1 : ∀ w ∈ u_ws RX1 TX1 6, w ∈ wsX1_byteAt := by decide +kernel
theorem kX1_byteAt_9 : Cond.fieldLink RX1 9 "NineCats$Reader" "text" "[B" ∈ wsX1_byteAt := by decide +kernel
abbrev w1_X1_byteAt (T : Nat → ClassId) (t : Nat) (t_text : Nat) (t_size : Int32) (t_token : Int32) (t_start : Int32) (t_end : Int32) (t_fault : Int32) (t_text_c : Nat → Int32) (q : Int32) : va_W := [(t, .inr (1, [.ref t_text, .int t_size, .int t_token, .int t_start, .int t_end, .int t_fault])), (t_text, .inl (T 0, 200, .inl t_text_c))]
noncomputable def m_X1_byteAt (x1 : Int32) (t_text_c : Nat → Int32) : Option (Int32) :=
  if x1 < 0 then (some 0) else (if (Int32.ofNat 200) ≤ x1 then (some 0) else (ldI 200 t_text_c x1 (fun y1 => some (y1 &&& 255))))
set_option maxHeartbeats 4000000 in
theorem b_X1_byteAt {X : KX} {Qf : Int32 → State → Prop} {x1 : Int32} {t : Nat} {t_text : Nat} {t_size : Int32} {t_token : Int32} {t_start : Int32} {t_end : Int32} {t_fault : Int32} {t_text_c : Nat → Int32} (C : Cx X cX1_byteAt RX1 wsX1_byteAt 2 { frames := 0, cells := 0, slots := 0, locals := 0 }) (hR : RtI X Qf cX1_byteAt 2 (fun q => some (.int q)) (w1_X1_byteAt (xT X) t t_text t_size t_token t_start t_end t_fault t_text_c)) : Sim X Qf 0 0 2 (m_X1_byteAt x1 t_text_c) [(t, .inr (1, [.ref t_text, .int t_size, .int t_token, .int t_start, .int t_end, .int t_fault])), (t_text, .inl ((xT X) 0, 200, .inl t_text_c))] 0 [(0, .ref t), (1, .int x1)] [] := by
  unfold m_X1_byteAt
  refine s_aload_n C 0 dX1_byteAt_0 rfl rfl ?_
  refine s_get C iX1_byteAt_X1 0 rfl rfl 0 (by decide) kX1_byteAt_9 (.ref t_text) rfl dX1_byteAt_1 ?_
  refine s_ifnull C dX1_byteAt_4 ?_
  refine s_iload_n C 1 dX1_byteAt_7 rfl rfl ?_
  refine s_if_lt C 33 dX1_byteAt_8 (by decide) ?_ ?_
  · refine s_iconst C 0 dX1_byteAt_33 (by decide) ?_
    exact s_retI hR 0 rfl rfl dX1_byteAt_34
  · refine s_iload_n C 1 dX1_byteAt_11 rfl rfl ?_
    refine s_aload_n C 0 dX1_byteAt_12 rfl rfl ?_
    refine s_get C iX1_byteAt_X1 0 rfl rfl 0 (by decide) kX1_byteAt_9 (.ref t_text) rfl dX1_byteAt_13 ?_
    refine s_alen C 1 0 rfl (by decide) dX1_byteAt_16 ?_
    refine s_icmp_ge C 33 dX1_byteAt_17 (by decide) ?_ ?_
    · refine s_iconst C 0 dX1_byteAt_33 (by decide) ?_
      exact s_retI hR 0 rfl rfl dX1_byteAt_34
    · refine s_aload_n C 0 dX1_byteAt_20 rfl rfl ?_
      refine s_get C iX1_byteAt_X1 0 rfl rfl 0 (by decide) kX1_byteAt_9 (.ref t_text) rfl dX1_byteAt_21 ?_
      refine s_iload_n C 1 dX1_byteAt_24 rfl rfl ?_
      refine s_bald C 1 rfl dX1_byteAt_25 (fun y1 => ?_)
      refine s_sipush C 255 dX1_byteAt_26 (by decide) ?_
      refine s_iand C dX1_byteAt_29 ?_
      refine s_goto C 34 dX1_byteAt_30 (by decide) ?_
      exact s_retI hR (y1 &&& 255) rfl rfl dX1_byteAt_34
theorem c_X1_byteAt (l : Launch) (D : va_G) (T : Nat → ClassId) (x1 : Int32) (t : Nat) (t_text : Nat) (t_size : Int32) (t_token : Int32) (t_start : Int32) (t_end : Int32) (t_fault : Int32) (t_text_c : Nat → Int32) : ∀ q : Int32, m_X1_byteAt x1 t_text_c = some q → Ct l yX1_byteAt wsX1_byteAt { frames := 0, cells := 0, slots := 0, locals := 0 } [.ref t, .int x1] D T [(t, .inr (1, [.ref t_text, .int t_size, .int t_token, .int t_start, .int t_end, .int t_fault])), (t_text, .inl (T 0, 200, .inl t_text_c))] ((fun q => some (.int q)) q) (w1_X1_byteAt T t t_text t_size t_token t_start t_end t_fault t_text_c q) := by
  refine ct_I (by decide) rfl (Nat.le_of_ble_eq_true rfl) (m_X1_byteAt x1 t_text_c) (fun q => some (.int q)) (w1_X1_byteAt T t t_text t_size t_token t_start t_end t_fault t_text_c) ?_
  intro X Qf hL hD hT C hR
  subst hT
  exact b_X1_byteAt C hR
abbrev w1_X1_tokenOf (T : Nat → ClassId)  (q : Int32) : va_W := []
noncomputable def X1_tokenOf_j28  (x0 : Int32) : Option (Int32) :=
  if x0 = 59 then (some 3) else (some 4)
set_option maxHeartbeats 4000000 in
theorem bX1_tokenOf_j28 {X : KX} {Qf : Int32 → State → Prop} {x0 : Int32} (C : Cx X cX1_tokenOf RX1 wsX1_tokenOf 1 { frames := 0, cells := 0, slots := 0, locals := 0 }) (hR : RtI X Qf cX1_tokenOf 1 (fun q => some (.int q)) (w1_X1_tokenOf (xT X) ))  : Sim X Qf 0 0 1 (X1_tokenOf_j28 x0) [] 28 [(0, .int x0)] [] := by
  unfold X1_tokenOf_j28
  refine s_iload_n C 0 dX1_tokenOf_28 rfl rfl ?_
  refine s_bipush C 59 dX1_tokenOf_29 (by decide) ?_
  refine s_icmp_ne C 38 dX1_tokenOf_31 (by decide) ?_ ?_
  · refine s_iconst C 4 dX1_tokenOf_38 (by decide) ?_
    exact s_retI hR 4 rfl rfl dX1_tokenOf_39
  · refine s_iconst C 3 dX1_tokenOf_34 (by decide) ?_
    refine s_goto C 39 dX1_tokenOf_35 (by decide) ?_
    exact s_retI hR 3 rfl rfl dX1_tokenOf_39
noncomputable def X1_tokenOf_j14  (x0 : Int32) : Option (Int32) :=
  if x0 < 48 then (X1_tokenOf_j28 x0) else (if 57 < x0 then (X1_tokenOf_j28 x0) else (some 2))
set_option maxHeartbeats 4000000 in
theorem bX1_tokenOf_j14 {X : KX} {Qf : Int32 → State → Prop} {x0 : Int32} (C : Cx X cX1_tokenOf RX1 wsX1_tokenOf 1 { frames := 0, cells := 0, slots := 0, locals := 0 }) (hR : RtI X Qf cX1_tokenOf 1 (fun q => some (.int q)) (w1_X1_tokenOf (xT X) ))  : Sim X Qf 0 0 1 (X1_tokenOf_j14 x0) [] 14 [(0, .int x0)] [] := by
  unfold X1_tokenOf_j14
  refine s_iload_n C 0 dX1_tokenOf_14 rfl rfl ?_
  refine s_bipush C 48 dX1_tokenOf_15 (by decide) ?_
  refine s_icmp_lt C 28 dX1_tokenOf_17 (by decide) ?_ ?_
  · exact bX1_tokenOf_j28 C hR
  · refine s_iload_n C 0 dX1_tokenOf_20 rfl rfl ?_
    refine s_bipush C 57 dX1_tokenOf_21 (by decide) ?_
    refine s_icmp_gt C 28 dX1_tokenOf_23 (by decide) ?_ ?_
    · exact bX1_tokenOf_j28 C hR
    · refine s_iconst C 2 dX1_tokenOf_26 (by decide) ?_
      exact s_retI hR 2 rfl rfl dX1_tokenOf_27
noncomputable def m_X1_tokenOf (x0 : Int32) : Option (Int32) :=
  if x0 < 97 then (X1_tokenOf_j14 x0) else (if 122 < x0 then (X1_tokenOf_j14 x0) else (some 1))
set_option maxHeartbeats 4000000 in
theorem b_X1_tokenOf {X : KX} {Qf : Int32 → State → Prop} {x0 : Int32} (C : Cx X cX1_tokenOf RX1 wsX1_tokenOf 1 { frames := 0, cells := 0, slots := 0, locals := 0 }) (hR : RtI X Qf cX1_tokenOf 1 (fun q => some (.int q)) (w1_X1_tokenOf (xT X) )) : Sim X Qf 0 0 1 (m_X1_tokenOf x0) [] 0 [(0, .int x0)] [] := by
  unfold m_X1_tokenOf
  refine s_iload_n C 0 dX1_tokenOf_0 rfl rfl ?_
  refine s_bipush C 97 dX1_tokenOf_1 (by decide) ?_
  refine s_icmp_lt C 14 dX1_tokenOf_3 (by decide) ?_ ?_
  · exact bX1_tokenOf_j14 C hR
  · refine s_iload_n C 0 dX1_tokenOf_6 rfl rfl ?_
    refine s_bipush C 122 dX1_tokenOf_7 (by decide) ?_
    refine s_icmp_gt C 14 dX1_tokenOf_9 (by decide) ?_ ?_
    · exact bX1_tokenOf_j14 C hR
    · refine s_iconst C 1 dX1_tokenOf_12 (by decide) ?_
      exact s_retI hR 1 rfl rfl dX1_tokenOf_13
theorem c_X1_tokenOf (l : Launch) (D : va_G) (T : Nat → ClassId) (x0 : Int32) : ∀ q : Int32, m_X1_tokenOf x0 = some q → Ct l yX1_tokenOf wsX1_tokenOf { frames := 0, cells := 0, slots := 0, locals := 0 } [.int x0] D T [] ((fun q => some (.int q)) q) (w1_X1_tokenOf T  q) := by
  refine ct_I (by decide) rfl (Nat.le_of_ble_eq_true rfl) (m_X1_tokenOf x0) (fun q => some (.int q)) (w1_X1_tokenOf T ) ?_
  intro X Qf hL hD hT C hR
  subst hT
  exact b_X1_tokenOf C hR
theorem iX1_takeToken_X1 : ∀ w ∈ u_ws RX1 TX1 6, w ∈ wsX1_takeToken := by decide +kernel
theorem kX1_takeToken_106 : Cond.fieldLink RX1 106 "NineCats$Reader" "start" "I" ∈ wsX1_takeToken := by decide +kernel
theorem kX1_takeToken_21 : Cond.fieldLink RX1 21 "NineCats$Reader" "size" "I" ∈ wsX1_takeToken := by decide +kernel
theorem kX1_takeToken_25 : Cond.fieldLink RX1 25 "NineCats$Reader" "end" "I" ∈ wsX1_takeToken := by decide +kernel
theorem kX1_takeToken_34 : Cond.fieldLink RX1 34 "NineCats$Reader" "token" "I" ∈ wsX1_takeToken := by decide +kernel
theorem mX1_takeToken_15a : Cond.methodLink RX1 15 Lib.Math.min.name ∈ wsX1_takeToken := by decide +kernel
theorem mX1_takeToken_15b : Cond.static Lib.Math.min.name ∈ wsX1_takeToken := by decide +kernel
theorem mX1_takeToken_15c : Cond.initialized "java/lang/Math" ∈ wsX1_takeToken := by decide +kernel
theorem mX1_takeToken_15d : Cond.code Lib.Math.min.name Lib.Math.min.code 2 (some .int) ∈ wsX1_takeToken := by decide +kernel
abbrev w1_X1_takeToken (T : Nat → ClassId) (t : Nat) (t_text : Nat) (t_size : Int32) (t_fault : Int32) (t_text_c : Nat → Int32) (q : Int32 × Int32 × Int32) : va_W := [(t, .inr (1, [.ref t_text, .int t_size, .int q.1, .int q.2.1, .int q.2.2, .int t_fault])), (t_text, .inl (T 0, 200, .inl t_text_c))]
noncomputable def X1_takeToken_f8 (t_size : Int32) (t_text_c : Nat → Int32) (kx8_45 : Int32 → Option (Int32 × Int32 × Int32)) (rec8 : Int32 → Option (Int32 × Int32 × Int32)) (t_start : Int32) : Option (Int32 × Int32 × Int32) :=
  if t_size ≤ t_start then (kx8_45 t_start) else ((m_X1_byteAt t_start t_text_c).bind (fun q1 => if q1 = 32 then (nm (t_start + 1) (fun y2 => rec8 y2)) else (kx8_45 t_start)))
set_option maxHeartbeats 4000000 in
theorem bX1_takeToken_f8 {X : KX} {Qf : Int32 × Int32 × Int32 → State → Prop} {t : Nat} {t_text : Nat} {t_size : Int32} {t_token : Int32} {t_end : Int32} {t_fault : Int32} {t_text_c : Nat → Int32} (C : Cx X cX1_takeToken RX1 wsX1_takeToken 2 { frames := 1, cells := 0, slots := 0, locals := 24 }) (hR : RtV X Qf cX1_takeToken 2 (fun _ => none) (w1_X1_takeToken (xT X) t t_text t_size t_fault t_text_c)) (kx8_45 : Int32 → Option (Int32 × Int32 × Int32)) (hkx8_45 : ∀ (t_start : Int32), Sim X Qf 0 0 2 (kx8_45 t_start) [(t, .inr (1, [.ref t_text, .int t_size, .int t_token, .int t_start, .int t_end, .int t_fault])), (t_text, .inl ((xT X) 0, 200, .inl t_text_c))] 45 [(0, .ref t)] []) (rec8 : Int32 → Option (Int32 × Int32 × Int32)) (hrec8 : ∀ (t_start : Int32), Sim X Qf 0 0 2 (rec8 t_start) [(t, .inr (1, [.ref t_text, .int t_size, .int t_token, .int t_start, .int t_end, .int t_fault])), (t_text, .inl ((xT X) 0, 200, .inl t_text_c))] 8 [(0, .ref t)] []) (t_start : Int32) : Sim X Qf 0 0 2 (X1_takeToken_f8 t_size t_text_c kx8_45 rec8 t_start) [(t, .inr (1, [.ref t_text, .int t_size, .int t_token, .int t_start, .int t_end, .int t_fault])), (t_text, .inl ((xT X) 0, 200, .inl t_text_c))] 8 [(0, .ref t)] [] := by
  unfold X1_takeToken_f8
  refine s_aload_n C 0 dX1_takeToken_8 rfl rfl ?_
  refine s_get C iX1_takeToken_X1 0 rfl rfl 3 (by decide) kX1_takeToken_106 (.int t_start) rfl dX1_takeToken_9 ?_
  refine s_aload_n C 0 dX1_takeToken_12 rfl rfl ?_
  refine s_get C iX1_takeToken_X1 0 rfl rfl 1 (by decide) kX1_takeToken_21 (.int t_size) rfl dX1_takeToken_13 ?_
  refine s_icmp_ge C 45 dX1_takeToken_16 (by decide) ?_ ?_
  · exact hkx8_45 t_start
  · refine s_aload_n C 0 dX1_takeToken_19 rfl rfl ?_
    refine s_aload_n C 0 dX1_takeToken_20 rfl rfl ?_
    refine s_get C iX1_takeToken_X1 0 rfl rfl 3 (by decide) kX1_takeToken_106 (.int t_start) rfl dX1_takeToken_21 ?_
    refine s_callV (n := 1) C [.int t_start] _ _ _ (fun q1 hq => c_X1_byteAt (xL X) (xD X) (xT X) t_start t t_text t_size t_token t_start t_end t_fault t_text_c q1 hq) gX1_takeToken_X1_byteAt rfl rfl rfl ⟨rfl, by decide +kernel, by decide +kernel, by decide +kernel⟩ ⟨Nat.le_of_ble_eq_true rfl, Nat.le_of_ble_eq_true rfl⟩ ⟨Nat.le_of_ble_eq_true rfl, Nat.le_of_ble_eq_true rfl⟩ 1 0 rfl rfl rfl [.int t_start, .ref t] rfl (Nat.le_of_ble_eq_true rfl) dX1_takeToken_24 [0, 1] [] [0, 1] (fun q1 => [(t, .inr (1, [.ref t_text, .int t_size, .int t_token, .int t_start, .int t_end, .int t_fault])), (t_text, .inl ((xT X) 0, 200, .inl t_text_c))]) rfl rfl (by decide) (by decide) (by decide) (fun _ => rfl) (by decide) (fun q1 => [.int q1]) (fun _ => rfl) (fun q1 => ?_)
    refine s_bipush C 32 dX1_takeToken_27 (by decide) ?_
    refine s_icmp_ne C 45 dX1_takeToken_29 (by decide) ?_ ?_
    · exact hkx8_45 t_start
    · refine s_aload_n C 0 dX1_takeToken_32 rfl rfl ?_
      refine s_dup C dX1_takeToken_33 rfl ?_
      refine s_get C iX1_takeToken_X1 0 rfl rfl 3 (by decide) kX1_takeToken_106 (.int t_start) rfl dX1_takeToken_34 ?_
      refine s_iconst C 1 dX1_takeToken_37 (by decide) ?_
      refine s_iadd C dX1_takeToken_38 ?_
      refine s_nmi (fun y2 => ?_)
      refine s_put C iX1_takeToken_X1 tyX1 tyX1_ok nmX1 0 rfl rfl 3 (by decide) kX1_takeToken_106 rfl .int (by decide +kernel) rfl rfl (Nat.le_of_ble_eq_true rfl) [(t, .inr (1, [.ref t_text, .int t_size, .int t_token, .int y2, .int t_end, .int t_fault])), (t_text, .inl ((xT X) 0, 200, .inl t_text_c))] rfl dX1_takeToken_39 ?_
      refine s_goto C 8 dX1_takeToken_42 (by decide) ?_
      exact hrec8 y2
noncomputable def X1_takeToken_f114 (x1 : Int32) (t_size : Int32) (t_token : Int32) (t_text_c : Nat → Int32) (kx114_160 : Int32 → Option (Int32 × Int32 × Int32)) (rec114 : Int32 → Option (Int32 × Int32 × Int32)) (t_end : Int32) : Option (Int32 × Int32 × Int32) :=
  if x1 = 0 then (kx114_160 t_end) else (if t_size ≤ t_end then (kx114_160 t_end) else ((m_X1_byteAt t_end t_text_c).bind (fun q5 => (m_X1_tokenOf q5).bind (fun q6 => if q6 = t_token then (nm (t_end + 1) (fun y7 => rec114 y7)) else (kx114_160 t_end)))))
set_option maxHeartbeats 4000000 in
theorem bX1_takeToken_f114 {X : KX} {Qf : Int32 × Int32 × Int32 → State → Prop} {x1 : Int32} {t : Nat} {t_text : Nat} {t_size : Int32} {t_token : Int32} {t_start : Int32} {t_fault : Int32} {t_text_c : Nat → Int32} (C : Cx X cX1_takeToken RX1 wsX1_takeToken 2 { frames := 1, cells := 0, slots := 0, locals := 24 }) (hR : RtV X Qf cX1_takeToken 2 (fun _ => none) (w1_X1_takeToken (xT X) t t_text t_size t_fault t_text_c)) (kx114_160 : Int32 → Option (Int32 × Int32 × Int32)) (hkx114_160 : ∀ (t_end : Int32), Sim X Qf 0 0 2 (kx114_160 t_end) [(t, .inr (1, [.ref t_text, .int t_size, .int t_token, .int t_start, .int t_end, .int t_fault])), (t_text, .inl ((xT X) 0, 200, .inl t_text_c))] 160 [] []) (rec114 : Int32 → Option (Int32 × Int32 × Int32)) (hrec114 : ∀ (t_end : Int32), Sim X Qf 0 0 2 (rec114 t_end) [(t, .inr (1, [.ref t_text, .int t_size, .int t_token, .int t_start, .int t_end, .int t_fault])), (t_text, .inl ((xT X) 0, 200, .inl t_text_c))] 114 [(0, .ref t), (1, .int x1)] []) (t_end : Int32) : Sim X Qf 0 0 2 (X1_takeToken_f114 x1 t_size t_token t_text_c kx114_160 rec114 t_end) [(t, .inr (1, [.ref t_text, .int t_size, .int t_token, .int t_start, .int t_end, .int t_fault])), (t_text, .inl ((xT X) 0, 200, .inl t_text_c))] 114 [(0, .ref t), (1, .int x1)] [] := by
  unfold X1_takeToken_f114
  refine s_iload_n C 1 dX1_takeToken_114 rfl rfl ?_
  refine s_if_eq C 160 dX1_takeToken_115 (by decide) ?_ ?_
  · refine s_lv [] (lv' := []) rfl ?_
    exact hkx114_160 t_end
  · refine s_aload_n C 0 dX1_takeToken_118 rfl rfl ?_
    refine s_get C iX1_takeToken_X1 0 rfl rfl 4 (by decide) kX1_takeToken_25 (.int t_end) rfl dX1_takeToken_119 ?_
    refine s_aload_n C 0 dX1_takeToken_122 rfl rfl ?_
    refine s_get C iX1_takeToken_X1 0 rfl rfl 1 (by decide) kX1_takeToken_21 (.int t_size) rfl dX1_takeToken_123 ?_
    refine s_icmp_ge C 160 dX1_takeToken_126 (by decide) ?_ ?_
    · refine s_lv [] (lv' := []) rfl ?_
      exact hkx114_160 t_end
    · refine s_aload_n C 0 dX1_takeToken_129 rfl rfl ?_
      refine s_aload_n C 0 dX1_takeToken_130 rfl rfl ?_
      refine s_get C iX1_takeToken_X1 0 rfl rfl 4 (by decide) kX1_takeToken_25 (.int t_end) rfl dX1_takeToken_131 ?_
      refine s_callV (n := 1) C [.int t_end] _ _ _ (fun q5 hq => c_X1_byteAt (xL X) (xD X) (xT X) t_end t t_text t_size t_token t_start t_end t_fault t_text_c q5 hq) gX1_takeToken_X1_byteAt rfl rfl rfl ⟨rfl, by decide +kernel, by decide +kernel, by decide +kernel⟩ ⟨Nat.le_of_ble_eq_true rfl, Nat.le_of_ble_eq_true rfl⟩ ⟨Nat.le_of_ble_eq_true rfl, Nat.le_of_ble_eq_true rfl⟩ 1 0 rfl rfl rfl [.int t_end, .ref t] rfl (Nat.le_of_ble_eq_true rfl) dX1_takeToken_134 [0, 1] [] [0, 1] (fun q5 => [(t, .inr (1, [.ref t_text, .int t_size, .int t_token, .int t_start, .int t_end, .int t_fault])), (t_text, .inl ((xT X) 0, 200, .inl t_text_c))]) rfl rfl (by decide) (by decide) (by decide) (fun _ => rfl) (by decide) (fun q5 => [.int q5]) (fun _ => rfl) (fun q5 => ?_)
      refine s_callS (n := 1) C [.int q5] _ _ _ (fun q6 hq => c_X1_tokenOf (xL X) (xD X) (xT X) q5 q6 hq) gX1_takeToken_X1_tokenOf rfl rfl rfl ⟨by decide +kernel, by decide +kernel, by decide +kernel⟩ ⟨Nat.le_of_ble_eq_true rfl, Nat.le_of_ble_eq_true rfl⟩ ⟨Nat.le_of_ble_eq_true rfl, Nat.le_of_ble_eq_true rfl⟩ rfl [.int q5] rfl (Nat.le_of_ble_eq_true rfl) dX1_takeToken_137 [] [0, 1] [0, 1] (fun q6 => [(t, .inr (1, [.ref t_text, .int t_size, .int t_token, .int t_start, .int t_end, .int t_fault])), (t_text, .inl ((xT X) 0, 200, .inl t_text_c))]) rfl rfl (by decide) (by decide) (by decide) (fun _ => rfl) (by decide) (fun q6 => [.int q6]) (fun _ => rfl) (fun q6 => ?_)
      refine s_aload_n C 0 dX1_takeToken_140 rfl rfl ?_
      refine s_get C iX1_takeToken_X1 0 rfl rfl 2 (by decide) kX1_takeToken_34 (.int t_token) rfl dX1_takeToken_141 ?_
      refine s_icmp_ne C 160 dX1_takeToken_144 (by decide) ?_ ?_
      · refine s_lv [] (lv' := []) rfl ?_
        exact hkx114_160 t_end
      · refine s_aload_n C 0 dX1_takeToken_147 rfl rfl ?_
        refine s_dup C dX1_takeToken_148 rfl ?_
        refine s_get C iX1_takeToken_X1 0 rfl rfl 4 (by decide) kX1_takeToken_25 (.int t_end) rfl dX1_takeToken_149 ?_
        refine s_iconst C 1 dX1_takeToken_152 (by decide) ?_
        refine s_iadd C dX1_takeToken_153 ?_
        refine s_nmi (fun y7 => ?_)
        refine s_put C iX1_takeToken_X1 tyX1 tyX1_ok nmX1 0 rfl rfl 4 (by decide) kX1_takeToken_25 rfl .int (by decide +kernel) rfl rfl (Nat.le_of_ble_eq_true rfl) [(t, .inr (1, [.ref t_text, .int t_size, .int t_token, .int t_start, .int y7, .int t_fault])), (t_text, .inl ((xT X) 0, 200, .inl t_text_c))] rfl dX1_takeToken_154 ?_
        refine s_goto C 114 dX1_takeToken_157 (by decide) ?_
        exact hrec114 y7
noncomputable def X1_takeToken_j113  (z0 : Int32) (t_size : Int32) (t_token : Int32) (t_start : Int32) (t_end : Int32) (t_text_c : Nat → Int32) : Option (Int32 × Int32 × Int32) :=
  lpN (fun (rec : Int32 → Option (Int32 × Int32 × Int32)) (s : Int32) => X1_takeToken_f114 z0 t_size t_token t_text_c (fun e8 => some (t_token, t_start, e8)) (fun r0 => rec (r0)) s) fz (t_end)
set_option maxHeartbeats 4000000 in
theorem bX1_takeToken_j113 {X : KX} {Qf : Int32 × Int32 × Int32 → State → Prop} {z0 : Int32} {t : Nat} {t_text : Nat} {t_size : Int32} {t_token : Int32} {t_start : Int32} {t_end : Int32} {t_fault : Int32} {t_text_c : Nat → Int32} (C : Cx X cX1_takeToken RX1 wsX1_takeToken 2 { frames := 1, cells := 0, slots := 0, locals := 24 }) (hR : RtV X Qf cX1_takeToken 2 (fun _ => none) (w1_X1_takeToken (xT X) t t_text t_size t_fault t_text_c))  : Sim X Qf 0 0 2 (X1_takeToken_j113 z0 t_size t_token t_start t_end t_text_c) [(t, .inr (1, [.ref t_text, .int t_size, .int t_token, .int t_start, .int t_end, .int t_fault])), (t_text, .inl ((xT X) 0, 200, .inl t_text_c))] 113 [(0, .ref t)] [.int z0] := by
  unfold X1_takeToken_j113
  refine s_istore_n C [(1, .int z0), (0, .ref t)] dX1_takeToken_113 rfl (by decide) rfl ?_
  refine s_lv [1, 0] (lv' := [(0, .ref t), (1, .int z0)]) rfl ?_
  refine s_loop (fun s : Int32 => [(t, .inr (1, [.ref t_text, .int t_size, .int t_token, .int t_start, .int s, .int t_fault])), (t_text, .inl ((xT X) 0, 200, .inl t_text_c))]) (fun s : Int32 => [(0, .ref t), (1, .int z0)]) (fun rec hrec s => ?_) fz (t_end)
  refine bX1_takeToken_f114 C hR _ (fun e8 => ?_) (fun r0 => rec (r0)) (fun r0 => hrec (r0)) s
  · exact s_retV hR (t_token, t_start, e8) rfl rfl dX1_takeToken_160
noncomputable def X1_takeToken_j108  (t_size : Int32) (t_token : Int32) (t_start : Int32) (t_end : Int32) (t_text_c : Nat → Int32) : Option (Int32 × Int32 × Int32) :=
  X1_takeToken_j113 1 t_size t_token t_start t_end t_text_c
set_option maxHeartbeats 4000000 in
theorem bX1_takeToken_j108 {X : KX} {Qf : Int32 × Int32 × Int32 → State → Prop} {t : Nat} {t_text : Nat} {t_size : Int32} {t_token : Int32} {t_start : Int32} {t_end : Int32} {t_fault : Int32} {t_text_c : Nat → Int32} (C : Cx X cX1_takeToken RX1 wsX1_takeToken 2 { frames := 1, cells := 0, slots := 0, locals := 24 }) (hR : RtV X Qf cX1_takeToken 2 (fun _ => none) (w1_X1_takeToken (xT X) t t_text t_size t_fault t_text_c))  : Sim X Qf 0 0 2 (X1_takeToken_j108 t_size t_token t_start t_end t_text_c) [(t, .inr (1, [.ref t_text, .int t_size, .int t_token, .int t_start, .int t_end, .int t_fault])), (t_text, .inl ((xT X) 0, 200, .inl t_text_c))] 108 [(0, .ref t)] [] := by
  unfold X1_takeToken_j108
  refine s_iconst C 1 dX1_takeToken_108 (by decide) ?_
  refine s_goto C 113 dX1_takeToken_109 (by decide) ?_
  exact bX1_takeToken_j113 C hR
noncomputable def X1_takeToken_j72  (z1 : Int32) (t_size : Int32) (t_start : Int32) (t_text_c : Nat → Int32) : Option (Int32 × Int32 × Int32) :=
  nm (minI (t_start + 1) t_size) (fun y4 => if z1 = 1 then (X1_takeToken_j108 t_size z1 t_start y4 t_text_c) else (if z1 = 2 then (X1_takeToken_j108 t_size z1 t_start y4 t_text_c) else (X1_takeToken_j113 0 t_size z1 t_start y4 t_text_c)))
set_option maxHeartbeats 4000000 in
theorem bX1_takeToken_j72 {X : KX} {Qf : Int32 × Int32 × Int32 → State → Prop} {z1 : Int32} {t : Nat} {t_text : Nat} {t_size : Int32} {t_token : Int32} {t_start : Int32} {t_end : Int32} {t_fault : Int32} {t_text_c : Nat → Int32} (C : Cx X cX1_takeToken RX1 wsX1_takeToken 2 { frames := 1, cells := 0, slots := 0, locals := 24 }) (hR : RtV X Qf cX1_takeToken 2 (fun _ => none) (w1_X1_takeToken (xT X) t t_text t_size t_fault t_text_c))  : Sim X Qf 0 0 2 (X1_takeToken_j72 z1 t_size t_start t_text_c) [(t, .inr (1, [.ref t_text, .int t_size, .int t_token, .int t_start, .int t_end, .int t_fault])), (t_text, .inl ((xT X) 0, 200, .inl t_text_c))] 72 [(0, .ref t)] [.int z1, .ref t] := by
  unfold X1_takeToken_j72
  refine s_put C iX1_takeToken_X1 tyX1 tyX1_ok nmX1 0 rfl rfl 2 (by decide) kX1_takeToken_34 rfl .int (by decide +kernel) rfl rfl (Nat.le_of_ble_eq_true rfl) [(t, .inr (1, [.ref t_text, .int t_size, .int z1, .int t_start, .int t_end, .int t_fault])), (t_text, .inl ((xT X) 0, 200, .inl t_text_c))] rfl dX1_takeToken_72 ?_
  refine s_aload_n C 0 dX1_takeToken_75 rfl rfl ?_
  refine s_aload_n C 0 dX1_takeToken_76 rfl rfl ?_
  refine s_get C iX1_takeToken_X1 0 rfl rfl 3 (by decide) kX1_takeToken_106 (.int t_start) rfl dX1_takeToken_77 ?_
  refine s_iconst C 1 dX1_takeToken_80 (by decide) ?_
  refine s_iadd C dX1_takeToken_81 ?_
  refine s_aload_n C 0 dX1_takeToken_82 rfl rfl ?_
  refine s_get C iX1_takeToken_X1 0 rfl rfl 1 (by decide) kX1_takeToken_21 (.int t_size) rfl dX1_takeToken_83 ?_
  refine s_min C mX1_takeToken_15a mX1_takeToken_15b mX1_takeToken_15c mX1_takeToken_15d ⟨Nat.le_of_ble_eq_true rfl, Nat.le_of_ble_eq_true rfl⟩ ⟨Nat.le_of_ble_eq_true rfl, Nat.le_of_ble_eq_true rfl⟩ dX1_takeToken_86 ?_
  refine s_nmi (fun y4 => ?_)
  refine s_put C iX1_takeToken_X1 tyX1 tyX1_ok nmX1 0 rfl rfl 4 (by decide) kX1_takeToken_25 rfl .int (by decide +kernel) rfl rfl (Nat.le_of_ble_eq_true rfl) [(t, .inr (1, [.ref t_text, .int t_size, .int z1, .int t_start, .int y4, .int t_fault])), (t_text, .inl ((xT X) 0, 200, .inl t_text_c))] rfl dX1_takeToken_89 ?_
  refine s_aload_n C 0 dX1_takeToken_92 rfl rfl ?_
  refine s_get C iX1_takeToken_X1 0 rfl rfl 2 (by decide) kX1_takeToken_34 (.int z1) rfl dX1_takeToken_93 ?_
  refine s_iconst C 1 dX1_takeToken_96 (by decide) ?_
  refine s_icmp_eq C 108 dX1_takeToken_97 (by decide) ?_ ?_
  · exact bX1_takeToken_j108 C hR
  · refine s_aload_n C 0 dX1_takeToken_100 rfl rfl ?_
    refine s_get C iX1_takeToken_X1 0 rfl rfl 2 (by decide) kX1_takeToken_34 (.int z1) rfl dX1_takeToken_101 ?_
    refine s_iconst C 2 dX1_takeToken_104 (by decide) ?_
    refine s_icmp_ne C 112 dX1_takeToken_105 (by decide) ?_ ?_
    · refine s_iconst C 0 dX1_takeToken_112 (by decide) ?_
      exact bX1_takeToken_j113 C hR
    · exact bX1_takeToken_j108 C hR
noncomputable def X1_takeToken_j45  (t_size : Int32) (t_start : Int32) (t_text_c : Nat → Int32) : Option (Int32 × Int32 × Int32) :=
  if t_size ≤ t_start then (X1_takeToken_j72 0 t_size t_start t_text_c) else ((m_X1_byteAt t_start t_text_c).bind (fun q9 => (m_X1_tokenOf q9).bind (fun q10 => X1_takeToken_j72 q10 t_size t_start t_text_c)))
set_option maxHeartbeats 4000000 in
theorem bX1_takeToken_j45 {X : KX} {Qf : Int32 × Int32 × Int32 → State → Prop} {t : Nat} {t_text : Nat} {t_size : Int32} {t_token : Int32} {t_start : Int32} {t_end : Int32} {t_fault : Int32} {t_text_c : Nat → Int32} (C : Cx X cX1_takeToken RX1 wsX1_takeToken 2 { frames := 1, cells := 0, slots := 0, locals := 24 }) (hR : RtV X Qf cX1_takeToken 2 (fun _ => none) (w1_X1_takeToken (xT X) t t_text t_size t_fault t_text_c))  : Sim X Qf 0 0 2 (X1_takeToken_j45 t_size t_start t_text_c) [(t, .inr (1, [.ref t_text, .int t_size, .int t_token, .int t_start, .int t_end, .int t_fault])), (t_text, .inl ((xT X) 0, 200, .inl t_text_c))] 45 [(0, .ref t)] [] := by
  unfold X1_takeToken_j45
  refine s_aload_n C 0 dX1_takeToken_45 rfl rfl ?_
  refine s_aload_n C 0 dX1_takeToken_46 rfl rfl ?_
  refine s_get C iX1_takeToken_X1 0 rfl rfl 3 (by decide) kX1_takeToken_106 (.int t_start) rfl dX1_takeToken_47 ?_
  refine s_aload_n C 0 dX1_takeToken_50 rfl rfl ?_
  refine s_get C iX1_takeToken_X1 0 rfl rfl 1 (by decide) kX1_takeToken_21 (.int t_size) rfl dX1_takeToken_51 ?_
  refine s_icmp_ge C 71 dX1_takeToken_54 (by decide) ?_ ?_
  · refine s_iconst C 0 dX1_takeToken_71 (by decide) ?_
    exact bX1_takeToken_j72 C hR
  · refine s_aload_n C 0 dX1_takeToken_57 rfl rfl ?_
    refine s_aload_n C 0 dX1_takeToken_58 rfl rfl ?_
    refine s_get C iX1_takeToken_X1 0 rfl rfl 3 (by decide) kX1_takeToken_106 (.int t_start) rfl dX1_takeToken_59 ?_
    refine s_callV (n := 1) C [.int t_start] _ _ _ (fun q9 hq => c_X1_byteAt (xL X) (xD X) (xT X) t_start t t_text t_size t_token t_start t_end t_fault t_text_c q9 hq) gX1_takeToken_X1_byteAt rfl rfl rfl ⟨rfl, by decide +kernel, by decide +kernel, by decide +kernel⟩ ⟨Nat.le_of_ble_eq_true rfl, Nat.le_of_ble_eq_true rfl⟩ ⟨Nat.le_of_ble_eq_true rfl, Nat.le_of_ble_eq_true rfl⟩ 1 0 rfl rfl rfl [.int t_start, .ref t, .ref t] rfl (Nat.le_of_ble_eq_true rfl) dX1_takeToken_62 [0, 1] [] [0, 1] (fun q9 => [(t, .inr (1, [.ref t_text, .int t_size, .int t_token, .int t_start, .int t_end, .int t_fault])), (t_text, .inl ((xT X) 0, 200, .inl t_text_c))]) rfl rfl (by decide) (by decide) (by decide) (fun _ => rfl) (by decide) (fun q9 => [.int q9, .ref t]) (fun _ => rfl) (fun q9 => ?_)
    refine s_callS (n := 1) C [.int q9] _ _ _ (fun q10 hq => c_X1_tokenOf (xL X) (xD X) (xT X) q9 q10 hq) gX1_takeToken_X1_tokenOf rfl rfl rfl ⟨by decide +kernel, by decide +kernel, by decide +kernel⟩ ⟨Nat.le_of_ble_eq_true rfl, Nat.le_of_ble_eq_true rfl⟩ ⟨Nat.le_of_ble_eq_true rfl, Nat.le_of_ble_eq_true rfl⟩ rfl [.int q9, .ref t] rfl (Nat.le_of_ble_eq_true rfl) dX1_takeToken_65 [] [0, 1] [0, 1] (fun q10 => [(t, .inr (1, [.ref t_text, .int t_size, .int t_token, .int t_start, .int t_end, .int t_fault])), (t_text, .inl ((xT X) 0, 200, .inl t_text_c))]) rfl rfl (by decide) (by decide) (by decide) (fun _ => rfl) (by decide) (fun q10 => [.int q10, .ref t]) (fun _ => rfl) (fun q10 => ?_)
    refine s_goto C 72 dX1_takeToken_68 (by decide) ?_
    exact bX1_takeToken_j72 C hR
noncomputable def m_X1_takeToken (t_size : Int32) (t_end : Int32) (t_text_c : Nat → Int32) : Option (Int32 × Int32 × Int32) :=
  lpN (fun (rec : Int32 → Option (Int32 × Int32 × Int32)) (s : Int32) => X1_takeToken_f8 t_size t_text_c (fun e3 => X1_takeToken_j45 t_size e3 t_text_c) (fun r0 => rec (r0)) s) fz (t_end)
set_option maxHeartbeats 4000000 in
theorem b_X1_takeToken {X : KX} {Qf : Int32 × Int32 × Int32 → State → Prop} {t : Nat} {t_text : Nat} {t_size : Int32} {t_token : Int32} {t_start : Int32} {t_end : Int32} {t_fault : Int32} {t_text_c : Nat → Int32} (C : Cx X cX1_takeToken RX1 wsX1_takeToken 2 { frames := 1, cells := 0, slots := 0, locals := 24 }) (hR : RtV X Qf cX1_takeToken 2 (fun _ => none) (w1_X1_takeToken (xT X) t t_text t_size t_fault t_text_c)) : Sim X Qf 0 0 2 (m_X1_takeToken t_size t_end t_text_c) [(t, .inr (1, [.ref t_text, .int t_size, .int t_token, .int t_start, .int t_end, .int t_fault])), (t_text, .inl ((xT X) 0, 200, .inl t_text_c))] 0 [(0, .ref t)] [] := by
  unfold m_X1_takeToken
  refine s_aload_n C 0 dX1_takeToken_0 rfl rfl ?_
  refine s_aload_n C 0 dX1_takeToken_1 rfl rfl ?_
  refine s_get C iX1_takeToken_X1 0 rfl rfl 4 (by decide) kX1_takeToken_25 (.int t_end) rfl dX1_takeToken_2 ?_
  refine s_put C iX1_takeToken_X1 tyX1 tyX1_ok nmX1 0 rfl rfl 3 (by decide) kX1_takeToken_106 rfl .int (by decide +kernel) rfl rfl (Nat.le_of_ble_eq_true rfl) [(t, .inr (1, [.ref t_text, .int t_size, .int t_token, .int t_end, .int t_end, .int t_fault])), (t_text, .inl ((xT X) 0, 200, .inl t_text_c))] rfl dX1_takeToken_5 ?_
  refine s_loop (fun s : Int32 => [(t, .inr (1, [.ref t_text, .int t_size, .int t_token, .int s, .int t_end, .int t_fault])), (t_text, .inl ((xT X) 0, 200, .inl t_text_c))]) (fun s : Int32 => [(0, .ref t)]) (fun rec hrec s => ?_) fz (t_end)
  refine bX1_takeToken_f8 C hR _ (fun e3 => ?_) (fun r0 => rec (r0)) (fun r0 => hrec (r0)) s
  · exact bX1_takeToken_j45 C hR
theorem c_X1_takeToken (l : Launch) (D : va_G) (T : Nat → ClassId) (t : Nat) (t_text : Nat) (t_size : Int32) (t_token : Int32) (t_start : Int32) (t_end : Int32) (t_fault : Int32) (t_text_c : Nat → Int32) : ∀ q : Int32 × Int32 × Int32, m_X1_takeToken t_size t_end t_text_c = some q → Ct l yX1_takeToken wsX1_takeToken { frames := 1, cells := 0, slots := 0, locals := 24 } [.ref t] D T [(t, .inr (1, [.ref t_text, .int t_size, .int t_token, .int t_start, .int t_end, .int t_fault])), (t_text, .inl (T 0, 200, .inl t_text_c))] ((fun _ => none) q) (w1_X1_takeToken T t t_text t_size t_fault t_text_c q) := by
  refine ct_V (by decide) rfl (Nat.le_of_ble_eq_true rfl) (m_X1_takeToken t_size t_end t_text_c) (fun _ => none) (w1_X1_takeToken T t t_text t_size t_fault t_text_c) ?_
  intro X Qf hL hD hT C hR
  subst hT
  exact b_X1_takeToken C hR
theorem iX1_isWord_X1 : ∀ w ∈ u_ws RX1 TX1 6, w ∈ wsX1_isWord := by decide +kernel
theorem kX1_isWord_106 : Cond.fieldLink RX1 106 "NineCats$Reader" "start" "I" ∈ wsX1_isWord := by decide +kernel
theorem kX1_isWord_25 : Cond.fieldLink RX1 25 "NineCats$Reader" "end" "I" ∈ wsX1_isWord := by decide +kernel
theorem kX1_isWord_34 : Cond.fieldLink RX1 34 "NineCats$Reader" "token" "I" ∈ wsX1_isWord := by decide +kernel
abbrev w1_X1_isWord (T : Nat → ClassId) (t : Nat) (t_text : Nat) (t_size : Int32) (t_token : Int32) (t_start : Int32) (t_end : Int32) (t_fault : Int32) (t_text_c : Nat → Int32) (q : Int32) : va_W := [(t, .inr (1, [.ref t_text, .int t_size, .int t_token, .int t_start, .int t_end, .int t_fault])), (t_text, .inl (T 0, 200, .inl t_text_c))]
noncomputable def X1_isWord_f28 (x1 : Nat) (t_start : Int32) (t_text_c : Nat → Int32) (kx28_54 : Unit → Option (Int32)) (kx28_62 : Unit → Option (Int32)) (rec28 : Int32 → Option (Int32)) (x2 : Int32) : Option (Int32) :=
  slI x1 (if (Int32.ofNat (sLen.getD x1 0)) ≤ x2 then (kx28_62 ()) else ((m_X1_byteAt (t_start + x2) t_text_c).bind (fun q1 => chI x1 x2 (fun y2 => if q1 = y2 then (rec28 (x2 + 1)) else (kx28_54 ())))))
set_option maxHeartbeats 4000000 in
theorem bX1_isWord_f28 {X : KX} {Qf : Int32 → State → Prop} {x1 : Nat} {t : Nat} {t_text : Nat} {t_size : Int32} {t_token : Int32} {t_start : Int32} {t_end : Int32} {t_fault : Int32} {t_text_c : Nat → Int32} (C : Cx X cX1_isWord RX1 wsX1_isWord 3 { frames := 6, cells := 0, slots := 0, locals := 200 }) (hR : RtZ X Qf cX1_isWord 3 (fun q => some (.int q)) (w1_X1_isWord (xT X) t t_text t_size t_token t_start t_end t_fault t_text_c)) (kx28_54 : Unit → Option (Int32)) (hkx28_54 : ∀ (_ : Unit), Sim X Qf 0 0 3 (kx28_54 ()) [(t, .inr (1, [.ref t_text, .int t_size, .int t_token, .int t_start, .int t_end, .int t_fault])), (t_text, .inl ((xT X) 0, 200, .inl t_text_c))] 54 [] []) (kx28_62 : Unit → Option (Int32)) (hkx28_62 : ∀ (_ : Unit), Sim X Qf 0 0 3 (kx28_62 ()) [(t, .inr (1, [.ref t_text, .int t_size, .int t_token, .int t_start, .int t_end, .int t_fault])), (t_text, .inl ((xT X) 0, 200, .inl t_text_c))] 62 [] []) (rec28 : Int32 → Option (Int32)) (hrec28 : ∀ (x2 : Int32), Sim X Qf 0 0 3 (rec28 x2) [(t, .inr (1, [.ref t_text, .int t_size, .int t_token, .int t_start, .int t_end, .int t_fault])), (t_text, .inl ((xT X) 0, 200, .inl t_text_c))] 28 [(0, .ref t), (1, .ref ((xT X) (100 + x1))), (2, .int x2)] []) (x2 : Int32) : Sim X Qf 0 0 3 (X1_isWord_f28 x1 t_start t_text_c kx28_54 kx28_62 rec28 x2) [(t, .inr (1, [.ref t_text, .int t_size, .int t_token, .int t_start, .int t_end, .int t_fault])), (t_text, .inl ((xT X) 0, 200, .inl t_text_c))] 28 [(0, .ref t), (1, .ref ((xT X) (100 + x1))), (2, .int x2)] [] := by
  unfold X1_isWord_f28
  refine s_iload_n C 2 dX1_isWord_28 rfl rfl ?_
  refine s_aload_n C 1 dX1_isWord_29 rfl rfl ?_
  refine s_strlen C gX1_isWord_J0_length_8abf5 ⟨Nat.le_of_ble_eq_true rfl, Nat.le_of_ble_eq_true rfl⟩ ⟨Nat.le_of_ble_eq_true rfl, Nat.le_of_ble_eq_true rfl⟩ (Nat.le_of_ble_eq_true rfl) dX1_isWord_30 ?_
  refine s_icmp_ge C 62 dX1_isWord_33 (by decide) ?_ ?_
  · refine s_lv [] (lv' := []) rfl ?_
    exact hkx28_62 ()
  · refine s_aload_n C 0 dX1_isWord_36 rfl rfl ?_
    refine s_aload_n C 0 dX1_isWord_37 rfl rfl ?_
    refine s_get C iX1_isWord_X1 0 rfl rfl 3 (by decide) kX1_isWord_106 (.int t_start) rfl dX1_isWord_38 ?_
    refine s_iload_n C 2 dX1_isWord_41 rfl rfl ?_
    refine s_iadd C dX1_isWord_42 ?_
    refine s_callV (n := 1) C [.int (t_start + x2)] _ _ _ (fun q1 hq => c_X1_byteAt (xL X) (xD X) (xT X) (t_start + x2) t t_text t_size t_token t_start t_end t_fault t_text_c q1 hq) gX1_isWord_X1_byteAt rfl rfl rfl ⟨rfl, by decide +kernel, by decide +kernel, by decide +kernel⟩ ⟨Nat.le_of_ble_eq_true rfl, Nat.le_of_ble_eq_true rfl⟩ ⟨Nat.le_of_ble_eq_true rfl, Nat.le_of_ble_eq_true rfl⟩ 1 0 rfl rfl rfl [.int (t_start + x2), .ref t] rfl (Nat.le_of_ble_eq_true rfl) dX1_isWord_43 [0, 1] [] [0, 1] (fun q1 => [(t, .inr (1, [.ref t_text, .int t_size, .int t_token, .int t_start, .int t_end, .int t_fault])), (t_text, .inl ((xT X) 0, 200, .inl t_text_c))]) rfl rfl (by decide) (by decide) (by decide) (fun _ => rfl) (by decide) (fun q1 => [.int q1]) (fun _ => rfl) (fun q1 => ?_)
    refine s_aload_n C 1 dX1_isWord_46 rfl rfl ?_
    refine s_iload_n C 2 dX1_isWord_47 rfl rfl ?_
    refine s_charAt C gX1_isWord_J0_charAt_5068e ⟨Nat.le_of_ble_eq_true rfl, Nat.le_of_ble_eq_true rfl⟩ ⟨Nat.le_of_ble_eq_true rfl, Nat.le_of_ble_eq_true rfl⟩ (Nat.le_of_ble_eq_true rfl) dX1_isWord_48 (fun y2 => ?_)
    refine s_icmp_eq C 56 dX1_isWord_51 (by decide) ?_ ?_
    · refine s_iinc C [(2, .int (x2 + 1)), (0, .ref t), (1, .ref ((xT X) (100 + x1)))] 2 dX1_isWord_56 rfl (congrArg (fun z => x2 + z) (show Int32.ofInt 1 = 1 by decide)) (by decide) rfl ?_
      refine s_goto C 28 dX1_isWord_59 (by decide) ?_
      refine s_lv [1, 2, 0] (lv' := [(0, .ref t), (1, .ref ((xT X) (100 + x1))), (2, .int (x2 + 1))]) rfl ?_
      exact hrec28 (x2 + 1)
    · refine s_lv [] (lv' := []) rfl ?_
      exact hkx28_54 ()
noncomputable def m_X1_isWord (x1 : Nat) (t_token : Int32) (t_start : Int32) (t_end : Int32) (t_text_c : Nat → Int32) : Option (Int32) :=
  if t_token = 1 then (slI x1 (if (t_end - t_start) = (Int32.ofNat (sLen.getD x1 0)) then (lpN (fun (rec : Int32 → Option (Int32)) (s : Int32) => X1_isWord_f28 x1 t_start t_text_c (fun _ => bzI 0 (some 0)) (fun _ => bzI 1 (some 1)) (fun r0 => rec (r0)) s) fz (0)) else (bzI 0 (some 0)))) else (bzI 0 (some 0))
set_option maxHeartbeats 4000000 in
theorem b_X1_isWord {X : KX} {Qf : Int32 → State → Prop} {x1 : Nat} {t : Nat} {t_text : Nat} {t_size : Int32} {t_token : Int32} {t_start : Int32} {t_end : Int32} {t_fault : Int32} {t_text_c : Nat → Int32} (C : Cx X cX1_isWord RX1 wsX1_isWord 3 { frames := 6, cells := 0, slots := 0, locals := 200 }) (hR : RtZ X Qf cX1_isWord 3 (fun q => some (.int q)) (w1_X1_isWord (xT X) t t_text t_size t_token t_start t_end t_fault t_text_c)) : Sim X Qf 0 0 3 (m_X1_isWord x1 t_token t_start t_end t_text_c) [(t, .inr (1, [.ref t_text, .int t_size, .int t_token, .int t_start, .int t_end, .int t_fault])), (t_text, .inl ((xT X) 0, 200, .inl t_text_c))] 0 [(0, .ref t), (1, .ref ((xT X) (100 + x1)))] [] := by
  unfold m_X1_isWord
  refine s_aload_n C 0 dX1_isWord_0 rfl rfl ?_
  refine s_get C iX1_isWord_X1 0 rfl rfl 2 (by decide) kX1_isWord_34 (.int t_token) rfl dX1_isWord_1 ?_
  refine s_iconst C 1 dX1_isWord_4 (by decide) ?_
  refine s_icmp_ne C 24 dX1_isWord_5 (by decide) ?_ ?_
  · refine s_iconst C 0 dX1_isWord_24 (by decide) ?_
    exact s_retZ hR 0 rfl rfl dX1_isWord_25
  · refine s_aload_n C 0 dX1_isWord_8 rfl rfl ?_
    refine s_get C iX1_isWord_X1 0 rfl rfl 4 (by decide) kX1_isWord_25 (.int t_end) rfl dX1_isWord_9 ?_
    refine s_aload_n C 0 dX1_isWord_12 rfl rfl ?_
    refine s_get C iX1_isWord_X1 0 rfl rfl 3 (by decide) kX1_isWord_106 (.int t_start) rfl dX1_isWord_13 ?_
    refine s_isub C dX1_isWord_16 ?_
    refine s_aload_n C 1 dX1_isWord_17 rfl rfl ?_
    refine s_strlen C gX1_isWord_J0_length_8abf5 ⟨Nat.le_of_ble_eq_true rfl, Nat.le_of_ble_eq_true rfl⟩ ⟨Nat.le_of_ble_eq_true rfl, Nat.le_of_ble_eq_true rfl⟩ (Nat.le_of_ble_eq_true rfl) dX1_isWord_18 ?_
    refine s_icmp_eq C 26 dX1_isWord_21 (by decide) ?_ ?_
    · refine s_iconst C 0 dX1_isWord_26 (by decide) ?_
      refine s_istore_n C [(2, .int 0), (0, .ref t), (1, .ref ((xT X) (100 + x1)))] dX1_isWord_27 rfl (by decide) rfl ?_
      refine s_lv [1, 2, 0] (lv' := [(0, .ref t), (1, .ref ((xT X) (100 + x1))), (2, .int 0)]) rfl ?_
      refine s_loop (fun s : Int32 => [(t, .inr (1, [.ref t_text, .int t_size, .int t_token, .int t_start, .int t_end, .int t_fault])), (t_text, .inl ((xT X) 0, 200, .inl t_text_c))]) (fun s : Int32 => [(0, .ref t), (1, .ref ((xT X) (100 + x1))), (2, .int s)]) (fun rec hrec s => ?_) fz (0)
      refine bX1_isWord_f28 C hR _ (fun _ => ?_) _ (fun _ => ?_) (fun r0 => rec (r0)) (fun r0 => hrec (r0)) s
      · refine s_iconst C 0 dX1_isWord_54 (by decide) ?_
        exact s_retZ hR 0 rfl rfl dX1_isWord_55
      · refine s_iconst C 1 dX1_isWord_62 (by decide) ?_
        exact s_retZ hR 1 rfl rfl dX1_isWord_63
    · refine s_iconst C 0 dX1_isWord_24 (by decide) ?_
      exact s_retZ hR 0 rfl rfl dX1_isWord_25
theorem c_X1_isWord (l : Launch) (D : va_G) (T : Nat → ClassId) (x1 : Nat) (t : Nat) (t_text : Nat) (t_size : Int32) (t_token : Int32) (t_start : Int32) (t_end : Int32) (t_fault : Int32) (t_text_c : Nat → Int32) : ∀ q : Int32, m_X1_isWord x1 t_token t_start t_end t_text_c = some q → Ct l yX1_isWord wsX1_isWord { frames := 6, cells := 0, slots := 0, locals := 200 } [.ref t, .ref (T (100 + x1))] D T [(t, .inr (1, [.ref t_text, .int t_size, .int t_token, .int t_start, .int t_end, .int t_fault])), (t_text, .inl (T 0, 200, .inl t_text_c))] ((fun q => some (.int q)) q) (w1_X1_isWord T t t_text t_size t_token t_start t_end t_fault t_text_c q) := by
  refine ct_Z (by decide) rfl (Nat.le_of_ble_eq_true rfl) (m_X1_isWord x1 t_token t_start t_end t_text_c) (fun q => some (.int q)) (w1_X1_isWord T t t_text t_size t_token t_start t_end t_fault t_text_c) ?_
  intro X Qf hL hD hT C hR
  subst hT
  exact b_X1_isWord C hR
abbrev w1_X1_wordHere (T : Nat → ClassId) (t : Nat) (t_text : Nat) (t_size : Int32) (t_token : Int32) (t_start : Int32) (t_end : Int32) (t_fault : Int32) (t_text_c : Nat → Int32) (q : Int32) : va_W := [(t, .inr (1, [.ref t_text, .int t_size, .int t_token, .int t_start, .int t_end, .int t_fault])), (t_text, .inl (T 0, 200, .inl t_text_c))]
noncomputable def m_X1_wordHere (t_token : Int32) (t_start : Int32) (t_end : Int32) (t_text_c : Nat → Int32) : Option (Int32) :=
  (m_X1_isWord 0 t_token t_start t_end t_text_c).bind (fun q1 => if q1 = 0 then ((m_X1_isWord 1 t_token t_start t_end t_text_c).bind (fun q2 => if q2 = 0 then ((m_X1_isWord 2 t_token t_start t_end t_text_c).bind (fun q3 => if q3 = 0 then ((m_X1_isWord 3 t_token t_start t_end t_text_c).bind (fun q4 => if q4 = 0 then ((m_X1_isWord 4 t_token t_start t_end t_text_c).bind (fun q5 => if q5 = 0 then ((m_X1_isWord 5 t_token t_start t_end t_text_c).bind (fun q6 => if q6 = 0 then ((m_X1_isWord 6 t_token t_start t_end t_text_c).bind (fun q7 => if q7 = 0 then (some 7) else (some 6))) else (some 5))) else (some 4))) else (some 3))) else (some 2))) else (some 1))) else (some 0))
set_option maxHeartbeats 4000000 in
theorem b_X1_wordHere {X : KX} {Qf : Int32 → State → Prop} {t : Nat} {t_text : Nat} {t_size : Int32} {t_token : Int32} {t_start : Int32} {t_end : Int32} {t_fault : Int32} {t_text_c : Nat → Int32} (C : Cx X cX1_wordHere RX1 wsX1_wordHere 1 { frames := 7, cells := 0, slots := 0, locals := 222 }) (hR : RtI X Qf cX1_wordHere 1 (fun q => some (.int q)) (w1_X1_wordHere (xT X) t t_text t_size t_token t_start t_end t_fault t_text_c)) : Sim X Qf 0 0 1 (m_X1_wordHere t_token t_start t_end t_text_c) [(t, .inr (1, [.ref t_text, .int t_size, .int t_token, .int t_start, .int t_end, .int t_fault])), (t_text, .inl ((xT X) 0, 200, .inl t_text_c))] 0 [(0, .ref t)] [] := by
  unfold m_X1_wordHere
  refine s_aload_n C 0 dX1_wordHere_0 rfl rfl ?_
  refine s_ldcS C 0 (by decide) dX1_wordHere_1 rfl ?_
  refine s_callV (n := 1) C [.ref ((xT X) (100 + 0))] _ _ _ (fun q1 hq => c_X1_isWord (xL X) (xD X) (xT X) 0 t t_text t_size t_token t_start t_end t_fault t_text_c q1 hq) gX1_wordHere_X1_isWord rfl rfl rfl ⟨rfl, by decide +kernel, by decide +kernel, by decide +kernel⟩ ⟨Nat.le_of_ble_eq_true rfl, Nat.le_of_ble_eq_true rfl⟩ ⟨Nat.le_of_ble_eq_true rfl, Nat.le_of_ble_eq_true rfl⟩ 1 0 rfl rfl rfl [.ref ((xT X) (100 + 0)), .ref t] rfl (Nat.le_of_ble_eq_true rfl) dX1_wordHere_3 [0, 1] [] [0, 1] (fun q1 => [(t, .inr (1, [.ref t_text, .int t_size, .int t_token, .int t_start, .int t_end, .int t_fault])), (t_text, .inl ((xT X) 0, 200, .inl t_text_c))]) rfl rfl (by decide) (by decide) (by decide) (fun _ => rfl) (by decide) (fun q1 => [.int q1]) (fun _ => rfl) (fun q1 => ?_)
  refine s_if_eq C 11 dX1_wordHere_6 (by decide) ?_ ?_
  · refine s_aload_n C 0 dX1_wordHere_11 rfl rfl ?_
    refine s_ldcS C 1 (by decide) dX1_wordHere_12 rfl ?_
    refine s_callV (n := 1) C [.ref ((xT X) (100 + 1))] _ _ _ (fun q2 hq => c_X1_isWord (xL X) (xD X) (xT X) 1 t t_text t_size t_token t_start t_end t_fault t_text_c q2 hq) gX1_wordHere_X1_isWord rfl rfl rfl ⟨rfl, by decide +kernel, by decide +kernel, by decide +kernel⟩ ⟨Nat.le_of_ble_eq_true rfl, Nat.le_of_ble_eq_true rfl⟩ ⟨Nat.le_of_ble_eq_true rfl, Nat.le_of_ble_eq_true rfl⟩ 1 0 rfl rfl rfl [.ref ((xT X) (100 + 1)), .ref t] rfl (Nat.le_of_ble_eq_true rfl) dX1_wordHere_14 [0, 1] [] [0, 1] (fun q2 => [(t, .inr (1, [.ref t_text, .int t_size, .int t_token, .int t_start, .int t_end, .int t_fault])), (t_text, .inl ((xT X) 0, 200, .inl t_text_c))]) rfl rfl (by decide) (by decide) (by decide) (fun _ => rfl) (by decide) (fun q2 => [.int q2]) (fun _ => rfl) (fun q2 => ?_)
    refine s_if_eq C 22 dX1_wordHere_17 (by decide) ?_ ?_
    · refine s_aload_n C 0 dX1_wordHere_22 rfl rfl ?_
      refine s_ldcS C 2 (by decide) dX1_wordHere_23 rfl ?_
      refine s_callV (n := 1) C [.ref ((xT X) (100 + 2))] _ _ _ (fun q3 hq => c_X1_isWord (xL X) (xD X) (xT X) 2 t t_text t_size t_token t_start t_end t_fault t_text_c q3 hq) gX1_wordHere_X1_isWord rfl rfl rfl ⟨rfl, by decide +kernel, by decide +kernel, by decide +kernel⟩ ⟨Nat.le_of_ble_eq_true rfl, Nat.le_of_ble_eq_true rfl⟩ ⟨Nat.le_of_ble_eq_true rfl, Nat.le_of_ble_eq_true rfl⟩ 1 0 rfl rfl rfl [.ref ((xT X) (100 + 2)), .ref t] rfl (Nat.le_of_ble_eq_true rfl) dX1_wordHere_25 [0, 1] [] [0, 1] (fun q3 => [(t, .inr (1, [.ref t_text, .int t_size, .int t_token, .int t_start, .int t_end, .int t_fault])), (t_text, .inl ((xT X) 0, 200, .inl t_text_c))]) rfl rfl (by decide) (by decide) (by decide) (fun _ => rfl) (by decide) (fun q3 => [.int q3]) (fun _ => rfl) (fun q3 => ?_)
      refine s_if_eq C 33 dX1_wordHere_28 (by decide) ?_ ?_
      · refine s_aload_n C 0 dX1_wordHere_33 rfl rfl ?_
        refine s_ldcS C 3 (by decide) dX1_wordHere_34 rfl ?_
        refine s_callV (n := 1) C [.ref ((xT X) (100 + 3))] _ _ _ (fun q4 hq => c_X1_isWord (xL X) (xD X) (xT X) 3 t t_text t_size t_token t_start t_end t_fault t_text_c q4 hq) gX1_wordHere_X1_isWord rfl rfl rfl ⟨rfl, by decide +kernel, by decide +kernel, by decide +kernel⟩ ⟨Nat.le_of_ble_eq_true rfl, Nat.le_of_ble_eq_true rfl⟩ ⟨Nat.le_of_ble_eq_true rfl, Nat.le_of_ble_eq_true rfl⟩ 1 0 rfl rfl rfl [.ref ((xT X) (100 + 3)), .ref t] rfl (Nat.le_of_ble_eq_true rfl) dX1_wordHere_36 [0, 1] [] [0, 1] (fun q4 => [(t, .inr (1, [.ref t_text, .int t_size, .int t_token, .int t_start, .int t_end, .int t_fault])), (t_text, .inl ((xT X) 0, 200, .inl t_text_c))]) rfl rfl (by decide) (by decide) (by decide) (fun _ => rfl) (by decide) (fun q4 => [.int q4]) (fun _ => rfl) (fun q4 => ?_)
        refine s_if_eq C 44 dX1_wordHere_39 (by decide) ?_ ?_
        · refine s_aload_n C 0 dX1_wordHere_44 rfl rfl ?_
          refine s_ldcS C 4 (by decide) dX1_wordHere_45 rfl ?_
          refine s_callV (n := 1) C [.ref ((xT X) (100 + 4))] _ _ _ (fun q5 hq => c_X1_isWord (xL X) (xD X) (xT X) 4 t t_text t_size t_token t_start t_end t_fault t_text_c q5 hq) gX1_wordHere_X1_isWord rfl rfl rfl ⟨rfl, by decide +kernel, by decide +kernel, by decide +kernel⟩ ⟨Nat.le_of_ble_eq_true rfl, Nat.le_of_ble_eq_true rfl⟩ ⟨Nat.le_of_ble_eq_true rfl, Nat.le_of_ble_eq_true rfl⟩ 1 0 rfl rfl rfl [.ref ((xT X) (100 + 4)), .ref t] rfl (Nat.le_of_ble_eq_true rfl) dX1_wordHere_47 [0, 1] [] [0, 1] (fun q5 => [(t, .inr (1, [.ref t_text, .int t_size, .int t_token, .int t_start, .int t_end, .int t_fault])), (t_text, .inl ((xT X) 0, 200, .inl t_text_c))]) rfl rfl (by decide) (by decide) (by decide) (fun _ => rfl) (by decide) (fun q5 => [.int q5]) (fun _ => rfl) (fun q5 => ?_)
          refine s_if_eq C 55 dX1_wordHere_50 (by decide) ?_ ?_
          · refine s_aload_n C 0 dX1_wordHere_55 rfl rfl ?_
            refine s_ldcS C 5 (by decide) dX1_wordHere_56 rfl ?_
            refine s_callV (n := 1) C [.ref ((xT X) (100 + 5))] _ _ _ (fun q6 hq => c_X1_isWord (xL X) (xD X) (xT X) 5 t t_text t_size t_token t_start t_end t_fault t_text_c q6 hq) gX1_wordHere_X1_isWord rfl rfl rfl ⟨rfl, by decide +kernel, by decide +kernel, by decide +kernel⟩ ⟨Nat.le_of_ble_eq_true rfl, Nat.le_of_ble_eq_true rfl⟩ ⟨Nat.le_of_ble_eq_true rfl, Nat.le_of_ble_eq_true rfl⟩ 1 0 rfl rfl rfl [.ref ((xT X) (100 + 5)), .ref t] rfl (Nat.le_of_ble_eq_true rfl) dX1_wordHere_58 [0, 1] [] [0, 1] (fun q6 => [(t, .inr (1, [.ref t_text, .int t_size, .int t_token, .int t_start, .int t_end, .int t_fault])), (t_text, .inl ((xT X) 0, 200, .inl t_text_c))]) rfl rfl (by decide) (by decide) (by decide) (fun _ => rfl) (by decide) (fun q6 => [.int q6]) (fun _ => rfl) (fun q6 => ?_)
            refine s_if_eq C 66 dX1_wordHere_61 (by decide) ?_ ?_
            · refine s_aload_n C 0 dX1_wordHere_66 rfl rfl ?_
              refine s_ldcS C 6 (by decide) dX1_wordHere_67 rfl ?_
              refine s_callV (n := 1) C [.ref ((xT X) (100 + 6))] _ _ _ (fun q7 hq => c_X1_isWord (xL X) (xD X) (xT X) 6 t t_text t_size t_token t_start t_end t_fault t_text_c q7 hq) gX1_wordHere_X1_isWord rfl rfl rfl ⟨rfl, by decide +kernel, by decide +kernel, by decide +kernel⟩ ⟨Nat.le_of_ble_eq_true rfl, Nat.le_of_ble_eq_true rfl⟩ ⟨Nat.le_of_ble_eq_true rfl, Nat.le_of_ble_eq_true rfl⟩ 1 0 rfl rfl rfl [.ref ((xT X) (100 + 6)), .ref t] rfl (Nat.le_of_ble_eq_true rfl) dX1_wordHere_69 [0, 1] [] [0, 1] (fun q7 => [(t, .inr (1, [.ref t_text, .int t_size, .int t_token, .int t_start, .int t_end, .int t_fault])), (t_text, .inl ((xT X) 0, 200, .inl t_text_c))]) rfl rfl (by decide) (by decide) (by decide) (fun _ => rfl) (by decide) (fun q7 => [.int q7]) (fun _ => rfl) (fun q7 => ?_)
              refine s_if_eq C 80 dX1_wordHere_72 (by decide) ?_ ?_
              · refine s_bipush C 7 dX1_wordHere_80 (by decide) ?_
                exact s_retI hR 7 rfl rfl dX1_wordHere_82
              · refine s_bipush C 6 dX1_wordHere_75 (by decide) ?_
                refine s_goto C 82 dX1_wordHere_77 (by decide) ?_
                exact s_retI hR 6 rfl rfl dX1_wordHere_82
            · refine s_iconst C 5 dX1_wordHere_64 (by decide) ?_
              exact s_retI hR 5 rfl rfl dX1_wordHere_65
          · refine s_iconst C 4 dX1_wordHere_53 (by decide) ?_
            exact s_retI hR 4 rfl rfl dX1_wordHere_54
        · refine s_iconst C 3 dX1_wordHere_42 (by decide) ?_
          exact s_retI hR 3 rfl rfl dX1_wordHere_43
      · refine s_iconst C 2 dX1_wordHere_31 (by decide) ?_
        exact s_retI hR 2 rfl rfl dX1_wordHere_32
    · refine s_iconst C 1 dX1_wordHere_20 (by decide) ?_
      exact s_retI hR 1 rfl rfl dX1_wordHere_21
  · refine s_iconst C 0 dX1_wordHere_9 (by decide) ?_
    exact s_retI hR 0 rfl rfl dX1_wordHere_10
theorem c_X1_wordHere (l : Launch) (D : va_G) (T : Nat → ClassId) (t : Nat) (t_text : Nat) (t_size : Int32) (t_token : Int32) (t_start : Int32) (t_end : Int32) (t_fault : Int32) (t_text_c : Nat → Int32) : ∀ q : Int32, m_X1_wordHere t_token t_start t_end t_text_c = some q → Ct l yX1_wordHere wsX1_wordHere { frames := 7, cells := 0, slots := 0, locals := 222 } [.ref t] D T [(t, .inr (1, [.ref t_text, .int t_size, .int t_token, .int t_start, .int t_end, .int t_fault])), (t_text, .inl (T 0, 200, .inl t_text_c))] ((fun q => some (.int q)) q) (w1_X1_wordHere T t t_text t_size t_token t_start t_end t_fault t_text_c q) := by
  refine ct_I (by decide) rfl (Nat.le_of_ble_eq_true rfl) (m_X1_wordHere t_token t_start t_end t_text_c) (fun q => some (.int q)) (w1_X1_wordHere T t t_text t_size t_token t_start t_end t_fault t_text_c) ?_
  intro X Qf hL hD hT C hR
  subst hT
  exact b_X1_wordHere C hR
theorem iX1_mayBegin_X0 : ∀ w ∈ u_ws RX0 TX0 12, w ∈ wsX1_mayBegin := by decide +kernel
theorem kX1_mayBegin_52 : Cond.fieldLink RX1 52 "NineCats$Plan" "bridgeMay" "Z" ∈ wsX1_mayBegin := by decide +kernel
theorem kX1_mayBegin_67 : Cond.fieldLink RX1 67 "NineCats$Plan" "sunMay" "Z" ∈ wsX1_mayBegin := by decide +kernel
theorem kX1_mayBegin_76 : Cond.fieldLink RX1 76 "NineCats$Plan" "noseMay" "Z" ∈ wsX1_mayBegin := by decide +kernel
theorem kX1_mayBegin_99 : Cond.fieldLink RX1 99 "NineCats$Plan" "cats" "I" ∈ wsX1_mayBegin := by decide +kernel
abbrev w1_X1_mayBegin (T : Nat → ClassId) (p0 : Nat) (p0_length : Int32) (p0_width : Int32) (p0_sunFirst : Int32) (p0_pace : Int32) (p0_nose : Int32) (p0_cats : Int32) (p0_bridgeMay : Int32) (p0_sunMay : Int32) (p0_noseMay : Int32) (p0_starts : Nat) (p0_habits : Nat) (p0_leaders : Nat) (q : Int32) : va_W := [(p0, .inr (0, [.int p0_length, .int p0_width, .int p0_sunFirst, .int p0_pace, .int p0_nose, .int p0_cats, .int p0_bridgeMay, .int p0_sunMay, .int p0_noseMay, .ref p0_starts, .ref p0_habits, .ref p0_leaders]))]
noncomputable def m_X1_mayBegin (x1 : Int32) (p0_cats : Int32) (p0_bridgeMay : Int32) (p0_sunMay : Int32) (p0_noseMay : Int32) : Option (Int32) :=
  if x1 = Int32.ofNat 4 then (bzI p0_bridgeMay (some p0_bridgeMay)) else (if x1 = Int32.ofNat 5 then (bzI p0_sunMay (some p0_sunMay)) else (if x1 = Int32.ofNat 6 then (bzI p0_noseMay (some p0_noseMay)) else (if x1 = Int32.ofNat 7 then (bzI 0 (some 0)) else (if 5 ≤ p0_cats then (bzI 0 (some 0)) else (bzI 1 (some 1))))))
set_option maxHeartbeats 4000000 in
theorem b_X1_mayBegin {X : KX} {Qf : Int32 → State → Prop} {x1 : Int32} {p0 : Nat} {p0_length : Int32} {p0_width : Int32} {p0_sunFirst : Int32} {p0_pace : Int32} {p0_nose : Int32} {p0_cats : Int32} {p0_bridgeMay : Int32} {p0_sunMay : Int32} {p0_noseMay : Int32} {p0_starts : Nat} {p0_habits : Nat} {p0_leaders : Nat} (C : Cx X cX1_mayBegin RX1 wsX1_mayBegin 2 { frames := 0, cells := 0, slots := 0, locals := 0 }) (hR : RtZ X Qf cX1_mayBegin 2 (fun q => some (.int q)) (w1_X1_mayBegin (xT X) p0 p0_length p0_width p0_sunFirst p0_pace p0_nose p0_cats p0_bridgeMay p0_sunMay p0_noseMay p0_starts p0_habits p0_leaders)) : Sim X Qf 0 0 2 (m_X1_mayBegin x1 p0_cats p0_bridgeMay p0_sunMay p0_noseMay) [(p0, .inr (0, [.int p0_length, .int p0_width, .int p0_sunFirst, .int p0_pace, .int p0_nose, .int p0_cats, .int p0_bridgeMay, .int p0_sunMay, .int p0_noseMay, .ref p0_starts, .ref p0_habits, .ref p0_leaders]))] 0 [(0, .ref p0), (1, .int x1)] [] := by
  unfold m_X1_mayBegin
  refine s_iload_n C 1 dX1_mayBegin_0 rfl rfl ?_
  refine s_table C 4 [32, 37, 42, 47] 49 dX1_mayBegin_1 (by decide) (by decide) (by decide) (by decide) (by decide) ?_
  refine s_sw 4 ?_ ?_
  · refine s_aload_n C 0 dX1_mayBegin_32 rfl rfl ?_
    refine s_get C iX1_mayBegin_X0 0 rfl rfl 6 (by decide) kX1_mayBegin_52 (.int p0_bridgeMay) rfl dX1_mayBegin_33 ?_
    exact s_retZ hR p0_bridgeMay rfl rfl dX1_mayBegin_36
  refine s_sw 5 ?_ ?_
  · refine s_aload_n C 0 dX1_mayBegin_37 rfl rfl ?_
    refine s_get C iX1_mayBegin_X0 0 rfl rfl 7 (by decide) kX1_mayBegin_67 (.int p0_sunMay) rfl dX1_mayBegin_38 ?_
    exact s_retZ hR p0_sunMay rfl rfl dX1_mayBegin_41
  refine s_sw 6 ?_ ?_
  · refine s_aload_n C 0 dX1_mayBegin_42 rfl rfl ?_
    refine s_get C iX1_mayBegin_X0 0 rfl rfl 8 (by decide) kX1_mayBegin_76 (.int p0_noseMay) rfl dX1_mayBegin_43 ?_
    exact s_retZ hR p0_noseMay rfl rfl dX1_mayBegin_46
  refine s_sw 7 ?_ ?_
  · refine s_iconst C 0 dX1_mayBegin_47 (by decide) ?_
    exact s_retZ hR 0 rfl rfl dX1_mayBegin_48
  refine s_sw0 ?_
  refine s_aload_n C 0 dX1_mayBegin_49 rfl rfl ?_
  refine s_get C iX1_mayBegin_X0 0 rfl rfl 5 (by decide) kX1_mayBegin_99 (.int p0_cats) rfl dX1_mayBegin_50 ?_
  refine s_iconst C 5 dX1_mayBegin_53 (by decide) ?_
  refine s_icmp_ge C 61 dX1_mayBegin_54 (by decide) ?_ ?_
  · refine s_iconst C 0 dX1_mayBegin_61 (by decide) ?_
    exact s_retZ hR 0 rfl rfl dX1_mayBegin_62
  · refine s_iconst C 1 dX1_mayBegin_57 (by decide) ?_
    refine s_goto C 62 dX1_mayBegin_58 (by decide) ?_
    exact s_retZ hR 1 rfl rfl dX1_mayBegin_62
theorem c_X1_mayBegin (l : Launch) (D : va_G) (T : Nat → ClassId) (x1 : Int32) (p0 : Nat) (p0_length : Int32) (p0_width : Int32) (p0_sunFirst : Int32) (p0_pace : Int32) (p0_nose : Int32) (p0_cats : Int32) (p0_bridgeMay : Int32) (p0_sunMay : Int32) (p0_noseMay : Int32) (p0_starts : Nat) (p0_habits : Nat) (p0_leaders : Nat) : ∀ q : Int32, m_X1_mayBegin x1 p0_cats p0_bridgeMay p0_sunMay p0_noseMay = some q → Ct l yX1_mayBegin wsX1_mayBegin { frames := 0, cells := 0, slots := 0, locals := 0 } [.ref p0, .int x1] D T [(p0, .inr (0, [.int p0_length, .int p0_width, .int p0_sunFirst, .int p0_pace, .int p0_nose, .int p0_cats, .int p0_bridgeMay, .int p0_sunMay, .int p0_noseMay, .ref p0_starts, .ref p0_habits, .ref p0_leaders]))] ((fun q => some (.int q)) q) (w1_X1_mayBegin T p0 p0_length p0_width p0_sunFirst p0_pace p0_nose p0_cats p0_bridgeMay p0_sunMay p0_noseMay p0_starts p0_habits p0_leaders q) := by
  refine ct_Z (by decide) rfl (Nat.le_of_ble_eq_true rfl) (m_X1_mayBegin x1 p0_cats p0_bridgeMay p0_sunMay p0_noseMay) (fun q => some (.int q)) (w1_X1_mayBegin T p0 p0_length p0_width p0_sunFirst p0_pace p0_nose p0_cats p0_bridgeMay p0_sunMay p0_noseMay p0_starts p0_habits p0_leaders) ?_
  intro X Qf hL hD hT C hR
  subst hT
  exact b_X1_mayBegin C hR
theorem iX1_numberHere_X1 : ∀ w ∈ u_ws RX1 TX1 6, w ∈ wsX1_numberHere := by decide +kernel
theorem kX1_numberHere_106 : Cond.fieldLink RX1 106 "NineCats$Reader" "start" "I" ∈ wsX1_numberHere := by decide +kernel
theorem kX1_numberHere_25 : Cond.fieldLink RX1 25 "NineCats$Reader" "end" "I" ∈ wsX1_numberHere := by decide +kernel
theorem kX1_numberHere_34 : Cond.fieldLink RX1 34 "NineCats$Reader" "token" "I" ∈ wsX1_numberHere := by decide +kernel
abbrev w1_X1_numberHere (T : Nat → ClassId) (t : Nat) (t_text : Nat) (t_size : Int32) (t_token : Int32) (t_start : Int32) (t_end : Int32) (t_fault : Int32) (t_text_c : Nat → Int32) (q : Int32) : va_W := [(t, .inr (1, [.ref t_text, .int t_size, .int t_token, .int t_start, .int t_end, .int t_fault])), (t_text, .inl (T 0, 200, .inl t_text_c))]
noncomputable def X1_numberHere_f50 (t_end : Int32) (t_text_c : Nat → Int32) (kx50_78 : Int32 → Option (Int32)) (rec50 : Int32 → Int32 → Option (Int32)) (x2 : Int32) (x3 : Int32) : Option (Int32) :=
  if t_end ≤ x3 then (kx50_78 x2) else ((m_X1_byteAt x3 t_text_c).bind (fun q2 => nm (((x2 * 10) + q2) - 48) (fun y3 => rec50 y3 (x3 + 1))))
set_option maxHeartbeats 4000000 in
theorem bX1_numberHere_f50 {X : KX} {Qf : Int32 → State → Prop} {t : Nat} {t_text : Nat} {t_size : Int32} {t_token : Int32} {t_start : Int32} {t_end : Int32} {t_fault : Int32} {t_text_c : Nat → Int32} (C : Cx X cX1_numberHere RX1 wsX1_numberHere 4 { frames := 1, cells := 0, slots := 0, locals := 21 }) (hR : RtI X Qf cX1_numberHere 4 (fun q => some (.int q)) (w1_X1_numberHere (xT X) t t_text t_size t_token t_start t_end t_fault t_text_c)) (kx50_78 : Int32 → Option (Int32)) (hkx50_78 : ∀ (x2 : Int32), Sim X Qf 0 0 4 (kx50_78 x2) [(t, .inr (1, [.ref t_text, .int t_size, .int t_token, .int t_start, .int t_end, .int t_fault])), (t_text, .inl ((xT X) 0, 200, .inl t_text_c))] 78 [(2, .int x2)] []) (rec50 : Int32 → Int32 → Option (Int32)) (hrec50 : ∀ (x2 : Int32) (x3 : Int32), Sim X Qf 0 0 4 (rec50 x2 x3) [(t, .inr (1, [.ref t_text, .int t_size, .int t_token, .int t_start, .int t_end, .int t_fault])), (t_text, .inl ((xT X) 0, 200, .inl t_text_c))] 50 [(0, .ref t), (2, .int x2), (3, .int x3)] []) (x2 : Int32) (x3 : Int32) : Sim X Qf 0 0 4 (X1_numberHere_f50 t_end t_text_c kx50_78 rec50 x2 x3) [(t, .inr (1, [.ref t_text, .int t_size, .int t_token, .int t_start, .int t_end, .int t_fault])), (t_text, .inl ((xT X) 0, 200, .inl t_text_c))] 50 [(0, .ref t), (2, .int x2), (3, .int x3)] [] := by
  unfold X1_numberHere_f50
  refine s_iload_n C 2 dX1_numberHere_50 rfl rfl ?_
  refine s_aload_n C 0 dX1_numberHere_51 rfl rfl ?_
  refine s_get C iX1_numberHere_X1 0 rfl rfl 4 (by decide) kX1_numberHere_25 (.int t_end) rfl dX1_numberHere_52 ?_
  refine s_icmp_ge C 78 dX1_numberHere_55 (by decide) ?_ ?_
  · refine s_lv [1] (lv' := [(2, .int x2)]) rfl ?_
    exact hkx50_78 x2
  · refine s_iload_n C 1 dX1_numberHere_58 rfl rfl ?_
    refine s_bipush C 10 dX1_numberHere_59 (by decide) ?_
    refine s_imul C dX1_numberHere_61 ?_
    refine s_aload_n C 0 dX1_numberHere_62 rfl rfl ?_
    refine s_iload_n C 2 dX1_numberHere_63 rfl rfl ?_
    refine s_callV (n := 1) C [.int x3] _ _ _ (fun q2 hq => c_X1_byteAt (xL X) (xD X) (xT X) x3 t t_text t_size t_token t_start t_end t_fault t_text_c q2 hq) gX1_numberHere_X1_byteAt rfl rfl rfl ⟨rfl, by decide +kernel, by decide +kernel, by decide +kernel⟩ ⟨Nat.le_of_ble_eq_true rfl, Nat.le_of_ble_eq_true rfl⟩ ⟨Nat.le_of_ble_eq_true rfl, Nat.le_of_ble_eq_true rfl⟩ 1 0 rfl rfl rfl [.int x3, .ref t, .int (x2 * 10)] rfl (Nat.le_of_ble_eq_true rfl) dX1_numberHere_64 [0, 1] [] [0, 1] (fun q2 => [(t, .inr (1, [.ref t_text, .int t_size, .int t_token, .int t_start, .int t_end, .int t_fault])), (t_text, .inl ((xT X) 0, 200, .inl t_text_c))]) rfl rfl (by decide) (by decide) (by decide) (fun _ => rfl) (by decide) (fun q2 => [.int q2, .int (x2 * 10)]) (fun _ => rfl) (fun q2 => ?_)
    refine s_iadd C dX1_numberHere_67 ?_
    refine s_bipush C 48 dX1_numberHere_68 (by decide) ?_
    refine s_isub C dX1_numberHere_70 ?_
    refine s_nmi (fun y3 => ?_)
    refine s_istore_n C [(2, .int y3), (0, .ref t), (3, .int x3)] dX1_numberHere_71 rfl (by decide) rfl ?_
    refine s_iinc C [(3, .int (x3 + 1)), (2, .int y3), (0, .ref t)] 2 dX1_numberHere_72 rfl (congrArg (fun z => x3 + z) (show Int32.ofInt 1 = 1 by decide)) (by decide) rfl ?_
    refine s_goto C 50 dX1_numberHere_75 (by decide) ?_
    refine s_lv [2, 1, 0] (lv' := [(0, .ref t), (2, .int y3), (3, .int (x3 + 1))]) rfl ?_
    exact hrec50 y3 (x3 + 1)
noncomputable def X1_numberHere_j43  (t_start : Int32) (t_end : Int32) (t_text_c : Nat → Int32) : Option (Int32) :=
  lpN (fun (rec : Int32 × Int32 → Option (Int32)) (s : Int32 × Int32) => X1_numberHere_f50 t_end t_text_c (fun e4 => some e4) (fun r0 r1 => rec (r0, r1)) s.1 s.2) fz (0, t_start)
set_option maxHeartbeats 4000000 in
theorem bX1_numberHere_j43 {X : KX} {Qf : Int32 → State → Prop} {t : Nat} {t_text : Nat} {t_size : Int32} {t_token : Int32} {t_start : Int32} {t_end : Int32} {t_fault : Int32} {t_text_c : Nat → Int32} (C : Cx X cX1_numberHere RX1 wsX1_numberHere 4 { frames := 1, cells := 0, slots := 0, locals := 21 }) (hR : RtI X Qf cX1_numberHere 4 (fun q => some (.int q)) (w1_X1_numberHere (xT X) t t_text t_size t_token t_start t_end t_fault t_text_c))  : Sim X Qf 0 0 4 (X1_numberHere_j43 t_start t_end t_text_c) [(t, .inr (1, [.ref t_text, .int t_size, .int t_token, .int t_start, .int t_end, .int t_fault])), (t_text, .inl ((xT X) 0, 200, .inl t_text_c))] 43 [(0, .ref t)] [] := by
  unfold X1_numberHere_j43
  refine s_iconst C 0 dX1_numberHere_43 (by decide) ?_
  refine s_istore_n C [(2, .int 0), (0, .ref t)] dX1_numberHere_44 rfl (by decide) rfl ?_
  refine s_aload_n C 1 dX1_numberHere_45 rfl rfl ?_
  refine s_get C iX1_numberHere_X1 0 rfl rfl 3 (by decide) kX1_numberHere_106 (.int t_start) rfl dX1_numberHere_46 ?_
  refine s_istore_n C [(3, .int t_start), (2, .int 0), (0, .ref t)] dX1_numberHere_49 rfl (by decide) rfl ?_
  refine s_lv [2, 1, 0] (lv' := [(0, .ref t), (2, .int 0), (3, .int t_start)]) rfl ?_
  refine s_loop (fun s : Int32 × Int32 => [(t, .inr (1, [.ref t_text, .int t_size, .int t_token, .int t_start, .int t_end, .int t_fault])), (t_text, .inl ((xT X) 0, 200, .inl t_text_c))]) (fun s : Int32 × Int32 => [(0, .ref t), (2, .int s.1), (3, .int s.2)]) (fun rec hrec s => ?_) fz (0, t_start)
  refine bX1_numberHere_f50 C hR _ (fun e4 => ?_) (fun r0 r1 => rec (r0, r1)) (fun r0 r1 => hrec (r0, r1)) s.1 s.2
  · refine s_iload_n C 0 dX1_numberHere_78 rfl rfl ?_
    exact s_retI hR e4 rfl rfl dX1_numberHere_79
noncomputable def m_X1_numberHere (t_token : Int32) (t_start : Int32) (t_end : Int32) (t_text_c : Nat → Int32) : Option (Int32) :=
  nm (t_end - t_start) (fun y1 => if t_token = 2 then (if 2 < y1 then (some (-1)) else (if y1 = 2 then ((m_X1_byteAt t_start t_text_c).bind (fun q5 => if q5 = 48 then (some (-1)) else (X1_numberHere_j43 t_start t_end t_text_c))) else (X1_numberHere_j43 t_start t_end t_text_c))) else (some (-1)))
set_option maxHeartbeats 4000000 in
theorem b_X1_numberHere {X : KX} {Qf : Int32 → State → Prop} {t : Nat} {t_text : Nat} {t_size : Int32} {t_token : Int32} {t_start : Int32} {t_end : Int32} {t_fault : Int32} {t_text_c : Nat → Int32} (C : Cx X cX1_numberHere RX1 wsX1_numberHere 4 { frames := 1, cells := 0, slots := 0, locals := 21 }) (hR : RtI X Qf cX1_numberHere 4 (fun q => some (.int q)) (w1_X1_numberHere (xT X) t t_text t_size t_token t_start t_end t_fault t_text_c)) : Sim X Qf 0 0 4 (m_X1_numberHere t_token t_start t_end t_text_c) [(t, .inr (1, [.ref t_text, .int t_size, .int t_token, .int t_start, .int t_end, .int t_fault])), (t_text, .inl ((xT X) 0, 200, .inl t_text_c))] 0 [(0, .ref t)] [] := by
  unfold m_X1_numberHere
  refine s_aload_n C 0 dX1_numberHere_0 rfl rfl ?_
  refine s_get C iX1_numberHere_X1 0 rfl rfl 4 (by decide) kX1_numberHere_25 (.int t_end) rfl dX1_numberHere_1 ?_
  refine s_aload_n C 0 dX1_numberHere_4 rfl rfl ?_
  refine s_get C iX1_numberHere_X1 0 rfl rfl 3 (by decide) kX1_numberHere_106 (.int t_start) rfl dX1_numberHere_5 ?_
  refine s_isub C dX1_numberHere_8 ?_
  refine s_nmi (fun y1 => ?_)
  refine s_istore_n C [(1, .int y1), (0, .ref t)] dX1_numberHere_9 rfl (by decide) rfl ?_
  refine s_aload_n C 1 dX1_numberHere_10 rfl rfl ?_
  refine s_get C iX1_numberHere_X1 0 rfl rfl 2 (by decide) kX1_numberHere_34 (.int t_token) rfl dX1_numberHere_11 ?_
  refine s_iconst C 2 dX1_numberHere_14 (by decide) ?_
  refine s_icmp_ne C 41 dX1_numberHere_15 (by decide) ?_ ?_
  · refine s_iconst C (-1) dX1_numberHere_41 (by decide) ?_
    exact s_retI hR (-1) rfl rfl dX1_numberHere_42
  · refine s_iload_n C 0 dX1_numberHere_18 rfl rfl ?_
    refine s_iconst C 2 dX1_numberHere_19 (by decide) ?_
    refine s_icmp_gt C 41 dX1_numberHere_20 (by decide) ?_ ?_
    · refine s_iconst C (-1) dX1_numberHere_41 (by decide) ?_
      exact s_retI hR (-1) rfl rfl dX1_numberHere_42
    · refine s_iload_n C 0 dX1_numberHere_23 rfl rfl ?_
      refine s_iconst C 2 dX1_numberHere_24 (by decide) ?_
      refine s_icmp_ne C 43 dX1_numberHere_25 (by decide) ?_ ?_
      · refine s_lv [1] (lv' := [(0, .ref t)]) rfl ?_
        exact bX1_numberHere_j43 C hR
      · refine s_aload_n C 1 dX1_numberHere_28 rfl rfl ?_
        refine s_aload_n C 1 dX1_numberHere_29 rfl rfl ?_
        refine s_get C iX1_numberHere_X1 0 rfl rfl 3 (by decide) kX1_numberHere_106 (.int t_start) rfl dX1_numberHere_30 ?_
        refine s_callV (n := 1) C [.int t_start] _ _ _ (fun q5 hq => c_X1_byteAt (xL X) (xD X) (xT X) t_start t t_text t_size t_token t_start t_end t_fault t_text_c q5 hq) gX1_numberHere_X1_byteAt rfl rfl rfl ⟨rfl, by decide +kernel, by decide +kernel, by decide +kernel⟩ ⟨Nat.le_of_ble_eq_true rfl, Nat.le_of_ble_eq_true rfl⟩ ⟨Nat.le_of_ble_eq_true rfl, Nat.le_of_ble_eq_true rfl⟩ 1 0 rfl rfl rfl [.int t_start, .ref t] rfl (Nat.le_of_ble_eq_true rfl) dX1_numberHere_33 [0, 1] [] [0, 1] (fun q5 => [(t, .inr (1, [.ref t_text, .int t_size, .int t_token, .int t_start, .int t_end, .int t_fault])), (t_text, .inl ((xT X) 0, 200, .inl t_text_c))]) rfl rfl (by decide) (by decide) (by decide) (fun _ => rfl) (by decide) (fun q5 => [.int q5]) (fun _ => rfl) (fun q5 => ?_)
        refine s_bipush C 48 dX1_numberHere_36 (by decide) ?_
        refine s_icmp_ne C 43 dX1_numberHere_38 (by decide) ?_ ?_
        · refine s_lv [1] (lv' := [(0, .ref t)]) rfl ?_
          exact bX1_numberHere_j43 C hR
        · refine s_iconst C (-1) dX1_numberHere_41 (by decide) ?_
          exact s_retI hR (-1) rfl rfl dX1_numberHere_42
theorem c_X1_numberHere (l : Launch) (D : va_G) (T : Nat → ClassId) (t : Nat) (t_text : Nat) (t_size : Int32) (t_token : Int32) (t_start : Int32) (t_end : Int32) (t_fault : Int32) (t_text_c : Nat → Int32) : ∀ q : Int32, m_X1_numberHere t_token t_start t_end t_text_c = some q → Ct l yX1_numberHere wsX1_numberHere { frames := 1, cells := 0, slots := 0, locals := 21 } [.ref t] D T [(t, .inr (1, [.ref t_text, .int t_size, .int t_token, .int t_start, .int t_end, .int t_fault])), (t_text, .inl (T 0, 200, .inl t_text_c))] ((fun q => some (.int q)) q) (w1_X1_numberHere T t t_text t_size t_token t_start t_end t_fault t_text_c q) := by
  refine ct_I (by decide) rfl (Nat.le_of_ble_eq_true rfl) (m_X1_numberHere t_token t_start t_end t_text_c) (fun q => some (.int q)) (w1_X1_numberHere T t t_text t_size t_token t_start t_end t_fault t_text_c) ?_
  intro X Qf hL hD hT C hR
  subst hT
  exact b_X1_numberHere C hR
theorem iX1_fail_X1 : ∀ w ∈ u_ws RX1 TX1 6, w ∈ wsX1_fail := by decide +kernel
theorem kX1_fail_106 : Cond.fieldLink RX1 106 "NineCats$Reader" "start" "I" ∈ wsX1_fail := by decide +kernel
theorem kX1_fail_28 : Cond.fieldLink RX1 28 "NineCats$Reader" "fault" "I" ∈ wsX1_fail := by decide +kernel
abbrev w1_X1_fail (T : Nat → ClassId) (t : Nat) (t_text : Value) (t_size : Int32) (t_token : Int32) (t_start : Int32) (t_end : Int32) (q : Int32) : va_W := [(t, .inr (1, [t_text, .int t_size, .int t_token, .int t_start, .int t_end, .int q]))]
noncomputable def m_X1_fail (t_start : Int32) (t_fault : Int32) : Option (Int32) :=
  if t_fault = (-1) then (some t_start) else (some t_fault)
set_option maxHeartbeats 4000000 in
theorem b_X1_fail {X : KX} {Qf : Int32 → State → Prop} {t : Nat} {t_text : Value} {t_size : Int32} {t_token : Int32} {t_start : Int32} {t_end : Int32} {t_fault : Int32} (C : Cx X cX1_fail RX1 wsX1_fail 1 { frames := 0, cells := 0, slots := 0, locals := 0 }) (hR : RtV X Qf cX1_fail 1 (fun _ => none) (w1_X1_fail (xT X) t t_text t_size t_token t_start t_end)) : Sim X Qf 0 0 1 (m_X1_fail t_start t_fault) [(t, .inr (1, [t_text, .int t_size, .int t_token, .int t_start, .int t_end, .int t_fault]))] 0 [(0, .ref t)] [] := by
  unfold m_X1_fail
  refine s_aload_n C 0 dX1_fail_0 rfl rfl ?_
  refine s_get C iX1_fail_X1 0 rfl rfl 5 (by decide) kX1_fail_28 (.int t_fault) rfl dX1_fail_1 ?_
  refine s_iconst C (-1) dX1_fail_4 (by decide) ?_
  refine s_icmp_ne C 16 dX1_fail_5 (by decide) ?_ ?_
  · exact s_retV hR t_fault rfl rfl dX1_fail_16
  · refine s_aload_n C 0 dX1_fail_8 rfl rfl ?_
    refine s_aload_n C 0 dX1_fail_9 rfl rfl ?_
    refine s_get C iX1_fail_X1 0 rfl rfl 3 (by decide) kX1_fail_106 (.int t_start) rfl dX1_fail_10 ?_
    refine s_put C iX1_fail_X1 tyX1 tyX1_ok nmX1 0 rfl rfl 5 (by decide) kX1_fail_28 rfl .int (by decide +kernel) rfl rfl (Nat.le_of_ble_eq_true rfl) [(t, .inr (1, [t_text, .int t_size, .int t_token, .int t_start, .int t_end, .int t_start]))] rfl dX1_fail_13 ?_
    exact s_retV hR t_start rfl rfl dX1_fail_16
theorem c_X1_fail (l : Launch) (D : va_G) (T : Nat → ClassId) (t : Nat) (t_text : Value) (t_size : Int32) (t_token : Int32) (t_start : Int32) (t_end : Int32) (t_fault : Int32) : ∀ q : Int32, m_X1_fail t_start t_fault = some q → Ct l yX1_fail wsX1_fail { frames := 0, cells := 0, slots := 0, locals := 0 } [.ref t] D T [(t, .inr (1, [t_text, .int t_size, .int t_token, .int t_start, .int t_end, .int t_fault]))] ((fun _ => none) q) (w1_X1_fail T t t_text t_size t_token t_start t_end q) := by
  refine ct_V (by decide) rfl (Nat.le_of_ble_eq_true rfl) (m_X1_fail t_start t_fault) (fun _ => none) (w1_X1_fail T t t_text t_size t_token t_start t_end) ?_
  intro X Qf hL hD hT C hR
  subst hT
  exact b_X1_fail C hR
theorem iX1_takeNumber_X1 : ∀ w ∈ u_ws RX1 TX1 6, w ∈ wsX1_takeNumber := by decide +kernel
theorem kX1_takeNumber_28 : Cond.fieldLink RX1 28 "NineCats$Reader" "fault" "I" ∈ wsX1_takeNumber := by decide +kernel
abbrev w1_X1_takeNumber (T : Nat → ClassId) (t : Nat) (t_text : Nat) (t_size : Int32) (t_text_c : Nat → Int32) (q : Int32 × Int32 × Int32 × Int32 × Int32) : va_W := [(t, .inr (1, [.ref t_text, .int t_size, .int q.2.1, .int q.2.2.1, .int q.2.2.2.1, .int q.2.2.2.2])), (t_text, .inl (T 0, 200, .inl t_text_c))]
noncomputable def X1_takeNumber_j19  (x1 : Int32) (x3 : Int32) (t_size : Int32) (t_token : Int32) (t_start : Int32) (t_end : Int32) (t_fault : Int32) (t_text_c : Nat → Int32) : Option (Int32 × Int32 × Int32 × Int32 × Int32) :=
  if t_fault = (-1) then ((m_X1_takeToken t_size t_end t_text_c).bind (fun q3 => some (x3, q3.1, q3.2.1, q3.2.2, t_fault))) else (some (x1, t_token, t_start, t_end, t_fault))
set_option maxHeartbeats 4000000 in
theorem bX1_takeNumber_j19 {X : KX} {Qf : Int32 × Int32 × Int32 × Int32 × Int32 → State → Prop} {x1 : Int32} {x3 : Int32} {t : Nat} {t_text : Nat} {t_size : Int32} {t_token : Int32} {t_start : Int32} {t_end : Int32} {t_fault : Int32} {t_text_c : Nat → Int32} (C : Cx X cX1_takeNumber RX1 wsX1_takeNumber 4 { frames := 2, cells := 0, slots := 0, locals := 45 }) (hR : RtI X Qf cX1_takeNumber 4 (fun q => some (.int q.1)) (w1_X1_takeNumber (xT X) t t_text t_size t_text_c))  : Sim X Qf 0 0 4 (X1_takeNumber_j19 x1 x3 t_size t_token t_start t_end t_fault t_text_c) [(t, .inr (1, [.ref t_text, .int t_size, .int t_token, .int t_start, .int t_end, .int t_fault])), (t_text, .inl ((xT X) 0, 200, .inl t_text_c))] 19 [(0, .ref t), (1, .int x1), (3, .int x3)] [] := by
  unfold X1_takeNumber_j19
  refine s_aload_n C 0 dX1_takeNumber_19 rfl rfl ?_
  refine s_get C iX1_takeNumber_X1 0 rfl rfl 5 (by decide) kX1_takeNumber_28 (.int t_fault) rfl dX1_takeNumber_20 ?_
  refine s_iconst C (-1) dX1_takeNumber_23 (by decide) ?_
  refine s_icmp_eq C 29 dX1_takeNumber_24 (by decide) ?_ ?_
  · refine s_aload_n C 0 dX1_takeNumber_29 rfl rfl ?_
    refine s_callV (n := 0) C [] _ _ _ (fun q3 hq => c_X1_takeToken (xL X) (xD X) (xT X) t t_text t_size t_token t_start t_end t_fault t_text_c q3 hq) gX1_takeNumber_X1_takeToken rfl rfl rfl ⟨rfl, by decide +kernel, by decide +kernel, by decide +kernel⟩ ⟨Nat.le_of_ble_eq_true rfl, Nat.le_of_ble_eq_true rfl⟩ ⟨Nat.le_of_ble_eq_true rfl, Nat.le_of_ble_eq_true rfl⟩ 1 0 rfl rfl rfl [.ref t] rfl (Nat.le_of_ble_eq_true rfl) dX1_takeNumber_30 [0, 1] [] [0, 1] (fun q3 => [(t, .inr (1, [.ref t_text, .int t_size, .int q3.1, .int q3.2.1, .int q3.2.2, .int t_fault])), (t_text, .inl ((xT X) 0, 200, .inl t_text_c))]) rfl rfl (by decide) (by decide) (by decide) (fun _ => rfl) (by decide) (fun q3 => []) (fun _ => rfl) (fun q3 => ?_)
    refine s_iload_n C 2 dX1_takeNumber_33 rfl rfl ?_
    exact s_retI hR (x3, q3.1, q3.2.1, q3.2.2, t_fault) rfl rfl dX1_takeNumber_34
  · refine s_iload_n C 1 dX1_takeNumber_27 rfl rfl ?_
    exact s_retI hR (x1, t_token, t_start, t_end, t_fault) rfl rfl dX1_takeNumber_28
noncomputable def X1_takeNumber_j15  (x1 : Int32) (x3 : Int32) (t_size : Int32) (t_token : Int32) (t_start : Int32) (t_end : Int32) (t_fault : Int32) (t_text_c : Nat → Int32) : Option (Int32 × Int32 × Int32 × Int32 × Int32) :=
  (m_X1_fail t_start t_fault).bind (fun q2 => X1_takeNumber_j19 x1 x3 t_size t_token t_start t_end q2 t_text_c)
set_option maxHeartbeats 4000000 in
theorem bX1_takeNumber_j15 {X : KX} {Qf : Int32 × Int32 × Int32 × Int32 × Int32 → State → Prop} {x1 : Int32} {x3 : Int32} {t : Nat} {t_text : Nat} {t_size : Int32} {t_token : Int32} {t_start : Int32} {t_end : Int32} {t_fault : Int32} {t_text_c : Nat → Int32} (C : Cx X cX1_takeNumber RX1 wsX1_takeNumber 4 { frames := 2, cells := 0, slots := 0, locals := 45 }) (hR : RtI X Qf cX1_takeNumber 4 (fun q => some (.int q.1)) (w1_X1_takeNumber (xT X) t t_text t_size t_text_c))  : Sim X Qf 0 0 4 (X1_takeNumber_j15 x1 x3 t_size t_token t_start t_end t_fault t_text_c) [(t, .inr (1, [.ref t_text, .int t_size, .int t_token, .int t_start, .int t_end, .int t_fault])), (t_text, .inl ((xT X) 0, 200, .inl t_text_c))] 15 [(0, .ref t), (1, .int x1), (3, .int x3)] [] := by
  unfold X1_takeNumber_j15
  refine s_aload_n C 0 dX1_takeNumber_15 rfl rfl ?_
  refine s_callV (n := 0) C [] _ _ _ (fun q2 hq => c_X1_fail (xL X) (xD X) (xT X) t (.ref t_text) t_size t_token t_start t_end t_fault q2 hq) gX1_takeNumber_X1_fail rfl rfl rfl ⟨rfl, by decide +kernel, by decide +kernel, by decide +kernel⟩ ⟨Nat.le_of_ble_eq_true rfl, Nat.le_of_ble_eq_true rfl⟩ ⟨Nat.le_of_ble_eq_true rfl, Nat.le_of_ble_eq_true rfl⟩ 1 0 rfl rfl rfl [.ref t] rfl (Nat.le_of_ble_eq_true rfl) dX1_takeNumber_16 [0] [1] [1, 0] (fun q2 => [(t, .inr (1, [.ref t_text, .int t_size, .int t_token, .int t_start, .int t_end, .int q2])), (t_text, .inl ((xT X) 0, 200, .inl t_text_c))]) rfl rfl (by decide) (by decide) (by decide) (fun _ => rfl) (by decide) (fun q2 => []) (fun _ => rfl) (fun q2 => ?_)
  exact bX1_takeNumber_j19 C hR
noncomputable def m_X1_takeNumber (x1 : Int32) (x2 : Int32) (t_size : Int32) (t_token : Int32) (t_start : Int32) (t_end : Int32) (t_fault : Int32) (t_text_c : Nat → Int32) : Option (Int32 × Int32 × Int32 × Int32 × Int32) :=
  (m_X1_numberHere t_token t_start t_end t_text_c).bind (fun q1 => if q1 < x1 then (X1_takeNumber_j15 x1 q1 t_size t_token t_start t_end t_fault t_text_c) else (if q1 ≤ x2 then (X1_takeNumber_j19 x1 q1 t_size t_token t_start t_end t_fault t_text_c) else (X1_takeNumber_j15 x1 q1 t_size t_token t_start t_end t_fault t_text_c)))
set_option maxHeartbeats 4000000 in
theorem b_X1_takeNumber {X : KX} {Qf : Int32 × Int32 × Int32 × Int32 × Int32 → State → Prop} {x1 : Int32} {x2 : Int32} {t : Nat} {t_text : Nat} {t_size : Int32} {t_token : Int32} {t_start : Int32} {t_end : Int32} {t_fault : Int32} {t_text_c : Nat → Int32} (C : Cx X cX1_takeNumber RX1 wsX1_takeNumber 4 { frames := 2, cells := 0, slots := 0, locals := 45 }) (hR : RtI X Qf cX1_takeNumber 4 (fun q => some (.int q.1)) (w1_X1_takeNumber (xT X) t t_text t_size t_text_c)) : Sim X Qf 0 0 4 (m_X1_takeNumber x1 x2 t_size t_token t_start t_end t_fault t_text_c) [(t, .inr (1, [.ref t_text, .int t_size, .int t_token, .int t_start, .int t_end, .int t_fault])), (t_text, .inl ((xT X) 0, 200, .inl t_text_c))] 0 [(0, .ref t), (1, .int x1), (2, .int x2)] [] := by
  unfold m_X1_takeNumber
  refine s_aload_n C 0 dX1_takeNumber_0 rfl rfl ?_
  refine s_callV (n := 0) C [] _ _ _ (fun q1 hq => c_X1_numberHere (xL X) (xD X) (xT X) t t_text t_size t_token t_start t_end t_fault t_text_c q1 hq) gX1_takeNumber_X1_numberHere rfl rfl rfl ⟨rfl, by decide +kernel, by decide +kernel, by decide +kernel⟩ ⟨Nat.le_of_ble_eq_true rfl, Nat.le_of_ble_eq_true rfl⟩ ⟨Nat.le_of_ble_eq_true rfl, Nat.le_of_ble_eq_true rfl⟩ 1 0 rfl rfl rfl [.ref t] rfl (Nat.le_of_ble_eq_true rfl) dX1_takeNumber_1 [0, 1] [] [0, 1] (fun q1 => [(t, .inr (1, [.ref t_text, .int t_size, .int t_token, .int t_start, .int t_end, .int t_fault])), (t_text, .inl ((xT X) 0, 200, .inl t_text_c))]) rfl rfl (by decide) (by decide) (by decide) (fun _ => rfl) (by decide) (fun q1 => [.int q1]) (fun _ => rfl) (fun q1 => ?_)
  refine s_istore_n C [(3, .int q1), (0, .ref t), (1, .int x1), (2, .int x2)] dX1_takeNumber_4 rfl (by decide) rfl ?_
  refine s_iload_n C 0 dX1_takeNumber_5 rfl rfl ?_
  refine s_iload_n C 2 dX1_takeNumber_6 rfl rfl ?_
  refine s_icmp_lt C 15 dX1_takeNumber_7 (by decide) ?_ ?_
  · refine s_lv [1, 2, 0] (lv' := [(0, .ref t), (1, .int x1), (3, .int q1)]) rfl ?_
    exact bX1_takeNumber_j15 C hR
  · refine s_iload_n C 0 dX1_takeNumber_10 rfl rfl ?_
    refine s_iload_n C 3 dX1_takeNumber_11 rfl rfl ?_
    refine s_icmp_le C 19 dX1_takeNumber_12 (by decide) ?_ ?_
    · refine s_lv [1, 2, 0] (lv' := [(0, .ref t), (1, .int x1), (3, .int q1)]) rfl ?_
      exact bX1_takeNumber_j19 C hR
    · refine s_lv [1, 2, 0] (lv' := [(0, .ref t), (1, .int x1), (3, .int q1)]) rfl ?_
      exact bX1_takeNumber_j15 C hR
theorem c_X1_takeNumber (l : Launch) (D : va_G) (T : Nat → ClassId) (x1 : Int32) (x2 : Int32) (t : Nat) (t_text : Nat) (t_size : Int32) (t_token : Int32) (t_start : Int32) (t_end : Int32) (t_fault : Int32) (t_text_c : Nat → Int32) : ∀ q : Int32 × Int32 × Int32 × Int32 × Int32, m_X1_takeNumber x1 x2 t_size t_token t_start t_end t_fault t_text_c = some q → Ct l yX1_takeNumber wsX1_takeNumber { frames := 2, cells := 0, slots := 0, locals := 45 } [.ref t, .int x1, .int x2] D T [(t, .inr (1, [.ref t_text, .int t_size, .int t_token, .int t_start, .int t_end, .int t_fault])), (t_text, .inl (T 0, 200, .inl t_text_c))] ((fun q => some (.int q.1)) q) (w1_X1_takeNumber T t t_text t_size t_text_c q) := by
  refine ct_I (by decide) rfl (Nat.le_of_ble_eq_true rfl) (m_X1_takeNumber x1 x2 t_size t_token t_start t_end t_fault t_text_c) (fun q => some (.int q.1)) (w1_X1_takeNumber T t t_text t_size t_text_c) ?_
  intro X Qf hL hD hT C hR
  subst hT
  exact b_X1_takeNumber C hR
theorem iX1_takeStop_X1 : ∀ w ∈ u_ws RX1 TX1 6, w ∈ wsX1_takeStop := by decide +kernel
theorem kX1_takeStop_28 : Cond.fieldLink RX1 28 "NineCats$Reader" "fault" "I" ∈ wsX1_takeStop := by decide +kernel
theorem kX1_takeStop_34 : Cond.fieldLink RX1 34 "NineCats$Reader" "token" "I" ∈ wsX1_takeStop := by decide +kernel
abbrev w1_X1_takeStop (T : Nat → ClassId) (t : Nat) (t_text : Nat) (t_size : Int32) (t_text_c : Nat → Int32) (q : Int32 × Int32 × Int32 × Int32) : va_W := [(t, .inr (1, [.ref t_text, .int t_size, .int q.1, .int q.2.1, .int q.2.2.1, .int q.2.2.2])), (t_text, .inl (T 0, 200, .inl t_text_c))]
noncomputable def X1_takeStop_j12  (t_size : Int32) (t_token : Int32) (t_start : Int32) (t_end : Int32) (t_fault : Int32) (t_text_c : Nat → Int32) : Option (Int32 × Int32 × Int32 × Int32) :=
  if t_fault = (-1) then ((m_X1_takeToken t_size t_end t_text_c).bind (fun q1 => some (q1.1, q1.2.1, q1.2.2, t_fault))) else (some (t_token, t_start, t_end, t_fault))
set_option maxHeartbeats 4000000 in
theorem bX1_takeStop_j12 {X : KX} {Qf : Int32 × Int32 × Int32 × Int32 → State → Prop} {t : Nat} {t_text : Nat} {t_size : Int32} {t_token : Int32} {t_start : Int32} {t_end : Int32} {t_fault : Int32} {t_text_c : Nat → Int32} (C : Cx X cX1_takeStop RX1 wsX1_takeStop 1 { frames := 2, cells := 0, slots := 0, locals := 45 }) (hR : RtV X Qf cX1_takeStop 1 (fun _ => none) (w1_X1_takeStop (xT X) t t_text t_size t_text_c))  : Sim X Qf 0 0 1 (X1_takeStop_j12 t_size t_token t_start t_end t_fault t_text_c) [(t, .inr (1, [.ref t_text, .int t_size, .int t_token, .int t_start, .int t_end, .int t_fault])), (t_text, .inl ((xT X) 0, 200, .inl t_text_c))] 12 [(0, .ref t)] [] := by
  unfold X1_takeStop_j12
  refine s_aload_n C 0 dX1_takeStop_12 rfl rfl ?_
  refine s_get C iX1_takeStop_X1 0 rfl rfl 5 (by decide) kX1_takeStop_28 (.int t_fault) rfl dX1_takeStop_13 ?_
  refine s_iconst C (-1) dX1_takeStop_16 (by decide) ?_
  refine s_icmp_ne C 24 dX1_takeStop_17 (by decide) ?_ ?_
  · exact s_retV hR (t_token, t_start, t_end, t_fault) rfl rfl dX1_takeStop_24
  · refine s_aload_n C 0 dX1_takeStop_20 rfl rfl ?_
    refine s_callV (n := 0) C [] _ _ _ (fun q1 hq => c_X1_takeToken (xL X) (xD X) (xT X) t t_text t_size t_token t_start t_end t_fault t_text_c q1 hq) gX1_takeStop_X1_takeToken rfl rfl rfl ⟨rfl, by decide +kernel, by decide +kernel, by decide +kernel⟩ ⟨Nat.le_of_ble_eq_true rfl, Nat.le_of_ble_eq_true rfl⟩ ⟨Nat.le_of_ble_eq_true rfl, Nat.le_of_ble_eq_true rfl⟩ 1 0 rfl rfl rfl [.ref t] rfl (Nat.le_of_ble_eq_true rfl) dX1_takeStop_21 [0, 1] [] [0, 1] (fun q1 => [(t, .inr (1, [.ref t_text, .int t_size, .int q1.1, .int q1.2.1, .int q1.2.2, .int t_fault])), (t_text, .inl ((xT X) 0, 200, .inl t_text_c))]) rfl rfl (by decide) (by decide) (by decide) (fun _ => rfl) (by decide) (fun q1 => []) (fun _ => rfl) (fun q1 => ?_)
    exact s_retV hR (q1.1, q1.2.1, q1.2.2, t_fault) rfl rfl dX1_takeStop_24
noncomputable def m_X1_takeStop (t_size : Int32) (t_token : Int32) (t_start : Int32) (t_end : Int32) (t_fault : Int32) (t_text_c : Nat → Int32) : Option (Int32 × Int32 × Int32 × Int32) :=
  if t_token = 3 then (X1_takeStop_j12 t_size t_token t_start t_end t_fault t_text_c) else ((m_X1_fail t_start t_fault).bind (fun q2 => X1_takeStop_j12 t_size t_token t_start t_end q2 t_text_c))
set_option maxHeartbeats 4000000 in
theorem b_X1_takeStop {X : KX} {Qf : Int32 × Int32 × Int32 × Int32 → State → Prop} {t : Nat} {t_text : Nat} {t_size : Int32} {t_token : Int32} {t_start : Int32} {t_end : Int32} {t_fault : Int32} {t_text_c : Nat → Int32} (C : Cx X cX1_takeStop RX1 wsX1_takeStop 1 { frames := 2, cells := 0, slots := 0, locals := 45 }) (hR : RtV X Qf cX1_takeStop 1 (fun _ => none) (w1_X1_takeStop (xT X) t t_text t_size t_text_c)) : Sim X Qf 0 0 1 (m_X1_takeStop t_size t_token t_start t_end t_fault t_text_c) [(t, .inr (1, [.ref t_text, .int t_size, .int t_token, .int t_start, .int t_end, .int t_fault])), (t_text, .inl ((xT X) 0, 200, .inl t_text_c))] 0 [(0, .ref t)] [] := by
  unfold m_X1_takeStop
  refine s_aload_n C 0 dX1_takeStop_0 rfl rfl ?_
  refine s_get C iX1_takeStop_X1 0 rfl rfl 2 (by decide) kX1_takeStop_34 (.int t_token) rfl dX1_takeStop_1 ?_
  refine s_iconst C 3 dX1_takeStop_4 (by decide) ?_
  refine s_icmp_eq C 12 dX1_takeStop_5 (by decide) ?_ ?_
  · exact bX1_takeStop_j12 C hR
  · refine s_aload_n C 0 dX1_takeStop_8 rfl rfl ?_
    refine s_callV (n := 0) C [] _ _ _ (fun q2 hq => c_X1_fail (xL X) (xD X) (xT X) t (.ref t_text) t_size t_token t_start t_end t_fault q2 hq) gX1_takeStop_X1_fail rfl rfl rfl ⟨rfl, by decide +kernel, by decide +kernel, by decide +kernel⟩ ⟨Nat.le_of_ble_eq_true rfl, Nat.le_of_ble_eq_true rfl⟩ ⟨Nat.le_of_ble_eq_true rfl, Nat.le_of_ble_eq_true rfl⟩ 1 0 rfl rfl rfl [.ref t] rfl (Nat.le_of_ble_eq_true rfl) dX1_takeStop_9 [0] [1] [1, 0] (fun q2 => [(t, .inr (1, [.ref t_text, .int t_size, .int t_token, .int t_start, .int t_end, .int q2])), (t_text, .inl ((xT X) 0, 200, .inl t_text_c))]) rfl rfl (by decide) (by decide) (by decide) (fun _ => rfl) (by decide) (fun q2 => []) (fun _ => rfl) (fun q2 => ?_)
    exact bX1_takeStop_j12 C hR
theorem c_X1_takeStop (l : Launch) (D : va_G) (T : Nat → ClassId) (t : Nat) (t_text : Nat) (t_size : Int32) (t_token : Int32) (t_start : Int32) (t_end : Int32) (t_fault : Int32) (t_text_c : Nat → Int32) : ∀ q : Int32 × Int32 × Int32 × Int32, m_X1_takeStop t_size t_token t_start t_end t_fault t_text_c = some q → Ct l yX1_takeStop wsX1_takeStop { frames := 2, cells := 0, slots := 0, locals := 45 } [.ref t] D T [(t, .inr (1, [.ref t_text, .int t_size, .int t_token, .int t_start, .int t_end, .int t_fault])), (t_text, .inl (T 0, 200, .inl t_text_c))] ((fun _ => none) q) (w1_X1_takeStop T t t_text t_size t_text_c q) := by
  refine ct_V (by decide) rfl (Nat.le_of_ble_eq_true rfl) (m_X1_takeStop t_size t_token t_start t_end t_fault t_text_c) (fun _ => none) (w1_X1_takeStop T t t_text t_size t_text_c) ?_
  intro X Qf hL hD hT C hR
  subst hT
  exact b_X1_takeStop C hR
theorem iX1_readCat_X0 : ∀ w ∈ u_ws RX0 TX0 12, w ∈ wsX1_readCat := by decide +kernel
theorem kX1_readCat_99 : Cond.fieldLink RX1 99 "NineCats$Plan" "cats" "I" ∈ wsX1_readCat := by decide +kernel
abbrev w1_X1_readCat (T : Nat → ClassId) (t : Nat) (p1 : Nat) (t_text : Nat) (t_size : Int32) (t_text_c : Nat → Int32) (p1_length : Int32) (p1_width : Int32) (p1_sunFirst : Int32) (p1_pace : Int32) (p1_nose : Int32) (p1_bridgeMay : Int32) (p1_sunMay : Int32) (p1_noseMay : Int32) (p1_starts : Nat) (p1_habits : Nat) (p1_leaders : Nat) (q : Int32 × Int32 × Int32 × Int32 × Int32 × (Nat → Int32) × (Nat → Int32) × (Nat → Int32)) : va_W := [(t, .inr (1, [.ref t_text, .int t_size, .int q.1, .int q.2.1, .int q.2.2.1, .int q.2.2.2.1])), (t_text, .inl (T 0, 200, .inl t_text_c)), (p1, .inr (0, [.int p1_length, .int p1_width, .int p1_sunFirst, .int p1_pace, .int p1_nose, .int q.2.2.2.2.1, .int p1_bridgeMay, .int p1_sunMay, .int p1_noseMay, .ref p1_starts, .ref p1_habits, .ref p1_leaders])), (p1_starts, .inl (T 1, 5, .inl q.2.2.2.2.2.1)), (p1_habits, .inl (T 1, 5, .inl q.2.2.2.2.2.2.1)), (p1_leaders, .inl (T 1, 5, .inl q.2.2.2.2.2.2.2))]
noncomputable def X1_readCat_j48  (x2 : Int32) (x3 : Int32) (z0 : Int32) (t_token : Int32) (t_start : Int32) (t_end : Int32) (t_fault : Int32) (p1_cats : Int32) (p1_starts_c : Nat → Int32) (p1_habits_c : Nat → Int32) (p1_leaders_c : Nat → Int32) : Option (Int32 × Int32 × Int32 × Int32 × Int32 × (Nat → Int32) × (Nat → Int32) × (Nat → Int32)) :=
  (m_X0_addCat x3 x2 z0 p1_cats p1_starts_c p1_habits_c p1_leaders_c).bind (fun q5 => some (t_token, t_start, t_end, t_fault, q5.1, q5.2.1, q5.2.2.1, q5.2.2.2))
set_option maxHeartbeats 4000000 in
theorem bX1_readCat_j48 {X : KX} {Qf : Int32 × Int32 × Int32 × Int32 × Int32 × (Nat → Int32) × (Nat → Int32) × (Nat → Int32) → State → Prop} {x2 : Int32} {x3 : Int32} {z0 : Int32} {t : Nat} {p1 : Nat} {t_text : Nat} {t_size : Int32} {t_token : Int32} {t_start : Int32} {t_end : Int32} {t_fault : Int32} {t_text_c : Nat → Int32} {p1_length : Int32} {p1_width : Int32} {p1_sunFirst : Int32} {p1_pace : Int32} {p1_nose : Int32} {p1_cats : Int32} {p1_bridgeMay : Int32} {p1_sunMay : Int32} {p1_noseMay : Int32} {p1_starts : Nat} {p1_habits : Nat} {p1_leaders : Nat} {p1_starts_c : Nat → Int32} {p1_habits_c : Nat → Int32} {p1_leaders_c : Nat → Int32} (C : Cx X cX1_readCat RX1 wsX1_readCat 5 { frames := 3, cells := 0, slots := 0, locals := 68 }) (hR : RtV X Qf cX1_readCat 5 (fun _ => none) (w1_X1_readCat (xT X) t p1 t_text t_size t_text_c p1_length p1_width p1_sunFirst p1_pace p1_nose p1_bridgeMay p1_sunMay p1_noseMay p1_starts p1_habits p1_leaders))  : Sim X Qf 0 0 5 (X1_readCat_j48 x2 x3 z0 t_token t_start t_end t_fault p1_cats p1_starts_c p1_habits_c p1_leaders_c) [(t, .inr (1, [.ref t_text, .int t_size, .int t_token, .int t_start, .int t_end, .int t_fault])), (t_text, .inl ((xT X) 0, 200, .inl t_text_c)), (p1, .inr (0, [.int p1_length, .int p1_width, .int p1_sunFirst, .int p1_pace, .int p1_nose, .int p1_cats, .int p1_bridgeMay, .int p1_sunMay, .int p1_noseMay, .ref p1_starts, .ref p1_habits, .ref p1_leaders])), (p1_starts, .inl ((xT X) 1, 5, .inl p1_starts_c)), (p1_habits, .inl ((xT X) 1, 5, .inl p1_habits_c)), (p1_leaders, .inl ((xT X) 1, 5, .inl p1_leaders_c))] 48 [(1, .ref p1), (2, .int x2), (3, .int x3)] [.int z0] := by
  unfold X1_readCat_j48
  refine s_istore C [(4, .int z0), (1, .ref p1), (2, .int x2), (3, .int x3)] dX1_readCat_48 (by decide) rfl ?_
  refine s_aload_n C 1 dX1_readCat_50 rfl rfl ?_
  refine s_iload_n C 3 dX1_readCat_51 rfl rfl ?_
  refine s_iload_n C 2 dX1_readCat_52 rfl rfl ?_
  refine s_iload C 0 dX1_readCat_53 rfl ?_
  refine s_callV (n := 3) C [.int x3, .int x2, .int z0] _ _ _ (fun q5 hq => c_X0_addCat (xL X) (xD X) (xT X) x3 x2 z0 p1 p1_length p1_width p1_sunFirst p1_pace p1_nose p1_cats p1_bridgeMay p1_sunMay p1_noseMay p1_starts p1_habits p1_leaders p1_starts_c p1_habits_c p1_leaders_c q5 hq) gX1_readCat_X0_addCat rfl rfl rfl ⟨rfl, by decide +kernel, by decide +kernel, by decide +kernel⟩ ⟨Nat.le_of_ble_eq_true rfl, Nat.le_of_ble_eq_true rfl⟩ ⟨Nat.le_of_ble_eq_true rfl, Nat.le_of_ble_eq_true rfl⟩ 0 2 rfl rfl rfl [.int z0, .int x2, .int x3, .ref p1] rfl (Nat.le_of_ble_eq_true rfl) dX1_readCat_55 [2, 3, 4, 5] [0, 1] [0, 1, 2, 3, 4, 5] (fun q5 => [(t, .inr (1, [.ref t_text, .int t_size, .int t_token, .int t_start, .int t_end, .int t_fault])), (t_text, .inl ((xT X) 0, 200, .inl t_text_c)), (p1, .inr (0, [.int p1_length, .int p1_width, .int p1_sunFirst, .int p1_pace, .int p1_nose, .int q5.1, .int p1_bridgeMay, .int p1_sunMay, .int p1_noseMay, .ref p1_starts, .ref p1_habits, .ref p1_leaders])), (p1_starts, .inl ((xT X) 1, 5, .inl q5.2.1)), (p1_habits, .inl ((xT X) 1, 5, .inl q5.2.2.1)), (p1_leaders, .inl ((xT X) 1, 5, .inl q5.2.2.2))]) rfl rfl (by decide) (by decide) (by decide) (fun _ => rfl) (by decide) (fun q5 => []) (fun _ => rfl) (fun q5 => ?_)
  exact s_retV hR (t_token, t_start, t_end, t_fault, q5.1, q5.2.1, q5.2.2.1, q5.2.2.2) rfl rfl dX1_readCat_58
noncomputable def X1_readCat_j15  (x2 : Int32) (t_size : Int32) (t_token : Int32) (t_start : Int32) (t_end : Int32) (t_fault : Int32) (t_text_c : Nat → Int32) (p1_length : Int32) (p1_width : Int32) (p1_cats : Int32) (p1_starts_c : Nat → Int32) (p1_habits_c : Nat → Int32) (p1_leaders_c : Nat → Int32) : Option (Int32 × Int32 × Int32 × Int32 × Int32 × (Nat → Int32) × (Nat → Int32) × (Nat → Int32)) :=
  (m_X0_cells p1_length p1_width).bind (fun q3 => (m_X1_takeNumber 0 (q3 - 1) t_size t_token t_start t_end t_fault t_text_c).bind (fun q4 => if x2 = 3 then ((m_X1_takeNumber 0 (p1_cats - 1) t_size q4.2.1 q4.2.2.1 q4.2.2.2.1 q4.2.2.2.2 t_text_c).bind (fun q6 => X1_readCat_j48 x2 q4.1 q6.1 q6.2.1 q6.2.2.1 q6.2.2.2.1 q6.2.2.2.2 p1_cats p1_starts_c p1_habits_c p1_leaders_c)) else (X1_readCat_j48 x2 q4.1 (-9) q4.2.1 q4.2.2.1 q4.2.2.2.1 q4.2.2.2.2 p1_cats p1_starts_c p1_habits_c p1_leaders_c)))
set_option maxHeartbeats 4000000 in
theorem bX1_readCat_j15 {X : KX} {Qf : Int32 × Int32 × Int32 × Int32 × Int32 × (Nat → Int32) × (Nat → Int32) × (Nat → Int32) → State → Prop} {x2 : Int32} {t : Nat} {p1 : Nat} {t_text : Nat} {t_size : Int32} {t_token : Int32} {t_start : Int32} {t_end : Int32} {t_fault : Int32} {t_text_c : Nat → Int32} {p1_length : Int32} {p1_width : Int32} {p1_sunFirst : Int32} {p1_pace : Int32} {p1_nose : Int32} {p1_cats : Int32} {p1_bridgeMay : Int32} {p1_sunMay : Int32} {p1_noseMay : Int32} {p1_starts : Nat} {p1_habits : Nat} {p1_leaders : Nat} {p1_starts_c : Nat → Int32} {p1_habits_c : Nat → Int32} {p1_leaders_c : Nat → Int32} (C : Cx X cX1_readCat RX1 wsX1_readCat 5 { frames := 3, cells := 0, slots := 0, locals := 68 }) (hR : RtV X Qf cX1_readCat 5 (fun _ => none) (w1_X1_readCat (xT X) t p1 t_text t_size t_text_c p1_length p1_width p1_sunFirst p1_pace p1_nose p1_bridgeMay p1_sunMay p1_noseMay p1_starts p1_habits p1_leaders))  : Sim X Qf 0 0 5 (X1_readCat_j15 x2 t_size t_token t_start t_end t_fault t_text_c p1_length p1_width p1_cats p1_starts_c p1_habits_c p1_leaders_c) [(t, .inr (1, [.ref t_text, .int t_size, .int t_token, .int t_start, .int t_end, .int t_fault])), (t_text, .inl ((xT X) 0, 200, .inl t_text_c)), (p1, .inr (0, [.int p1_length, .int p1_width, .int p1_sunFirst, .int p1_pace, .int p1_nose, .int p1_cats, .int p1_bridgeMay, .int p1_sunMay, .int p1_noseMay, .ref p1_starts, .ref p1_habits, .ref p1_leaders])), (p1_starts, .inl ((xT X) 1, 5, .inl p1_starts_c)), (p1_habits, .inl ((xT X) 1, 5, .inl p1_habits_c)), (p1_leaders, .inl ((xT X) 1, 5, .inl p1_leaders_c))] 15 [(0, .ref t), (1, .ref p1), (2, .int x2)] [] := by
  unfold X1_readCat_j15
  refine s_aload_n C 0 dX1_readCat_15 rfl rfl ?_
  refine s_iconst C 0 dX1_readCat_16 (by decide) ?_
  refine s_aload_n C 1 dX1_readCat_17 rfl rfl ?_
  refine s_callV (n := 0) C [] _ _ _ (fun q3 hq => c_X0_cells (xL X) (xD X) (xT X) p1 p1_length p1_width p1_sunFirst p1_pace p1_nose p1_cats p1_bridgeMay p1_sunMay p1_noseMay p1_starts p1_habits p1_leaders q3 hq) gX1_readCat_X0_cells rfl rfl rfl ⟨rfl, by decide +kernel, by decide +kernel, by decide +kernel⟩ ⟨Nat.le_of_ble_eq_true rfl, Nat.le_of_ble_eq_true rfl⟩ ⟨Nat.le_of_ble_eq_true rfl, Nat.le_of_ble_eq_true rfl⟩ 0 2 rfl rfl rfl [.ref p1, .int 0, .ref t] rfl (Nat.le_of_ble_eq_true rfl) dX1_readCat_18 [2] [0, 1, 3, 4, 5] [0, 1, 5, 2, 3, 4] (fun q3 => [(t, .inr (1, [.ref t_text, .int t_size, .int t_token, .int t_start, .int t_end, .int t_fault])), (t_text, .inl ((xT X) 0, 200, .inl t_text_c)), (p1, .inr (0, [.int p1_length, .int p1_width, .int p1_sunFirst, .int p1_pace, .int p1_nose, .int p1_cats, .int p1_bridgeMay, .int p1_sunMay, .int p1_noseMay, .ref p1_starts, .ref p1_habits, .ref p1_leaders])), (p1_starts, .inl ((xT X) 1, 5, .inl p1_starts_c)), (p1_habits, .inl ((xT X) 1, 5, .inl p1_habits_c)), (p1_leaders, .inl ((xT X) 1, 5, .inl p1_leaders_c))]) rfl rfl (by decide) (by decide) (by decide) (fun _ => rfl) (by decide) (fun q3 => [.int q3, .int 0, .ref t]) (fun _ => rfl) (fun q3 => ?_)
  refine s_iconst C 1 dX1_readCat_21 (by decide) ?_
  refine s_isub C dX1_readCat_22 ?_
  refine s_callV (n := 2) C [.int 0, .int (q3 - 1)] _ _ _ (fun q4 hq => c_X1_takeNumber (xL X) (xD X) (xT X) 0 (q3 - 1) t t_text t_size t_token t_start t_end t_fault t_text_c q4 hq) gX1_readCat_X1_takeNumber rfl rfl rfl ⟨rfl, by decide +kernel, by decide +kernel, by decide +kernel⟩ ⟨Nat.le_of_ble_eq_true rfl, Nat.le_of_ble_eq_true rfl⟩ ⟨Nat.le_of_ble_eq_true rfl, Nat.le_of_ble_eq_true rfl⟩ 1 0 rfl rfl rfl [.int (q3 - 1), .int 0, .ref t] rfl (Nat.le_of_ble_eq_true rfl) dX1_readCat_23 [0, 1] [2, 3, 4, 5] [4, 5, 0, 1, 2, 3] (fun q4 => [(t, .inr (1, [.ref t_text, .int t_size, .int q4.2.1, .int q4.2.2.1, .int q4.2.2.2.1, .int q4.2.2.2.2])), (t_text, .inl ((xT X) 0, 200, .inl t_text_c)), (p1, .inr (0, [.int p1_length, .int p1_width, .int p1_sunFirst, .int p1_pace, .int p1_nose, .int p1_cats, .int p1_bridgeMay, .int p1_sunMay, .int p1_noseMay, .ref p1_starts, .ref p1_habits, .ref p1_leaders])), (p1_starts, .inl ((xT X) 1, 5, .inl p1_starts_c)), (p1_habits, .inl ((xT X) 1, 5, .inl p1_habits_c)), (p1_leaders, .inl ((xT X) 1, 5, .inl p1_leaders_c))]) rfl rfl (by decide) (by decide) (by decide) (fun _ => rfl) (by decide) (fun q4 => [.int q4.1]) (fun _ => rfl) (fun q4 => ?_)
  refine s_istore_n C [(3, .int q4.1), (0, .ref t), (1, .ref p1), (2, .int x2)] dX1_readCat_26 rfl (by decide) rfl ?_
  refine s_iload_n C 3 dX1_readCat_27 rfl rfl ?_
  refine s_iconst C 3 dX1_readCat_28 (by decide) ?_
  refine s_icmp_ne C 46 dX1_readCat_29 (by decide) ?_ ?_
  · refine s_bipush C (-9) dX1_readCat_46 (by decide) ?_
    refine s_lv [2, 3, 0] (lv' := [(1, .ref p1), (2, .int x2), (3, .int q4.1)]) rfl ?_
    exact bX1_readCat_j48 C hR
  · refine s_aload_n C 1 dX1_readCat_32 rfl rfl ?_
    refine s_iconst C 0 dX1_readCat_33 (by decide) ?_
    refine s_aload_n C 2 dX1_readCat_34 rfl rfl ?_
    refine s_get C iX1_readCat_X0 2 rfl rfl 5 (by decide) kX1_readCat_99 (.int p1_cats) rfl dX1_readCat_35 ?_
    refine s_iconst C 1 dX1_readCat_38 (by decide) ?_
    refine s_isub C dX1_readCat_39 ?_
    refine s_callV (n := 2) C [.int 0, .int (p1_cats - 1)] _ _ _ (fun q6 hq => c_X1_takeNumber (xL X) (xD X) (xT X) 0 (p1_cats - 1) t t_text t_size q4.2.1 q4.2.2.1 q4.2.2.2.1 q4.2.2.2.2 t_text_c q6 hq) gX1_readCat_X1_takeNumber rfl rfl rfl ⟨rfl, by decide +kernel, by decide +kernel, by decide +kernel⟩ ⟨Nat.le_of_ble_eq_true rfl, Nat.le_of_ble_eq_true rfl⟩ ⟨Nat.le_of_ble_eq_true rfl, Nat.le_of_ble_eq_true rfl⟩ 1 0 rfl rfl rfl [.int (p1_cats - 1), .int 0, .ref t] rfl (Nat.le_of_ble_eq_true rfl) dX1_readCat_40 [0, 1] [2, 3, 4, 5] [4, 5, 0, 1, 2, 3] (fun q6 => [(t, .inr (1, [.ref t_text, .int t_size, .int q6.2.1, .int q6.2.2.1, .int q6.2.2.2.1, .int q6.2.2.2.2])), (t_text, .inl ((xT X) 0, 200, .inl t_text_c)), (p1, .inr (0, [.int p1_length, .int p1_width, .int p1_sunFirst, .int p1_pace, .int p1_nose, .int p1_cats, .int p1_bridgeMay, .int p1_sunMay, .int p1_noseMay, .ref p1_starts, .ref p1_habits, .ref p1_leaders])), (p1_starts, .inl ((xT X) 1, 5, .inl p1_starts_c)), (p1_habits, .inl ((xT X) 1, 5, .inl p1_habits_c)), (p1_leaders, .inl ((xT X) 1, 5, .inl p1_leaders_c))]) rfl rfl (by decide) (by decide) (by decide) (fun _ => rfl) (by decide) (fun q6 => [.int q6.1]) (fun _ => rfl) (fun q6 => ?_)
    refine s_goto C 48 dX1_readCat_43 (by decide) ?_
    refine s_lv [2, 3, 0] (lv' := [(1, .ref p1), (2, .int x2), (3, .int q4.1)]) rfl ?_
    exact bX1_readCat_j48 C hR
noncomputable def m_X1_readCat (x2 : Int32) (t_size : Int32) (t_token : Int32) (t_start : Int32) (t_end : Int32) (t_fault : Int32) (t_text_c : Nat → Int32) (p1_length : Int32) (p1_width : Int32) (p1_cats : Int32) (p1_starts_c : Nat → Int32) (p1_habits_c : Nat → Int32) (p1_leaders_c : Nat → Int32) : Option (Int32 × Int32 × Int32 × Int32 × Int32 × (Nat → Int32) × (Nat → Int32) × (Nat → Int32)) :=
  (m_X1_numberHere t_token t_start t_end t_text_c).bind (fun q1 => (m_X0_tellsCatIn q1 p1_cats p1_starts_c).bind (fun q2 => if q2 = 0 then (X1_readCat_j15 x2 t_size t_token t_start t_end t_fault t_text_c p1_length p1_width p1_cats p1_starts_c p1_habits_c p1_leaders_c) else ((m_X1_fail t_start t_fault).bind (fun q7 => X1_readCat_j15 x2 t_size t_token t_start t_end q7 t_text_c p1_length p1_width p1_cats p1_starts_c p1_habits_c p1_leaders_c))))
set_option maxHeartbeats 4000000 in
theorem b_X1_readCat {X : KX} {Qf : Int32 × Int32 × Int32 × Int32 × Int32 × (Nat → Int32) × (Nat → Int32) × (Nat → Int32) → State → Prop} {x2 : Int32} {t : Nat} {p1 : Nat} {t_text : Nat} {t_size : Int32} {t_token : Int32} {t_start : Int32} {t_end : Int32} {t_fault : Int32} {t_text_c : Nat → Int32} {p1_length : Int32} {p1_width : Int32} {p1_sunFirst : Int32} {p1_pace : Int32} {p1_nose : Int32} {p1_cats : Int32} {p1_bridgeMay : Int32} {p1_sunMay : Int32} {p1_noseMay : Int32} {p1_starts : Nat} {p1_habits : Nat} {p1_leaders : Nat} {p1_starts_c : Nat → Int32} {p1_habits_c : Nat → Int32} {p1_leaders_c : Nat → Int32} (C : Cx X cX1_readCat RX1 wsX1_readCat 5 { frames := 3, cells := 0, slots := 0, locals := 68 }) (hR : RtV X Qf cX1_readCat 5 (fun _ => none) (w1_X1_readCat (xT X) t p1 t_text t_size t_text_c p1_length p1_width p1_sunFirst p1_pace p1_nose p1_bridgeMay p1_sunMay p1_noseMay p1_starts p1_habits p1_leaders)) : Sim X Qf 0 0 5 (m_X1_readCat x2 t_size t_token t_start t_end t_fault t_text_c p1_length p1_width p1_cats p1_starts_c p1_habits_c p1_leaders_c) [(t, .inr (1, [.ref t_text, .int t_size, .int t_token, .int t_start, .int t_end, .int t_fault])), (t_text, .inl ((xT X) 0, 200, .inl t_text_c)), (p1, .inr (0, [.int p1_length, .int p1_width, .int p1_sunFirst, .int p1_pace, .int p1_nose, .int p1_cats, .int p1_bridgeMay, .int p1_sunMay, .int p1_noseMay, .ref p1_starts, .ref p1_habits, .ref p1_leaders])), (p1_starts, .inl ((xT X) 1, 5, .inl p1_starts_c)), (p1_habits, .inl ((xT X) 1, 5, .inl p1_habits_c)), (p1_leaders, .inl ((xT X) 1, 5, .inl p1_leaders_c))] 0 [(0, .ref t), (1, .ref p1), (2, .int x2)] [] := by
  unfold m_X1_readCat
  refine s_aload_n C 1 dX1_readCat_0 rfl rfl ?_
  refine s_aload_n C 0 dX1_readCat_1 rfl rfl ?_
  refine s_callV (n := 0) C [] _ _ _ (fun q1 hq => c_X1_numberHere (xL X) (xD X) (xT X) t t_text t_size t_token t_start t_end t_fault t_text_c q1 hq) gX1_readCat_X1_numberHere rfl rfl rfl ⟨rfl, by decide +kernel, by decide +kernel, by decide +kernel⟩ ⟨Nat.le_of_ble_eq_true rfl, Nat.le_of_ble_eq_true rfl⟩ ⟨Nat.le_of_ble_eq_true rfl, Nat.le_of_ble_eq_true rfl⟩ 1 0 rfl rfl rfl [.ref t, .ref p1] rfl (Nat.le_of_ble_eq_true rfl) dX1_readCat_2 [0, 1] [2, 3, 4, 5] [4, 5, 0, 1, 2, 3] (fun q1 => [(t, .inr (1, [.ref t_text, .int t_size, .int t_token, .int t_start, .int t_end, .int t_fault])), (t_text, .inl ((xT X) 0, 200, .inl t_text_c)), (p1, .inr (0, [.int p1_length, .int p1_width, .int p1_sunFirst, .int p1_pace, .int p1_nose, .int p1_cats, .int p1_bridgeMay, .int p1_sunMay, .int p1_noseMay, .ref p1_starts, .ref p1_habits, .ref p1_leaders])), (p1_starts, .inl ((xT X) 1, 5, .inl p1_starts_c)), (p1_habits, .inl ((xT X) 1, 5, .inl p1_habits_c)), (p1_leaders, .inl ((xT X) 1, 5, .inl p1_leaders_c))]) rfl rfl (by decide) (by decide) (by decide) (fun _ => rfl) (by decide) (fun q1 => [.int q1, .ref p1]) (fun _ => rfl) (fun q1 => ?_)
  refine s_callV (n := 1) C [.int q1] _ _ _ (fun q2 hq => c_X0_tellsCatIn (xL X) (xD X) (xT X) q1 p1 p1_length p1_width p1_sunFirst p1_pace p1_nose p1_cats p1_bridgeMay p1_sunMay p1_noseMay p1_starts p1_habits p1_leaders p1_starts_c q2 hq) gX1_readCat_X0_tellsCatIn rfl rfl rfl ⟨rfl, by decide +kernel, by decide +kernel, by decide +kernel⟩ ⟨Nat.le_of_ble_eq_true rfl, Nat.le_of_ble_eq_true rfl⟩ ⟨Nat.le_of_ble_eq_true rfl, Nat.le_of_ble_eq_true rfl⟩ 0 2 rfl rfl rfl [.int q1, .ref p1] rfl (Nat.le_of_ble_eq_true rfl) dX1_readCat_5 [2, 3] [0, 1, 4, 5] [0, 1, 4, 5, 2, 3] (fun q2 => [(t, .inr (1, [.ref t_text, .int t_size, .int t_token, .int t_start, .int t_end, .int t_fault])), (t_text, .inl ((xT X) 0, 200, .inl t_text_c)), (p1, .inr (0, [.int p1_length, .int p1_width, .int p1_sunFirst, .int p1_pace, .int p1_nose, .int p1_cats, .int p1_bridgeMay, .int p1_sunMay, .int p1_noseMay, .ref p1_starts, .ref p1_habits, .ref p1_leaders])), (p1_starts, .inl ((xT X) 1, 5, .inl p1_starts_c)), (p1_habits, .inl ((xT X) 1, 5, .inl p1_habits_c)), (p1_leaders, .inl ((xT X) 1, 5, .inl p1_leaders_c))]) rfl rfl (by decide) (by decide) (by decide) (fun _ => rfl) (by decide) (fun q2 => [.int q2]) (fun _ => rfl) (fun q2 => ?_)
  refine s_if_eq C 15 dX1_readCat_8 (by decide) ?_ ?_
  · exact bX1_readCat_j15 C hR
  · refine s_aload_n C 0 dX1_readCat_11 rfl rfl ?_
    refine s_callV (n := 0) C [] _ _ _ (fun q7 hq => c_X1_fail (xL X) (xD X) (xT X) t (.ref t_text) t_size t_token t_start t_end t_fault q7 hq) gX1_readCat_X1_fail rfl rfl rfl ⟨rfl, by decide +kernel, by decide +kernel, by decide +kernel⟩ ⟨Nat.le_of_ble_eq_true rfl, Nat.le_of_ble_eq_true rfl⟩ ⟨Nat.le_of_ble_eq_true rfl, Nat.le_of_ble_eq_true rfl⟩ 1 0 rfl rfl rfl [.ref t] rfl (Nat.le_of_ble_eq_true rfl) dX1_readCat_12 [0] [1, 2, 3, 4, 5] [5, 0, 1, 2, 3, 4] (fun q7 => [(t, .inr (1, [.ref t_text, .int t_size, .int t_token, .int t_start, .int t_end, .int q7])), (t_text, .inl ((xT X) 0, 200, .inl t_text_c)), (p1, .inr (0, [.int p1_length, .int p1_width, .int p1_sunFirst, .int p1_pace, .int p1_nose, .int p1_cats, .int p1_bridgeMay, .int p1_sunMay, .int p1_noseMay, .ref p1_starts, .ref p1_habits, .ref p1_leaders])), (p1_starts, .inl ((xT X) 1, 5, .inl p1_starts_c)), (p1_habits, .inl ((xT X) 1, 5, .inl p1_habits_c)), (p1_leaders, .inl ((xT X) 1, 5, .inl p1_leaders_c))]) rfl rfl (by decide) (by decide) (by decide) (fun _ => rfl) (by decide) (fun q7 => []) (fun _ => rfl) (fun q7 => ?_)
    exact bX1_readCat_j15 C hR
theorem c_X1_readCat (l : Launch) (D : va_G) (T : Nat → ClassId) (x2 : Int32) (t : Nat) (p1 : Nat) (t_text : Nat) (t_size : Int32) (t_token : Int32) (t_start : Int32) (t_end : Int32) (t_fault : Int32) (t_text_c : Nat → Int32) (p1_length : Int32) (p1_width : Int32) (p1_sunFirst : Int32) (p1_pace : Int32) (p1_nose : Int32) (p1_cats : Int32) (p1_bridgeMay : Int32) (p1_sunMay : Int32) (p1_noseMay : Int32) (p1_starts : Nat) (p1_habits : Nat) (p1_leaders : Nat) (p1_starts_c : Nat → Int32) (p1_habits_c : Nat → Int32) (p1_leaders_c : Nat → Int32) : ∀ q : Int32 × Int32 × Int32 × Int32 × Int32 × (Nat → Int32) × (Nat → Int32) × (Nat → Int32), m_X1_readCat x2 t_size t_token t_start t_end t_fault t_text_c p1_length p1_width p1_cats p1_starts_c p1_habits_c p1_leaders_c = some q → Ct l yX1_readCat wsX1_readCat { frames := 3, cells := 0, slots := 0, locals := 68 } [.ref t, .ref p1, .int x2] D T [(t, .inr (1, [.ref t_text, .int t_size, .int t_token, .int t_start, .int t_end, .int t_fault])), (t_text, .inl (T 0, 200, .inl t_text_c)), (p1, .inr (0, [.int p1_length, .int p1_width, .int p1_sunFirst, .int p1_pace, .int p1_nose, .int p1_cats, .int p1_bridgeMay, .int p1_sunMay, .int p1_noseMay, .ref p1_starts, .ref p1_habits, .ref p1_leaders])), (p1_starts, .inl (T 1, 5, .inl p1_starts_c)), (p1_habits, .inl (T 1, 5, .inl p1_habits_c)), (p1_leaders, .inl (T 1, 5, .inl p1_leaders_c))] ((fun _ => none) q) (w1_X1_readCat T t p1 t_text t_size t_text_c p1_length p1_width p1_sunFirst p1_pace p1_nose p1_bridgeMay p1_sunMay p1_noseMay p1_starts p1_habits p1_leaders q) := by
  refine ct_V (by decide) rfl (Nat.le_of_ble_eq_true rfl) (m_X1_readCat x2 t_size t_token t_start t_end t_fault t_text_c p1_length p1_width p1_cats p1_starts_c p1_habits_c p1_leaders_c) (fun _ => none) (w1_X1_readCat T t p1 t_text t_size t_text_c p1_length p1_width p1_sunFirst p1_pace p1_nose p1_bridgeMay p1_sunMay p1_noseMay p1_starts p1_habits p1_leaders) ?_
  intro X Qf hL hD hT C hR
  subst hT
  exact b_X1_readCat C hR
theorem iX1_readItem_X0 : ∀ w ∈ u_ws RX0 TX0 12, w ∈ wsX1_readItem := by decide +kernel
theorem kX1_readItem_52 : Cond.fieldLink RX1 52 "NineCats$Plan" "bridgeMay" "Z" ∈ wsX1_readItem := by decide +kernel
theorem kX1_readItem_61 : Cond.fieldLink RX1 61 "NineCats$Plan" "length" "I" ∈ wsX1_readItem := by decide +kernel
theorem kX1_readItem_64 : Cond.fieldLink RX1 64 "NineCats$Plan" "width" "I" ∈ wsX1_readItem := by decide +kernel
theorem kX1_readItem_67 : Cond.fieldLink RX1 67 "NineCats$Plan" "sunMay" "Z" ∈ wsX1_readItem := by decide +kernel
theorem kX1_readItem_70 : Cond.fieldLink RX1 70 "NineCats$Plan" "sunFirst" "I" ∈ wsX1_readItem := by decide +kernel
theorem kX1_readItem_73 : Cond.fieldLink RX1 73 "NineCats$Plan" "pace" "I" ∈ wsX1_readItem := by decide +kernel
theorem kX1_readItem_76 : Cond.fieldLink RX1 76 "NineCats$Plan" "noseMay" "Z" ∈ wsX1_readItem := by decide +kernel
theorem kX1_readItem_79 : Cond.fieldLink RX1 79 "NineCats$Plan" "nose" "I" ∈ wsX1_readItem := by decide +kernel
abbrev w1_X1_readItem (T : Nat → ClassId) (t : Nat) (p1 : Nat) (t_text : Nat) (t_size : Int32) (t_text_c : Nat → Int32) (p1_starts : Nat) (p1_habits : Nat) (p1_leaders : Nat) (q : Int32 × Int32 × Int32 × Int32 × Int32 × Int32 × Int32 × Int32 × Int32 × Int32 × Int32 × Int32 × Int32 × (Nat → Int32) × (Nat → Int32) × (Nat → Int32)) : va_W := [(t, .inr (1, [.ref t_text, .int t_size, .int q.1, .int q.2.1, .int q.2.2.1, .int q.2.2.2.1])), (t_text, .inl (T 0, 200, .inl t_text_c)), (p1, .inr (0, [.int q.2.2.2.2.1, .int q.2.2.2.2.2.1, .int q.2.2.2.2.2.2.1, .int q.2.2.2.2.2.2.2.1, .int q.2.2.2.2.2.2.2.2.1, .int q.2.2.2.2.2.2.2.2.2.1, .int q.2.2.2.2.2.2.2.2.2.2.1, .int q.2.2.2.2.2.2.2.2.2.2.2.1, .int q.2.2.2.2.2.2.2.2.2.2.2.2.1, .ref p1_starts, .ref p1_habits, .ref p1_leaders])), (p1_starts, .inl (T 1, 5, .inl q.2.2.2.2.2.2.2.2.2.2.2.2.2.1)), (p1_habits, .inl (T 1, 5, .inl q.2.2.2.2.2.2.2.2.2.2.2.2.2.2.1)), (p1_leaders, .inl (T 1, 5, .inl q.2.2.2.2.2.2.2.2.2.2.2.2.2.2.2))]
noncomputable def X1_readItem_j135  (t_size : Int32) (t_token : Int32) (t_start : Int32) (t_end : Int32) (t_fault : Int32) (t_text_c : Nat → Int32) (p1_length : Int32) (p1_width : Int32) (p1_sunFirst : Int32) (p1_pace : Int32) (p1_nose : Int32) (p1_cats : Int32) (p1_bridgeMay : Int32) (p1_sunMay : Int32) (p1_noseMay : Int32) (p1_starts_c : Nat → Int32) (p1_habits_c : Nat → Int32) (p1_leaders_c : Nat → Int32) : Option (Int32 × Int32 × Int32 × Int32 × Int32 × Int32 × Int32 × Int32 × Int32 × Int32 × Int32 × Int32 × Int32 × (Nat → Int32) × (Nat → Int32) × (Nat → Int32)) :=
  (m_X1_takeStop t_size t_token t_start t_end t_fault t_text_c).bind (fun q6 => some (q6.1, q6.2.1, q6.2.2.1, q6.2.2.2, p1_length, p1_width, p1_sunFirst, p1_pace, p1_nose, p1_cats, p1_bridgeMay, p1_sunMay, p1_noseMay, p1_starts_c, p1_habits_c, p1_leaders_c))
set_option maxHeartbeats 4000000 in
theorem bX1_readItem_j135 {X : KX} {Qf : Int32 × Int32 × Int32 × Int32 × Int32 × Int32 × Int32 × Int32 × Int32 × Int32 × Int32 × Int32 × Int32 × (Nat → Int32) × (Nat → Int32) × (Nat → Int32) → State → Prop} {t : Nat} {p1 : Nat} {t_text : Nat} {t_size : Int32} {t_token : Int32} {t_start : Int32} {t_end : Int32} {t_fault : Int32} {t_text_c : Nat → Int32} {p1_length : Int32} {p1_width : Int32} {p1_sunFirst : Int32} {p1_pace : Int32} {p1_nose : Int32} {p1_cats : Int32} {p1_bridgeMay : Int32} {p1_sunMay : Int32} {p1_noseMay : Int32} {p1_starts : Nat} {p1_habits : Nat} {p1_leaders : Nat} {p1_starts_c : Nat → Int32} {p1_habits_c : Nat → Int32} {p1_leaders_c : Nat → Int32} (C : Cx X cX1_readItem RX1 wsX1_readItem 3 { frames := 8, cells := 0, slots := 0, locals := 242 }) (hR : RtV X Qf cX1_readItem 3 (fun _ => none) (w1_X1_readItem (xT X) t p1 t_text t_size t_text_c p1_starts p1_habits p1_leaders))  : Sim X Qf 0 0 3 (X1_readItem_j135 t_size t_token t_start t_end t_fault t_text_c p1_length p1_width p1_sunFirst p1_pace p1_nose p1_cats p1_bridgeMay p1_sunMay p1_noseMay p1_starts_c p1_habits_c p1_leaders_c) [(t, .inr (1, [.ref t_text, .int t_size, .int t_token, .int t_start, .int t_end, .int t_fault])), (t_text, .inl ((xT X) 0, 200, .inl t_text_c)), (p1, .inr (0, [.int p1_length, .int p1_width, .int p1_sunFirst, .int p1_pace, .int p1_nose, .int p1_cats, .int p1_bridgeMay, .int p1_sunMay, .int p1_noseMay, .ref p1_starts, .ref p1_habits, .ref p1_leaders])), (p1_starts, .inl ((xT X) 1, 5, .inl p1_starts_c)), (p1_habits, .inl ((xT X) 1, 5, .inl p1_habits_c)), (p1_leaders, .inl ((xT X) 1, 5, .inl p1_leaders_c))] 135 [(0, .ref t)] [] := by
  unfold X1_readItem_j135
  refine s_aload_n C 0 dX1_readItem_135 rfl rfl ?_
  refine s_callV (n := 0) C [] _ _ _ (fun q6 hq => c_X1_takeStop (xL X) (xD X) (xT X) t t_text t_size t_token t_start t_end t_fault t_text_c q6 hq) gX1_readItem_X1_takeStop rfl rfl rfl ⟨rfl, by decide +kernel, by decide +kernel, by decide +kernel⟩ ⟨Nat.le_of_ble_eq_true rfl, Nat.le_of_ble_eq_true rfl⟩ ⟨Nat.le_of_ble_eq_true rfl, Nat.le_of_ble_eq_true rfl⟩ 1 0 rfl rfl rfl [.ref t] rfl (Nat.le_of_ble_eq_true rfl) dX1_readItem_136 [0, 1] [2, 3, 4, 5] [4, 5, 0, 1, 2, 3] (fun q6 => [(t, .inr (1, [.ref t_text, .int t_size, .int q6.1, .int q6.2.1, .int q6.2.2.1, .int q6.2.2.2])), (t_text, .inl ((xT X) 0, 200, .inl t_text_c)), (p1, .inr (0, [.int p1_length, .int p1_width, .int p1_sunFirst, .int p1_pace, .int p1_nose, .int p1_cats, .int p1_bridgeMay, .int p1_sunMay, .int p1_noseMay, .ref p1_starts, .ref p1_habits, .ref p1_leaders])), (p1_starts, .inl ((xT X) 1, 5, .inl p1_starts_c)), (p1_habits, .inl ((xT X) 1, 5, .inl p1_habits_c)), (p1_leaders, .inl ((xT X) 1, 5, .inl p1_leaders_c))]) rfl rfl (by decide) (by decide) (by decide) (fun _ => rfl) (by decide) (fun q6 => []) (fun _ => rfl) (fun q6 => ?_)
  exact s_retV hR (q6.1, q6.2.1, q6.2.2.1, q6.2.2.2, p1_length, p1_width, p1_sunFirst, p1_pace, p1_nose, p1_cats, p1_bridgeMay, p1_sunMay, p1_noseMay, p1_starts_c, p1_habits_c, p1_leaders_c) rfl rfl dX1_readItem_139
noncomputable def m_X1_readItem (t_size : Int32) (t_token : Int32) (t_start : Int32) (t_end : Int32) (t_fault : Int32) (t_text_c : Nat → Int32) (p1_length : Int32) (p1_width : Int32) (p1_sunFirst : Int32) (p1_pace : Int32) (p1_nose : Int32) (p1_cats : Int32) (p1_bridgeMay : Int32) (p1_sunMay : Int32) (p1_noseMay : Int32) (p1_starts_c : Nat → Int32) (p1_habits_c : Nat → Int32) (p1_leaders_c : Nat → Int32) : Option (Int32 × Int32 × Int32 × Int32 × Int32 × Int32 × Int32 × Int32 × Int32 × Int32 × Int32 × Int32 × Int32 × (Nat → Int32) × (Nat → Int32) × (Nat → Int32)) :=
  (m_X1_wordHere t_token t_start t_end t_text_c).bind (fun q1 => (m_X1_mayBegin q1 p1_cats p1_bridgeMay p1_sunMay p1_noseMay).bind (fun q2 => if q2 = 0 then ((m_X1_fail t_start t_fault).bind (fun q11 => some (t_token, t_start, t_end, q11, p1_length, p1_width, p1_sunFirst, p1_pace, p1_nose, p1_cats, p1_bridgeMay, p1_sunMay, p1_noseMay, p1_starts_c, p1_habits_c, p1_leaders_c))) else ((m_X1_takeToken t_size t_end t_text_c).bind (fun q3 => bzI 0 (if q1 = Int32.ofNat 4 then ((m_X1_takeNumber 1 8 t_size q3.1 q3.2.1 q3.2.2 t_fault t_text_c).bind (fun q4 => (m_X1_takeNumber 1 3 t_size q4.2.1 q4.2.2.1 q4.2.2.2.1 q4.2.2.2.2 t_text_c).bind (fun q5 => X1_readItem_j135 t_size q5.2.1 q5.2.2.1 q5.2.2.2.1 q5.2.2.2.2 t_text_c q4.1 q5.1 p1_sunFirst p1_pace p1_nose p1_cats 0 p1_sunMay p1_noseMay p1_starts_c p1_habits_c p1_leaders_c))) else (if q1 = Int32.ofNat 5 then (bzI 0 ((m_X1_takeNumber 0 7 t_size q3.1 q3.2.1 q3.2.2 t_fault t_text_c).bind (fun q7 => (m_X1_takeNumber 1 9 t_size q7.2.1 q7.2.2.1 q7.2.2.2.1 q7.2.2.2.2 t_text_c).bind (fun q8 => X1_readItem_j135 t_size q8.2.1 q8.2.2.1 q8.2.2.2.1 q8.2.2.2.2 t_text_c p1_length p1_width q7.1 q8.1 p1_nose p1_cats 0 0 p1_noseMay p1_starts_c p1_habits_c p1_leaders_c)))) else (if q1 = Int32.ofNat 6 then (bzI 0 ((m_X1_takeNumber 0 9 t_size q3.1 q3.2.1 q3.2.2 t_fault t_text_c).bind (fun q9 => X1_readItem_j135 t_size q9.2.1 q9.2.2.1 q9.2.2.2.1 q9.2.2.2.2 t_text_c p1_length p1_width p1_sunFirst p1_pace q9.1 p1_cats 0 p1_sunMay 0 p1_starts_c p1_habits_c p1_leaders_c))) else ((m_X1_readCat q1 t_size q3.1 q3.2.1 q3.2.2 t_fault t_text_c p1_length p1_width p1_cats p1_starts_c p1_habits_c p1_leaders_c).bind (fun q10 => X1_readItem_j135 t_size q10.1 q10.2.1 q10.2.2.1 q10.2.2.2.1 t_text_c p1_length p1_width p1_sunFirst p1_pace p1_nose q10.2.2.2.2.1 0 p1_sunMay p1_noseMay q10.2.2.2.2.2.1 q10.2.2.2.2.2.2.1 q10.2.2.2.2.2.2.2)))))))))
set_option maxHeartbeats 4000000 in
theorem b_X1_readItem {X : KX} {Qf : Int32 × Int32 × Int32 × Int32 × Int32 × Int32 × Int32 × Int32 × Int32 × Int32 × Int32 × Int32 × Int32 × (Nat → Int32) × (Nat → Int32) × (Nat → Int32) → State → Prop} {t : Nat} {p1 : Nat} {t_text : Nat} {t_size : Int32} {t_token : Int32} {t_start : Int32} {t_end : Int32} {t_fault : Int32} {t_text_c : Nat → Int32} {p1_length : Int32} {p1_width : Int32} {p1_sunFirst : Int32} {p1_pace : Int32} {p1_nose : Int32} {p1_cats : Int32} {p1_bridgeMay : Int32} {p1_sunMay : Int32} {p1_noseMay : Int32} {p1_starts : Nat} {p1_habits : Nat} {p1_leaders : Nat} {p1_starts_c : Nat → Int32} {p1_habits_c : Nat → Int32} {p1_leaders_c : Nat → Int32} (C : Cx X cX1_readItem RX1 wsX1_readItem 3 { frames := 8, cells := 0, slots := 0, locals := 242 }) (hR : RtV X Qf cX1_readItem 3 (fun _ => none) (w1_X1_readItem (xT X) t p1 t_text t_size t_text_c p1_starts p1_habits p1_leaders)) : Sim X Qf 0 0 3 (m_X1_readItem t_size t_token t_start t_end t_fault t_text_c p1_length p1_width p1_sunFirst p1_pace p1_nose p1_cats p1_bridgeMay p1_sunMay p1_noseMay p1_starts_c p1_habits_c p1_leaders_c) [(t, .inr (1, [.ref t_text, .int t_size, .int t_token, .int t_start, .int t_end, .int t_fault])), (t_text, .inl ((xT X) 0, 200, .inl t_text_c)), (p1, .inr (0, [.int p1_length, .int p1_width, .int p1_sunFirst, .int p1_pace, .int p1_nose, .int p1_cats, .int p1_bridgeMay, .int p1_sunMay, .int p1_noseMay, .ref p1_starts, .ref p1_habits, .ref p1_leaders])), (p1_starts, .inl ((xT X) 1, 5, .inl p1_starts_c)), (p1_habits, .inl ((xT X) 1, 5, .inl p1_habits_c)), (p1_leaders, .inl ((xT X) 1, 5, .inl p1_leaders_c))] 0 [(0, .ref t), (1, .ref p1)] [] := by
  unfold m_X1_readItem
  refine s_aload_n C 0 dX1_readItem_0 rfl rfl ?_
  refine s_callV (n := 0) C [] _ _ _ (fun q1 hq => c_X1_wordHere (xL X) (xD X) (xT X) t t_text t_size t_token t_start t_end t_fault t_text_c q1 hq) gX1_readItem_X1_wordHere rfl rfl rfl ⟨rfl, by decide +kernel, by decide +kernel, by decide +kernel⟩ ⟨Nat.le_of_ble_eq_true rfl, Nat.le_of_ble_eq_true rfl⟩ ⟨Nat.le_of_ble_eq_true rfl, Nat.le_of_ble_eq_true rfl⟩ 1 0 rfl rfl rfl [.ref t] rfl (Nat.le_of_ble_eq_true rfl) dX1_readItem_1 [0, 1] [2, 3, 4, 5] [4, 5, 0, 1, 2, 3] (fun q1 => [(t, .inr (1, [.ref t_text, .int t_size, .int t_token, .int t_start, .int t_end, .int t_fault])), (t_text, .inl ((xT X) 0, 200, .inl t_text_c)), (p1, .inr (0, [.int p1_length, .int p1_width, .int p1_sunFirst, .int p1_pace, .int p1_nose, .int p1_cats, .int p1_bridgeMay, .int p1_sunMay, .int p1_noseMay, .ref p1_starts, .ref p1_habits, .ref p1_leaders])), (p1_starts, .inl ((xT X) 1, 5, .inl p1_starts_c)), (p1_habits, .inl ((xT X) 1, 5, .inl p1_habits_c)), (p1_leaders, .inl ((xT X) 1, 5, .inl p1_leaders_c))]) rfl rfl (by decide) (by decide) (by decide) (fun _ => rfl) (by decide) (fun q1 => [.int q1]) (fun _ => rfl) (fun q1 => ?_)
  refine s_istore_n C [(2, .int q1), (0, .ref t), (1, .ref p1)] dX1_readItem_4 rfl (by decide) rfl ?_
  refine s_aload_n C 2 dX1_readItem_5 rfl rfl ?_
  refine s_iload_n C 0 dX1_readItem_6 rfl rfl ?_
  refine s_callS (n := 2) C [.ref p1, .int q1] _ _ _ (fun q2 hq => c_X1_mayBegin (xL X) (xD X) (xT X) q1 p1 p1_length p1_width p1_sunFirst p1_pace p1_nose p1_cats p1_bridgeMay p1_sunMay p1_noseMay p1_starts p1_habits p1_leaders q2 hq) gX1_readItem_X1_mayBegin rfl rfl rfl ⟨by decide +kernel, by decide +kernel, by decide +kernel⟩ ⟨Nat.le_of_ble_eq_true rfl, Nat.le_of_ble_eq_true rfl⟩ ⟨Nat.le_of_ble_eq_true rfl, Nat.le_of_ble_eq_true rfl⟩ rfl [.int q1, .ref p1] rfl (Nat.le_of_ble_eq_true rfl) dX1_readItem_7 [2] [0, 1, 3, 4, 5] [0, 1, 5, 2, 3, 4] (fun q2 => [(t, .inr (1, [.ref t_text, .int t_size, .int t_token, .int t_start, .int t_end, .int t_fault])), (t_text, .inl ((xT X) 0, 200, .inl t_text_c)), (p1, .inr (0, [.int p1_length, .int p1_width, .int p1_sunFirst, .int p1_pace, .int p1_nose, .int p1_cats, .int p1_bridgeMay, .int p1_sunMay, .int p1_noseMay, .ref p1_starts, .ref p1_habits, .ref p1_leaders])), (p1_starts, .inl ((xT X) 1, 5, .inl p1_starts_c)), (p1_habits, .inl ((xT X) 1, 5, .inl p1_habits_c)), (p1_leaders, .inl ((xT X) 1, 5, .inl p1_leaders_c))]) rfl rfl (by decide) (by decide) (by decide) (fun _ => rfl) (by decide) (fun q2 => [.int q2]) (fun _ => rfl) (fun q2 => ?_)
  refine s_if_ne C 18 dX1_readItem_10 (by decide) ?_ ?_
  · refine s_aload_n C 1 dX1_readItem_18 rfl rfl ?_
    refine s_callV (n := 0) C [] _ _ _ (fun q3 hq => c_X1_takeToken (xL X) (xD X) (xT X) t t_text t_size t_token t_start t_end t_fault t_text_c q3 hq) gX1_readItem_X1_takeToken rfl rfl rfl ⟨rfl, by decide +kernel, by decide +kernel, by decide +kernel⟩ ⟨Nat.le_of_ble_eq_true rfl, Nat.le_of_ble_eq_true rfl⟩ ⟨Nat.le_of_ble_eq_true rfl, Nat.le_of_ble_eq_true rfl⟩ 1 0 rfl rfl rfl [.ref t] rfl (Nat.le_of_ble_eq_true rfl) dX1_readItem_19 [0, 1] [2, 3, 4, 5] [4, 5, 0, 1, 2, 3] (fun q3 => [(t, .inr (1, [.ref t_text, .int t_size, .int q3.1, .int q3.2.1, .int q3.2.2, .int t_fault])), (t_text, .inl ((xT X) 0, 200, .inl t_text_c)), (p1, .inr (0, [.int p1_length, .int p1_width, .int p1_sunFirst, .int p1_pace, .int p1_nose, .int p1_cats, .int p1_bridgeMay, .int p1_sunMay, .int p1_noseMay, .ref p1_starts, .ref p1_habits, .ref p1_leaders])), (p1_starts, .inl ((xT X) 1, 5, .inl p1_starts_c)), (p1_habits, .inl ((xT X) 1, 5, .inl p1_habits_c)), (p1_leaders, .inl ((xT X) 1, 5, .inl p1_leaders_c))]) rfl rfl (by decide) (by decide) (by decide) (fun _ => rfl) (by decide) (fun q3 => []) (fun _ => rfl) (fun q3 => ?_)
    refine s_aload_n C 2 dX1_readItem_22 rfl rfl ?_
    refine s_iconst C 0 dX1_readItem_23 (by decide) ?_
    refine s_putZ C iX1_readItem_X0 tyX0 tyX0_ok nmX0 2 rfl rfl 6 (by decide) kX1_readItem_52 rfl (by decide +kernel) (Nat.le_of_ble_eq_true rfl) [(t, .inr (1, [.ref t_text, .int t_size, .int q3.1, .int q3.2.1, .int q3.2.2, .int t_fault])), (t_text, .inl ((xT X) 0, 200, .inl t_text_c)), (p1, .inr (0, [.int p1_length, .int p1_width, .int p1_sunFirst, .int p1_pace, .int p1_nose, .int p1_cats, .int 0, .int p1_sunMay, .int p1_noseMay, .ref p1_starts, .ref p1_habits, .ref p1_leaders])), (p1_starts, .inl ((xT X) 1, 5, .inl p1_starts_c)), (p1_habits, .inl ((xT X) 1, 5, .inl p1_habits_c)), (p1_leaders, .inl ((xT X) 1, 5, .inl p1_leaders_c))] rfl dX1_readItem_24 ?_
    refine s_iload_n C 0 dX1_readItem_27 rfl rfl ?_
    refine s_table C 4 [56, 80, 110] 129 dX1_readItem_28 (by decide) (by decide) (by decide) (by decide) (by decide) ?_
    refine s_sw 4 ?_ ?_
    · refine s_aload_n C 2 dX1_readItem_56 rfl rfl ?_
      refine s_aload_n C 1 dX1_readItem_57 rfl rfl ?_
      refine s_iconst C 1 dX1_readItem_58 (by decide) ?_
      refine s_bipush C 8 dX1_readItem_59 (by decide) ?_
      refine s_callV (n := 2) C [.int 1, .int 8] _ _ _ (fun q4 hq => c_X1_takeNumber (xL X) (xD X) (xT X) 1 8 t t_text t_size q3.1 q3.2.1 q3.2.2 t_fault t_text_c q4 hq) gX1_readItem_X1_takeNumber rfl rfl rfl ⟨rfl, by decide +kernel, by decide +kernel, by decide +kernel⟩ ⟨Nat.le_of_ble_eq_true rfl, Nat.le_of_ble_eq_true rfl⟩ ⟨Nat.le_of_ble_eq_true rfl, Nat.le_of_ble_eq_true rfl⟩ 1 0 rfl rfl rfl [.int 8, .int 1, .ref t, .ref p1] rfl (Nat.le_of_ble_eq_true rfl) dX1_readItem_61 [0, 1] [2, 3, 4, 5] [4, 5, 0, 1, 2, 3] (fun q4 => [(t, .inr (1, [.ref t_text, .int t_size, .int q4.2.1, .int q4.2.2.1, .int q4.2.2.2.1, .int q4.2.2.2.2])), (t_text, .inl ((xT X) 0, 200, .inl t_text_c)), (p1, .inr (0, [.int p1_length, .int p1_width, .int p1_sunFirst, .int p1_pace, .int p1_nose, .int p1_cats, .int 0, .int p1_sunMay, .int p1_noseMay, .ref p1_starts, .ref p1_habits, .ref p1_leaders])), (p1_starts, .inl ((xT X) 1, 5, .inl p1_starts_c)), (p1_habits, .inl ((xT X) 1, 5, .inl p1_habits_c)), (p1_leaders, .inl ((xT X) 1, 5, .inl p1_leaders_c))]) rfl rfl (by decide) (by decide) (by decide) (fun _ => rfl) (by decide) (fun q4 => [.int q4.1, .ref p1]) (fun _ => rfl) (fun q4 => ?_)
      refine s_put C iX1_readItem_X0 tyX0 tyX0_ok nmX0 2 rfl rfl 0 (by decide) kX1_readItem_61 rfl .int (by decide +kernel) rfl rfl (Nat.le_of_ble_eq_true rfl) [(t, .inr (1, [.ref t_text, .int t_size, .int q4.2.1, .int q4.2.2.1, .int q4.2.2.2.1, .int q4.2.2.2.2])), (t_text, .inl ((xT X) 0, 200, .inl t_text_c)), (p1, .inr (0, [.int q4.1, .int p1_width, .int p1_sunFirst, .int p1_pace, .int p1_nose, .int p1_cats, .int 0, .int p1_sunMay, .int p1_noseMay, .ref p1_starts, .ref p1_habits, .ref p1_leaders])), (p1_starts, .inl ((xT X) 1, 5, .inl p1_starts_c)), (p1_habits, .inl ((xT X) 1, 5, .inl p1_habits_c)), (p1_leaders, .inl ((xT X) 1, 5, .inl p1_leaders_c))] rfl dX1_readItem_64 ?_
      refine s_aload_n C 2 dX1_readItem_67 rfl rfl ?_
      refine s_aload_n C 1 dX1_readItem_68 rfl rfl ?_
      refine s_iconst C 1 dX1_readItem_69 (by decide) ?_
      refine s_iconst C 3 dX1_readItem_70 (by decide) ?_
      refine s_callV (n := 2) C [.int 1, .int 3] _ _ _ (fun q5 hq => c_X1_takeNumber (xL X) (xD X) (xT X) 1 3 t t_text t_size q4.2.1 q4.2.2.1 q4.2.2.2.1 q4.2.2.2.2 t_text_c q5 hq) gX1_readItem_X1_takeNumber rfl rfl rfl ⟨rfl, by decide +kernel, by decide +kernel, by decide +kernel⟩ ⟨Nat.le_of_ble_eq_true rfl, Nat.le_of_ble_eq_true rfl⟩ ⟨Nat.le_of_ble_eq_true rfl, Nat.le_of_ble_eq_true rfl⟩ 1 0 rfl rfl rfl [.int 3, .int 1, .ref t, .ref p1] rfl (Nat.le_of_ble_eq_true rfl) dX1_readItem_71 [0, 1] [2, 3, 4, 5] [4, 5, 0, 1, 2, 3] (fun q5 => [(t, .inr (1, [.ref t_text, .int t_size, .int q5.2.1, .int q5.2.2.1, .int q5.2.2.2.1, .int q5.2.2.2.2])), (t_text, .inl ((xT X) 0, 200, .inl t_text_c)), (p1, .inr (0, [.int q4.1, .int p1_width, .int p1_sunFirst, .int p1_pace, .int p1_nose, .int p1_cats, .int 0, .int p1_sunMay, .int p1_noseMay, .ref p1_starts, .ref p1_habits, .ref p1_leaders])), (p1_starts, .inl ((xT X) 1, 5, .inl p1_starts_c)), (p1_habits, .inl ((xT X) 1, 5, .inl p1_habits_c)), (p1_leaders, .inl ((xT X) 1, 5, .inl p1_leaders_c))]) rfl rfl (by decide) (by decide) (by decide) (fun _ => rfl) (by decide) (fun q5 => [.int q5.1, .ref p1]) (fun _ => rfl) (fun q5 => ?_)
      refine s_put C iX1_readItem_X0 tyX0 tyX0_ok nmX0 2 rfl rfl 1 (by decide) kX1_readItem_64 rfl .int (by decide +kernel) rfl rfl (Nat.le_of_ble_eq_true rfl) [(t, .inr (1, [.ref t_text, .int t_size, .int q5.2.1, .int q5.2.2.1, .int q5.2.2.2.1, .int q5.2.2.2.2])), (t_text, .inl ((xT X) 0, 200, .inl t_text_c)), (p1, .inr (0, [.int q4.1, .int q5.1, .int p1_sunFirst, .int p1_pace, .int p1_nose, .int p1_cats, .int 0, .int p1_sunMay, .int p1_noseMay, .ref p1_starts, .ref p1_habits, .ref p1_leaders])), (p1_starts, .inl ((xT X) 1, 5, .inl p1_starts_c)), (p1_habits, .inl ((xT X) 1, 5, .inl p1_habits_c)), (p1_leaders, .inl ((xT X) 1, 5, .inl p1_leaders_c))] rfl dX1_readItem_74 ?_
      refine s_goto C 135 dX1_readItem_77 (by decide) ?_
      refine s_lv [1] (lv' := [(0, .ref t)]) rfl ?_
      exact bX1_readItem_j135 C hR
    refine s_sw 5 ?_ ?_
    · refine s_aload_n C 2 dX1_readItem_80 rfl rfl ?_
      refine s_iconst C 0 dX1_readItem_81 (by decide) ?_
      refine s_putZ C iX1_readItem_X0 tyX0 tyX0_ok nmX0 2 rfl rfl 7 (by decide) kX1_readItem_67 rfl (by decide +kernel) (Nat.le_of_ble_eq_true rfl) [(t, .inr (1, [.ref t_text, .int t_size, .int q3.1, .int q3.2.1, .int q3.2.2, .int t_fault])), (t_text, .inl ((xT X) 0, 200, .inl t_text_c)), (p1, .inr (0, [.int p1_length, .int p1_width, .int p1_sunFirst, .int p1_pace, .int p1_nose, .int p1_cats, .int 0, .int 0, .int p1_noseMay, .ref p1_starts, .ref p1_habits, .ref p1_leaders])), (p1_starts, .inl ((xT X) 1, 5, .inl p1_starts_c)), (p1_habits, .inl ((xT X) 1, 5, .inl p1_habits_c)), (p1_leaders, .inl ((xT X) 1, 5, .inl p1_leaders_c))] rfl dX1_readItem_82 ?_
      refine s_aload_n C 2 dX1_readItem_85 rfl rfl ?_
      refine s_aload_n C 1 dX1_readItem_86 rfl rfl ?_
      refine s_iconst C 0 dX1_readItem_87 (by decide) ?_
      refine s_bipush C 7 dX1_readItem_88 (by decide) ?_
      refine s_callV (n := 2) C [.int 0, .int 7] _ _ _ (fun q7 hq => c_X1_takeNumber (xL X) (xD X) (xT X) 0 7 t t_text t_size q3.1 q3.2.1 q3.2.2 t_fault t_text_c q7 hq) gX1_readItem_X1_takeNumber rfl rfl rfl ⟨rfl, by decide +kernel, by decide +kernel, by decide +kernel⟩ ⟨Nat.le_of_ble_eq_true rfl, Nat.le_of_ble_eq_true rfl⟩ ⟨Nat.le_of_ble_eq_true rfl, Nat.le_of_ble_eq_true rfl⟩ 1 0 rfl rfl rfl [.int 7, .int 0, .ref t, .ref p1] rfl (Nat.le_of_ble_eq_true rfl) dX1_readItem_90 [0, 1] [2, 3, 4, 5] [4, 5, 0, 1, 2, 3] (fun q7 => [(t, .inr (1, [.ref t_text, .int t_size, .int q7.2.1, .int q7.2.2.1, .int q7.2.2.2.1, .int q7.2.2.2.2])), (t_text, .inl ((xT X) 0, 200, .inl t_text_c)), (p1, .inr (0, [.int p1_length, .int p1_width, .int p1_sunFirst, .int p1_pace, .int p1_nose, .int p1_cats, .int 0, .int 0, .int p1_noseMay, .ref p1_starts, .ref p1_habits, .ref p1_leaders])), (p1_starts, .inl ((xT X) 1, 5, .inl p1_starts_c)), (p1_habits, .inl ((xT X) 1, 5, .inl p1_habits_c)), (p1_leaders, .inl ((xT X) 1, 5, .inl p1_leaders_c))]) rfl rfl (by decide) (by decide) (by decide) (fun _ => rfl) (by decide) (fun q7 => [.int q7.1, .ref p1]) (fun _ => rfl) (fun q7 => ?_)
      refine s_put C iX1_readItem_X0 tyX0 tyX0_ok nmX0 2 rfl rfl 2 (by decide) kX1_readItem_70 rfl .int (by decide +kernel) rfl rfl (Nat.le_of_ble_eq_true rfl) [(t, .inr (1, [.ref t_text, .int t_size, .int q7.2.1, .int q7.2.2.1, .int q7.2.2.2.1, .int q7.2.2.2.2])), (t_text, .inl ((xT X) 0, 200, .inl t_text_c)), (p1, .inr (0, [.int p1_length, .int p1_width, .int q7.1, .int p1_pace, .int p1_nose, .int p1_cats, .int 0, .int 0, .int p1_noseMay, .ref p1_starts, .ref p1_habits, .ref p1_leaders])), (p1_starts, .inl ((xT X) 1, 5, .inl p1_starts_c)), (p1_habits, .inl ((xT X) 1, 5, .inl p1_habits_c)), (p1_leaders, .inl ((xT X) 1, 5, .inl p1_leaders_c))] rfl dX1_readItem_93 ?_
      refine s_aload_n C 2 dX1_readItem_96 rfl rfl ?_
      refine s_aload_n C 1 dX1_readItem_97 rfl rfl ?_
      refine s_iconst C 1 dX1_readItem_98 (by decide) ?_
      refine s_bipush C 9 dX1_readItem_99 (by decide) ?_
      refine s_callV (n := 2) C [.int 1, .int 9] _ _ _ (fun q8 hq => c_X1_takeNumber (xL X) (xD X) (xT X) 1 9 t t_text t_size q7.2.1 q7.2.2.1 q7.2.2.2.1 q7.2.2.2.2 t_text_c q8 hq) gX1_readItem_X1_takeNumber rfl rfl rfl ⟨rfl, by decide +kernel, by decide +kernel, by decide +kernel⟩ ⟨Nat.le_of_ble_eq_true rfl, Nat.le_of_ble_eq_true rfl⟩ ⟨Nat.le_of_ble_eq_true rfl, Nat.le_of_ble_eq_true rfl⟩ 1 0 rfl rfl rfl [.int 9, .int 1, .ref t, .ref p1] rfl (Nat.le_of_ble_eq_true rfl) dX1_readItem_101 [0, 1] [2, 3, 4, 5] [4, 5, 0, 1, 2, 3] (fun q8 => [(t, .inr (1, [.ref t_text, .int t_size, .int q8.2.1, .int q8.2.2.1, .int q8.2.2.2.1, .int q8.2.2.2.2])), (t_text, .inl ((xT X) 0, 200, .inl t_text_c)), (p1, .inr (0, [.int p1_length, .int p1_width, .int q7.1, .int p1_pace, .int p1_nose, .int p1_cats, .int 0, .int 0, .int p1_noseMay, .ref p1_starts, .ref p1_habits, .ref p1_leaders])), (p1_starts, .inl ((xT X) 1, 5, .inl p1_starts_c)), (p1_habits, .inl ((xT X) 1, 5, .inl p1_habits_c)), (p1_leaders, .inl ((xT X) 1, 5, .inl p1_leaders_c))]) rfl rfl (by decide) (by decide) (by decide) (fun _ => rfl) (by decide) (fun q8 => [.int q8.1, .ref p1]) (fun _ => rfl) (fun q8 => ?_)
      refine s_put C iX1_readItem_X0 tyX0 tyX0_ok nmX0 2 rfl rfl 3 (by decide) kX1_readItem_73 rfl .int (by decide +kernel) rfl rfl (Nat.le_of_ble_eq_true rfl) [(t, .inr (1, [.ref t_text, .int t_size, .int q8.2.1, .int q8.2.2.1, .int q8.2.2.2.1, .int q8.2.2.2.2])), (t_text, .inl ((xT X) 0, 200, .inl t_text_c)), (p1, .inr (0, [.int p1_length, .int p1_width, .int q7.1, .int q8.1, .int p1_nose, .int p1_cats, .int 0, .int 0, .int p1_noseMay, .ref p1_starts, .ref p1_habits, .ref p1_leaders])), (p1_starts, .inl ((xT X) 1, 5, .inl p1_starts_c)), (p1_habits, .inl ((xT X) 1, 5, .inl p1_habits_c)), (p1_leaders, .inl ((xT X) 1, 5, .inl p1_leaders_c))] rfl dX1_readItem_104 ?_
      refine s_goto C 135 dX1_readItem_107 (by decide) ?_
      refine s_lv [1] (lv' := [(0, .ref t)]) rfl ?_
      exact bX1_readItem_j135 C hR
    refine s_sw 6 ?_ ?_
    · refine s_aload_n C 2 dX1_readItem_110 rfl rfl ?_
      refine s_iconst C 0 dX1_readItem_111 (by decide) ?_
      refine s_putZ C iX1_readItem_X0 tyX0 tyX0_ok nmX0 2 rfl rfl 8 (by decide) kX1_readItem_76 rfl (by decide +kernel) (Nat.le_of_ble_eq_true rfl) [(t, .inr (1, [.ref t_text, .int t_size, .int q3.1, .int q3.2.1, .int q3.2.2, .int t_fault])), (t_text, .inl ((xT X) 0, 200, .inl t_text_c)), (p1, .inr (0, [.int p1_length, .int p1_width, .int p1_sunFirst, .int p1_pace, .int p1_nose, .int p1_cats, .int 0, .int p1_sunMay, .int 0, .ref p1_starts, .ref p1_habits, .ref p1_leaders])), (p1_starts, .inl ((xT X) 1, 5, .inl p1_starts_c)), (p1_habits, .inl ((xT X) 1, 5, .inl p1_habits_c)), (p1_leaders, .inl ((xT X) 1, 5, .inl p1_leaders_c))] rfl dX1_readItem_112 ?_
      refine s_aload_n C 2 dX1_readItem_115 rfl rfl ?_
      refine s_aload_n C 1 dX1_readItem_116 rfl rfl ?_
      refine s_iconst C 0 dX1_readItem_117 (by decide) ?_
      refine s_bipush C 9 dX1_readItem_118 (by decide) ?_
      refine s_callV (n := 2) C [.int 0, .int 9] _ _ _ (fun q9 hq => c_X1_takeNumber (xL X) (xD X) (xT X) 0 9 t t_text t_size q3.1 q3.2.1 q3.2.2 t_fault t_text_c q9 hq) gX1_readItem_X1_takeNumber rfl rfl rfl ⟨rfl, by decide +kernel, by decide +kernel, by decide +kernel⟩ ⟨Nat.le_of_ble_eq_true rfl, Nat.le_of_ble_eq_true rfl⟩ ⟨Nat.le_of_ble_eq_true rfl, Nat.le_of_ble_eq_true rfl⟩ 1 0 rfl rfl rfl [.int 9, .int 0, .ref t, .ref p1] rfl (Nat.le_of_ble_eq_true rfl) dX1_readItem_120 [0, 1] [2, 3, 4, 5] [4, 5, 0, 1, 2, 3] (fun q9 => [(t, .inr (1, [.ref t_text, .int t_size, .int q9.2.1, .int q9.2.2.1, .int q9.2.2.2.1, .int q9.2.2.2.2])), (t_text, .inl ((xT X) 0, 200, .inl t_text_c)), (p1, .inr (0, [.int p1_length, .int p1_width, .int p1_sunFirst, .int p1_pace, .int p1_nose, .int p1_cats, .int 0, .int p1_sunMay, .int 0, .ref p1_starts, .ref p1_habits, .ref p1_leaders])), (p1_starts, .inl ((xT X) 1, 5, .inl p1_starts_c)), (p1_habits, .inl ((xT X) 1, 5, .inl p1_habits_c)), (p1_leaders, .inl ((xT X) 1, 5, .inl p1_leaders_c))]) rfl rfl (by decide) (by decide) (by decide) (fun _ => rfl) (by decide) (fun q9 => [.int q9.1, .ref p1]) (fun _ => rfl) (fun q9 => ?_)
      refine s_put C iX1_readItem_X0 tyX0 tyX0_ok nmX0 2 rfl rfl 4 (by decide) kX1_readItem_79 rfl .int (by decide +kernel) rfl rfl (Nat.le_of_ble_eq_true rfl) [(t, .inr (1, [.ref t_text, .int t_size, .int q9.2.1, .int q9.2.2.1, .int q9.2.2.2.1, .int q9.2.2.2.2])), (t_text, .inl ((xT X) 0, 200, .inl t_text_c)), (p1, .inr (0, [.int p1_length, .int p1_width, .int p1_sunFirst, .int p1_pace, .int q9.1, .int p1_cats, .int 0, .int p1_sunMay, .int 0, .ref p1_starts, .ref p1_habits, .ref p1_leaders])), (p1_starts, .inl ((xT X) 1, 5, .inl p1_starts_c)), (p1_habits, .inl ((xT X) 1, 5, .inl p1_habits_c)), (p1_leaders, .inl ((xT X) 1, 5, .inl p1_leaders_c))] rfl dX1_readItem_123 ?_
      refine s_goto C 135 dX1_readItem_126 (by decide) ?_
      refine s_lv [1] (lv' := [(0, .ref t)]) rfl ?_
      exact bX1_readItem_j135 C hR
    refine s_sw0 ?_
    refine s_aload_n C 1 dX1_readItem_129 rfl rfl ?_
    refine s_aload_n C 2 dX1_readItem_130 rfl rfl ?_
    refine s_iload_n C 0 dX1_readItem_131 rfl rfl ?_
    refine s_callV (n := 2) C [.ref p1, .int q1] _ _ _ (fun q10 hq => c_X1_readCat (xL X) (xD X) (xT X) q1 t p1 t_text t_size q3.1 q3.2.1 q3.2.2 t_fault t_text_c p1_length p1_width p1_sunFirst p1_pace p1_nose p1_cats 0 p1_sunMay p1_noseMay p1_starts p1_habits p1_leaders p1_starts_c p1_habits_c p1_leaders_c q10 hq) gX1_readItem_X1_readCat rfl rfl rfl ⟨rfl, by decide +kernel, by decide +kernel, by decide +kernel⟩ ⟨Nat.le_of_ble_eq_true rfl, Nat.le_of_ble_eq_true rfl⟩ ⟨Nat.le_of_ble_eq_true rfl, Nat.le_of_ble_eq_true rfl⟩ 1 0 rfl rfl rfl [.int q1, .ref p1, .ref t] rfl (Nat.le_of_ble_eq_true rfl) dX1_readItem_132 [0, 1, 2, 3, 4, 5] [] [0, 1, 2, 3, 4, 5] (fun q10 => [(t, .inr (1, [.ref t_text, .int t_size, .int q10.1, .int q10.2.1, .int q10.2.2.1, .int q10.2.2.2.1])), (t_text, .inl ((xT X) 0, 200, .inl t_text_c)), (p1, .inr (0, [.int p1_length, .int p1_width, .int p1_sunFirst, .int p1_pace, .int p1_nose, .int q10.2.2.2.2.1, .int 0, .int p1_sunMay, .int p1_noseMay, .ref p1_starts, .ref p1_habits, .ref p1_leaders])), (p1_starts, .inl ((xT X) 1, 5, .inl q10.2.2.2.2.2.1)), (p1_habits, .inl ((xT X) 1, 5, .inl q10.2.2.2.2.2.2.1)), (p1_leaders, .inl ((xT X) 1, 5, .inl q10.2.2.2.2.2.2.2))]) rfl rfl (by decide) (by decide) (by decide) (fun _ => rfl) (by decide) (fun q10 => []) (fun _ => rfl) (fun q10 => ?_)
    refine s_lv [1] (lv' := [(0, .ref t)]) rfl ?_
    exact bX1_readItem_j135 C hR
  · refine s_aload_n C 1 dX1_readItem_13 rfl rfl ?_
    refine s_callV (n := 0) C [] _ _ _ (fun q11 hq => c_X1_fail (xL X) (xD X) (xT X) t (.ref t_text) t_size t_token t_start t_end t_fault q11 hq) gX1_readItem_X1_fail rfl rfl rfl ⟨rfl, by decide +kernel, by decide +kernel, by decide +kernel⟩ ⟨Nat.le_of_ble_eq_true rfl, Nat.le_of_ble_eq_true rfl⟩ ⟨Nat.le_of_ble_eq_true rfl, Nat.le_of_ble_eq_true rfl⟩ 1 0 rfl rfl rfl [.ref t] rfl (Nat.le_of_ble_eq_true rfl) dX1_readItem_14 [0] [1, 2, 3, 4, 5] [5, 0, 1, 2, 3, 4] (fun q11 => [(t, .inr (1, [.ref t_text, .int t_size, .int t_token, .int t_start, .int t_end, .int q11])), (t_text, .inl ((xT X) 0, 200, .inl t_text_c)), (p1, .inr (0, [.int p1_length, .int p1_width, .int p1_sunFirst, .int p1_pace, .int p1_nose, .int p1_cats, .int p1_bridgeMay, .int p1_sunMay, .int p1_noseMay, .ref p1_starts, .ref p1_habits, .ref p1_leaders])), (p1_starts, .inl ((xT X) 1, 5, .inl p1_starts_c)), (p1_habits, .inl ((xT X) 1, 5, .inl p1_habits_c)), (p1_leaders, .inl ((xT X) 1, 5, .inl p1_leaders_c))]) rfl rfl (by decide) (by decide) (by decide) (fun _ => rfl) (by decide) (fun q11 => []) (fun _ => rfl) (fun q11 => ?_)
    exact s_retV hR (t_token, t_start, t_end, q11, p1_length, p1_width, p1_sunFirst, p1_pace, p1_nose, p1_cats, p1_bridgeMay, p1_sunMay, p1_noseMay, p1_starts_c, p1_habits_c, p1_leaders_c) rfl rfl dX1_readItem_17
theorem c_X1_readItem (l : Launch) (D : va_G) (T : Nat → ClassId) (t : Nat) (p1 : Nat) (t_text : Nat) (t_size : Int32) (t_token : Int32) (t_start : Int32) (t_end : Int32) (t_fault : Int32) (t_text_c : Nat → Int32) (p1_length : Int32) (p1_width : Int32) (p1_sunFirst : Int32) (p1_pace : Int32) (p1_nose : Int32) (p1_cats : Int32) (p1_bridgeMay : Int32) (p1_sunMay : Int32) (p1_noseMay : Int32) (p1_starts : Nat) (p1_habits : Nat) (p1_leaders : Nat) (p1_starts_c : Nat → Int32) (p1_habits_c : Nat → Int32) (p1_leaders_c : Nat → Int32) : ∀ q : Int32 × Int32 × Int32 × Int32 × Int32 × Int32 × Int32 × Int32 × Int32 × Int32 × Int32 × Int32 × Int32 × (Nat → Int32) × (Nat → Int32) × (Nat → Int32), m_X1_readItem t_size t_token t_start t_end t_fault t_text_c p1_length p1_width p1_sunFirst p1_pace p1_nose p1_cats p1_bridgeMay p1_sunMay p1_noseMay p1_starts_c p1_habits_c p1_leaders_c = some q → Ct l yX1_readItem wsX1_readItem { frames := 8, cells := 0, slots := 0, locals := 242 } [.ref t, .ref p1] D T [(t, .inr (1, [.ref t_text, .int t_size, .int t_token, .int t_start, .int t_end, .int t_fault])), (t_text, .inl (T 0, 200, .inl t_text_c)), (p1, .inr (0, [.int p1_length, .int p1_width, .int p1_sunFirst, .int p1_pace, .int p1_nose, .int p1_cats, .int p1_bridgeMay, .int p1_sunMay, .int p1_noseMay, .ref p1_starts, .ref p1_habits, .ref p1_leaders])), (p1_starts, .inl (T 1, 5, .inl p1_starts_c)), (p1_habits, .inl (T 1, 5, .inl p1_habits_c)), (p1_leaders, .inl (T 1, 5, .inl p1_leaders_c))] ((fun _ => none) q) (w1_X1_readItem T t p1 t_text t_size t_text_c p1_starts p1_habits p1_leaders q) := by
  refine ct_V (by decide) rfl (Nat.le_of_ble_eq_true rfl) (m_X1_readItem t_size t_token t_start t_end t_fault t_text_c p1_length p1_width p1_sunFirst p1_pace p1_nose p1_cats p1_bridgeMay p1_sunMay p1_noseMay p1_starts_c p1_habits_c p1_leaders_c) (fun _ => none) (w1_X1_readItem T t p1 t_text t_size t_text_c p1_starts p1_habits p1_leaders) ?_
  intro X Qf hL hD hT C hR
  subst hT
  exact b_X1_readItem C hR
theorem iX1_readAll_X1 : ∀ w ∈ u_ws RX1 TX1 6, w ∈ wsX1_readAll := by decide +kernel
theorem kX1_readAll_21 : Cond.fieldLink RX1 21 "NineCats$Reader" "size" "I" ∈ wsX1_readAll := by decide +kernel
theorem kX1_readAll_25 : Cond.fieldLink RX1 25 "NineCats$Reader" "end" "I" ∈ wsX1_readAll := by decide +kernel
theorem kX1_readAll_28 : Cond.fieldLink RX1 28 "NineCats$Reader" "fault" "I" ∈ wsX1_readAll := by decide +kernel
theorem kX1_readAll_34 : Cond.fieldLink RX1 34 "NineCats$Reader" "token" "I" ∈ wsX1_readAll := by decide +kernel
theorem kX1_readAll_9 : Cond.fieldLink RX1 9 "NineCats$Reader" "text" "[B" ∈ wsX1_readAll := by decide +kernel
theorem mX1_readAll_15a : Cond.methodLink RX1 15 Lib.Math.min.name ∈ wsX1_readAll := by decide +kernel
theorem mX1_readAll_15b : Cond.static Lib.Math.min.name ∈ wsX1_readAll := by decide +kernel
theorem mX1_readAll_15c : Cond.initialized "java/lang/Math" ∈ wsX1_readAll := by decide +kernel
theorem mX1_readAll_15d : Cond.code Lib.Math.min.name Lib.Math.min.code 2 (some .int) ∈ wsX1_readAll := by decide +kernel
abbrev w1_X1_readAll (T : Nat → ClassId) (t : Nat) (p1 : Nat) (p3 : Nat) (t_text : Value) (p1_c : Nat → Int32) (p3_starts : Nat) (p3_habits : Nat) (p3_leaders : Nat) (q : Int32 × Int32 × Int32 × Int32 × Int32 × Int32 × Int32 × Int32 × Int32 × Int32 × Int32 × Int32 × Int32 × Int32 × Int32 × (Nat → Int32) × (Nat → Int32) × (Nat → Int32)) : va_W := [(t, .inr (1, [.ref p1, .int q.2.1, .int q.2.2.1, .int q.2.2.2.1, .int q.2.2.2.2.1, .int q.2.2.2.2.2.1])), (p1, .inl (T 0, 200, .inl p1_c)), (p3, .inr (0, [.int q.2.2.2.2.2.2.1, .int q.2.2.2.2.2.2.2.1, .int q.2.2.2.2.2.2.2.2.1, .int q.2.2.2.2.2.2.2.2.2.1, .int q.2.2.2.2.2.2.2.2.2.2.1, .int q.2.2.2.2.2.2.2.2.2.2.2.1, .int q.2.2.2.2.2.2.2.2.2.2.2.2.1, .int q.2.2.2.2.2.2.2.2.2.2.2.2.2.1, .int q.2.2.2.2.2.2.2.2.2.2.2.2.2.2.1, .ref p3_starts, .ref p3_habits, .ref p3_leaders])), (p3_starts, .inl (T 1, 5, .inl q.2.2.2.2.2.2.2.2.2.2.2.2.2.2.2.1)), (p3_habits, .inl (T 1, 5, .inl q.2.2.2.2.2.2.2.2.2.2.2.2.2.2.2.2.1)), (p3_leaders, .inl (T 1, 5, .inl q.2.2.2.2.2.2.2.2.2.2.2.2.2.2.2.2.2))]
noncomputable def X1_readAll_f43 (t_size : Int32) (p1_c : Nat → Int32) (kx43_81 : Int32 → Int32 → Int32 → Int32 → Int32 → Int32 → Int32 → Int32 → Int32 → Int32 → Int32 → Int32 → Int32 → Int32 → (Nat → Int32) → (Nat → Int32) → (Nat → Int32) → Option (Int32 × Int32 × Int32 × Int32 × Int32 × Int32 × Int32 × Int32 × Int32 × Int32 × Int32 × Int32 × Int32 × Int32 × Int32 × (Nat → Int32) × (Nat → Int32) × (Nat → Int32))) (rec43 : Int32 → Int32 → Int32 → Int32 → Int32 → Int32 → Int32 → Int32 → Int32 → Int32 → Int32 → Int32 → Int32 → Int32 → Int32 → (Nat → Int32) → (Nat → Int32) → (Nat → Int32) → Option (Int32 × Int32 × Int32 × Int32 × Int32 × Int32 × Int32 × Int32 × Int32 × Int32 × Int32 × Int32 × Int32 × Int32 × Int32 × (Nat → Int32) × (Nat → Int32) × (Nat → Int32))) (x4 : Int32) (x5 : Int32) (t_token : Int32) (t_start : Int32) (t_end : Int32) (t_fault : Int32) (p3_length : Int32) (p3_width : Int32) (p3_sunFirst : Int32) (p3_pace : Int32) (p3_nose : Int32) (p3_cats : Int32) (p3_bridgeMay : Int32) (p3_sunMay : Int32) (p3_noseMay : Int32) (p3_starts_c : Nat → Int32) (p3_habits_c : Nat → Int32) (p3_leaders_c : Nat → Int32) : Option (Int32 × Int32 × Int32 × Int32 × Int32 × Int32 × Int32 × Int32 × Int32 × Int32 × Int32 × Int32 × Int32 × Int32 × Int32 × (Nat → Int32) × (Nat → Int32) × (Nat → Int32)) :=
  if t_size < x5 then (kx43_81 x4 t_token t_start t_end t_fault p3_length p3_width p3_sunFirst p3_pace p3_nose p3_cats p3_bridgeMay p3_sunMay p3_noseMay p3_starts_c p3_habits_c p3_leaders_c) else (if t_token = 0 then (kx43_81 x4 t_token t_start t_end t_fault p3_length p3_width p3_sunFirst p3_pace p3_nose p3_cats p3_bridgeMay p3_sunMay p3_noseMay p3_starts_c p3_habits_c p3_leaders_c) else (if t_fault = (-1) then ((m_X1_readItem t_size t_token t_start t_end t_fault p1_c p3_length p3_width p3_sunFirst p3_pace p3_nose p3_cats p3_bridgeMay p3_sunMay p3_noseMay p3_starts_c p3_habits_c p3_leaders_c).bind (fun q3 => rec43 (x4 + 1) (x5 + 1) q3.1 q3.2.1 q3.2.2.1 q3.2.2.2.1 q3.2.2.2.2.1 q3.2.2.2.2.2.1 q3.2.2.2.2.2.2.1 q3.2.2.2.2.2.2.2.1 q3.2.2.2.2.2.2.2.2.1 q3.2.2.2.2.2.2.2.2.2.1 q3.2.2.2.2.2.2.2.2.2.2.1 q3.2.2.2.2.2.2.2.2.2.2.2.1 q3.2.2.2.2.2.2.2.2.2.2.2.2.1 q3.2.2.2.2.2.2.2.2.2.2.2.2.2.1 q3.2.2.2.2.2.2.2.2.2.2.2.2.2.2.1 q3.2.2.2.2.2.2.2.2.2.2.2.2.2.2.2)) else (kx43_81 x4 t_token t_start t_end t_fault p3_length p3_width p3_sunFirst p3_pace p3_nose p3_cats p3_bridgeMay p3_sunMay p3_noseMay p3_starts_c p3_habits_c p3_leaders_c)))
set_option maxHeartbeats 4000000 in
theorem bX1_readAll_f43 {X : KX} {Qf : Int32 × Int32 × Int32 × Int32 × Int32 × Int32 × Int32 × Int32 × Int32 × Int32 × Int32 × Int32 × Int32 × Int32 × Int32 × (Nat → Int32) × (Nat → Int32) × (Nat → Int32) → State → Prop} {t : Nat} {p1 : Nat} {p3 : Nat} {t_text : Value} {t_size : Int32} {p1_c : Nat → Int32} {p3_starts : Nat} {p3_habits : Nat} {p3_leaders : Nat} (C : Cx X cX1_readAll RX1 wsX1_readAll 6 { frames := 9, cells := 0, slots := 0, locals := 264 }) (hR : RtI X Qf cX1_readAll 6 (fun q => some (.int q.1)) (w1_X1_readAll (xT X) t p1 p3 t_text p1_c p3_starts p3_habits p3_leaders)) (kx43_81 : Int32 → Int32 → Int32 → Int32 → Int32 → Int32 → Int32 → Int32 → Int32 → Int32 → Int32 → Int32 → Int32 → Int32 → (Nat → Int32) → (Nat → Int32) → (Nat → Int32) → Option (Int32 × Int32 × Int32 × Int32 × Int32 × Int32 × Int32 × Int32 × Int32 × Int32 × Int32 × Int32 × Int32 × Int32 × Int32 × (Nat → Int32) × (Nat → Int32) × (Nat → Int32))) (hkx43_81 : ∀ (x4 : Int32) (t_token : Int32) (t_start : Int32) (t_end : Int32) (t_fault : Int32) (p3_length : Int32) (p3_width : Int32) (p3_sunFirst : Int32) (p3_pace : Int32) (p3_nose : Int32) (p3_cats : Int32) (p3_bridgeMay : Int32) (p3_sunMay : Int32) (p3_noseMay : Int32) (p3_starts_c : Nat → Int32) (p3_habits_c : Nat → Int32) (p3_leaders_c : Nat → Int32), Sim X Qf 0 0 6 (kx43_81 x4 t_token t_start t_end t_fault p3_length p3_width p3_sunFirst p3_pace p3_nose p3_cats p3_bridgeMay p3_sunMay p3_noseMay p3_starts_c p3_habits_c p3_leaders_c) [(t, .inr (1, [.ref p1, .int t_size, .int t_token, .int t_start, .int t_end, .int t_fault])), (p1, .inl ((xT X) 0, 200, .inl p1_c)), (p3, .inr (0, [.int p3_length, .int p3_width, .int p3_sunFirst, .int p3_pace, .int p3_nose, .int p3_cats, .int p3_bridgeMay, .int p3_sunMay, .int p3_noseMay, .ref p3_starts, .ref p3_habits, .ref p3_leaders])), (p3_starts, .inl ((xT X) 1, 5, .inl p3_starts_c)), (p3_habits, .inl ((xT X) 1, 5, .inl p3_habits_c)), (p3_leaders, .inl ((xT X) 1, 5, .inl p3_leaders_c))] 81 [(0, .ref t), (4, .int x4)] []) (rec43 : Int32 → Int32 → Int32 → Int32 → Int32 → Int32 → Int32 → Int32 → Int32 → Int32 → Int32 → Int32 → Int32 → Int32 → Int32 → (Nat → Int32) → (Nat → Int32) → (Nat → Int32) → Option (Int32 × Int32 × Int32 × Int32 × Int32 × Int32 × Int32 × Int32 × Int32 × Int32 × Int32 × Int32 × Int32 × Int32 × Int32 × (Nat → Int32) × (Nat → Int32) × (Nat → Int32))) (hrec43 : ∀ (x4 : Int32) (x5 : Int32) (t_token : Int32) (t_start : Int32) (t_end : Int32) (t_fault : Int32) (p3_length : Int32) (p3_width : Int32) (p3_sunFirst : Int32) (p3_pace : Int32) (p3_nose : Int32) (p3_cats : Int32) (p3_bridgeMay : Int32) (p3_sunMay : Int32) (p3_noseMay : Int32) (p3_starts_c : Nat → Int32) (p3_habits_c : Nat → Int32) (p3_leaders_c : Nat → Int32), Sim X Qf 0 0 6 (rec43 x4 x5 t_token t_start t_end t_fault p3_length p3_width p3_sunFirst p3_pace p3_nose p3_cats p3_bridgeMay p3_sunMay p3_noseMay p3_starts_c p3_habits_c p3_leaders_c) [(t, .inr (1, [.ref p1, .int t_size, .int t_token, .int t_start, .int t_end, .int t_fault])), (p1, .inl ((xT X) 0, 200, .inl p1_c)), (p3, .inr (0, [.int p3_length, .int p3_width, .int p3_sunFirst, .int p3_pace, .int p3_nose, .int p3_cats, .int p3_bridgeMay, .int p3_sunMay, .int p3_noseMay, .ref p3_starts, .ref p3_habits, .ref p3_leaders])), (p3_starts, .inl ((xT X) 1, 5, .inl p3_starts_c)), (p3_habits, .inl ((xT X) 1, 5, .inl p3_habits_c)), (p3_leaders, .inl ((xT X) 1, 5, .inl p3_leaders_c))] 43 [(0, .ref t), (3, .ref p3), (4, .int x4), (5, .int x5)] []) (x4 : Int32) (x5 : Int32) (t_token : Int32) (t_start : Int32) (t_end : Int32) (t_fault : Int32) (p3_length : Int32) (p3_width : Int32) (p3_sunFirst : Int32) (p3_pace : Int32) (p3_nose : Int32) (p3_cats : Int32) (p3_bridgeMay : Int32) (p3_sunMay : Int32) (p3_noseMay : Int32) (p3_starts_c : Nat → Int32) (p3_habits_c : Nat → Int32) (p3_leaders_c : Nat → Int32) : Sim X Qf 0 0 6 (X1_readAll_f43 t_size p1_c kx43_81 rec43 x4 x5 t_token t_start t_end t_fault p3_length p3_width p3_sunFirst p3_pace p3_nose p3_cats p3_bridgeMay p3_sunMay p3_noseMay p3_starts_c p3_habits_c p3_leaders_c) [(t, .inr (1, [.ref p1, .int t_size, .int t_token, .int t_start, .int t_end, .int t_fault])), (p1, .inl ((xT X) 0, 200, .inl p1_c)), (p3, .inr (0, [.int p3_length, .int p3_width, .int p3_sunFirst, .int p3_pace, .int p3_nose, .int p3_cats, .int p3_bridgeMay, .int p3_sunMay, .int p3_noseMay, .ref p3_starts, .ref p3_habits, .ref p3_leaders])), (p3_starts, .inl ((xT X) 1, 5, .inl p3_starts_c)), (p3_habits, .inl ((xT X) 1, 5, .inl p3_habits_c)), (p3_leaders, .inl ((xT X) 1, 5, .inl p3_leaders_c))] 43 [(0, .ref t), (3, .ref p3), (4, .int x4), (5, .int x5)] [] := by
  unfold X1_readAll_f43
  refine s_iload C 3 dX1_readAll_43 rfl ?_
  refine s_aload_n C 0 dX1_readAll_45 rfl rfl ?_
  refine s_get C iX1_readAll_X1 0 rfl rfl 1 (by decide) kX1_readAll_21 (.int t_size) rfl dX1_readAll_46 ?_
  refine s_icmp_gt C 81 dX1_readAll_49 (by decide) ?_ ?_
  · refine s_lv [0, 2] (lv' := [(0, .ref t), (4, .int x4)]) rfl ?_
    exact hkx43_81 x4 t_token t_start t_end t_fault p3_length p3_width p3_sunFirst p3_pace p3_nose p3_cats p3_bridgeMay p3_sunMay p3_noseMay p3_starts_c p3_habits_c p3_leaders_c
  · refine s_aload_n C 0 dX1_readAll_52 rfl rfl ?_
    refine s_get C iX1_readAll_X1 0 rfl rfl 2 (by decide) kX1_readAll_34 (.int t_token) rfl dX1_readAll_53 ?_
    refine s_if_eq C 81 dX1_readAll_56 (by decide) ?_ ?_
    · refine s_lv [0, 2] (lv' := [(0, .ref t), (4, .int x4)]) rfl ?_
      exact hkx43_81 x4 t_token t_start t_end t_fault p3_length p3_width p3_sunFirst p3_pace p3_nose p3_cats p3_bridgeMay p3_sunMay p3_noseMay p3_starts_c p3_habits_c p3_leaders_c
    · refine s_aload_n C 0 dX1_readAll_59 rfl rfl ?_
      refine s_get C iX1_readAll_X1 0 rfl rfl 5 (by decide) kX1_readAll_28 (.int t_fault) rfl dX1_readAll_60 ?_
      refine s_iconst C (-1) dX1_readAll_63 (by decide) ?_
      refine s_icmp_ne C 81 dX1_readAll_64 (by decide) ?_ ?_
      · refine s_lv [0, 2] (lv' := [(0, .ref t), (4, .int x4)]) rfl ?_
        exact hkx43_81 x4 t_token t_start t_end t_fault p3_length p3_width p3_sunFirst p3_pace p3_nose p3_cats p3_bridgeMay p3_sunMay p3_noseMay p3_starts_c p3_habits_c p3_leaders_c
      · refine s_aload_n C 0 dX1_readAll_67 rfl rfl ?_
        refine s_aload_n C 1 dX1_readAll_68 rfl rfl ?_
        refine s_callV (n := 1) C [.ref p3] _ _ _ (fun q3 hq => c_X1_readItem (xL X) (xD X) (xT X) t p3 p1 t_size t_token t_start t_end t_fault p1_c p3_length p3_width p3_sunFirst p3_pace p3_nose p3_cats p3_bridgeMay p3_sunMay p3_noseMay p3_starts p3_habits p3_leaders p3_starts_c p3_habits_c p3_leaders_c q3 hq) gX1_readAll_X1_readItem rfl rfl rfl ⟨rfl, by decide +kernel, by decide +kernel, by decide +kernel⟩ ⟨Nat.le_of_ble_eq_true rfl, Nat.le_of_ble_eq_true rfl⟩ ⟨Nat.le_of_ble_eq_true rfl, Nat.le_of_ble_eq_true rfl⟩ 1 0 rfl rfl rfl [.ref p3, .ref t] rfl (Nat.le_of_ble_eq_true rfl) dX1_readAll_69 [0, 1, 2, 3, 4, 5] [] [0, 1, 2, 3, 4, 5] (fun q3 => [(t, .inr (1, [.ref p1, .int t_size, .int q3.1, .int q3.2.1, .int q3.2.2.1, .int q3.2.2.2.1])), (p1, .inl ((xT X) 0, 200, .inl p1_c)), (p3, .inr (0, [.int q3.2.2.2.2.1, .int q3.2.2.2.2.2.1, .int q3.2.2.2.2.2.2.1, .int q3.2.2.2.2.2.2.2.1, .int q3.2.2.2.2.2.2.2.2.1, .int q3.2.2.2.2.2.2.2.2.2.1, .int q3.2.2.2.2.2.2.2.2.2.2.1, .int q3.2.2.2.2.2.2.2.2.2.2.2.1, .int q3.2.2.2.2.2.2.2.2.2.2.2.2.1, .ref p3_starts, .ref p3_habits, .ref p3_leaders])), (p3_starts, .inl ((xT X) 1, 5, .inl q3.2.2.2.2.2.2.2.2.2.2.2.2.2.1)), (p3_habits, .inl ((xT X) 1, 5, .inl q3.2.2.2.2.2.2.2.2.2.2.2.2.2.2.1)), (p3_leaders, .inl ((xT X) 1, 5, .inl q3.2.2.2.2.2.2.2.2.2.2.2.2.2.2.2))]) rfl rfl (by decide) (by decide) (by decide) (fun _ => rfl) (by decide) (fun q3 => []) (fun _ => rfl) (fun q3 => ?_)
        refine s_iinc C [(4, .int (x4 + 1)), (0, .ref t), (3, .ref p3), (5, .int x5)] 2 dX1_readAll_72 rfl (congrArg (fun z => x4 + z) (show Int32.ofInt 1 = 1 by decide)) (by decide) rfl ?_
        refine s_iinc C [(5, .int (x5 + 1)), (4, .int (x4 + 1)), (0, .ref t), (3, .ref p3)] 3 dX1_readAll_75 rfl (congrArg (fun z => x5 + z) (show Int32.ofInt 1 = 1 by decide)) (by decide) rfl ?_
        refine s_goto C 43 dX1_readAll_78 (by decide) ?_
        refine s_lv [2, 3, 1, 0] (lv' := [(0, .ref t), (3, .ref p3), (4, .int (x4 + 1)), (5, .int (x5 + 1))]) rfl ?_
        exact hrec43 (x4 + 1) (x5 + 1) q3.1 q3.2.1 q3.2.2.1 q3.2.2.2.1 q3.2.2.2.2.1 q3.2.2.2.2.2.1 q3.2.2.2.2.2.2.1 q3.2.2.2.2.2.2.2.1 q3.2.2.2.2.2.2.2.2.1 q3.2.2.2.2.2.2.2.2.2.1 q3.2.2.2.2.2.2.2.2.2.2.1 q3.2.2.2.2.2.2.2.2.2.2.2.1 q3.2.2.2.2.2.2.2.2.2.2.2.2.1 q3.2.2.2.2.2.2.2.2.2.2.2.2.2.1 q3.2.2.2.2.2.2.2.2.2.2.2.2.2.2.1 q3.2.2.2.2.2.2.2.2.2.2.2.2.2.2.2
noncomputable def X1_readAll_j81  (x4 : Int32) (t_size : Int32) (t_token : Int32) (t_start : Int32) (t_end : Int32) (t_fault : Int32) (p3_length : Int32) (p3_width : Int32) (p3_sunFirst : Int32) (p3_pace : Int32) (p3_nose : Int32) (p3_cats : Int32) (p3_bridgeMay : Int32) (p3_sunMay : Int32) (p3_noseMay : Int32) (p3_starts_c : Nat → Int32) (p3_habits_c : Nat → Int32) (p3_leaders_c : Nat → Int32) : Option (Int32 × Int32 × Int32 × Int32 × Int32 × Int32 × Int32 × Int32 × Int32 × Int32 × Int32 × Int32 × Int32 × Int32 × Int32 × (Nat → Int32) × (Nat → Int32) × (Nat → Int32)) :=
  if t_fault = (-1) then (some (x4, t_size, t_token, t_start, t_end, t_fault, p3_length, p3_width, p3_sunFirst, p3_pace, p3_nose, p3_cats, p3_bridgeMay, p3_sunMay, p3_noseMay, p3_starts_c, p3_habits_c, p3_leaders_c)) else (some (((-10) - t_fault), t_size, t_token, t_start, t_end, t_fault, p3_length, p3_width, p3_sunFirst, p3_pace, p3_nose, p3_cats, p3_bridgeMay, p3_sunMay, p3_noseMay, p3_starts_c, p3_habits_c, p3_leaders_c))
set_option maxHeartbeats 4000000 in
theorem bX1_readAll_j81 {X : KX} {Qf : Int32 × Int32 × Int32 × Int32 × Int32 × Int32 × Int32 × Int32 × Int32 × Int32 × Int32 × Int32 × Int32 × Int32 × Int32 × (Nat → Int32) × (Nat → Int32) × (Nat → Int32) → State → Prop} {x4 : Int32} {t : Nat} {p1 : Nat} {p3 : Nat} {t_text : Value} {t_size : Int32} {t_token : Int32} {t_start : Int32} {t_end : Int32} {t_fault : Int32} {p1_c : Nat → Int32} {p3_length : Int32} {p3_width : Int32} {p3_sunFirst : Int32} {p3_pace : Int32} {p3_nose : Int32} {p3_cats : Int32} {p3_bridgeMay : Int32} {p3_sunMay : Int32} {p3_noseMay : Int32} {p3_starts : Nat} {p3_habits : Nat} {p3_leaders : Nat} {p3_starts_c : Nat → Int32} {p3_habits_c : Nat → Int32} {p3_leaders_c : Nat → Int32} (C : Cx X cX1_readAll RX1 wsX1_readAll 6 { frames := 9, cells := 0, slots := 0, locals := 264 }) (hR : RtI X Qf cX1_readAll 6 (fun q => some (.int q.1)) (w1_X1_readAll (xT X) t p1 p3 t_text p1_c p3_starts p3_habits p3_leaders))  : Sim X Qf 0 0 6 (X1_readAll_j81 x4 t_size t_token t_start t_end t_fault p3_length p3_width p3_sunFirst p3_pace p3_nose p3_cats p3_bridgeMay p3_sunMay p3_noseMay p3_starts_c p3_habits_c p3_leaders_c) [(t, .inr (1, [.ref p1, .int t_size, .int t_token, .int t_start, .int t_end, .int t_fault])), (p1, .inl ((xT X) 0, 200, .inl p1_c)), (p3, .inr (0, [.int p3_length, .int p3_width, .int p3_sunFirst, .int p3_pace, .int p3_nose, .int p3_cats, .int p3_bridgeMay, .int p3_sunMay, .int p3_noseMay, .ref p3_starts, .ref p3_habits, .ref p3_leaders])), (p3_starts, .inl ((xT X) 1, 5, .inl p3_starts_c)), (p3_habits, .inl ((xT X) 1, 5, .inl p3_habits_c)), (p3_leaders, .inl ((xT X) 1, 5, .inl p3_leaders_c))] 81 [(0, .ref t), (4, .int x4)] [] := by
  unfold X1_readAll_j81
  refine s_aload_n C 0 dX1_readAll_81 rfl rfl ?_
  refine s_get C iX1_readAll_X1 0 rfl rfl 5 (by decide) kX1_readAll_28 (.int t_fault) rfl dX1_readAll_82 ?_
  refine s_iconst C (-1) dX1_readAll_85 (by decide) ?_
  refine s_icmp_ne C 94 dX1_readAll_86 (by decide) ?_ ?_
  · refine s_bipush C (-10) dX1_readAll_94 (by decide) ?_
    refine s_aload_n C 0 dX1_readAll_96 rfl rfl ?_
    refine s_get C iX1_readAll_X1 0 rfl rfl 5 (by decide) kX1_readAll_28 (.int t_fault) rfl dX1_readAll_97 ?_
    refine s_isub C dX1_readAll_100 ?_
    exact s_retI hR (((-10) - t_fault), t_size, t_token, t_start, t_end, t_fault, p3_length, p3_width, p3_sunFirst, p3_pace, p3_nose, p3_cats, p3_bridgeMay, p3_sunMay, p3_noseMay, p3_starts_c, p3_habits_c, p3_leaders_c) rfl rfl dX1_readAll_101
  · refine s_iload C 1 dX1_readAll_89 rfl ?_
    refine s_goto C 101 dX1_readAll_91 (by decide) ?_
    exact s_retI hR (x4, t_size, t_token, t_start, t_end, t_fault, p3_length, p3_width, p3_sunFirst, p3_pace, p3_nose, p3_cats, p3_bridgeMay, p3_sunMay, p3_noseMay, p3_starts_c, p3_habits_c, p3_leaders_c) rfl rfl dX1_readAll_101
noncomputable def m_X1_readAll (x2 : Int32) (p1_c : Nat → Int32) (p3_length : Int32) (p3_width : Int32) (p3_sunFirst : Int32) (p3_pace : Int32) (p3_nose : Int32) (p3_cats : Int32) (p3_bridgeMay : Int32) (p3_sunMay : Int32) (p3_noseMay : Int32) (p3_starts_c : Nat → Int32) (p3_habits_c : Nat → Int32) (p3_leaders_c : Nat → Int32) : Option (Int32 × Int32 × Int32 × Int32 × Int32 × Int32 × Int32 × Int32 × Int32 × Int32 × Int32 × Int32 × Int32 × Int32 × Int32 × (Nat → Int32) × (Nat → Int32) × (Nat → Int32)) :=
  nm (minI x2 (Int32.ofNat 200)) (fun y1 => (m_X1_takeToken y1 0 p1_c).bind (fun q2 => lpN (fun (rec : Int32 × Int32 × Int32 × Int32 × Int32 × Int32 × Int32 × Int32 × Int32 × Int32 × Int32 × Int32 × Int32 × Int32 × Int32 × (Nat → Int32) × (Nat → Int32) × (Nat → Int32) → Option (Int32 × Int32 × Int32 × Int32 × Int32 × Int32 × Int32 × Int32 × Int32 × Int32 × Int32 × Int32 × Int32 × Int32 × Int32 × (Nat → Int32) × (Nat → Int32) × (Nat → Int32))) (s : Int32 × Int32 × Int32 × Int32 × Int32 × Int32 × Int32 × Int32 × Int32 × Int32 × Int32 × Int32 × Int32 × Int32 × Int32 × (Nat → Int32) × (Nat → Int32) × (Nat → Int32)) => X1_readAll_f43 y1 p1_c (fun e4 e5 e6 e7 e8 e9 e10 e11 e12 e13 e14 e15 e16 e17 e18 e19 e20 => X1_readAll_j81 e4 y1 e5 e6 e7 e8 e9 e10 e11 e12 e13 e14 e15 e16 e17 e18 e19 e20) (fun r0 r1 r2 r3 r4 r5 r6 r7 r8 r9 r10 r11 r12 r13 r14 r15 r16 r17 => rec (r0, r1, r2, r3, r4, r5, r6, r7, r8, r9, r10, r11, r12, r13, r14, r15, r16, r17)) s.1 s.2.1 s.2.2.1 s.2.2.2.1 s.2.2.2.2.1 s.2.2.2.2.2.1 s.2.2.2.2.2.2.1 s.2.2.2.2.2.2.2.1 s.2.2.2.2.2.2.2.2.1 s.2.2.2.2.2.2.2.2.2.1 s.2.2.2.2.2.2.2.2.2.2.1 s.2.2.2.2.2.2.2.2.2.2.2.1 s.2.2.2.2.2.2.2.2.2.2.2.2.1 s.2.2.2.2.2.2.2.2.2.2.2.2.2.1 s.2.2.2.2.2.2.2.2.2.2.2.2.2.2.1 s.2.2.2.2.2.2.2.2.2.2.2.2.2.2.2.1 s.2.2.2.2.2.2.2.2.2.2.2.2.2.2.2.2.1 s.2.2.2.2.2.2.2.2.2.2.2.2.2.2.2.2.2) fz (0, 0, q2.1, q2.2.1, q2.2.2, (-1), p3_length, p3_width, p3_sunFirst, p3_pace, p3_nose, p3_cats, p3_bridgeMay, p3_sunMay, p3_noseMay, p3_starts_c, p3_habits_c, p3_leaders_c)))
set_option maxHeartbeats 4000000 in
theorem b_X1_readAll {X : KX} {Qf : Int32 × Int32 × Int32 × Int32 × Int32 × Int32 × Int32 × Int32 × Int32 × Int32 × Int32 × Int32 × Int32 × Int32 × Int32 × (Nat → Int32) × (Nat → Int32) × (Nat → Int32) → State → Prop} {x2 : Int32} {t : Nat} {p1 : Nat} {p3 : Nat} {t_text : Value} {t_size : Int32} {t_token : Int32} {t_start : Int32} {t_end : Int32} {t_fault : Int32} {p1_c : Nat → Int32} {p3_length : Int32} {p3_width : Int32} {p3_sunFirst : Int32} {p3_pace : Int32} {p3_nose : Int32} {p3_cats : Int32} {p3_bridgeMay : Int32} {p3_sunMay : Int32} {p3_noseMay : Int32} {p3_starts : Nat} {p3_habits : Nat} {p3_leaders : Nat} {p3_starts_c : Nat → Int32} {p3_habits_c : Nat → Int32} {p3_leaders_c : Nat → Int32} (C : Cx X cX1_readAll RX1 wsX1_readAll 6 { frames := 9, cells := 0, slots := 0, locals := 264 }) (hR : RtI X Qf cX1_readAll 6 (fun q => some (.int q.1)) (w1_X1_readAll (xT X) t p1 p3 t_text p1_c p3_starts p3_habits p3_leaders)) : Sim X Qf 0 0 6 (m_X1_readAll x2 p1_c p3_length p3_width p3_sunFirst p3_pace p3_nose p3_cats p3_bridgeMay p3_sunMay p3_noseMay p3_starts_c p3_habits_c p3_leaders_c) [(t, .inr (1, [t_text, .int t_size, .int t_token, .int t_start, .int t_end, .int t_fault])), (p1, .inl ((xT X) 0, 200, .inl p1_c)), (p3, .inr (0, [.int p3_length, .int p3_width, .int p3_sunFirst, .int p3_pace, .int p3_nose, .int p3_cats, .int p3_bridgeMay, .int p3_sunMay, .int p3_noseMay, .ref p3_starts, .ref p3_habits, .ref p3_leaders])), (p3_starts, .inl ((xT X) 1, 5, .inl p3_starts_c)), (p3_habits, .inl ((xT X) 1, 5, .inl p3_habits_c)), (p3_leaders, .inl ((xT X) 1, 5, .inl p3_leaders_c))] 0 [(0, .ref t), (1, .ref p1), (2, .int x2), (3, .ref p3)] [] := by
  unfold m_X1_readAll
  refine s_aload_n C 0 dX1_readAll_0 rfl rfl ?_
  refine s_aload_n C 1 dX1_readAll_1 rfl rfl ?_
  refine s_put C iX1_readAll_X1 tyX1 tyX1_ok nmX1 0 rfl rfl 0 (by decide) kX1_readAll_9 rfl (.array .byte) (by decide +kernel) rfl rfl (Nat.le_of_ble_eq_true rfl) [(t, .inr (1, [.ref p1, .int t_size, .int t_token, .int t_start, .int t_end, .int t_fault])), (p1, .inl ((xT X) 0, 200, .inl p1_c)), (p3, .inr (0, [.int p3_length, .int p3_width, .int p3_sunFirst, .int p3_pace, .int p3_nose, .int p3_cats, .int p3_bridgeMay, .int p3_sunMay, .int p3_noseMay, .ref p3_starts, .ref p3_habits, .ref p3_leaders])), (p3_starts, .inl ((xT X) 1, 5, .inl p3_starts_c)), (p3_habits, .inl ((xT X) 1, 5, .inl p3_habits_c)), (p3_leaders, .inl ((xT X) 1, 5, .inl p3_leaders_c))] rfl dX1_readAll_2 ?_
  refine s_aload_n C 0 dX1_readAll_5 rfl rfl ?_
  refine s_aload_n C 1 dX1_readAll_6 rfl rfl ?_
  refine s_ifnonnull C 14 dX1_readAll_7 (by decide) ?_
  refine s_iload_n C 2 dX1_readAll_14 rfl rfl ?_
  refine s_aload_n C 1 dX1_readAll_15 rfl rfl ?_
  refine s_alen C 1 0 rfl (by decide) dX1_readAll_16 ?_
  refine s_min C mX1_readAll_15a mX1_readAll_15b mX1_readAll_15c mX1_readAll_15d ⟨Nat.le_of_ble_eq_true rfl, Nat.le_of_ble_eq_true rfl⟩ ⟨Nat.le_of_ble_eq_true rfl, Nat.le_of_ble_eq_true rfl⟩ dX1_readAll_17 ?_
  refine s_nmi (fun y1 => ?_)
  refine s_put C iX1_readAll_X1 tyX1 tyX1_ok nmX1 0 rfl rfl 1 (by decide) kX1_readAll_21 rfl .int (by decide +kernel) rfl rfl (Nat.le_of_ble_eq_true rfl) [(t, .inr (1, [.ref p1, .int y1, .int t_token, .int t_start, .int t_end, .int t_fault])), (p1, .inl ((xT X) 0, 200, .inl p1_c)), (p3, .inr (0, [.int p3_length, .int p3_width, .int p3_sunFirst, .int p3_pace, .int p3_nose, .int p3_cats, .int p3_bridgeMay, .int p3_sunMay, .int p3_noseMay, .ref p3_starts, .ref p3_habits, .ref p3_leaders])), (p3_starts, .inl ((xT X) 1, 5, .inl p3_starts_c)), (p3_habits, .inl ((xT X) 1, 5, .inl p3_habits_c)), (p3_leaders, .inl ((xT X) 1, 5, .inl p3_leaders_c))] rfl dX1_readAll_20 ?_
  refine s_aload_n C 0 dX1_readAll_23 rfl rfl ?_
  refine s_iconst C 0 dX1_readAll_24 (by decide) ?_
  refine s_put C iX1_readAll_X1 tyX1 tyX1_ok nmX1 0 rfl rfl 4 (by decide) kX1_readAll_25 rfl .int (by decide +kernel) rfl rfl (Nat.le_of_ble_eq_true rfl) [(t, .inr (1, [.ref p1, .int y1, .int t_token, .int t_start, .int 0, .int t_fault])), (p1, .inl ((xT X) 0, 200, .inl p1_c)), (p3, .inr (0, [.int p3_length, .int p3_width, .int p3_sunFirst, .int p3_pace, .int p3_nose, .int p3_cats, .int p3_bridgeMay, .int p3_sunMay, .int p3_noseMay, .ref p3_starts, .ref p3_habits, .ref p3_leaders])), (p3_starts, .inl ((xT X) 1, 5, .inl p3_starts_c)), (p3_habits, .inl ((xT X) 1, 5, .inl p3_habits_c)), (p3_leaders, .inl ((xT X) 1, 5, .inl p3_leaders_c))] rfl dX1_readAll_25 ?_
  refine s_aload_n C 0 dX1_readAll_28 rfl rfl ?_
  refine s_iconst C (-1) dX1_readAll_29 (by decide) ?_
  refine s_put C iX1_readAll_X1 tyX1 tyX1_ok nmX1 0 rfl rfl 5 (by decide) kX1_readAll_28 rfl .int (by decide +kernel) rfl rfl (Nat.le_of_ble_eq_true rfl) [(t, .inr (1, [.ref p1, .int y1, .int t_token, .int t_start, .int 0, .int (-1)])), (p1, .inl ((xT X) 0, 200, .inl p1_c)), (p3, .inr (0, [.int p3_length, .int p3_width, .int p3_sunFirst, .int p3_pace, .int p3_nose, .int p3_cats, .int p3_bridgeMay, .int p3_sunMay, .int p3_noseMay, .ref p3_starts, .ref p3_habits, .ref p3_leaders])), (p3_starts, .inl ((xT X) 1, 5, .inl p3_starts_c)), (p3_habits, .inl ((xT X) 1, 5, .inl p3_habits_c)), (p3_leaders, .inl ((xT X) 1, 5, .inl p3_leaders_c))] rfl dX1_readAll_30 ?_
  refine s_aload_n C 0 dX1_readAll_33 rfl rfl ?_
  refine s_callV (n := 0) C [] _ _ _ (fun q2 hq => c_X1_takeToken (xL X) (xD X) (xT X) t p1 y1 t_token t_start 0 (-1) p1_c q2 hq) gX1_readAll_X1_takeToken rfl rfl rfl ⟨rfl, by decide +kernel, by decide +kernel, by decide +kernel⟩ ⟨Nat.le_of_ble_eq_true rfl, Nat.le_of_ble_eq_true rfl⟩ ⟨Nat.le_of_ble_eq_true rfl, Nat.le_of_ble_eq_true rfl⟩ 1 0 rfl rfl rfl [.ref t] rfl (Nat.le_of_ble_eq_true rfl) dX1_readAll_34 [0, 1] [2, 3, 4, 5] [4, 5, 0, 1, 2, 3] (fun q2 => [(t, .inr (1, [.ref p1, .int y1, .int q2.1, .int q2.2.1, .int q2.2.2, .int (-1)])), (p1, .inl ((xT X) 0, 200, .inl p1_c)), (p3, .inr (0, [.int p3_length, .int p3_width, .int p3_sunFirst, .int p3_pace, .int p3_nose, .int p3_cats, .int p3_bridgeMay, .int p3_sunMay, .int p3_noseMay, .ref p3_starts, .ref p3_habits, .ref p3_leaders])), (p3_starts, .inl ((xT X) 1, 5, .inl p3_starts_c)), (p3_habits, .inl ((xT X) 1, 5, .inl p3_habits_c)), (p3_leaders, .inl ((xT X) 1, 5, .inl p3_leaders_c))]) rfl rfl (by decide) (by decide) (by decide) (fun _ => rfl) (by decide) (fun q2 => []) (fun _ => rfl) (fun q2 => ?_)
  refine s_iconst C 0 dX1_readAll_37 (by decide) ?_
  refine s_istore C [(4, .int 0), (0, .ref t), (1, .ref p1), (2, .int x2), (3, .ref p3)] dX1_readAll_38 (by decide) rfl ?_
  refine s_iconst C 0 dX1_readAll_40 (by decide) ?_
  refine s_istore C [(5, .int 0), (4, .int 0), (0, .ref t), (1, .ref p1), (2, .int x2), (3, .ref p3)] dX1_readAll_41 (by decide) rfl ?_
  refine s_lv [2, 5, 1, 0] (lv' := [(0, .ref t), (3, .ref p3), (4, .int 0), (5, .int 0)]) rfl ?_
  refine s_loop (fun s : Int32 × Int32 × Int32 × Int32 × Int32 × Int32 × Int32 × Int32 × Int32 × Int32 × Int32 × Int32 × Int32 × Int32 × Int32 × (Nat → Int32) × (Nat → Int32) × (Nat → Int32) => [(t, .inr (1, [.ref p1, .int y1, .int s.2.2.1, .int s.2.2.2.1, .int s.2.2.2.2.1, .int s.2.2.2.2.2.1])), (p1, .inl ((xT X) 0, 200, .inl p1_c)), (p3, .inr (0, [.int s.2.2.2.2.2.2.1, .int s.2.2.2.2.2.2.2.1, .int s.2.2.2.2.2.2.2.2.1, .int s.2.2.2.2.2.2.2.2.2.1, .int s.2.2.2.2.2.2.2.2.2.2.1, .int s.2.2.2.2.2.2.2.2.2.2.2.1, .int s.2.2.2.2.2.2.2.2.2.2.2.2.1, .int s.2.2.2.2.2.2.2.2.2.2.2.2.2.1, .int s.2.2.2.2.2.2.2.2.2.2.2.2.2.2.1, .ref p3_starts, .ref p3_habits, .ref p3_leaders])), (p3_starts, .inl ((xT X) 1, 5, .inl s.2.2.2.2.2.2.2.2.2.2.2.2.2.2.2.1)), (p3_habits, .inl ((xT X) 1, 5, .inl s.2.2.2.2.2.2.2.2.2.2.2.2.2.2.2.2.1)), (p3_leaders, .inl ((xT X) 1, 5, .inl s.2.2.2.2.2.2.2.2.2.2.2.2.2.2.2.2.2))]) (fun s : Int32 × Int32 × Int32 × Int32 × Int32 × Int32 × Int32 × Int32 × Int32 × Int32 × Int32 × Int32 × Int32 × Int32 × Int32 × (Nat → Int32) × (Nat → Int32) × (Nat → Int32) => [(0, .ref t), (3, .ref p3), (4, .int s.1), (5, .int s.2.1)]) (fun rec hrec s => ?_) fz (0, 0, q2.1, q2.2.1, q2.2.2, (-1), p3_length, p3_width, p3_sunFirst, p3_pace, p3_nose, p3_cats, p3_bridgeMay, p3_sunMay, p3_noseMay, p3_starts_c, p3_habits_c, p3_leaders_c)
  refine bX1_readAll_f43 C hR _ (fun e4 e5 e6 e7 e8 e9 e10 e11 e12 e13 e14 e15 e16 e17 e18 e19 e20 => ?_) (fun r0 r1 r2 r3 r4 r5 r6 r7 r8 r9 r10 r11 r12 r13 r14 r15 r16 r17 => rec (r0, r1, r2, r3, r4, r5, r6, r7, r8, r9, r10, r11, r12, r13, r14, r15, r16, r17)) (fun r0 r1 r2 r3 r4 r5 r6 r7 r8 r9 r10 r11 r12 r13 r14 r15 r16 r17 => hrec (r0, r1, r2, r3, r4, r5, r6, r7, r8, r9, r10, r11, r12, r13, r14, r15, r16, r17)) s.1 s.2.1 s.2.2.1 s.2.2.2.1 s.2.2.2.2.1 s.2.2.2.2.2.1 s.2.2.2.2.2.2.1 s.2.2.2.2.2.2.2.1 s.2.2.2.2.2.2.2.2.1 s.2.2.2.2.2.2.2.2.2.1 s.2.2.2.2.2.2.2.2.2.2.1 s.2.2.2.2.2.2.2.2.2.2.2.1 s.2.2.2.2.2.2.2.2.2.2.2.2.1 s.2.2.2.2.2.2.2.2.2.2.2.2.2.1 s.2.2.2.2.2.2.2.2.2.2.2.2.2.2.1 s.2.2.2.2.2.2.2.2.2.2.2.2.2.2.2.1 s.2.2.2.2.2.2.2.2.2.2.2.2.2.2.2.2.1 s.2.2.2.2.2.2.2.2.2.2.2.2.2.2.2.2.2
  · exact bX1_readAll_j81 C hR
theorem c_X1_readAll (l : Launch) (D : va_G) (T : Nat → ClassId) (x2 : Int32) (t : Nat) (p1 : Nat) (p3 : Nat) (t_text : Value) (t_size : Int32) (t_token : Int32) (t_start : Int32) (t_end : Int32) (t_fault : Int32) (p1_c : Nat → Int32) (p3_length : Int32) (p3_width : Int32) (p3_sunFirst : Int32) (p3_pace : Int32) (p3_nose : Int32) (p3_cats : Int32) (p3_bridgeMay : Int32) (p3_sunMay : Int32) (p3_noseMay : Int32) (p3_starts : Nat) (p3_habits : Nat) (p3_leaders : Nat) (p3_starts_c : Nat → Int32) (p3_habits_c : Nat → Int32) (p3_leaders_c : Nat → Int32) : ∀ q : Int32 × Int32 × Int32 × Int32 × Int32 × Int32 × Int32 × Int32 × Int32 × Int32 × Int32 × Int32 × Int32 × Int32 × Int32 × (Nat → Int32) × (Nat → Int32) × (Nat → Int32), m_X1_readAll x2 p1_c p3_length p3_width p3_sunFirst p3_pace p3_nose p3_cats p3_bridgeMay p3_sunMay p3_noseMay p3_starts_c p3_habits_c p3_leaders_c = some q → Ct l yX1_readAll wsX1_readAll { frames := 9, cells := 0, slots := 0, locals := 264 } [.ref t, .ref p1, .int x2, .ref p3] D T [(t, .inr (1, [t_text, .int t_size, .int t_token, .int t_start, .int t_end, .int t_fault])), (p1, .inl (T 0, 200, .inl p1_c)), (p3, .inr (0, [.int p3_length, .int p3_width, .int p3_sunFirst, .int p3_pace, .int p3_nose, .int p3_cats, .int p3_bridgeMay, .int p3_sunMay, .int p3_noseMay, .ref p3_starts, .ref p3_habits, .ref p3_leaders])), (p3_starts, .inl (T 1, 5, .inl p3_starts_c)), (p3_habits, .inl (T 1, 5, .inl p3_habits_c)), (p3_leaders, .inl (T 1, 5, .inl p3_leaders_c))] ((fun q => some (.int q.1)) q) (w1_X1_readAll T t p1 p3 t_text p1_c p3_starts p3_habits p3_leaders q) := by
  refine ct_I (by decide) rfl (Nat.le_of_ble_eq_true rfl) (m_X1_readAll x2 p1_c p3_length p3_width p3_sunFirst p3_pace p3_nose p3_cats p3_bridgeMay p3_sunMay p3_noseMay p3_starts_c p3_habits_c p3_leaders_c) (fun q => some (.int q.1)) (w1_X1_readAll T t p1 p3 t_text p1_c p3_starts p3_habits p3_leaders) ?_
  intro X Qf hL hD hT C hR
  subst hT
  exact b_X1_readAll C hR

def y_YearPlan_forget : MethodName := ⟨"FeastBook$YearPlan", "forget", "()V"⟩
theorem d_YearPlan_forget_0 : decode prog_11_method_2_code 0 = .ok (.aload_n 0, 1) := by decide +kernel
theorem d_YearPlan_forget_1 : decode prog_11_method_2_code 1 = .ok (.iconst (-1), 1) := by decide +kernel
theorem d_YearPlan_forget_2 : decode prog_11_method_2_code 2 = .ok (.putfield 41, 3) := by decide +kernel
theorem d_YearPlan_forget_5 : decode prog_11_method_2_code 5 = .ok (.aload_n 0, 1) := by decide +kernel
theorem d_YearPlan_forget_6 : decode prog_11_method_2_code 6 = .ok (.iconst (-1), 1) := by decide +kernel
theorem d_YearPlan_forget_7 : decode prog_11_method_2_code 7 = .ok (.putfield 45, 3) := by decide +kernel
theorem d_YearPlan_forget_10 : decode prog_11_method_2_code 10 = .ok (.return_, 1) := by decide +kernel
theorem fk_YearPlan_41 : Cond.fieldLink "FeastBook$YearPlan" 41 (T_YearPlan 2).1 (T_YearPlan 2).2.1 (T_YearPlan 2).2.2.1 ∈ TT := mT2 66 (by decide +kernel) (by decide +kernel)
theorem fk_YearPlan_45 : Cond.fieldLink "FeastBook$YearPlan" 45 (T_YearPlan 3).1 (T_YearPlan 3).2.1 (T_YearPlan 3).2.2.1 ∈ TT := mT2 67 (by decide +kernel) (by decide +kernel)
set_option maxHeartbeats 4000000 in
set_option maxRecDepth 100000 in
theorem c_YearPlan_forget {l : Launch} {D : va_G} {ad : Nat → Nat} {cA : Nat → ClassId} {sd sv : Nat → Nat} {h : Hp} {out : Hp} (hI : Inj97 ad) (hM : M_YearPlan_forget h = some out) : Met l y_YearPlan_forget (.code y_YearPlan_forget prog_11_method_2_code 1 none :: TT) (rmD 0) (PC D ad cA sd sv h [.ref (ad 66)]) (QV D ad cA out) 0 0 (FA ad) := by
  unfold M_YearPlan_forget at hM
  refine entM (by decide +kernel) hI (Nat.le_of_ble_eq_true rfl) ?_
  intro p e s m args below meth c C hr hlk hP ls hl
  have C : Cx p s m args c prog_11_method_2_code 1 "FeastBook$YearPlan" D ad cA sd sv (FA ad) := C
  have hl : lv_has ls 1 [(0, .ref (ad 66))] := hl
  have w : Wd s D ad cA (FA ad) h s.heap [] := ⟨hP, va_S.rf⟩
  refine m_aload_n C hl 0 d_YearPlan_forget_0 rfl rfl ?_
  refine m_iconst C d_YearPlan_forget_1 ?_
  refine m_puti C w kc_YearPlan sh_66 (Nat.le_of_ble_eq_true rfl) 2 hM rfl (by decide) rfl rfl fk_YearPlan_41 d_YearPlan_forget_2 (fun h1 H locs w hM => ?_)
  refine m_aload_n C hl 0 d_YearPlan_forget_5 rfl rfl ?_
  refine m_iconst C d_YearPlan_forget_6 ?_
  refine m_puti C w kc_YearPlan sh_66 (Nat.le_of_ble_eq_true rfl) 3 hM rfl (by decide) rfl rfl fk_YearPlan_45 d_YearPlan_forget_7 (fun h2 H locs w hM => ?_)
  exact m_vretW C w hr hlk hM d_YearPlan_forget_10
def y_YearPlan_toldDay : MethodName := ⟨"FeastBook$YearPlan", "toldDay", "(I)I"⟩
theorem d_YearPlan_toldDay_0 : decode prog_11_method_5_code 0 = .ok (.aload_n 0, 1) := by decide +kernel
theorem d_YearPlan_toldDay_1 : decode prog_11_method_5_code 1 = .ok (.getfield 40, 3) := by decide +kernel
theorem d_YearPlan_toldDay_4 : decode prog_11_method_5_code 4 = .ok (.iload_n 1, 1) := by decide +kernel
theorem d_YearPlan_toldDay_5 : decode prog_11_method_5_code 5 = .ok (.invokevirtual 76, 3) := by decide +kernel
theorem d_YearPlan_toldDay_8 : decode prog_11_method_5_code 8 = .ok (.ifCond .eq 10, 3) := by decide +kernel
theorem d_YearPlan_toldDay_11 : decode prog_11_method_5_code 11 = .ok (.aload_n 0, 1) := by decide +kernel
theorem d_YearPlan_toldDay_12 : decode prog_11_method_5_code 12 = .ok (.getfield 58, 3) := by decide +kernel
theorem d_YearPlan_toldDay_15 : decode prog_11_method_5_code 15 = .ok (.goto 23, 3) := by decide +kernel
theorem d_YearPlan_toldDay_18 : decode prog_11_method_5_code 18 = .ok (.aload_n 0, 1) := by decide +kernel
theorem d_YearPlan_toldDay_19 : decode prog_11_method_5_code 19 = .ok (.getfield 30, 3) := by decide +kernel
theorem d_YearPlan_toldDay_22 : decode prog_11_method_5_code 22 = .ok (.aload_n 0, 1) := by decide +kernel
theorem d_YearPlan_toldDay_23 : decode prog_11_method_5_code 23 = .ok (.getfield 41, 3) := by decide +kernel
theorem d_YearPlan_toldDay_26 : decode prog_11_method_5_code 26 = .ok (.aload_n 0, 1) := by decide +kernel
theorem d_YearPlan_toldDay_27 : decode prog_11_method_5_code 27 = .ok (.getfield 40, 3) := by decide +kernel
theorem d_YearPlan_toldDay_30 : decode prog_11_method_5_code 30 = .ok (.getfield 79, 3) := by decide +kernel
theorem d_YearPlan_toldDay_33 : decode prog_11_method_5_code 33 = .ok (.iload_n 1, 1) := by decide +kernel
theorem d_YearPlan_toldDay_34 : decode prog_11_method_5_code 34 = .ok (.iaload, 1) := by decide +kernel
theorem d_YearPlan_toldDay_35 : decode prog_11_method_5_code 35 = .ok (.invokevirtual 82, 3) := by decide +kernel
theorem d_YearPlan_toldDay_38 : decode prog_11_method_5_code 38 = .ok (.istore_n 2, 1) := by decide +kernel
theorem d_YearPlan_toldDay_39 : decode prog_11_method_5_code 39 = .ok (.iload_n 2, 1) := by decide +kernel
theorem d_YearPlan_toldDay_40 : decode prog_11_method_5_code 40 = .ok (.aload_n 0, 1) := by decide +kernel
theorem d_YearPlan_toldDay_41 : decode prog_11_method_5_code 41 = .ok (.getfield 40, 3) := by decide +kernel
theorem d_YearPlan_toldDay_44 : decode prog_11_method_5_code 44 = .ok (.getfield 86, 3) := by decide +kernel
theorem d_YearPlan_toldDay_47 : decode prog_11_method_5_code 47 = .ok (.iload_n 1, 1) := by decide +kernel
theorem d_YearPlan_toldDay_48 : decode prog_11_method_5_code 48 = .ok (.iaload, 1) := by decide +kernel
theorem d_YearPlan_toldDay_49 : decode prog_11_method_5_code 49 = .ok (.iadd, 1) := by decide +kernel
theorem d_YearPlan_toldDay_50 : decode prog_11_method_5_code 50 = .ok (.ireturn, 1) := by decide +kernel
theorem fk_YearPlan_30 : Cond.fieldLink "FeastBook$YearPlan" 30 (T_YearPlan 0).1 (T_YearPlan 0).2.1 (T_YearPlan 0).2.2.1 ∈ TT := mT2 64 (by decide +kernel) (by decide +kernel)
theorem fk_YearPlan_40 : Cond.fieldLink "FeastBook$YearPlan" 40 (T_YearPlan 1).1 (T_YearPlan 1).2.1 (T_YearPlan 1).2.2.1 ∈ TT := mT2 65 (by decide +kernel) (by decide +kernel)
theorem fk_YearPlan_58 : Cond.fieldLink "FeastBook$YearPlan" 58 (T_YearPlan 5).1 (T_YearPlan 5).2.1 (T_YearPlan 5).2.2.1 ∈ TT := mT2 70 (by decide +kernel) (by decide +kernel)
theorem fk_YearPlan_79 : Cond.fieldLink "FeastBook$YearPlan" 79 (T_Feasts 2).1 (T_Feasts 2).2.1 (T_Feasts 2).2.2.1 ∈ TT := mT1 109 (by decide +kernel) (by decide +kernel)
theorem fk_YearPlan_86 : Cond.fieldLink "FeastBook$YearPlan" 86 (T_Feasts 3).1 (T_Feasts 3).2.1 (T_Feasts 3).2.2.1 ∈ TT := mT1 113 (by decide +kernel) (by decide +kernel)
theorem lk_YearPlan_76 : Cond.methodLink "FeastBook$YearPlan" 76 y_Feasts_isMoving ∈ TT := mT4 183 (by decide +kernel) (by decide +kernel)
theorem lk_YearPlan_82 : Cond.methodLink "FeastBook$YearPlan" 82 y_Book_monthStart ∈ TT := mT4 184 (by decide +kernel) (by decide +kernel)
set_option maxHeartbeats 4000000 in
set_option maxRecDepth 100000 in
theorem c_YearPlan_toldDay {l : Launch} {D : va_G} {ad : Nat → Nat} {cA : Nat → ClassId} {sd sv : Nat → Nat} {h : Hp} {N : Nat} {a1 : Int} {out : Int} (hI : Inj97 ad) (hM : M_YearPlan_toldDay N h a1 = some out) : Met l y_YearPlan_toldDay (.code y_YearPlan_toldDay prog_11_method_5_code 3 (some .int) :: TT) (rmD 2) (PC D ad cA sd sv h [.ref (ad 66), .int (iZ a1)]) (QR out) 0 0 (fun _ => False) := by
  unfold M_YearPlan_toldDay at hM
  refine entM (by decide +kernel) hI (Nat.le_of_ble_eq_true rfl) ?_
  intro p e s m args below meth c C hr hlk hP ls hl
  have C : Cx p s m args c prog_11_method_5_code 3 "FeastBook$YearPlan" D ad cA sd sv (FA ad) := C
  have hl : lv_has ls 3 [(0, .ref (ad 66)), (1, .int (iZ a1))] := hl
  refine m_aload_n C hl 0 d_YearPlan_toldDay_0 rfl rfl ?_
  refine m_getr C hP kc_YearPlan sh_66 (Nat.le_of_ble_eq_true rfl) 1 33 rfl (by decide) fk_YearPlan_40 d_YearPlan_toldDay_1 ?_
  refine m_iload_n C hl 1 d_YearPlan_toldDay_4 rfl rfl ?_
  obtain ⟨x2, e1, hM⟩ := bnd_some hM
  refine aftR (runV C hP va_S.rf kc_Feasts sh_33 (Nat.le_of_ble_eq_true rfl) (c_Feasts_isMoving hI (Or.inr (Or.inl rfl)) e1) lk_YearPlan_76 mb_Feasts_isMoving rfl ⟨Nat.le_of_ble_eq_true rfl, Nat.le_of_ble_eq_true rfl⟩ ⟨Nat.zero_le _, Nat.zero_le _⟩ (Nat.le_of_ble_eq_true rfl) d_YearPlan_toldDay_5 hl.1 (rest := []) rfl) ?_
  refine m_if_eq C hM 18 d_YearPlan_toldDay_8 (by decide) (fun hM => ?_) (fun hM => ?_)
  · refine m_aload_n C hl 0 d_YearPlan_toldDay_18 rfl rfl ?_
    refine m_getr C hP kc_YearPlan sh_66 (Nat.le_of_ble_eq_true rfl) 0 23 rfl (by decide) fk_YearPlan_30 d_YearPlan_toldDay_19 ?_
    refine m_aload_n C hl 0 d_YearPlan_toldDay_22 rfl rfl ?_
    refine m_geti C hP kc_YearPlan sh_66 (Nat.le_of_ble_eq_true rfl) 2 rfl (by decide) fk_YearPlan_41 d_YearPlan_toldDay_23 ?_
    refine m_aload_n C hl 0 d_YearPlan_toldDay_26 rfl rfl ?_
    refine m_getr C hP kc_YearPlan sh_66 (Nat.le_of_ble_eq_true rfl) 1 33 rfl (by decide) fk_YearPlan_40 d_YearPlan_toldDay_27 ?_
    refine m_getr C hP kc_Feasts sh_33 (Nat.le_of_ble_eq_true rfl) 2 35 rfl (by decide) fk_YearPlan_79 d_YearPlan_toldDay_30 ?_
    refine m_iload_n C hl 1 d_YearPlan_toldDay_33 rfl rfl ?_
    refine m_iald C hP sh_35 (Nat.le_of_ble_eq_true rfl) (Nat.le_of_ble_eq_true rfl) hM d_YearPlan_toldDay_34 (fun x3 hM => ?_)
    obtain ⟨x5, e4, hM⟩ := bnd_some hM
    refine aftR (runV C hP va_S.rf kc_Book sh_23 (Nat.le_of_ble_eq_true rfl) (c_Book_monthStart hI (Or.inr (Or.inl rfl)) e4) lk_YearPlan_82 mb_Book_monthStart rfl ⟨Nat.le_of_ble_eq_true rfl, Nat.le_of_ble_eq_true rfl⟩ ⟨Nat.zero_le _, Nat.zero_le _⟩ (Nat.le_of_ble_eq_true rfl) d_YearPlan_toldDay_35 hl.1 (rest := []) rfl) ?_
    refine m_istore_n C hl [(2, .int (iZ x5)), (0, .ref (ad 66)), (1, .int (iZ a1))] d_YearPlan_toldDay_38 rfl (by decide) rfl (fun ls hl => ?_)
    refine m_iload_n C hl 0 d_YearPlan_toldDay_39 rfl rfl ?_
    refine m_aload_n C hl 1 d_YearPlan_toldDay_40 rfl rfl ?_
    refine m_getr C hP kc_YearPlan sh_66 (Nat.le_of_ble_eq_true rfl) 1 33 rfl (by decide) fk_YearPlan_40 d_YearPlan_toldDay_41 ?_
    refine m_getr C hP kc_Feasts sh_33 (Nat.le_of_ble_eq_true rfl) 3 36 rfl (by decide) fk_YearPlan_86 d_YearPlan_toldDay_44 ?_
    refine m_iload_n C hl 2 d_YearPlan_toldDay_47 rfl rfl ?_
    refine m_iald C hP sh_36 (Nat.le_of_ble_eq_true rfl) (Nat.le_of_ble_eq_true rfl) hM d_YearPlan_toldDay_48 (fun x6 hM => ?_)
    refine m_iadd C d_YearPlan_toldDay_49 ?_
    exact m_iretR C hr hlk hM d_YearPlan_toldDay_50
  · refine m_aload_n C hl 0 d_YearPlan_toldDay_11 rfl rfl ?_
    refine m_geti C hP kc_YearPlan sh_66 (Nat.le_of_ble_eq_true rfl) 5 rfl (by decide) fk_YearPlan_58 d_YearPlan_toldDay_12 ?_
    refine m_goto C 38 d_YearPlan_toldDay_15 (by decide) ?_
    refine m_istore_n C hl [(2, .int (iZ (h 66 5))), (0, .ref (ad 66)), (1, .int (iZ a1))] d_YearPlan_toldDay_38 rfl (by decide) rfl (fun ls hl => ?_)
    refine m_iload_n C hl 0 d_YearPlan_toldDay_39 rfl rfl ?_
    refine m_aload_n C hl 1 d_YearPlan_toldDay_40 rfl rfl ?_
    refine m_getr C hP kc_YearPlan sh_66 (Nat.le_of_ble_eq_true rfl) 1 33 rfl (by decide) fk_YearPlan_40 d_YearPlan_toldDay_41 ?_
    refine m_getr C hP kc_Feasts sh_33 (Nat.le_of_ble_eq_true rfl) 3 36 rfl (by decide) fk_YearPlan_86 d_YearPlan_toldDay_44 ?_
    refine m_iload_n C hl 2 d_YearPlan_toldDay_47 rfl rfl ?_
    refine m_iald C hP sh_36 (Nat.le_of_ble_eq_true rfl) (Nat.le_of_ble_eq_true rfl) hM d_YearPlan_toldDay_48 (fun x7 hM => ?_)
    refine m_iadd C d_YearPlan_toldDay_49 ?_
    exact m_iretR C hr hlk hM d_YearPlan_toldDay_50
def y_YearPlan_hasDay : MethodName := ⟨"FeastBook$YearPlan", "hasDay", "(I)Z"⟩
theorem d_YearPlan_hasDay_0 : decode prog_11_method_4_code 0 = .ok (.iload_n 1, 1) := by decide +kernel
theorem d_YearPlan_hasDay_1 : decode prog_11_method_4_code 1 = .ok (.ifCond .lt 15, 3) := by decide +kernel
theorem d_YearPlan_hasDay_4 : decode prog_11_method_4_code 4 = .ok (.iload_n 1, 1) := by decide +kernel
theorem d_YearPlan_hasDay_5 : decode prog_11_method_4_code 5 = .ok (.aload_n 0, 1) := by decide +kernel
theorem d_YearPlan_hasDay_6 : decode prog_11_method_4_code 6 = .ok (.getfield 52, 3) := by decide +kernel
theorem d_YearPlan_hasDay_9 : decode prog_11_method_4_code 9 = .ok (.if_icmp .ge 7, 3) := by decide +kernel
theorem d_YearPlan_hasDay_12 : decode prog_11_method_4_code 12 = .ok (.iconst 1, 1) := by decide +kernel
theorem d_YearPlan_hasDay_13 : decode prog_11_method_4_code 13 = .ok (.goto 4, 3) := by decide +kernel
theorem d_YearPlan_hasDay_16 : decode prog_11_method_4_code 16 = .ok (.iconst 0, 1) := by decide +kernel
theorem d_YearPlan_hasDay_17 : decode prog_11_method_4_code 17 = .ok (.ireturn, 1) := by decide +kernel
theorem fk_YearPlan_52 : Cond.fieldLink "FeastBook$YearPlan" 52 (T_YearPlan 4).1 (T_YearPlan 4).2.1 (T_YearPlan 4).2.2.1 ∈ TT := mT2 68 (by decide +kernel) (by decide +kernel)
set_option maxHeartbeats 4000000 in
set_option maxRecDepth 100000 in
theorem c_YearPlan_hasDay {l : Launch} {D : va_G} {ad : Nat → Nat} {cA : Nat → ClassId} {sd sv : Nat → Nat} {h : Hp} {a1 : Int} {out : Int} (hI : Inj97 ad) (hM : M_YearPlan_hasDay h a1 = some out) : Met l y_YearPlan_hasDay (.code y_YearPlan_hasDay prog_11_method_4_code 2 (some .boolean) :: TT) (rmD 0) (PC D ad cA sd sv h [.ref (ad 66), .int (iZ a1)]) (QR out) 0 0 (fun _ => False) := by
  unfold M_YearPlan_hasDay at hM
  refine entM (by decide +kernel) hI (Nat.le_of_ble_eq_true rfl) ?_
  intro p e s m args below meth c C hr hlk hP ls hl
  have C : Cx p s m args c prog_11_method_4_code 2 "FeastBook$YearPlan" D ad cA sd sv (FA ad) := C
  have hl : lv_has ls 2 [(0, .ref (ad 66)), (1, .int (iZ a1))] := hl
  refine m_iload_n C hl 1 d_YearPlan_hasDay_0 rfl rfl ?_
  refine m_if_lt C hM 16 d_YearPlan_hasDay_1 (by decide) (fun hM => ?_) (fun hM => ?_)
  · refine m_iconst C d_YearPlan_hasDay_16 ?_
    exact m_zretR C hr hlk hM d_YearPlan_hasDay_17
  · refine m_iload_n C hl 1 d_YearPlan_hasDay_4 rfl rfl ?_
    refine m_aload_n C hl 0 d_YearPlan_hasDay_5 rfl rfl ?_
    refine m_geti C hP kc_YearPlan sh_66 (Nat.le_of_ble_eq_true rfl) 4 rfl (by decide) fk_YearPlan_52 d_YearPlan_hasDay_6 ?_
    refine m_icmp_ge C hM 16 d_YearPlan_hasDay_9 (by decide) (fun hM => ?_) (fun hM => ?_)
    · refine m_iconst C d_YearPlan_hasDay_16 ?_
      exact m_zretR C hr hlk hM d_YearPlan_hasDay_17
    · refine m_iconst C d_YearPlan_hasDay_12 ?_
      refine m_goto C 17 d_YearPlan_hasDay_13 (by decide) ?_
      exact m_zretR C hr hlk hM d_YearPlan_hasDay_17
def y_YearPlan_isSunday : MethodName := ⟨"FeastBook$YearPlan", "isSunday", "(I)Z"⟩
theorem d_YearPlan_isSunday_0 : decode prog_11_method_7_code 0 = .ok (.aload_n 0, 1) := by decide +kernel
theorem d_YearPlan_isSunday_1 : decode prog_11_method_7_code 1 = .ok (.getfield 30, 3) := by decide +kernel
theorem d_YearPlan_isSunday_4 : decode prog_11_method_7_code 4 = .ok (.aload_n 0, 1) := by decide +kernel
theorem d_YearPlan_isSunday_5 : decode prog_11_method_7_code 5 = .ok (.getfield 58, 3) := by decide +kernel
theorem d_YearPlan_isSunday_8 : decode prog_11_method_7_code 8 = .ok (.iload_n 1, 1) := by decide +kernel
theorem d_YearPlan_isSunday_9 : decode prog_11_method_7_code 9 = .ok (.invokevirtual 94, 3) := by decide +kernel
theorem d_YearPlan_isSunday_12 : decode prog_11_method_7_code 12 = .ok (.ifCond .ne 7, 3) := by decide +kernel
theorem d_YearPlan_isSunday_15 : decode prog_11_method_7_code 15 = .ok (.iconst 1, 1) := by decide +kernel
theorem d_YearPlan_isSunday_16 : decode prog_11_method_7_code 16 = .ok (.goto 4, 3) := by decide +kernel
theorem d_YearPlan_isSunday_19 : decode prog_11_method_7_code 19 = .ok (.iconst 0, 1) := by decide +kernel
theorem d_YearPlan_isSunday_20 : decode prog_11_method_7_code 20 = .ok (.ireturn, 1) := by decide +kernel
theorem mb_Book_weekdayFrom : MBv R_Book y_Book_weekdayFrom prog_2_method_16_code 3 (some .int) 2 := ⟨mT4 201 (by decide +kernel) (by decide +kernel), mT4 202 (by decide +kernel) (by decide +kernel), mT1 4 (by decide +kernel) (by decide +kernel), mT4 203 (by decide +kernel) (by decide +kernel), by decide, rfl, by decide +kernel, by decide +kernel, by decide +kernel⟩
theorem lk_YearPlan_94 : Cond.methodLink "FeastBook$YearPlan" 94 y_Book_weekdayFrom ∈ TT := mT4 200 (by decide +kernel) (by decide +kernel)
set_option maxHeartbeats 4000000 in
set_option maxRecDepth 100000 in
theorem c_YearPlan_isSunday {l : Launch} {D : va_G} {ad : Nat → Nat} {cA : Nat → ClassId} {sd sv : Nat → Nat} {h : Hp} {a1 : Int} {out : Int} (hI : Inj97 ad) (hM : M_YearPlan_isSunday h a1 = some out) : Met l y_YearPlan_isSunday (.code y_YearPlan_isSunday prog_11_method_7_code 2 (some .boolean) :: TT) (rmD 2) (PC D ad cA sd sv h [.ref (ad 66), .int (iZ a1)]) (QR out) 0 0 (fun _ => False) := by
  unfold M_YearPlan_isSunday at hM
  refine entM (by decide +kernel) hI (Nat.le_of_ble_eq_true rfl) ?_
  intro p e s m args below meth c C hr hlk hP ls hl
  have C : Cx p s m args c prog_11_method_7_code 2 "FeastBook$YearPlan" D ad cA sd sv (FA ad) := C
  have hl : lv_has ls 2 [(0, .ref (ad 66)), (1, .int (iZ a1))] := hl
  refine m_aload_n C hl 0 d_YearPlan_isSunday_0 rfl rfl ?_
  refine m_getr C hP kc_YearPlan sh_66 (Nat.le_of_ble_eq_true rfl) 0 23 rfl (by decide) fk_YearPlan_30 d_YearPlan_isSunday_1 ?_
  refine m_aload_n C hl 0 d_YearPlan_isSunday_4 rfl rfl ?_
  refine m_geti C hP kc_YearPlan sh_66 (Nat.le_of_ble_eq_true rfl) 5 rfl (by decide) fk_YearPlan_58 d_YearPlan_isSunday_5 ?_
  refine m_iload_n C hl 1 d_YearPlan_isSunday_8 rfl rfl ?_
  obtain ⟨x2, e1, hM⟩ := bnd_some hM
  refine aftR (runV C hP va_S.rf kc_Book sh_23 (Nat.le_of_ble_eq_true rfl) (c_Book_weekdayFrom hI (Or.inr (Or.inl rfl)) e1) lk_YearPlan_94 mb_Book_weekdayFrom rfl ⟨Nat.le_of_ble_eq_true rfl, Nat.le_of_ble_eq_true rfl⟩ ⟨Nat.zero_le _, Nat.zero_le _⟩ (Nat.le_of_ble_eq_true rfl) d_YearPlan_isSunday_9 hl.1 (rest := []) rfl) ?_
  refine m_if_ne C hM 19 d_YearPlan_isSunday_12 (by decide) (fun hM => ?_) (fun hM => ?_)
  · refine m_iconst C d_YearPlan_isSunday_19 ?_
    exact m_zretR C hr hlk hM d_YearPlan_isSunday_20
  · refine m_iconst C d_YearPlan_isSunday_15 ?_
    refine m_goto C 20 d_YearPlan_isSunday_16 (by decide) ?_
    exact m_zretR C hr hlk hM d_YearPlan_isSunday_20
def y_YearPlan_vigilDay : MethodName := ⟨"FeastBook$YearPlan", "vigilDay", "(I)I"⟩
theorem d_YearPlan_vigilDay_0 : decode prog_11_method_6_code 0 = .ok (.aload_n 0, 1) := by decide +kernel
theorem d_YearPlan_vigilDay_1 : decode prog_11_method_6_code 1 = .ok (.getfield 40, 3) := by decide +kernel
theorem d_YearPlan_vigilDay_4 : decode prog_11_method_6_code 4 = .ok (.getfield 88, 3) := by decide +kernel
theorem d_YearPlan_vigilDay_7 : decode prog_11_method_6_code 7 = .ok (.iload_n 1, 1) := by decide +kernel
theorem d_YearPlan_vigilDay_8 : decode prog_11_method_6_code 8 = .ok (.iaload, 1) := by decide +kernel
theorem d_YearPlan_vigilDay_9 : decode prog_11_method_6_code 9 = .ok (.ifCond .eq 13, 3) := by decide +kernel
theorem d_YearPlan_vigilDay_12 : decode prog_11_method_6_code 12 = .ok (.aload_n 0, 1) := by decide +kernel
theorem d_YearPlan_vigilDay_13 : decode prog_11_method_6_code 13 = .ok (.getfield 18, 3) := by decide +kernel
theorem d_YearPlan_vigilDay_16 : decode prog_11_method_6_code 16 = .ok (.iload_n 1, 1) := by decide +kernel
theorem d_YearPlan_vigilDay_17 : decode prog_11_method_6_code 17 = .ok (.iaload, 1) := by decide +kernel
theorem d_YearPlan_vigilDay_18 : decode prog_11_method_6_code 18 = .ok (.iconst 1, 1) := by decide +kernel
theorem d_YearPlan_vigilDay_19 : decode prog_11_method_6_code 19 = .ok (.if_icmp .ge 5, 3) := by decide +kernel
theorem d_YearPlan_vigilDay_22 : decode prog_11_method_6_code 22 = .ok (.iconst (-1), 1) := by decide +kernel
theorem d_YearPlan_vigilDay_23 : decode prog_11_method_6_code 23 = .ok (.ireturn, 1) := by decide +kernel
theorem d_YearPlan_vigilDay_24 : decode prog_11_method_6_code 24 = .ok (.aload_n 0, 1) := by decide +kernel
theorem d_YearPlan_vigilDay_25 : decode prog_11_method_6_code 25 = .ok (.getfield 18, 3) := by decide +kernel
theorem d_YearPlan_vigilDay_28 : decode prog_11_method_6_code 28 = .ok (.iload_n 1, 1) := by decide +kernel
theorem d_YearPlan_vigilDay_29 : decode prog_11_method_6_code 29 = .ok (.iaload, 1) := by decide +kernel
theorem d_YearPlan_vigilDay_30 : decode prog_11_method_6_code 30 = .ok (.iconst 1, 1) := by decide +kernel
theorem d_YearPlan_vigilDay_31 : decode prog_11_method_6_code 31 = .ok (.isub, 1) := by decide +kernel
theorem d_YearPlan_vigilDay_32 : decode prog_11_method_6_code 32 = .ok (.istore_n 2, 1) := by decide +kernel
theorem d_YearPlan_vigilDay_33 : decode prog_11_method_6_code 33 = .ok (.aload_n 0, 1) := by decide +kernel
theorem d_YearPlan_vigilDay_34 : decode prog_11_method_6_code 34 = .ok (.iload_n 2, 1) := by decide +kernel
theorem d_YearPlan_vigilDay_35 : decode prog_11_method_6_code 35 = .ok (.invokevirtual 91, 3) := by decide +kernel
theorem d_YearPlan_vigilDay_38 : decode prog_11_method_6_code 38 = .ok (.ifCond .eq 9, 3) := by decide +kernel
theorem d_YearPlan_vigilDay_41 : decode prog_11_method_6_code 41 = .ok (.iload_n 2, 1) := by decide +kernel
theorem d_YearPlan_vigilDay_42 : decode prog_11_method_6_code 42 = .ok (.iconst 1, 1) := by decide +kernel
theorem d_YearPlan_vigilDay_43 : decode prog_11_method_6_code 43 = .ok (.isub, 1) := by decide +kernel
theorem d_YearPlan_vigilDay_44 : decode prog_11_method_6_code 44 = .ok (.goto 4, 3) := by decide +kernel
theorem d_YearPlan_vigilDay_47 : decode prog_11_method_6_code 47 = .ok (.iload_n 2, 1) := by decide +kernel
theorem d_YearPlan_vigilDay_48 : decode prog_11_method_6_code 48 = .ok (.ireturn, 1) := by decide +kernel
theorem mb_YearPlan_isSunday : MBv R_YearPlan y_YearPlan_isSunday prog_11_method_7_code 2 (some .boolean) 1 := ⟨mT4 197 (by decide +kernel) (by decide +kernel), mT4 198 (by decide +kernel) (by decide +kernel), mT1 8 (by decide +kernel) (by decide +kernel), mT4 199 (by decide +kernel) (by decide +kernel), by decide, rfl, by decide +kernel, by decide +kernel, by decide +kernel⟩
theorem fk_YearPlan_18 : Cond.fieldLink "FeastBook$YearPlan" 18 (T_YearPlan 8).1 (T_YearPlan 8).2.1 (T_YearPlan 8).2.2.1 ∈ TT := mT2 77 (by decide +kernel) (by decide +kernel)
theorem fk_YearPlan_88 : Cond.fieldLink "FeastBook$YearPlan" 88 (T_Feasts 5).1 (T_Feasts 5).2.1 (T_Feasts 5).2.2.1 ∈ TT := mT1 120 (by decide +kernel) (by decide +kernel)
theorem lk_YearPlan_91 : Cond.methodLink "FeastBook$YearPlan" 91 y_YearPlan_isSunday ∈ TT := mT4 196 (by decide +kernel) (by decide +kernel)
set_option maxHeartbeats 4000000 in
set_option maxRecDepth 100000 in
theorem c_YearPlan_vigilDay {l : Launch} {D : va_G} {ad : Nat → Nat} {cA : Nat → ClassId} {sd sv : Nat → Nat} {h : Hp} {a1 : Int} {out : Int} (hI : Inj97 ad) (hM : M_YearPlan_vigilDay h a1 = some out) : Met l y_YearPlan_vigilDay (.code y_YearPlan_vigilDay prog_11_method_6_code 3 (some .int) :: TT) (rmD 3) (PC D ad cA sd sv h [.ref (ad 66), .int (iZ a1)]) (QR out) 0 0 (fun _ => False) := by
  unfold M_YearPlan_vigilDay at hM
  refine entM (by decide +kernel) hI (Nat.le_of_ble_eq_true rfl) ?_
  intro p e s m args below meth c C hr hlk hP ls hl
  have C : Cx p s m args c prog_11_method_6_code 3 "FeastBook$YearPlan" D ad cA sd sv (FA ad) := C
  have hl : lv_has ls 3 [(0, .ref (ad 66)), (1, .int (iZ a1))] := hl
  refine m_aload_n C hl 0 d_YearPlan_vigilDay_0 rfl rfl ?_
  refine m_getr C hP kc_YearPlan sh_66 (Nat.le_of_ble_eq_true rfl) 1 33 rfl (by decide) fk_YearPlan_40 d_YearPlan_vigilDay_1 ?_
  refine m_getr C hP kc_Feasts sh_33 (Nat.le_of_ble_eq_true rfl) 5 38 rfl (by decide) fk_YearPlan_88 d_YearPlan_vigilDay_4 ?_
  refine m_iload_n C hl 1 d_YearPlan_vigilDay_7 rfl rfl ?_
  refine m_iald C hP sh_38 (Nat.le_of_ble_eq_true rfl) (Nat.le_of_ble_eq_true rfl) hM d_YearPlan_vigilDay_8 (fun x1 hM => ?_)
  refine m_if_eq C hM 22 d_YearPlan_vigilDay_9 (by decide) (fun hM => ?_) (fun hM => ?_)
  · refine m_iconst C d_YearPlan_vigilDay_22 ?_
    exact m_iretR C hr hlk hM d_YearPlan_vigilDay_23
  · refine m_aload_n C hl 0 d_YearPlan_vigilDay_12 rfl rfl ?_
    refine m_getr C hP kc_YearPlan sh_66 (Nat.le_of_ble_eq_true rfl) 8 69 rfl (by decide) fk_YearPlan_18 d_YearPlan_vigilDay_13 ?_
    refine m_iload_n C hl 1 d_YearPlan_vigilDay_16 rfl rfl ?_
    refine m_iald C hP sh_69 (Nat.le_of_ble_eq_true rfl) (Nat.le_of_ble_eq_true rfl) hM d_YearPlan_vigilDay_17 (fun x2 hM => ?_)
    refine m_iconst C d_YearPlan_vigilDay_18 ?_
    refine m_icmp_ge C hM 24 d_YearPlan_vigilDay_19 (by decide) (fun hM => ?_) (fun hM => ?_)
    · refine m_aload_n C hl 0 d_YearPlan_vigilDay_24 rfl rfl ?_
      refine m_getr C hP kc_YearPlan sh_66 (Nat.le_of_ble_eq_true rfl) 8 69 rfl (by decide) fk_YearPlan_18 d_YearPlan_vigilDay_25 ?_
      refine m_iload_n C hl 1 d_YearPlan_vigilDay_28 rfl rfl ?_
      refine m_iald C hP sh_69 (Nat.le_of_ble_eq_true rfl) (Nat.le_of_ble_eq_true rfl) hM d_YearPlan_vigilDay_29 (fun x3 hM => ?_)
      refine m_iconst C d_YearPlan_vigilDay_30 ?_
      refine m_isub C d_YearPlan_vigilDay_31 ?_
      refine m_istore_n C hl [(2, .int (iZ (x3 - 1))), (0, .ref (ad 66)), (1, .int (iZ a1))] d_YearPlan_vigilDay_32 rfl (by decide) rfl (fun ls hl => ?_)
      refine m_aload_n C hl 1 d_YearPlan_vigilDay_33 rfl rfl ?_
      refine m_iload_n C hl 0 d_YearPlan_vigilDay_34 rfl rfl ?_
      obtain ⟨x5, e4, hM⟩ := bnd_some hM
      refine aftR (runV C hP va_S.rf kc_YearPlan sh_66 (Nat.le_of_ble_eq_true rfl) (c_YearPlan_isSunday hI e4) lk_YearPlan_91 mb_YearPlan_isSunday rfl ⟨Nat.le_of_ble_eq_true rfl, Nat.le_of_ble_eq_true rfl⟩ ⟨Nat.zero_le _, Nat.zero_le _⟩ (Nat.le_of_ble_eq_true rfl) d_YearPlan_vigilDay_35 hl.1 (rest := []) rfl) ?_
      refine m_if_eq C hM 47 d_YearPlan_vigilDay_38 (by decide) (fun hM => ?_) (fun hM => ?_)
      · refine m_iload_n C hl 0 d_YearPlan_vigilDay_47 rfl rfl ?_
        exact m_iretR C hr hlk hM d_YearPlan_vigilDay_48
      · refine m_iload_n C hl 0 d_YearPlan_vigilDay_41 rfl rfl ?_
        refine m_iconst C d_YearPlan_vigilDay_42 ?_
        refine m_isub C d_YearPlan_vigilDay_43 ?_
        refine m_goto C 48 d_YearPlan_vigilDay_44 (by decide) ?_
        exact m_iretR C hr hlk hM d_YearPlan_vigilDay_48
    · refine m_iconst C d_YearPlan_vigilDay_22 ?_
      exact m_iretR C hr hlk hM d_YearPlan_vigilDay_23
def y_YearPlan_lay : MethodName := ⟨"FeastBook$YearPlan", "lay", "(I)V"⟩
theorem d_YearPlan_lay_0 : decode prog_11_method_3_code 0 = .ok (.aload_n 0, 1) := by decide +kernel
theorem d_YearPlan_lay_1 : decode prog_11_method_3_code 1 = .ok (.getfield 41, 3) := by decide +kernel
theorem d_YearPlan_lay_4 : decode prog_11_method_3_code 4 = .ok (.iload_n 1, 1) := by decide +kernel
theorem d_YearPlan_lay_5 : decode prog_11_method_3_code 5 = .ok (.if_icmp .ne 4, 3) := by decide +kernel
theorem d_YearPlan_lay_8 : decode prog_11_method_3_code 8 = .ok (.return_, 1) := by decide +kernel
theorem d_YearPlan_lay_9 : decode prog_11_method_3_code 9 = .ok (.aload_n 0, 1) := by decide +kernel
theorem d_YearPlan_lay_10 : decode prog_11_method_3_code 10 = .ok (.iload_n 1, 1) := by decide +kernel
theorem d_YearPlan_lay_11 : decode prog_11_method_3_code 11 = .ok (.putfield 41, 3) := by decide +kernel
theorem d_YearPlan_lay_14 : decode prog_11_method_3_code 14 = .ok (.aload_n 0, 1) := by decide +kernel
theorem d_YearPlan_lay_15 : decode prog_11_method_3_code 15 = .ok (.iconst (-1), 1) := by decide +kernel
theorem d_YearPlan_lay_16 : decode prog_11_method_3_code 16 = .ok (.putfield 45, 3) := by decide +kernel
theorem d_YearPlan_lay_19 : decode prog_11_method_3_code 19 = .ok (.aload_n 0, 1) := by decide +kernel
theorem d_YearPlan_lay_20 : decode prog_11_method_3_code 20 = .ok (.aload_n 0, 1) := by decide +kernel
theorem d_YearPlan_lay_21 : decode prog_11_method_3_code 21 = .ok (.getfield 30, 3) := by decide +kernel
theorem d_YearPlan_lay_24 : decode prog_11_method_3_code 24 = .ok (.iload_n 1, 1) := by decide +kernel
theorem d_YearPlan_lay_25 : decode prog_11_method_3_code 25 = .ok (.invokevirtual 48, 3) := by decide +kernel
theorem d_YearPlan_lay_28 : decode prog_11_method_3_code 28 = .ok (.putfield 52, 3) := by decide +kernel
theorem d_YearPlan_lay_31 : decode prog_11_method_3_code 31 = .ok (.aload_n 0, 1) := by decide +kernel
theorem d_YearPlan_lay_32 : decode prog_11_method_3_code 32 = .ok (.aload_n 0, 1) := by decide +kernel
theorem d_YearPlan_lay_33 : decode prog_11_method_3_code 33 = .ok (.getfield 30, 3) := by decide +kernel
theorem d_YearPlan_lay_36 : decode prog_11_method_3_code 36 = .ok (.iload_n 1, 1) := by decide +kernel
theorem d_YearPlan_lay_37 : decode prog_11_method_3_code 37 = .ok (.invokevirtual 55, 3) := by decide +kernel
theorem d_YearPlan_lay_40 : decode prog_11_method_3_code 40 = .ok (.putfield 58, 3) := by decide +kernel
theorem d_YearPlan_lay_43 : decode prog_11_method_3_code 43 = .ok (.iconst 0, 1) := by decide +kernel
theorem d_YearPlan_lay_44 : decode prog_11_method_3_code 44 = .ok (.istore_n 2, 1) := by decide +kernel
theorem d_YearPlan_lay_45 : decode prog_11_method_3_code 45 = .ok (.iload_n 2, 1) := by decide +kernel
theorem d_YearPlan_lay_46 : decode prog_11_method_3_code 46 = .ok (.aload_n 0, 1) := by decide +kernel
theorem d_YearPlan_lay_47 : decode prog_11_method_3_code 47 = .ok (.getfield 40, 3) := by decide +kernel
theorem d_YearPlan_lay_50 : decode prog_11_method_3_code 50 = .ok (.getfield 61, 3) := by decide +kernel
theorem d_YearPlan_lay_53 : decode prog_11_method_3_code 53 = .ok (.if_icmp .ge 45, 3) := by decide +kernel
theorem d_YearPlan_lay_56 : decode prog_11_method_3_code 56 = .ok (.aload_n 0, 1) := by decide +kernel
theorem d_YearPlan_lay_57 : decode prog_11_method_3_code 57 = .ok (.iload_n 2, 1) := by decide +kernel
theorem d_YearPlan_lay_58 : decode prog_11_method_3_code 58 = .ok (.invokevirtual 66, 3) := by decide +kernel
theorem d_YearPlan_lay_61 : decode prog_11_method_3_code 61 = .ok (.istore_n 3, 1) := by decide +kernel
theorem d_YearPlan_lay_62 : decode prog_11_method_3_code 62 = .ok (.aload_n 0, 1) := by decide +kernel
theorem d_YearPlan_lay_63 : decode prog_11_method_3_code 63 = .ok (.getfield 18, 3) := by decide +kernel
theorem d_YearPlan_lay_66 : decode prog_11_method_3_code 66 = .ok (.iload_n 2, 1) := by decide +kernel
theorem d_YearPlan_lay_67 : decode prog_11_method_3_code 67 = .ok (.aload_n 0, 1) := by decide +kernel
theorem d_YearPlan_lay_68 : decode prog_11_method_3_code 68 = .ok (.iload_n 3, 1) := by decide +kernel
theorem d_YearPlan_lay_69 : decode prog_11_method_3_code 69 = .ok (.invokevirtual 69, 3) := by decide +kernel
theorem d_YearPlan_lay_72 : decode prog_11_method_3_code 72 = .ok (.ifCond .eq 7, 3) := by decide +kernel
theorem d_YearPlan_lay_75 : decode prog_11_method_3_code 75 = .ok (.iload_n 3, 1) := by decide +kernel
theorem d_YearPlan_lay_76 : decode prog_11_method_3_code 76 = .ok (.goto 4, 3) := by decide +kernel
theorem d_YearPlan_lay_79 : decode prog_11_method_3_code 79 = .ok (.iconst (-1), 1) := by decide +kernel
theorem d_YearPlan_lay_80 : decode prog_11_method_3_code 80 = .ok (.iastore, 1) := by decide +kernel
theorem d_YearPlan_lay_81 : decode prog_11_method_3_code 81 = .ok (.aload_n 0, 1) := by decide +kernel
theorem d_YearPlan_lay_82 : decode prog_11_method_3_code 82 = .ok (.getfield 21, 3) := by decide +kernel
theorem d_YearPlan_lay_85 : decode prog_11_method_3_code 85 = .ok (.iload_n 2, 1) := by decide +kernel
theorem d_YearPlan_lay_86 : decode prog_11_method_3_code 86 = .ok (.aload_n 0, 1) := by decide +kernel
theorem d_YearPlan_lay_87 : decode prog_11_method_3_code 87 = .ok (.iload_n 2, 1) := by decide +kernel
theorem d_YearPlan_lay_88 : decode prog_11_method_3_code 88 = .ok (.invokevirtual 73, 3) := by decide +kernel
theorem d_YearPlan_lay_91 : decode prog_11_method_3_code 91 = .ok (.iastore, 1) := by decide +kernel
theorem d_YearPlan_lay_92 : decode prog_11_method_3_code 92 = .ok (.iinc 2 1, 3) := by decide +kernel
theorem d_YearPlan_lay_95 : decode prog_11_method_3_code 95 = .ok (.goto (-50), 3) := by decide +kernel
theorem d_YearPlan_lay_98 : decode prog_11_method_3_code 98 = .ok (.return_, 1) := by decide +kernel
theorem mb_Book_daysIn : MBv R_Book y_Book_daysIn prog_2_method_14_code 2 (some .int) 1 := ⟨mT4 168 (by decide +kernel) (by decide +kernel), mT4 169 (by decide +kernel) (by decide +kernel), mT1 4 (by decide +kernel) (by decide +kernel), mT4 170 (by decide +kernel) (by decide +kernel), by decide, rfl, by decide +kernel, by decide +kernel, by decide +kernel⟩
theorem mb_Book_paschIn : MBv R_Book y_Book_paschIn prog_2_method_15_code 2 (some .int) 1 := ⟨mT4 176 (by decide +kernel) (by decide +kernel), mT4 177 (by decide +kernel) (by decide +kernel), mT1 4 (by decide +kernel) (by decide +kernel), mT4 178 (by decide +kernel) (by decide +kernel), by decide, rfl, by decide +kernel, by decide +kernel, by decide +kernel⟩
theorem mb_YearPlan_hasDay : MBv R_YearPlan y_YearPlan_hasDay prog_11_method_4_code 2 (some .boolean) 1 := ⟨mT4 189 (by decide +kernel) (by decide +kernel), mT4 190 (by decide +kernel) (by decide +kernel), mT1 8 (by decide +kernel) (by decide +kernel), mT4 191 (by decide +kernel) (by decide +kernel), by decide, rfl, by decide +kernel, by decide +kernel, by decide +kernel⟩
theorem mb_YearPlan_toldDay : MBv R_YearPlan y_YearPlan_toldDay prog_11_method_5_code 3 (some .int) 1 := ⟨mT4 180 (by decide +kernel) (by decide +kernel), mT4 181 (by decide +kernel) (by decide +kernel), mT1 8 (by decide +kernel) (by decide +kernel), mT4 182 (by decide +kernel) (by decide +kernel), by decide, rfl, by decide +kernel, by decide +kernel, by decide +kernel⟩
theorem mb_YearPlan_vigilDay : MBv R_YearPlan y_YearPlan_vigilDay prog_11_method_6_code 3 (some .int) 1 := ⟨mT4 193 (by decide +kernel) (by decide +kernel), mT4 194 (by decide +kernel) (by decide +kernel), mT1 8 (by decide +kernel) (by decide +kernel), mT4 195 (by decide +kernel) (by decide +kernel), by decide, rfl, by decide +kernel, by decide +kernel, by decide +kernel⟩
theorem fk_YearPlan_21 : Cond.fieldLink "FeastBook$YearPlan" 21 (T_YearPlan 9).1 (T_YearPlan 9).2.1 (T_YearPlan 9).2.2.1 ∈ TT := mT2 80 (by decide +kernel) (by decide +kernel)
theorem fk_YearPlan_61 : Cond.fieldLink "FeastBook$YearPlan" 61 (T_Feasts 0).1 (T_Feasts 0).2.1 (T_Feasts 0).2.2.1 ∈ TT := mT1 101 (by decide +kernel) (by decide +kernel)
theorem lk_YearPlan_48 : Cond.methodLink "FeastBook$YearPlan" 48 y_Book_daysIn ∈ TT := mT4 167 (by decide +kernel) (by decide +kernel)
theorem lk_YearPlan_55 : Cond.methodLink "FeastBook$YearPlan" 55 y_Book_paschIn ∈ TT := mT4 175 (by decide +kernel) (by decide +kernel)
theorem lk_YearPlan_66 : Cond.methodLink "FeastBook$YearPlan" 66 y_YearPlan_toldDay ∈ TT := mT4 179 (by decide +kernel) (by decide +kernel)
theorem lk_YearPlan_69 : Cond.methodLink "FeastBook$YearPlan" 69 y_YearPlan_hasDay ∈ TT := mT4 188 (by decide +kernel) (by decide +kernel)
theorem lk_YearPlan_73 : Cond.methodLink "FeastBook$YearPlan" 73 y_YearPlan_vigilDay ∈ TT := mT4 192 (by decide +kernel) (by decide +kernel)
set_option maxHeartbeats 4000000 in
set_option maxRecDepth 100000 in
theorem w_YearPlan_lay_L45 {p : Program} {l : Launch} {e : Env} {s : State} {m : MethodId} {args : Array Value} {below : List Frame} {meth : Method} {c : Code} {D : va_G} {ad : Nat → Nat} {cA : Nat → ClassId} {sd sv : Nat → Nat} {out : Hp} (N : Nat) (hI : Inj97 ad) (C : Cx p s m args c prog_11_method_3_code 4 "FeastBook$YearPlan" D ad cA sd sv (FA ad)) (hr : meth.sig.returnType = none) (hlk : meth.locks = false) (v1 : Int) : ∀ (n : Nat) (v2 : Int) (h : Hp) (H : Heap) (locs : List Loc), Wd s D ad cA (FA ad) h H locs → ∀ ls : Array Slot, lv_has ls 4 [(0, .ref (ad 66)), (1, .int (iZ v1)), (2, .int (iZ v2))] → YearPlan_lay_L45 N n v2 h = some out → W p l e (rmD 4) s m args below meth c H locs 0 0 (MQ below (QV D ad cA out) args s 0 0 (FA ad)) (F0 m 45 ls []) := by
  intro n
  induction n with
  | zero =>
    intro v2 h H locs w ls hl hM
    rw [YearPlan_lay_L45] at hM
    cases hM
  | succ n ih =>
    intro v2 h H locs w ls hl hM
    rw [YearPlan_lay_L45] at hM
    refine m_iload_n C hl 2 d_YearPlan_lay_45 rfl rfl ?_
    refine m_aload_n C hl 0 d_YearPlan_lay_46 rfl rfl ?_
    refine m_getr C w.1 kc_YearPlan sh_66 (Nat.le_of_ble_eq_true rfl) 1 33 rfl (by decide) fk_YearPlan_40 d_YearPlan_lay_47 ?_
    refine m_geti C w.1 kc_Feasts sh_33 (Nat.le_of_ble_eq_true rfl) 0 rfl (by decide) fk_YearPlan_61 d_YearPlan_lay_50 ?_
    refine m_icmp_ge C hM 98 d_YearPlan_lay_53 (by decide) (fun hM => ?_) (fun hM => ?_)
    · exact m_vretW C w hr hlk hM d_YearPlan_lay_98
    · refine m_aload_n C hl 0 d_YearPlan_lay_56 rfl rfl ?_
      refine m_iload_n C hl 2 d_YearPlan_lay_57 rfl rfl ?_
      obtain ⟨x10, e9, hM⟩ := bnd_some hM
      refine aftR (runV C w.1 w.2 kc_YearPlan sh_66 (Nat.le_of_ble_eq_true rfl) (c_YearPlan_toldDay hI e9) lk_YearPlan_66 mb_YearPlan_toldDay rfl ⟨Nat.le_of_ble_eq_true rfl, Nat.le_of_ble_eq_true rfl⟩ ⟨Nat.zero_le _, Nat.zero_le _⟩ (Nat.le_of_ble_eq_true rfl) d_YearPlan_lay_58 hl.1 (rest := []) rfl) ?_
      refine m_istore_n C hl [(3, .int (iZ x10)), (0, .ref (ad 66)), (1, .int (iZ v1)), (2, .int (iZ v2))] d_YearPlan_lay_61 rfl (by decide) rfl (fun ls hl => ?_)
      refine m_aload_n C hl 1 d_YearPlan_lay_62 rfl rfl ?_
      refine m_getr C w.1 kc_YearPlan sh_66 (Nat.le_of_ble_eq_true rfl) 8 69 rfl (by decide) fk_YearPlan_18 d_YearPlan_lay_63 ?_
      refine m_iload_n C hl 3 d_YearPlan_lay_66 rfl rfl ?_
      refine m_aload_n C hl 1 d_YearPlan_lay_67 rfl rfl ?_
      refine m_iload_n C hl 0 d_YearPlan_lay_68 rfl rfl ?_
      obtain ⟨x12, e11, hM⟩ := bnd_some hM
      refine aftR (runV C w.1 w.2 kc_YearPlan sh_66 (Nat.le_of_ble_eq_true rfl) (c_YearPlan_hasDay hI e11) lk_YearPlan_69 mb_YearPlan_hasDay rfl ⟨Nat.le_of_ble_eq_true rfl, Nat.le_of_ble_eq_true rfl⟩ ⟨Nat.zero_le _, Nat.zero_le _⟩ (Nat.le_of_ble_eq_true rfl) d_YearPlan_lay_69 hl.1 (rest := [.int (iZ v2), .ref (ad 69)]) rfl) ?_
      refine m_if_eq C hM 79 d_YearPlan_lay_72 (by decide) (fun hM => ?_) (fun hM => ?_)
      · refine m_iconst C d_YearPlan_lay_79 ?_
        refine m_iast C w sh_69 (Nat.le_of_ble_eq_true rfl) (Nat.le_of_ble_eq_true rfl) hM d_YearPlan_lay_80 (fun h13 H locs w hM => ?_)
        refine m_aload_n C hl 1 d_YearPlan_lay_81 rfl rfl ?_
        refine m_getr C w.1 kc_YearPlan sh_66 (Nat.le_of_ble_eq_true rfl) 9 70 rfl (by decide) fk_YearPlan_21 d_YearPlan_lay_82 ?_
        refine m_iload_n C hl 3 d_YearPlan_lay_85 rfl rfl ?_
        refine m_aload_n C hl 1 d_YearPlan_lay_86 rfl rfl ?_
        refine m_iload_n C hl 3 d_YearPlan_lay_87 rfl rfl ?_
        obtain ⟨x15, e14, hM⟩ := bnd_some hM
        refine aftR (runV C w.1 w.2 kc_YearPlan sh_66 (Nat.le_of_ble_eq_true rfl) (c_YearPlan_vigilDay hI e14) lk_YearPlan_73 mb_YearPlan_vigilDay rfl ⟨Nat.le_of_ble_eq_true rfl, Nat.le_of_ble_eq_true rfl⟩ ⟨Nat.zero_le _, Nat.zero_le _⟩ (Nat.le_of_ble_eq_true rfl) d_YearPlan_lay_88 hl.1 (rest := [.int (iZ v2), .ref (ad 70)]) rfl) ?_
        refine m_iast C w sh_70 (Nat.le_of_ble_eq_true rfl) (Nat.le_of_ble_eq_true rfl) hM d_YearPlan_lay_91 (fun h16 H locs w hM => ?_)
        refine m_iinc C hl 3 [(2, .int (iZ (v2 + 1))), (3, .int (iZ x10)), (0, .ref (ad 66)), (1, .int (iZ v1))] d_YearPlan_lay_92 rfl (by decide) rfl (fun ls hl => ?_)
        refine m_goto C 45 d_YearPlan_lay_95 (by decide) ?_
        exact ih (v2 + 1) h16 _ _ w _ (lv_sub hl [2, 3, 0] rfl) hM
      · refine m_iload_n C hl 0 d_YearPlan_lay_75 rfl rfl ?_
        refine m_goto C 80 d_YearPlan_lay_76 (by decide) ?_
        refine m_iast C w sh_69 (Nat.le_of_ble_eq_true rfl) (Nat.le_of_ble_eq_true rfl) hM d_YearPlan_lay_80 (fun h17 H locs w hM => ?_)
        refine m_aload_n C hl 1 d_YearPlan_lay_81 rfl rfl ?_
        refine m_getr C w.1 kc_YearPlan sh_66 (Nat.le_of_ble_eq_true rfl) 9 70 rfl (by decide) fk_YearPlan_21 d_YearPlan_lay_82 ?_
        refine m_iload_n C hl 3 d_YearPlan_lay_85 rfl rfl ?_
        refine m_aload_n C hl 1 d_YearPlan_lay_86 rfl rfl ?_
        refine m_iload_n C hl 3 d_YearPlan_lay_87 rfl rfl ?_
        obtain ⟨x19, e18, hM⟩ := bnd_some hM
        refine aftR (runV C w.1 w.2 kc_YearPlan sh_66 (Nat.le_of_ble_eq_true rfl) (c_YearPlan_vigilDay hI e18) lk_YearPlan_73 mb_YearPlan_vigilDay rfl ⟨Nat.le_of_ble_eq_true rfl, Nat.le_of_ble_eq_true rfl⟩ ⟨Nat.zero_le _, Nat.zero_le _⟩ (Nat.le_of_ble_eq_true rfl) d_YearPlan_lay_88 hl.1 (rest := [.int (iZ v2), .ref (ad 70)]) rfl) ?_
        refine m_iast C w sh_70 (Nat.le_of_ble_eq_true rfl) (Nat.le_of_ble_eq_true rfl) hM d_YearPlan_lay_91 (fun h20 H locs w hM => ?_)
        refine m_iinc C hl 3 [(2, .int (iZ (v2 + 1))), (3, .int (iZ x10)), (0, .ref (ad 66)), (1, .int (iZ v1))] d_YearPlan_lay_92 rfl (by decide) rfl (fun ls hl => ?_)
        refine m_goto C 45 d_YearPlan_lay_95 (by decide) ?_
        exact ih (v2 + 1) h20 _ _ w _ (lv_sub hl [2, 3, 0] rfl) hM
set_option maxHeartbeats 4000000 in
set_option maxRecDepth 100000 in
theorem c_YearPlan_lay {l : Launch} {D : va_G} {ad : Nat → Nat} {cA : Nat → ClassId} {sd sv : Nat → Nat} {h : Hp} {N : Nat} {a1 : Int} {out : Hp} (hI : Inj97 ad) (hM : M_YearPlan_lay N h a1 = some out) : Met l y_YearPlan_lay (.code y_YearPlan_lay prog_11_method_3_code 4 none :: TT) (rmD 4) (PC D ad cA sd sv h [.ref (ad 66), .int (iZ a1)]) (QV D ad cA out) 0 0 (FA ad) := by
  unfold M_YearPlan_lay at hM
  refine entM (by decide +kernel) hI (Nat.le_of_ble_eq_true rfl) ?_
  intro p e s m args below meth c C hr hlk hP ls hl
  have C : Cx p s m args c prog_11_method_3_code 4 "FeastBook$YearPlan" D ad cA sd sv (FA ad) := C
  have hl : lv_has ls 4 [(0, .ref (ad 66)), (1, .int (iZ a1))] := hl
  have w : Wd s D ad cA (FA ad) h s.heap [] := ⟨hP, va_S.rf⟩
  refine m_aload_n C hl 0 d_YearPlan_lay_0 rfl rfl ?_
  refine m_geti C w.1 kc_YearPlan sh_66 (Nat.le_of_ble_eq_true rfl) 2 rfl (by decide) fk_YearPlan_41 d_YearPlan_lay_1 ?_
  refine m_iload_n C hl 1 d_YearPlan_lay_4 rfl rfl ?_
  refine m_icmp_ne C hM 9 d_YearPlan_lay_5 (by decide) (fun hM => ?_) (fun hM => ?_)
  · refine m_aload_n C hl 0 d_YearPlan_lay_9 rfl rfl ?_
    refine m_iload_n C hl 1 d_YearPlan_lay_10 rfl rfl ?_
    refine m_puti C w kc_YearPlan sh_66 (Nat.le_of_ble_eq_true rfl) 2 hM rfl (by decide) rfl rfl fk_YearPlan_41 d_YearPlan_lay_11 (fun h1 H locs w hM => ?_)
    refine m_aload_n C hl 0 d_YearPlan_lay_14 rfl rfl ?_
    refine m_iconst C d_YearPlan_lay_15 ?_
    refine m_puti C w kc_YearPlan sh_66 (Nat.le_of_ble_eq_true rfl) 3 hM rfl (by decide) rfl rfl fk_YearPlan_45 d_YearPlan_lay_16 (fun h2 H locs w hM => ?_)
    refine m_aload_n C hl 0 d_YearPlan_lay_19 rfl rfl ?_
    refine m_aload_n C hl 0 d_YearPlan_lay_20 rfl rfl ?_
    refine m_getr C w.1 kc_YearPlan sh_66 (Nat.le_of_ble_eq_true rfl) 0 23 rfl (by decide) fk_YearPlan_30 d_YearPlan_lay_21 ?_
    refine m_iload_n C hl 1 d_YearPlan_lay_24 rfl rfl ?_
    obtain ⟨x4, e3, hM⟩ := bnd_some hM
    refine aftR (runV C w.1 w.2 kc_Book sh_23 (Nat.le_of_ble_eq_true rfl) (c_Book_daysIn hI (Or.inr (Or.inl rfl)) e3) lk_YearPlan_48 mb_Book_daysIn rfl ⟨Nat.le_of_ble_eq_true rfl, Nat.le_of_ble_eq_true rfl⟩ ⟨Nat.zero_le _, Nat.zero_le _⟩ (Nat.le_of_ble_eq_true rfl) d_YearPlan_lay_25 hl.1 (rest := [.ref (ad 66)]) rfl) ?_
    refine m_puti C w kc_YearPlan sh_66 (Nat.le_of_ble_eq_true rfl) 4 hM rfl (by decide) rfl rfl fk_YearPlan_52 d_YearPlan_lay_28 (fun h5 H locs w hM => ?_)
    refine m_aload_n C hl 0 d_YearPlan_lay_31 rfl rfl ?_
    refine m_aload_n C hl 0 d_YearPlan_lay_32 rfl rfl ?_
    refine m_getr C w.1 kc_YearPlan sh_66 (Nat.le_of_ble_eq_true rfl) 0 23 rfl (by decide) fk_YearPlan_30 d_YearPlan_lay_33 ?_
    refine m_iload_n C hl 1 d_YearPlan_lay_36 rfl rfl ?_
    obtain ⟨x7, e6, hM⟩ := bnd_some hM
    refine aftR (runV C w.1 w.2 kc_Book sh_23 (Nat.le_of_ble_eq_true rfl) (c_Book_paschIn hI (Or.inr (Or.inl rfl)) e6) lk_YearPlan_55 mb_Book_paschIn rfl ⟨Nat.le_of_ble_eq_true rfl, Nat.le_of_ble_eq_true rfl⟩ ⟨Nat.zero_le _, Nat.zero_le _⟩ (Nat.le_of_ble_eq_true rfl) d_YearPlan_lay_37 hl.1 (rest := [.ref (ad 66)]) rfl) ?_
    refine m_puti C w kc_YearPlan sh_66 (Nat.le_of_ble_eq_true rfl) 5 hM rfl (by decide) rfl rfl fk_YearPlan_58 d_YearPlan_lay_40 (fun h8 H locs w hM => ?_)
    refine m_iconst C d_YearPlan_lay_43 ?_
    refine m_istore_n C hl [(2, .int (iZ 0)), (0, .ref (ad 66)), (1, .int (iZ a1))] d_YearPlan_lay_44 rfl (by decide) rfl (fun ls hl => ?_)
    exact w_YearPlan_lay_L45 N hI C hr hlk a1 _ 0 h8 _ _ w _ (lv_sub hl [1, 2, 0] rfl) hM
  · exact m_vretW C w hr hlk hM d_YearPlan_lay_8
def y_YearPlan_raiseBase : MethodName := ⟨"FeastBook$YearPlan", "raiseBase", "(II)V"⟩
theorem d_YearPlan_raiseBase_0 : decode prog_11_method_11_code 0 = .ok (.aload_n 0, 1) := by decide +kernel
theorem d_YearPlan_raiseBase_1 : decode prog_11_method_11_code 1 = .ok (.iload_n 1, 1) := by decide +kernel
theorem d_YearPlan_raiseBase_2 : decode prog_11_method_11_code 2 = .ok (.invokevirtual 69, 3) := by decide +kernel
theorem d_YearPlan_raiseBase_5 : decode prog_11_method_11_code 5 = .ok (.ifCond .eq 20, 3) := by decide +kernel
theorem d_YearPlan_raiseBase_8 : decode prog_11_method_11_code 8 = .ok (.aload_n 0, 1) := by decide +kernel
theorem d_YearPlan_raiseBase_9 : decode prog_11_method_11_code 9 = .ok (.getfield 9, 3) := by decide +kernel
theorem d_YearPlan_raiseBase_12 : decode prog_11_method_11_code 12 = .ok (.iload_n 1, 1) := by decide +kernel
theorem d_YearPlan_raiseBase_13 : decode prog_11_method_11_code 13 = .ok (.iaload, 1) := by decide +kernel
theorem d_YearPlan_raiseBase_14 : decode prog_11_method_11_code 14 = .ok (.iload_n 2, 1) := by decide +kernel
theorem d_YearPlan_raiseBase_15 : decode prog_11_method_11_code 15 = .ok (.if_icmp .ge 10, 3) := by decide +kernel
theorem d_YearPlan_raiseBase_18 : decode prog_11_method_11_code 18 = .ok (.aload_n 0, 1) := by decide +kernel
theorem d_YearPlan_raiseBase_19 : decode prog_11_method_11_code 19 = .ok (.getfield 9, 3) := by decide +kernel
theorem d_YearPlan_raiseBase_22 : decode prog_11_method_11_code 22 = .ok (.iload_n 1, 1) := by decide +kernel
theorem d_YearPlan_raiseBase_23 : decode prog_11_method_11_code 23 = .ok (.iload_n 2, 1) := by decide +kernel
theorem d_YearPlan_raiseBase_24 : decode prog_11_method_11_code 24 = .ok (.iastore, 1) := by decide +kernel
theorem d_YearPlan_raiseBase_25 : decode prog_11_method_11_code 25 = .ok (.return_, 1) := by decide +kernel
theorem fk_YearPlan_9 : Cond.fieldLink "FeastBook$YearPlan" 9 (T_YearPlan 6).1 (T_YearPlan 6).2.1 (T_YearPlan 6).2.2.1 ∈ TT := mT2 73 (by decide +kernel) (by decide +kernel)
set_option maxHeartbeats 4000000 in
set_option maxRecDepth 100000 in
theorem c_YearPlan_raiseBase {l : Launch} {D : va_G} {ad : Nat → Nat} {cA : Nat → ClassId} {sd sv : Nat → Nat} {h : Hp} {a1 a2 : Int} {out : Hp} (hI : Inj97 ad) (hM : M_YearPlan_raiseBase h a1 a2 = some out) : Met l y_YearPlan_raiseBase (.code y_YearPlan_raiseBase prog_11_method_11_code 3 none :: TT) (rmD 1) (PC D ad cA sd sv h [.ref (ad 66), .int (iZ a1), .int (iZ a2)]) (QV D ad cA out) 0 0 (FA ad) := by
  unfold M_YearPlan_raiseBase at hM
  refine entM (by decide +kernel) hI (Nat.le_of_ble_eq_true rfl) ?_
  intro p e s m args below meth c C hr hlk hP ls hl
  have C : Cx p s m args c prog_11_method_11_code 3 "FeastBook$YearPlan" D ad cA sd sv (FA ad) := C
  have hl : lv_has ls 3 [(0, .ref (ad 66)), (1, .int (iZ a1)), (2, .int (iZ a2))] := hl
  have w : Wd s D ad cA (FA ad) h s.heap [] := ⟨hP, va_S.rf⟩
  refine m_aload_n C hl 0 d_YearPlan_raiseBase_0 rfl rfl ?_
  refine m_iload_n C hl 1 d_YearPlan_raiseBase_1 rfl rfl ?_
  obtain ⟨x2, e1, hM⟩ := bnd_some hM
  refine aftR (runV C w.1 w.2 kc_YearPlan sh_66 (Nat.le_of_ble_eq_true rfl) (c_YearPlan_hasDay hI e1) lk_YearPlan_69 mb_YearPlan_hasDay rfl ⟨Nat.le_of_ble_eq_true rfl, Nat.le_of_ble_eq_true rfl⟩ ⟨Nat.zero_le _, Nat.zero_le _⟩ (Nat.le_of_ble_eq_true rfl) d_YearPlan_raiseBase_2 hl.1 (rest := []) rfl) ?_
  refine m_if_eq C hM 25 d_YearPlan_raiseBase_5 (by decide) (fun hM => ?_) (fun hM => ?_)
  · exact m_vretW C w hr hlk hM d_YearPlan_raiseBase_25
  · refine m_aload_n C hl 0 d_YearPlan_raiseBase_8 rfl rfl ?_
    refine m_getr C w.1 kc_YearPlan sh_66 (Nat.le_of_ble_eq_true rfl) 6 67 rfl (by decide) fk_YearPlan_9 d_YearPlan_raiseBase_9 ?_
    refine m_iload_n C hl 1 d_YearPlan_raiseBase_12 rfl rfl ?_
    refine m_iald C w.1 sh_67 (Nat.le_of_ble_eq_true rfl) (Nat.le_of_ble_eq_true rfl) hM d_YearPlan_raiseBase_13 (fun x3 hM => ?_)
    refine m_iload_n C hl 2 d_YearPlan_raiseBase_14 rfl rfl ?_
    refine m_icmp_ge C hM 25 d_YearPlan_raiseBase_15 (by decide) (fun hM => ?_) (fun hM => ?_)
    · exact m_vretW C w hr hlk hM d_YearPlan_raiseBase_25
    · refine m_aload_n C hl 0 d_YearPlan_raiseBase_18 rfl rfl ?_
      refine m_getr C w.1 kc_YearPlan sh_66 (Nat.le_of_ble_eq_true rfl) 6 67 rfl (by decide) fk_YearPlan_9 d_YearPlan_raiseBase_19 ?_
      refine m_iload_n C hl 1 d_YearPlan_raiseBase_22 rfl rfl ?_
      refine m_iload_n C hl 2 d_YearPlan_raiseBase_23 rfl rfl ?_
      refine m_iast C w sh_67 (Nat.le_of_ble_eq_true rfl) (Nat.le_of_ble_eq_true rfl) hM d_YearPlan_raiseBase_24 (fun h4 H locs w hM => ?_)
      exact m_vretW C w hr hlk hM d_YearPlan_raiseBase_25
def y_YearPlan_fillOctave : MethodName := ⟨"FeastBook$YearPlan", "fillOctave", "(II)V"⟩
theorem d_YearPlan_fillOctave_0 : decode prog_11_method_10_code 0 = .ok (.iconst 1, 1) := by decide +kernel
theorem d_YearPlan_fillOctave_1 : decode prog_11_method_10_code 1 = .ok (.istore_n 3, 1) := by decide +kernel
theorem d_YearPlan_fillOctave_2 : decode prog_11_method_10_code 2 = .ok (.iload_n 3, 1) := by decide +kernel
theorem d_YearPlan_fillOctave_3 : decode prog_11_method_10_code 3 = .ok (.aload_n 0, 1) := by decide +kernel
theorem d_YearPlan_fillOctave_4 : decode prog_11_method_10_code 4 = .ok (.getfield 30, 3) := by decide +kernel
theorem d_YearPlan_fillOctave_7 : decode prog_11_method_10_code 7 = .ok (.getfield 125, 3) := by decide +kernel
theorem d_YearPlan_fillOctave_10 : decode prog_11_method_10_code 10 = .ok (.if_icmp .gt 17, 3) := by decide +kernel
theorem d_YearPlan_fillOctave_13 : decode prog_11_method_10_code 13 = .ok (.aload_n 0, 1) := by decide +kernel
theorem d_YearPlan_fillOctave_14 : decode prog_11_method_10_code 14 = .ok (.iload_n 1, 1) := by decide +kernel
theorem d_YearPlan_fillOctave_15 : decode prog_11_method_10_code 15 = .ok (.iload_n 3, 1) := by decide +kernel
theorem d_YearPlan_fillOctave_16 : decode prog_11_method_10_code 16 = .ok (.iadd, 1) := by decide +kernel
theorem d_YearPlan_fillOctave_17 : decode prog_11_method_10_code 17 = .ok (.iload_n 2, 1) := by decide +kernel
theorem d_YearPlan_fillOctave_18 : decode prog_11_method_10_code 18 = .ok (.invokevirtual 139, 3) := by decide +kernel
theorem d_YearPlan_fillOctave_21 : decode prog_11_method_10_code 21 = .ok (.iinc 3 1, 3) := by decide +kernel
theorem d_YearPlan_fillOctave_24 : decode prog_11_method_10_code 24 = .ok (.goto (-22), 3) := by decide +kernel
theorem d_YearPlan_fillOctave_27 : decode prog_11_method_10_code 27 = .ok (.return_, 1) := by decide +kernel
theorem mb_YearPlan_raiseBase : MBv R_YearPlan y_YearPlan_raiseBase prog_11_method_11_code 3 none 2 := ⟨mT5 227 (by decide +kernel) (by decide +kernel), mT5 228 (by decide +kernel) (by decide +kernel), mT1 8 (by decide +kernel) (by decide +kernel), mT5 229 (by decide +kernel) (by decide +kernel), by decide, rfl, by decide +kernel, by decide +kernel, by decide +kernel⟩
theorem fk_YearPlan_125 : Cond.fieldLink "FeastBook$YearPlan" 125 (T_Book 1).1 (T_Book 1).2.1 (T_Book 1).2.2.1 ∈ TT := mT1 157 (by decide +kernel) (by decide +kernel)
theorem lk_YearPlan_139 : Cond.methodLink "FeastBook$YearPlan" 139 y_YearPlan_raiseBase ∈ TT := mT5 226 (by decide +kernel) (by decide +kernel)
set_option maxHeartbeats 4000000 in
set_option maxRecDepth 100000 in
theorem w_YearPlan_fillOctave_L2 {p : Program} {l : Launch} {e : Env} {s : State} {m : MethodId} {args : Array Value} {below : List Frame} {meth : Method} {c : Code} {D : va_G} {ad : Nat → Nat} {cA : Nat → ClassId} {sd sv : Nat → Nat} {out : Hp} (N : Nat) (hI : Inj97 ad) (C : Cx p s m args c prog_11_method_10_code 4 "FeastBook$YearPlan" D ad cA sd sv (FA ad)) (hr : meth.sig.returnType = none) (hlk : meth.locks = false) (v1 v2 : Int) : ∀ (n : Nat) (v3 : Int) (h : Hp) (H : Heap) (locs : List Loc), Wd s D ad cA (FA ad) h H locs → ∀ ls : Array Slot, lv_has ls 4 [(0, .ref (ad 66)), (1, .int (iZ v1)), (2, .int (iZ v2)), (3, .int (iZ v3))] → YearPlan_fillOctave_L2 N v1 v2 n v3 h = some out → W p l e (rmD 2) s m args below meth c H locs 0 0 (MQ below (QV D ad cA out) args s 0 0 (FA ad)) (F0 m 2 ls []) := by
  intro n
  induction n with
  | zero =>
    intro v3 h H locs w ls hl hM
    rw [YearPlan_fillOctave_L2] at hM
    cases hM
  | succ n ih =>
    intro v3 h H locs w ls hl hM
    rw [YearPlan_fillOctave_L2] at hM
    refine m_iload_n C hl 3 d_YearPlan_fillOctave_2 rfl rfl ?_
    refine m_aload_n C hl 0 d_YearPlan_fillOctave_3 rfl rfl ?_
    refine m_getr C w.1 kc_YearPlan sh_66 (Nat.le_of_ble_eq_true rfl) 0 23 rfl (by decide) fk_YearPlan_30 d_YearPlan_fillOctave_4 ?_
    refine m_geti C w.1 kc_Book sh_23 (Nat.le_of_ble_eq_true rfl) 1 rfl (by decide) fk_YearPlan_125 d_YearPlan_fillOctave_7 ?_
    refine m_icmp_gt C hM 27 d_YearPlan_fillOctave_10 (by decide) (fun hM => ?_) (fun hM => ?_)
    · exact m_vretW C w hr hlk hM d_YearPlan_fillOctave_27
    · refine m_aload_n C hl 0 d_YearPlan_fillOctave_13 rfl rfl ?_
      refine m_iload_n C hl 1 d_YearPlan_fillOctave_14 rfl rfl ?_
      refine m_iload_n C hl 3 d_YearPlan_fillOctave_15 rfl rfl ?_
      refine m_iadd C d_YearPlan_fillOctave_16 ?_
      refine m_iload_n C hl 2 d_YearPlan_fillOctave_17 rfl rfl ?_
      obtain ⟨h2, e1, hM⟩ := bnd_some hM
      refine aftV C w (runV C w.1 w.2 kc_YearPlan sh_66 (Nat.le_of_ble_eq_true rfl) (c_YearPlan_raiseBase hI e1) lk_YearPlan_139 mb_YearPlan_raiseBase rfl ⟨Nat.le_of_ble_eq_true rfl, Nat.le_of_ble_eq_true rfl⟩ ⟨Nat.zero_le _, Nat.zero_le _⟩ (Nat.le_of_ble_eq_true rfl) d_YearPlan_fillOctave_18 hl.1 (rest := []) rfl) (fun H locs w => ?_)
      refine m_iinc C hl 3 [(3, .int (iZ (v3 + 1))), (0, .ref (ad 66)), (1, .int (iZ v1)), (2, .int (iZ v2))] d_YearPlan_fillOctave_21 rfl (by decide) rfl (fun ls hl => ?_)
      refine m_goto C 2 d_YearPlan_fillOctave_24 (by decide) ?_
      exact ih (v3 + 1) h2 _ _ w _ (lv_sub hl [1, 2, 3, 0] rfl) hM
set_option maxHeartbeats 4000000 in
set_option maxRecDepth 100000 in
theorem c_YearPlan_fillOctave {l : Launch} {D : va_G} {ad : Nat → Nat} {cA : Nat → ClassId} {sd sv : Nat → Nat} {h : Hp} {N : Nat} {a1 a2 : Int} {out : Hp} (hI : Inj97 ad) (hM : M_YearPlan_fillOctave N h a1 a2 = some out) : Met l y_YearPlan_fillOctave (.code y_YearPlan_fillOctave prog_11_method_10_code 4 none :: TT) (rmD 2) (PC D ad cA sd sv h [.ref (ad 66), .int (iZ a1), .int (iZ a2)]) (QV D ad cA out) 0 0 (FA ad) := by
  unfold M_YearPlan_fillOctave at hM
  refine entM (by decide +kernel) hI (Nat.le_of_ble_eq_true rfl) ?_
  intro p e s m args below meth c C hr hlk hP ls hl
  have C : Cx p s m args c prog_11_method_10_code 4 "FeastBook$YearPlan" D ad cA sd sv (FA ad) := C
  have hl : lv_has ls 4 [(0, .ref (ad 66)), (1, .int (iZ a1)), (2, .int (iZ a2))] := hl
  have w : Wd s D ad cA (FA ad) h s.heap [] := ⟨hP, va_S.rf⟩
  refine m_iconst C d_YearPlan_fillOctave_0 ?_
  refine m_istore_n C hl [(3, .int (iZ 1)), (0, .ref (ad 66)), (1, .int (iZ a1)), (2, .int (iZ a2))] d_YearPlan_fillOctave_1 rfl (by decide) rfl (fun ls hl => ?_)
  exact w_YearPlan_fillOctave_L2 N hI C hr hlk a1 a2 _ 1 h _ _ w _ (lv_sub hl [1, 2, 3, 0] rfl) hM
def y_YearPlan_fillBase : MethodName := ⟨"FeastBook$YearPlan", "fillBase", "()V"⟩
theorem d_YearPlan_fillBase_0 : decode prog_11_method_9_code 0 = .ok (.aload_n 0, 1) := by decide +kernel
theorem d_YearPlan_fillBase_1 : decode prog_11_method_9_code 1 = .ok (.getfield 9, 3) := by decide +kernel
theorem d_YearPlan_fillBase_4 : decode prog_11_method_9_code 4 = .ok (.iconst 0, 1) := by decide +kernel
theorem d_YearPlan_fillBase_5 : decode prog_11_method_9_code 5 = .ok (.aload_n 0, 1) := by decide +kernel
theorem d_YearPlan_fillBase_6 : decode prog_11_method_9_code 6 = .ok (.getfield 52, 3) := by decide +kernel
theorem d_YearPlan_fillBase_9 : decode prog_11_method_9_code 9 = .ok (.iconst 0, 1) := by decide +kernel
theorem d_YearPlan_fillBase_10 : decode prog_11_method_9_code 10 = .ok (.invokestatic 119, 3) := by decide +kernel
theorem d_YearPlan_fillBase_13 : decode prog_11_method_9_code 13 = .ok (.aload_n 0, 1) := by decide +kernel
theorem d_YearPlan_fillBase_14 : decode prog_11_method_9_code 14 = .ok (.getfield 30, 3) := by decide +kernel
theorem d_YearPlan_fillBase_17 : decode prog_11_method_9_code 17 = .ok (.getfield 125, 3) := by decide +kernel
theorem d_YearPlan_fillBase_20 : decode prog_11_method_9_code 20 = .ok (.iconst 1, 1) := by decide +kernel
theorem d_YearPlan_fillBase_21 : decode prog_11_method_9_code 21 = .ok (.invokestatic 128, 3) := by decide +kernel
theorem d_YearPlan_fillBase_24 : decode prog_11_method_9_code 24 = .ok (.istore_n 1, 1) := by decide +kernel
theorem d_YearPlan_fillBase_25 : decode prog_11_method_9_code 25 = .ok (.aload_n 0, 1) := by decide +kernel
theorem d_YearPlan_fillBase_26 : decode prog_11_method_9_code 26 = .ok (.getfield 58, 3) := by decide +kernel
theorem d_YearPlan_fillBase_29 : decode prog_11_method_9_code 29 = .ok (.iload_n 1, 1) := by decide +kernel
theorem d_YearPlan_fillBase_30 : decode prog_11_method_9_code 30 = .ok (.irem, 1) := by decide +kernel
theorem d_YearPlan_fillBase_31 : decode prog_11_method_9_code 31 = .ok (.istore_n 2, 1) := by decide +kernel
theorem d_YearPlan_fillBase_32 : decode prog_11_method_9_code 32 = .ok (.iload_n 2, 1) := by decide +kernel
theorem d_YearPlan_fillBase_33 : decode prog_11_method_9_code 33 = .ok (.aload_n 0, 1) := by decide +kernel
theorem d_YearPlan_fillBase_34 : decode prog_11_method_9_code 34 = .ok (.getfield 52, 3) := by decide +kernel
theorem d_YearPlan_fillBase_37 : decode prog_11_method_9_code 37 = .ok (.if_icmp .ge 29, 3) := by decide +kernel
theorem d_YearPlan_fillBase_40 : decode prog_11_method_9_code 40 = .ok (.aload_n 0, 1) := by decide +kernel
theorem d_YearPlan_fillBase_41 : decode prog_11_method_9_code 41 = .ok (.getfield 9, 3) := by decide +kernel
theorem d_YearPlan_fillBase_44 : decode prog_11_method_9_code 44 = .ok (.iload_n 2, 1) := by decide +kernel
theorem d_YearPlan_fillBase_45 : decode prog_11_method_9_code 45 = .ok (.aload_n 0, 1) := by decide +kernel
theorem d_YearPlan_fillBase_46 : decode prog_11_method_9_code 46 = .ok (.getfield 30, 3) := by decide +kernel
theorem d_YearPlan_fillBase_49 : decode prog_11_method_9_code 49 = .ok (.iload_n 2, 1) := by decide +kernel
theorem d_YearPlan_fillBase_50 : decode prog_11_method_9_code 50 = .ok (.aload_n 0, 1) := by decide +kernel
theorem d_YearPlan_fillBase_51 : decode prog_11_method_9_code 51 = .ok (.getfield 58, 3) := by decide +kernel
theorem d_YearPlan_fillBase_54 : decode prog_11_method_9_code 54 = .ok (.isub, 1) := by decide +kernel
theorem d_YearPlan_fillBase_55 : decode prog_11_method_9_code 55 = .ok (.invokevirtual 133, 3) := by decide +kernel
theorem d_YearPlan_fillBase_58 : decode prog_11_method_9_code 58 = .ok (.iastore, 1) := by decide +kernel
theorem d_YearPlan_fillBase_59 : decode prog_11_method_9_code 59 = .ok (.iload_n 2, 1) := by decide +kernel
theorem d_YearPlan_fillBase_60 : decode prog_11_method_9_code 60 = .ok (.iload_n 1, 1) := by decide +kernel
theorem d_YearPlan_fillBase_61 : decode prog_11_method_9_code 61 = .ok (.iadd, 1) := by decide +kernel
theorem d_YearPlan_fillBase_62 : decode prog_11_method_9_code 62 = .ok (.istore_n 2, 1) := by decide +kernel
theorem d_YearPlan_fillBase_63 : decode prog_11_method_9_code 63 = .ok (.goto (-31), 3) := by decide +kernel
theorem d_YearPlan_fillBase_66 : decode prog_11_method_9_code 66 = .ok (.iconst 0, 1) := by decide +kernel
theorem d_YearPlan_fillBase_67 : decode prog_11_method_9_code 67 = .ok (.istore_n 2, 1) := by decide +kernel
theorem d_YearPlan_fillBase_68 : decode prog_11_method_9_code 68 = .ok (.iload_n 2, 1) := by decide +kernel
theorem d_YearPlan_fillBase_69 : decode prog_11_method_9_code 69 = .ok (.aload_n 0, 1) := by decide +kernel
theorem d_YearPlan_fillBase_70 : decode prog_11_method_9_code 70 = .ok (.getfield 40, 3) := by decide +kernel
theorem d_YearPlan_fillBase_73 : decode prog_11_method_9_code 73 = .ok (.getfield 61, 3) := by decide +kernel
theorem d_YearPlan_fillBase_76 : decode prog_11_method_9_code 76 = .ok (.if_icmp .ge 77, 3) := by decide +kernel
theorem d_YearPlan_fillBase_79 : decode prog_11_method_9_code 79 = .ok (.aload_n 0, 1) := by decide +kernel
theorem d_YearPlan_fillBase_80 : decode prog_11_method_9_code 80 = .ok (.getfield 21, 3) := by decide +kernel
theorem d_YearPlan_fillBase_83 : decode prog_11_method_9_code 83 = .ok (.iload_n 2, 1) := by decide +kernel
theorem d_YearPlan_fillBase_84 : decode prog_11_method_9_code 84 = .ok (.iaload, 1) := by decide +kernel
theorem d_YearPlan_fillBase_85 : decode prog_11_method_9_code 85 = .ok (.iconst (-1), 1) := by decide +kernel
theorem d_YearPlan_fillBase_86 : decode prog_11_method_9_code 86 = .ok (.if_icmp .eq 21, 3) := by decide +kernel
theorem d_YearPlan_fillBase_89 : decode prog_11_method_9_code 89 = .ok (.aload_n 0, 1) := by decide +kernel
theorem d_YearPlan_fillBase_90 : decode prog_11_method_9_code 90 = .ok (.aload_n 0, 1) := by decide +kernel
theorem d_YearPlan_fillBase_91 : decode prog_11_method_9_code 91 = .ok (.getfield 21, 3) := by decide +kernel
theorem d_YearPlan_fillBase_94 : decode prog_11_method_9_code 94 = .ok (.iload_n 2, 1) := by decide +kernel
theorem d_YearPlan_fillBase_95 : decode prog_11_method_9_code 95 = .ok (.iaload, 1) := by decide +kernel
theorem d_YearPlan_fillBase_96 : decode prog_11_method_9_code 96 = .ok (.aload_n 0, 1) := by decide +kernel
theorem d_YearPlan_fillBase_97 : decode prog_11_method_9_code 97 = .ok (.getfield 40, 3) := by decide +kernel
theorem d_YearPlan_fillBase_100 : decode prog_11_method_9_code 100 = .ok (.iload_n 2, 1) := by decide +kernel
theorem d_YearPlan_fillBase_101 : decode prog_11_method_9_code 101 = .ok (.invokevirtual 136, 3) := by decide +kernel
theorem d_YearPlan_fillBase_104 : decode prog_11_method_9_code 104 = .ok (.invokevirtual 139, 3) := by decide +kernel
theorem d_YearPlan_fillBase_107 : decode prog_11_method_9_code 107 = .ok (.aload_n 0, 1) := by decide +kernel
theorem d_YearPlan_fillBase_108 : decode prog_11_method_9_code 108 = .ok (.getfield 18, 3) := by decide +kernel
theorem d_YearPlan_fillBase_111 : decode prog_11_method_9_code 111 = .ok (.iload_n 2, 1) := by decide +kernel
theorem d_YearPlan_fillBase_112 : decode prog_11_method_9_code 112 = .ok (.iaload, 1) := by decide +kernel
theorem d_YearPlan_fillBase_113 : decode prog_11_method_9_code 113 = .ok (.iconst (-1), 1) := by decide +kernel
theorem d_YearPlan_fillBase_114 : decode prog_11_method_9_code 114 = .ok (.if_icmp .eq 33, 3) := by decide +kernel
theorem d_YearPlan_fillBase_117 : decode prog_11_method_9_code 117 = .ok (.aload_n 0, 1) := by decide +kernel
theorem d_YearPlan_fillBase_118 : decode prog_11_method_9_code 118 = .ok (.getfield 40, 3) := by decide +kernel
theorem d_YearPlan_fillBase_121 : decode prog_11_method_9_code 121 = .ok (.getfield 143, 3) := by decide +kernel
theorem d_YearPlan_fillBase_124 : decode prog_11_method_9_code 124 = .ok (.iload_n 2, 1) := by decide +kernel
theorem d_YearPlan_fillBase_125 : decode prog_11_method_9_code 125 = .ok (.iaload, 1) := by decide +kernel
theorem d_YearPlan_fillBase_126 : decode prog_11_method_9_code 126 = .ok (.ifCond .le 21, 3) := by decide +kernel
theorem d_YearPlan_fillBase_129 : decode prog_11_method_9_code 129 = .ok (.aload_n 0, 1) := by decide +kernel
theorem d_YearPlan_fillBase_130 : decode prog_11_method_9_code 130 = .ok (.aload_n 0, 1) := by decide +kernel
theorem d_YearPlan_fillBase_131 : decode prog_11_method_9_code 131 = .ok (.getfield 18, 3) := by decide +kernel
theorem d_YearPlan_fillBase_134 : decode prog_11_method_9_code 134 = .ok (.iload_n 2, 1) := by decide +kernel
theorem d_YearPlan_fillBase_135 : decode prog_11_method_9_code 135 = .ok (.iaload, 1) := by decide +kernel
theorem d_YearPlan_fillBase_136 : decode prog_11_method_9_code 136 = .ok (.aload_n 0, 1) := by decide +kernel
theorem d_YearPlan_fillBase_137 : decode prog_11_method_9_code 137 = .ok (.getfield 40, 3) := by decide +kernel
theorem d_YearPlan_fillBase_140 : decode prog_11_method_9_code 140 = .ok (.iload_n 2, 1) := by decide +kernel
theorem d_YearPlan_fillBase_141 : decode prog_11_method_9_code 141 = .ok (.invokevirtual 146, 3) := by decide +kernel
theorem d_YearPlan_fillBase_144 : decode prog_11_method_9_code 144 = .ok (.invokevirtual 149, 3) := by decide +kernel
theorem d_YearPlan_fillBase_147 : decode prog_11_method_9_code 147 = .ok (.iinc 2 1, 3) := by decide +kernel
theorem d_YearPlan_fillBase_150 : decode prog_11_method_9_code 150 = .ok (.goto (-82), 3) := by decide +kernel
theorem d_YearPlan_fillBase_153 : decode prog_11_method_9_code 153 = .ok (.return_, 1) := by decide +kernel
theorem mb_Book_sundayClaim : MBv R_Book y_Book_sundayClaim prog_2_method_19_code 3 (some .int) 1 := ⟨mT5 212 (by decide +kernel) (by decide +kernel), mT5 213 (by decide +kernel) (by decide +kernel), mT1 4 (by decide +kernel) (by decide +kernel), mT5 214 (by decide +kernel) (by decide +kernel), by decide, rfl, by decide +kernel, by decide +kernel, by decide +kernel⟩
theorem mb_Feasts_octaveClaim : MBv R_Feasts y_Feasts_octaveClaim prog_4_method_6_code 2 (some .int) 1 := ⟨mT5 231 (by decide +kernel) (by decide +kernel), mT5 232 (by decide +kernel) (by decide +kernel), mT1 6 (by decide +kernel) (by decide +kernel), mT5 233 (by decide +kernel) (by decide +kernel), by decide, rfl, by decide +kernel, by decide +kernel, by decide +kernel⟩
theorem mb_Feasts_vigilClaim : MBv R_Feasts y_Feasts_vigilClaim prog_4_method_5_code 2 (some .int) 1 := ⟨mT5 223 (by decide +kernel) (by decide +kernel), mT5 224 (by decide +kernel) (by decide +kernel), mT1 6 (by decide +kernel) (by decide +kernel), mT5 225 (by decide +kernel) (by decide +kernel), by decide, rfl, by decide +kernel, by decide +kernel, by decide +kernel⟩
theorem mb_YearPlan_fillOctave : MBv R_YearPlan y_YearPlan_fillOctave prog_11_method_10_code 4 none 2 := ⟨mT5 235 (by decide +kernel) (by decide +kernel), mT5 236 (by decide +kernel) (by decide +kernel), mT1 8 (by decide +kernel) (by decide +kernel), mT5 237 (by decide +kernel) (by decide +kernel), by decide, rfl, by decide +kernel, by decide +kernel, by decide +kernel⟩
theorem mb_JA_fill_IIIIV : MBs y_JA_fill_IIIIV prog_37_method_104_code 5 none 4 := ⟨mT4 209 (by decide +kernel) (by decide +kernel), mT1 22 (by decide +kernel) (by decide +kernel), mT4 210 (by decide +kernel) (by decide +kernel), by decide, by decide +kernel, by decide +kernel, by decide +kernel⟩
theorem fk_YearPlan_143 : Cond.fieldLink "FeastBook$YearPlan" 143 (T_Feasts 6).1 (T_Feasts 6).2.1 (T_Feasts 6).2.2.1 ∈ TT := mT1 123 (by decide +kernel) (by decide +kernel)
theorem lk_YearPlan_119 : Cond.methodLink "FeastBook$YearPlan" 119 y_JA_fill_IIIIV ∈ TT := mT4 208 (by decide +kernel) (by decide +kernel)
theorem lk_YearPlan_128 : Cond.methodLink "FeastBook$YearPlan" 128 Lib.Math.max.name ∈ TT := mT5 210 (by decide +kernel) (by decide +kernel)
theorem lk_YearPlan_133 : Cond.methodLink "FeastBook$YearPlan" 133 y_Book_sundayClaim ∈ TT := mT5 211 (by decide +kernel) (by decide +kernel)
theorem lk_YearPlan_136 : Cond.methodLink "FeastBook$YearPlan" 136 y_Feasts_vigilClaim ∈ TT := mT5 222 (by decide +kernel) (by decide +kernel)
theorem lk_YearPlan_146 : Cond.methodLink "FeastBook$YearPlan" 146 y_Feasts_octaveClaim ∈ TT := mT5 230 (by decide +kernel) (by decide +kernel)
theorem lk_YearPlan_149 : Cond.methodLink "FeastBook$YearPlan" 149 y_YearPlan_fillOctave ∈ TT := mT5 234 (by decide +kernel) (by decide +kernel)
set_option maxHeartbeats 4000000 in
set_option maxRecDepth 100000 in
theorem w_YearPlan_fillBase_L32 {p : Program} {l : Launch} {e : Env} {s : State} {m : MethodId} {args : Array Value} {below : List Frame} {meth : Method} {c : Code} {D : va_G} {ad : Nat → Nat} {cA : Nat → ClassId} {sd sv : Nat → Nat} {out : Hp} (N : Nat) (hI : Inj97 ad) (C : Cx p s m args c prog_11_method_9_code 3 "FeastBook$YearPlan" D ad cA sd sv (FA ad)) (hr : meth.sig.returnType = none) (hlk : meth.locks = false) (v1 : Int) (k : Int → Hp → Option Hp) (kW : ∀ (v2 : Int) (h : Hp), k v2 h = some out → ∀ (H : Heap) (locs : List Loc), Wd s D ad cA (FA ad) h H locs → ∀ ls : Array Slot, lv_has ls 3 [(0, .ref (ad 66)), (1, .int (iZ v1)), (2, .int (iZ v2))] → W p l e (rmD 3) s m args below meth c H locs 0 0 (MQ below (QV D ad cA out) args s 0 0 (FA ad)) (F0 m 66 ls [])) : ∀ (n : Nat) (v2 : Int) (h : Hp) (H : Heap) (locs : List Loc), Wd s D ad cA (FA ad) h H locs → ∀ ls : Array Slot, lv_has ls 3 [(0, .ref (ad 66)), (1, .int (iZ v1)), (2, .int (iZ v2))] → YearPlan_fillBase_L32 N v1 k n v2 h = some out → W p l e (rmD 3) s m args below meth c H locs 0 0 (MQ below (QV D ad cA out) args s 0 0 (FA ad)) (F0 m 32 ls []) := by
  intro n
  induction n with
  | zero =>
    intro v2 h H locs w ls hl hM
    rw [YearPlan_fillBase_L32] at hM
    cases hM
  | succ n ih =>
    intro v2 h H locs w ls hl hM
    rw [YearPlan_fillBase_L32] at hM
    refine m_iload_n C hl 2 d_YearPlan_fillBase_32 rfl rfl ?_
    refine m_aload_n C hl 0 d_YearPlan_fillBase_33 rfl rfl ?_
    refine m_geti C w.1 kc_YearPlan sh_66 (Nat.le_of_ble_eq_true rfl) 4 rfl (by decide) fk_YearPlan_52 d_YearPlan_fillBase_34 ?_
    refine m_icmp_ge C hM 66 d_YearPlan_fillBase_37 (by decide) (fun hM => ?_) (fun hM => ?_)
    · exact kW v2 h hM _ _ w _ hl
    · refine m_aload_n C hl 0 d_YearPlan_fillBase_40 rfl rfl ?_
      refine m_getr C w.1 kc_YearPlan sh_66 (Nat.le_of_ble_eq_true rfl) 6 67 rfl (by decide) fk_YearPlan_9 d_YearPlan_fillBase_41 ?_
      refine m_iload_n C hl 2 d_YearPlan_fillBase_44 rfl rfl ?_
      refine m_aload_n C hl 0 d_YearPlan_fillBase_45 rfl rfl ?_
      refine m_getr C w.1 kc_YearPlan sh_66 (Nat.le_of_ble_eq_true rfl) 0 23 rfl (by decide) fk_YearPlan_30 d_YearPlan_fillBase_46 ?_
      refine m_iload_n C hl 2 d_YearPlan_fillBase_49 rfl rfl ?_
      refine m_aload_n C hl 0 d_YearPlan_fillBase_50 rfl rfl ?_
      refine m_geti C w.1 kc_YearPlan sh_66 (Nat.le_of_ble_eq_true rfl) 5 rfl (by decide) fk_YearPlan_58 d_YearPlan_fillBase_51 ?_
      refine m_isub C d_YearPlan_fillBase_54 ?_
      obtain ⟨x5, e4, hM⟩ := bnd_some hM
      refine aftR (runV C w.1 w.2 kc_Book sh_23 (Nat.le_of_ble_eq_true rfl) (c_Book_sundayClaim hI (Or.inr (Or.inl rfl)) e4) lk_YearPlan_133 mb_Book_sundayClaim rfl ⟨Nat.le_of_ble_eq_true rfl, Nat.le_of_ble_eq_true rfl⟩ ⟨Nat.zero_le _, Nat.zero_le _⟩ (Nat.le_of_ble_eq_true rfl) d_YearPlan_fillBase_55 hl.1 (rest := [.int (iZ v2), .ref (ad 67)]) rfl) ?_
      refine m_iast C w sh_67 (Nat.le_of_ble_eq_true rfl) (Nat.le_of_ble_eq_true rfl) hM d_YearPlan_fillBase_58 (fun h6 H locs w hM => ?_)
      refine m_iload_n C hl 2 d_YearPlan_fillBase_59 rfl rfl ?_
      refine m_iload_n C hl 1 d_YearPlan_fillBase_60 rfl rfl ?_
      refine m_iadd C d_YearPlan_fillBase_61 ?_
      refine m_istore_n C hl [(2, .int (iZ (v2 + v1))), (0, .ref (ad 66)), (1, .int (iZ v1))] d_YearPlan_fillBase_62 rfl (by decide) rfl (fun ls hl => ?_)
      refine m_goto C 32 d_YearPlan_fillBase_63 (by decide) ?_
      exact ih (v2 + v1) h6 _ _ w _ (lv_sub hl [1, 2, 0] rfl) hM
set_option maxHeartbeats 4000000 in
set_option maxRecDepth 100000 in
theorem w_YearPlan_fillBase_L68 {p : Program} {l : Launch} {e : Env} {s : State} {m : MethodId} {args : Array Value} {below : List Frame} {meth : Method} {c : Code} {D : va_G} {ad : Nat → Nat} {cA : Nat → ClassId} {sd sv : Nat → Nat} {out : Hp} (N : Nat) (hI : Inj97 ad) (C : Cx p s m args c prog_11_method_9_code 3 "FeastBook$YearPlan" D ad cA sd sv (FA ad)) (hr : meth.sig.returnType = none) (hlk : meth.locks = false) (v1 : Int) : ∀ (n : Nat) (v2 : Int) (h : Hp) (H : Heap) (locs : List Loc), Wd s D ad cA (FA ad) h H locs → ∀ ls : Array Slot, lv_has ls 3 [(0, .ref (ad 66)), (1, .int (iZ v1)), (2, .int (iZ v2))] → YearPlan_fillBase_L68 N n v2 h = some out → W p l e (rmD 3) s m args below meth c H locs 0 0 (MQ below (QV D ad cA out) args s 0 0 (FA ad)) (F0 m 68 ls []) := by
  intro n
  induction n with
  | zero =>
    intro v2 h H locs w ls hl hM
    rw [YearPlan_fillBase_L68] at hM
    cases hM
  | succ n ih =>
    intro v2 h H locs w ls hl hM
    rw [YearPlan_fillBase_L68] at hM
    refine m_iload_n C hl 2 d_YearPlan_fillBase_68 rfl rfl ?_
    refine m_aload_n C hl 0 d_YearPlan_fillBase_69 rfl rfl ?_
    refine m_getr C w.1 kc_YearPlan sh_66 (Nat.le_of_ble_eq_true rfl) 1 33 rfl (by decide) fk_YearPlan_40 d_YearPlan_fillBase_70 ?_
    refine m_geti C w.1 kc_Feasts sh_33 (Nat.le_of_ble_eq_true rfl) 0 rfl (by decide) fk_YearPlan_61 d_YearPlan_fillBase_73 ?_
    refine m_icmp_ge C hM 153 d_YearPlan_fillBase_76 (by decide) (fun hM => ?_) (fun hM => ?_)
    · exact m_vretW C w hr hlk hM d_YearPlan_fillBase_153
    · refine m_aload_n C hl 0 d_YearPlan_fillBase_79 rfl rfl ?_
      refine m_getr C w.1 kc_YearPlan sh_66 (Nat.le_of_ble_eq_true rfl) 9 70 rfl (by decide) fk_YearPlan_21 d_YearPlan_fillBase_80 ?_
      refine m_iload_n C hl 2 d_YearPlan_fillBase_83 rfl rfl ?_
      refine m_iald C w.1 sh_70 (Nat.le_of_ble_eq_true rfl) (Nat.le_of_ble_eq_true rfl) hM d_YearPlan_fillBase_84 (fun x8 hM => ?_)
      refine m_iconst C d_YearPlan_fillBase_85 ?_
      refine lt_join hM (fun j14 ej hM => ?_)
      have hJ14 : ∀ (h_14 : Hp), j14 h_14 = some out → ∀ (H : Heap) (locs : List Loc), Wd s D ad cA (FA ad) h_14 H locs → ∀ ls : Array Slot, lv_has ls 3 [(0, .ref (ad 66)), (1, .int (iZ v1)), (2, .int (iZ v2))] → W p l e (rmD 3) s m args below meth c H locs 0 0 (MQ below (QV D ad cA out) args s 0 0 (FA ad)) (F0 m 107 ls []) := by
        intro h_14 hM H locs w ls hl
        subst ej
        dsimp only at hM
        refine m_aload_n C hl 0 d_YearPlan_fillBase_107 rfl rfl ?_
        refine m_getr C w.1 kc_YearPlan sh_66 (Nat.le_of_ble_eq_true rfl) 8 69 rfl (by decide) fk_YearPlan_18 d_YearPlan_fillBase_108 ?_
        refine m_iload_n C hl 2 d_YearPlan_fillBase_111 rfl rfl ?_
        refine m_iald C w.1 sh_69 (Nat.le_of_ble_eq_true rfl) (Nat.le_of_ble_eq_true rfl) hM d_YearPlan_fillBase_112 (fun x15 hM => ?_)
        refine m_iconst C d_YearPlan_fillBase_113 ?_
        refine m_icmp_eq C hM 147 d_YearPlan_fillBase_114 (by decide) (fun hM => ?_) (fun hM => ?_)
        · refine m_iinc C hl 2 [(2, .int (iZ (v2 + 1))), (0, .ref (ad 66)), (1, .int (iZ v1))] d_YearPlan_fillBase_147 rfl (by decide) rfl (fun ls hl => ?_)
          refine m_goto C 68 d_YearPlan_fillBase_150 (by decide) ?_
          exact ih (v2 + 1) h_14 _ _ w _ (lv_sub hl [1, 2, 0] rfl) hM
        · refine m_aload_n C hl 0 d_YearPlan_fillBase_117 rfl rfl ?_
          refine m_getr C w.1 kc_YearPlan sh_66 (Nat.le_of_ble_eq_true rfl) 1 33 rfl (by decide) fk_YearPlan_40 d_YearPlan_fillBase_118 ?_
          refine m_getr C w.1 kc_Feasts sh_33 (Nat.le_of_ble_eq_true rfl) 6 39 rfl (by decide) fk_YearPlan_143 d_YearPlan_fillBase_121 ?_
          refine m_iload_n C hl 2 d_YearPlan_fillBase_124 rfl rfl ?_
          refine m_iald C w.1 sh_39 (Nat.le_of_ble_eq_true rfl) (Nat.le_of_ble_eq_true rfl) hM d_YearPlan_fillBase_125 (fun x16 hM => ?_)
          refine m_if_le C hM 147 d_YearPlan_fillBase_126 (by decide) (fun hM => ?_) (fun hM => ?_)
          · refine m_iinc C hl 2 [(2, .int (iZ (v2 + 1))), (0, .ref (ad 66)), (1, .int (iZ v1))] d_YearPlan_fillBase_147 rfl (by decide) rfl (fun ls hl => ?_)
            refine m_goto C 68 d_YearPlan_fillBase_150 (by decide) ?_
            exact ih (v2 + 1) h_14 _ _ w _ (lv_sub hl [1, 2, 0] rfl) hM
          · refine m_aload_n C hl 0 d_YearPlan_fillBase_129 rfl rfl ?_
            refine m_aload_n C hl 0 d_YearPlan_fillBase_130 rfl rfl ?_
            refine m_getr C w.1 kc_YearPlan sh_66 (Nat.le_of_ble_eq_true rfl) 8 69 rfl (by decide) fk_YearPlan_18 d_YearPlan_fillBase_131 ?_
            refine m_iload_n C hl 2 d_YearPlan_fillBase_134 rfl rfl ?_
            refine m_iald C w.1 sh_69 (Nat.le_of_ble_eq_true rfl) (Nat.le_of_ble_eq_true rfl) hM d_YearPlan_fillBase_135 (fun x17 hM => ?_)
            refine m_aload_n C hl 0 d_YearPlan_fillBase_136 rfl rfl ?_
            refine m_getr C w.1 kc_YearPlan sh_66 (Nat.le_of_ble_eq_true rfl) 1 33 rfl (by decide) fk_YearPlan_40 d_YearPlan_fillBase_137 ?_
            refine m_iload_n C hl 2 d_YearPlan_fillBase_140 rfl rfl ?_
            obtain ⟨x19, e18, hM⟩ := bnd_some hM
            refine aftR (runV C w.1 w.2 kc_Feasts sh_33 (Nat.le_of_ble_eq_true rfl) (c_Feasts_octaveClaim hI (Or.inr (Or.inl rfl)) e18) lk_YearPlan_146 mb_Feasts_octaveClaim rfl ⟨Nat.le_of_ble_eq_true rfl, Nat.le_of_ble_eq_true rfl⟩ ⟨Nat.zero_le _, Nat.zero_le _⟩ (Nat.le_of_ble_eq_true rfl) d_YearPlan_fillBase_141 hl.1 (rest := [.int (iZ x17), .ref (ad 66)]) rfl) ?_
            obtain ⟨h21, e20, hM⟩ := bnd_some hM
            refine aftV C w (runV C w.1 w.2 kc_YearPlan sh_66 (Nat.le_of_ble_eq_true rfl) (c_YearPlan_fillOctave hI e20) lk_YearPlan_149 mb_YearPlan_fillOctave rfl ⟨Nat.le_of_ble_eq_true rfl, Nat.le_of_ble_eq_true rfl⟩ ⟨Nat.zero_le _, Nat.zero_le _⟩ (Nat.le_of_ble_eq_true rfl) d_YearPlan_fillBase_144 hl.1 (rest := []) rfl) (fun H locs w => ?_)
            refine m_iinc C hl 2 [(2, .int (iZ (v2 + 1))), (0, .ref (ad 66)), (1, .int (iZ v1))] d_YearPlan_fillBase_147 rfl (by decide) rfl (fun ls hl => ?_)
            refine m_goto C 68 d_YearPlan_fillBase_150 (by decide) ?_
            exact ih (v2 + 1) h21 _ _ w _ (lv_sub hl [1, 2, 0] rfl) hM
      refine m_icmp_eq C hM 107 d_YearPlan_fillBase_86 (by decide) (fun hM => ?_) (fun hM => ?_)
      · exact hJ14 h hM _ _ w _ hl
      · refine m_aload_n C hl 0 d_YearPlan_fillBase_89 rfl rfl ?_
        refine m_aload_n C hl 0 d_YearPlan_fillBase_90 rfl rfl ?_
        refine m_getr C w.1 kc_YearPlan sh_66 (Nat.le_of_ble_eq_true rfl) 9 70 rfl (by decide) fk_YearPlan_21 d_YearPlan_fillBase_91 ?_
        refine m_iload_n C hl 2 d_YearPlan_fillBase_94 rfl rfl ?_
        refine m_iald C w.1 sh_70 (Nat.le_of_ble_eq_true rfl) (Nat.le_of_ble_eq_true rfl) hM d_YearPlan_fillBase_95 (fun x22 hM => ?_)
        refine m_aload_n C hl 0 d_YearPlan_fillBase_96 rfl rfl ?_
        refine m_getr C w.1 kc_YearPlan sh_66 (Nat.le_of_ble_eq_true rfl) 1 33 rfl (by decide) fk_YearPlan_40 d_YearPlan_fillBase_97 ?_
        refine m_iload_n C hl 2 d_YearPlan_fillBase_100 rfl rfl ?_
        obtain ⟨x24, e23, hM⟩ := bnd_some hM
        refine aftR (runV C w.1 w.2 kc_Feasts sh_33 (Nat.le_of_ble_eq_true rfl) (c_Feasts_vigilClaim hI (Or.inr (Or.inl rfl)) e23) lk_YearPlan_136 mb_Feasts_vigilClaim rfl ⟨Nat.le_of_ble_eq_true rfl, Nat.le_of_ble_eq_true rfl⟩ ⟨Nat.zero_le _, Nat.zero_le _⟩ (Nat.le_of_ble_eq_true rfl) d_YearPlan_fillBase_101 hl.1 (rest := [.int (iZ x22), .ref (ad 66)]) rfl) ?_
        obtain ⟨h26, e25, hM⟩ := bnd_some hM
        refine aftV C w (runV C w.1 w.2 kc_YearPlan sh_66 (Nat.le_of_ble_eq_true rfl) (c_YearPlan_raiseBase hI e25) lk_YearPlan_139 mb_YearPlan_raiseBase rfl ⟨Nat.le_of_ble_eq_true rfl, Nat.le_of_ble_eq_true rfl⟩ ⟨Nat.zero_le _, Nat.zero_le _⟩ (Nat.le_of_ble_eq_true rfl) d_YearPlan_fillBase_104 hl.1 (rest := []) rfl) (fun H locs w => ?_)
        exact hJ14 h26 hM _ _ w _ hl
set_option maxHeartbeats 4000000 in
set_option maxRecDepth 100000 in
theorem c_YearPlan_fillBase {l : Launch} {D : va_G} {ad : Nat → Nat} {cA : Nat → ClassId} {sd sv : Nat → Nat} {h : Hp} {N : Nat} {out : Hp} (hI : Inj97 ad) (hM : M_YearPlan_fillBase N h = some out) : Met l y_YearPlan_fillBase (.code y_YearPlan_fillBase prog_11_method_9_code 3 none :: TT) (rmD 3) (PC D ad cA sd sv h [.ref (ad 66)]) (QV D ad cA out) 0 0 (FA ad) := by
  unfold M_YearPlan_fillBase at hM
  refine entM (by decide +kernel) hI (Nat.le_of_ble_eq_true rfl) ?_
  intro p e s m args below meth c C hr hlk hP ls hl
  have C : Cx p s m args c prog_11_method_9_code 3 "FeastBook$YearPlan" D ad cA sd sv (FA ad) := C
  have hl : lv_has ls 3 [(0, .ref (ad 66))] := hl
  have w : Wd s D ad cA (FA ad) h s.heap [] := ⟨hP, va_S.rf⟩
  refine m_aload_n C hl 0 d_YearPlan_fillBase_0 rfl rfl ?_
  refine m_getr C w.1 kc_YearPlan sh_66 (Nat.le_of_ble_eq_true rfl) 6 67 rfl (by decide) fk_YearPlan_9 d_YearPlan_fillBase_1 ?_
  refine m_iconst C d_YearPlan_fillBase_4 ?_
  refine m_aload_n C hl 0 d_YearPlan_fillBase_5 rfl rfl ?_
  refine m_geti C w.1 kc_YearPlan sh_66 (Nat.le_of_ble_eq_true rfl) 4 rfl (by decide) fk_YearPlan_52 d_YearPlan_fillBase_6 ?_
  refine m_iconst C d_YearPlan_fillBase_9 ?_
  obtain ⟨h2, e1, hM⟩ := bnd_some hM
  refine aftV C w (runS C w.1 w.2 (c_JA_fill_IIIIV hI ⟨sh_67, (Nat.le_of_ble_eq_true rfl), (Nat.le_of_ble_eq_true rfl)⟩ e1) lk_YearPlan_119 mb_JA_fill_IIIIV rfl ⟨Nat.le_of_ble_eq_true rfl, Nat.le_of_ble_eq_true rfl⟩ ⟨Nat.zero_le _, Nat.zero_le _⟩ (Nat.le_of_ble_eq_true rfl) d_YearPlan_fillBase_10 hl.1 (rest := []) rfl) (fun H locs w => ?_)
  refine m_aload_n C hl 0 d_YearPlan_fillBase_13 rfl rfl ?_
  refine m_getr C w.1 kc_YearPlan sh_66 (Nat.le_of_ble_eq_true rfl) 0 23 rfl (by decide) fk_YearPlan_30 d_YearPlan_fillBase_14 ?_
  refine m_geti C w.1 kc_Book sh_23 (Nat.le_of_ble_eq_true rfl) 1 rfl (by decide) fk_YearPlan_125 d_YearPlan_fillBase_17 ?_
  refine m_iconst C d_YearPlan_fillBase_20 ?_
  refine m_max C lk_YearPlan_128 hl.1 (Nat.le_of_ble_eq_true rfl) (Nat.le_of_ble_eq_true rfl) ⟨Nat.zero_le _, Nat.zero_le _⟩ d_YearPlan_fillBase_21 ?_
  refine m_istore_n C hl [(1, .int (iZ (mxI (h2 23 1) 1))), (0, .ref (ad 66))] d_YearPlan_fillBase_24 rfl (by decide) rfl (fun ls hl => ?_)
  refine m_aload_n C hl 1 d_YearPlan_fillBase_25 rfl rfl ?_
  refine m_geti C w.1 kc_YearPlan sh_66 (Nat.le_of_ble_eq_true rfl) 5 rfl (by decide) fk_YearPlan_58 d_YearPlan_fillBase_26 ?_
  refine m_iload_n C hl 0 d_YearPlan_fillBase_29 rfl rfl ?_
  refine m_irem C hM d_YearPlan_fillBase_30 (fun x3 hM => ?_)
  refine m_istore_n C hl [(2, .int (iZ x3)), (1, .int (iZ (mxI (h2 23 1) 1))), (0, .ref (ad 66))] d_YearPlan_fillBase_31 rfl (by decide) rfl (fun ls hl => ?_)
  refine w_YearPlan_fillBase_L32 N hI C hr hlk (mxI (h2 23 1) 1) _ (fun v2_7 h_7 hM H locs w ls hl => ?_) _ x3 h2 _ _ w _ (lv_sub hl [2, 1, 0] rfl) hM
  refine m_iconst C d_YearPlan_fillBase_66 ?_
  refine m_istore_n C hl [(2, .int (iZ 0)), (0, .ref (ad 66)), (1, .int (iZ (mxI (h2 23 1) 1)))] d_YearPlan_fillBase_67 rfl (by decide) rfl (fun ls hl => ?_)
  exact w_YearPlan_fillBase_L68 N hI C hr hlk (mxI (h2 23 1) 1) _ 0 h_7 _ _ w _ (lv_sub hl [1, 2, 0] rfl) hM
def y_YearPlan_hasFeast : MethodName := ⟨"FeastBook$YearPlan", "hasFeast", "(I)Z"⟩
theorem d_YearPlan_hasFeast_0 : decode prog_11_method_14_code 0 = .ok (.aload_n 0, 1) := by decide +kernel
theorem d_YearPlan_hasFeast_1 : decode prog_11_method_14_code 1 = .ok (.getfield 15, 3) := by decide +kernel
theorem d_YearPlan_hasFeast_4 : decode prog_11_method_14_code 4 = .ok (.iload_n 1, 1) := by decide +kernel
theorem d_YearPlan_hasFeast_5 : decode prog_11_method_14_code 5 = .ok (.iaload, 1) := by decide +kernel
theorem d_YearPlan_hasFeast_6 : decode prog_11_method_14_code 6 = .ok (.invokestatic 162, 3) := by decide +kernel
theorem d_YearPlan_hasFeast_9 : decode prog_11_method_14_code 9 = .ok (.iconst 4, 1) := by decide +kernel
theorem d_YearPlan_hasFeast_10 : decode prog_11_method_14_code 10 = .ok (.if_icmp .ne 7, 3) := by decide +kernel
theorem d_YearPlan_hasFeast_13 : decode prog_11_method_14_code 13 = .ok (.iconst 1, 1) := by decide +kernel
theorem d_YearPlan_hasFeast_14 : decode prog_11_method_14_code 14 = .ok (.goto 4, 3) := by decide +kernel
theorem d_YearPlan_hasFeast_17 : decode prog_11_method_14_code 17 = .ok (.iconst 0, 1) := by decide +kernel
theorem d_YearPlan_hasFeast_18 : decode prog_11_method_14_code 18 = .ok (.ireturn, 1) := by decide +kernel
theorem fk_YearPlan_15 : Cond.fieldLink "FeastBook$YearPlan" 15 (T_YearPlan 7).1 (T_YearPlan 7).2.1 (T_YearPlan 7).2.2.1 ∈ TT := mT2 75 (by decide +kernel) (by decide +kernel)
theorem lk_YearPlan_162 : Cond.methodLink "FeastBook$YearPlan" 162 y_Cl_kindIn ∈ TT := mT6 7 (by decide +kernel) (by decide +kernel)
set_option maxHeartbeats 4000000 in
set_option maxRecDepth 100000 in
theorem c_YearPlan_hasFeast {l : Launch} {D : va_G} {ad : Nat → Nat} {cA : Nat → ClassId} {sd sv : Nat → Nat} {h : Hp} {a1 : Int} {out : Int} (hI : Inj97 ad) (hM : M_YearPlan_hasFeast h a1 = some out) : Met l y_YearPlan_hasFeast (.code y_YearPlan_hasFeast prog_11_method_14_code 2 (some .boolean) :: TT) (rmD 1) (PC D ad cA sd sv h [.ref (ad 66), .int (iZ a1)]) (QR out) 0 0 (fun _ => False) := by
  unfold M_YearPlan_hasFeast at hM
  refine entM (by decide +kernel) hI (Nat.le_of_ble_eq_true rfl) ?_
  intro p e s m args below meth c C hr hlk hP ls hl
  have C : Cx p s m args c prog_11_method_14_code 2 "FeastBook$YearPlan" D ad cA sd sv (FA ad) := C
  have hl : lv_has ls 2 [(0, .ref (ad 66)), (1, .int (iZ a1))] := hl
  refine m_aload_n C hl 0 d_YearPlan_hasFeast_0 rfl rfl ?_
  refine m_getr C hP kc_YearPlan sh_66 (Nat.le_of_ble_eq_true rfl) 7 68 rfl (by decide) fk_YearPlan_15 d_YearPlan_hasFeast_1 ?_
  refine m_iload_n C hl 1 d_YearPlan_hasFeast_4 rfl rfl ?_
  refine m_iald C hP sh_68 (Nat.le_of_ble_eq_true rfl) (Nat.le_of_ble_eq_true rfl) hM d_YearPlan_hasFeast_5 (fun x1 hM => ?_)
  obtain ⟨x3, e2, hM⟩ := bnd_some hM
  refine aftR (runS C hP va_S.rf (c_Cl_kindIn hI e2) lk_YearPlan_162 mb_Cl_kindIn rfl ⟨Nat.le_of_ble_eq_true rfl, Nat.le_of_ble_eq_true rfl⟩ ⟨Nat.zero_le _, Nat.zero_le _⟩ (Nat.le_of_ble_eq_true rfl) d_YearPlan_hasFeast_6 hl.1 (rest := []) rfl) ?_
  refine m_iconst C d_YearPlan_hasFeast_9 ?_
  refine m_icmp_ne C hM 17 d_YearPlan_hasFeast_10 (by decide) (fun hM => ?_) (fun hM => ?_)
  · refine m_iconst C d_YearPlan_hasFeast_17 ?_
    exact m_zretR C hr hlk hM d_YearPlan_hasFeast_18
  · refine m_iconst C d_YearPlan_hasFeast_13 ?_
    refine m_goto C 18 d_YearPlan_hasFeast_14 (by decide) ?_
    exact m_zretR C hr hlk hM d_YearPlan_hasFeast_18
def y_YearPlan_hold : MethodName := ⟨"FeastBook$YearPlan", "hold", "(III)V"⟩
theorem d_YearPlan_hold_0 : decode prog_11_method_13_code 0 = .ok (.aload_n 0, 1) := by decide +kernel
theorem d_YearPlan_hold_1 : decode prog_11_method_13_code 1 = .ok (.getfield 15, 3) := by decide +kernel
theorem d_YearPlan_hold_4 : decode prog_11_method_13_code 4 = .ok (.iload_n 2, 1) := by decide +kernel
theorem d_YearPlan_hold_5 : decode prog_11_method_13_code 5 = .ok (.aload_n 0, 1) := by decide +kernel
theorem d_YearPlan_hold_6 : decode prog_11_method_13_code 6 = .ok (.getfield 40, 3) := by decide +kernel
theorem d_YearPlan_hold_9 : decode prog_11_method_13_code 9 = .ok (.getfield 152, 3) := by decide +kernel
theorem d_YearPlan_hold_12 : decode prog_11_method_13_code 12 = .ok (.iload_n 1, 1) := by decide +kernel
theorem d_YearPlan_hold_13 : decode prog_11_method_13_code 13 = .ok (.iaload, 1) := by decide +kernel
theorem d_YearPlan_hold_14 : decode prog_11_method_13_code 14 = .ok (.iastore, 1) := by decide +kernel
theorem d_YearPlan_hold_15 : decode prog_11_method_13_code 15 = .ok (.aload_n 0, 1) := by decide +kernel
theorem d_YearPlan_hold_16 : decode prog_11_method_13_code 16 = .ok (.getfield 24, 3) := by decide +kernel
theorem d_YearPlan_hold_19 : decode prog_11_method_13_code 19 = .ok (.iload_n 1, 1) := by decide +kernel
theorem d_YearPlan_hold_20 : decode prog_11_method_13_code 20 = .ok (.iload_n 2, 1) := by decide +kernel
theorem d_YearPlan_hold_21 : decode prog_11_method_13_code 21 = .ok (.iastore, 1) := by decide +kernel
theorem d_YearPlan_hold_22 : decode prog_11_method_13_code 22 = .ok (.aload_n 0, 1) := by decide +kernel
theorem d_YearPlan_hold_23 : decode prog_11_method_13_code 23 = .ok (.getfield 27, 3) := by decide +kernel
theorem d_YearPlan_hold_26 : decode prog_11_method_13_code 26 = .ok (.iload_n 1, 1) := by decide +kernel
theorem d_YearPlan_hold_27 : decode prog_11_method_13_code 27 = .ok (.iload_n 3, 1) := by decide +kernel
theorem d_YearPlan_hold_28 : decode prog_11_method_13_code 28 = .ok (.iastore, 1) := by decide +kernel
theorem d_YearPlan_hold_29 : decode prog_11_method_13_code 29 = .ok (.return_, 1) := by decide +kernel
theorem fk_YearPlan_152 : Cond.fieldLink "FeastBook$YearPlan" 152 (T_Feasts 7).1 (T_Feasts 7).2.1 (T_Feasts 7).2.2.1 ∈ TT := mT1 126 (by decide +kernel) (by decide +kernel)
theorem fk_YearPlan_24 : Cond.fieldLink "FeastBook$YearPlan" 24 (T_YearPlan 10).1 (T_YearPlan 10).2.1 (T_YearPlan 10).2.2.1 ∈ TT := mT2 81 (by decide +kernel) (by decide +kernel)
theorem fk_YearPlan_27 : Cond.fieldLink "FeastBook$YearPlan" 27 (T_YearPlan 11).1 (T_YearPlan 11).2.1 (T_YearPlan 11).2.2.1 ∈ TT := mT2 84 (by decide +kernel) (by decide +kernel)
set_option maxHeartbeats 4000000 in
set_option maxRecDepth 100000 in
theorem c_YearPlan_hold {l : Launch} {D : va_G} {ad : Nat → Nat} {cA : Nat → ClassId} {sd sv : Nat → Nat} {h : Hp} {a1 a2 a3 : Int} {out : Hp} (hI : Inj97 ad) (hM : M_YearPlan_hold h a1 a2 a3 = some out) : Met l y_YearPlan_hold (.code y_YearPlan_hold prog_11_method_13_code 4 none :: TT) (rmD 0) (PC D ad cA sd sv h [.ref (ad 66), .int (iZ a1), .int (iZ a2), .int (iZ a3)]) (QV D ad cA out) 0 0 (FA ad) := by
  unfold M_YearPlan_hold at hM
  refine entM (by decide +kernel) hI (Nat.le_of_ble_eq_true rfl) ?_
  intro p e s m args below meth c C hr hlk hP ls hl
  have C : Cx p s m args c prog_11_method_13_code 4 "FeastBook$YearPlan" D ad cA sd sv (FA ad) := C
  have hl : lv_has ls 4 [(0, .ref (ad 66)), (1, .int (iZ a1)), (2, .int (iZ a2)), (3, .int (iZ a3))] := hl
  have w : Wd s D ad cA (FA ad) h s.heap [] := ⟨hP, va_S.rf⟩
  refine m_aload_n C hl 0 d_YearPlan_hold_0 rfl rfl ?_
  refine m_getr C w.1 kc_YearPlan sh_66 (Nat.le_of_ble_eq_true rfl) 7 68 rfl (by decide) fk_YearPlan_15 d_YearPlan_hold_1 ?_
  refine m_iload_n C hl 2 d_YearPlan_hold_4 rfl rfl ?_
  refine m_aload_n C hl 0 d_YearPlan_hold_5 rfl rfl ?_
  refine m_getr C w.1 kc_YearPlan sh_66 (Nat.le_of_ble_eq_true rfl) 1 33 rfl (by decide) fk_YearPlan_40 d_YearPlan_hold_6 ?_
  refine m_getr C w.1 kc_Feasts sh_33 (Nat.le_of_ble_eq_true rfl) 7 40 rfl (by decide) fk_YearPlan_152 d_YearPlan_hold_9 ?_
  refine m_iload_n C hl 1 d_YearPlan_hold_12 rfl rfl ?_
  refine m_iald C w.1 sh_40 (Nat.le_of_ble_eq_true rfl) (Nat.le_of_ble_eq_true rfl) hM d_YearPlan_hold_13 (fun x1 hM => ?_)
  refine m_iast C w sh_68 (Nat.le_of_ble_eq_true rfl) (Nat.le_of_ble_eq_true rfl) hM d_YearPlan_hold_14 (fun h2 H locs w hM => ?_)
  refine m_aload_n C hl 0 d_YearPlan_hold_15 rfl rfl ?_
  refine m_getr C w.1 kc_YearPlan sh_66 (Nat.le_of_ble_eq_true rfl) 10 71 rfl (by decide) fk_YearPlan_24 d_YearPlan_hold_16 ?_
  refine m_iload_n C hl 1 d_YearPlan_hold_19 rfl rfl ?_
  refine m_iload_n C hl 2 d_YearPlan_hold_20 rfl rfl ?_
  refine m_iast C w sh_71 (Nat.le_of_ble_eq_true rfl) (Nat.le_of_ble_eq_true rfl) hM d_YearPlan_hold_21 (fun h3 H locs w hM => ?_)
  refine m_aload_n C hl 0 d_YearPlan_hold_22 rfl rfl ?_
  refine m_getr C w.1 kc_YearPlan sh_66 (Nat.le_of_ble_eq_true rfl) 11 72 rfl (by decide) fk_YearPlan_27 d_YearPlan_hold_23 ?_
  refine m_iload_n C hl 1 d_YearPlan_hold_26 rfl rfl ?_
  refine m_iload_n C hl 3 d_YearPlan_hold_27 rfl rfl ?_
  refine m_iast C w sh_72 (Nat.le_of_ble_eq_true rfl) (Nat.le_of_ble_eq_true rfl) hM d_YearPlan_hold_28 (fun h4 H locs w hM => ?_)
  exact m_vretW C w hr hlk hM d_YearPlan_hold_29
def y_YearPlan_keepGreatest : MethodName := ⟨"FeastBook$YearPlan", "keepGreatest", "()V"⟩
theorem d_YearPlan_keepGreatest_0 : decode prog_11_method_12_code 0 = .ok (.iconst 0, 1) := by decide +kernel
theorem d_YearPlan_keepGreatest_1 : decode prog_11_method_12_code 1 = .ok (.istore_n 1, 1) := by decide +kernel
theorem d_YearPlan_keepGreatest_2 : decode prog_11_method_12_code 2 = .ok (.iload_n 1, 1) := by decide +kernel
theorem d_YearPlan_keepGreatest_3 : decode prog_11_method_12_code 3 = .ok (.aload_n 0, 1) := by decide +kernel
theorem d_YearPlan_keepGreatest_4 : decode prog_11_method_12_code 4 = .ok (.getfield 40, 3) := by decide +kernel
theorem d_YearPlan_keepGreatest_7 : decode prog_11_method_12_code 7 = .ok (.getfield 61, 3) := by decide +kernel
theorem d_YearPlan_keepGreatest_10 : decode prog_11_method_12_code 10 = .ok (.if_icmp .ge 91, 3) := by decide +kernel
theorem d_YearPlan_keepGreatest_13 : decode prog_11_method_12_code 13 = .ok (.aload_n 0, 1) := by decide +kernel
theorem d_YearPlan_keepGreatest_14 : decode prog_11_method_12_code 14 = .ok (.getfield 40, 3) := by decide +kernel
theorem d_YearPlan_keepGreatest_17 : decode prog_11_method_12_code 17 = .ok (.getfield 113, 3) := by decide +kernel
theorem d_YearPlan_keepGreatest_20 : decode prog_11_method_12_code 20 = .ok (.iload_n 1, 1) := by decide +kernel
theorem d_YearPlan_keepGreatest_21 : decode prog_11_method_12_code 21 = .ok (.iaload, 1) := by decide +kernel
theorem d_YearPlan_keepGreatest_22 : decode prog_11_method_12_code 22 = .ok (.istore_n 2, 1) := by decide +kernel
theorem d_YearPlan_keepGreatest_23 : decode prog_11_method_12_code 23 = .ok (.aload_n 0, 1) := by decide +kernel
theorem d_YearPlan_keepGreatest_24 : decode prog_11_method_12_code 24 = .ok (.getfield 18, 3) := by decide +kernel
theorem d_YearPlan_keepGreatest_27 : decode prog_11_method_12_code 27 = .ok (.iload_n 2, 1) := by decide +kernel
theorem d_YearPlan_keepGreatest_28 : decode prog_11_method_12_code 28 = .ok (.iaload, 1) := by decide +kernel
theorem d_YearPlan_keepGreatest_29 : decode prog_11_method_12_code 29 = .ok (.istore_n 3, 1) := by decide +kernel
theorem d_YearPlan_keepGreatest_30 : decode prog_11_method_12_code 30 = .ok (.aload_n 0, 1) := by decide +kernel
theorem d_YearPlan_keepGreatest_31 : decode prog_11_method_12_code 31 = .ok (.getfield 24, 3) := by decide +kernel
theorem d_YearPlan_keepGreatest_34 : decode prog_11_method_12_code 34 = .ok (.iload_n 2, 1) := by decide +kernel
theorem d_YearPlan_keepGreatest_35 : decode prog_11_method_12_code 35 = .ok (.iconst (-1), 1) := by decide +kernel
theorem d_YearPlan_keepGreatest_36 : decode prog_11_method_12_code 36 = .ok (.iastore, 1) := by decide +kernel
theorem d_YearPlan_keepGreatest_37 : decode prog_11_method_12_code 37 = .ok (.iload_n 3, 1) := by decide +kernel
theorem d_YearPlan_keepGreatest_38 : decode prog_11_method_12_code 38 = .ok (.iconst (-1), 1) := by decide +kernel
theorem d_YearPlan_keepGreatest_39 : decode prog_11_method_12_code 39 = .ok (.if_icmp .ne 13, 3) := by decide +kernel
theorem d_YearPlan_keepGreatest_42 : decode prog_11_method_12_code 42 = .ok (.aload_n 0, 1) := by decide +kernel
theorem d_YearPlan_keepGreatest_43 : decode prog_11_method_12_code 43 = .ok (.getfield 27, 3) := by decide +kernel
theorem d_YearPlan_keepGreatest_46 : decode prog_11_method_12_code 46 = .ok (.iload_n 2, 1) := by decide +kernel
theorem d_YearPlan_keepGreatest_47 : decode prog_11_method_12_code 47 = .ok (.iconst 5, 1) := by decide +kernel
theorem d_YearPlan_keepGreatest_48 : decode prog_11_method_12_code 48 = .ok (.iastore, 1) := by decide +kernel
theorem d_YearPlan_keepGreatest_49 : decode prog_11_method_12_code 49 = .ok (.goto 46, 3) := by decide +kernel
theorem d_YearPlan_keepGreatest_52 : decode prog_11_method_12_code 52 = .ok (.aload_n 0, 1) := by decide +kernel
theorem d_YearPlan_keepGreatest_53 : decode prog_11_method_12_code 53 = .ok (.getfield 40, 3) := by decide +kernel
theorem d_YearPlan_keepGreatest_56 : decode prog_11_method_12_code 56 = .ok (.getfield 152, 3) := by decide +kernel
theorem d_YearPlan_keepGreatest_59 : decode prog_11_method_12_code 59 = .ok (.iload_n 2, 1) := by decide +kernel
theorem d_YearPlan_keepGreatest_60 : decode prog_11_method_12_code 60 = .ok (.iaload, 1) := by decide +kernel
theorem d_YearPlan_keepGreatest_61 : decode prog_11_method_12_code 61 = .ok (.aload_n 0, 1) := by decide +kernel
theorem d_YearPlan_keepGreatest_62 : decode prog_11_method_12_code 62 = .ok (.getfield 9, 3) := by decide +kernel
theorem d_YearPlan_keepGreatest_65 : decode prog_11_method_12_code 65 = .ok (.iload_n 3, 1) := by decide +kernel
theorem d_YearPlan_keepGreatest_66 : decode prog_11_method_12_code 66 = .ok (.iaload, 1) := by decide +kernel
theorem d_YearPlan_keepGreatest_67 : decode prog_11_method_12_code 67 = .ok (.if_icmp .le 21, 3) := by decide +kernel
theorem d_YearPlan_keepGreatest_70 : decode prog_11_method_12_code 70 = .ok (.aload_n 0, 1) := by decide +kernel
theorem d_YearPlan_keepGreatest_71 : decode prog_11_method_12_code 71 = .ok (.iload_n 3, 1) := by decide +kernel
theorem d_YearPlan_keepGreatest_72 : decode prog_11_method_12_code 72 = .ok (.invokevirtual 155, 3) := by decide +kernel
theorem d_YearPlan_keepGreatest_75 : decode prog_11_method_12_code 75 = .ok (.ifCond .ne 13, 3) := by decide +kernel
theorem d_YearPlan_keepGreatest_78 : decode prog_11_method_12_code 78 = .ok (.aload_n 0, 1) := by decide +kernel
theorem d_YearPlan_keepGreatest_79 : decode prog_11_method_12_code 79 = .ok (.iload_n 2, 1) := by decide +kernel
theorem d_YearPlan_keepGreatest_80 : decode prog_11_method_12_code 80 = .ok (.iload_n 3, 1) := by decide +kernel
theorem d_YearPlan_keepGreatest_81 : decode prog_11_method_12_code 81 = .ok (.iconst 0, 1) := by decide +kernel
theorem d_YearPlan_keepGreatest_82 : decode prog_11_method_12_code 82 = .ok (.invokevirtual 158, 3) := by decide +kernel
theorem d_YearPlan_keepGreatest_85 : decode prog_11_method_12_code 85 = .ok (.goto 10, 3) := by decide +kernel
theorem d_YearPlan_keepGreatest_88 : decode prog_11_method_12_code 88 = .ok (.aload_n 0, 1) := by decide +kernel
theorem d_YearPlan_keepGreatest_89 : decode prog_11_method_12_code 89 = .ok (.getfield 27, 3) := by decide +kernel
theorem d_YearPlan_keepGreatest_92 : decode prog_11_method_12_code 92 = .ok (.iload_n 2, 1) := by decide +kernel
theorem d_YearPlan_keepGreatest_93 : decode prog_11_method_12_code 93 = .ok (.iconst (-1), 1) := by decide +kernel
theorem d_YearPlan_keepGreatest_94 : decode prog_11_method_12_code 94 = .ok (.iastore, 1) := by decide +kernel
theorem d_YearPlan_keepGreatest_95 : decode prog_11_method_12_code 95 = .ok (.iinc 1 1, 3) := by decide +kernel
theorem d_YearPlan_keepGreatest_98 : decode prog_11_method_12_code 98 = .ok (.goto (-96), 3) := by decide +kernel
theorem d_YearPlan_keepGreatest_101 : decode prog_11_method_12_code 101 = .ok (.return_, 1) := by decide +kernel
theorem mb_YearPlan_hasFeast : MBv R_YearPlan y_YearPlan_hasFeast prog_11_method_14_code 2 (some .boolean) 1 := ⟨mT6 4 (by decide +kernel) (by decide +kernel), mT6 5 (by decide +kernel) (by decide +kernel), mT1 8 (by decide +kernel) (by decide +kernel), mT6 6 (by decide +kernel) (by decide +kernel), by decide, rfl, by decide +kernel, by decide +kernel, by decide +kernel⟩
theorem mb_YearPlan_hold : MBv R_YearPlan y_YearPlan_hold prog_11_method_13_code 4 none 3 := ⟨mT6 11 (by decide +kernel) (by decide +kernel), mT6 12 (by decide +kernel) (by decide +kernel), mT1 8 (by decide +kernel) (by decide +kernel), mT6 13 (by decide +kernel) (by decide +kernel), by decide, rfl, by decide +kernel, by decide +kernel, by decide +kernel⟩
theorem fk_YearPlan_113 : Cond.fieldLink "FeastBook$YearPlan" 113 (T_Feasts 8).1 (T_Feasts 8).2.1 (T_Feasts 8).2.2.1 ∈ TT := mT1 130 (by decide +kernel) (by decide +kernel)
theorem lk_YearPlan_155 : Cond.methodLink "FeastBook$YearPlan" 155 y_YearPlan_hasFeast ∈ TT := mT6 3 (by decide +kernel) (by decide +kernel)
theorem lk_YearPlan_158 : Cond.methodLink "FeastBook$YearPlan" 158 y_YearPlan_hold ∈ TT := mT6 10 (by decide +kernel) (by decide +kernel)
set_option maxHeartbeats 4000000 in
set_option maxRecDepth 100000 in
theorem w_YearPlan_keepGreatest_L2 {p : Program} {l : Launch} {e : Env} {s : State} {m : MethodId} {args : Array Value} {below : List Frame} {meth : Method} {c : Code} {D : va_G} {ad : Nat → Nat} {cA : Nat → ClassId} {sd sv : Nat → Nat} {out : Hp} (N : Nat) (hI : Inj97 ad) (C : Cx p s m args c prog_11_method_12_code 4 "FeastBook$YearPlan" D ad cA sd sv (FA ad)) (hr : meth.sig.returnType = none) (hlk : meth.locks = false) : ∀ (n : Nat) (v1 : Int) (h : Hp) (H : Heap) (locs : List Loc), Wd s D ad cA (FA ad) h H locs → ∀ ls : Array Slot, lv_has ls 4 [(0, .ref (ad 66)), (1, .int (iZ v1))] → YearPlan_keepGreatest_L2 N n v1 h = some out → W p l e (rmD 2) s m args below meth c H locs 0 0 (MQ below (QV D ad cA out) args s 0 0 (FA ad)) (F0 m 2 ls []) := by
  intro n
  induction n with
  | zero =>
    intro v1 h H locs w ls hl hM
    rw [YearPlan_keepGreatest_L2] at hM
    cases hM
  | succ n ih =>
    intro v1 h H locs w ls hl hM
    rw [YearPlan_keepGreatest_L2] at hM
    refine m_iload_n C hl 1 d_YearPlan_keepGreatest_2 rfl rfl ?_
    refine m_aload_n C hl 0 d_YearPlan_keepGreatest_3 rfl rfl ?_
    refine m_getr C w.1 kc_YearPlan sh_66 (Nat.le_of_ble_eq_true rfl) 1 33 rfl (by decide) fk_YearPlan_40 d_YearPlan_keepGreatest_4 ?_
    refine m_geti C w.1 kc_Feasts sh_33 (Nat.le_of_ble_eq_true rfl) 0 rfl (by decide) fk_YearPlan_61 d_YearPlan_keepGreatest_7 ?_
    refine m_icmp_ge C hM 101 d_YearPlan_keepGreatest_10 (by decide) (fun hM => ?_) (fun hM => ?_)
    · exact m_vretW C w hr hlk hM d_YearPlan_keepGreatest_101
    · refine m_aload_n C hl 0 d_YearPlan_keepGreatest_13 rfl rfl ?_
      refine m_getr C w.1 kc_YearPlan sh_66 (Nat.le_of_ble_eq_true rfl) 1 33 rfl (by decide) fk_YearPlan_40 d_YearPlan_keepGreatest_14 ?_
      refine m_getr C w.1 kc_Feasts sh_33 (Nat.le_of_ble_eq_true rfl) 8 41 rfl (by decide) fk_YearPlan_113 d_YearPlan_keepGreatest_17 ?_
      refine m_iload_n C hl 1 d_YearPlan_keepGreatest_20 rfl rfl ?_
      refine m_iald C w.1 sh_41 (Nat.le_of_ble_eq_true rfl) (Nat.le_of_ble_eq_true rfl) hM d_YearPlan_keepGreatest_21 (fun x1 hM => ?_)
      refine m_istore_n C hl [(2, .int (iZ x1)), (0, .ref (ad 66)), (1, .int (iZ v1))] d_YearPlan_keepGreatest_22 rfl (by decide) rfl (fun ls hl => ?_)
      refine m_aload_n C hl 1 d_YearPlan_keepGreatest_23 rfl rfl ?_
      refine m_getr C w.1 kc_YearPlan sh_66 (Nat.le_of_ble_eq_true rfl) 8 69 rfl (by decide) fk_YearPlan_18 d_YearPlan_keepGreatest_24 ?_
      refine m_iload_n C hl 0 d_YearPlan_keepGreatest_27 rfl rfl ?_
      refine m_iald C w.1 sh_69 (Nat.le_of_ble_eq_true rfl) (Nat.le_of_ble_eq_true rfl) hM d_YearPlan_keepGreatest_28 (fun x2 hM => ?_)
      refine m_istore_n C hl [(3, .int (iZ x2)), (2, .int (iZ x1)), (0, .ref (ad 66)), (1, .int (iZ v1))] d_YearPlan_keepGreatest_29 rfl (by decide) rfl (fun ls hl => ?_)
      refine m_aload_n C hl 2 d_YearPlan_keepGreatest_30 rfl rfl ?_
      refine m_getr C w.1 kc_YearPlan sh_66 (Nat.le_of_ble_eq_true rfl) 10 71 rfl (by decide) fk_YearPlan_24 d_YearPlan_keepGreatest_31 ?_
      refine m_iload_n C hl 1 d_YearPlan_keepGreatest_34 rfl rfl ?_
      refine m_iconst C d_YearPlan_keepGreatest_35 ?_
      refine m_iast C w sh_71 (Nat.le_of_ble_eq_true rfl) (Nat.le_of_ble_eq_true rfl) hM d_YearPlan_keepGreatest_36 (fun h3 H locs w hM => ?_)
      refine m_iload_n C hl 0 d_YearPlan_keepGreatest_37 rfl rfl ?_
      refine m_iconst C d_YearPlan_keepGreatest_38 ?_
      refine m_icmp_ne C hM 52 d_YearPlan_keepGreatest_39 (by decide) (fun hM => ?_) (fun hM => ?_)
      · refine m_aload_n C hl 2 d_YearPlan_keepGreatest_52 rfl rfl ?_
        refine m_getr C w.1 kc_YearPlan sh_66 (Nat.le_of_ble_eq_true rfl) 1 33 rfl (by decide) fk_YearPlan_40 d_YearPlan_keepGreatest_53 ?_
        refine m_getr C w.1 kc_Feasts sh_33 (Nat.le_of_ble_eq_true rfl) 7 40 rfl (by decide) fk_YearPlan_152 d_YearPlan_keepGreatest_56 ?_
        refine m_iload_n C hl 1 d_YearPlan_keepGreatest_59 rfl rfl ?_
        refine m_iald C w.1 sh_40 (Nat.le_of_ble_eq_true rfl) (Nat.le_of_ble_eq_true rfl) hM d_YearPlan_keepGreatest_60 (fun x4 hM => ?_)
        refine m_aload_n C hl 2 d_YearPlan_keepGreatest_61 rfl rfl ?_
        refine m_getr C w.1 kc_YearPlan sh_66 (Nat.le_of_ble_eq_true rfl) 6 67 rfl (by decide) fk_YearPlan_9 d_YearPlan_keepGreatest_62 ?_
        refine m_iload_n C hl 0 d_YearPlan_keepGreatest_65 rfl rfl ?_
        refine m_iald C w.1 sh_67 (Nat.le_of_ble_eq_true rfl) (Nat.le_of_ble_eq_true rfl) hM d_YearPlan_keepGreatest_66 (fun x5 hM => ?_)
        refine m_icmp_le C hM 88 d_YearPlan_keepGreatest_67 (by decide) (fun hM => ?_) (fun hM => ?_)
        · refine m_aload_n C hl 2 d_YearPlan_keepGreatest_88 rfl rfl ?_
          refine m_getr C w.1 kc_YearPlan sh_66 (Nat.le_of_ble_eq_true rfl) 11 72 rfl (by decide) fk_YearPlan_27 d_YearPlan_keepGreatest_89 ?_
          refine m_iload_n C hl 1 d_YearPlan_keepGreatest_92 rfl rfl ?_
          refine m_iconst C d_YearPlan_keepGreatest_93 ?_
          refine m_iast C w sh_72 (Nat.le_of_ble_eq_true rfl) (Nat.le_of_ble_eq_true rfl) hM d_YearPlan_keepGreatest_94 (fun h6 H locs w hM => ?_)
          refine m_iinc C hl 3 [(1, .int (iZ (v1 + 1))), (3, .int (iZ x2)), (2, .int (iZ x1)), (0, .ref (ad 66))] d_YearPlan_keepGreatest_95 rfl (by decide) rfl (fun ls hl => ?_)
          refine m_goto C 2 d_YearPlan_keepGreatest_98 (by decide) ?_
          exact ih (v1 + 1) h6 _ _ w _ (lv_sub hl [3, 0] rfl) hM
        · refine m_aload_n C hl 2 d_YearPlan_keepGreatest_70 rfl rfl ?_
          refine m_iload_n C hl 0 d_YearPlan_keepGreatest_71 rfl rfl ?_
          obtain ⟨x8, e7, hM⟩ := bnd_some hM
          refine aftR (runV C w.1 w.2 kc_YearPlan sh_66 (Nat.le_of_ble_eq_true rfl) (c_YearPlan_hasFeast hI e7) lk_YearPlan_155 mb_YearPlan_hasFeast rfl ⟨Nat.le_of_ble_eq_true rfl, Nat.le_of_ble_eq_true rfl⟩ ⟨Nat.zero_le _, Nat.zero_le _⟩ (Nat.le_of_ble_eq_true rfl) d_YearPlan_keepGreatest_72 hl.1 (rest := []) rfl) ?_
          refine m_if_ne C hM 88 d_YearPlan_keepGreatest_75 (by decide) (fun hM => ?_) (fun hM => ?_)
          · refine m_aload_n C hl 2 d_YearPlan_keepGreatest_88 rfl rfl ?_
            refine m_getr C w.1 kc_YearPlan sh_66 (Nat.le_of_ble_eq_true rfl) 11 72 rfl (by decide) fk_YearPlan_27 d_YearPlan_keepGreatest_89 ?_
            refine m_iload_n C hl 1 d_YearPlan_keepGreatest_92 rfl rfl ?_
            refine m_iconst C d_YearPlan_keepGreatest_93 ?_
            refine m_iast C w sh_72 (Nat.le_of_ble_eq_true rfl) (Nat.le_of_ble_eq_true rfl) hM d_YearPlan_keepGreatest_94 (fun h9 H locs w hM => ?_)
            refine m_iinc C hl 3 [(1, .int (iZ (v1 + 1))), (3, .int (iZ x2)), (2, .int (iZ x1)), (0, .ref (ad 66))] d_YearPlan_keepGreatest_95 rfl (by decide) rfl (fun ls hl => ?_)
            refine m_goto C 2 d_YearPlan_keepGreatest_98 (by decide) ?_
            exact ih (v1 + 1) h9 _ _ w _ (lv_sub hl [3, 0] rfl) hM
          · refine m_aload_n C hl 2 d_YearPlan_keepGreatest_78 rfl rfl ?_
            refine m_iload_n C hl 1 d_YearPlan_keepGreatest_79 rfl rfl ?_
            refine m_iload_n C hl 0 d_YearPlan_keepGreatest_80 rfl rfl ?_
            refine m_iconst C d_YearPlan_keepGreatest_81 ?_
            obtain ⟨h11, e10, hM⟩ := bnd_some hM
            refine aftV C w (runV C w.1 w.2 kc_YearPlan sh_66 (Nat.le_of_ble_eq_true rfl) (c_YearPlan_hold hI e10) lk_YearPlan_158 mb_YearPlan_hold rfl ⟨Nat.le_of_ble_eq_true rfl, Nat.le_of_ble_eq_true rfl⟩ ⟨Nat.zero_le _, Nat.zero_le _⟩ (Nat.le_of_ble_eq_true rfl) d_YearPlan_keepGreatest_82 hl.1 (rest := []) rfl) (fun H locs w => ?_)
            refine m_goto C 95 d_YearPlan_keepGreatest_85 (by decide) ?_
            refine m_iinc C hl 3 [(1, .int (iZ (v1 + 1))), (3, .int (iZ x2)), (2, .int (iZ x1)), (0, .ref (ad 66))] d_YearPlan_keepGreatest_95 rfl (by decide) rfl (fun ls hl => ?_)
            refine m_goto C 2 d_YearPlan_keepGreatest_98 (by decide) ?_
            exact ih (v1 + 1) h11 _ _ w _ (lv_sub hl [3, 0] rfl) hM
      · refine m_aload_n C hl 2 d_YearPlan_keepGreatest_42 rfl rfl ?_
        refine m_getr C w.1 kc_YearPlan sh_66 (Nat.le_of_ble_eq_true rfl) 11 72 rfl (by decide) fk_YearPlan_27 d_YearPlan_keepGreatest_43 ?_
        refine m_iload_n C hl 1 d_YearPlan_keepGreatest_46 rfl rfl ?_
        refine m_iconst C d_YearPlan_keepGreatest_47 ?_
        refine m_iast C w sh_72 (Nat.le_of_ble_eq_true rfl) (Nat.le_of_ble_eq_true rfl) hM d_YearPlan_keepGreatest_48 (fun h12 H locs w hM => ?_)
        refine m_goto C 95 d_YearPlan_keepGreatest_49 (by decide) ?_
        refine m_iinc C hl 3 [(1, .int (iZ (v1 + 1))), (3, .int (iZ x2)), (2, .int (iZ x1)), (0, .ref (ad 66))] d_YearPlan_keepGreatest_95 rfl (by decide) rfl (fun ls hl => ?_)
        refine m_goto C 2 d_YearPlan_keepGreatest_98 (by decide) ?_
        exact ih (v1 + 1) h12 _ _ w _ (lv_sub hl [3, 0] rfl) hM
set_option maxHeartbeats 4000000 in
set_option maxRecDepth 100000 in
theorem c_YearPlan_keepGreatest {l : Launch} {D : va_G} {ad : Nat → Nat} {cA : Nat → ClassId} {sd sv : Nat → Nat} {h : Hp} {N : Nat} {out : Hp} (hI : Inj97 ad) (hM : M_YearPlan_keepGreatest N h = some out) : Met l y_YearPlan_keepGreatest (.code y_YearPlan_keepGreatest prog_11_method_12_code 4 none :: TT) (rmD 2) (PC D ad cA sd sv h [.ref (ad 66)]) (QV D ad cA out) 0 0 (FA ad) := by
  unfold M_YearPlan_keepGreatest at hM
  refine entM (by decide +kernel) hI (Nat.le_of_ble_eq_true rfl) ?_
  intro p e s m args below meth c C hr hlk hP ls hl
  have C : Cx p s m args c prog_11_method_12_code 4 "FeastBook$YearPlan" D ad cA sd sv (FA ad) := C
  have hl : lv_has ls 4 [(0, .ref (ad 66))] := hl
  have w : Wd s D ad cA (FA ad) h s.heap [] := ⟨hP, va_S.rf⟩
  refine m_iconst C d_YearPlan_keepGreatest_0 ?_
  refine m_istore_n C hl [(1, .int (iZ 0)), (0, .ref (ad 66))] d_YearPlan_keepGreatest_1 rfl (by decide) rfl (fun ls hl => ?_)
  exact w_YearPlan_keepGreatest_L2 N hI C hr hlk  _ 0 h _ _ w _ (lv_sub hl [1, 0] rfl) hM
def y_YearPlan_isOpenTo : MethodName := ⟨"FeastBook$YearPlan", "isOpenTo", "(II)Z"⟩
theorem d_YearPlan_isOpenTo_0 : decode prog_11_method_17_code 0 = .ok (.aload_n 0, 1) := by decide +kernel
theorem d_YearPlan_isOpenTo_1 : decode prog_11_method_17_code 1 = .ok (.iload_n 2, 1) := by decide +kernel
theorem d_YearPlan_isOpenTo_2 : decode prog_11_method_17_code 2 = .ok (.invokevirtual 69, 3) := by decide +kernel
theorem d_YearPlan_isOpenTo_5 : decode prog_11_method_17_code 5 = .ok (.ifCond .eq 61, 3) := by decide +kernel
theorem d_YearPlan_isOpenTo_8 : decode prog_11_method_17_code 8 = .ok (.aload_n 0, 1) := by decide +kernel
theorem d_YearPlan_isOpenTo_9 : decode prog_11_method_17_code 9 = .ok (.getfield 15, 3) := by decide +kernel
theorem d_YearPlan_isOpenTo_12 : decode prog_11_method_17_code 12 = .ok (.iload_n 2, 1) := by decide +kernel
theorem d_YearPlan_isOpenTo_13 : decode prog_11_method_17_code 13 = .ok (.iaload, 1) := by decide +kernel
theorem d_YearPlan_isOpenTo_14 : decode prog_11_method_17_code 14 = .ok (.invokestatic 162, 3) := by decide +kernel
theorem d_YearPlan_isOpenTo_17 : decode prog_11_method_17_code 17 = .ok (.iconst 4, 1) := by decide +kernel
theorem d_YearPlan_isOpenTo_18 : decode prog_11_method_17_code 18 = .ok (.if_icmp .eq 48, 3) := by decide +kernel
theorem d_YearPlan_isOpenTo_21 : decode prog_11_method_17_code 21 = .ok (.aload_n 0, 1) := by decide +kernel
theorem d_YearPlan_isOpenTo_22 : decode prog_11_method_17_code 22 = .ok (.getfield 9, 3) := by decide +kernel
theorem d_YearPlan_isOpenTo_25 : decode prog_11_method_17_code 25 = .ok (.iload_n 2, 1) := by decide +kernel
theorem d_YearPlan_isOpenTo_26 : decode prog_11_method_17_code 26 = .ok (.iaload, 1) := by decide +kernel
theorem d_YearPlan_isOpenTo_27 : decode prog_11_method_17_code 27 = .ok (.invokestatic 188, 3) := by decide +kernel
theorem d_YearPlan_isOpenTo_30 : decode prog_11_method_17_code 30 = .ok (.aload_n 0, 1) := by decide +kernel
theorem d_YearPlan_isOpenTo_31 : decode prog_11_method_17_code 31 = .ok (.getfield 40, 3) := by decide +kernel
theorem d_YearPlan_isOpenTo_34 : decode prog_11_method_17_code 34 = .ok (.getfield 191, 3) := by decide +kernel
theorem d_YearPlan_isOpenTo_37 : decode prog_11_method_17_code 37 = .ok (.iload_n 1, 1) := by decide +kernel
theorem d_YearPlan_isOpenTo_38 : decode prog_11_method_17_code 38 = .ok (.iaload, 1) := by decide +kernel
theorem d_YearPlan_isOpenTo_39 : decode prog_11_method_17_code 39 = .ok (.if_icmp .ge 27, 3) := by decide +kernel
theorem d_YearPlan_isOpenTo_42 : decode prog_11_method_17_code 42 = .ok (.aload_n 0, 1) := by decide +kernel
theorem d_YearPlan_isOpenTo_43 : decode prog_11_method_17_code 43 = .ok (.getfield 30, 3) := by decide +kernel
theorem d_YearPlan_isOpenTo_46 : decode prog_11_method_17_code 46 = .ok (.getfield 194, 3) := by decide +kernel
theorem d_YearPlan_isOpenTo_49 : decode prog_11_method_17_code 49 = .ok (.iload_n 2, 1) := by decide +kernel
theorem d_YearPlan_isOpenTo_50 : decode prog_11_method_17_code 50 = .ok (.aload_n 0, 1) := by decide +kernel
theorem d_YearPlan_isOpenTo_51 : decode prog_11_method_17_code 51 = .ok (.getfield 58, 3) := by decide +kernel
theorem d_YearPlan_isOpenTo_54 : decode prog_11_method_17_code 54 = .ok (.isub, 1) := by decide +kernel
theorem d_YearPlan_isOpenTo_55 : decode prog_11_method_17_code 55 = .ok (.invokevirtual 198, 3) := by decide +kernel
theorem d_YearPlan_isOpenTo_58 : decode prog_11_method_17_code 58 = .ok (.iconst (-1), 1) := by decide +kernel
theorem d_YearPlan_isOpenTo_59 : decode prog_11_method_17_code 59 = .ok (.if_icmp .ne 7, 3) := by decide +kernel
theorem d_YearPlan_isOpenTo_62 : decode prog_11_method_17_code 62 = .ok (.iconst 1, 1) := by decide +kernel
theorem d_YearPlan_isOpenTo_63 : decode prog_11_method_17_code 63 = .ok (.goto 4, 3) := by decide +kernel
theorem d_YearPlan_isOpenTo_66 : decode prog_11_method_17_code 66 = .ok (.iconst 0, 1) := by decide +kernel
theorem d_YearPlan_isOpenTo_67 : decode prog_11_method_17_code 67 = .ok (.ireturn, 1) := by decide +kernel
theorem fk_YearPlan_191 : Cond.fieldLink "FeastBook$YearPlan" 191 (T_Feasts 1).1 (T_Feasts 1).2.1 (T_Feasts 1).2.2.1 ∈ TT := mT1 107 (by decide +kernel) (by decide +kernel)
theorem fk_YearPlan_194 : Cond.fieldLink "FeastBook$YearPlan" 194 (T_Book 16).1 (T_Book 16).2.1 (T_Book 16).2.2.1 ∈ TT := mT1 200 (by decide +kernel) (by decide +kernel)
theorem lk_YearPlan_188 : Cond.methodLink "FeastBook$YearPlan" 188 y_Cl_rankIn ∈ TT := mT6 26 (by decide +kernel) (by decide +kernel)
theorem lk_YearPlan_198 : Cond.methodLink "FeastBook$YearPlan" 198 y_Spans_lastWith ∈ TT := mT6 29 (by decide +kernel) (by decide +kernel)
set_option maxHeartbeats 4000000 in
set_option maxRecDepth 100000 in
theorem c_YearPlan_isOpenTo {l : Launch} {D : va_G} {ad : Nat → Nat} {cA : Nat → ClassId} {sd sv : Nat → Nat} {h : Hp} {N : Nat} {a1 a2 : Int} {out : Int} (hI : Inj97 ad) (hM : M_YearPlan_isOpenTo N h a1 a2 = some out) : Met l y_YearPlan_isOpenTo (.code y_YearPlan_isOpenTo prog_11_method_17_code 3 (some .boolean) :: TT) (rmD 1) (PC D ad cA sd sv h [.ref (ad 66), .int (iZ a1), .int (iZ a2)]) (QR out) 0 0 (fun _ => False) := by
  unfold M_YearPlan_isOpenTo at hM
  refine entM (by decide +kernel) hI (Nat.le_of_ble_eq_true rfl) ?_
  intro p e s m args below meth c C hr hlk hP ls hl
  have C : Cx p s m args c prog_11_method_17_code 3 "FeastBook$YearPlan" D ad cA sd sv (FA ad) := C
  have hl : lv_has ls 3 [(0, .ref (ad 66)), (1, .int (iZ a1)), (2, .int (iZ a2))] := hl
  refine m_aload_n C hl 0 d_YearPlan_isOpenTo_0 rfl rfl ?_
  refine m_iload_n C hl 2 d_YearPlan_isOpenTo_1 rfl rfl ?_
  obtain ⟨x2, e1, hM⟩ := bnd_some hM
  refine aftR (runV C hP va_S.rf kc_YearPlan sh_66 (Nat.le_of_ble_eq_true rfl) (c_YearPlan_hasDay hI e1) lk_YearPlan_69 mb_YearPlan_hasDay rfl ⟨Nat.le_of_ble_eq_true rfl, Nat.le_of_ble_eq_true rfl⟩ ⟨Nat.zero_le _, Nat.zero_le _⟩ (Nat.le_of_ble_eq_true rfl) d_YearPlan_isOpenTo_2 hl.1 (rest := []) rfl) ?_
  refine m_if_eq C hM 66 d_YearPlan_isOpenTo_5 (by decide) (fun hM => ?_) (fun hM => ?_)
  · refine m_iconst C d_YearPlan_isOpenTo_66 ?_
    exact m_zretR C hr hlk hM d_YearPlan_isOpenTo_67
  · refine m_aload_n C hl 0 d_YearPlan_isOpenTo_8 rfl rfl ?_
    refine m_getr C hP kc_YearPlan sh_66 (Nat.le_of_ble_eq_true rfl) 7 68 rfl (by decide) fk_YearPlan_15 d_YearPlan_isOpenTo_9 ?_
    refine m_iload_n C hl 2 d_YearPlan_isOpenTo_12 rfl rfl ?_
    refine m_iald C hP sh_68 (Nat.le_of_ble_eq_true rfl) (Nat.le_of_ble_eq_true rfl) hM d_YearPlan_isOpenTo_13 (fun x3 hM => ?_)
    obtain ⟨x5, e4, hM⟩ := bnd_some hM
    refine aftR (runS C hP va_S.rf (c_Cl_kindIn hI e4) lk_YearPlan_162 mb_Cl_kindIn rfl ⟨Nat.le_of_ble_eq_true rfl, Nat.le_of_ble_eq_true rfl⟩ ⟨Nat.zero_le _, Nat.zero_le _⟩ (Nat.le_of_ble_eq_true rfl) d_YearPlan_isOpenTo_14 hl.1 (rest := []) rfl) ?_
    refine m_iconst C d_YearPlan_isOpenTo_17 ?_
    refine m_icmp_eq C hM 66 d_YearPlan_isOpenTo_18 (by decide) (fun hM => ?_) (fun hM => ?_)
    · refine m_iconst C d_YearPlan_isOpenTo_66 ?_
      exact m_zretR C hr hlk hM d_YearPlan_isOpenTo_67
    · refine m_aload_n C hl 0 d_YearPlan_isOpenTo_21 rfl rfl ?_
      refine m_getr C hP kc_YearPlan sh_66 (Nat.le_of_ble_eq_true rfl) 6 67 rfl (by decide) fk_YearPlan_9 d_YearPlan_isOpenTo_22 ?_
      refine m_iload_n C hl 2 d_YearPlan_isOpenTo_25 rfl rfl ?_
      refine m_iald C hP sh_67 (Nat.le_of_ble_eq_true rfl) (Nat.le_of_ble_eq_true rfl) hM d_YearPlan_isOpenTo_26 (fun x6 hM => ?_)
      obtain ⟨x8, e7, hM⟩ := bnd_some hM
      refine aftR (runS C hP va_S.rf (c_Cl_rankIn hI e7) lk_YearPlan_188 mb_Cl_rankIn rfl ⟨Nat.le_of_ble_eq_true rfl, Nat.le_of_ble_eq_true rfl⟩ ⟨Nat.zero_le _, Nat.zero_le _⟩ (Nat.le_of_ble_eq_true rfl) d_YearPlan_isOpenTo_27 hl.1 (rest := []) rfl) ?_
      refine m_aload_n C hl 0 d_YearPlan_isOpenTo_30 rfl rfl ?_
      refine m_getr C hP kc_YearPlan sh_66 (Nat.le_of_ble_eq_true rfl) 1 33 rfl (by decide) fk_YearPlan_40 d_YearPlan_isOpenTo_31 ?_
      refine m_getr C hP kc_Feasts sh_33 (Nat.le_of_ble_eq_true rfl) 1 34 rfl (by decide) fk_YearPlan_191 d_YearPlan_isOpenTo_34 ?_
      refine m_iload_n C hl 1 d_YearPlan_isOpenTo_37 rfl rfl ?_
      refine m_iald C hP sh_34 (Nat.le_of_ble_eq_true rfl) (Nat.le_of_ble_eq_true rfl) hM d_YearPlan_isOpenTo_38 (fun x9 hM => ?_)
      refine m_icmp_ge C hM 66 d_YearPlan_isOpenTo_39 (by decide) (fun hM => ?_) (fun hM => ?_)
      · refine m_iconst C d_YearPlan_isOpenTo_66 ?_
        exact m_zretR C hr hlk hM d_YearPlan_isOpenTo_67
      · refine m_aload_n C hl 0 d_YearPlan_isOpenTo_42 rfl rfl ?_
        refine m_getr C hP kc_YearPlan sh_66 (Nat.le_of_ble_eq_true rfl) 0 23 rfl (by decide) fk_YearPlan_30 d_YearPlan_isOpenTo_43 ?_
        refine m_getr C hP kc_Book sh_23 (Nat.le_of_ble_eq_true rfl) 16 29 rfl (by decide) fk_YearPlan_194 d_YearPlan_isOpenTo_46 ?_
        refine m_iload_n C hl 2 d_YearPlan_isOpenTo_49 rfl rfl ?_
        refine m_aload_n C hl 0 d_YearPlan_isOpenTo_50 rfl rfl ?_
        refine m_geti C hP kc_YearPlan sh_66 (Nat.le_of_ble_eq_true rfl) 5 rfl (by decide) fk_YearPlan_58 d_YearPlan_isOpenTo_51 ?_
        refine m_isub C d_YearPlan_isOpenTo_54 ?_
        obtain ⟨x11, e10, hM⟩ := bnd_some hM
        refine aftR (runV C hP va_S.rf kc_Spans sh_29 (Nat.le_of_ble_eq_true rfl) (c_Spans_lastWith hI (Or.inr (Or.inr (Or.inr (Or.inl rfl)))) e10) lk_YearPlan_198 mb_Spans_lastWith rfl ⟨Nat.le_of_ble_eq_true rfl, Nat.le_of_ble_eq_true rfl⟩ ⟨Nat.zero_le _, Nat.zero_le _⟩ (Nat.le_of_ble_eq_true rfl) d_YearPlan_isOpenTo_55 hl.1 (rest := []) rfl) ?_
        refine m_iconst C d_YearPlan_isOpenTo_58 ?_
        refine m_icmp_ne C hM 66 d_YearPlan_isOpenTo_59 (by decide) (fun hM => ?_) (fun hM => ?_)
        · refine m_iconst C d_YearPlan_isOpenTo_66 ?_
          exact m_zretR C hr hlk hM d_YearPlan_isOpenTo_67
        · refine m_iconst C d_YearPlan_isOpenTo_62 ?_
          refine m_goto C 67 d_YearPlan_isOpenTo_63 (by decide) ?_
          exact m_zretR C hr hlk hM d_YearPlan_isOpenTo_67
def y_YearPlan_seekDay : MethodName := ⟨"FeastBook$YearPlan", "seekDay", "(II)V"⟩
theorem d_YearPlan_seekDay_0 : decode prog_11_method_16_code 0 = .ok (.iconst 1, 1) := by decide +kernel
theorem d_YearPlan_seekDay_1 : decode prog_11_method_16_code 1 = .ok (.istore_n 3, 1) := by decide +kernel
theorem d_YearPlan_seekDay_2 : decode prog_11_method_16_code 2 = .ok (.iload_n 3, 1) := by decide +kernel
theorem d_YearPlan_seekDay_3 : decode prog_11_method_16_code 3 = .ok (.aload_n 0, 1) := by decide +kernel
theorem d_YearPlan_seekDay_4 : decode prog_11_method_16_code 4 = .ok (.getfield 30, 3) := by decide +kernel
theorem d_YearPlan_seekDay_7 : decode prog_11_method_16_code 7 = .ok (.getfield 181, 3) := by decide +kernel
theorem d_YearPlan_seekDay_10 : decode prog_11_method_16_code 10 = .ok (.if_icmp .gt 40, 3) := by decide +kernel
theorem d_YearPlan_seekDay_13 : decode prog_11_method_16_code 13 = .ok (.aload_n 0, 1) := by decide +kernel
theorem d_YearPlan_seekDay_14 : decode prog_11_method_16_code 14 = .ok (.getfield 18, 3) := by decide +kernel
theorem d_YearPlan_seekDay_17 : decode prog_11_method_16_code 17 = .ok (.iload_n 1, 1) := by decide +kernel
theorem d_YearPlan_seekDay_18 : decode prog_11_method_16_code 18 = .ok (.iaload, 1) := by decide +kernel
theorem d_YearPlan_seekDay_19 : decode prog_11_method_16_code 19 = .ok (.iload_n 3, 1) := by decide +kernel
theorem d_YearPlan_seekDay_20 : decode prog_11_method_16_code 20 = .ok (.iload_n 2, 1) := by decide +kernel
theorem d_YearPlan_seekDay_21 : decode prog_11_method_16_code 21 = .ok (.imul, 1) := by decide +kernel
theorem d_YearPlan_seekDay_22 : decode prog_11_method_16_code 22 = .ok (.iadd, 1) := by decide +kernel
theorem d_YearPlan_seekDay_23 : decode prog_11_method_16_code 23 = .ok (.istore 4, 2) := by decide +kernel
theorem d_YearPlan_seekDay_25 : decode prog_11_method_16_code 25 = .ok (.aload_n 0, 1) := by decide +kernel
theorem d_YearPlan_seekDay_26 : decode prog_11_method_16_code 26 = .ok (.iload_n 1, 1) := by decide +kernel
theorem d_YearPlan_seekDay_27 : decode prog_11_method_16_code 27 = .ok (.iload 4, 2) := by decide +kernel
theorem d_YearPlan_seekDay_29 : decode prog_11_method_16_code 29 = .ok (.invokevirtual 184, 3) := by decide +kernel
theorem d_YearPlan_seekDay_32 : decode prog_11_method_16_code 32 = .ok (.ifCond .eq 12, 3) := by decide +kernel
theorem d_YearPlan_seekDay_35 : decode prog_11_method_16_code 35 = .ok (.aload_n 0, 1) := by decide +kernel
theorem d_YearPlan_seekDay_36 : decode prog_11_method_16_code 36 = .ok (.iload_n 1, 1) := by decide +kernel
theorem d_YearPlan_seekDay_37 : decode prog_11_method_16_code 37 = .ok (.iload 4, 2) := by decide +kernel
theorem d_YearPlan_seekDay_39 : decode prog_11_method_16_code 39 = .ok (.iconst 1, 1) := by decide +kernel
theorem d_YearPlan_seekDay_40 : decode prog_11_method_16_code 40 = .ok (.invokevirtual 158, 3) := by decide +kernel
theorem d_YearPlan_seekDay_43 : decode prog_11_method_16_code 43 = .ok (.return_, 1) := by decide +kernel
theorem d_YearPlan_seekDay_44 : decode prog_11_method_16_code 44 = .ok (.iinc 3 1, 3) := by decide +kernel
theorem d_YearPlan_seekDay_47 : decode prog_11_method_16_code 47 = .ok (.goto (-45), 3) := by decide +kernel
theorem d_YearPlan_seekDay_50 : decode prog_11_method_16_code 50 = .ok (.aload_n 0, 1) := by decide +kernel
theorem d_YearPlan_seekDay_51 : decode prog_11_method_16_code 51 = .ok (.getfield 27, 3) := by decide +kernel
theorem d_YearPlan_seekDay_54 : decode prog_11_method_16_code 54 = .ok (.iload_n 1, 1) := by decide +kernel
theorem d_YearPlan_seekDay_55 : decode prog_11_method_16_code 55 = .ok (.iconst 4, 1) := by decide +kernel
theorem d_YearPlan_seekDay_56 : decode prog_11_method_16_code 56 = .ok (.iastore, 1) := by decide +kernel
theorem d_YearPlan_seekDay_57 : decode prog_11_method_16_code 57 = .ok (.return_, 1) := by decide +kernel
theorem mb_YearPlan_isOpenTo : MBv R_YearPlan y_YearPlan_isOpenTo prog_11_method_17_code 3 (some .boolean) 2 := ⟨mT6 23 (by decide +kernel) (by decide +kernel), mT6 24 (by decide +kernel) (by decide +kernel), mT1 8 (by decide +kernel) (by decide +kernel), mT6 25 (by decide +kernel) (by decide +kernel), by decide, rfl, by decide +kernel, by decide +kernel, by decide +kernel⟩
theorem fk_YearPlan_181 : Cond.fieldLink "FeastBook$YearPlan" 181 (T_Book 10).1 (T_Book 10).2.1 (T_Book 10).2.2.1 ∈ TT := mT1 179 (by decide +kernel) (by decide +kernel)
theorem lk_YearPlan_184 : Cond.methodLink "FeastBook$YearPlan" 184 y_YearPlan_isOpenTo ∈ TT := mT6 22 (by decide +kernel) (by decide +kernel)
set_option maxHeartbeats 4000000 in
set_option maxRecDepth 100000 in
theorem w_YearPlan_seekDay_L2 {p : Program} {l : Launch} {e : Env} {s : State} {m : MethodId} {args : Array Value} {below : List Frame} {meth : Method} {c : Code} {D : va_G} {ad : Nat → Nat} {cA : Nat → ClassId} {sd sv : Nat → Nat} {out : Hp} (N : Nat) (hI : Inj97 ad) (C : Cx p s m args c prog_11_method_16_code 5 "FeastBook$YearPlan" D ad cA sd sv (FA ad)) (hr : meth.sig.returnType = none) (hlk : meth.locks = false) (v1 v2 : Int) (h : Hp) (H : Heap) (locs : List Loc) (w : Wd s D ad cA (FA ad) h H locs) : ∀ (n : Nat) (v3 : Int), ∀ ls : Array Slot, lv_has ls 5 [(0, .ref (ad 66)), (1, .int (iZ v1)), (2, .int (iZ v2)), (3, .int (iZ v3))] → YearPlan_seekDay_L2 N h v1 v2 n v3 = some out → W p l e (rmD 2) s m args below meth c H locs 0 0 (MQ below (QV D ad cA out) args s 0 0 (FA ad)) (F0 m 2 ls []) := by
  intro n
  induction n with
  | zero =>
    intro v3 ls hl hM
    rw [YearPlan_seekDay_L2] at hM
    cases hM
  | succ n ih =>
    intro v3 ls hl hM
    rw [YearPlan_seekDay_L2] at hM
    refine m_iload_n C hl 3 d_YearPlan_seekDay_2 rfl rfl ?_
    refine m_aload_n C hl 0 d_YearPlan_seekDay_3 rfl rfl ?_
    refine m_getr C w.1 kc_YearPlan sh_66 (Nat.le_of_ble_eq_true rfl) 0 23 rfl (by decide) fk_YearPlan_30 d_YearPlan_seekDay_4 ?_
    refine m_geti C w.1 kc_Book sh_23 (Nat.le_of_ble_eq_true rfl) 10 rfl (by decide) fk_YearPlan_181 d_YearPlan_seekDay_7 ?_
    refine m_icmp_gt C hM 50 d_YearPlan_seekDay_10 (by decide) (fun hM => ?_) (fun hM => ?_)
    · refine m_aload_n C hl 0 d_YearPlan_seekDay_50 rfl rfl ?_
      refine m_getr C w.1 kc_YearPlan sh_66 (Nat.le_of_ble_eq_true rfl) 11 72 rfl (by decide) fk_YearPlan_27 d_YearPlan_seekDay_51 ?_
      refine m_iload_n C hl 1 d_YearPlan_seekDay_54 rfl rfl ?_
      refine m_iconst C d_YearPlan_seekDay_55 ?_
      refine m_iast C w sh_72 (Nat.le_of_ble_eq_true rfl) (Nat.le_of_ble_eq_true rfl) hM d_YearPlan_seekDay_56 (fun h1 H locs w hM => ?_)
      exact m_vretW C w hr hlk hM d_YearPlan_seekDay_57
    · refine m_aload_n C hl 0 d_YearPlan_seekDay_13 rfl rfl ?_
      refine m_getr C w.1 kc_YearPlan sh_66 (Nat.le_of_ble_eq_true rfl) 8 69 rfl (by decide) fk_YearPlan_18 d_YearPlan_seekDay_14 ?_
      refine m_iload_n C hl 1 d_YearPlan_seekDay_17 rfl rfl ?_
      refine m_iald C w.1 sh_69 (Nat.le_of_ble_eq_true rfl) (Nat.le_of_ble_eq_true rfl) hM d_YearPlan_seekDay_18 (fun x2 hM => ?_)
      refine m_iload_n C hl 3 d_YearPlan_seekDay_19 rfl rfl ?_
      refine m_iload_n C hl 2 d_YearPlan_seekDay_20 rfl rfl ?_
      refine m_imul C d_YearPlan_seekDay_21 ?_
      refine m_iadd C d_YearPlan_seekDay_22 ?_
      refine m_istore C hl [(4, .int (iZ (x2 + (v3 * v2)))), (0, .ref (ad 66)), (1, .int (iZ v1)), (2, .int (iZ v2)), (3, .int (iZ v3))] d_YearPlan_seekDay_23 (by decide) rfl (fun ls hl => ?_)
      refine m_aload_n C hl 1 d_YearPlan_seekDay_25 rfl rfl ?_
      refine m_iload_n C hl 2 d_YearPlan_seekDay_26 rfl rfl ?_
      refine m_iload C hl 0 d_YearPlan_seekDay_27 rfl ?_
      obtain ⟨x4, e3, hM⟩ := bnd_some hM
      refine aftR (runV C w.1 w.2 kc_YearPlan sh_66 (Nat.le_of_ble_eq_true rfl) (c_YearPlan_isOpenTo hI e3) lk_YearPlan_184 mb_YearPlan_isOpenTo rfl ⟨Nat.le_of_ble_eq_true rfl, Nat.le_of_ble_eq_true rfl⟩ ⟨Nat.zero_le _, Nat.zero_le _⟩ (Nat.le_of_ble_eq_true rfl) d_YearPlan_seekDay_29 hl.1 (rest := []) rfl) ?_
      refine m_if_eq C hM 44 d_YearPlan_seekDay_32 (by decide) (fun hM => ?_) (fun hM => ?_)
      · refine m_iinc C hl 4 [(3, .int (iZ (v3 + 1))), (4, .int (iZ (x2 + (v3 * v2)))), (0, .ref (ad 66)), (1, .int (iZ v1)), (2, .int (iZ v2))] d_YearPlan_seekDay_44 rfl (by decide) rfl (fun ls hl => ?_)
        refine m_goto C 2 d_YearPlan_seekDay_47 (by decide) ?_
        exact ih (v3 + 1) _ (lv_sub hl [2, 3, 4, 0] rfl) hM
      · refine m_aload_n C hl 1 d_YearPlan_seekDay_35 rfl rfl ?_
        refine m_iload_n C hl 2 d_YearPlan_seekDay_36 rfl rfl ?_
        refine m_iload C hl 0 d_YearPlan_seekDay_37 rfl ?_
        refine m_iconst C d_YearPlan_seekDay_39 ?_
        obtain ⟨h6, e5, hM⟩ := bnd_some hM
        refine aftV C w (runV C w.1 w.2 kc_YearPlan sh_66 (Nat.le_of_ble_eq_true rfl) (c_YearPlan_hold hI e5) lk_YearPlan_158 mb_YearPlan_hold rfl ⟨Nat.le_of_ble_eq_true rfl, Nat.le_of_ble_eq_true rfl⟩ ⟨Nat.zero_le _, Nat.zero_le _⟩ (Nat.le_of_ble_eq_true rfl) d_YearPlan_seekDay_40 hl.1 (rest := []) rfl) (fun H locs w => ?_)
        exact m_vretW C w hr hlk hM d_YearPlan_seekDay_43
set_option maxHeartbeats 4000000 in
set_option maxRecDepth 100000 in
theorem c_YearPlan_seekDay {l : Launch} {D : va_G} {ad : Nat → Nat} {cA : Nat → ClassId} {sd sv : Nat → Nat} {h : Hp} {N : Nat} {a1 a2 : Int} {out : Hp} (hI : Inj97 ad) (hM : M_YearPlan_seekDay N h a1 a2 = some out) : Met l y_YearPlan_seekDay (.code y_YearPlan_seekDay prog_11_method_16_code 5 none :: TT) (rmD 2) (PC D ad cA sd sv h [.ref (ad 66), .int (iZ a1), .int (iZ a2)]) (QV D ad cA out) 0 0 (FA ad) := by
  unfold M_YearPlan_seekDay at hM
  refine entM (by decide +kernel) hI (Nat.le_of_ble_eq_true rfl) ?_
  intro p e s m args below meth c C hr hlk hP ls hl
  have C : Cx p s m args c prog_11_method_16_code 5 "FeastBook$YearPlan" D ad cA sd sv (FA ad) := C
  have hl : lv_has ls 5 [(0, .ref (ad 66)), (1, .int (iZ a1)), (2, .int (iZ a2))] := hl
  have w : Wd s D ad cA (FA ad) h s.heap [] := ⟨hP, va_S.rf⟩
  refine m_iconst C d_YearPlan_seekDay_0 ?_
  refine m_istore_n C hl [(3, .int (iZ 1)), (0, .ref (ad 66)), (1, .int (iZ a1)), (2, .int (iZ a2))] d_YearPlan_seekDay_1 rfl (by decide) rfl (fun ls hl => ?_)
  exact w_YearPlan_seekDay_L2 N hI C hr hlk a1 a2 h _ _ w _ 1 _ (lv_sub hl [1, 2, 3, 0] rfl) hM
def y_YearPlan_joinedTo : MethodName := ⟨"FeastBook$YearPlan", "joinedTo", "(I)I"⟩
theorem d_YearPlan_joinedTo_0 : decode prog_11_method_18_code 0 = .ok (.iconst 0, 1) := by decide +kernel
theorem d_YearPlan_joinedTo_1 : decode prog_11_method_18_code 1 = .ok (.istore_n 2, 1) := by decide +kernel
theorem d_YearPlan_joinedTo_2 : decode prog_11_method_18_code 2 = .ok (.iconst 0, 1) := by decide +kernel
theorem d_YearPlan_joinedTo_3 : decode prog_11_method_18_code 3 = .ok (.istore_n 3, 1) := by decide +kernel
theorem d_YearPlan_joinedTo_4 : decode prog_11_method_18_code 4 = .ok (.iload_n 3, 1) := by decide +kernel
theorem d_YearPlan_joinedTo_5 : decode prog_11_method_18_code 5 = .ok (.aload_n 0, 1) := by decide +kernel
theorem d_YearPlan_joinedTo_6 : decode prog_11_method_18_code 6 = .ok (.getfield 40, 3) := by decide +kernel
theorem d_YearPlan_joinedTo_9 : decode prog_11_method_18_code 9 = .ok (.getfield 61, 3) := by decide +kernel
theorem d_YearPlan_joinedTo_12 : decode prog_11_method_18_code 12 = .ok (.if_icmp .ge 35, 3) := by decide +kernel
theorem d_YearPlan_joinedTo_15 : decode prog_11_method_18_code 15 = .ok (.aload_n 0, 1) := by decide +kernel
theorem d_YearPlan_joinedTo_16 : decode prog_11_method_18_code 16 = .ok (.getfield 27, 3) := by decide +kernel
theorem d_YearPlan_joinedTo_19 : decode prog_11_method_18_code 19 = .ok (.iload_n 3, 1) := by decide +kernel
theorem d_YearPlan_joinedTo_20 : decode prog_11_method_18_code 20 = .ok (.iaload, 1) := by decide +kernel
theorem d_YearPlan_joinedTo_21 : decode prog_11_method_18_code 21 = .ok (.iconst 2, 1) := by decide +kernel
theorem d_YearPlan_joinedTo_22 : decode prog_11_method_18_code 22 = .ok (.if_icmp .ne 19, 3) := by decide +kernel
theorem d_YearPlan_joinedTo_25 : decode prog_11_method_18_code 25 = .ok (.aload_n 0, 1) := by decide +kernel
theorem d_YearPlan_joinedTo_26 : decode prog_11_method_18_code 26 = .ok (.getfield 18, 3) := by decide +kernel
theorem d_YearPlan_joinedTo_29 : decode prog_11_method_18_code 29 = .ok (.iload_n 3, 1) := by decide +kernel
theorem d_YearPlan_joinedTo_30 : decode prog_11_method_18_code 30 = .ok (.iaload, 1) := by decide +kernel
theorem d_YearPlan_joinedTo_31 : decode prog_11_method_18_code 31 = .ok (.iload_n 1, 1) := by decide +kernel
theorem d_YearPlan_joinedTo_32 : decode prog_11_method_18_code 32 = .ok (.if_icmp .ne 9, 3) := by decide +kernel
theorem d_YearPlan_joinedTo_35 : decode prog_11_method_18_code 35 = .ok (.iload_n 2, 1) := by decide +kernel
theorem d_YearPlan_joinedTo_36 : decode prog_11_method_18_code 36 = .ok (.iconst 1, 1) := by decide +kernel
theorem d_YearPlan_joinedTo_37 : decode prog_11_method_18_code 37 = .ok (.iload_n 3, 1) := by decide +kernel
theorem d_YearPlan_joinedTo_38 : decode prog_11_method_18_code 38 = .ok (.ishl, 1) := by decide +kernel
theorem d_YearPlan_joinedTo_39 : decode prog_11_method_18_code 39 = .ok (.ior, 1) := by decide +kernel
theorem d_YearPlan_joinedTo_40 : decode prog_11_method_18_code 40 = .ok (.istore_n 2, 1) := by decide +kernel
theorem d_YearPlan_joinedTo_41 : decode prog_11_method_18_code 41 = .ok (.iinc 3 1, 3) := by decide +kernel
theorem d_YearPlan_joinedTo_44 : decode prog_11_method_18_code 44 = .ok (.goto (-40), 3) := by decide +kernel
theorem d_YearPlan_joinedTo_47 : decode prog_11_method_18_code 47 = .ok (.iload_n 2, 1) := by decide +kernel
theorem d_YearPlan_joinedTo_48 : decode prog_11_method_18_code 48 = .ok (.ireturn, 1) := by decide +kernel
set_option maxHeartbeats 4000000 in
set_option maxRecDepth 100000 in
theorem w_YearPlan_joinedTo_L4 {p : Program} {l : Launch} {e : Env} {s : State} {m : MethodId} {args : Array Value} {below : List Frame} {meth : Method} {c : Code} {D : va_G} {ad : Nat → Nat} {cA : Nat → ClassId} {sd sv : Nat → Nat} {out : Int} (N : Nat) (hI : Inj97 ad) (C : Cx p s m args c prog_11_method_18_code 4 "FeastBook$YearPlan" D ad cA sd sv (FA ad)) (hr : meth.sig.returnType = (some .int)) (hlk : meth.locks = false) (v1 : Int) (h : Hp) (hP : va_P D clL (wl ad cA h) s.heap) : ∀ (n : Nat) (v2 v3 : Int), ∀ ls : Array Slot, lv_has ls 4 [(0, .ref (ad 66)), (1, .int (iZ v1)), (2, .int (iZ v2)), (3, .int (iZ v3))] → YearPlan_joinedTo_L4 N h v1 n v2 v3 = some out → W p l e (rmD 0) s m args below meth c s.heap [] 0 0 (MQ below (QR out) args s 0 0 (fun _ => False)) (F0 m 4 ls []) := by
  intro n
  induction n with
  | zero =>
    intro v2 v3 ls hl hM
    rw [YearPlan_joinedTo_L4] at hM
    cases hM
  | succ n ih =>
    intro v2 v3 ls hl hM
    rw [YearPlan_joinedTo_L4] at hM
    refine m_iload_n C hl 3 d_YearPlan_joinedTo_4 rfl rfl ?_
    refine m_aload_n C hl 0 d_YearPlan_joinedTo_5 rfl rfl ?_
    refine m_getr C hP kc_YearPlan sh_66 (Nat.le_of_ble_eq_true rfl) 1 33 rfl (by decide) fk_YearPlan_40 d_YearPlan_joinedTo_6 ?_
    refine m_geti C hP kc_Feasts sh_33 (Nat.le_of_ble_eq_true rfl) 0 rfl (by decide) fk_YearPlan_61 d_YearPlan_joinedTo_9 ?_
    refine m_icmp_ge C hM 47 d_YearPlan_joinedTo_12 (by decide) (fun hM => ?_) (fun hM => ?_)
    · refine m_iload_n C hl 2 d_YearPlan_joinedTo_47 rfl rfl ?_
      exact m_iretR C hr hlk hM d_YearPlan_joinedTo_48
    · refine m_aload_n C hl 0 d_YearPlan_joinedTo_15 rfl rfl ?_
      refine m_getr C hP kc_YearPlan sh_66 (Nat.le_of_ble_eq_true rfl) 11 72 rfl (by decide) fk_YearPlan_27 d_YearPlan_joinedTo_16 ?_
      refine m_iload_n C hl 3 d_YearPlan_joinedTo_19 rfl rfl ?_
      refine m_iald C hP sh_72 (Nat.le_of_ble_eq_true rfl) (Nat.le_of_ble_eq_true rfl) hM d_YearPlan_joinedTo_20 (fun x1 hM => ?_)
      refine m_iconst C d_YearPlan_joinedTo_21 ?_
      refine m_icmp_ne C hM 41 d_YearPlan_joinedTo_22 (by decide) (fun hM => ?_) (fun hM => ?_)
      · refine m_iinc C hl 3 [(3, .int (iZ (v3 + 1))), (0, .ref (ad 66)), (1, .int (iZ v1)), (2, .int (iZ v2))] d_YearPlan_joinedTo_41 rfl (by decide) rfl (fun ls hl => ?_)
        refine m_goto C 4 d_YearPlan_joinedTo_44 (by decide) ?_
        exact ih v2 (v3 + 1) _ (lv_sub hl [1, 2, 3, 0] rfl) hM
      · refine m_aload_n C hl 0 d_YearPlan_joinedTo_25 rfl rfl ?_
        refine m_getr C hP kc_YearPlan sh_66 (Nat.le_of_ble_eq_true rfl) 8 69 rfl (by decide) fk_YearPlan_18 d_YearPlan_joinedTo_26 ?_
        refine m_iload_n C hl 3 d_YearPlan_joinedTo_29 rfl rfl ?_
        refine m_iald C hP sh_69 (Nat.le_of_ble_eq_true rfl) (Nat.le_of_ble_eq_true rfl) hM d_YearPlan_joinedTo_30 (fun x2 hM => ?_)
        refine m_iload_n C hl 1 d_YearPlan_joinedTo_31 rfl rfl ?_
        refine m_icmp_ne C hM 41 d_YearPlan_joinedTo_32 (by decide) (fun hM => ?_) (fun hM => ?_)
        · refine m_iinc C hl 3 [(3, .int (iZ (v3 + 1))), (0, .ref (ad 66)), (1, .int (iZ v1)), (2, .int (iZ v2))] d_YearPlan_joinedTo_41 rfl (by decide) rfl (fun ls hl => ?_)
          refine m_goto C 4 d_YearPlan_joinedTo_44 (by decide) ?_
          exact ih v2 (v3 + 1) _ (lv_sub hl [1, 2, 3, 0] rfl) hM
        · refine m_iload_n C hl 2 d_YearPlan_joinedTo_35 rfl rfl ?_
          refine m_iconst C d_YearPlan_joinedTo_36 ?_
          refine m_iload_n C hl 3 d_YearPlan_joinedTo_37 rfl rfl ?_
          refine m_ishl C d_YearPlan_joinedTo_38 ?_
          refine m_ior C d_YearPlan_joinedTo_39 ?_
          refine m_istore_n C hl [(2, .int (iZ (orI v2 (shlI 1 v3)))), (0, .ref (ad 66)), (1, .int (iZ v1)), (3, .int (iZ v3))] d_YearPlan_joinedTo_40 rfl (by decide) rfl (fun ls hl => ?_)
          refine m_iinc C hl 3 [(3, .int (iZ (v3 + 1))), (2, .int (iZ (orI v2 (shlI 1 v3)))), (0, .ref (ad 66)), (1, .int (iZ v1))] d_YearPlan_joinedTo_41 rfl (by decide) rfl (fun ls hl => ?_)
          refine m_goto C 4 d_YearPlan_joinedTo_44 (by decide) ?_
          exact ih (orI v2 (shlI 1 v3)) (v3 + 1) _ (lv_sub hl [2, 3, 1, 0] rfl) hM
set_option maxHeartbeats 4000000 in
set_option maxRecDepth 100000 in
theorem c_YearPlan_joinedTo {l : Launch} {D : va_G} {ad : Nat → Nat} {cA : Nat → ClassId} {sd sv : Nat → Nat} {h : Hp} {N : Nat} {a1 : Int} {out : Int} (hI : Inj97 ad) (hM : M_YearPlan_joinedTo N h a1 = some out) : Met l y_YearPlan_joinedTo (.code y_YearPlan_joinedTo prog_11_method_18_code 4 (some .int) :: TT) (rmD 0) (PC D ad cA sd sv h [.ref (ad 66), .int (iZ a1)]) (QR out) 0 0 (fun _ => False) := by
  unfold M_YearPlan_joinedTo at hM
  refine entM (by decide +kernel) hI (Nat.le_of_ble_eq_true rfl) ?_
  intro p e s m args below meth c C hr hlk hP ls hl
  have C : Cx p s m args c prog_11_method_18_code 4 "FeastBook$YearPlan" D ad cA sd sv (FA ad) := C
  have hl : lv_has ls 4 [(0, .ref (ad 66)), (1, .int (iZ a1))] := hl
  refine m_iconst C d_YearPlan_joinedTo_0 ?_
  refine m_istore_n C hl [(2, .int (iZ 0)), (0, .ref (ad 66)), (1, .int (iZ a1))] d_YearPlan_joinedTo_1 rfl (by decide) rfl (fun ls hl => ?_)
  refine m_iconst C d_YearPlan_joinedTo_2 ?_
  refine m_istore_n C hl [(3, .int (iZ 0)), (2, .int (iZ 0)), (0, .ref (ad 66)), (1, .int (iZ a1))] d_YearPlan_joinedTo_3 rfl (by decide) rfl (fun ls hl => ?_)
  exact w_YearPlan_joinedTo_L4 N hI C hr hlk a1 h hP _ 0 0 _ (lv_sub hl [2, 3, 1, 0] rfl) hM
def y_YearPlan_goByLaw : MethodName := ⟨"FeastBook$YearPlan", "goByLaw", "(I)V"⟩
theorem d_YearPlan_goByLaw_0 : decode prog_11_method_15_code 0 = .ok (.aload_n 0, 1) := by decide +kernel
theorem d_YearPlan_goByLaw_1 : decode prog_11_method_15_code 1 = .ok (.getfield 40, 3) := by decide +kernel
theorem d_YearPlan_goByLaw_4 : decode prog_11_method_15_code 4 = .ok (.getfield 167, 3) := by decide +kernel
theorem d_YearPlan_goByLaw_7 : decode prog_11_method_15_code 7 = .ok (.iload_n 1, 1) := by decide +kernel
theorem d_YearPlan_goByLaw_8 : decode prog_11_method_15_code 8 = .ok (.iaload, 1) := by decide +kernel
theorem d_YearPlan_goByLaw_9 : decode prog_11_method_15_code 9 = .ok (.tableswitch 76 0 2 #[27, 36, 45], 27) := by decide +kernel
theorem d_YearPlan_goByLaw_36 : decode prog_11_method_15_code 36 = .ok (.aload_n 0, 1) := by decide +kernel
theorem d_YearPlan_goByLaw_37 : decode prog_11_method_15_code 37 = .ok (.iload_n 1, 1) := by decide +kernel
theorem d_YearPlan_goByLaw_38 : decode prog_11_method_15_code 38 = .ok (.iconst 1, 1) := by decide +kernel
theorem d_YearPlan_goByLaw_39 : decode prog_11_method_15_code 39 = .ok (.invokevirtual 170, 3) := by decide +kernel
theorem d_YearPlan_goByLaw_42 : decode prog_11_method_15_code 42 = .ok (.goto 50, 3) := by decide +kernel
theorem d_YearPlan_goByLaw_45 : decode prog_11_method_15_code 45 = .ok (.aload_n 0, 1) := by decide +kernel
theorem d_YearPlan_goByLaw_46 : decode prog_11_method_15_code 46 = .ok (.iload_n 1, 1) := by decide +kernel
theorem d_YearPlan_goByLaw_47 : decode prog_11_method_15_code 47 = .ok (.iconst (-1), 1) := by decide +kernel
theorem d_YearPlan_goByLaw_48 : decode prog_11_method_15_code 48 = .ok (.invokevirtual 170, 3) := by decide +kernel
theorem d_YearPlan_goByLaw_51 : decode prog_11_method_15_code 51 = .ok (.goto 41, 3) := by decide +kernel
theorem d_YearPlan_goByLaw_54 : decode prog_11_method_15_code 54 = .ok (.aload_n 0, 1) := by decide +kernel
theorem d_YearPlan_goByLaw_55 : decode prog_11_method_15_code 55 = .ok (.getfield 27, 3) := by decide +kernel
theorem d_YearPlan_goByLaw_58 : decode prog_11_method_15_code 58 = .ok (.iload_n 1, 1) := by decide +kernel
theorem d_YearPlan_goByLaw_59 : decode prog_11_method_15_code 59 = .ok (.aload_n 0, 1) := by decide +kernel
theorem d_YearPlan_goByLaw_60 : decode prog_11_method_15_code 60 = .ok (.aload_n 0, 1) := by decide +kernel
theorem d_YearPlan_goByLaw_61 : decode prog_11_method_15_code 61 = .ok (.getfield 18, 3) := by decide +kernel
theorem d_YearPlan_goByLaw_64 : decode prog_11_method_15_code 64 = .ok (.iload_n 1, 1) := by decide +kernel
theorem d_YearPlan_goByLaw_65 : decode prog_11_method_15_code 65 = .ok (.iaload, 1) := by decide +kernel
theorem d_YearPlan_goByLaw_66 : decode prog_11_method_15_code 66 = .ok (.invokevirtual 173, 3) := by decide +kernel
theorem d_YearPlan_goByLaw_69 : decode prog_11_method_15_code 69 = .ok (.invokestatic 176, 3) := by decide +kernel
theorem d_YearPlan_goByLaw_72 : decode prog_11_method_15_code 72 = .ok (.iconst 2, 1) := by decide +kernel
theorem d_YearPlan_goByLaw_73 : decode prog_11_method_15_code 73 = .ok (.if_icmp .ge 7, 3) := by decide +kernel
theorem d_YearPlan_goByLaw_76 : decode prog_11_method_15_code 76 = .ok (.iconst 2, 1) := by decide +kernel
theorem d_YearPlan_goByLaw_77 : decode prog_11_method_15_code 77 = .ok (.goto 4, 3) := by decide +kernel
theorem d_YearPlan_goByLaw_80 : decode prog_11_method_15_code 80 = .ok (.iconst 3, 1) := by decide +kernel
theorem d_YearPlan_goByLaw_81 : decode prog_11_method_15_code 81 = .ok (.iastore, 1) := by decide +kernel
theorem d_YearPlan_goByLaw_82 : decode prog_11_method_15_code 82 = .ok (.goto 10, 3) := by decide +kernel
theorem d_YearPlan_goByLaw_85 : decode prog_11_method_15_code 85 = .ok (.aload_n 0, 1) := by decide +kernel
theorem d_YearPlan_goByLaw_86 : decode prog_11_method_15_code 86 = .ok (.getfield 27, 3) := by decide +kernel
theorem d_YearPlan_goByLaw_89 : decode prog_11_method_15_code 89 = .ok (.iload_n 1, 1) := by decide +kernel
theorem d_YearPlan_goByLaw_90 : decode prog_11_method_15_code 90 = .ok (.iconst 3, 1) := by decide +kernel
theorem d_YearPlan_goByLaw_91 : decode prog_11_method_15_code 91 = .ok (.iastore, 1) := by decide +kernel
theorem d_YearPlan_goByLaw_92 : decode prog_11_method_15_code 92 = .ok (.return_, 1) := by decide +kernel
theorem mb_YearPlan_joinedTo : MBv R_YearPlan y_YearPlan_joinedTo prog_11_method_18_code 4 (some .int) 1 := ⟨mT6 31 (by decide +kernel) (by decide +kernel), mT6 32 (by decide +kernel) (by decide +kernel), mT1 8 (by decide +kernel) (by decide +kernel), mT6 33 (by decide +kernel) (by decide +kernel), by decide, rfl, by decide +kernel, by decide +kernel, by decide +kernel⟩
theorem mb_YearPlan_seekDay : MBv R_YearPlan y_YearPlan_seekDay prog_11_method_16_code 5 none 2 := ⟨mT6 19 (by decide +kernel) (by decide +kernel), mT6 20 (by decide +kernel) (by decide +kernel), mT1 8 (by decide +kernel) (by decide +kernel), mT6 21 (by decide +kernel) (by decide +kernel), by decide, rfl, by decide +kernel, by decide +kernel, by decide +kernel⟩
theorem mb_JI_bitCount : MBs y_JI_bitCount prog_25_method_49_code 1 (some .int) 1 := ⟨mT6 35 (by decide +kernel) (by decide +kernel), mT1 30 (by decide +kernel) (by decide +kernel), mT6 36 (by decide +kernel) (by decide +kernel), by decide, by decide +kernel, by decide +kernel, by decide +kernel⟩
theorem fk_YearPlan_167 : Cond.fieldLink "FeastBook$YearPlan" 167 (T_Feasts 4).1 (T_Feasts 4).2.1 (T_Feasts 4).2.2.1 ∈ TT := mT1 118 (by decide +kernel) (by decide +kernel)
theorem lk_YearPlan_170 : Cond.methodLink "FeastBook$YearPlan" 170 y_YearPlan_seekDay ∈ TT := mT6 18 (by decide +kernel) (by decide +kernel)
theorem lk_YearPlan_173 : Cond.methodLink "FeastBook$YearPlan" 173 y_YearPlan_joinedTo ∈ TT := mT6 30 (by decide +kernel) (by decide +kernel)
theorem lk_YearPlan_176 : Cond.methodLink "FeastBook$YearPlan" 176 y_JI_bitCount ∈ TT := mT6 34 (by decide +kernel) (by decide +kernel)
set_option maxHeartbeats 4000000 in
set_option maxRecDepth 100000 in
theorem c_YearPlan_goByLaw {l : Launch} {D : va_G} {ad : Nat → Nat} {cA : Nat → ClassId} {sd sv : Nat → Nat} {h : Hp} {N : Nat} {a1 : Int} {out : Hp} (hI : Inj97 ad) (hM : M_YearPlan_goByLaw N h a1 = some out) : Met l y_YearPlan_goByLaw (.code y_YearPlan_goByLaw prog_11_method_15_code 2 none :: TT) (rmD 3) (PC D ad cA sd sv h [.ref (ad 66), .int (iZ a1)]) (QV D ad cA out) 0 0 (FA ad) := by
  unfold M_YearPlan_goByLaw at hM
  refine entM (by decide +kernel) hI (Nat.le_of_ble_eq_true rfl) ?_
  intro p e s m args below meth c C hr hlk hP ls hl
  have C : Cx p s m args c prog_11_method_15_code 2 "FeastBook$YearPlan" D ad cA sd sv (FA ad) := C
  have hl : lv_has ls 2 [(0, .ref (ad 66)), (1, .int (iZ a1))] := hl
  have w : Wd s D ad cA (FA ad) h s.heap [] := ⟨hP, va_S.rf⟩
  refine m_aload_n C hl 0 d_YearPlan_goByLaw_0 rfl rfl ?_
  refine m_getr C w.1 kc_YearPlan sh_66 (Nat.le_of_ble_eq_true rfl) 1 33 rfl (by decide) fk_YearPlan_40 d_YearPlan_goByLaw_1 ?_
  refine m_getr C w.1 kc_Feasts sh_33 (Nat.le_of_ble_eq_true rfl) 4 37 rfl (by decide) fk_YearPlan_167 d_YearPlan_goByLaw_4 ?_
  refine m_iload_n C hl 1 d_YearPlan_goByLaw_7 rfl rfl ?_
  refine m_iald C w.1 sh_37 (Nat.le_of_ble_eq_true rfl) (Nat.le_of_ble_eq_true rfl) hM d_YearPlan_goByLaw_8 (fun x1 hM => ?_)
  refine m_swc 0 hM (fun ek hM => ?_) (fun hn0 hM => ?_)
  · refine lv_tableIn C.1 C.2.1 d_YearPlan_goByLaw_9 (tgt := 36) (off := 27) (by rw [ek]; decide) (by rw [ek]; decide) (by rw [ek]; rfl) (by decide) ?_
    refine m_aload_n C hl 0 d_YearPlan_goByLaw_36 rfl rfl ?_
    refine m_iload_n C hl 1 d_YearPlan_goByLaw_37 rfl rfl ?_
    refine m_iconst C d_YearPlan_goByLaw_38 ?_
    obtain ⟨h3, e2, hM⟩ := bnd_some hM
    refine aftV C w (runV C w.1 w.2 kc_YearPlan sh_66 (Nat.le_of_ble_eq_true rfl) (c_YearPlan_seekDay hI e2) lk_YearPlan_170 mb_YearPlan_seekDay rfl ⟨Nat.le_of_ble_eq_true rfl, Nat.le_of_ble_eq_true rfl⟩ ⟨Nat.zero_le _, Nat.zero_le _⟩ (Nat.le_of_ble_eq_true rfl) d_YearPlan_goByLaw_39 hl.1 (rest := []) rfl) (fun H locs w => ?_)
    refine m_goto C 92 d_YearPlan_goByLaw_42 (by decide) ?_
    exact m_vretW C w hr hlk hM d_YearPlan_goByLaw_92
  · refine m_swc 1 hM (fun ek hM => ?_) (fun hn1 hM => ?_)
    · refine lv_tableIn C.1 C.2.1 d_YearPlan_goByLaw_9 (tgt := 45) (off := 36) (by rw [ek]; decide) (by rw [ek]; decide) (by rw [ek]; rfl) (by decide) ?_
      refine m_aload_n C hl 0 d_YearPlan_goByLaw_45 rfl rfl ?_
      refine m_iload_n C hl 1 d_YearPlan_goByLaw_46 rfl rfl ?_
      refine m_iconst C d_YearPlan_goByLaw_47 ?_
      obtain ⟨h5, e4, hM⟩ := bnd_some hM
      refine aftV C w (runV C w.1 w.2 kc_YearPlan sh_66 (Nat.le_of_ble_eq_true rfl) (c_YearPlan_seekDay hI e4) lk_YearPlan_170 mb_YearPlan_seekDay rfl ⟨Nat.le_of_ble_eq_true rfl, Nat.le_of_ble_eq_true rfl⟩ ⟨Nat.zero_le _, Nat.zero_le _⟩ (Nat.le_of_ble_eq_true rfl) d_YearPlan_goByLaw_48 hl.1 (rest := []) rfl) (fun H locs w => ?_)
      refine m_goto C 92 d_YearPlan_goByLaw_51 (by decide) ?_
      exact m_vretW C w hr hlk hM d_YearPlan_goByLaw_92
    · refine m_swc 2 hM (fun ek hM => ?_) (fun hn2 hM => ?_)
      · refine lv_tableIn C.1 C.2.1 d_YearPlan_goByLaw_9 (tgt := 54) (off := 45) (by rw [ek]; decide) (by rw [ek]; decide) (by rw [ek]; rfl) (by decide) ?_
        refine m_aload_n C hl 0 d_YearPlan_goByLaw_54 rfl rfl ?_
        refine m_getr C w.1 kc_YearPlan sh_66 (Nat.le_of_ble_eq_true rfl) 11 72 rfl (by decide) fk_YearPlan_27 d_YearPlan_goByLaw_55 ?_
        refine m_iload_n C hl 1 d_YearPlan_goByLaw_58 rfl rfl ?_
        refine m_aload_n C hl 0 d_YearPlan_goByLaw_59 rfl rfl ?_
        refine m_aload_n C hl 0 d_YearPlan_goByLaw_60 rfl rfl ?_
        refine m_getr C w.1 kc_YearPlan sh_66 (Nat.le_of_ble_eq_true rfl) 8 69 rfl (by decide) fk_YearPlan_18 d_YearPlan_goByLaw_61 ?_
        refine m_iload_n C hl 1 d_YearPlan_goByLaw_64 rfl rfl ?_
        refine m_iald C w.1 sh_69 (Nat.le_of_ble_eq_true rfl) (Nat.le_of_ble_eq_true rfl) hM d_YearPlan_goByLaw_65 (fun x6 hM => ?_)
        obtain ⟨x8, e7, hM⟩ := bnd_some hM
        refine aftR (runV C w.1 w.2 kc_YearPlan sh_66 (Nat.le_of_ble_eq_true rfl) (c_YearPlan_joinedTo hI e7) lk_YearPlan_173 mb_YearPlan_joinedTo rfl ⟨Nat.le_of_ble_eq_true rfl, Nat.le_of_ble_eq_true rfl⟩ ⟨Nat.zero_le _, Nat.zero_le _⟩ (Nat.le_of_ble_eq_true rfl) d_YearPlan_goByLaw_66 hl.1 (rest := [.int (iZ a1), .ref (ad 72)]) rfl) ?_
        obtain ⟨x10, e9, hM⟩ := bnd_some hM
        refine aftR (runS C w.1 w.2 (c_JI_bitCount hI e9) lk_YearPlan_176 mb_JI_bitCount rfl ⟨Nat.le_of_ble_eq_true rfl, Nat.le_of_ble_eq_true rfl⟩ ⟨Nat.zero_le _, Nat.zero_le _⟩ (Nat.le_of_ble_eq_true rfl) d_YearPlan_goByLaw_69 hl.1 (rest := [.int (iZ a1), .ref (ad 72)]) rfl) ?_
        refine m_iconst C d_YearPlan_goByLaw_72 ?_
        refine m_icmp_ge C hM 80 d_YearPlan_goByLaw_73 (by decide) (fun hM => ?_) (fun hM => ?_)
        · refine m_iconst C d_YearPlan_goByLaw_80 ?_
          refine m_iast C w sh_72 (Nat.le_of_ble_eq_true rfl) (Nat.le_of_ble_eq_true rfl) hM d_YearPlan_goByLaw_81 (fun h11 H locs w hM => ?_)
          refine m_goto C 92 d_YearPlan_goByLaw_82 (by decide) ?_
          exact m_vretW C w hr hlk hM d_YearPlan_goByLaw_92
        · refine m_iconst C d_YearPlan_goByLaw_76 ?_
          refine m_goto C 81 d_YearPlan_goByLaw_77 (by decide) ?_
          refine m_iast C w sh_72 (Nat.le_of_ble_eq_true rfl) (Nat.le_of_ble_eq_true rfl) hM d_YearPlan_goByLaw_81 (fun h12 H locs w hM => ?_)
          refine m_goto C 92 d_YearPlan_goByLaw_82 (by decide) ?_
          exact m_vretW C w hr hlk hM d_YearPlan_goByLaw_92
      · refine lv_tableOut C.1 C.2.1 d_YearPlan_goByLaw_9 (tgt := 85) ?_ (by decide) ?_
        · have g0 := lv_neT hn0 (show (iZ 0).toInt = 0 from rfl); have g1 := lv_neT hn1 (show (iZ 1).toInt = 1 from rfl); have g2 := lv_neT hn2 (show (iZ 2).toInt = 2 from rfl); omega
        · refine m_aload_n C hl 0 d_YearPlan_goByLaw_85 rfl rfl ?_
          refine m_getr C w.1 kc_YearPlan sh_66 (Nat.le_of_ble_eq_true rfl) 11 72 rfl (by decide) fk_YearPlan_27 d_YearPlan_goByLaw_86 ?_
          refine m_iload_n C hl 1 d_YearPlan_goByLaw_89 rfl rfl ?_
          refine m_iconst C d_YearPlan_goByLaw_90 ?_
          refine m_iast C w sh_72 (Nat.le_of_ble_eq_true rfl) (Nat.le_of_ble_eq_true rfl) hM d_YearPlan_goByLaw_91 (fun h13 H locs w hM => ?_)
          exact m_vretW C w hr hlk hM d_YearPlan_goByLaw_92
def y_YearPlan_settle : MethodName := ⟨"FeastBook$YearPlan", "settle", "(I)V"⟩
theorem d_YearPlan_settle_0 : decode prog_11_method_8_code 0 = .ok (.aload_n 0, 1) := by decide +kernel
theorem d_YearPlan_settle_1 : decode prog_11_method_8_code 1 = .ok (.iload_n 1, 1) := by decide +kernel
theorem d_YearPlan_settle_2 : decode prog_11_method_8_code 2 = .ok (.invokevirtual 97, 3) := by decide +kernel
theorem d_YearPlan_settle_5 : decode prog_11_method_8_code 5 = .ok (.aload_n 0, 1) := by decide +kernel
theorem d_YearPlan_settle_6 : decode prog_11_method_8_code 6 = .ok (.getfield 45, 3) := by decide +kernel
theorem d_YearPlan_settle_9 : decode prog_11_method_8_code 9 = .ok (.iload_n 1, 1) := by decide +kernel
theorem d_YearPlan_settle_10 : decode prog_11_method_8_code 10 = .ok (.if_icmp .ne 4, 3) := by decide +kernel
theorem d_YearPlan_settle_13 : decode prog_11_method_8_code 13 = .ok (.return_, 1) := by decide +kernel
theorem d_YearPlan_settle_14 : decode prog_11_method_8_code 14 = .ok (.aload_n 0, 1) := by decide +kernel
theorem d_YearPlan_settle_15 : decode prog_11_method_8_code 15 = .ok (.iload_n 1, 1) := by decide +kernel
theorem d_YearPlan_settle_16 : decode prog_11_method_8_code 16 = .ok (.putfield 45, 3) := by decide +kernel
theorem d_YearPlan_settle_19 : decode prog_11_method_8_code 19 = .ok (.aload_n 0, 1) := by decide +kernel
theorem d_YearPlan_settle_20 : decode prog_11_method_8_code 20 = .ok (.invokevirtual 101, 3) := by decide +kernel
theorem d_YearPlan_settle_23 : decode prog_11_method_8_code 23 = .ok (.aload_n 0, 1) := by decide +kernel
theorem d_YearPlan_settle_24 : decode prog_11_method_8_code 24 = .ok (.getfield 9, 3) := by decide +kernel
theorem d_YearPlan_settle_27 : decode prog_11_method_8_code 27 = .ok (.iconst 0, 1) := by decide +kernel
theorem d_YearPlan_settle_28 : decode prog_11_method_8_code 28 = .ok (.aload_n 0, 1) := by decide +kernel
theorem d_YearPlan_settle_29 : decode prog_11_method_8_code 29 = .ok (.getfield 15, 3) := by decide +kernel
theorem d_YearPlan_settle_32 : decode prog_11_method_8_code 32 = .ok (.iconst 0, 1) := by decide +kernel
theorem d_YearPlan_settle_33 : decode prog_11_method_8_code 33 = .ok (.aload_n 0, 1) := by decide +kernel
theorem d_YearPlan_settle_34 : decode prog_11_method_8_code 34 = .ok (.getfield 52, 3) := by decide +kernel
theorem d_YearPlan_settle_37 : decode prog_11_method_8_code 37 = .ok (.invokestatic 104, 3) := by decide +kernel
theorem d_YearPlan_settle_40 : decode prog_11_method_8_code 40 = .ok (.aload_n 0, 1) := by decide +kernel
theorem d_YearPlan_settle_41 : decode prog_11_method_8_code 41 = .ok (.invokevirtual 110, 3) := by decide +kernel
theorem d_YearPlan_settle_44 : decode prog_11_method_8_code 44 = .ok (.iconst 0, 1) := by decide +kernel
theorem d_YearPlan_settle_45 : decode prog_11_method_8_code 45 = .ok (.istore_n 2, 1) := by decide +kernel
theorem d_YearPlan_settle_46 : decode prog_11_method_8_code 46 = .ok (.iload_n 2, 1) := by decide +kernel
theorem d_YearPlan_settle_47 : decode prog_11_method_8_code 47 = .ok (.aload_n 0, 1) := by decide +kernel
theorem d_YearPlan_settle_48 : decode prog_11_method_8_code 48 = .ok (.getfield 40, 3) := by decide +kernel
theorem d_YearPlan_settle_51 : decode prog_11_method_8_code 51 = .ok (.getfield 61, 3) := by decide +kernel
theorem d_YearPlan_settle_54 : decode prog_11_method_8_code 54 = .ok (.if_icmp .ge 34, 3) := by decide +kernel
theorem d_YearPlan_settle_57 : decode prog_11_method_8_code 57 = .ok (.aload_n 0, 1) := by decide +kernel
theorem d_YearPlan_settle_58 : decode prog_11_method_8_code 58 = .ok (.getfield 40, 3) := by decide +kernel
theorem d_YearPlan_settle_61 : decode prog_11_method_8_code 61 = .ok (.getfield 113, 3) := by decide +kernel
theorem d_YearPlan_settle_64 : decode prog_11_method_8_code 64 = .ok (.iload_n 2, 1) := by decide +kernel
theorem d_YearPlan_settle_65 : decode prog_11_method_8_code 65 = .ok (.iaload, 1) := by decide +kernel
theorem d_YearPlan_settle_66 : decode prog_11_method_8_code 66 = .ok (.istore_n 3, 1) := by decide +kernel
theorem d_YearPlan_settle_67 : decode prog_11_method_8_code 67 = .ok (.aload_n 0, 1) := by decide +kernel
theorem d_YearPlan_settle_68 : decode prog_11_method_8_code 68 = .ok (.getfield 27, 3) := by decide +kernel
theorem d_YearPlan_settle_71 : decode prog_11_method_8_code 71 = .ok (.iload_n 3, 1) := by decide +kernel
theorem d_YearPlan_settle_72 : decode prog_11_method_8_code 72 = .ok (.iaload, 1) := by decide +kernel
theorem d_YearPlan_settle_73 : decode prog_11_method_8_code 73 = .ok (.iconst (-1), 1) := by decide +kernel
theorem d_YearPlan_settle_74 : decode prog_11_method_8_code 74 = .ok (.if_icmp .ne 8, 3) := by decide +kernel
theorem d_YearPlan_settle_77 : decode prog_11_method_8_code 77 = .ok (.aload_n 0, 1) := by decide +kernel
theorem d_YearPlan_settle_78 : decode prog_11_method_8_code 78 = .ok (.iload_n 3, 1) := by decide +kernel
theorem d_YearPlan_settle_79 : decode prog_11_method_8_code 79 = .ok (.invokevirtual 116, 3) := by decide +kernel
theorem d_YearPlan_settle_82 : decode prog_11_method_8_code 82 = .ok (.iinc 2 1, 3) := by decide +kernel
theorem d_YearPlan_settle_85 : decode prog_11_method_8_code 85 = .ok (.goto (-39), 3) := by decide +kernel
theorem d_YearPlan_settle_88 : decode prog_11_method_8_code 88 = .ok (.return_, 1) := by decide +kernel
theorem mb_YearPlan_fillBase : MBv R_YearPlan y_YearPlan_fillBase prog_11_method_9_code 3 none 0 := ⟨mT4 205 (by decide +kernel) (by decide +kernel), mT4 206 (by decide +kernel) (by decide +kernel), mT1 8 (by decide +kernel) (by decide +kernel), mT4 207 (by decide +kernel) (by decide +kernel), by decide, rfl, by decide +kernel, by decide +kernel, by decide +kernel⟩
theorem mb_YearPlan_goByLaw : MBv R_YearPlan y_YearPlan_goByLaw prog_11_method_15_code 2 none 1 := ⟨mT6 15 (by decide +kernel) (by decide +kernel), mT6 16 (by decide +kernel) (by decide +kernel), mT1 8 (by decide +kernel) (by decide +kernel), mT6 17 (by decide +kernel) (by decide +kernel), by decide, rfl, by decide +kernel, by decide +kernel, by decide +kernel⟩
theorem mb_YearPlan_keepGreatest : MBv R_YearPlan y_YearPlan_keepGreatest prog_11_method_12_code 4 none 0 := ⟨mT6 0 (by decide +kernel) (by decide +kernel), mT6 1 (by decide +kernel) (by decide +kernel), mT1 8 (by decide +kernel) (by decide +kernel), mT6 2 (by decide +kernel) (by decide +kernel), by decide, rfl, by decide +kernel, by decide +kernel, by decide +kernel⟩
theorem mb_YearPlan_lay : MBv R_YearPlan y_YearPlan_lay prog_11_method_3_code 4 none 1 := ⟨mT4 164 (by decide +kernel) (by decide +kernel), mT4 165 (by decide +kernel) (by decide +kernel), mT1 8 (by decide +kernel) (by decide +kernel), mT4 166 (by decide +kernel) (by decide +kernel), by decide, rfl, by decide +kernel, by decide +kernel, by decide +kernel⟩
theorem lk_YearPlan_101 : Cond.methodLink "FeastBook$YearPlan" 101 y_YearPlan_fillBase ∈ TT := mT4 204 (by decide +kernel) (by decide +kernel)
theorem lk_YearPlan_104 : Cond.methodLink "FeastBook$YearPlan" 104 arraycopyName ∈ TT := mT5 238 (by decide +kernel) (by decide +kernel)
theorem lk_YearPlan_110 : Cond.methodLink "FeastBook$YearPlan" 110 y_YearPlan_keepGreatest ∈ TT := mT5 239 (by decide +kernel) (by decide +kernel)
theorem lk_YearPlan_116 : Cond.methodLink "FeastBook$YearPlan" 116 y_YearPlan_goByLaw ∈ TT := mT6 14 (by decide +kernel) (by decide +kernel)
theorem lk_YearPlan_97 : Cond.methodLink "FeastBook$YearPlan" 97 y_YearPlan_lay ∈ TT := mT4 163 (by decide +kernel) (by decide +kernel)
set_option maxHeartbeats 4000000 in
set_option maxRecDepth 100000 in
theorem w_YearPlan_settle_L46 {p : Program} {l : Launch} {e : Env} {s : State} {m : MethodId} {args : Array Value} {below : List Frame} {meth : Method} {c : Code} {D : va_G} {ad : Nat → Nat} {cA : Nat → ClassId} {sd sv : Nat → Nat} {out : Hp} (N : Nat) (hI : Inj97 ad) (C : Cx p s m args c prog_11_method_8_code 4 "FeastBook$YearPlan" D ad cA sd sv (FA ad)) (hr : meth.sig.returnType = none) (hlk : meth.locks = false) (v1 : Int) : ∀ (n : Nat) (v2 : Int) (h : Hp) (H : Heap) (locs : List Loc), Wd s D ad cA (FA ad) h H locs → ∀ ls : Array Slot, lv_has ls 4 [(0, .ref (ad 66)), (1, .int (iZ v1)), (2, .int (iZ v2))] → YearPlan_settle_L46 N n v2 h = some out → W p l e (rmD 5) s m args below meth c H locs 0 0 (MQ below (QV D ad cA out) args s 0 0 (FA ad)) (F0 m 46 ls []) := by
  intro n
  induction n with
  | zero =>
    intro v2 h H locs w ls hl hM
    rw [YearPlan_settle_L46] at hM
    cases hM
  | succ n ih =>
    intro v2 h H locs w ls hl hM
    rw [YearPlan_settle_L46] at hM
    refine m_iload_n C hl 2 d_YearPlan_settle_46 rfl rfl ?_
    refine m_aload_n C hl 0 d_YearPlan_settle_47 rfl rfl ?_
    refine m_getr C w.1 kc_YearPlan sh_66 (Nat.le_of_ble_eq_true rfl) 1 33 rfl (by decide) fk_YearPlan_40 d_YearPlan_settle_48 ?_
    refine m_geti C w.1 kc_Feasts sh_33 (Nat.le_of_ble_eq_true rfl) 0 rfl (by decide) fk_YearPlan_61 d_YearPlan_settle_51 ?_
    refine m_icmp_ge C hM 88 d_YearPlan_settle_54 (by decide) (fun hM => ?_) (fun hM => ?_)
    · exact m_vretW C w hr hlk hM d_YearPlan_settle_88
    · refine m_aload_n C hl 0 d_YearPlan_settle_57 rfl rfl ?_
      refine m_getr C w.1 kc_YearPlan sh_66 (Nat.le_of_ble_eq_true rfl) 1 33 rfl (by decide) fk_YearPlan_40 d_YearPlan_settle_58 ?_
      refine m_getr C w.1 kc_Feasts sh_33 (Nat.le_of_ble_eq_true rfl) 8 41 rfl (by decide) fk_YearPlan_113 d_YearPlan_settle_61 ?_
      refine m_iload_n C hl 2 d_YearPlan_settle_64 rfl rfl ?_
      refine m_iald C w.1 sh_41 (Nat.le_of_ble_eq_true rfl) (Nat.le_of_ble_eq_true rfl) hM d_YearPlan_settle_65 (fun x9 hM => ?_)
      refine m_istore_n C hl [(3, .int (iZ x9)), (0, .ref (ad 66)), (1, .int (iZ v1)), (2, .int (iZ v2))] d_YearPlan_settle_66 rfl (by decide) rfl (fun ls hl => ?_)
      refine m_aload_n C hl 1 d_YearPlan_settle_67 rfl rfl ?_
      refine m_getr C w.1 kc_YearPlan sh_66 (Nat.le_of_ble_eq_true rfl) 11 72 rfl (by decide) fk_YearPlan_27 d_YearPlan_settle_68 ?_
      refine m_iload_n C hl 0 d_YearPlan_settle_71 rfl rfl ?_
      refine m_iald C w.1 sh_72 (Nat.le_of_ble_eq_true rfl) (Nat.le_of_ble_eq_true rfl) hM d_YearPlan_settle_72 (fun x10 hM => ?_)
      refine m_iconst C d_YearPlan_settle_73 ?_
      refine m_icmp_ne C hM 82 d_YearPlan_settle_74 (by decide) (fun hM => ?_) (fun hM => ?_)
      · refine m_iinc C hl 3 [(2, .int (iZ (v2 + 1))), (3, .int (iZ x9)), (0, .ref (ad 66)), (1, .int (iZ v1))] d_YearPlan_settle_82 rfl (by decide) rfl (fun ls hl => ?_)
        refine m_goto C 46 d_YearPlan_settle_85 (by decide) ?_
        exact ih (v2 + 1) h _ _ w _ (lv_sub hl [2, 3, 0] rfl) hM
      · refine m_aload_n C hl 1 d_YearPlan_settle_77 rfl rfl ?_
        refine m_iload_n C hl 0 d_YearPlan_settle_78 rfl rfl ?_
        obtain ⟨h12, e11, hM⟩ := bnd_some hM
        refine aftV C w (runV C w.1 w.2 kc_YearPlan sh_66 (Nat.le_of_ble_eq_true rfl) (c_YearPlan_goByLaw hI e11) lk_YearPlan_116 mb_YearPlan_goByLaw rfl ⟨Nat.le_of_ble_eq_true rfl, Nat.le_of_ble_eq_true rfl⟩ ⟨Nat.zero_le _, Nat.zero_le _⟩ (Nat.le_of_ble_eq_true rfl) d_YearPlan_settle_79 hl.1 (rest := []) rfl) (fun H locs w => ?_)
        refine m_iinc C hl 3 [(2, .int (iZ (v2 + 1))), (3, .int (iZ x9)), (0, .ref (ad 66)), (1, .int (iZ v1))] d_YearPlan_settle_82 rfl (by decide) rfl (fun ls hl => ?_)
        refine m_goto C 46 d_YearPlan_settle_85 (by decide) ?_
        exact ih (v2 + 1) h12 _ _ w _ (lv_sub hl [2, 3, 0] rfl) hM
set_option maxHeartbeats 4000000 in
set_option maxRecDepth 100000 in
theorem c_YearPlan_settle {l : Launch} {D : va_G} {ad : Nat → Nat} {cA : Nat → ClassId} {sd sv : Nat → Nat} {h : Hp} {N : Nat} {a1 : Int} {out : Hp} (hI : Inj97 ad) (hM : M_YearPlan_settle N h a1 = some out) : Met l y_YearPlan_settle (.code y_YearPlan_settle prog_11_method_8_code 4 none :: TT) (rmD 5) (PC D ad cA sd sv h [.ref (ad 66), .int (iZ a1)]) (QV D ad cA out) 0 0 (FA ad) := by
  unfold M_YearPlan_settle at hM
  refine entM (by decide +kernel) hI (Nat.le_of_ble_eq_true rfl) ?_
  intro p e s m args below meth c C hr hlk hP ls hl
  have C : Cx p s m args c prog_11_method_8_code 4 "FeastBook$YearPlan" D ad cA sd sv (FA ad) := C
  have hl : lv_has ls 4 [(0, .ref (ad 66)), (1, .int (iZ a1))] := hl
  have w : Wd s D ad cA (FA ad) h s.heap [] := ⟨hP, va_S.rf⟩
  refine m_aload_n C hl 0 d_YearPlan_settle_0 rfl rfl ?_
  refine m_iload_n C hl 1 d_YearPlan_settle_1 rfl rfl ?_
  obtain ⟨h2, e1, hM⟩ := bnd_some hM
  refine aftV C w (runV C w.1 w.2 kc_YearPlan sh_66 (Nat.le_of_ble_eq_true rfl) (c_YearPlan_lay hI e1) lk_YearPlan_97 mb_YearPlan_lay rfl ⟨Nat.le_of_ble_eq_true rfl, Nat.le_of_ble_eq_true rfl⟩ ⟨Nat.zero_le _, Nat.zero_le _⟩ (Nat.le_of_ble_eq_true rfl) d_YearPlan_settle_2 hl.1 (rest := []) rfl) (fun H locs w => ?_)
  refine m_aload_n C hl 0 d_YearPlan_settle_5 rfl rfl ?_
  refine m_geti C w.1 kc_YearPlan sh_66 (Nat.le_of_ble_eq_true rfl) 3 rfl (by decide) fk_YearPlan_45 d_YearPlan_settle_6 ?_
  refine m_iload_n C hl 1 d_YearPlan_settle_9 rfl rfl ?_
  refine m_icmp_ne C hM 14 d_YearPlan_settle_10 (by decide) (fun hM => ?_) (fun hM => ?_)
  · refine m_aload_n C hl 0 d_YearPlan_settle_14 rfl rfl ?_
    refine m_iload_n C hl 1 d_YearPlan_settle_15 rfl rfl ?_
    refine m_puti C w kc_YearPlan sh_66 (Nat.le_of_ble_eq_true rfl) 3 hM rfl (by decide) rfl rfl fk_YearPlan_45 d_YearPlan_settle_16 (fun h3 H locs w hM => ?_)
    refine m_aload_n C hl 0 d_YearPlan_settle_19 rfl rfl ?_
    obtain ⟨h5, e4, hM⟩ := bnd_some hM
    refine aftV C w (runV C w.1 w.2 kc_YearPlan sh_66 (Nat.le_of_ble_eq_true rfl) (c_YearPlan_fillBase hI e4) lk_YearPlan_101 mb_YearPlan_fillBase rfl ⟨Nat.le_of_ble_eq_true rfl, Nat.le_of_ble_eq_true rfl⟩ ⟨Nat.zero_le _, Nat.zero_le _⟩ (Nat.le_of_ble_eq_true rfl) d_YearPlan_settle_20 hl.1 (rest := []) rfl) (fun H locs w => ?_)
    refine m_aload_n C hl 0 d_YearPlan_settle_23 rfl rfl ?_
    refine m_getr C w.1 kc_YearPlan sh_66 (Nat.le_of_ble_eq_true rfl) 6 67 rfl (by decide) fk_YearPlan_9 d_YearPlan_settle_24 ?_
    refine m_iconst C d_YearPlan_settle_27 ?_
    refine m_aload_n C hl 0 d_YearPlan_settle_28 rfl rfl ?_
    refine m_getr C w.1 kc_YearPlan sh_66 (Nat.le_of_ble_eq_true rfl) 7 68 rfl (by decide) fk_YearPlan_15 d_YearPlan_settle_29 ?_
    refine m_iconst C d_YearPlan_settle_32 ?_
    refine m_aload_n C hl 0 d_YearPlan_settle_33 rfl rfl ?_
    refine m_geti C w.1 kc_YearPlan sh_66 (Nat.le_of_ble_eq_true rfl) 4 rfl (by decide) fk_YearPlan_52 d_YearPlan_settle_34 ?_
    refine m_cpy C w sh_67 (Nat.le_of_ble_eq_true rfl) sh_68 (Nat.le_of_ble_eq_true rfl) (Nat.le_of_ble_eq_true rfl) (Nat.le_of_ble_eq_true rfl) hM lk_YearPlan_104 hl.1 (Nat.le_of_ble_eq_true rfl) (Nat.le_of_ble_eq_true rfl) d_YearPlan_settle_37 (fun h6 H locs w hM => ?_)
    refine m_aload_n C hl 0 d_YearPlan_settle_40 rfl rfl ?_
    obtain ⟨h8, e7, hM⟩ := bnd_some hM
    refine aftV C w (runV C w.1 w.2 kc_YearPlan sh_66 (Nat.le_of_ble_eq_true rfl) (c_YearPlan_keepGreatest hI e7) lk_YearPlan_110 mb_YearPlan_keepGreatest rfl ⟨Nat.le_of_ble_eq_true rfl, Nat.le_of_ble_eq_true rfl⟩ ⟨Nat.zero_le _, Nat.zero_le _⟩ (Nat.le_of_ble_eq_true rfl) d_YearPlan_settle_41 hl.1 (rest := []) rfl) (fun H locs w => ?_)
    refine m_iconst C d_YearPlan_settle_44 ?_
    refine m_istore_n C hl [(2, .int (iZ 0)), (0, .ref (ad 66)), (1, .int (iZ a1))] d_YearPlan_settle_45 rfl (by decide) rfl (fun ls hl => ?_)
    exact w_YearPlan_settle_L46 N hI C hr hlk a1 _ 0 h8 _ _ w _ (lv_sub hl [1, 2, 0] rfl) hM
  · exact m_vretW C w hr hlk hM d_YearPlan_settle_13
def y_YearPlan_isPlain : MethodName := ⟨"FeastBook$YearPlan", "isPlain", "(I)Z"⟩
theorem d_YearPlan_isPlain_0 : decode prog_11_method_23_code 0 = .ok (.aload_n 0, 1) := by decide +kernel
theorem d_YearPlan_isPlain_1 : decode prog_11_method_23_code 1 = .ok (.getfield 15, 3) := by decide +kernel
theorem d_YearPlan_isPlain_4 : decode prog_11_method_23_code 4 = .ok (.iload_n 1, 1) := by decide +kernel
theorem d_YearPlan_isPlain_5 : decode prog_11_method_23_code 5 = .ok (.iaload, 1) := by decide +kernel
theorem d_YearPlan_isPlain_6 : decode prog_11_method_23_code 6 = .ok (.invokestatic 162, 3) := by decide +kernel
theorem d_YearPlan_isPlain_9 : decode prog_11_method_23_code 9 = .ok (.ifCond .ne 7, 3) := by decide +kernel
theorem d_YearPlan_isPlain_12 : decode prog_11_method_23_code 12 = .ok (.iconst 1, 1) := by decide +kernel
theorem d_YearPlan_isPlain_13 : decode prog_11_method_23_code 13 = .ok (.goto 4, 3) := by decide +kernel
theorem d_YearPlan_isPlain_16 : decode prog_11_method_23_code 16 = .ok (.iconst 0, 1) := by decide +kernel
theorem d_YearPlan_isPlain_17 : decode prog_11_method_23_code 17 = .ok (.ireturn, 1) := by decide +kernel
set_option maxHeartbeats 4000000 in
set_option maxRecDepth 100000 in
theorem c_YearPlan_isPlain {l : Launch} {D : va_G} {ad : Nat → Nat} {cA : Nat → ClassId} {sd sv : Nat → Nat} {h : Hp} {a1 : Int} {out : Int} (hI : Inj97 ad) (hM : M_YearPlan_isPlain h a1 = some out) : Met l y_YearPlan_isPlain (.code y_YearPlan_isPlain prog_11_method_23_code 2 (some .boolean) :: TT) (rmD 1) (PC D ad cA sd sv h [.ref (ad 66), .int (iZ a1)]) (QR out) 0 0 (fun _ => False) := by
  unfold M_YearPlan_isPlain at hM
  refine entM (by decide +kernel) hI (Nat.le_of_ble_eq_true rfl) ?_
  intro p e s m args below meth c C hr hlk hP ls hl
  have C : Cx p s m args c prog_11_method_23_code 2 "FeastBook$YearPlan" D ad cA sd sv (FA ad) := C
  have hl : lv_has ls 2 [(0, .ref (ad 66)), (1, .int (iZ a1))] := hl
  refine m_aload_n C hl 0 d_YearPlan_isPlain_0 rfl rfl ?_
  refine m_getr C hP kc_YearPlan sh_66 (Nat.le_of_ble_eq_true rfl) 7 68 rfl (by decide) fk_YearPlan_15 d_YearPlan_isPlain_1 ?_
  refine m_iload_n C hl 1 d_YearPlan_isPlain_4 rfl rfl ?_
  refine m_iald C hP sh_68 (Nat.le_of_ble_eq_true rfl) (Nat.le_of_ble_eq_true rfl) hM d_YearPlan_isPlain_5 (fun x1 hM => ?_)
  obtain ⟨x3, e2, hM⟩ := bnd_some hM
  refine aftR (runS C hP va_S.rf (c_Cl_kindIn hI e2) lk_YearPlan_162 mb_Cl_kindIn rfl ⟨Nat.le_of_ble_eq_true rfl, Nat.le_of_ble_eq_true rfl⟩ ⟨Nat.zero_le _, Nat.zero_le _⟩ (Nat.le_of_ble_eq_true rfl) d_YearPlan_isPlain_6 hl.1 (rest := []) rfl) ?_
  refine m_if_ne C hM 16 d_YearPlan_isPlain_9 (by decide) (fun hM => ?_) (fun hM => ?_)
  · refine m_iconst C d_YearPlan_isPlain_16 ?_
    exact m_zretR C hr hlk hM d_YearPlan_isPlain_17
  · refine m_iconst C d_YearPlan_isPlain_12 ?_
    refine m_goto C 17 d_YearPlan_isPlain_13 (by decide) ?_
    exact m_zretR C hr hlk hM d_YearPlan_isPlain_17
def y_YearPlan_plainDays : MethodName := ⟨"FeastBook$YearPlan", "plainDays", "(II)I"⟩
theorem d_YearPlan_plainDays_0 : decode prog_11_method_24_code 0 = .ok (.iconst 0, 1) := by decide +kernel
theorem d_YearPlan_plainDays_1 : decode prog_11_method_24_code 1 = .ok (.istore_n 3, 1) := by decide +kernel
theorem d_YearPlan_plainDays_2 : decode prog_11_method_24_code 2 = .ok (.iload_n 1, 1) := by decide +kernel
theorem d_YearPlan_plainDays_3 : decode prog_11_method_24_code 3 = .ok (.istore 4, 2) := by decide +kernel
theorem d_YearPlan_plainDays_5 : decode prog_11_method_24_code 5 = .ok (.iload 4, 2) := by decide +kernel
theorem d_YearPlan_plainDays_7 : decode prog_11_method_24_code 7 = .ok (.iload_n 2, 1) := by decide +kernel
theorem d_YearPlan_plainDays_8 : decode prog_11_method_24_code 8 = .ok (.if_icmp .ge 26, 3) := by decide +kernel
theorem d_YearPlan_plainDays_11 : decode prog_11_method_24_code 11 = .ok (.iload_n 3, 1) := by decide +kernel
theorem d_YearPlan_plainDays_12 : decode prog_11_method_24_code 12 = .ok (.aload_n 0, 1) := by decide +kernel
theorem d_YearPlan_plainDays_13 : decode prog_11_method_24_code 13 = .ok (.iload 4, 2) := by decide +kernel
theorem d_YearPlan_plainDays_15 : decode prog_11_method_24_code 15 = .ok (.invokevirtual 225, 3) := by decide +kernel
theorem d_YearPlan_plainDays_18 : decode prog_11_method_24_code 18 = .ok (.ifCond .eq 7, 3) := by decide +kernel
theorem d_YearPlan_plainDays_21 : decode prog_11_method_24_code 21 = .ok (.iconst 1, 1) := by decide +kernel
theorem d_YearPlan_plainDays_22 : decode prog_11_method_24_code 22 = .ok (.goto 4, 3) := by decide +kernel
theorem d_YearPlan_plainDays_25 : decode prog_11_method_24_code 25 = .ok (.iconst 0, 1) := by decide +kernel
theorem d_YearPlan_plainDays_26 : decode prog_11_method_24_code 26 = .ok (.iadd, 1) := by decide +kernel
theorem d_YearPlan_plainDays_27 : decode prog_11_method_24_code 27 = .ok (.istore_n 3, 1) := by decide +kernel
theorem d_YearPlan_plainDays_28 : decode prog_11_method_24_code 28 = .ok (.iinc 4 1, 3) := by decide +kernel
theorem d_YearPlan_plainDays_31 : decode prog_11_method_24_code 31 = .ok (.goto (-26), 3) := by decide +kernel
theorem d_YearPlan_plainDays_34 : decode prog_11_method_24_code 34 = .ok (.iload_n 3, 1) := by decide +kernel
theorem d_YearPlan_plainDays_35 : decode prog_11_method_24_code 35 = .ok (.ireturn, 1) := by decide +kernel
theorem mb_YearPlan_isPlain : MBv R_YearPlan y_YearPlan_isPlain prog_11_method_23_code 2 (some .boolean) 1 := ⟨mT6 49 (by decide +kernel) (by decide +kernel), mT6 50 (by decide +kernel) (by decide +kernel), mT1 8 (by decide +kernel) (by decide +kernel), mT6 51 (by decide +kernel) (by decide +kernel), by decide, rfl, by decide +kernel, by decide +kernel, by decide +kernel⟩
theorem lk_YearPlan_225 : Cond.methodLink "FeastBook$YearPlan" 225 y_YearPlan_isPlain ∈ TT := mT6 48 (by decide +kernel) (by decide +kernel)
set_option maxHeartbeats 4000000 in
set_option maxRecDepth 100000 in
theorem w_YearPlan_plainDays_L5 {p : Program} {l : Launch} {e : Env} {s : State} {m : MethodId} {args : Array Value} {below : List Frame} {meth : Method} {c : Code} {D : va_G} {ad : Nat → Nat} {cA : Nat → ClassId} {sd sv : Nat → Nat} {out : Int} (N : Nat) (hI : Inj97 ad) (C : Cx p s m args c prog_11_method_24_code 5 "FeastBook$YearPlan" D ad cA sd sv (FA ad)) (hr : meth.sig.returnType = (some .int)) (hlk : meth.locks = false) (v1 v2 : Int) (h : Hp) (hP : va_P D clL (wl ad cA h) s.heap) : ∀ (n : Nat) (v3 v4 : Int), ∀ ls : Array Slot, lv_has ls 5 [(0, .ref (ad 66)), (1, .int (iZ v1)), (2, .int (iZ v2)), (3, .int (iZ v3)), (4, .int (iZ v4))] → YearPlan_plainDays_L5 N h v2 n v3 v4 = some out → W p l e (rmD 2) s m args below meth c s.heap [] 0 0 (MQ below (QR out) args s 0 0 (fun _ => False)) (F0 m 5 ls []) := by
  intro n
  induction n with
  | zero =>
    intro v3 v4 ls hl hM
    rw [YearPlan_plainDays_L5] at hM
    cases hM
  | succ n ih =>
    intro v3 v4 ls hl hM
    rw [YearPlan_plainDays_L5] at hM
    refine m_iload C hl 4 d_YearPlan_plainDays_5 rfl ?_
    refine m_iload_n C hl 2 d_YearPlan_plainDays_7 rfl rfl ?_
    refine m_icmp_ge C hM 34 d_YearPlan_plainDays_8 (by decide) (fun hM => ?_) (fun hM => ?_)
    · refine m_iload_n C hl 3 d_YearPlan_plainDays_34 rfl rfl ?_
      exact m_iretR C hr hlk hM d_YearPlan_plainDays_35
    · refine m_iload_n C hl 3 d_YearPlan_plainDays_11 rfl rfl ?_
      refine m_aload_n C hl 0 d_YearPlan_plainDays_12 rfl rfl ?_
      refine m_iload C hl 4 d_YearPlan_plainDays_13 rfl ?_
      obtain ⟨x2, e1, hM⟩ := bnd_some hM
      refine aftR (runV C hP va_S.rf kc_YearPlan sh_66 (Nat.le_of_ble_eq_true rfl) (c_YearPlan_isPlain hI e1) lk_YearPlan_225 mb_YearPlan_isPlain rfl ⟨Nat.le_of_ble_eq_true rfl, Nat.le_of_ble_eq_true rfl⟩ ⟨Nat.zero_le _, Nat.zero_le _⟩ (Nat.le_of_ble_eq_true rfl) d_YearPlan_plainDays_15 hl.1 (rest := [.int (iZ v3)]) rfl) ?_
      refine m_if_eq C hM 25 d_YearPlan_plainDays_18 (by decide) (fun hM => ?_) (fun hM => ?_)
      · refine m_iconst C d_YearPlan_plainDays_25 ?_
        refine m_iadd C d_YearPlan_plainDays_26 ?_
        refine m_istore_n C hl [(3, .int (iZ (v3 + 0))), (0, .ref (ad 66)), (1, .int (iZ v1)), (2, .int (iZ v2)), (4, .int (iZ v4))] d_YearPlan_plainDays_27 rfl (by decide) rfl (fun ls hl => ?_)
        refine m_iinc C hl 4 [(4, .int (iZ (v4 + 1))), (3, .int (iZ (v3 + 0))), (0, .ref (ad 66)), (1, .int (iZ v1)), (2, .int (iZ v2))] d_YearPlan_plainDays_28 rfl (by decide) rfl (fun ls hl => ?_)
        refine m_goto C 5 d_YearPlan_plainDays_31 (by decide) ?_
        exact ih (v3 + 0) (v4 + 1) _ (lv_sub hl [2, 3, 4, 1, 0] rfl) hM
      · refine m_iconst C d_YearPlan_plainDays_21 ?_
        refine m_goto C 26 d_YearPlan_plainDays_22 (by decide) ?_
        refine m_iadd C d_YearPlan_plainDays_26 ?_
        refine m_istore_n C hl [(3, .int (iZ (v3 + 1))), (0, .ref (ad 66)), (1, .int (iZ v1)), (2, .int (iZ v2)), (4, .int (iZ v4))] d_YearPlan_plainDays_27 rfl (by decide) rfl (fun ls hl => ?_)
        refine m_iinc C hl 4 [(4, .int (iZ (v4 + 1))), (3, .int (iZ (v3 + 1))), (0, .ref (ad 66)), (1, .int (iZ v1)), (2, .int (iZ v2))] d_YearPlan_plainDays_28 rfl (by decide) rfl (fun ls hl => ?_)
        refine m_goto C 5 d_YearPlan_plainDays_31 (by decide) ?_
        exact ih (v3 + 1) (v4 + 1) _ (lv_sub hl [2, 3, 4, 1, 0] rfl) hM
set_option maxHeartbeats 4000000 in
set_option maxRecDepth 100000 in
theorem c_YearPlan_plainDays {l : Launch} {D : va_G} {ad : Nat → Nat} {cA : Nat → ClassId} {sd sv : Nat → Nat} {h : Hp} {N : Nat} {a1 a2 : Int} {out : Int} (hI : Inj97 ad) (hM : M_YearPlan_plainDays N h a1 a2 = some out) : Met l y_YearPlan_plainDays (.code y_YearPlan_plainDays prog_11_method_24_code 5 (some .int) :: TT) (rmD 2) (PC D ad cA sd sv h [.ref (ad 66), .int (iZ a1), .int (iZ a2)]) (QR out) 0 0 (fun _ => False) := by
  unfold M_YearPlan_plainDays at hM
  refine entM (by decide +kernel) hI (Nat.le_of_ble_eq_true rfl) ?_
  intro p e s m args below meth c C hr hlk hP ls hl
  have C : Cx p s m args c prog_11_method_24_code 5 "FeastBook$YearPlan" D ad cA sd sv (FA ad) := C
  have hl : lv_has ls 5 [(0, .ref (ad 66)), (1, .int (iZ a1)), (2, .int (iZ a2))] := hl
  refine m_iconst C d_YearPlan_plainDays_0 ?_
  refine m_istore_n C hl [(3, .int (iZ 0)), (0, .ref (ad 66)), (1, .int (iZ a1)), (2, .int (iZ a2))] d_YearPlan_plainDays_1 rfl (by decide) rfl (fun ls hl => ?_)
  refine m_iload_n C hl 2 d_YearPlan_plainDays_2 rfl rfl ?_
  refine m_istore C hl [(4, .int (iZ a1)), (3, .int (iZ 0)), (0, .ref (ad 66)), (1, .int (iZ a1)), (2, .int (iZ a2))] d_YearPlan_plainDays_3 (by decide) rfl (fun ls hl => ?_)
  exact w_YearPlan_plainDays_L5 N hI C hr hlk a1 a2 h hP _ 0 a1 _ (lv_sub hl [2, 3, 4, 1, 0] rfl) hM
def y_YearPlan_longestPlain : MethodName := ⟨"FeastBook$YearPlan", "longestPlain", "()I"⟩
theorem d_YearPlan_longestPlain_0 : decode prog_11_method_25_code 0 = .ok (.iconst 0, 1) := by decide +kernel
theorem d_YearPlan_longestPlain_1 : decode prog_11_method_25_code 1 = .ok (.istore_n 1, 1) := by decide +kernel
theorem d_YearPlan_longestPlain_2 : decode prog_11_method_25_code 2 = .ok (.iconst 0, 1) := by decide +kernel
theorem d_YearPlan_longestPlain_3 : decode prog_11_method_25_code 3 = .ok (.istore_n 2, 1) := by decide +kernel
theorem d_YearPlan_longestPlain_4 : decode prog_11_method_25_code 4 = .ok (.iconst 0, 1) := by decide +kernel
theorem d_YearPlan_longestPlain_5 : decode prog_11_method_25_code 5 = .ok (.istore_n 3, 1) := by decide +kernel
theorem d_YearPlan_longestPlain_6 : decode prog_11_method_25_code 6 = .ok (.iload_n 3, 1) := by decide +kernel
theorem d_YearPlan_longestPlain_7 : decode prog_11_method_25_code 7 = .ok (.aload_n 0, 1) := by decide +kernel
theorem d_YearPlan_longestPlain_8 : decode prog_11_method_25_code 8 = .ok (.getfield 52, 3) := by decide +kernel
theorem d_YearPlan_longestPlain_11 : decode prog_11_method_25_code 11 = .ok (.if_icmp .ge 31, 3) := by decide +kernel
theorem d_YearPlan_longestPlain_14 : decode prog_11_method_25_code 14 = .ok (.aload_n 0, 1) := by decide +kernel
theorem d_YearPlan_longestPlain_15 : decode prog_11_method_25_code 15 = .ok (.iload_n 3, 1) := by decide +kernel
theorem d_YearPlan_longestPlain_16 : decode prog_11_method_25_code 16 = .ok (.invokevirtual 225, 3) := by decide +kernel
theorem d_YearPlan_longestPlain_19 : decode prog_11_method_25_code 19 = .ok (.ifCond .eq 9, 3) := by decide +kernel
theorem d_YearPlan_longestPlain_22 : decode prog_11_method_25_code 22 = .ok (.iload_n 2, 1) := by decide +kernel
theorem d_YearPlan_longestPlain_23 : decode prog_11_method_25_code 23 = .ok (.iconst 1, 1) := by decide +kernel
theorem d_YearPlan_longestPlain_24 : decode prog_11_method_25_code 24 = .ok (.iadd, 1) := by decide +kernel
theorem d_YearPlan_longestPlain_25 : decode prog_11_method_25_code 25 = .ok (.goto 4, 3) := by decide +kernel
theorem d_YearPlan_longestPlain_28 : decode prog_11_method_25_code 28 = .ok (.iconst 0, 1) := by decide +kernel
theorem d_YearPlan_longestPlain_29 : decode prog_11_method_25_code 29 = .ok (.istore_n 2, 1) := by decide +kernel
theorem d_YearPlan_longestPlain_30 : decode prog_11_method_25_code 30 = .ok (.iload_n 1, 1) := by decide +kernel
theorem d_YearPlan_longestPlain_31 : decode prog_11_method_25_code 31 = .ok (.iload_n 2, 1) := by decide +kernel
theorem d_YearPlan_longestPlain_32 : decode prog_11_method_25_code 32 = .ok (.invokestatic 128, 3) := by decide +kernel
theorem d_YearPlan_longestPlain_35 : decode prog_11_method_25_code 35 = .ok (.istore_n 1, 1) := by decide +kernel
theorem d_YearPlan_longestPlain_36 : decode prog_11_method_25_code 36 = .ok (.iinc 3 1, 3) := by decide +kernel
theorem d_YearPlan_longestPlain_39 : decode prog_11_method_25_code 39 = .ok (.goto (-33), 3) := by decide +kernel
theorem d_YearPlan_longestPlain_42 : decode prog_11_method_25_code 42 = .ok (.iload_n 1, 1) := by decide +kernel
theorem d_YearPlan_longestPlain_43 : decode prog_11_method_25_code 43 = .ok (.ireturn, 1) := by decide +kernel
set_option maxHeartbeats 4000000 in
set_option maxRecDepth 100000 in
theorem w_YearPlan_longestPlain_L6 {p : Program} {l : Launch} {e : Env} {s : State} {m : MethodId} {args : Array Value} {below : List Frame} {meth : Method} {c : Code} {D : va_G} {ad : Nat → Nat} {cA : Nat → ClassId} {sd sv : Nat → Nat} {out : Int} (N : Nat) (hI : Inj97 ad) (C : Cx p s m args c prog_11_method_25_code 4 "FeastBook$YearPlan" D ad cA sd sv (FA ad)) (hr : meth.sig.returnType = (some .int)) (hlk : meth.locks = false) (h : Hp) (hP : va_P D clL (wl ad cA h) s.heap) : ∀ (n : Nat) (v1 v2 v3 : Int), ∀ ls : Array Slot, lv_has ls 4 [(0, .ref (ad 66)), (1, .int (iZ v1)), (2, .int (iZ v2)), (3, .int (iZ v3))] → YearPlan_longestPlain_L6 N h n v1 v2 v3 = some out → W p l e (rmD 2) s m args below meth c s.heap [] 0 0 (MQ below (QR out) args s 0 0 (fun _ => False)) (F0 m 6 ls []) := by
  intro n
  induction n with
  | zero =>
    intro v1 v2 v3 ls hl hM
    rw [YearPlan_longestPlain_L6] at hM
    cases hM
  | succ n ih =>
    intro v1 v2 v3 ls hl hM
    rw [YearPlan_longestPlain_L6] at hM
    refine m_iload_n C hl 3 d_YearPlan_longestPlain_6 rfl rfl ?_
    refine m_aload_n C hl 0 d_YearPlan_longestPlain_7 rfl rfl ?_
    refine m_geti C hP kc_YearPlan sh_66 (Nat.le_of_ble_eq_true rfl) 4 rfl (by decide) fk_YearPlan_52 d_YearPlan_longestPlain_8 ?_
    refine m_icmp_ge C hM 42 d_YearPlan_longestPlain_11 (by decide) (fun hM => ?_) (fun hM => ?_)
    · refine m_iload_n C hl 1 d_YearPlan_longestPlain_42 rfl rfl ?_
      exact m_iretR C hr hlk hM d_YearPlan_longestPlain_43
    · refine m_aload_n C hl 0 d_YearPlan_longestPlain_14 rfl rfl ?_
      refine m_iload_n C hl 3 d_YearPlan_longestPlain_15 rfl rfl ?_
      obtain ⟨x2, e1, hM⟩ := bnd_some hM
      refine aftR (runV C hP va_S.rf kc_YearPlan sh_66 (Nat.le_of_ble_eq_true rfl) (c_YearPlan_isPlain hI e1) lk_YearPlan_225 mb_YearPlan_isPlain rfl ⟨Nat.le_of_ble_eq_true rfl, Nat.le_of_ble_eq_true rfl⟩ ⟨Nat.zero_le _, Nat.zero_le _⟩ (Nat.le_of_ble_eq_true rfl) d_YearPlan_longestPlain_16 hl.1 (rest := []) rfl) ?_
      refine m_if_eq C hM 28 d_YearPlan_longestPlain_19 (by decide) (fun hM => ?_) (fun hM => ?_)
      · refine m_iconst C d_YearPlan_longestPlain_28 ?_
        refine m_istore_n C hl [(2, .int (iZ 0)), (0, .ref (ad 66)), (1, .int (iZ v1)), (3, .int (iZ v3))] d_YearPlan_longestPlain_29 rfl (by decide) rfl (fun ls hl => ?_)
        refine m_iload_n C hl 2 d_YearPlan_longestPlain_30 rfl rfl ?_
        refine m_iload_n C hl 0 d_YearPlan_longestPlain_31 rfl rfl ?_
        refine m_max C lk_YearPlan_128 hl.1 (Nat.le_of_ble_eq_true rfl) (Nat.le_of_ble_eq_true rfl) ⟨Nat.zero_le _, Nat.zero_le _⟩ d_YearPlan_longestPlain_32 ?_
        refine m_istore_n C hl [(1, .int (iZ (mxI v1 0))), (2, .int (iZ 0)), (0, .ref (ad 66)), (3, .int (iZ v3))] d_YearPlan_longestPlain_35 rfl (by decide) rfl (fun ls hl => ?_)
        refine m_iinc C hl 3 [(3, .int (iZ (v3 + 1))), (1, .int (iZ (mxI v1 0))), (2, .int (iZ 0)), (0, .ref (ad 66))] d_YearPlan_longestPlain_36 rfl (by decide) rfl (fun ls hl => ?_)
        refine m_goto C 6 d_YearPlan_longestPlain_39 (by decide) ?_
        exact ih (mxI v1 0) 0 (v3 + 1) _ (lv_sub hl [3, 1, 2, 0] rfl) hM
      · refine m_iload_n C hl 2 d_YearPlan_longestPlain_22 rfl rfl ?_
        refine m_iconst C d_YearPlan_longestPlain_23 ?_
        refine m_iadd C d_YearPlan_longestPlain_24 ?_
        refine m_goto C 29 d_YearPlan_longestPlain_25 (by decide) ?_
        refine m_istore_n C hl [(2, .int (iZ (v2 + 1))), (0, .ref (ad 66)), (1, .int (iZ v1)), (3, .int (iZ v3))] d_YearPlan_longestPlain_29 rfl (by decide) rfl (fun ls hl => ?_)
        refine m_iload_n C hl 2 d_YearPlan_longestPlain_30 rfl rfl ?_
        refine m_iload_n C hl 0 d_YearPlan_longestPlain_31 rfl rfl ?_
        refine m_max C lk_YearPlan_128 hl.1 (Nat.le_of_ble_eq_true rfl) (Nat.le_of_ble_eq_true rfl) ⟨Nat.zero_le _, Nat.zero_le _⟩ d_YearPlan_longestPlain_32 ?_
        refine m_istore_n C hl [(1, .int (iZ (mxI v1 (v2 + 1)))), (2, .int (iZ (v2 + 1))), (0, .ref (ad 66)), (3, .int (iZ v3))] d_YearPlan_longestPlain_35 rfl (by decide) rfl (fun ls hl => ?_)
        refine m_iinc C hl 3 [(3, .int (iZ (v3 + 1))), (1, .int (iZ (mxI v1 (v2 + 1)))), (2, .int (iZ (v2 + 1))), (0, .ref (ad 66))] d_YearPlan_longestPlain_36 rfl (by decide) rfl (fun ls hl => ?_)
        refine m_goto C 6 d_YearPlan_longestPlain_39 (by decide) ?_
        exact ih (mxI v1 (v2 + 1)) (v2 + 1) (v3 + 1) _ (lv_sub hl [3, 1, 2, 0] rfl) hM
set_option maxHeartbeats 4000000 in
set_option maxRecDepth 100000 in
theorem c_YearPlan_longestPlain {l : Launch} {D : va_G} {ad : Nat → Nat} {cA : Nat → ClassId} {sd sv : Nat → Nat} {h : Hp} {N : Nat} {out : Int} (hI : Inj97 ad) (hM : M_YearPlan_longestPlain N h = some out) : Met l y_YearPlan_longestPlain (.code y_YearPlan_longestPlain prog_11_method_25_code 4 (some .int) :: TT) (rmD 2) (PC D ad cA sd sv h [.ref (ad 66)]) (QR out) 0 0 (fun _ => False) := by
  unfold M_YearPlan_longestPlain at hM
  refine entM (by decide +kernel) hI (Nat.le_of_ble_eq_true rfl) ?_
  intro p e s m args below meth c C hr hlk hP ls hl
  have C : Cx p s m args c prog_11_method_25_code 4 "FeastBook$YearPlan" D ad cA sd sv (FA ad) := C
  have hl : lv_has ls 4 [(0, .ref (ad 66))] := hl
  refine m_iconst C d_YearPlan_longestPlain_0 ?_
  refine m_istore_n C hl [(1, .int (iZ 0)), (0, .ref (ad 66))] d_YearPlan_longestPlain_1 rfl (by decide) rfl (fun ls hl => ?_)
  refine m_iconst C d_YearPlan_longestPlain_2 ?_
  refine m_istore_n C hl [(2, .int (iZ 0)), (1, .int (iZ 0)), (0, .ref (ad 66))] d_YearPlan_longestPlain_3 rfl (by decide) rfl (fun ls hl => ?_)
  refine m_iconst C d_YearPlan_longestPlain_4 ?_
  refine m_istore_n C hl [(3, .int (iZ 0)), (2, .int (iZ 0)), (1, .int (iZ 0)), (0, .ref (ad 66))] d_YearPlan_longestPlain_5 rfl (by decide) rfl (fun ls hl => ?_)
  exact w_YearPlan_longestPlain_L6 N hI C hr hlk  h hP _ 0 0 0 _ (lv_sub hl [3, 2, 1, 0] rfl) hM
def y_YearPlan_isVigilOfKept : MethodName := ⟨"FeastBook$YearPlan", "isVigilOfKept", "(I)Z"⟩
theorem d_YearPlan_isVigilOfKept_0 : decode prog_11_method_27_code 0 = .ok (.iconst 0, 1) := by decide +kernel
theorem d_YearPlan_isVigilOfKept_1 : decode prog_11_method_27_code 1 = .ok (.istore_n 2, 1) := by decide +kernel
theorem d_YearPlan_isVigilOfKept_2 : decode prog_11_method_27_code 2 = .ok (.iload_n 2, 1) := by decide +kernel
theorem d_YearPlan_isVigilOfKept_3 : decode prog_11_method_27_code 3 = .ok (.aload_n 0, 1) := by decide +kernel
theorem d_YearPlan_isVigilOfKept_4 : decode prog_11_method_27_code 4 = .ok (.getfield 40, 3) := by decide +kernel
theorem d_YearPlan_isVigilOfKept_7 : decode prog_11_method_27_code 7 = .ok (.getfield 61, 3) := by decide +kernel
theorem d_YearPlan_isVigilOfKept_10 : decode prog_11_method_27_code 10 = .ok (.if_icmp .ge 30, 3) := by decide +kernel
theorem d_YearPlan_isVigilOfKept_13 : decode prog_11_method_27_code 13 = .ok (.aload_n 0, 1) := by decide +kernel
theorem d_YearPlan_isVigilOfKept_14 : decode prog_11_method_27_code 14 = .ok (.getfield 21, 3) := by decide +kernel
theorem d_YearPlan_isVigilOfKept_17 : decode prog_11_method_27_code 17 = .ok (.iload_n 2, 1) := by decide +kernel
theorem d_YearPlan_isVigilOfKept_18 : decode prog_11_method_27_code 18 = .ok (.iaload, 1) := by decide +kernel
theorem d_YearPlan_isVigilOfKept_19 : decode prog_11_method_27_code 19 = .ok (.iload_n 1, 1) := by decide +kernel
theorem d_YearPlan_isVigilOfKept_20 : decode prog_11_method_27_code 20 = .ok (.if_icmp .ne 14, 3) := by decide +kernel
theorem d_YearPlan_isVigilOfKept_23 : decode prog_11_method_27_code 23 = .ok (.aload_n 0, 1) := by decide +kernel
theorem d_YearPlan_isVigilOfKept_24 : decode prog_11_method_27_code 24 = .ok (.getfield 27, 3) := by decide +kernel
theorem d_YearPlan_isVigilOfKept_27 : decode prog_11_method_27_code 27 = .ok (.iload_n 2, 1) := by decide +kernel
theorem d_YearPlan_isVigilOfKept_28 : decode prog_11_method_27_code 28 = .ok (.iaload, 1) := by decide +kernel
theorem d_YearPlan_isVigilOfKept_29 : decode prog_11_method_27_code 29 = .ok (.ifCond .ne 5, 3) := by decide +kernel
theorem d_YearPlan_isVigilOfKept_32 : decode prog_11_method_27_code 32 = .ok (.iconst 1, 1) := by decide +kernel
theorem d_YearPlan_isVigilOfKept_33 : decode prog_11_method_27_code 33 = .ok (.ireturn, 1) := by decide +kernel
theorem d_YearPlan_isVigilOfKept_34 : decode prog_11_method_27_code 34 = .ok (.iinc 2 1, 3) := by decide +kernel
theorem d_YearPlan_isVigilOfKept_37 : decode prog_11_method_27_code 37 = .ok (.goto (-35), 3) := by decide +kernel
theorem d_YearPlan_isVigilOfKept_40 : decode prog_11_method_27_code 40 = .ok (.iconst 0, 1) := by decide +kernel
theorem d_YearPlan_isVigilOfKept_41 : decode prog_11_method_27_code 41 = .ok (.ireturn, 1) := by decide +kernel
set_option maxHeartbeats 4000000 in
set_option maxRecDepth 100000 in
theorem w_YearPlan_isVigilOfKept_L2 {p : Program} {l : Launch} {e : Env} {s : State} {m : MethodId} {args : Array Value} {below : List Frame} {meth : Method} {c : Code} {D : va_G} {ad : Nat → Nat} {cA : Nat → ClassId} {sd sv : Nat → Nat} {out : Int} (N : Nat) (hI : Inj97 ad) (C : Cx p s m args c prog_11_method_27_code 3 "FeastBook$YearPlan" D ad cA sd sv (FA ad)) (hr : meth.sig.returnType = (some .boolean)) (hlk : meth.locks = false) (v1 : Int) (h : Hp) (hP : va_P D clL (wl ad cA h) s.heap) : ∀ (n : Nat) (v2 : Int), ∀ ls : Array Slot, lv_has ls 3 [(0, .ref (ad 66)), (1, .int (iZ v1)), (2, .int (iZ v2))] → YearPlan_isVigilOfKept_L2 N h v1 n v2 = some out → W p l e (rmD 0) s m args below meth c s.heap [] 0 0 (MQ below (QR out) args s 0 0 (fun _ => False)) (F0 m 2 ls []) := by
  intro n
  induction n with
  | zero =>
    intro v2 ls hl hM
    rw [YearPlan_isVigilOfKept_L2] at hM
    cases hM
  | succ n ih =>
    intro v2 ls hl hM
    rw [YearPlan_isVigilOfKept_L2] at hM
    refine m_iload_n C hl 2 d_YearPlan_isVigilOfKept_2 rfl rfl ?_
    refine m_aload_n C hl 0 d_YearPlan_isVigilOfKept_3 rfl rfl ?_
    refine m_getr C hP kc_YearPlan sh_66 (Nat.le_of_ble_eq_true rfl) 1 33 rfl (by decide) fk_YearPlan_40 d_YearPlan_isVigilOfKept_4 ?_
    refine m_geti C hP kc_Feasts sh_33 (Nat.le_of_ble_eq_true rfl) 0 rfl (by decide) fk_YearPlan_61 d_YearPlan_isVigilOfKept_7 ?_
    refine m_icmp_ge C hM 40 d_YearPlan_isVigilOfKept_10 (by decide) (fun hM => ?_) (fun hM => ?_)
    · refine m_iconst C d_YearPlan_isVigilOfKept_40 ?_
      exact m_zretR C hr hlk hM d_YearPlan_isVigilOfKept_41
    · refine m_aload_n C hl 0 d_YearPlan_isVigilOfKept_13 rfl rfl ?_
      refine m_getr C hP kc_YearPlan sh_66 (Nat.le_of_ble_eq_true rfl) 9 70 rfl (by decide) fk_YearPlan_21 d_YearPlan_isVigilOfKept_14 ?_
      refine m_iload_n C hl 2 d_YearPlan_isVigilOfKept_17 rfl rfl ?_
      refine m_iald C hP sh_70 (Nat.le_of_ble_eq_true rfl) (Nat.le_of_ble_eq_true rfl) hM d_YearPlan_isVigilOfKept_18 (fun x1 hM => ?_)
      refine m_iload_n C hl 1 d_YearPlan_isVigilOfKept_19 rfl rfl ?_
      refine m_icmp_ne C hM 34 d_YearPlan_isVigilOfKept_20 (by decide) (fun hM => ?_) (fun hM => ?_)
      · refine m_iinc C hl 2 [(2, .int (iZ (v2 + 1))), (0, .ref (ad 66)), (1, .int (iZ v1))] d_YearPlan_isVigilOfKept_34 rfl (by decide) rfl (fun ls hl => ?_)
        refine m_goto C 2 d_YearPlan_isVigilOfKept_37 (by decide) ?_
        exact ih (v2 + 1) _ (lv_sub hl [1, 2, 0] rfl) hM
      · refine m_aload_n C hl 0 d_YearPlan_isVigilOfKept_23 rfl rfl ?_
        refine m_getr C hP kc_YearPlan sh_66 (Nat.le_of_ble_eq_true rfl) 11 72 rfl (by decide) fk_YearPlan_27 d_YearPlan_isVigilOfKept_24 ?_
        refine m_iload_n C hl 2 d_YearPlan_isVigilOfKept_27 rfl rfl ?_
        refine m_iald C hP sh_72 (Nat.le_of_ble_eq_true rfl) (Nat.le_of_ble_eq_true rfl) hM d_YearPlan_isVigilOfKept_28 (fun x2 hM => ?_)
        refine m_if_ne C hM 34 d_YearPlan_isVigilOfKept_29 (by decide) (fun hM => ?_) (fun hM => ?_)
        · refine m_iinc C hl 2 [(2, .int (iZ (v2 + 1))), (0, .ref (ad 66)), (1, .int (iZ v1))] d_YearPlan_isVigilOfKept_34 rfl (by decide) rfl (fun ls hl => ?_)
          refine m_goto C 2 d_YearPlan_isVigilOfKept_37 (by decide) ?_
          exact ih (v2 + 1) _ (lv_sub hl [1, 2, 0] rfl) hM
        · refine m_iconst C d_YearPlan_isVigilOfKept_32 ?_
          exact m_zretR C hr hlk hM d_YearPlan_isVigilOfKept_33
set_option maxHeartbeats 4000000 in
set_option maxRecDepth 100000 in
theorem c_YearPlan_isVigilOfKept {l : Launch} {D : va_G} {ad : Nat → Nat} {cA : Nat → ClassId} {sd sv : Nat → Nat} {h : Hp} {N : Nat} {a1 : Int} {out : Int} (hI : Inj97 ad) (hM : M_YearPlan_isVigilOfKept N h a1 = some out) : Met l y_YearPlan_isVigilOfKept (.code y_YearPlan_isVigilOfKept prog_11_method_27_code 3 (some .boolean) :: TT) (rmD 0) (PC D ad cA sd sv h [.ref (ad 66), .int (iZ a1)]) (QR out) 0 0 (fun _ => False) := by
  unfold M_YearPlan_isVigilOfKept at hM
  refine entM (by decide +kernel) hI (Nat.le_of_ble_eq_true rfl) ?_
  intro p e s m args below meth c C hr hlk hP ls hl
  have C : Cx p s m args c prog_11_method_27_code 3 "FeastBook$YearPlan" D ad cA sd sv (FA ad) := C
  have hl : lv_has ls 3 [(0, .ref (ad 66)), (1, .int (iZ a1))] := hl
  refine m_iconst C d_YearPlan_isVigilOfKept_0 ?_
  refine m_istore_n C hl [(2, .int (iZ 0)), (0, .ref (ad 66)), (1, .int (iZ a1))] d_YearPlan_isVigilOfKept_1 rfl (by decide) rfl (fun ls hl => ?_)
  exact w_YearPlan_isVigilOfKept_L2 N hI C hr hlk a1 h hP _ 0 _ (lv_sub hl [1, 2, 0] rfl) hM
def y_YearPlan_isFast : MethodName := ⟨"FeastBook$YearPlan", "isFast", "(I)Z"⟩
theorem d_YearPlan_isFast_0 : decode prog_11_method_26_code 0 = .ok (.aload_n 0, 1) := by decide +kernel
theorem d_YearPlan_isFast_1 : decode prog_11_method_26_code 1 = .ok (.getfield 30, 3) := by decide +kernel
theorem d_YearPlan_isFast_4 : decode prog_11_method_26_code 4 = .ok (.aload_n 0, 1) := by decide +kernel
theorem d_YearPlan_isFast_5 : decode prog_11_method_26_code 5 = .ok (.getfield 58, 3) := by decide +kernel
theorem d_YearPlan_isFast_8 : decode prog_11_method_26_code 8 = .ok (.iload_n 1, 1) := by decide +kernel
theorem d_YearPlan_isFast_9 : decode prog_11_method_26_code 9 = .ok (.invokevirtual 94, 3) := by decide +kernel
theorem d_YearPlan_isFast_12 : decode prog_11_method_26_code 12 = .ok (.istore_n 2, 1) := by decide +kernel
theorem d_YearPlan_isFast_13 : decode prog_11_method_26_code 13 = .ok (.iload_n 2, 1) := by decide +kernel
theorem d_YearPlan_isFast_14 : decode prog_11_method_26_code 14 = .ok (.ifCond .eq 30, 3) := by decide +kernel
theorem d_YearPlan_isFast_17 : decode prog_11_method_26_code 17 = .ok (.aload_n 0, 1) := by decide +kernel
theorem d_YearPlan_isFast_18 : decode prog_11_method_26_code 18 = .ok (.iload_n 1, 1) := by decide +kernel
theorem d_YearPlan_isFast_19 : decode prog_11_method_26_code 19 = .ok (.invokevirtual 155, 3) := by decide +kernel
theorem d_YearPlan_isFast_22 : decode prog_11_method_26_code 22 = .ok (.ifCond .eq 24, 3) := by decide +kernel
theorem d_YearPlan_isFast_25 : decode prog_11_method_26_code 25 = .ok (.aload_n 0, 1) := by decide +kernel
theorem d_YearPlan_isFast_26 : decode prog_11_method_26_code 26 = .ok (.getfield 15, 3) := by decide +kernel
theorem d_YearPlan_isFast_29 : decode prog_11_method_26_code 29 = .ok (.iload_n 1, 1) := by decide +kernel
theorem d_YearPlan_isFast_30 : decode prog_11_method_26_code 30 = .ok (.iaload, 1) := by decide +kernel
theorem d_YearPlan_isFast_31 : decode prog_11_method_26_code 31 = .ok (.invokestatic 188, 3) := by decide +kernel
theorem d_YearPlan_isFast_34 : decode prog_11_method_26_code 34 = .ok (.aload_n 0, 1) := by decide +kernel
theorem d_YearPlan_isFast_35 : decode prog_11_method_26_code 35 = .ok (.getfield 30, 3) := by decide +kernel
theorem d_YearPlan_isFast_38 : decode prog_11_method_26_code 38 = .ok (.getfield 228, 3) := by decide +kernel
theorem d_YearPlan_isFast_41 : decode prog_11_method_26_code 41 = .ok (.if_icmp .lt 5, 3) := by decide +kernel
theorem d_YearPlan_isFast_44 : decode prog_11_method_26_code 44 = .ok (.iconst 0, 1) := by decide +kernel
theorem d_YearPlan_isFast_45 : decode prog_11_method_26_code 45 = .ok (.ireturn, 1) := by decide +kernel
theorem d_YearPlan_isFast_46 : decode prog_11_method_26_code 46 = .ok (.aload_n 0, 1) := by decide +kernel
theorem d_YearPlan_isFast_47 : decode prog_11_method_26_code 47 = .ok (.getfield 30, 3) := by decide +kernel
theorem d_YearPlan_isFast_50 : decode prog_11_method_26_code 50 = .ok (.getfield 231, 3) := by decide +kernel
theorem d_YearPlan_isFast_53 : decode prog_11_method_26_code 53 = .ok (.iload_n 2, 1) := by decide +kernel
theorem d_YearPlan_isFast_54 : decode prog_11_method_26_code 54 = .ok (.ishr, 1) := by decide +kernel
theorem d_YearPlan_isFast_55 : decode prog_11_method_26_code 55 = .ok (.iconst 1, 1) := by decide +kernel
theorem d_YearPlan_isFast_56 : decode prog_11_method_26_code 56 = .ok (.iand, 1) := by decide +kernel
theorem d_YearPlan_isFast_57 : decode prog_11_method_26_code 57 = .ok (.iconst 1, 1) := by decide +kernel
theorem d_YearPlan_isFast_58 : decode prog_11_method_26_code 58 = .ok (.if_icmp .eq 11, 3) := by decide +kernel
theorem d_YearPlan_isFast_61 : decode prog_11_method_26_code 61 = .ok (.aload_n 0, 1) := by decide +kernel
theorem d_YearPlan_isFast_62 : decode prog_11_method_26_code 62 = .ok (.iload_n 1, 1) := by decide +kernel
theorem d_YearPlan_isFast_63 : decode prog_11_method_26_code 63 = .ok (.invokevirtual 234, 3) := by decide +kernel
theorem d_YearPlan_isFast_66 : decode prog_11_method_26_code 66 = .ok (.ifCond .eq 7, 3) := by decide +kernel
theorem d_YearPlan_isFast_69 : decode prog_11_method_26_code 69 = .ok (.iconst 1, 1) := by decide +kernel
theorem d_YearPlan_isFast_70 : decode prog_11_method_26_code 70 = .ok (.goto 4, 3) := by decide +kernel
theorem d_YearPlan_isFast_73 : decode prog_11_method_26_code 73 = .ok (.iconst 0, 1) := by decide +kernel
theorem d_YearPlan_isFast_74 : decode prog_11_method_26_code 74 = .ok (.ireturn, 1) := by decide +kernel
theorem mb_YearPlan_isVigilOfKept : MBv R_YearPlan y_YearPlan_isVigilOfKept prog_11_method_27_code 3 (some .boolean) 1 := ⟨mT6 65 (by decide +kernel) (by decide +kernel), mT6 66 (by decide +kernel) (by decide +kernel), mT1 8 (by decide +kernel) (by decide +kernel), mT6 67 (by decide +kernel) (by decide +kernel), by decide, rfl, by decide +kernel, by decide +kernel, by decide +kernel⟩
theorem fk_YearPlan_228 : Cond.fieldLink "FeastBook$YearPlan" 228 (T_Book 12).1 (T_Book 12).2.1 (T_Book 12).2.2.1 ∈ TT := mT1 186 (by decide +kernel) (by decide +kernel)
theorem fk_YearPlan_231 : Cond.fieldLink "FeastBook$YearPlan" 231 (T_Book 13).1 (T_Book 13).2.1 (T_Book 13).2.2.1 ∈ TT := mT1 190 (by decide +kernel) (by decide +kernel)
theorem lk_YearPlan_234 : Cond.methodLink "FeastBook$YearPlan" 234 y_YearPlan_isVigilOfKept ∈ TT := mT6 64 (by decide +kernel) (by decide +kernel)
set_option maxHeartbeats 4000000 in
set_option maxRecDepth 100000 in
theorem c_YearPlan_isFast {l : Launch} {D : va_G} {ad : Nat → Nat} {cA : Nat → ClassId} {sd sv : Nat → Nat} {h : Hp} {N : Nat} {a1 : Int} {out : Int} (hI : Inj97 ad) (hM : M_YearPlan_isFast N h a1 = some out) : Met l y_YearPlan_isFast (.code y_YearPlan_isFast prog_11_method_26_code 3 (some .boolean) :: TT) (rmD 2) (PC D ad cA sd sv h [.ref (ad 66), .int (iZ a1)]) (QR out) 0 0 (fun _ => False) := by
  unfold M_YearPlan_isFast at hM
  refine entM (by decide +kernel) hI (Nat.le_of_ble_eq_true rfl) ?_
  intro p e s m args below meth c C hr hlk hP ls hl
  have C : Cx p s m args c prog_11_method_26_code 3 "FeastBook$YearPlan" D ad cA sd sv (FA ad) := C
  have hl : lv_has ls 3 [(0, .ref (ad 66)), (1, .int (iZ a1))] := hl
  refine m_aload_n C hl 0 d_YearPlan_isFast_0 rfl rfl ?_
  refine m_getr C hP kc_YearPlan sh_66 (Nat.le_of_ble_eq_true rfl) 0 23 rfl (by decide) fk_YearPlan_30 d_YearPlan_isFast_1 ?_
  refine m_aload_n C hl 0 d_YearPlan_isFast_4 rfl rfl ?_
  refine m_geti C hP kc_YearPlan sh_66 (Nat.le_of_ble_eq_true rfl) 5 rfl (by decide) fk_YearPlan_58 d_YearPlan_isFast_5 ?_
  refine m_iload_n C hl 1 d_YearPlan_isFast_8 rfl rfl ?_
  obtain ⟨x2, e1, hM⟩ := bnd_some hM
  refine aftR (runV C hP va_S.rf kc_Book sh_23 (Nat.le_of_ble_eq_true rfl) (c_Book_weekdayFrom hI (Or.inr (Or.inl rfl)) e1) lk_YearPlan_94 mb_Book_weekdayFrom rfl ⟨Nat.le_of_ble_eq_true rfl, Nat.le_of_ble_eq_true rfl⟩ ⟨Nat.zero_le _, Nat.zero_le _⟩ (Nat.le_of_ble_eq_true rfl) d_YearPlan_isFast_9 hl.1 (rest := []) rfl) ?_
  refine m_istore_n C hl [(2, .int (iZ x2)), (0, .ref (ad 66)), (1, .int (iZ a1))] d_YearPlan_isFast_12 rfl (by decide) rfl (fun ls hl => ?_)
  refine m_iload_n C hl 0 d_YearPlan_isFast_13 rfl rfl ?_
  refine m_if_eq C hM 44 d_YearPlan_isFast_14 (by decide) (fun hM => ?_) (fun hM => ?_)
  · refine m_iconst C d_YearPlan_isFast_44 ?_
    exact m_zretR C hr hlk hM d_YearPlan_isFast_45
  · refine m_aload_n C hl 1 d_YearPlan_isFast_17 rfl rfl ?_
    refine m_iload_n C hl 2 d_YearPlan_isFast_18 rfl rfl ?_
    obtain ⟨x4, e3, hM⟩ := bnd_some hM
    refine aftR (runV C hP va_S.rf kc_YearPlan sh_66 (Nat.le_of_ble_eq_true rfl) (c_YearPlan_hasFeast hI e3) lk_YearPlan_155 mb_YearPlan_hasFeast rfl ⟨Nat.le_of_ble_eq_true rfl, Nat.le_of_ble_eq_true rfl⟩ ⟨Nat.zero_le _, Nat.zero_le _⟩ (Nat.le_of_ble_eq_true rfl) d_YearPlan_isFast_19 hl.1 (rest := []) rfl) ?_
    refine lt_join hM (fun j8 ej hM => ?_)
    have hJ8 : j8  = some out → ∀ ls : Array Slot, lv_has ls 3 [(0, .ref (ad 66)), (1, .int (iZ a1)), (2, .int (iZ x2))] → W p l e (rmD 2) s m args below meth c s.heap [] 0 0 (MQ below (QR out) args s 0 0 (fun _ => False)) (F0 m 46 ls []) := by
      intro  hM ls hl
      subst ej
      skip
      refine m_aload_n C hl 0 d_YearPlan_isFast_46 rfl rfl ?_
      refine m_getr C hP kc_YearPlan sh_66 (Nat.le_of_ble_eq_true rfl) 0 23 rfl (by decide) fk_YearPlan_30 d_YearPlan_isFast_47 ?_
      refine m_geti C hP kc_Book sh_23 (Nat.le_of_ble_eq_true rfl) 13 rfl (by decide) fk_YearPlan_231 d_YearPlan_isFast_50 ?_
      refine m_iload_n C hl 2 d_YearPlan_isFast_53 rfl rfl ?_
      refine m_ishr C d_YearPlan_isFast_54 ?_
      refine m_iconst C d_YearPlan_isFast_55 ?_
      refine m_iand C d_YearPlan_isFast_56 ?_
      refine m_iconst C d_YearPlan_isFast_57 ?_
      refine m_icmp_eq C hM 69 d_YearPlan_isFast_58 (by decide) (fun hM => ?_) (fun hM => ?_)
      · refine m_iconst C d_YearPlan_isFast_69 ?_
        refine m_goto C 74 d_YearPlan_isFast_70 (by decide) ?_
        exact m_zretR C hr hlk hM d_YearPlan_isFast_74
      · refine m_aload_n C hl 0 d_YearPlan_isFast_61 rfl rfl ?_
        refine m_iload_n C hl 1 d_YearPlan_isFast_62 rfl rfl ?_
        obtain ⟨x10, e9, hM⟩ := bnd_some hM
        refine aftR (runV C hP va_S.rf kc_YearPlan sh_66 (Nat.le_of_ble_eq_true rfl) (c_YearPlan_isVigilOfKept hI e9) lk_YearPlan_234 mb_YearPlan_isVigilOfKept rfl ⟨Nat.le_of_ble_eq_true rfl, Nat.le_of_ble_eq_true rfl⟩ ⟨Nat.zero_le _, Nat.zero_le _⟩ (Nat.le_of_ble_eq_true rfl) d_YearPlan_isFast_63 hl.1 (rest := []) rfl) ?_
        refine m_if_eq C hM 73 d_YearPlan_isFast_66 (by decide) (fun hM => ?_) (fun hM => ?_)
        · refine m_iconst C d_YearPlan_isFast_73 ?_
          exact m_zretR C hr hlk hM d_YearPlan_isFast_74
        · refine m_iconst C d_YearPlan_isFast_69 ?_
          refine m_goto C 74 d_YearPlan_isFast_70 (by decide) ?_
          exact m_zretR C hr hlk hM d_YearPlan_isFast_74
    refine m_if_eq C hM 46 d_YearPlan_isFast_22 (by decide) (fun hM => ?_) (fun hM => ?_)
    · exact hJ8  hM _ (lv_sub hl [1, 2, 0] rfl)
    · refine m_aload_n C hl 1 d_YearPlan_isFast_25 rfl rfl ?_
      refine m_getr C hP kc_YearPlan sh_66 (Nat.le_of_ble_eq_true rfl) 7 68 rfl (by decide) fk_YearPlan_15 d_YearPlan_isFast_26 ?_
      refine m_iload_n C hl 2 d_YearPlan_isFast_29 rfl rfl ?_
      refine m_iald C hP sh_68 (Nat.le_of_ble_eq_true rfl) (Nat.le_of_ble_eq_true rfl) hM d_YearPlan_isFast_30 (fun x11 hM => ?_)
      obtain ⟨x13, e12, hM⟩ := bnd_some hM
      refine aftR (runS C hP va_S.rf (c_Cl_rankIn hI e12) lk_YearPlan_188 mb_Cl_rankIn rfl ⟨Nat.le_of_ble_eq_true rfl, Nat.le_of_ble_eq_true rfl⟩ ⟨Nat.zero_le _, Nat.zero_le _⟩ (Nat.le_of_ble_eq_true rfl) d_YearPlan_isFast_31 hl.1 (rest := []) rfl) ?_
      refine m_aload_n C hl 1 d_YearPlan_isFast_34 rfl rfl ?_
      refine m_getr C hP kc_YearPlan sh_66 (Nat.le_of_ble_eq_true rfl) 0 23 rfl (by decide) fk_YearPlan_30 d_YearPlan_isFast_35 ?_
      refine m_geti C hP kc_Book sh_23 (Nat.le_of_ble_eq_true rfl) 12 rfl (by decide) fk_YearPlan_228 d_YearPlan_isFast_38 ?_
      refine m_icmp_lt C hM 46 d_YearPlan_isFast_41 (by decide) (fun hM => ?_) (fun hM => ?_)
      · exact hJ8  hM _ (lv_sub hl [1, 2, 0] rfl)
      · refine m_iconst C d_YearPlan_isFast_44 ?_
        exact m_zretR C hr hlk hM d_YearPlan_isFast_45
def y_YearPlan_fastDays : MethodName := ⟨"FeastBook$YearPlan", "fastDays", "()I"⟩
theorem d_YearPlan_fastDays_0 : decode prog_11_method_28_code 0 = .ok (.iconst 0, 1) := by decide +kernel
theorem d_YearPlan_fastDays_1 : decode prog_11_method_28_code 1 = .ok (.istore_n 1, 1) := by decide +kernel
theorem d_YearPlan_fastDays_2 : decode prog_11_method_28_code 2 = .ok (.iconst 0, 1) := by decide +kernel
theorem d_YearPlan_fastDays_3 : decode prog_11_method_28_code 3 = .ok (.istore_n 2, 1) := by decide +kernel
theorem d_YearPlan_fastDays_4 : decode prog_11_method_28_code 4 = .ok (.iload_n 2, 1) := by decide +kernel
theorem d_YearPlan_fastDays_5 : decode prog_11_method_28_code 5 = .ok (.aload_n 0, 1) := by decide +kernel
theorem d_YearPlan_fastDays_6 : decode prog_11_method_28_code 6 = .ok (.getfield 52, 3) := by decide +kernel
theorem d_YearPlan_fastDays_9 : decode prog_11_method_28_code 9 = .ok (.if_icmp .ge 25, 3) := by decide +kernel
theorem d_YearPlan_fastDays_12 : decode prog_11_method_28_code 12 = .ok (.iload_n 1, 1) := by decide +kernel
theorem d_YearPlan_fastDays_13 : decode prog_11_method_28_code 13 = .ok (.aload_n 0, 1) := by decide +kernel
theorem d_YearPlan_fastDays_14 : decode prog_11_method_28_code 14 = .ok (.iload_n 2, 1) := by decide +kernel
theorem d_YearPlan_fastDays_15 : decode prog_11_method_28_code 15 = .ok (.invokevirtual 237, 3) := by decide +kernel
theorem d_YearPlan_fastDays_18 : decode prog_11_method_28_code 18 = .ok (.ifCond .eq 7, 3) := by decide +kernel
theorem d_YearPlan_fastDays_21 : decode prog_11_method_28_code 21 = .ok (.iconst 1, 1) := by decide +kernel
theorem d_YearPlan_fastDays_22 : decode prog_11_method_28_code 22 = .ok (.goto 4, 3) := by decide +kernel
theorem d_YearPlan_fastDays_25 : decode prog_11_method_28_code 25 = .ok (.iconst 0, 1) := by decide +kernel
theorem d_YearPlan_fastDays_26 : decode prog_11_method_28_code 26 = .ok (.iadd, 1) := by decide +kernel
theorem d_YearPlan_fastDays_27 : decode prog_11_method_28_code 27 = .ok (.istore_n 1, 1) := by decide +kernel
theorem d_YearPlan_fastDays_28 : decode prog_11_method_28_code 28 = .ok (.iinc 2 1, 3) := by decide +kernel
theorem d_YearPlan_fastDays_31 : decode prog_11_method_28_code 31 = .ok (.goto (-27), 3) := by decide +kernel
theorem d_YearPlan_fastDays_34 : decode prog_11_method_28_code 34 = .ok (.iload_n 1, 1) := by decide +kernel
theorem d_YearPlan_fastDays_35 : decode prog_11_method_28_code 35 = .ok (.ireturn, 1) := by decide +kernel
theorem mb_YearPlan_isFast : MBv R_YearPlan y_YearPlan_isFast prog_11_method_26_code 3 (some .boolean) 1 := ⟨mT6 61 (by decide +kernel) (by decide +kernel), mT6 62 (by decide +kernel) (by decide +kernel), mT1 8 (by decide +kernel) (by decide +kernel), mT6 63 (by decide +kernel) (by decide +kernel), by decide, rfl, by decide +kernel, by decide +kernel, by decide +kernel⟩
theorem lk_YearPlan_237 : Cond.methodLink "FeastBook$YearPlan" 237 y_YearPlan_isFast ∈ TT := mT6 60 (by decide +kernel) (by decide +kernel)
set_option maxHeartbeats 4000000 in
set_option maxRecDepth 100000 in
theorem w_YearPlan_fastDays_L4 {p : Program} {l : Launch} {e : Env} {s : State} {m : MethodId} {args : Array Value} {below : List Frame} {meth : Method} {c : Code} {D : va_G} {ad : Nat → Nat} {cA : Nat → ClassId} {sd sv : Nat → Nat} {out : Int} (N : Nat) (hI : Inj97 ad) (C : Cx p s m args c prog_11_method_28_code 3 "FeastBook$YearPlan" D ad cA sd sv (FA ad)) (hr : meth.sig.returnType = (some .int)) (hlk : meth.locks = false) (h : Hp) (hP : va_P D clL (wl ad cA h) s.heap) : ∀ (n : Nat) (v1 v2 : Int), ∀ ls : Array Slot, lv_has ls 3 [(0, .ref (ad 66)), (1, .int (iZ v1)), (2, .int (iZ v2))] → YearPlan_fastDays_L4 N h n v1 v2 = some out → W p l e (rmD 3) s m args below meth c s.heap [] 0 0 (MQ below (QR out) args s 0 0 (fun _ => False)) (F0 m 4 ls []) := by
  intro n
  induction n with
  | zero =>
    intro v1 v2 ls hl hM
    rw [YearPlan_fastDays_L4] at hM
    cases hM
  | succ n ih =>
    intro v1 v2 ls hl hM
    rw [YearPlan_fastDays_L4] at hM
    refine m_iload_n C hl 2 d_YearPlan_fastDays_4 rfl rfl ?_
    refine m_aload_n C hl 0 d_YearPlan_fastDays_5 rfl rfl ?_
    refine m_geti C hP kc_YearPlan sh_66 (Nat.le_of_ble_eq_true rfl) 4 rfl (by decide) fk_YearPlan_52 d_YearPlan_fastDays_6 ?_
    refine m_icmp_ge C hM 34 d_YearPlan_fastDays_9 (by decide) (fun hM => ?_) (fun hM => ?_)
    · refine m_iload_n C hl 1 d_YearPlan_fastDays_34 rfl rfl ?_
      exact m_iretR C hr hlk hM d_YearPlan_fastDays_35
    · refine m_iload_n C hl 1 d_YearPlan_fastDays_12 rfl rfl ?_
      refine m_aload_n C hl 0 d_YearPlan_fastDays_13 rfl rfl ?_
      refine m_iload_n C hl 2 d_YearPlan_fastDays_14 rfl rfl ?_
      obtain ⟨x2, e1, hM⟩ := bnd_some hM
      refine aftR (runV C hP va_S.rf kc_YearPlan sh_66 (Nat.le_of_ble_eq_true rfl) (c_YearPlan_isFast hI e1) lk_YearPlan_237 mb_YearPlan_isFast rfl ⟨Nat.le_of_ble_eq_true rfl, Nat.le_of_ble_eq_true rfl⟩ ⟨Nat.zero_le _, Nat.zero_le _⟩ (Nat.le_of_ble_eq_true rfl) d_YearPlan_fastDays_15 hl.1 (rest := [.int (iZ v1)]) rfl) ?_
      refine m_if_eq C hM 25 d_YearPlan_fastDays_18 (by decide) (fun hM => ?_) (fun hM => ?_)
      · refine m_iconst C d_YearPlan_fastDays_25 ?_
        refine m_iadd C d_YearPlan_fastDays_26 ?_
        refine m_istore_n C hl [(1, .int (iZ (v1 + 0))), (0, .ref (ad 66)), (2, .int (iZ v2))] d_YearPlan_fastDays_27 rfl (by decide) rfl (fun ls hl => ?_)
        refine m_iinc C hl 2 [(2, .int (iZ (v2 + 1))), (1, .int (iZ (v1 + 0))), (0, .ref (ad 66))] d_YearPlan_fastDays_28 rfl (by decide) rfl (fun ls hl => ?_)
        refine m_goto C 4 d_YearPlan_fastDays_31 (by decide) ?_
        exact ih (v1 + 0) (v2 + 1) _ (lv_sub hl [2, 1, 0] rfl) hM
      · refine m_iconst C d_YearPlan_fastDays_21 ?_
        refine m_goto C 26 d_YearPlan_fastDays_22 (by decide) ?_
        refine m_iadd C d_YearPlan_fastDays_26 ?_
        refine m_istore_n C hl [(1, .int (iZ (v1 + 1))), (0, .ref (ad 66)), (2, .int (iZ v2))] d_YearPlan_fastDays_27 rfl (by decide) rfl (fun ls hl => ?_)
        refine m_iinc C hl 2 [(2, .int (iZ (v2 + 1))), (1, .int (iZ (v1 + 1))), (0, .ref (ad 66))] d_YearPlan_fastDays_28 rfl (by decide) rfl (fun ls hl => ?_)
        refine m_goto C 4 d_YearPlan_fastDays_31 (by decide) ?_
        exact ih (v1 + 1) (v2 + 1) _ (lv_sub hl [2, 1, 0] rfl) hM
set_option maxHeartbeats 4000000 in
set_option maxRecDepth 100000 in
theorem c_YearPlan_fastDays {l : Launch} {D : va_G} {ad : Nat → Nat} {cA : Nat → ClassId} {sd sv : Nat → Nat} {h : Hp} {N : Nat} {out : Int} (hI : Inj97 ad) (hM : M_YearPlan_fastDays N h = some out) : Met l y_YearPlan_fastDays (.code y_YearPlan_fastDays prog_11_method_28_code 3 (some .int) :: TT) (rmD 3) (PC D ad cA sd sv h [.ref (ad 66)]) (QR out) 0 0 (fun _ => False) := by
  unfold M_YearPlan_fastDays at hM
  refine entM (by decide +kernel) hI (Nat.le_of_ble_eq_true rfl) ?_
  intro p e s m args below meth c C hr hlk hP ls hl
  have C : Cx p s m args c prog_11_method_28_code 3 "FeastBook$YearPlan" D ad cA sd sv (FA ad) := C
  have hl : lv_has ls 3 [(0, .ref (ad 66))] := hl
  refine m_iconst C d_YearPlan_fastDays_0 ?_
  refine m_istore_n C hl [(1, .int (iZ 0)), (0, .ref (ad 66))] d_YearPlan_fastDays_1 rfl (by decide) rfl (fun ls hl => ?_)
  refine m_iconst C d_YearPlan_fastDays_2 ?_
  refine m_istore_n C hl [(2, .int (iZ 0)), (1, .int (iZ 0)), (0, .ref (ad 66))] d_YearPlan_fastDays_3 rfl (by decide) rfl (fun ls hl => ?_)
  exact w_YearPlan_fastDays_L4 N hI C hr hlk  h hP _ 0 0 _ (lv_sub hl [2, 1, 0] rfl) hM
def y_YearPlan_longestFast : MethodName := ⟨"FeastBook$YearPlan", "longestFast", "()I"⟩
theorem d_YearPlan_longestFast_0 : decode prog_11_method_29_code 0 = .ok (.iconst 0, 1) := by decide +kernel
theorem d_YearPlan_longestFast_1 : decode prog_11_method_29_code 1 = .ok (.istore_n 1, 1) := by decide +kernel
theorem d_YearPlan_longestFast_2 : decode prog_11_method_29_code 2 = .ok (.iconst 0, 1) := by decide +kernel
theorem d_YearPlan_longestFast_3 : decode prog_11_method_29_code 3 = .ok (.istore_n 2, 1) := by decide +kernel
theorem d_YearPlan_longestFast_4 : decode prog_11_method_29_code 4 = .ok (.iconst 0, 1) := by decide +kernel
theorem d_YearPlan_longestFast_5 : decode prog_11_method_29_code 5 = .ok (.istore_n 3, 1) := by decide +kernel
theorem d_YearPlan_longestFast_6 : decode prog_11_method_29_code 6 = .ok (.iload_n 3, 1) := by decide +kernel
theorem d_YearPlan_longestFast_7 : decode prog_11_method_29_code 7 = .ok (.aload_n 0, 1) := by decide +kernel
theorem d_YearPlan_longestFast_8 : decode prog_11_method_29_code 8 = .ok (.getfield 52, 3) := by decide +kernel
theorem d_YearPlan_longestFast_11 : decode prog_11_method_29_code 11 = .ok (.if_icmp .ge 31, 3) := by decide +kernel
theorem d_YearPlan_longestFast_14 : decode prog_11_method_29_code 14 = .ok (.aload_n 0, 1) := by decide +kernel
theorem d_YearPlan_longestFast_15 : decode prog_11_method_29_code 15 = .ok (.iload_n 3, 1) := by decide +kernel
theorem d_YearPlan_longestFast_16 : decode prog_11_method_29_code 16 = .ok (.invokevirtual 237, 3) := by decide +kernel
theorem d_YearPlan_longestFast_19 : decode prog_11_method_29_code 19 = .ok (.ifCond .eq 9, 3) := by decide +kernel
theorem d_YearPlan_longestFast_22 : decode prog_11_method_29_code 22 = .ok (.iload_n 2, 1) := by decide +kernel
theorem d_YearPlan_longestFast_23 : decode prog_11_method_29_code 23 = .ok (.iconst 1, 1) := by decide +kernel
theorem d_YearPlan_longestFast_24 : decode prog_11_method_29_code 24 = .ok (.iadd, 1) := by decide +kernel
theorem d_YearPlan_longestFast_25 : decode prog_11_method_29_code 25 = .ok (.goto 4, 3) := by decide +kernel
theorem d_YearPlan_longestFast_28 : decode prog_11_method_29_code 28 = .ok (.iconst 0, 1) := by decide +kernel
theorem d_YearPlan_longestFast_29 : decode prog_11_method_29_code 29 = .ok (.istore_n 2, 1) := by decide +kernel
theorem d_YearPlan_longestFast_30 : decode prog_11_method_29_code 30 = .ok (.iload_n 1, 1) := by decide +kernel
theorem d_YearPlan_longestFast_31 : decode prog_11_method_29_code 31 = .ok (.iload_n 2, 1) := by decide +kernel
theorem d_YearPlan_longestFast_32 : decode prog_11_method_29_code 32 = .ok (.invokestatic 128, 3) := by decide +kernel
theorem d_YearPlan_longestFast_35 : decode prog_11_method_29_code 35 = .ok (.istore_n 1, 1) := by decide +kernel
theorem d_YearPlan_longestFast_36 : decode prog_11_method_29_code 36 = .ok (.iinc 3 1, 3) := by decide +kernel
theorem d_YearPlan_longestFast_39 : decode prog_11_method_29_code 39 = .ok (.goto (-33), 3) := by decide +kernel
theorem d_YearPlan_longestFast_42 : decode prog_11_method_29_code 42 = .ok (.iload_n 1, 1) := by decide +kernel
theorem d_YearPlan_longestFast_43 : decode prog_11_method_29_code 43 = .ok (.ireturn, 1) := by decide +kernel
set_option maxHeartbeats 4000000 in
set_option maxRecDepth 100000 in
theorem w_YearPlan_longestFast_L6 {p : Program} {l : Launch} {e : Env} {s : State} {m : MethodId} {args : Array Value} {below : List Frame} {meth : Method} {c : Code} {D : va_G} {ad : Nat → Nat} {cA : Nat → ClassId} {sd sv : Nat → Nat} {out : Int} (N : Nat) (hI : Inj97 ad) (C : Cx p s m args c prog_11_method_29_code 4 "FeastBook$YearPlan" D ad cA sd sv (FA ad)) (hr : meth.sig.returnType = (some .int)) (hlk : meth.locks = false) (h : Hp) (hP : va_P D clL (wl ad cA h) s.heap) : ∀ (n : Nat) (v1 v2 v3 : Int), ∀ ls : Array Slot, lv_has ls 4 [(0, .ref (ad 66)), (1, .int (iZ v1)), (2, .int (iZ v2)), (3, .int (iZ v3))] → YearPlan_longestFast_L6 N h n v1 v2 v3 = some out → W p l e (rmD 3) s m args below meth c s.heap [] 0 0 (MQ below (QR out) args s 0 0 (fun _ => False)) (F0 m 6 ls []) := by
  intro n
  induction n with
  | zero =>
    intro v1 v2 v3 ls hl hM
    rw [YearPlan_longestFast_L6] at hM
    cases hM
  | succ n ih =>
    intro v1 v2 v3 ls hl hM
    rw [YearPlan_longestFast_L6] at hM
    refine m_iload_n C hl 3 d_YearPlan_longestFast_6 rfl rfl ?_
    refine m_aload_n C hl 0 d_YearPlan_longestFast_7 rfl rfl ?_
    refine m_geti C hP kc_YearPlan sh_66 (Nat.le_of_ble_eq_true rfl) 4 rfl (by decide) fk_YearPlan_52 d_YearPlan_longestFast_8 ?_
    refine m_icmp_ge C hM 42 d_YearPlan_longestFast_11 (by decide) (fun hM => ?_) (fun hM => ?_)
    · refine m_iload_n C hl 1 d_YearPlan_longestFast_42 rfl rfl ?_
      exact m_iretR C hr hlk hM d_YearPlan_longestFast_43
    · refine m_aload_n C hl 0 d_YearPlan_longestFast_14 rfl rfl ?_
      refine m_iload_n C hl 3 d_YearPlan_longestFast_15 rfl rfl ?_
      obtain ⟨x2, e1, hM⟩ := bnd_some hM
      refine aftR (runV C hP va_S.rf kc_YearPlan sh_66 (Nat.le_of_ble_eq_true rfl) (c_YearPlan_isFast hI e1) lk_YearPlan_237 mb_YearPlan_isFast rfl ⟨Nat.le_of_ble_eq_true rfl, Nat.le_of_ble_eq_true rfl⟩ ⟨Nat.zero_le _, Nat.zero_le _⟩ (Nat.le_of_ble_eq_true rfl) d_YearPlan_longestFast_16 hl.1 (rest := []) rfl) ?_
      refine m_if_eq C hM 28 d_YearPlan_longestFast_19 (by decide) (fun hM => ?_) (fun hM => ?_)
      · refine m_iconst C d_YearPlan_longestFast_28 ?_
        refine m_istore_n C hl [(2, .int (iZ 0)), (0, .ref (ad 66)), (1, .int (iZ v1)), (3, .int (iZ v3))] d_YearPlan_longestFast_29 rfl (by decide) rfl (fun ls hl => ?_)
        refine m_iload_n C hl 2 d_YearPlan_longestFast_30 rfl rfl ?_
        refine m_iload_n C hl 0 d_YearPlan_longestFast_31 rfl rfl ?_
        refine m_max C lk_YearPlan_128 hl.1 (Nat.le_of_ble_eq_true rfl) (Nat.le_of_ble_eq_true rfl) ⟨Nat.zero_le _, Nat.zero_le _⟩ d_YearPlan_longestFast_32 ?_
        refine m_istore_n C hl [(1, .int (iZ (mxI v1 0))), (2, .int (iZ 0)), (0, .ref (ad 66)), (3, .int (iZ v3))] d_YearPlan_longestFast_35 rfl (by decide) rfl (fun ls hl => ?_)
        refine m_iinc C hl 3 [(3, .int (iZ (v3 + 1))), (1, .int (iZ (mxI v1 0))), (2, .int (iZ 0)), (0, .ref (ad 66))] d_YearPlan_longestFast_36 rfl (by decide) rfl (fun ls hl => ?_)
        refine m_goto C 6 d_YearPlan_longestFast_39 (by decide) ?_
        exact ih (mxI v1 0) 0 (v3 + 1) _ (lv_sub hl [3, 1, 2, 0] rfl) hM
      · refine m_iload_n C hl 2 d_YearPlan_longestFast_22 rfl rfl ?_
        refine m_iconst C d_YearPlan_longestFast_23 ?_
        refine m_iadd C d_YearPlan_longestFast_24 ?_
        refine m_goto C 29 d_YearPlan_longestFast_25 (by decide) ?_
        refine m_istore_n C hl [(2, .int (iZ (v2 + 1))), (0, .ref (ad 66)), (1, .int (iZ v1)), (3, .int (iZ v3))] d_YearPlan_longestFast_29 rfl (by decide) rfl (fun ls hl => ?_)
        refine m_iload_n C hl 2 d_YearPlan_longestFast_30 rfl rfl ?_
        refine m_iload_n C hl 0 d_YearPlan_longestFast_31 rfl rfl ?_
        refine m_max C lk_YearPlan_128 hl.1 (Nat.le_of_ble_eq_true rfl) (Nat.le_of_ble_eq_true rfl) ⟨Nat.zero_le _, Nat.zero_le _⟩ d_YearPlan_longestFast_32 ?_
        refine m_istore_n C hl [(1, .int (iZ (mxI v1 (v2 + 1)))), (2, .int (iZ (v2 + 1))), (0, .ref (ad 66)), (3, .int (iZ v3))] d_YearPlan_longestFast_35 rfl (by decide) rfl (fun ls hl => ?_)
        refine m_iinc C hl 3 [(3, .int (iZ (v3 + 1))), (1, .int (iZ (mxI v1 (v2 + 1)))), (2, .int (iZ (v2 + 1))), (0, .ref (ad 66))] d_YearPlan_longestFast_36 rfl (by decide) rfl (fun ls hl => ?_)
        refine m_goto C 6 d_YearPlan_longestFast_39 (by decide) ?_
        exact ih (mxI v1 (v2 + 1)) (v2 + 1) (v3 + 1) _ (lv_sub hl [3, 1, 2, 0] rfl) hM
set_option maxHeartbeats 4000000 in
set_option maxRecDepth 100000 in
theorem c_YearPlan_longestFast {l : Launch} {D : va_G} {ad : Nat → Nat} {cA : Nat → ClassId} {sd sv : Nat → Nat} {h : Hp} {N : Nat} {out : Int} (hI : Inj97 ad) (hM : M_YearPlan_longestFast N h = some out) : Met l y_YearPlan_longestFast (.code y_YearPlan_longestFast prog_11_method_29_code 4 (some .int) :: TT) (rmD 3) (PC D ad cA sd sv h [.ref (ad 66)]) (QR out) 0 0 (fun _ => False) := by
  unfold M_YearPlan_longestFast at hM
  refine entM (by decide +kernel) hI (Nat.le_of_ble_eq_true rfl) ?_
  intro p e s m args below meth c C hr hlk hP ls hl
  have C : Cx p s m args c prog_11_method_29_code 4 "FeastBook$YearPlan" D ad cA sd sv (FA ad) := C
  have hl : lv_has ls 4 [(0, .ref (ad 66))] := hl
  refine m_iconst C d_YearPlan_longestFast_0 ?_
  refine m_istore_n C hl [(1, .int (iZ 0)), (0, .ref (ad 66))] d_YearPlan_longestFast_1 rfl (by decide) rfl (fun ls hl => ?_)
  refine m_iconst C d_YearPlan_longestFast_2 ?_
  refine m_istore_n C hl [(2, .int (iZ 0)), (1, .int (iZ 0)), (0, .ref (ad 66))] d_YearPlan_longestFast_3 rfl (by decide) rfl (fun ls hl => ?_)
  refine m_iconst C d_YearPlan_longestFast_4 ?_
  refine m_istore_n C hl [(3, .int (iZ 0)), (2, .int (iZ 0)), (1, .int (iZ 0)), (0, .ref (ad 66))] d_YearPlan_longestFast_5 rfl (by decide) rfl (fun ls hl => ?_)
  exact w_YearPlan_longestFast_L6 N hI C hr hlk  h hP _ 0 0 0 _ (lv_sub hl [3, 2, 1, 0] rfl) hM
def y_YearPlan_lesserThere : MethodName := ⟨"FeastBook$YearPlan", "lesserThere", "(I)I"⟩
theorem d_YearPlan_lesserThere_0 : decode prog_11_method_31_code 0 = .ok (.iconst 0, 1) := by decide +kernel
theorem d_YearPlan_lesserThere_1 : decode prog_11_method_31_code 1 = .ok (.istore_n 2, 1) := by decide +kernel
theorem d_YearPlan_lesserThere_2 : decode prog_11_method_31_code 2 = .ok (.iconst 0, 1) := by decide +kernel
theorem d_YearPlan_lesserThere_3 : decode prog_11_method_31_code 3 = .ok (.istore_n 3, 1) := by decide +kernel
theorem d_YearPlan_lesserThere_4 : decode prog_11_method_31_code 4 = .ok (.iload_n 3, 1) := by decide +kernel
theorem d_YearPlan_lesserThere_5 : decode prog_11_method_31_code 5 = .ok (.iload_n 1, 1) := by decide +kernel
theorem d_YearPlan_lesserThere_6 : decode prog_11_method_31_code 6 = .ok (.if_icmp .ge 42, 3) := by decide +kernel
theorem d_YearPlan_lesserThere_9 : decode prog_11_method_31_code 9 = .ok (.iload_n 2, 1) := by decide +kernel
theorem d_YearPlan_lesserThere_10 : decode prog_11_method_31_code 10 = .ok (.aload_n 0, 1) := by decide +kernel
theorem d_YearPlan_lesserThere_11 : decode prog_11_method_31_code 11 = .ok (.getfield 18, 3) := by decide +kernel
theorem d_YearPlan_lesserThere_14 : decode prog_11_method_31_code 14 = .ok (.iload_n 1, 1) := by decide +kernel
theorem d_YearPlan_lesserThere_15 : decode prog_11_method_31_code 15 = .ok (.iaload, 1) := by decide +kernel
theorem d_YearPlan_lesserThere_16 : decode prog_11_method_31_code 16 = .ok (.iconst (-1), 1) := by decide +kernel
theorem d_YearPlan_lesserThere_17 : decode prog_11_method_31_code 17 = .ok (.if_icmp .eq 22, 3) := by decide +kernel
theorem d_YearPlan_lesserThere_20 : decode prog_11_method_31_code 20 = .ok (.aload_n 0, 1) := by decide +kernel
theorem d_YearPlan_lesserThere_21 : decode prog_11_method_31_code 21 = .ok (.getfield 18, 3) := by decide +kernel
theorem d_YearPlan_lesserThere_24 : decode prog_11_method_31_code 24 = .ok (.iload_n 3, 1) := by decide +kernel
theorem d_YearPlan_lesserThere_25 : decode prog_11_method_31_code 25 = .ok (.iaload, 1) := by decide +kernel
theorem d_YearPlan_lesserThere_26 : decode prog_11_method_31_code 26 = .ok (.aload_n 0, 1) := by decide +kernel
theorem d_YearPlan_lesserThere_27 : decode prog_11_method_31_code 27 = .ok (.getfield 18, 3) := by decide +kernel
theorem d_YearPlan_lesserThere_30 : decode prog_11_method_31_code 30 = .ok (.iload_n 1, 1) := by decide +kernel
theorem d_YearPlan_lesserThere_31 : decode prog_11_method_31_code 31 = .ok (.iaload, 1) := by decide +kernel
theorem d_YearPlan_lesserThere_32 : decode prog_11_method_31_code 32 = .ok (.if_icmp .ne 7, 3) := by decide +kernel
theorem d_YearPlan_lesserThere_35 : decode prog_11_method_31_code 35 = .ok (.iconst 1, 1) := by decide +kernel
theorem d_YearPlan_lesserThere_36 : decode prog_11_method_31_code 36 = .ok (.goto 4, 3) := by decide +kernel
theorem d_YearPlan_lesserThere_39 : decode prog_11_method_31_code 39 = .ok (.iconst 0, 1) := by decide +kernel
theorem d_YearPlan_lesserThere_40 : decode prog_11_method_31_code 40 = .ok (.iadd, 1) := by decide +kernel
theorem d_YearPlan_lesserThere_41 : decode prog_11_method_31_code 41 = .ok (.istore_n 2, 1) := by decide +kernel
theorem d_YearPlan_lesserThere_42 : decode prog_11_method_31_code 42 = .ok (.iinc 3 1, 3) := by decide +kernel
theorem d_YearPlan_lesserThere_45 : decode prog_11_method_31_code 45 = .ok (.goto (-41), 3) := by decide +kernel
theorem d_YearPlan_lesserThere_48 : decode prog_11_method_31_code 48 = .ok (.iload_n 2, 1) := by decide +kernel
theorem d_YearPlan_lesserThere_49 : decode prog_11_method_31_code 49 = .ok (.ireturn, 1) := by decide +kernel
set_option maxHeartbeats 4000000 in
set_option maxRecDepth 100000 in
theorem w_YearPlan_lesserThere_L4 {p : Program} {l : Launch} {e : Env} {s : State} {m : MethodId} {args : Array Value} {below : List Frame} {meth : Method} {c : Code} {D : va_G} {ad : Nat → Nat} {cA : Nat → ClassId} {sd sv : Nat → Nat} {out : Int} (N : Nat) (hI : Inj97 ad) (C : Cx p s m args c prog_11_method_31_code 4 "FeastBook$YearPlan" D ad cA sd sv (FA ad)) (hr : meth.sig.returnType = (some .int)) (hlk : meth.locks = false) (v1 : Int) (h : Hp) (hP : va_P D clL (wl ad cA h) s.heap) : ∀ (n : Nat) (v2 v3 : Int), ∀ ls : Array Slot, lv_has ls 4 [(0, .ref (ad 66)), (1, .int (iZ v1)), (2, .int (iZ v2)), (3, .int (iZ v3))] → YearPlan_lesserThere_L4 N h v1 n v2 v3 = some out → W p l e (rmD 0) s m args below meth c s.heap [] 0 0 (MQ below (QR out) args s 0 0 (fun _ => False)) (F0 m 4 ls []) := by
  intro n
  induction n with
  | zero =>
    intro v2 v3 ls hl hM
    rw [YearPlan_lesserThere_L4] at hM
    cases hM
  | succ n ih =>
    intro v2 v3 ls hl hM
    rw [YearPlan_lesserThere_L4] at hM
    refine m_iload_n C hl 3 d_YearPlan_lesserThere_4 rfl rfl ?_
    refine m_iload_n C hl 1 d_YearPlan_lesserThere_5 rfl rfl ?_
    refine m_icmp_ge C hM 48 d_YearPlan_lesserThere_6 (by decide) (fun hM => ?_) (fun hM => ?_)
    · refine m_iload_n C hl 2 d_YearPlan_lesserThere_48 rfl rfl ?_
      exact m_iretR C hr hlk hM d_YearPlan_lesserThere_49
    · refine m_iload_n C hl 2 d_YearPlan_lesserThere_9 rfl rfl ?_
      refine m_aload_n C hl 0 d_YearPlan_lesserThere_10 rfl rfl ?_
      refine m_getr C hP kc_YearPlan sh_66 (Nat.le_of_ble_eq_true rfl) 8 69 rfl (by decide) fk_YearPlan_18 d_YearPlan_lesserThere_11 ?_
      refine m_iload_n C hl 1 d_YearPlan_lesserThere_14 rfl rfl ?_
      refine m_iald C hP sh_69 (Nat.le_of_ble_eq_true rfl) (Nat.le_of_ble_eq_true rfl) hM d_YearPlan_lesserThere_15 (fun x1 hM => ?_)
      refine m_iconst C d_YearPlan_lesserThere_16 ?_
      refine m_icmp_eq C hM 39 d_YearPlan_lesserThere_17 (by decide) (fun hM => ?_) (fun hM => ?_)
      · refine m_iconst C d_YearPlan_lesserThere_39 ?_
        refine m_iadd C d_YearPlan_lesserThere_40 ?_
        refine m_istore_n C hl [(2, .int (iZ (v2 + 0))), (0, .ref (ad 66)), (1, .int (iZ v1)), (3, .int (iZ v3))] d_YearPlan_lesserThere_41 rfl (by decide) rfl (fun ls hl => ?_)
        refine m_iinc C hl 3 [(3, .int (iZ (v3 + 1))), (2, .int (iZ (v2 + 0))), (0, .ref (ad 66)), (1, .int (iZ v1))] d_YearPlan_lesserThere_42 rfl (by decide) rfl (fun ls hl => ?_)
        refine m_goto C 4 d_YearPlan_lesserThere_45 (by decide) ?_
        exact ih (v2 + 0) (v3 + 1) _ (lv_sub hl [2, 3, 1, 0] rfl) hM
      · refine m_aload_n C hl 0 d_YearPlan_lesserThere_20 rfl rfl ?_
        refine m_getr C hP kc_YearPlan sh_66 (Nat.le_of_ble_eq_true rfl) 8 69 rfl (by decide) fk_YearPlan_18 d_YearPlan_lesserThere_21 ?_
        refine m_iload_n C hl 3 d_YearPlan_lesserThere_24 rfl rfl ?_
        refine m_iald C hP sh_69 (Nat.le_of_ble_eq_true rfl) (Nat.le_of_ble_eq_true rfl) hM d_YearPlan_lesserThere_25 (fun x2 hM => ?_)
        refine m_aload_n C hl 0 d_YearPlan_lesserThere_26 rfl rfl ?_
        refine m_getr C hP kc_YearPlan sh_66 (Nat.le_of_ble_eq_true rfl) 8 69 rfl (by decide) fk_YearPlan_18 d_YearPlan_lesserThere_27 ?_
        refine m_iload_n C hl 1 d_YearPlan_lesserThere_30 rfl rfl ?_
        refine m_iald C hP sh_69 (Nat.le_of_ble_eq_true rfl) (Nat.le_of_ble_eq_true rfl) hM d_YearPlan_lesserThere_31 (fun x3 hM => ?_)
        refine m_icmp_ne C hM 39 d_YearPlan_lesserThere_32 (by decide) (fun hM => ?_) (fun hM => ?_)
        · refine m_iconst C d_YearPlan_lesserThere_39 ?_
          refine m_iadd C d_YearPlan_lesserThere_40 ?_
          refine m_istore_n C hl [(2, .int (iZ (v2 + 0))), (0, .ref (ad 66)), (1, .int (iZ v1)), (3, .int (iZ v3))] d_YearPlan_lesserThere_41 rfl (by decide) rfl (fun ls hl => ?_)
          refine m_iinc C hl 3 [(3, .int (iZ (v3 + 1))), (2, .int (iZ (v2 + 0))), (0, .ref (ad 66)), (1, .int (iZ v1))] d_YearPlan_lesserThere_42 rfl (by decide) rfl (fun ls hl => ?_)
          refine m_goto C 4 d_YearPlan_lesserThere_45 (by decide) ?_
          exact ih (v2 + 0) (v3 + 1) _ (lv_sub hl [2, 3, 1, 0] rfl) hM
        · refine m_iconst C d_YearPlan_lesserThere_35 ?_
          refine m_goto C 40 d_YearPlan_lesserThere_36 (by decide) ?_
          refine m_iadd C d_YearPlan_lesserThere_40 ?_
          refine m_istore_n C hl [(2, .int (iZ (v2 + 1))), (0, .ref (ad 66)), (1, .int (iZ v1)), (3, .int (iZ v3))] d_YearPlan_lesserThere_41 rfl (by decide) rfl (fun ls hl => ?_)
          refine m_iinc C hl 3 [(3, .int (iZ (v3 + 1))), (2, .int (iZ (v2 + 1))), (0, .ref (ad 66)), (1, .int (iZ v1))] d_YearPlan_lesserThere_42 rfl (by decide) rfl (fun ls hl => ?_)
          refine m_goto C 4 d_YearPlan_lesserThere_45 (by decide) ?_
          exact ih (v2 + 1) (v3 + 1) _ (lv_sub hl [2, 3, 1, 0] rfl) hM
set_option maxHeartbeats 4000000 in
set_option maxRecDepth 100000 in
theorem c_YearPlan_lesserThere {l : Launch} {D : va_G} {ad : Nat → Nat} {cA : Nat → ClassId} {sd sv : Nat → Nat} {h : Hp} {N : Nat} {a1 : Int} {out : Int} (hI : Inj97 ad) (hM : M_YearPlan_lesserThere N h a1 = some out) : Met l y_YearPlan_lesserThere (.code y_YearPlan_lesserThere prog_11_method_31_code 4 (some .int) :: TT) (rmD 0) (PC D ad cA sd sv h [.ref (ad 66), .int (iZ a1)]) (QR out) 0 0 (fun _ => False) := by
  unfold M_YearPlan_lesserThere at hM
  refine entM (by decide +kernel) hI (Nat.le_of_ble_eq_true rfl) ?_
  intro p e s m args below meth c C hr hlk hP ls hl
  have C : Cx p s m args c prog_11_method_31_code 4 "FeastBook$YearPlan" D ad cA sd sv (FA ad) := C
  have hl : lv_has ls 4 [(0, .ref (ad 66)), (1, .int (iZ a1))] := hl
  refine m_iconst C d_YearPlan_lesserThere_0 ?_
  refine m_istore_n C hl [(2, .int (iZ 0)), (0, .ref (ad 66)), (1, .int (iZ a1))] d_YearPlan_lesserThere_1 rfl (by decide) rfl (fun ls hl => ?_)
  refine m_iconst C d_YearPlan_lesserThere_2 ?_
  refine m_istore_n C hl [(3, .int (iZ 0)), (2, .int (iZ 0)), (0, .ref (ad 66)), (1, .int (iZ a1))] d_YearPlan_lesserThere_3 rfl (by decide) rfl (fun ls hl => ?_)
  exact w_YearPlan_lesserThere_L4 N hI C hr hlk a1 h hP _ 0 0 _ (lv_sub hl [2, 3, 1, 0] rfl) hM
def y_YearPlan_meetings : MethodName := ⟨"FeastBook$YearPlan", "meetings", "()I"⟩
theorem d_YearPlan_meetings_0 : decode prog_11_method_30_code 0 = .ok (.iconst 0, 1) := by decide +kernel
theorem d_YearPlan_meetings_1 : decode prog_11_method_30_code 1 = .ok (.istore_n 1, 1) := by decide +kernel
theorem d_YearPlan_meetings_2 : decode prog_11_method_30_code 2 = .ok (.iconst 0, 1) := by decide +kernel
theorem d_YearPlan_meetings_3 : decode prog_11_method_30_code 3 = .ok (.istore_n 2, 1) := by decide +kernel
theorem d_YearPlan_meetings_4 : decode prog_11_method_30_code 4 = .ok (.iload_n 2, 1) := by decide +kernel
theorem d_YearPlan_meetings_5 : decode prog_11_method_30_code 5 = .ok (.aload_n 0, 1) := by decide +kernel
theorem d_YearPlan_meetings_6 : decode prog_11_method_30_code 6 = .ok (.getfield 40, 3) := by decide +kernel
theorem d_YearPlan_meetings_9 : decode prog_11_method_30_code 9 = .ok (.getfield 61, 3) := by decide +kernel
theorem d_YearPlan_meetings_12 : decode prog_11_method_30_code 12 = .ok (.if_icmp .ge 26, 3) := by decide +kernel
theorem d_YearPlan_meetings_15 : decode prog_11_method_30_code 15 = .ok (.iload_n 1, 1) := by decide +kernel
theorem d_YearPlan_meetings_16 : decode prog_11_method_30_code 16 = .ok (.aload_n 0, 1) := by decide +kernel
theorem d_YearPlan_meetings_17 : decode prog_11_method_30_code 17 = .ok (.iload_n 2, 1) := by decide +kernel
theorem d_YearPlan_meetings_18 : decode prog_11_method_30_code 18 = .ok (.invokevirtual 240, 3) := by decide +kernel
theorem d_YearPlan_meetings_21 : decode prog_11_method_30_code 21 = .ok (.iconst 1, 1) := by decide +kernel
theorem d_YearPlan_meetings_22 : decode prog_11_method_30_code 22 = .ok (.if_icmp .ne 7, 3) := by decide +kernel
theorem d_YearPlan_meetings_25 : decode prog_11_method_30_code 25 = .ok (.iconst 1, 1) := by decide +kernel
theorem d_YearPlan_meetings_26 : decode prog_11_method_30_code 26 = .ok (.goto 4, 3) := by decide +kernel
theorem d_YearPlan_meetings_29 : decode prog_11_method_30_code 29 = .ok (.iconst 0, 1) := by decide +kernel
theorem d_YearPlan_meetings_30 : decode prog_11_method_30_code 30 = .ok (.iadd, 1) := by decide +kernel
theorem d_YearPlan_meetings_31 : decode prog_11_method_30_code 31 = .ok (.istore_n 1, 1) := by decide +kernel
theorem d_YearPlan_meetings_32 : decode prog_11_method_30_code 32 = .ok (.iinc 2 1, 3) := by decide +kernel
theorem d_YearPlan_meetings_35 : decode prog_11_method_30_code 35 = .ok (.goto (-31), 3) := by decide +kernel
theorem d_YearPlan_meetings_38 : decode prog_11_method_30_code 38 = .ok (.iload_n 1, 1) := by decide +kernel
theorem d_YearPlan_meetings_39 : decode prog_11_method_30_code 39 = .ok (.ireturn, 1) := by decide +kernel
theorem mb_YearPlan_lesserThere : MBv R_YearPlan y_YearPlan_lesserThere prog_11_method_31_code 4 (some .int) 1 := ⟨mT6 77 (by decide +kernel) (by decide +kernel), mT6 78 (by decide +kernel) (by decide +kernel), mT1 8 (by decide +kernel) (by decide +kernel), mT6 79 (by decide +kernel) (by decide +kernel), by decide, rfl, by decide +kernel, by decide +kernel, by decide +kernel⟩
theorem lk_YearPlan_240 : Cond.methodLink "FeastBook$YearPlan" 240 y_YearPlan_lesserThere ∈ TT := mT6 76 (by decide +kernel) (by decide +kernel)
set_option maxHeartbeats 4000000 in
set_option maxRecDepth 100000 in
theorem w_YearPlan_meetings_L4 {p : Program} {l : Launch} {e : Env} {s : State} {m : MethodId} {args : Array Value} {below : List Frame} {meth : Method} {c : Code} {D : va_G} {ad : Nat → Nat} {cA : Nat → ClassId} {sd sv : Nat → Nat} {out : Int} (N : Nat) (hI : Inj97 ad) (C : Cx p s m args c prog_11_method_30_code 3 "FeastBook$YearPlan" D ad cA sd sv (FA ad)) (hr : meth.sig.returnType = (some .int)) (hlk : meth.locks = false) (h : Hp) (hP : va_P D clL (wl ad cA h) s.heap) : ∀ (n : Nat) (v1 v2 : Int), ∀ ls : Array Slot, lv_has ls 3 [(0, .ref (ad 66)), (1, .int (iZ v1)), (2, .int (iZ v2))] → YearPlan_meetings_L4 N h n v1 v2 = some out → W p l e (rmD 1) s m args below meth c s.heap [] 0 0 (MQ below (QR out) args s 0 0 (fun _ => False)) (F0 m 4 ls []) := by
  intro n
  induction n with
  | zero =>
    intro v1 v2 ls hl hM
    rw [YearPlan_meetings_L4] at hM
    cases hM
  | succ n ih =>
    intro v1 v2 ls hl hM
    rw [YearPlan_meetings_L4] at hM
    refine m_iload_n C hl 2 d_YearPlan_meetings_4 rfl rfl ?_
    refine m_aload_n C hl 0 d_YearPlan_meetings_5 rfl rfl ?_
    refine m_getr C hP kc_YearPlan sh_66 (Nat.le_of_ble_eq_true rfl) 1 33 rfl (by decide) fk_YearPlan_40 d_YearPlan_meetings_6 ?_
    refine m_geti C hP kc_Feasts sh_33 (Nat.le_of_ble_eq_true rfl) 0 rfl (by decide) fk_YearPlan_61 d_YearPlan_meetings_9 ?_
    refine m_icmp_ge C hM 38 d_YearPlan_meetings_12 (by decide) (fun hM => ?_) (fun hM => ?_)
    · refine m_iload_n C hl 1 d_YearPlan_meetings_38 rfl rfl ?_
      exact m_iretR C hr hlk hM d_YearPlan_meetings_39
    · refine m_iload_n C hl 1 d_YearPlan_meetings_15 rfl rfl ?_
      refine m_aload_n C hl 0 d_YearPlan_meetings_16 rfl rfl ?_
      refine m_iload_n C hl 2 d_YearPlan_meetings_17 rfl rfl ?_
      obtain ⟨x2, e1, hM⟩ := bnd_some hM
      refine aftR (runV C hP va_S.rf kc_YearPlan sh_66 (Nat.le_of_ble_eq_true rfl) (c_YearPlan_lesserThere hI e1) lk_YearPlan_240 mb_YearPlan_lesserThere rfl ⟨Nat.le_of_ble_eq_true rfl, Nat.le_of_ble_eq_true rfl⟩ ⟨Nat.zero_le _, Nat.zero_le _⟩ (Nat.le_of_ble_eq_true rfl) d_YearPlan_meetings_18 hl.1 (rest := [.int (iZ v1)]) rfl) ?_
      refine m_iconst C d_YearPlan_meetings_21 ?_
      refine m_icmp_ne C hM 29 d_YearPlan_meetings_22 (by decide) (fun hM => ?_) (fun hM => ?_)
      · refine m_iconst C d_YearPlan_meetings_29 ?_
        refine m_iadd C d_YearPlan_meetings_30 ?_
        refine m_istore_n C hl [(1, .int (iZ (v1 + 0))), (0, .ref (ad 66)), (2, .int (iZ v2))] d_YearPlan_meetings_31 rfl (by decide) rfl (fun ls hl => ?_)
        refine m_iinc C hl 2 [(2, .int (iZ (v2 + 1))), (1, .int (iZ (v1 + 0))), (0, .ref (ad 66))] d_YearPlan_meetings_32 rfl (by decide) rfl (fun ls hl => ?_)
        refine m_goto C 4 d_YearPlan_meetings_35 (by decide) ?_
        exact ih (v1 + 0) (v2 + 1) _ (lv_sub hl [2, 1, 0] rfl) hM
      · refine m_iconst C d_YearPlan_meetings_25 ?_
        refine m_goto C 30 d_YearPlan_meetings_26 (by decide) ?_
        refine m_iadd C d_YearPlan_meetings_30 ?_
        refine m_istore_n C hl [(1, .int (iZ (v1 + 1))), (0, .ref (ad 66)), (2, .int (iZ v2))] d_YearPlan_meetings_31 rfl (by decide) rfl (fun ls hl => ?_)
        refine m_iinc C hl 2 [(2, .int (iZ (v2 + 1))), (1, .int (iZ (v1 + 1))), (0, .ref (ad 66))] d_YearPlan_meetings_32 rfl (by decide) rfl (fun ls hl => ?_)
        refine m_goto C 4 d_YearPlan_meetings_35 (by decide) ?_
        exact ih (v1 + 1) (v2 + 1) _ (lv_sub hl [2, 1, 0] rfl) hM
set_option maxHeartbeats 4000000 in
set_option maxRecDepth 100000 in
theorem c_YearPlan_meetings {l : Launch} {D : va_G} {ad : Nat → Nat} {cA : Nat → ClassId} {sd sv : Nat → Nat} {h : Hp} {N : Nat} {out : Int} (hI : Inj97 ad) (hM : M_YearPlan_meetings N h = some out) : Met l y_YearPlan_meetings (.code y_YearPlan_meetings prog_11_method_30_code 3 (some .int) :: TT) (rmD 1) (PC D ad cA sd sv h [.ref (ad 66)]) (QR out) 0 0 (fun _ => False) := by
  unfold M_YearPlan_meetings at hM
  refine entM (by decide +kernel) hI (Nat.le_of_ble_eq_true rfl) ?_
  intro p e s m args below meth c C hr hlk hP ls hl
  have C : Cx p s m args c prog_11_method_30_code 3 "FeastBook$YearPlan" D ad cA sd sv (FA ad) := C
  have hl : lv_has ls 3 [(0, .ref (ad 66))] := hl
  refine m_iconst C d_YearPlan_meetings_0 ?_
  refine m_istore_n C hl [(1, .int (iZ 0)), (0, .ref (ad 66))] d_YearPlan_meetings_1 rfl (by decide) rfl (fun ls hl => ?_)
  refine m_iconst C d_YearPlan_meetings_2 ?_
  refine m_istore_n C hl [(2, .int (iZ 0)), (1, .int (iZ 0)), (0, .ref (ad 66))] d_YearPlan_meetings_3 rfl (by decide) rfl (fun ls hl => ?_)
  exact w_YearPlan_meetings_L4 N hI C hr hlk  h hP _ 0 0 _ (lv_sub hl [2, 1, 0] rfl) hM
def y_YearPlan_weightOf : MethodName := ⟨"FeastBook$YearPlan", "weightOf", "(II)I"⟩
theorem d_YearPlan_weightOf_0 : decode prog_11_method_32_code 0 = .ok (.iconst 0, 1) := by decide +kernel
theorem d_YearPlan_weightOf_1 : decode prog_11_method_32_code 1 = .ok (.istore_n 3, 1) := by decide +kernel
theorem d_YearPlan_weightOf_2 : decode prog_11_method_32_code 2 = .ok (.iload_n 1, 1) := by decide +kernel
theorem d_YearPlan_weightOf_3 : decode prog_11_method_32_code 3 = .ok (.istore 4, 2) := by decide +kernel
theorem d_YearPlan_weightOf_5 : decode prog_11_method_32_code 5 = .ok (.iload 4, 2) := by decide +kernel
theorem d_YearPlan_weightOf_7 : decode prog_11_method_32_code 7 = .ok (.iload_n 1, 1) := by decide +kernel
theorem d_YearPlan_weightOf_8 : decode prog_11_method_32_code 8 = .ok (.iload_n 2, 1) := by decide +kernel
theorem d_YearPlan_weightOf_9 : decode prog_11_method_32_code 9 = .ok (.iadd, 1) := by decide +kernel
theorem d_YearPlan_weightOf_10 : decode prog_11_method_32_code 10 = .ok (.if_icmp .ge 31, 3) := by decide +kernel
theorem d_YearPlan_weightOf_13 : decode prog_11_method_32_code 13 = .ok (.iload 4, 2) := by decide +kernel
theorem d_YearPlan_weightOf_15 : decode prog_11_method_32_code 15 = .ok (.aload_n 0, 1) := by decide +kernel
theorem d_YearPlan_weightOf_16 : decode prog_11_method_32_code 16 = .ok (.getfield 52, 3) := by decide +kernel
theorem d_YearPlan_weightOf_19 : decode prog_11_method_32_code 19 = .ok (.if_icmp .ge 22, 3) := by decide +kernel
theorem d_YearPlan_weightOf_22 : decode prog_11_method_32_code 22 = .ok (.iload_n 3, 1) := by decide +kernel
theorem d_YearPlan_weightOf_23 : decode prog_11_method_32_code 23 = .ok (.aload_n 0, 1) := by decide +kernel
theorem d_YearPlan_weightOf_24 : decode prog_11_method_32_code 24 = .ok (.getfield 15, 3) := by decide +kernel
theorem d_YearPlan_weightOf_27 : decode prog_11_method_32_code 27 = .ok (.iload 4, 2) := by decide +kernel
theorem d_YearPlan_weightOf_29 : decode prog_11_method_32_code 29 = .ok (.iaload, 1) := by decide +kernel
theorem d_YearPlan_weightOf_30 : decode prog_11_method_32_code 30 = .ok (.invokestatic 188, 3) := by decide +kernel
theorem d_YearPlan_weightOf_33 : decode prog_11_method_32_code 33 = .ok (.iadd, 1) := by decide +kernel
theorem d_YearPlan_weightOf_34 : decode prog_11_method_32_code 34 = .ok (.istore_n 3, 1) := by decide +kernel
theorem d_YearPlan_weightOf_35 : decode prog_11_method_32_code 35 = .ok (.iinc 4 1, 3) := by decide +kernel
theorem d_YearPlan_weightOf_38 : decode prog_11_method_32_code 38 = .ok (.goto (-33), 3) := by decide +kernel
theorem d_YearPlan_weightOf_41 : decode prog_11_method_32_code 41 = .ok (.iload_n 3, 1) := by decide +kernel
theorem d_YearPlan_weightOf_42 : decode prog_11_method_32_code 42 = .ok (.ireturn, 1) := by decide +kernel
set_option maxHeartbeats 4000000 in
set_option maxRecDepth 100000 in
theorem w_YearPlan_weightOf_L5 {p : Program} {l : Launch} {e : Env} {s : State} {m : MethodId} {args : Array Value} {below : List Frame} {meth : Method} {c : Code} {D : va_G} {ad : Nat → Nat} {cA : Nat → ClassId} {sd sv : Nat → Nat} {out : Int} (N : Nat) (hI : Inj97 ad) (C : Cx p s m args c prog_11_method_32_code 5 "FeastBook$YearPlan" D ad cA sd sv (FA ad)) (hr : meth.sig.returnType = (some .int)) (hlk : meth.locks = false) (v1 v2 : Int) (h : Hp) (hP : va_P D clL (wl ad cA h) s.heap) : ∀ (n : Nat) (v3 v4 : Int), ∀ ls : Array Slot, lv_has ls 5 [(0, .ref (ad 66)), (1, .int (iZ v1)), (2, .int (iZ v2)), (3, .int (iZ v3)), (4, .int (iZ v4))] → YearPlan_weightOf_L5 N h v1 v2 n v3 v4 = some out → W p l e (rmD 1) s m args below meth c s.heap [] 0 0 (MQ below (QR out) args s 0 0 (fun _ => False)) (F0 m 5 ls []) := by
  intro n
  induction n with
  | zero =>
    intro v3 v4 ls hl hM
    rw [YearPlan_weightOf_L5] at hM
    cases hM
  | succ n ih =>
    intro v3 v4 ls hl hM
    rw [YearPlan_weightOf_L5] at hM
    refine m_iload C hl 4 d_YearPlan_weightOf_5 rfl ?_
    refine m_iload_n C hl 1 d_YearPlan_weightOf_7 rfl rfl ?_
    refine m_iload_n C hl 2 d_YearPlan_weightOf_8 rfl rfl ?_
    refine m_iadd C d_YearPlan_weightOf_9 ?_
    refine m_icmp_ge C hM 41 d_YearPlan_weightOf_10 (by decide) (fun hM => ?_) (fun hM => ?_)
    · refine m_iload_n C hl 3 d_YearPlan_weightOf_41 rfl rfl ?_
      exact m_iretR C hr hlk hM d_YearPlan_weightOf_42
    · refine m_iload C hl 4 d_YearPlan_weightOf_13 rfl ?_
      refine m_aload_n C hl 0 d_YearPlan_weightOf_15 rfl rfl ?_
      refine m_geti C hP kc_YearPlan sh_66 (Nat.le_of_ble_eq_true rfl) 4 rfl (by decide) fk_YearPlan_52 d_YearPlan_weightOf_16 ?_
      refine m_icmp_ge C hM 41 d_YearPlan_weightOf_19 (by decide) (fun hM => ?_) (fun hM => ?_)
      · refine m_iload_n C hl 3 d_YearPlan_weightOf_41 rfl rfl ?_
        exact m_iretR C hr hlk hM d_YearPlan_weightOf_42
      · refine m_iload_n C hl 3 d_YearPlan_weightOf_22 rfl rfl ?_
        refine m_aload_n C hl 0 d_YearPlan_weightOf_23 rfl rfl ?_
        refine m_getr C hP kc_YearPlan sh_66 (Nat.le_of_ble_eq_true rfl) 7 68 rfl (by decide) fk_YearPlan_15 d_YearPlan_weightOf_24 ?_
        refine m_iload C hl 4 d_YearPlan_weightOf_27 rfl ?_
        refine m_iald C hP sh_68 (Nat.le_of_ble_eq_true rfl) (Nat.le_of_ble_eq_true rfl) hM d_YearPlan_weightOf_29 (fun x1 hM => ?_)
        obtain ⟨x3, e2, hM⟩ := bnd_some hM
        refine aftR (runS C hP va_S.rf (c_Cl_rankIn hI e2) lk_YearPlan_188 mb_Cl_rankIn rfl ⟨Nat.le_of_ble_eq_true rfl, Nat.le_of_ble_eq_true rfl⟩ ⟨Nat.zero_le _, Nat.zero_le _⟩ (Nat.le_of_ble_eq_true rfl) d_YearPlan_weightOf_30 hl.1 (rest := [.int (iZ v3)]) rfl) ?_
        refine m_iadd C d_YearPlan_weightOf_33 ?_
        refine m_istore_n C hl [(3, .int (iZ (v3 + x3))), (0, .ref (ad 66)), (1, .int (iZ v1)), (2, .int (iZ v2)), (4, .int (iZ v4))] d_YearPlan_weightOf_34 rfl (by decide) rfl (fun ls hl => ?_)
        refine m_iinc C hl 4 [(4, .int (iZ (v4 + 1))), (3, .int (iZ (v3 + x3))), (0, .ref (ad 66)), (1, .int (iZ v1)), (2, .int (iZ v2))] d_YearPlan_weightOf_35 rfl (by decide) rfl (fun ls hl => ?_)
        refine m_goto C 5 d_YearPlan_weightOf_38 (by decide) ?_
        exact ih (v3 + x3) (v4 + 1) _ (lv_sub hl [2, 3, 4, 1, 0] rfl) hM
set_option maxHeartbeats 4000000 in
set_option maxRecDepth 100000 in
theorem c_YearPlan_weightOf {l : Launch} {D : va_G} {ad : Nat → Nat} {cA : Nat → ClassId} {sd sv : Nat → Nat} {h : Hp} {N : Nat} {a1 a2 : Int} {out : Int} (hI : Inj97 ad) (hM : M_YearPlan_weightOf N h a1 a2 = some out) : Met l y_YearPlan_weightOf (.code y_YearPlan_weightOf prog_11_method_32_code 5 (some .int) :: TT) (rmD 1) (PC D ad cA sd sv h [.ref (ad 66), .int (iZ a1), .int (iZ a2)]) (QR out) 0 0 (fun _ => False) := by
  unfold M_YearPlan_weightOf at hM
  refine entM (by decide +kernel) hI (Nat.le_of_ble_eq_true rfl) ?_
  intro p e s m args below meth c C hr hlk hP ls hl
  have C : Cx p s m args c prog_11_method_32_code 5 "FeastBook$YearPlan" D ad cA sd sv (FA ad) := C
  have hl : lv_has ls 5 [(0, .ref (ad 66)), (1, .int (iZ a1)), (2, .int (iZ a2))] := hl
  refine m_iconst C d_YearPlan_weightOf_0 ?_
  refine m_istore_n C hl [(3, .int (iZ 0)), (0, .ref (ad 66)), (1, .int (iZ a1)), (2, .int (iZ a2))] d_YearPlan_weightOf_1 rfl (by decide) rfl (fun ls hl => ?_)
  refine m_iload_n C hl 2 d_YearPlan_weightOf_2 rfl rfl ?_
  refine m_istore C hl [(4, .int (iZ a1)), (3, .int (iZ 0)), (0, .ref (ad 66)), (1, .int (iZ a1)), (2, .int (iZ a2))] d_YearPlan_weightOf_3 (by decide) rfl (fun ls hl => ?_)
  exact w_YearPlan_weightOf_L5 N hI C hr hlk a1 a2 h hP _ 0 a1 _ (lv_sub hl [2, 3, 4, 1, 0] rfl) hM
def y_YearPlan_measure : MethodName := ⟨"FeastBook$YearPlan", "measure", "(I)I"⟩
theorem d_YearPlan_measure_0 : decode prog_11_method_22_code 0 = .ok (.iload_n 1, 1) := by decide +kernel
theorem d_YearPlan_measure_1 : decode prog_11_method_22_code 1 = .ok (.tableswitch 69 4 9 #[39, 49, 69, 54, 59, 64], 39) := by decide +kernel
theorem d_YearPlan_measure_40 : decode prog_11_method_22_code 40 = .ok (.aload_n 0, 1) := by decide +kernel
theorem d_YearPlan_measure_41 : decode prog_11_method_22_code 41 = .ok (.iconst 0, 1) := by decide +kernel
theorem d_YearPlan_measure_42 : decode prog_11_method_22_code 42 = .ok (.aload_n 0, 1) := by decide +kernel
theorem d_YearPlan_measure_43 : decode prog_11_method_22_code 43 = .ok (.getfield 52, 3) := by decide +kernel
theorem d_YearPlan_measure_46 : decode prog_11_method_22_code 46 = .ok (.invokevirtual 206, 3) := by decide +kernel
theorem d_YearPlan_measure_49 : decode prog_11_method_22_code 49 = .ok (.ireturn, 1) := by decide +kernel
theorem d_YearPlan_measure_50 : decode prog_11_method_22_code 50 = .ok (.aload_n 0, 1) := by decide +kernel
theorem d_YearPlan_measure_51 : decode prog_11_method_22_code 51 = .ok (.invokevirtual 209, 3) := by decide +kernel
theorem d_YearPlan_measure_54 : decode prog_11_method_22_code 54 = .ok (.ireturn, 1) := by decide +kernel
theorem d_YearPlan_measure_55 : decode prog_11_method_22_code 55 = .ok (.aload_n 0, 1) := by decide +kernel
theorem d_YearPlan_measure_56 : decode prog_11_method_22_code 56 = .ok (.invokevirtual 213, 3) := by decide +kernel
theorem d_YearPlan_measure_59 : decode prog_11_method_22_code 59 = .ok (.ireturn, 1) := by decide +kernel
theorem d_YearPlan_measure_60 : decode prog_11_method_22_code 60 = .ok (.aload_n 0, 1) := by decide +kernel
theorem d_YearPlan_measure_61 : decode prog_11_method_22_code 61 = .ok (.invokevirtual 216, 3) := by decide +kernel
theorem d_YearPlan_measure_64 : decode prog_11_method_22_code 64 = .ok (.ireturn, 1) := by decide +kernel
theorem d_YearPlan_measure_65 : decode prog_11_method_22_code 65 = .ok (.aload_n 0, 1) := by decide +kernel
theorem d_YearPlan_measure_66 : decode prog_11_method_22_code 66 = .ok (.invokevirtual 219, 3) := by decide +kernel
theorem d_YearPlan_measure_69 : decode prog_11_method_22_code 69 = .ok (.ireturn, 1) := by decide +kernel
theorem d_YearPlan_measure_70 : decode prog_11_method_22_code 70 = .ok (.aload_n 0, 1) := by decide +kernel
theorem d_YearPlan_measure_71 : decode prog_11_method_22_code 71 = .ok (.iconst 0, 1) := by decide +kernel
theorem d_YearPlan_measure_72 : decode prog_11_method_22_code 72 = .ok (.aload_n 0, 1) := by decide +kernel
theorem d_YearPlan_measure_73 : decode prog_11_method_22_code 73 = .ok (.getfield 52, 3) := by decide +kernel
theorem d_YearPlan_measure_76 : decode prog_11_method_22_code 76 = .ok (.invokevirtual 222, 3) := by decide +kernel
theorem d_YearPlan_measure_79 : decode prog_11_method_22_code 79 = .ok (.ireturn, 1) := by decide +kernel
theorem mb_YearPlan_fastDays : MBv R_YearPlan y_YearPlan_fastDays prog_11_method_28_code 3 (some .int) 0 := ⟨mT6 57 (by decide +kernel) (by decide +kernel), mT6 58 (by decide +kernel) (by decide +kernel), mT1 8 (by decide +kernel) (by decide +kernel), mT6 59 (by decide +kernel) (by decide +kernel), by decide, rfl, by decide +kernel, by decide +kernel, by decide +kernel⟩
theorem mb_YearPlan_longestFast : MBv R_YearPlan y_YearPlan_longestFast prog_11_method_29_code 4 (some .int) 0 := ⟨mT6 69 (by decide +kernel) (by decide +kernel), mT6 70 (by decide +kernel) (by decide +kernel), mT1 8 (by decide +kernel) (by decide +kernel), mT6 71 (by decide +kernel) (by decide +kernel), by decide, rfl, by decide +kernel, by decide +kernel, by decide +kernel⟩
theorem mb_YearPlan_longestPlain : MBv R_YearPlan y_YearPlan_longestPlain prog_11_method_25_code 4 (some .int) 0 := ⟨mT6 53 (by decide +kernel) (by decide +kernel), mT6 54 (by decide +kernel) (by decide +kernel), mT1 8 (by decide +kernel) (by decide +kernel), mT6 55 (by decide +kernel) (by decide +kernel), by decide, rfl, by decide +kernel, by decide +kernel, by decide +kernel⟩
theorem mb_YearPlan_meetings : MBv R_YearPlan y_YearPlan_meetings prog_11_method_30_code 3 (some .int) 0 := ⟨mT6 73 (by decide +kernel) (by decide +kernel), mT6 74 (by decide +kernel) (by decide +kernel), mT1 8 (by decide +kernel) (by decide +kernel), mT6 75 (by decide +kernel) (by decide +kernel), by decide, rfl, by decide +kernel, by decide +kernel, by decide +kernel⟩
theorem mb_YearPlan_plainDays : MBv R_YearPlan y_YearPlan_plainDays prog_11_method_24_code 5 (some .int) 2 := ⟨mT6 45 (by decide +kernel) (by decide +kernel), mT6 46 (by decide +kernel) (by decide +kernel), mT1 8 (by decide +kernel) (by decide +kernel), mT6 47 (by decide +kernel) (by decide +kernel), by decide, rfl, by decide +kernel, by decide +kernel, by decide +kernel⟩
theorem mb_YearPlan_weightOf : MBv R_YearPlan y_YearPlan_weightOf prog_11_method_32_code 5 (some .int) 2 := ⟨mT6 81 (by decide +kernel) (by decide +kernel), mT6 82 (by decide +kernel) (by decide +kernel), mT1 8 (by decide +kernel) (by decide +kernel), mT6 83 (by decide +kernel) (by decide +kernel), by decide, rfl, by decide +kernel, by decide +kernel, by decide +kernel⟩
theorem lk_YearPlan_206 : Cond.methodLink "FeastBook$YearPlan" 206 y_YearPlan_plainDays ∈ TT := mT6 44 (by decide +kernel) (by decide +kernel)
theorem lk_YearPlan_209 : Cond.methodLink "FeastBook$YearPlan" 209 y_YearPlan_longestPlain ∈ TT := mT6 52 (by decide +kernel) (by decide +kernel)
theorem lk_YearPlan_213 : Cond.methodLink "FeastBook$YearPlan" 213 y_YearPlan_fastDays ∈ TT := mT6 56 (by decide +kernel) (by decide +kernel)
theorem lk_YearPlan_216 : Cond.methodLink "FeastBook$YearPlan" 216 y_YearPlan_longestFast ∈ TT := mT6 68 (by decide +kernel) (by decide +kernel)
theorem lk_YearPlan_219 : Cond.methodLink "FeastBook$YearPlan" 219 y_YearPlan_meetings ∈ TT := mT6 72 (by decide +kernel) (by decide +kernel)
theorem lk_YearPlan_222 : Cond.methodLink "FeastBook$YearPlan" 222 y_YearPlan_weightOf ∈ TT := mT6 80 (by decide +kernel) (by decide +kernel)
set_option maxHeartbeats 4000000 in
set_option maxRecDepth 100000 in
theorem c_YearPlan_measure {l : Launch} {D : va_G} {ad : Nat → Nat} {cA : Nat → ClassId} {sd sv : Nat → Nat} {h : Hp} {N : Nat} {a1 : Int} {out : Int} (hI : Inj97 ad) (hM : M_YearPlan_measure N h a1 = some out) : Met l y_YearPlan_measure (.code y_YearPlan_measure prog_11_method_22_code 2 (some .int) :: TT) (rmD 4) (PC D ad cA sd sv h [.ref (ad 66), .int (iZ a1)]) (QR out) 0 0 (fun _ => False) := by
  unfold M_YearPlan_measure at hM
  refine entM (by decide +kernel) hI (Nat.le_of_ble_eq_true rfl) ?_
  intro p e s m args below meth c C hr hlk hP ls hl
  have C : Cx p s m args c prog_11_method_22_code 2 "FeastBook$YearPlan" D ad cA sd sv (FA ad) := C
  have hl : lv_has ls 2 [(0, .ref (ad 66)), (1, .int (iZ a1))] := hl
  refine m_iload_n C hl 1 d_YearPlan_measure_0 rfl rfl ?_
  refine m_swc 4 hM (fun ek hM => ?_) (fun hn0 hM => ?_)
  · refine lv_tableIn C.1 C.2.1 d_YearPlan_measure_1 (tgt := 40) (off := 39) (by rw [ek]; decide) (by rw [ek]; decide) (by rw [ek]; rfl) (by decide) ?_
    refine m_aload_n C hl 0 d_YearPlan_measure_40 rfl rfl ?_
    refine m_iconst C d_YearPlan_measure_41 ?_
    refine m_aload_n C hl 0 d_YearPlan_measure_42 rfl rfl ?_
    refine m_geti C hP kc_YearPlan sh_66 (Nat.le_of_ble_eq_true rfl) 4 rfl (by decide) fk_YearPlan_52 d_YearPlan_measure_43 ?_
    obtain ⟨x2, e1, hM⟩ := bnd_some hM
    refine aftR (runV C hP va_S.rf kc_YearPlan sh_66 (Nat.le_of_ble_eq_true rfl) (c_YearPlan_plainDays hI e1) lk_YearPlan_206 mb_YearPlan_plainDays rfl ⟨Nat.le_of_ble_eq_true rfl, Nat.le_of_ble_eq_true rfl⟩ ⟨Nat.zero_le _, Nat.zero_le _⟩ (Nat.le_of_ble_eq_true rfl) d_YearPlan_measure_46 hl.1 (rest := []) rfl) ?_
    exact m_iretR C hr hlk hM d_YearPlan_measure_49
  · refine m_swc 5 hM (fun ek hM => ?_) (fun hn1 hM => ?_)
    · refine lv_tableIn C.1 C.2.1 d_YearPlan_measure_1 (tgt := 50) (off := 49) (by rw [ek]; decide) (by rw [ek]; decide) (by rw [ek]; rfl) (by decide) ?_
      refine m_aload_n C hl 0 d_YearPlan_measure_50 rfl rfl ?_
      obtain ⟨x4, e3, hM⟩ := bnd_some hM
      refine aftR (runV C hP va_S.rf kc_YearPlan sh_66 (Nat.le_of_ble_eq_true rfl) (c_YearPlan_longestPlain hI e3) lk_YearPlan_209 mb_YearPlan_longestPlain rfl ⟨Nat.le_of_ble_eq_true rfl, Nat.le_of_ble_eq_true rfl⟩ ⟨Nat.zero_le _, Nat.zero_le _⟩ (Nat.le_of_ble_eq_true rfl) d_YearPlan_measure_51 hl.1 (rest := []) rfl) ?_
      exact m_iretR C hr hlk hM d_YearPlan_measure_54
    · refine m_swc 6 hM (fun ek hM => ?_) (fun hn2 hM => ?_)
      · refine lv_tableIn C.1 C.2.1 d_YearPlan_measure_1 (tgt := 70) (off := 69) (by rw [ek]; decide) (by rw [ek]; decide) (by rw [ek]; rfl) (by decide) ?_
        refine m_aload_n C hl 0 d_YearPlan_measure_70 rfl rfl ?_
        refine m_iconst C d_YearPlan_measure_71 ?_
        refine m_aload_n C hl 0 d_YearPlan_measure_72 rfl rfl ?_
        refine m_geti C hP kc_YearPlan sh_66 (Nat.le_of_ble_eq_true rfl) 4 rfl (by decide) fk_YearPlan_52 d_YearPlan_measure_73 ?_
        obtain ⟨x6, e5, hM⟩ := bnd_some hM
        refine aftR (runV C hP va_S.rf kc_YearPlan sh_66 (Nat.le_of_ble_eq_true rfl) (c_YearPlan_weightOf hI e5) lk_YearPlan_222 mb_YearPlan_weightOf rfl ⟨Nat.le_of_ble_eq_true rfl, Nat.le_of_ble_eq_true rfl⟩ ⟨Nat.zero_le _, Nat.zero_le _⟩ (Nat.le_of_ble_eq_true rfl) d_YearPlan_measure_76 hl.1 (rest := []) rfl) ?_
        exact m_iretR C hr hlk hM d_YearPlan_measure_79
      · refine m_swc 7 hM (fun ek hM => ?_) (fun hn3 hM => ?_)
        · refine lv_tableIn C.1 C.2.1 d_YearPlan_measure_1 (tgt := 55) (off := 54) (by rw [ek]; decide) (by rw [ek]; decide) (by rw [ek]; rfl) (by decide) ?_
          refine m_aload_n C hl 0 d_YearPlan_measure_55 rfl rfl ?_
          obtain ⟨x8, e7, hM⟩ := bnd_some hM
          refine aftR (runV C hP va_S.rf kc_YearPlan sh_66 (Nat.le_of_ble_eq_true rfl) (c_YearPlan_fastDays hI e7) lk_YearPlan_213 mb_YearPlan_fastDays rfl ⟨Nat.le_of_ble_eq_true rfl, Nat.le_of_ble_eq_true rfl⟩ ⟨Nat.zero_le _, Nat.zero_le _⟩ (Nat.le_of_ble_eq_true rfl) d_YearPlan_measure_56 hl.1 (rest := []) rfl) ?_
          exact m_iretR C hr hlk hM d_YearPlan_measure_59
        · refine m_swc 8 hM (fun ek hM => ?_) (fun hn4 hM => ?_)
          · refine lv_tableIn C.1 C.2.1 d_YearPlan_measure_1 (tgt := 60) (off := 59) (by rw [ek]; decide) (by rw [ek]; decide) (by rw [ek]; rfl) (by decide) ?_
            refine m_aload_n C hl 0 d_YearPlan_measure_60 rfl rfl ?_
            obtain ⟨x10, e9, hM⟩ := bnd_some hM
            refine aftR (runV C hP va_S.rf kc_YearPlan sh_66 (Nat.le_of_ble_eq_true rfl) (c_YearPlan_longestFast hI e9) lk_YearPlan_216 mb_YearPlan_longestFast rfl ⟨Nat.le_of_ble_eq_true rfl, Nat.le_of_ble_eq_true rfl⟩ ⟨Nat.zero_le _, Nat.zero_le _⟩ (Nat.le_of_ble_eq_true rfl) d_YearPlan_measure_61 hl.1 (rest := []) rfl) ?_
            exact m_iretR C hr hlk hM d_YearPlan_measure_64
          · refine m_swc 9 hM (fun ek hM => ?_) (fun hn5 hM => ?_)
            · refine lv_tableIn C.1 C.2.1 d_YearPlan_measure_1 (tgt := 65) (off := 64) (by rw [ek]; decide) (by rw [ek]; decide) (by rw [ek]; rfl) (by decide) ?_
              refine m_aload_n C hl 0 d_YearPlan_measure_65 rfl rfl ?_
              obtain ⟨x12, e11, hM⟩ := bnd_some hM
              refine aftR (runV C hP va_S.rf kc_YearPlan sh_66 (Nat.le_of_ble_eq_true rfl) (c_YearPlan_meetings hI e11) lk_YearPlan_219 mb_YearPlan_meetings rfl ⟨Nat.le_of_ble_eq_true rfl, Nat.le_of_ble_eq_true rfl⟩ ⟨Nat.zero_le _, Nat.zero_le _⟩ (Nat.le_of_ble_eq_true rfl) d_YearPlan_measure_66 hl.1 (rest := []) rfl) ?_
              exact m_iretR C hr hlk hM d_YearPlan_measure_69
            · refine lv_tableOut C.1 C.2.1 d_YearPlan_measure_1 (tgt := 70) ?_ (by decide) ?_
              · have g0 := lv_neT hn0 (show (iZ 4).toInt = 4 from rfl); have g1 := lv_neT hn1 (show (iZ 5).toInt = 5 from rfl); have g2 := lv_neT hn2 (show (iZ 6).toInt = 6 from rfl); have g3 := lv_neT hn3 (show (iZ 7).toInt = 7 from rfl); have g4 := lv_neT hn4 (show (iZ 8).toInt = 8 from rfl); have g5 := lv_neT hn5 (show (iZ 9).toInt = 9 from rfl); omega
              · refine m_aload_n C hl 0 d_YearPlan_measure_70 rfl rfl ?_
                refine m_iconst C d_YearPlan_measure_71 ?_
                refine m_aload_n C hl 0 d_YearPlan_measure_72 rfl rfl ?_
                refine m_geti C hP kc_YearPlan sh_66 (Nat.le_of_ble_eq_true rfl) 4 rfl (by decide) fk_YearPlan_52 d_YearPlan_measure_73 ?_
                obtain ⟨x14, e13, hM⟩ := bnd_some hM
                refine aftR (runV C hP va_S.rf kc_YearPlan sh_66 (Nat.le_of_ble_eq_true rfl) (c_YearPlan_weightOf hI e13) lk_YearPlan_222 mb_YearPlan_weightOf rfl ⟨Nat.le_of_ble_eq_true rfl, Nat.le_of_ble_eq_true rfl⟩ ⟨Nat.zero_le _, Nat.zero_le _⟩ (Nat.le_of_ble_eq_true rfl) d_YearPlan_measure_76 hl.1 (rest := []) rfl) ?_
                exact m_iretR C hr hlk hM d_YearPlan_measure_79
def y_YearPlan_yieldedTo : MethodName := ⟨"FeastBook$YearPlan", "yieldedTo", "(I)I"⟩
theorem d_YearPlan_yieldedTo_0 : decode prog_11_method_19_code 0 = .ok (.aload_n 0, 1) := by decide +kernel
theorem d_YearPlan_yieldedTo_1 : decode prog_11_method_19_code 1 = .ok (.getfield 27, 3) := by decide +kernel
theorem d_YearPlan_yieldedTo_4 : decode prog_11_method_19_code 4 = .ok (.iload_n 1, 1) := by decide +kernel
theorem d_YearPlan_yieldedTo_5 : decode prog_11_method_19_code 5 = .ok (.iaload, 1) := by decide +kernel
theorem d_YearPlan_yieldedTo_6 : decode prog_11_method_19_code 6 = .ok (.ifCond .eq 13, 3) := by decide +kernel
theorem d_YearPlan_yieldedTo_9 : decode prog_11_method_19_code 9 = .ok (.aload_n 0, 1) := by decide +kernel
theorem d_YearPlan_yieldedTo_10 : decode prog_11_method_19_code 10 = .ok (.getfield 27, 3) := by decide +kernel
theorem d_YearPlan_yieldedTo_13 : decode prog_11_method_19_code 13 = .ok (.iload_n 1, 1) := by decide +kernel
theorem d_YearPlan_yieldedTo_14 : decode prog_11_method_19_code 14 = .ok (.iaload, 1) := by decide +kernel
theorem d_YearPlan_yieldedTo_15 : decode prog_11_method_19_code 15 = .ok (.iconst 5, 1) := by decide +kernel
theorem d_YearPlan_yieldedTo_16 : decode prog_11_method_19_code 16 = .ok (.if_icmp .ne 5, 3) := by decide +kernel
theorem d_YearPlan_yieldedTo_19 : decode prog_11_method_19_code 19 = .ok (.iconst (-1), 1) := by decide +kernel
theorem d_YearPlan_yieldedTo_20 : decode prog_11_method_19_code 20 = .ok (.ireturn, 1) := by decide +kernel
theorem d_YearPlan_yieldedTo_21 : decode prog_11_method_19_code 21 = .ok (.iconst 0, 1) := by decide +kernel
theorem d_YearPlan_yieldedTo_22 : decode prog_11_method_19_code 22 = .ok (.istore_n 2, 1) := by decide +kernel
theorem d_YearPlan_yieldedTo_23 : decode prog_11_method_19_code 23 = .ok (.iload_n 2, 1) := by decide +kernel
theorem d_YearPlan_yieldedTo_24 : decode prog_11_method_19_code 24 = .ok (.aload_n 0, 1) := by decide +kernel
theorem d_YearPlan_yieldedTo_25 : decode prog_11_method_19_code 25 = .ok (.getfield 40, 3) := by decide +kernel
theorem d_YearPlan_yieldedTo_28 : decode prog_11_method_19_code 28 = .ok (.getfield 61, 3) := by decide +kernel
theorem d_YearPlan_yieldedTo_31 : decode prog_11_method_19_code 31 = .ok (.if_icmp .ge 35, 3) := by decide +kernel
theorem d_YearPlan_yieldedTo_34 : decode prog_11_method_19_code 34 = .ok (.aload_n 0, 1) := by decide +kernel
theorem d_YearPlan_yieldedTo_35 : decode prog_11_method_19_code 35 = .ok (.getfield 27, 3) := by decide +kernel
theorem d_YearPlan_yieldedTo_38 : decode prog_11_method_19_code 38 = .ok (.iload_n 2, 1) := by decide +kernel
theorem d_YearPlan_yieldedTo_39 : decode prog_11_method_19_code 39 = .ok (.iaload, 1) := by decide +kernel
theorem d_YearPlan_yieldedTo_40 : decode prog_11_method_19_code 40 = .ok (.ifCond .ne 20, 3) := by decide +kernel
theorem d_YearPlan_yieldedTo_43 : decode prog_11_method_19_code 43 = .ok (.aload_n 0, 1) := by decide +kernel
theorem d_YearPlan_yieldedTo_44 : decode prog_11_method_19_code 44 = .ok (.getfield 18, 3) := by decide +kernel
theorem d_YearPlan_yieldedTo_47 : decode prog_11_method_19_code 47 = .ok (.iload_n 2, 1) := by decide +kernel
theorem d_YearPlan_yieldedTo_48 : decode prog_11_method_19_code 48 = .ok (.iaload, 1) := by decide +kernel
theorem d_YearPlan_yieldedTo_49 : decode prog_11_method_19_code 49 = .ok (.aload_n 0, 1) := by decide +kernel
theorem d_YearPlan_yieldedTo_50 : decode prog_11_method_19_code 50 = .ok (.getfield 18, 3) := by decide +kernel
theorem d_YearPlan_yieldedTo_53 : decode prog_11_method_19_code 53 = .ok (.iload_n 1, 1) := by decide +kernel
theorem d_YearPlan_yieldedTo_54 : decode prog_11_method_19_code 54 = .ok (.iaload, 1) := by decide +kernel
theorem d_YearPlan_yieldedTo_55 : decode prog_11_method_19_code 55 = .ok (.if_icmp .ne 5, 3) := by decide +kernel
theorem d_YearPlan_yieldedTo_58 : decode prog_11_method_19_code 58 = .ok (.iload_n 2, 1) := by decide +kernel
theorem d_YearPlan_yieldedTo_59 : decode prog_11_method_19_code 59 = .ok (.ireturn, 1) := by decide +kernel
theorem d_YearPlan_yieldedTo_60 : decode prog_11_method_19_code 60 = .ok (.iinc 2 1, 3) := by decide +kernel
theorem d_YearPlan_yieldedTo_63 : decode prog_11_method_19_code 63 = .ok (.goto (-40), 3) := by decide +kernel
theorem d_YearPlan_yieldedTo_66 : decode prog_11_method_19_code 66 = .ok (.iconst (-1), 1) := by decide +kernel
theorem d_YearPlan_yieldedTo_67 : decode prog_11_method_19_code 67 = .ok (.ireturn, 1) := by decide +kernel
set_option maxHeartbeats 4000000 in
set_option maxRecDepth 100000 in
theorem w_YearPlan_yieldedTo_L23 {p : Program} {l : Launch} {e : Env} {s : State} {m : MethodId} {args : Array Value} {below : List Frame} {meth : Method} {c : Code} {D : va_G} {ad : Nat → Nat} {cA : Nat → ClassId} {sd sv : Nat → Nat} {out : Int} (N : Nat) (hI : Inj97 ad) (C : Cx p s m args c prog_11_method_19_code 3 "FeastBook$YearPlan" D ad cA sd sv (FA ad)) (hr : meth.sig.returnType = (some .int)) (hlk : meth.locks = false) (v1 : Int) (h : Hp) (hP : va_P D clL (wl ad cA h) s.heap) : ∀ (n : Nat) (v2 : Int), ∀ ls : Array Slot, lv_has ls 3 [(0, .ref (ad 66)), (1, .int (iZ v1)), (2, .int (iZ v2))] → YearPlan_yieldedTo_L23 N h v1 n v2 = some out → W p l e (rmD 0) s m args below meth c s.heap [] 0 0 (MQ below (QR out) args s 0 0 (fun _ => False)) (F0 m 23 ls []) := by
  intro n
  induction n with
  | zero =>
    intro v2 ls hl hM
    rw [YearPlan_yieldedTo_L23] at hM
    cases hM
  | succ n ih =>
    intro v2 ls hl hM
    rw [YearPlan_yieldedTo_L23] at hM
    refine m_iload_n C hl 2 d_YearPlan_yieldedTo_23 rfl rfl ?_
    refine m_aload_n C hl 0 d_YearPlan_yieldedTo_24 rfl rfl ?_
    refine m_getr C hP kc_YearPlan sh_66 (Nat.le_of_ble_eq_true rfl) 1 33 rfl (by decide) fk_YearPlan_40 d_YearPlan_yieldedTo_25 ?_
    refine m_geti C hP kc_Feasts sh_33 (Nat.le_of_ble_eq_true rfl) 0 rfl (by decide) fk_YearPlan_61 d_YearPlan_yieldedTo_28 ?_
    refine m_icmp_ge C hM 66 d_YearPlan_yieldedTo_31 (by decide) (fun hM => ?_) (fun hM => ?_)
    · refine m_iconst C d_YearPlan_yieldedTo_66 ?_
      exact m_iretR C hr hlk hM d_YearPlan_yieldedTo_67
    · refine m_aload_n C hl 0 d_YearPlan_yieldedTo_34 rfl rfl ?_
      refine m_getr C hP kc_YearPlan sh_66 (Nat.le_of_ble_eq_true rfl) 11 72 rfl (by decide) fk_YearPlan_27 d_YearPlan_yieldedTo_35 ?_
      refine m_iload_n C hl 2 d_YearPlan_yieldedTo_38 rfl rfl ?_
      refine m_iald C hP sh_72 (Nat.le_of_ble_eq_true rfl) (Nat.le_of_ble_eq_true rfl) hM d_YearPlan_yieldedTo_39 (fun x3 hM => ?_)
      refine m_if_ne C hM 60 d_YearPlan_yieldedTo_40 (by decide) (fun hM => ?_) (fun hM => ?_)
      · refine m_iinc C hl 2 [(2, .int (iZ (v2 + 1))), (0, .ref (ad 66)), (1, .int (iZ v1))] d_YearPlan_yieldedTo_60 rfl (by decide) rfl (fun ls hl => ?_)
        refine m_goto C 23 d_YearPlan_yieldedTo_63 (by decide) ?_
        exact ih (v2 + 1) _ (lv_sub hl [1, 2, 0] rfl) hM
      · refine m_aload_n C hl 0 d_YearPlan_yieldedTo_43 rfl rfl ?_
        refine m_getr C hP kc_YearPlan sh_66 (Nat.le_of_ble_eq_true rfl) 8 69 rfl (by decide) fk_YearPlan_18 d_YearPlan_yieldedTo_44 ?_
        refine m_iload_n C hl 2 d_YearPlan_yieldedTo_47 rfl rfl ?_
        refine m_iald C hP sh_69 (Nat.le_of_ble_eq_true rfl) (Nat.le_of_ble_eq_true rfl) hM d_YearPlan_yieldedTo_48 (fun x4 hM => ?_)
        refine m_aload_n C hl 0 d_YearPlan_yieldedTo_49 rfl rfl ?_
        refine m_getr C hP kc_YearPlan sh_66 (Nat.le_of_ble_eq_true rfl) 8 69 rfl (by decide) fk_YearPlan_18 d_YearPlan_yieldedTo_50 ?_
        refine m_iload_n C hl 1 d_YearPlan_yieldedTo_53 rfl rfl ?_
        refine m_iald C hP sh_69 (Nat.le_of_ble_eq_true rfl) (Nat.le_of_ble_eq_true rfl) hM d_YearPlan_yieldedTo_54 (fun x5 hM => ?_)
        refine m_icmp_ne C hM 60 d_YearPlan_yieldedTo_55 (by decide) (fun hM => ?_) (fun hM => ?_)
        · refine m_iinc C hl 2 [(2, .int (iZ (v2 + 1))), (0, .ref (ad 66)), (1, .int (iZ v1))] d_YearPlan_yieldedTo_60 rfl (by decide) rfl (fun ls hl => ?_)
          refine m_goto C 23 d_YearPlan_yieldedTo_63 (by decide) ?_
          exact ih (v2 + 1) _ (lv_sub hl [1, 2, 0] rfl) hM
        · refine m_iload_n C hl 2 d_YearPlan_yieldedTo_58 rfl rfl ?_
          exact m_iretR C hr hlk hM d_YearPlan_yieldedTo_59
set_option maxHeartbeats 4000000 in
set_option maxRecDepth 100000 in
theorem c_YearPlan_yieldedTo {l : Launch} {D : va_G} {ad : Nat → Nat} {cA : Nat → ClassId} {sd sv : Nat → Nat} {h : Hp} {N : Nat} {a1 : Int} {out : Int} (hI : Inj97 ad) (hM : M_YearPlan_yieldedTo N h a1 = some out) : Met l y_YearPlan_yieldedTo (.code y_YearPlan_yieldedTo prog_11_method_19_code 3 (some .int) :: TT) (rmD 0) (PC D ad cA sd sv h [.ref (ad 66), .int (iZ a1)]) (QR out) 0 0 (fun _ => False) := by
  unfold M_YearPlan_yieldedTo at hM
  refine entM (by decide +kernel) hI (Nat.le_of_ble_eq_true rfl) ?_
  intro p e s m args below meth c C hr hlk hP ls hl
  have C : Cx p s m args c prog_11_method_19_code 3 "FeastBook$YearPlan" D ad cA sd sv (FA ad) := C
  have hl : lv_has ls 3 [(0, .ref (ad 66)), (1, .int (iZ a1))] := hl
  refine m_aload_n C hl 0 d_YearPlan_yieldedTo_0 rfl rfl ?_
  refine m_getr C hP kc_YearPlan sh_66 (Nat.le_of_ble_eq_true rfl) 11 72 rfl (by decide) fk_YearPlan_27 d_YearPlan_yieldedTo_1 ?_
  refine m_iload_n C hl 1 d_YearPlan_yieldedTo_4 rfl rfl ?_
  refine m_iald C hP sh_72 (Nat.le_of_ble_eq_true rfl) (Nat.le_of_ble_eq_true rfl) hM d_YearPlan_yieldedTo_5 (fun x1 hM => ?_)
  refine m_if_eq C hM 19 d_YearPlan_yieldedTo_6 (by decide) (fun hM => ?_) (fun hM => ?_)
  · refine m_iconst C d_YearPlan_yieldedTo_19 ?_
    exact m_iretR C hr hlk hM d_YearPlan_yieldedTo_20
  · refine m_aload_n C hl 0 d_YearPlan_yieldedTo_9 rfl rfl ?_
    refine m_getr C hP kc_YearPlan sh_66 (Nat.le_of_ble_eq_true rfl) 11 72 rfl (by decide) fk_YearPlan_27 d_YearPlan_yieldedTo_10 ?_
    refine m_iload_n C hl 1 d_YearPlan_yieldedTo_13 rfl rfl ?_
    refine m_iald C hP sh_72 (Nat.le_of_ble_eq_true rfl) (Nat.le_of_ble_eq_true rfl) hM d_YearPlan_yieldedTo_14 (fun x2 hM => ?_)
    refine m_iconst C d_YearPlan_yieldedTo_15 ?_
    refine m_icmp_ne C hM 21 d_YearPlan_yieldedTo_16 (by decide) (fun hM => ?_) (fun hM => ?_)
    · refine m_iconst C d_YearPlan_yieldedTo_21 ?_
      refine m_istore_n C hl [(2, .int (iZ 0)), (0, .ref (ad 66)), (1, .int (iZ a1))] d_YearPlan_yieldedTo_22 rfl (by decide) rfl (fun ls hl => ?_)
      exact w_YearPlan_yieldedTo_L23 N hI C hr hlk a1 h hP _ 0 _ (lv_sub hl [1, 2, 0] rfl) hM
    · refine m_iconst C d_YearPlan_yieldedTo_19 ?_
      exact m_iretR C hr hlk hM d_YearPlan_yieldedTo_20
def y_YearPlan_kindYieldedTo : MethodName := ⟨"FeastBook$YearPlan", "kindYieldedTo", "(I)I"⟩
theorem d_YearPlan_kindYieldedTo_0 : decode prog_11_method_20_code 0 = .ok (.aload_n 0, 1) := by decide +kernel
theorem d_YearPlan_kindYieldedTo_1 : decode prog_11_method_20_code 1 = .ok (.getfield 27, 3) := by decide +kernel
theorem d_YearPlan_kindYieldedTo_4 : decode prog_11_method_20_code 4 = .ok (.iload_n 1, 1) := by decide +kernel
theorem d_YearPlan_kindYieldedTo_5 : decode prog_11_method_20_code 5 = .ok (.iaload, 1) := by decide +kernel
theorem d_YearPlan_kindYieldedTo_6 : decode prog_11_method_20_code 6 = .ok (.ifCond .eq 13, 3) := by decide +kernel
theorem d_YearPlan_kindYieldedTo_9 : decode prog_11_method_20_code 9 = .ok (.aload_n 0, 1) := by decide +kernel
theorem d_YearPlan_kindYieldedTo_10 : decode prog_11_method_20_code 10 = .ok (.getfield 27, 3) := by decide +kernel
theorem d_YearPlan_kindYieldedTo_13 : decode prog_11_method_20_code 13 = .ok (.iload_n 1, 1) := by decide +kernel
theorem d_YearPlan_kindYieldedTo_14 : decode prog_11_method_20_code 14 = .ok (.iaload, 1) := by decide +kernel
theorem d_YearPlan_kindYieldedTo_15 : decode prog_11_method_20_code 15 = .ok (.iconst 5, 1) := by decide +kernel
theorem d_YearPlan_kindYieldedTo_16 : decode prog_11_method_20_code 16 = .ok (.if_icmp .ne 5, 3) := by decide +kernel
theorem d_YearPlan_kindYieldedTo_19 : decode prog_11_method_20_code 19 = .ok (.iconst (-1), 1) := by decide +kernel
theorem d_YearPlan_kindYieldedTo_20 : decode prog_11_method_20_code 20 = .ok (.ireturn, 1) := by decide +kernel
theorem d_YearPlan_kindYieldedTo_21 : decode prog_11_method_20_code 21 = .ok (.aload_n 0, 1) := by decide +kernel
theorem d_YearPlan_kindYieldedTo_22 : decode prog_11_method_20_code 22 = .ok (.iload_n 1, 1) := by decide +kernel
theorem d_YearPlan_kindYieldedTo_23 : decode prog_11_method_20_code 23 = .ok (.invokevirtual 203, 3) := by decide +kernel
theorem d_YearPlan_kindYieldedTo_26 : decode prog_11_method_20_code 26 = .ok (.iconst (-1), 1) := by decide +kernel
theorem d_YearPlan_kindYieldedTo_27 : decode prog_11_method_20_code 27 = .ok (.if_icmp .eq 7, 3) := by decide +kernel
theorem d_YearPlan_kindYieldedTo_30 : decode prog_11_method_20_code 30 = .ok (.iconst 4, 1) := by decide +kernel
theorem d_YearPlan_kindYieldedTo_31 : decode prog_11_method_20_code 31 = .ok (.goto 17, 3) := by decide +kernel
theorem d_YearPlan_kindYieldedTo_34 : decode prog_11_method_20_code 34 = .ok (.aload_n 0, 1) := by decide +kernel
theorem d_YearPlan_kindYieldedTo_35 : decode prog_11_method_20_code 35 = .ok (.getfield 9, 3) := by decide +kernel
theorem d_YearPlan_kindYieldedTo_38 : decode prog_11_method_20_code 38 = .ok (.aload_n 0, 1) := by decide +kernel
theorem d_YearPlan_kindYieldedTo_39 : decode prog_11_method_20_code 39 = .ok (.getfield 18, 3) := by decide +kernel
theorem d_YearPlan_kindYieldedTo_42 : decode prog_11_method_20_code 42 = .ok (.iload_n 1, 1) := by decide +kernel
theorem d_YearPlan_kindYieldedTo_43 : decode prog_11_method_20_code 43 = .ok (.iaload, 1) := by decide +kernel
theorem d_YearPlan_kindYieldedTo_44 : decode prog_11_method_20_code 44 = .ok (.iaload, 1) := by decide +kernel
theorem d_YearPlan_kindYieldedTo_45 : decode prog_11_method_20_code 45 = .ok (.invokestatic 162, 3) := by decide +kernel
theorem d_YearPlan_kindYieldedTo_48 : decode prog_11_method_20_code 48 = .ok (.ireturn, 1) := by decide +kernel
theorem mb_YearPlan_yieldedTo : MBv R_YearPlan y_YearPlan_yieldedTo prog_11_method_19_code 3 (some .int) 1 := ⟨mT6 172 (by decide +kernel) (by decide +kernel), mT6 173 (by decide +kernel) (by decide +kernel), mT1 8 (by decide +kernel) (by decide +kernel), mT6 174 (by decide +kernel) (by decide +kernel), by decide, rfl, by decide +kernel, by decide +kernel, by decide +kernel⟩
theorem lk_YearPlan_203 : Cond.methodLink "FeastBook$YearPlan" 203 y_YearPlan_yieldedTo ∈ TT := mT6 179 (by decide +kernel) (by decide +kernel)
set_option maxHeartbeats 4000000 in
set_option maxRecDepth 100000 in
theorem c_YearPlan_kindYieldedTo {l : Launch} {D : va_G} {ad : Nat → Nat} {cA : Nat → ClassId} {sd sv : Nat → Nat} {h : Hp} {N : Nat} {a1 : Int} {out : Int} (hI : Inj97 ad) (hM : M_YearPlan_kindYieldedTo N h a1 = some out) : Met l y_YearPlan_kindYieldedTo (.code y_YearPlan_kindYieldedTo prog_11_method_20_code 2 (some .int) :: TT) (rmD 1) (PC D ad cA sd sv h [.ref (ad 66), .int (iZ a1)]) (QR out) 0 0 (fun _ => False) := by
  unfold M_YearPlan_kindYieldedTo at hM
  refine entM (by decide +kernel) hI (Nat.le_of_ble_eq_true rfl) ?_
  intro p e s m args below meth c C hr hlk hP ls hl
  have C : Cx p s m args c prog_11_method_20_code 2 "FeastBook$YearPlan" D ad cA sd sv (FA ad) := C
  have hl : lv_has ls 2 [(0, .ref (ad 66)), (1, .int (iZ a1))] := hl
  refine m_aload_n C hl 0 d_YearPlan_kindYieldedTo_0 rfl rfl ?_
  refine m_getr C hP kc_YearPlan sh_66 (Nat.le_of_ble_eq_true rfl) 11 72 rfl (by decide) fk_YearPlan_27 d_YearPlan_kindYieldedTo_1 ?_
  refine m_iload_n C hl 1 d_YearPlan_kindYieldedTo_4 rfl rfl ?_
  refine m_iald C hP sh_72 (Nat.le_of_ble_eq_true rfl) (Nat.le_of_ble_eq_true rfl) hM d_YearPlan_kindYieldedTo_5 (fun x1 hM => ?_)
  refine m_if_eq C hM 19 d_YearPlan_kindYieldedTo_6 (by decide) (fun hM => ?_) (fun hM => ?_)
  · refine m_iconst C d_YearPlan_kindYieldedTo_19 ?_
    exact m_iretR C hr hlk hM d_YearPlan_kindYieldedTo_20
  · refine m_aload_n C hl 0 d_YearPlan_kindYieldedTo_9 rfl rfl ?_
    refine m_getr C hP kc_YearPlan sh_66 (Nat.le_of_ble_eq_true rfl) 11 72 rfl (by decide) fk_YearPlan_27 d_YearPlan_kindYieldedTo_10 ?_
    refine m_iload_n C hl 1 d_YearPlan_kindYieldedTo_13 rfl rfl ?_
    refine m_iald C hP sh_72 (Nat.le_of_ble_eq_true rfl) (Nat.le_of_ble_eq_true rfl) hM d_YearPlan_kindYieldedTo_14 (fun x2 hM => ?_)
    refine m_iconst C d_YearPlan_kindYieldedTo_15 ?_
    refine m_icmp_ne C hM 21 d_YearPlan_kindYieldedTo_16 (by decide) (fun hM => ?_) (fun hM => ?_)
    · refine m_aload_n C hl 0 d_YearPlan_kindYieldedTo_21 rfl rfl ?_
      refine m_iload_n C hl 1 d_YearPlan_kindYieldedTo_22 rfl rfl ?_
      obtain ⟨x4, e3, hM⟩ := bnd_some hM
      refine aftR (runV C hP va_S.rf kc_YearPlan sh_66 (Nat.le_of_ble_eq_true rfl) (c_YearPlan_yieldedTo hI e3) lk_YearPlan_203 mb_YearPlan_yieldedTo rfl ⟨Nat.le_of_ble_eq_true rfl, Nat.le_of_ble_eq_true rfl⟩ ⟨Nat.zero_le _, Nat.zero_le _⟩ (Nat.le_of_ble_eq_true rfl) d_YearPlan_kindYieldedTo_23 hl.1 (rest := []) rfl) ?_
      refine m_iconst C d_YearPlan_kindYieldedTo_26 ?_
      refine m_icmp_eq C hM 34 d_YearPlan_kindYieldedTo_27 (by decide) (fun hM => ?_) (fun hM => ?_)
      · refine m_aload_n C hl 0 d_YearPlan_kindYieldedTo_34 rfl rfl ?_
        refine m_getr C hP kc_YearPlan sh_66 (Nat.le_of_ble_eq_true rfl) 6 67 rfl (by decide) fk_YearPlan_9 d_YearPlan_kindYieldedTo_35 ?_
        refine m_aload_n C hl 0 d_YearPlan_kindYieldedTo_38 rfl rfl ?_
        refine m_getr C hP kc_YearPlan sh_66 (Nat.le_of_ble_eq_true rfl) 8 69 rfl (by decide) fk_YearPlan_18 d_YearPlan_kindYieldedTo_39 ?_
        refine m_iload_n C hl 1 d_YearPlan_kindYieldedTo_42 rfl rfl ?_
        refine m_iald C hP sh_69 (Nat.le_of_ble_eq_true rfl) (Nat.le_of_ble_eq_true rfl) hM d_YearPlan_kindYieldedTo_43 (fun x5 hM => ?_)
        refine m_iald C hP sh_67 (Nat.le_of_ble_eq_true rfl) (Nat.le_of_ble_eq_true rfl) hM d_YearPlan_kindYieldedTo_44 (fun x6 hM => ?_)
        obtain ⟨x8, e7, hM⟩ := bnd_some hM
        refine aftR (runS C hP va_S.rf (c_Cl_kindIn hI e7) lk_YearPlan_162 mb_Cl_kindIn rfl ⟨Nat.le_of_ble_eq_true rfl, Nat.le_of_ble_eq_true rfl⟩ ⟨Nat.zero_le _, Nat.zero_le _⟩ (Nat.le_of_ble_eq_true rfl) d_YearPlan_kindYieldedTo_45 hl.1 (rest := []) rfl) ?_
        exact m_iretR C hr hlk hM d_YearPlan_kindYieldedTo_48
      · refine m_iconst C d_YearPlan_kindYieldedTo_30 ?_
        refine m_goto C 48 d_YearPlan_kindYieldedTo_31 (by decide) ?_
        exact m_iretR C hr hlk hM d_YearPlan_kindYieldedTo_48
    · refine m_iconst C d_YearPlan_kindYieldedTo_19 ?_
      exact m_iretR C hr hlk hM d_YearPlan_kindYieldedTo_20
def y_YearPlan_claimOn : MethodName := ⟨"FeastBook$YearPlan", "claimOn", "(II)I"⟩
theorem d_YearPlan_claimOn_0 : decode prog_11_method_35_code 0 = .ok (.iload_n 2, 1) := by decide +kernel
theorem d_YearPlan_claimOn_1 : decode prog_11_method_35_code 1 = .ok (.aload_n 0, 1) := by decide +kernel
theorem d_YearPlan_claimOn_2 : decode prog_11_method_35_code 2 = .ok (.getfield 18, 3) := by decide +kernel
theorem d_YearPlan_claimOn_5 : decode prog_11_method_35_code 5 = .ok (.iload_n 1, 1) := by decide +kernel
theorem d_YearPlan_claimOn_6 : decode prog_11_method_35_code 6 = .ok (.iaload, 1) := by decide +kernel
theorem d_YearPlan_claimOn_7 : decode prog_11_method_35_code 7 = .ok (.isub, 1) := by decide +kernel
theorem d_YearPlan_claimOn_8 : decode prog_11_method_35_code 8 = .ok (.istore_n 3, 1) := by decide +kernel
theorem d_YearPlan_claimOn_9 : decode prog_11_method_35_code 9 = .ok (.iload_n 3, 1) := by decide +kernel
theorem d_YearPlan_claimOn_10 : decode prog_11_method_35_code 10 = .ok (.ifCond .ne 13, 3) := by decide +kernel
theorem d_YearPlan_claimOn_13 : decode prog_11_method_35_code 13 = .ok (.aload_n 0, 1) := by decide +kernel
theorem d_YearPlan_claimOn_14 : decode prog_11_method_35_code 14 = .ok (.getfield 40, 3) := by decide +kernel
theorem d_YearPlan_claimOn_17 : decode prog_11_method_35_code 17 = .ok (.getfield 152, 3) := by decide +kernel
theorem d_YearPlan_claimOn_20 : decode prog_11_method_35_code 20 = .ok (.iload_n 1, 1) := by decide +kernel
theorem d_YearPlan_claimOn_21 : decode prog_11_method_35_code 21 = .ok (.iaload, 1) := by decide +kernel
theorem d_YearPlan_claimOn_22 : decode prog_11_method_35_code 22 = .ok (.ireturn, 1) := by decide +kernel
theorem d_YearPlan_claimOn_23 : decode prog_11_method_35_code 23 = .ok (.iload_n 3, 1) := by decide +kernel
theorem d_YearPlan_claimOn_24 : decode prog_11_method_35_code 24 = .ok (.ifCond .le 39, 3) := by decide +kernel
theorem d_YearPlan_claimOn_27 : decode prog_11_method_35_code 27 = .ok (.iload_n 3, 1) := by decide +kernel
theorem d_YearPlan_claimOn_28 : decode prog_11_method_35_code 28 = .ok (.aload_n 0, 1) := by decide +kernel
theorem d_YearPlan_claimOn_29 : decode prog_11_method_35_code 29 = .ok (.getfield 30, 3) := by decide +kernel
theorem d_YearPlan_claimOn_32 : decode prog_11_method_35_code 32 = .ok (.getfield 125, 3) := by decide +kernel
theorem d_YearPlan_claimOn_35 : decode prog_11_method_35_code 35 = .ok (.if_icmp .gt 26, 3) := by decide +kernel
theorem d_YearPlan_claimOn_38 : decode prog_11_method_35_code 38 = .ok (.aload_n 0, 1) := by decide +kernel
theorem d_YearPlan_claimOn_39 : decode prog_11_method_35_code 39 = .ok (.getfield 40, 3) := by decide +kernel
theorem d_YearPlan_claimOn_42 : decode prog_11_method_35_code 42 = .ok (.getfield 143, 3) := by decide +kernel
theorem d_YearPlan_claimOn_45 : decode prog_11_method_35_code 45 = .ok (.iload_n 1, 1) := by decide +kernel
theorem d_YearPlan_claimOn_46 : decode prog_11_method_35_code 46 = .ok (.iaload, 1) := by decide +kernel
theorem d_YearPlan_claimOn_47 : decode prog_11_method_35_code 47 = .ok (.ifCond .le 14, 3) := by decide +kernel
theorem d_YearPlan_claimOn_50 : decode prog_11_method_35_code 50 = .ok (.aload_n 0, 1) := by decide +kernel
theorem d_YearPlan_claimOn_51 : decode prog_11_method_35_code 51 = .ok (.getfield 40, 3) := by decide +kernel
theorem d_YearPlan_claimOn_54 : decode prog_11_method_35_code 54 = .ok (.iload_n 1, 1) := by decide +kernel
theorem d_YearPlan_claimOn_55 : decode prog_11_method_35_code 55 = .ok (.invokevirtual 146, 3) := by decide +kernel
theorem d_YearPlan_claimOn_58 : decode prog_11_method_35_code 58 = .ok (.goto 4, 3) := by decide +kernel
theorem d_YearPlan_claimOn_61 : decode prog_11_method_35_code 61 = .ok (.iconst 0, 1) := by decide +kernel
theorem d_YearPlan_claimOn_62 : decode prog_11_method_35_code 62 = .ok (.ireturn, 1) := by decide +kernel
theorem d_YearPlan_claimOn_63 : decode prog_11_method_35_code 63 = .ok (.aload_n 0, 1) := by decide +kernel
theorem d_YearPlan_claimOn_64 : decode prog_11_method_35_code 64 = .ok (.getfield 21, 3) := by decide +kernel
theorem d_YearPlan_claimOn_67 : decode prog_11_method_35_code 67 = .ok (.iload_n 1, 1) := by decide +kernel
theorem d_YearPlan_claimOn_68 : decode prog_11_method_35_code 68 = .ok (.iaload, 1) := by decide +kernel
theorem d_YearPlan_claimOn_69 : decode prog_11_method_35_code 69 = .ok (.iload_n 2, 1) := by decide +kernel
theorem d_YearPlan_claimOn_70 : decode prog_11_method_35_code 70 = .ok (.if_icmp .ne 14, 3) := by decide +kernel
theorem d_YearPlan_claimOn_73 : decode prog_11_method_35_code 73 = .ok (.aload_n 0, 1) := by decide +kernel
theorem d_YearPlan_claimOn_74 : decode prog_11_method_35_code 74 = .ok (.getfield 40, 3) := by decide +kernel
theorem d_YearPlan_claimOn_77 : decode prog_11_method_35_code 77 = .ok (.iload_n 1, 1) := by decide +kernel
theorem d_YearPlan_claimOn_78 : decode prog_11_method_35_code 78 = .ok (.invokevirtual 136, 3) := by decide +kernel
theorem d_YearPlan_claimOn_81 : decode prog_11_method_35_code 81 = .ok (.goto 4, 3) := by decide +kernel
theorem d_YearPlan_claimOn_84 : decode prog_11_method_35_code 84 = .ok (.iconst 0, 1) := by decide +kernel
theorem d_YearPlan_claimOn_85 : decode prog_11_method_35_code 85 = .ok (.ireturn, 1) := by decide +kernel
set_option maxHeartbeats 4000000 in
set_option maxRecDepth 100000 in
theorem c_YearPlan_claimOn {l : Launch} {D : va_G} {ad : Nat → Nat} {cA : Nat → ClassId} {sd sv : Nat → Nat} {h : Hp} {a1 a2 : Int} {out : Int} (hI : Inj97 ad) (hM : M_YearPlan_claimOn h a1 a2 = some out) : Met l y_YearPlan_claimOn (.code y_YearPlan_claimOn prog_11_method_35_code 4 (some .int) :: TT) (rmD 2) (PC D ad cA sd sv h [.ref (ad 66), .int (iZ a1), .int (iZ a2)]) (QR out) 0 0 (fun _ => False) := by
  unfold M_YearPlan_claimOn at hM
  refine entM (by decide +kernel) hI (Nat.le_of_ble_eq_true rfl) ?_
  intro p e s m args below meth c C hr hlk hP ls hl
  have C : Cx p s m args c prog_11_method_35_code 4 "FeastBook$YearPlan" D ad cA sd sv (FA ad) := C
  have hl : lv_has ls 4 [(0, .ref (ad 66)), (1, .int (iZ a1)), (2, .int (iZ a2))] := hl
  refine m_iload_n C hl 2 d_YearPlan_claimOn_0 rfl rfl ?_
  refine m_aload_n C hl 0 d_YearPlan_claimOn_1 rfl rfl ?_
  refine m_getr C hP kc_YearPlan sh_66 (Nat.le_of_ble_eq_true rfl) 8 69 rfl (by decide) fk_YearPlan_18 d_YearPlan_claimOn_2 ?_
  refine m_iload_n C hl 1 d_YearPlan_claimOn_5 rfl rfl ?_
  refine m_iald C hP sh_69 (Nat.le_of_ble_eq_true rfl) (Nat.le_of_ble_eq_true rfl) hM d_YearPlan_claimOn_6 (fun x1 hM => ?_)
  refine m_isub C d_YearPlan_claimOn_7 ?_
  refine m_istore_n C hl [(3, .int (iZ (a2 - x1))), (0, .ref (ad 66)), (1, .int (iZ a1)), (2, .int (iZ a2))] d_YearPlan_claimOn_8 rfl (by decide) rfl (fun ls hl => ?_)
  refine m_iload_n C hl 0 d_YearPlan_claimOn_9 rfl rfl ?_
  refine m_if_ne C hM 23 d_YearPlan_claimOn_10 (by decide) (fun hM => ?_) (fun hM => ?_)
  · refine m_iload_n C hl 0 d_YearPlan_claimOn_23 rfl rfl ?_
    refine m_if_le C hM 63 d_YearPlan_claimOn_24 (by decide) (fun hM => ?_) (fun hM => ?_)
    · refine m_aload_n C hl 1 d_YearPlan_claimOn_63 rfl rfl ?_
      refine m_getr C hP kc_YearPlan sh_66 (Nat.le_of_ble_eq_true rfl) 9 70 rfl (by decide) fk_YearPlan_21 d_YearPlan_claimOn_64 ?_
      refine m_iload_n C hl 2 d_YearPlan_claimOn_67 rfl rfl ?_
      refine m_iald C hP sh_70 (Nat.le_of_ble_eq_true rfl) (Nat.le_of_ble_eq_true rfl) hM d_YearPlan_claimOn_68 (fun x2 hM => ?_)
      refine m_iload_n C hl 3 d_YearPlan_claimOn_69 rfl rfl ?_
      refine m_icmp_ne C hM 84 d_YearPlan_claimOn_70 (by decide) (fun hM => ?_) (fun hM => ?_)
      · refine m_iconst C d_YearPlan_claimOn_84 ?_
        exact m_iretR C hr hlk hM d_YearPlan_claimOn_85
      · refine m_aload_n C hl 1 d_YearPlan_claimOn_73 rfl rfl ?_
        refine m_getr C hP kc_YearPlan sh_66 (Nat.le_of_ble_eq_true rfl) 1 33 rfl (by decide) fk_YearPlan_40 d_YearPlan_claimOn_74 ?_
        refine m_iload_n C hl 2 d_YearPlan_claimOn_77 rfl rfl ?_
        obtain ⟨x4, e3, hM⟩ := bnd_some hM
        refine aftR (runV C hP va_S.rf kc_Feasts sh_33 (Nat.le_of_ble_eq_true rfl) (c_Feasts_vigilClaim hI (Or.inr (Or.inl rfl)) e3) lk_YearPlan_136 mb_Feasts_vigilClaim rfl ⟨Nat.le_of_ble_eq_true rfl, Nat.le_of_ble_eq_true rfl⟩ ⟨Nat.zero_le _, Nat.zero_le _⟩ (Nat.le_of_ble_eq_true rfl) d_YearPlan_claimOn_78 hl.1 (rest := []) rfl) ?_
        refine m_goto C 85 d_YearPlan_claimOn_81 (by decide) ?_
        exact m_iretR C hr hlk hM d_YearPlan_claimOn_85
    · refine m_iload_n C hl 0 d_YearPlan_claimOn_27 rfl rfl ?_
      refine m_aload_n C hl 1 d_YearPlan_claimOn_28 rfl rfl ?_
      refine m_getr C hP kc_YearPlan sh_66 (Nat.le_of_ble_eq_true rfl) 0 23 rfl (by decide) fk_YearPlan_30 d_YearPlan_claimOn_29 ?_
      refine m_geti C hP kc_Book sh_23 (Nat.le_of_ble_eq_true rfl) 1 rfl (by decide) fk_YearPlan_125 d_YearPlan_claimOn_32 ?_
      refine m_icmp_gt C hM 61 d_YearPlan_claimOn_35 (by decide) (fun hM => ?_) (fun hM => ?_)
      · refine m_iconst C d_YearPlan_claimOn_61 ?_
        exact m_iretR C hr hlk hM d_YearPlan_claimOn_62
      · refine m_aload_n C hl 1 d_YearPlan_claimOn_38 rfl rfl ?_
        refine m_getr C hP kc_YearPlan sh_66 (Nat.le_of_ble_eq_true rfl) 1 33 rfl (by decide) fk_YearPlan_40 d_YearPlan_claimOn_39 ?_
        refine m_getr C hP kc_Feasts sh_33 (Nat.le_of_ble_eq_true rfl) 6 39 rfl (by decide) fk_YearPlan_143 d_YearPlan_claimOn_42 ?_
        refine m_iload_n C hl 2 d_YearPlan_claimOn_45 rfl rfl ?_
        refine m_iald C hP sh_39 (Nat.le_of_ble_eq_true rfl) (Nat.le_of_ble_eq_true rfl) hM d_YearPlan_claimOn_46 (fun x5 hM => ?_)
        refine m_if_le C hM 61 d_YearPlan_claimOn_47 (by decide) (fun hM => ?_) (fun hM => ?_)
        · refine m_iconst C d_YearPlan_claimOn_61 ?_
          exact m_iretR C hr hlk hM d_YearPlan_claimOn_62
        · refine m_aload_n C hl 1 d_YearPlan_claimOn_50 rfl rfl ?_
          refine m_getr C hP kc_YearPlan sh_66 (Nat.le_of_ble_eq_true rfl) 1 33 rfl (by decide) fk_YearPlan_40 d_YearPlan_claimOn_51 ?_
          refine m_iload_n C hl 2 d_YearPlan_claimOn_54 rfl rfl ?_
          obtain ⟨x7, e6, hM⟩ := bnd_some hM
          refine aftR (runV C hP va_S.rf kc_Feasts sh_33 (Nat.le_of_ble_eq_true rfl) (c_Feasts_octaveClaim hI (Or.inr (Or.inl rfl)) e6) lk_YearPlan_146 mb_Feasts_octaveClaim rfl ⟨Nat.le_of_ble_eq_true rfl, Nat.le_of_ble_eq_true rfl⟩ ⟨Nat.zero_le _, Nat.zero_le _⟩ (Nat.le_of_ble_eq_true rfl) d_YearPlan_claimOn_55 hl.1 (rest := []) rfl) ?_
          refine m_goto C 62 d_YearPlan_claimOn_58 (by decide) ?_
          exact m_iretR C hr hlk hM d_YearPlan_claimOn_62
  · refine m_aload_n C hl 1 d_YearPlan_claimOn_13 rfl rfl ?_
    refine m_getr C hP kc_YearPlan sh_66 (Nat.le_of_ble_eq_true rfl) 1 33 rfl (by decide) fk_YearPlan_40 d_YearPlan_claimOn_14 ?_
    refine m_getr C hP kc_Feasts sh_33 (Nat.le_of_ble_eq_true rfl) 7 40 rfl (by decide) fk_YearPlan_152 d_YearPlan_claimOn_17 ?_
    refine m_iload_n C hl 2 d_YearPlan_claimOn_20 rfl rfl ?_
    refine m_iald C hP sh_40 (Nat.le_of_ble_eq_true rfl) (Nat.le_of_ble_eq_true rfl) hM d_YearPlan_claimOn_21 (fun x8 hM => ?_)
    exact m_iretR C hr hlk hM d_YearPlan_claimOn_22
def y_YearPlan_greatestOfOthers : MethodName := ⟨"FeastBook$YearPlan", "greatestOfOthers", "(II)I"⟩
theorem d_YearPlan_greatestOfOthers_0 : decode prog_11_method_34_code 0 = .ok (.aload_n 0, 1) := by decide +kernel
theorem d_YearPlan_greatestOfOthers_1 : decode prog_11_method_34_code 1 = .ok (.iload_n 2, 1) := by decide +kernel
theorem d_YearPlan_greatestOfOthers_2 : decode prog_11_method_34_code 2 = .ok (.invokevirtual 91, 3) := by decide +kernel
theorem d_YearPlan_greatestOfOthers_5 : decode prog_11_method_34_code 5 = .ok (.ifCond .eq 19, 3) := by decide +kernel
theorem d_YearPlan_greatestOfOthers_8 : decode prog_11_method_34_code 8 = .ok (.aload_n 0, 1) := by decide +kernel
theorem d_YearPlan_greatestOfOthers_9 : decode prog_11_method_34_code 9 = .ok (.getfield 30, 3) := by decide +kernel
theorem d_YearPlan_greatestOfOthers_12 : decode prog_11_method_34_code 12 = .ok (.iload_n 2, 1) := by decide +kernel
theorem d_YearPlan_greatestOfOthers_13 : decode prog_11_method_34_code 13 = .ok (.aload_n 0, 1) := by decide +kernel
theorem d_YearPlan_greatestOfOthers_14 : decode prog_11_method_34_code 14 = .ok (.getfield 58, 3) := by decide +kernel
theorem d_YearPlan_greatestOfOthers_17 : decode prog_11_method_34_code 17 = .ok (.isub, 1) := by decide +kernel
theorem d_YearPlan_greatestOfOthers_18 : decode prog_11_method_34_code 18 = .ok (.invokevirtual 133, 3) := by decide +kernel
theorem d_YearPlan_greatestOfOthers_21 : decode prog_11_method_34_code 21 = .ok (.goto 4, 3) := by decide +kernel
theorem d_YearPlan_greatestOfOthers_24 : decode prog_11_method_34_code 24 = .ok (.iconst 0, 1) := by decide +kernel
theorem d_YearPlan_greatestOfOthers_25 : decode prog_11_method_34_code 25 = .ok (.istore_n 3, 1) := by decide +kernel
theorem d_YearPlan_greatestOfOthers_26 : decode prog_11_method_34_code 26 = .ok (.iconst 0, 1) := by decide +kernel
theorem d_YearPlan_greatestOfOthers_27 : decode prog_11_method_34_code 27 = .ok (.istore 4, 2) := by decide +kernel
theorem d_YearPlan_greatestOfOthers_29 : decode prog_11_method_34_code 29 = .ok (.iload 4, 2) := by decide +kernel
theorem d_YearPlan_greatestOfOthers_31 : decode prog_11_method_34_code 31 = .ok (.aload_n 0, 1) := by decide +kernel
theorem d_YearPlan_greatestOfOthers_32 : decode prog_11_method_34_code 32 = .ok (.getfield 40, 3) := by decide +kernel
theorem d_YearPlan_greatestOfOthers_35 : decode prog_11_method_34_code 35 = .ok (.getfield 61, 3) := by decide +kernel
theorem d_YearPlan_greatestOfOthers_38 : decode prog_11_method_34_code 38 = .ok (.if_icmp .ge 38, 3) := by decide +kernel
theorem d_YearPlan_greatestOfOthers_41 : decode prog_11_method_34_code 41 = .ok (.iload 4, 2) := by decide +kernel
theorem d_YearPlan_greatestOfOthers_43 : decode prog_11_method_34_code 43 = .ok (.iload_n 1, 1) := by decide +kernel
theorem d_YearPlan_greatestOfOthers_44 : decode prog_11_method_34_code 44 = .ok (.if_icmp .eq 26, 3) := by decide +kernel
theorem d_YearPlan_greatestOfOthers_47 : decode prog_11_method_34_code 47 = .ok (.aload_n 0, 1) := by decide +kernel
theorem d_YearPlan_greatestOfOthers_48 : decode prog_11_method_34_code 48 = .ok (.getfield 18, 3) := by decide +kernel
theorem d_YearPlan_greatestOfOthers_51 : decode prog_11_method_34_code 51 = .ok (.iload 4, 2) := by decide +kernel
theorem d_YearPlan_greatestOfOthers_53 : decode prog_11_method_34_code 53 = .ok (.iaload, 1) := by decide +kernel
theorem d_YearPlan_greatestOfOthers_54 : decode prog_11_method_34_code 54 = .ok (.iconst (-1), 1) := by decide +kernel
theorem d_YearPlan_greatestOfOthers_55 : decode prog_11_method_34_code 55 = .ok (.if_icmp .eq 15, 3) := by decide +kernel
theorem d_YearPlan_greatestOfOthers_58 : decode prog_11_method_34_code 58 = .ok (.iload_n 3, 1) := by decide +kernel
theorem d_YearPlan_greatestOfOthers_59 : decode prog_11_method_34_code 59 = .ok (.aload_n 0, 1) := by decide +kernel
theorem d_YearPlan_greatestOfOthers_60 : decode prog_11_method_34_code 60 = .ok (.iload 4, 2) := by decide +kernel
theorem d_YearPlan_greatestOfOthers_62 : decode prog_11_method_34_code 62 = .ok (.iload_n 2, 1) := by decide +kernel
theorem d_YearPlan_greatestOfOthers_63 : decode prog_11_method_34_code 63 = .ok (.invokevirtual 243, 3) := by decide +kernel
theorem d_YearPlan_greatestOfOthers_66 : decode prog_11_method_34_code 66 = .ok (.invokestatic 128, 3) := by decide +kernel
theorem d_YearPlan_greatestOfOthers_69 : decode prog_11_method_34_code 69 = .ok (.istore_n 3, 1) := by decide +kernel
theorem d_YearPlan_greatestOfOthers_70 : decode prog_11_method_34_code 70 = .ok (.iinc 4 1, 3) := by decide +kernel
theorem d_YearPlan_greatestOfOthers_73 : decode prog_11_method_34_code 73 = .ok (.goto (-44), 3) := by decide +kernel
theorem d_YearPlan_greatestOfOthers_76 : decode prog_11_method_34_code 76 = .ok (.iload_n 3, 1) := by decide +kernel
theorem d_YearPlan_greatestOfOthers_77 : decode prog_11_method_34_code 77 = .ok (.ireturn, 1) := by decide +kernel
theorem mb_YearPlan_claimOn : MBv R_YearPlan y_YearPlan_claimOn prog_11_method_35_code 4 (some .int) 2 := ⟨mT7 147 (by decide +kernel) (by decide +kernel), mT7 148 (by decide +kernel) (by decide +kernel), mT1 8 (by decide +kernel) (by decide +kernel), mT7 149 (by decide +kernel) (by decide +kernel), by decide, rfl, by decide +kernel, by decide +kernel, by decide +kernel⟩
theorem lk_YearPlan_243 : Cond.methodLink "FeastBook$YearPlan" 243 y_YearPlan_claimOn ∈ TT := mT7 146 (by decide +kernel) (by decide +kernel)
set_option maxHeartbeats 4000000 in
set_option maxRecDepth 100000 in
theorem w_YearPlan_greatestOfOthers_L29 {p : Program} {l : Launch} {e : Env} {s : State} {m : MethodId} {args : Array Value} {below : List Frame} {meth : Method} {c : Code} {D : va_G} {ad : Nat → Nat} {cA : Nat → ClassId} {sd sv : Nat → Nat} {out : Int} (N : Nat) (hI : Inj97 ad) (C : Cx p s m args c prog_11_method_34_code 5 "FeastBook$YearPlan" D ad cA sd sv (FA ad)) (hr : meth.sig.returnType = (some .int)) (hlk : meth.locks = false) (v1 v2 : Int) (h : Hp) (hP : va_P D clL (wl ad cA h) s.heap) : ∀ (n : Nat) (v3 v4 : Int), ∀ ls : Array Slot, lv_has ls 5 [(0, .ref (ad 66)), (1, .int (iZ v1)), (2, .int (iZ v2)), (3, .int (iZ v3)), (4, .int (iZ v4))] → YearPlan_greatestOfOthers_L29 N h v1 v2 n v3 v4 = some out → W p l e (rmD 3) s m args below meth c s.heap [] 0 0 (MQ below (QR out) args s 0 0 (fun _ => False)) (F0 m 29 ls []) := by
  intro n
  induction n with
  | zero =>
    intro v3 v4 ls hl hM
    rw [YearPlan_greatestOfOthers_L29] at hM
    cases hM
  | succ n ih =>
    intro v3 v4 ls hl hM
    rw [YearPlan_greatestOfOthers_L29] at hM
    refine m_iload C hl 4 d_YearPlan_greatestOfOthers_29 rfl ?_
    refine m_aload_n C hl 0 d_YearPlan_greatestOfOthers_31 rfl rfl ?_
    refine m_getr C hP kc_YearPlan sh_66 (Nat.le_of_ble_eq_true rfl) 1 33 rfl (by decide) fk_YearPlan_40 d_YearPlan_greatestOfOthers_32 ?_
    refine m_geti C hP kc_Feasts sh_33 (Nat.le_of_ble_eq_true rfl) 0 rfl (by decide) fk_YearPlan_61 d_YearPlan_greatestOfOthers_35 ?_
    refine m_icmp_ge C hM 76 d_YearPlan_greatestOfOthers_38 (by decide) (fun hM => ?_) (fun hM => ?_)
    · refine m_iload_n C hl 3 d_YearPlan_greatestOfOthers_76 rfl rfl ?_
      exact m_iretR C hr hlk hM d_YearPlan_greatestOfOthers_77
    · refine m_iload C hl 4 d_YearPlan_greatestOfOthers_41 rfl ?_
      refine m_iload_n C hl 1 d_YearPlan_greatestOfOthers_43 rfl rfl ?_
      refine m_icmp_eq C hM 70 d_YearPlan_greatestOfOthers_44 (by decide) (fun hM => ?_) (fun hM => ?_)
      · refine m_iinc C hl 4 [(4, .int (iZ (v4 + 1))), (0, .ref (ad 66)), (1, .int (iZ v1)), (2, .int (iZ v2)), (3, .int (iZ v3))] d_YearPlan_greatestOfOthers_70 rfl (by decide) rfl (fun ls hl => ?_)
        refine m_goto C 29 d_YearPlan_greatestOfOthers_73 (by decide) ?_
        exact ih v3 (v4 + 1) _ (lv_sub hl [1, 2, 3, 4, 0] rfl) hM
      · refine m_aload_n C hl 0 d_YearPlan_greatestOfOthers_47 rfl rfl ?_
        refine m_getr C hP kc_YearPlan sh_66 (Nat.le_of_ble_eq_true rfl) 8 69 rfl (by decide) fk_YearPlan_18 d_YearPlan_greatestOfOthers_48 ?_
        refine m_iload C hl 4 d_YearPlan_greatestOfOthers_51 rfl ?_
        refine m_iald C hP sh_69 (Nat.le_of_ble_eq_true rfl) (Nat.le_of_ble_eq_true rfl) hM d_YearPlan_greatestOfOthers_53 (fun x6 hM => ?_)
        refine m_iconst C d_YearPlan_greatestOfOthers_54 ?_
        refine m_icmp_eq C hM 70 d_YearPlan_greatestOfOthers_55 (by decide) (fun hM => ?_) (fun hM => ?_)
        · refine m_iinc C hl 4 [(4, .int (iZ (v4 + 1))), (0, .ref (ad 66)), (1, .int (iZ v1)), (2, .int (iZ v2)), (3, .int (iZ v3))] d_YearPlan_greatestOfOthers_70 rfl (by decide) rfl (fun ls hl => ?_)
          refine m_goto C 29 d_YearPlan_greatestOfOthers_73 (by decide) ?_
          exact ih v3 (v4 + 1) _ (lv_sub hl [1, 2, 3, 4, 0] rfl) hM
        · refine m_iload_n C hl 3 d_YearPlan_greatestOfOthers_58 rfl rfl ?_
          refine m_aload_n C hl 0 d_YearPlan_greatestOfOthers_59 rfl rfl ?_
          refine m_iload C hl 4 d_YearPlan_greatestOfOthers_60 rfl ?_
          refine m_iload_n C hl 2 d_YearPlan_greatestOfOthers_62 rfl rfl ?_
          obtain ⟨x8, e7, hM⟩ := bnd_some hM
          refine aftR (runV C hP va_S.rf kc_YearPlan sh_66 (Nat.le_of_ble_eq_true rfl) (c_YearPlan_claimOn hI e7) lk_YearPlan_243 mb_YearPlan_claimOn rfl ⟨Nat.le_of_ble_eq_true rfl, Nat.le_of_ble_eq_true rfl⟩ ⟨Nat.zero_le _, Nat.zero_le _⟩ (Nat.le_of_ble_eq_true rfl) d_YearPlan_greatestOfOthers_63 hl.1 (rest := [.int (iZ v3)]) rfl) ?_
          refine m_max C lk_YearPlan_128 hl.1 (Nat.le_of_ble_eq_true rfl) (Nat.le_of_ble_eq_true rfl) ⟨Nat.zero_le _, Nat.zero_le _⟩ d_YearPlan_greatestOfOthers_66 ?_
          refine m_istore_n C hl [(3, .int (iZ (mxI v3 x8))), (0, .ref (ad 66)), (1, .int (iZ v1)), (2, .int (iZ v2)), (4, .int (iZ v4))] d_YearPlan_greatestOfOthers_69 rfl (by decide) rfl (fun ls hl => ?_)
          refine m_iinc C hl 4 [(4, .int (iZ (v4 + 1))), (3, .int (iZ (mxI v3 x8))), (0, .ref (ad 66)), (1, .int (iZ v1)), (2, .int (iZ v2))] d_YearPlan_greatestOfOthers_70 rfl (by decide) rfl (fun ls hl => ?_)
          refine m_goto C 29 d_YearPlan_greatestOfOthers_73 (by decide) ?_
          exact ih (mxI v3 x8) (v4 + 1) _ (lv_sub hl [2, 3, 4, 1, 0] rfl) hM
set_option maxHeartbeats 4000000 in
set_option maxRecDepth 100000 in
theorem c_YearPlan_greatestOfOthers {l : Launch} {D : va_G} {ad : Nat → Nat} {cA : Nat → ClassId} {sd sv : Nat → Nat} {h : Hp} {N : Nat} {a1 a2 : Int} {out : Int} (hI : Inj97 ad) (hM : M_YearPlan_greatestOfOthers N h a1 a2 = some out) : Met l y_YearPlan_greatestOfOthers (.code y_YearPlan_greatestOfOthers prog_11_method_34_code 5 (some .int) :: TT) (rmD 3) (PC D ad cA sd sv h [.ref (ad 66), .int (iZ a1), .int (iZ a2)]) (QR out) 0 0 (fun _ => False) := by
  unfold M_YearPlan_greatestOfOthers at hM
  refine entM (by decide +kernel) hI (Nat.le_of_ble_eq_true rfl) ?_
  intro p e s m args below meth c C hr hlk hP ls hl
  have C : Cx p s m args c prog_11_method_34_code 5 "FeastBook$YearPlan" D ad cA sd sv (FA ad) := C
  have hl : lv_has ls 5 [(0, .ref (ad 66)), (1, .int (iZ a1)), (2, .int (iZ a2))] := hl
  refine m_aload_n C hl 0 d_YearPlan_greatestOfOthers_0 rfl rfl ?_
  refine m_iload_n C hl 2 d_YearPlan_greatestOfOthers_1 rfl rfl ?_
  obtain ⟨x2, e1, hM⟩ := bnd_some hM
  refine aftR (runV C hP va_S.rf kc_YearPlan sh_66 (Nat.le_of_ble_eq_true rfl) (c_YearPlan_isSunday hI e1) lk_YearPlan_91 mb_YearPlan_isSunday rfl ⟨Nat.le_of_ble_eq_true rfl, Nat.le_of_ble_eq_true rfl⟩ ⟨Nat.zero_le _, Nat.zero_le _⟩ (Nat.le_of_ble_eq_true rfl) d_YearPlan_greatestOfOthers_2 hl.1 (rest := []) rfl) ?_
  refine lt_join hM (fun j5 ej hM => ?_)
  have hJ5 : ∀ (s0_5 : Int), j5 s0_5 = some out → ∀ ls : Array Slot, lv_has ls 5 [(0, .ref (ad 66)), (1, .int (iZ a1)), (2, .int (iZ a2))] → W p l e (rmD 3) s m args below meth c s.heap [] 0 0 (MQ below (QR out) args s 0 0 (fun _ => False)) (F0 m 25 ls [.int (iZ s0_5)]) := by
    intro s0_5 hM ls hl
    subst ej
    dsimp only at hM
    refine m_istore_n C hl [(3, .int (iZ s0_5)), (0, .ref (ad 66)), (1, .int (iZ a1)), (2, .int (iZ a2))] d_YearPlan_greatestOfOthers_25 rfl (by decide) rfl (fun ls hl => ?_)
    refine m_iconst C d_YearPlan_greatestOfOthers_26 ?_
    refine m_istore C hl [(4, .int (iZ 0)), (3, .int (iZ s0_5)), (0, .ref (ad 66)), (1, .int (iZ a1)), (2, .int (iZ a2))] d_YearPlan_greatestOfOthers_27 (by decide) rfl (fun ls hl => ?_)
    exact w_YearPlan_greatestOfOthers_L29 N hI C hr hlk a1 a2 h hP _ s0_5 0 _ (lv_sub hl [2, 3, 4, 1, 0] rfl) hM
  refine m_if_eq C hM 24 d_YearPlan_greatestOfOthers_5 (by decide) (fun hM => ?_) (fun hM => ?_)
  · refine m_iconst C d_YearPlan_greatestOfOthers_24 ?_
    exact hJ5 0 hM _ hl
  · refine m_aload_n C hl 0 d_YearPlan_greatestOfOthers_8 rfl rfl ?_
    refine m_getr C hP kc_YearPlan sh_66 (Nat.le_of_ble_eq_true rfl) 0 23 rfl (by decide) fk_YearPlan_30 d_YearPlan_greatestOfOthers_9 ?_
    refine m_iload_n C hl 2 d_YearPlan_greatestOfOthers_12 rfl rfl ?_
    refine m_aload_n C hl 0 d_YearPlan_greatestOfOthers_13 rfl rfl ?_
    refine m_geti C hP kc_YearPlan sh_66 (Nat.le_of_ble_eq_true rfl) 5 rfl (by decide) fk_YearPlan_58 d_YearPlan_greatestOfOthers_14 ?_
    refine m_isub C d_YearPlan_greatestOfOthers_17 ?_
    obtain ⟨x10, e9, hM⟩ := bnd_some hM
    refine aftR (runV C hP va_S.rf kc_Book sh_23 (Nat.le_of_ble_eq_true rfl) (c_Book_sundayClaim hI (Or.inr (Or.inl rfl)) e9) lk_YearPlan_133 mb_Book_sundayClaim rfl ⟨Nat.le_of_ble_eq_true rfl, Nat.le_of_ble_eq_true rfl⟩ ⟨Nat.zero_le _, Nat.zero_le _⟩ (Nat.le_of_ble_eq_true rfl) d_YearPlan_greatestOfOthers_18 hl.1 (rest := []) rfl) ?_
    refine m_goto C 25 d_YearPlan_greatestOfOthers_21 (by decide) ?_
    exact hJ5 x10 hM _ hl
def y_YearPlan_heaviestFrom : MethodName := ⟨"FeastBook$YearPlan", "heaviestFrom", "(I)I"⟩
theorem d_YearPlan_heaviestFrom_0 : decode prog_11_method_33_code 0 = .ok (.aload_n 0, 1) := by decide +kernel
theorem d_YearPlan_heaviestFrom_1 : decode prog_11_method_33_code 1 = .ok (.iconst 0, 1) := by decide +kernel
theorem d_YearPlan_heaviestFrom_2 : decode prog_11_method_33_code 2 = .ok (.iload_n 1, 1) := by decide +kernel
theorem d_YearPlan_heaviestFrom_3 : decode prog_11_method_33_code 3 = .ok (.invokevirtual 222, 3) := by decide +kernel
theorem d_YearPlan_heaviestFrom_6 : decode prog_11_method_33_code 6 = .ok (.istore_n 2, 1) := by decide +kernel
theorem d_YearPlan_heaviestFrom_7 : decode prog_11_method_33_code 7 = .ok (.iload_n 2, 1) := by decide +kernel
theorem d_YearPlan_heaviestFrom_8 : decode prog_11_method_33_code 8 = .ok (.istore_n 3, 1) := by decide +kernel
theorem d_YearPlan_heaviestFrom_9 : decode prog_11_method_33_code 9 = .ok (.iconst 0, 1) := by decide +kernel
theorem d_YearPlan_heaviestFrom_10 : decode prog_11_method_33_code 10 = .ok (.istore 4, 2) := by decide +kernel
theorem d_YearPlan_heaviestFrom_12 : decode prog_11_method_33_code 12 = .ok (.iconst 1, 1) := by decide +kernel
theorem d_YearPlan_heaviestFrom_13 : decode prog_11_method_33_code 13 = .ok (.istore 5, 2) := by decide +kernel
theorem d_YearPlan_heaviestFrom_15 : decode prog_11_method_33_code 15 = .ok (.iload 5, 2) := by decide +kernel
theorem d_YearPlan_heaviestFrom_17 : decode prog_11_method_33_code 17 = .ok (.iload_n 1, 1) := by decide +kernel
theorem d_YearPlan_heaviestFrom_18 : decode prog_11_method_33_code 18 = .ok (.iadd, 1) := by decide +kernel
theorem d_YearPlan_heaviestFrom_19 : decode prog_11_method_33_code 19 = .ok (.aload_n 0, 1) := by decide +kernel
theorem d_YearPlan_heaviestFrom_20 : decode prog_11_method_33_code 20 = .ok (.getfield 52, 3) := by decide +kernel
theorem d_YearPlan_heaviestFrom_23 : decode prog_11_method_33_code 23 = .ok (.if_icmp .gt 50, 3) := by decide +kernel
theorem d_YearPlan_heaviestFrom_26 : decode prog_11_method_33_code 26 = .ok (.iload_n 2, 1) := by decide +kernel
theorem d_YearPlan_heaviestFrom_27 : decode prog_11_method_33_code 27 = .ok (.aload_n 0, 1) := by decide +kernel
theorem d_YearPlan_heaviestFrom_28 : decode prog_11_method_33_code 28 = .ok (.getfield 15, 3) := by decide +kernel
theorem d_YearPlan_heaviestFrom_31 : decode prog_11_method_33_code 31 = .ok (.iload 5, 2) := by decide +kernel
theorem d_YearPlan_heaviestFrom_33 : decode prog_11_method_33_code 33 = .ok (.iload_n 1, 1) := by decide +kernel
theorem d_YearPlan_heaviestFrom_34 : decode prog_11_method_33_code 34 = .ok (.iadd, 1) := by decide +kernel
theorem d_YearPlan_heaviestFrom_35 : decode prog_11_method_33_code 35 = .ok (.iconst 1, 1) := by decide +kernel
theorem d_YearPlan_heaviestFrom_36 : decode prog_11_method_33_code 36 = .ok (.isub, 1) := by decide +kernel
theorem d_YearPlan_heaviestFrom_37 : decode prog_11_method_33_code 37 = .ok (.iaload, 1) := by decide +kernel
theorem d_YearPlan_heaviestFrom_38 : decode prog_11_method_33_code 38 = .ok (.invokestatic 188, 3) := by decide +kernel
theorem d_YearPlan_heaviestFrom_41 : decode prog_11_method_33_code 41 = .ok (.aload_n 0, 1) := by decide +kernel
theorem d_YearPlan_heaviestFrom_42 : decode prog_11_method_33_code 42 = .ok (.getfield 15, 3) := by decide +kernel
theorem d_YearPlan_heaviestFrom_45 : decode prog_11_method_33_code 45 = .ok (.iload 5, 2) := by decide +kernel
theorem d_YearPlan_heaviestFrom_47 : decode prog_11_method_33_code 47 = .ok (.iconst 1, 1) := by decide +kernel
theorem d_YearPlan_heaviestFrom_48 : decode prog_11_method_33_code 48 = .ok (.isub, 1) := by decide +kernel
theorem d_YearPlan_heaviestFrom_49 : decode prog_11_method_33_code 49 = .ok (.iaload, 1) := by decide +kernel
theorem d_YearPlan_heaviestFrom_50 : decode prog_11_method_33_code 50 = .ok (.invokestatic 188, 3) := by decide +kernel
theorem d_YearPlan_heaviestFrom_53 : decode prog_11_method_33_code 53 = .ok (.isub, 1) := by decide +kernel
theorem d_YearPlan_heaviestFrom_54 : decode prog_11_method_33_code 54 = .ok (.iadd, 1) := by decide +kernel
theorem d_YearPlan_heaviestFrom_55 : decode prog_11_method_33_code 55 = .ok (.istore_n 2, 1) := by decide +kernel
theorem d_YearPlan_heaviestFrom_56 : decode prog_11_method_33_code 56 = .ok (.iload_n 2, 1) := by decide +kernel
theorem d_YearPlan_heaviestFrom_57 : decode prog_11_method_33_code 57 = .ok (.iload_n 3, 1) := by decide +kernel
theorem d_YearPlan_heaviestFrom_58 : decode prog_11_method_33_code 58 = .ok (.if_icmp .le 9, 3) := by decide +kernel
theorem d_YearPlan_heaviestFrom_61 : decode prog_11_method_33_code 61 = .ok (.iload_n 2, 1) := by decide +kernel
theorem d_YearPlan_heaviestFrom_62 : decode prog_11_method_33_code 62 = .ok (.istore_n 3, 1) := by decide +kernel
theorem d_YearPlan_heaviestFrom_63 : decode prog_11_method_33_code 63 = .ok (.iload 5, 2) := by decide +kernel
theorem d_YearPlan_heaviestFrom_65 : decode prog_11_method_33_code 65 = .ok (.istore 4, 2) := by decide +kernel
theorem d_YearPlan_heaviestFrom_67 : decode prog_11_method_33_code 67 = .ok (.iinc 5 1, 3) := by decide +kernel
theorem d_YearPlan_heaviestFrom_70 : decode prog_11_method_33_code 70 = .ok (.goto (-55), 3) := by decide +kernel
theorem d_YearPlan_heaviestFrom_73 : decode prog_11_method_33_code 73 = .ok (.iload 4, 2) := by decide +kernel
theorem d_YearPlan_heaviestFrom_75 : decode prog_11_method_33_code 75 = .ok (.ireturn, 1) := by decide +kernel
set_option maxHeartbeats 4000000 in
set_option maxRecDepth 100000 in
theorem w_YearPlan_heaviestFrom_L15 {p : Program} {l : Launch} {e : Env} {s : State} {m : MethodId} {args : Array Value} {below : List Frame} {meth : Method} {c : Code} {D : va_G} {ad : Nat → Nat} {cA : Nat → ClassId} {sd sv : Nat → Nat} {out : Int} (N : Nat) (hI : Inj97 ad) (C : Cx p s m args c prog_11_method_33_code 6 "FeastBook$YearPlan" D ad cA sd sv (FA ad)) (hr : meth.sig.returnType = (some .int)) (hlk : meth.locks = false) (v1 : Int) (h : Hp) (hP : va_P D clL (wl ad cA h) s.heap) : ∀ (n : Nat) (v2 v3 v4 v5 : Int), ∀ ls : Array Slot, lv_has ls 6 [(0, .ref (ad 66)), (1, .int (iZ v1)), (2, .int (iZ v2)), (3, .int (iZ v3)), (4, .int (iZ v4)), (5, .int (iZ v5))] → YearPlan_heaviestFrom_L15 N h v1 n v2 v3 v4 v5 = some out → W p l e (rmD 2) s m args below meth c s.heap [] 0 0 (MQ below (QR out) args s 0 0 (fun _ => False)) (F0 m 15 ls []) := by
  intro n
  induction n with
  | zero =>
    intro v2 v3 v4 v5 ls hl hM
    rw [YearPlan_heaviestFrom_L15] at hM
    cases hM
  | succ n ih =>
    intro v2 v3 v4 v5 ls hl hM
    rw [YearPlan_heaviestFrom_L15] at hM
    refine m_iload C hl 5 d_YearPlan_heaviestFrom_15 rfl ?_
    refine m_iload_n C hl 1 d_YearPlan_heaviestFrom_17 rfl rfl ?_
    refine m_iadd C d_YearPlan_heaviestFrom_18 ?_
    refine m_aload_n C hl 0 d_YearPlan_heaviestFrom_19 rfl rfl ?_
    refine m_geti C hP kc_YearPlan sh_66 (Nat.le_of_ble_eq_true rfl) 4 rfl (by decide) fk_YearPlan_52 d_YearPlan_heaviestFrom_20 ?_
    refine m_icmp_gt C hM 73 d_YearPlan_heaviestFrom_23 (by decide) (fun hM => ?_) (fun hM => ?_)
    · refine m_iload C hl 4 d_YearPlan_heaviestFrom_73 rfl ?_
      exact m_iretR C hr hlk hM d_YearPlan_heaviestFrom_75
    · refine m_iload_n C hl 2 d_YearPlan_heaviestFrom_26 rfl rfl ?_
      refine m_aload_n C hl 0 d_YearPlan_heaviestFrom_27 rfl rfl ?_
      refine m_getr C hP kc_YearPlan sh_66 (Nat.le_of_ble_eq_true rfl) 7 68 rfl (by decide) fk_YearPlan_15 d_YearPlan_heaviestFrom_28 ?_
      refine m_iload C hl 5 d_YearPlan_heaviestFrom_31 rfl ?_
      refine m_iload_n C hl 1 d_YearPlan_heaviestFrom_33 rfl rfl ?_
      refine m_iadd C d_YearPlan_heaviestFrom_34 ?_
      refine m_iconst C d_YearPlan_heaviestFrom_35 ?_
      refine m_isub C d_YearPlan_heaviestFrom_36 ?_
      refine m_iald C hP sh_68 (Nat.le_of_ble_eq_true rfl) (Nat.le_of_ble_eq_true rfl) hM d_YearPlan_heaviestFrom_37 (fun x3 hM => ?_)
      obtain ⟨x5, e4, hM⟩ := bnd_some hM
      refine aftR (runS C hP va_S.rf (c_Cl_rankIn hI e4) lk_YearPlan_188 mb_Cl_rankIn rfl ⟨Nat.le_of_ble_eq_true rfl, Nat.le_of_ble_eq_true rfl⟩ ⟨Nat.zero_le _, Nat.zero_le _⟩ (Nat.le_of_ble_eq_true rfl) d_YearPlan_heaviestFrom_38 hl.1 (rest := [.int (iZ v2)]) rfl) ?_
      refine m_aload_n C hl 0 d_YearPlan_heaviestFrom_41 rfl rfl ?_
      refine m_getr C hP kc_YearPlan sh_66 (Nat.le_of_ble_eq_true rfl) 7 68 rfl (by decide) fk_YearPlan_15 d_YearPlan_heaviestFrom_42 ?_
      refine m_iload C hl 5 d_YearPlan_heaviestFrom_45 rfl ?_
      refine m_iconst C d_YearPlan_heaviestFrom_47 ?_
      refine m_isub C d_YearPlan_heaviestFrom_48 ?_
      refine m_iald C hP sh_68 (Nat.le_of_ble_eq_true rfl) (Nat.le_of_ble_eq_true rfl) hM d_YearPlan_heaviestFrom_49 (fun x6 hM => ?_)
      obtain ⟨x8, e7, hM⟩ := bnd_some hM
      refine aftR (runS C hP va_S.rf (c_Cl_rankIn hI e7) lk_YearPlan_188 mb_Cl_rankIn rfl ⟨Nat.le_of_ble_eq_true rfl, Nat.le_of_ble_eq_true rfl⟩ ⟨Nat.zero_le _, Nat.zero_le _⟩ (Nat.le_of_ble_eq_true rfl) d_YearPlan_heaviestFrom_50 hl.1 (rest := [.int (iZ x5), .int (iZ v2)]) rfl) ?_
      refine m_isub C d_YearPlan_heaviestFrom_53 ?_
      refine m_iadd C d_YearPlan_heaviestFrom_54 ?_
      refine m_istore_n C hl [(2, .int (iZ (v2 + (x5 - x8)))), (0, .ref (ad 66)), (1, .int (iZ v1)), (3, .int (iZ v3)), (4, .int (iZ v4)), (5, .int (iZ v5))] d_YearPlan_heaviestFrom_55 rfl (by decide) rfl (fun ls hl => ?_)
      refine m_iload_n C hl 0 d_YearPlan_heaviestFrom_56 rfl rfl ?_
      refine m_iload_n C hl 3 d_YearPlan_heaviestFrom_57 rfl rfl ?_
      refine m_icmp_le C hM 67 d_YearPlan_heaviestFrom_58 (by decide) (fun hM => ?_) (fun hM => ?_)
      · refine m_iinc C hl 5 [(5, .int (iZ (v5 + 1))), (2, .int (iZ (v2 + (x5 - x8)))), (0, .ref (ad 66)), (1, .int (iZ v1)), (3, .int (iZ v3)), (4, .int (iZ v4))] d_YearPlan_heaviestFrom_67 rfl (by decide) rfl (fun ls hl => ?_)
        refine m_goto C 15 d_YearPlan_heaviestFrom_70 (by decide) ?_
        exact ih (v2 + (x5 - x8)) v3 v4 (v5 + 1) _ (lv_sub hl [2, 3, 1, 4, 5, 0] rfl) hM
      · refine m_iload_n C hl 0 d_YearPlan_heaviestFrom_61 rfl rfl ?_
        refine m_istore_n C hl [(3, .int (iZ (v2 + (x5 - x8)))), (2, .int (iZ (v2 + (x5 - x8)))), (0, .ref (ad 66)), (1, .int (iZ v1)), (4, .int (iZ v4)), (5, .int (iZ v5))] d_YearPlan_heaviestFrom_62 rfl (by decide) rfl (fun ls hl => ?_)
        refine m_iload C hl 5 d_YearPlan_heaviestFrom_63 rfl ?_
        refine m_istore C hl [(4, .int (iZ v5)), (3, .int (iZ (v2 + (x5 - x8)))), (2, .int (iZ (v2 + (x5 - x8)))), (0, .ref (ad 66)), (1, .int (iZ v1)), (5, .int (iZ v5))] d_YearPlan_heaviestFrom_65 (by decide) rfl (fun ls hl => ?_)
        refine m_iinc C hl 5 [(5, .int (iZ (v5 + 1))), (4, .int (iZ v5)), (3, .int (iZ (v2 + (x5 - x8)))), (2, .int (iZ (v2 + (x5 - x8)))), (0, .ref (ad 66)), (1, .int (iZ v1))] d_YearPlan_heaviestFrom_67 rfl (by decide) rfl (fun ls hl => ?_)
        refine m_goto C 15 d_YearPlan_heaviestFrom_70 (by decide) ?_
        exact ih (v2 + (x5 - x8)) (v2 + (x5 - x8)) v5 (v5 + 1) _ (lv_sub hl [4, 5, 3, 2, 1, 0] rfl) hM
set_option maxHeartbeats 4000000 in
set_option maxRecDepth 100000 in
theorem c_YearPlan_heaviestFrom {l : Launch} {D : va_G} {ad : Nat → Nat} {cA : Nat → ClassId} {sd sv : Nat → Nat} {h : Hp} {N : Nat} {a1 : Int} {out : Int} (hI : Inj97 ad) (hM : M_YearPlan_heaviestFrom N h a1 = some out) : Met l y_YearPlan_heaviestFrom (.code y_YearPlan_heaviestFrom prog_11_method_33_code 6 (some .int) :: TT) (rmD 2) (PC D ad cA sd sv h [.ref (ad 66), .int (iZ a1)]) (QR out) 0 0 (fun _ => False) := by
  unfold M_YearPlan_heaviestFrom at hM
  refine entM (by decide +kernel) hI (Nat.le_of_ble_eq_true rfl) ?_
  intro p e s m args below meth c C hr hlk hP ls hl
  have C : Cx p s m args c prog_11_method_33_code 6 "FeastBook$YearPlan" D ad cA sd sv (FA ad) := C
  have hl : lv_has ls 6 [(0, .ref (ad 66)), (1, .int (iZ a1))] := hl
  refine m_aload_n C hl 0 d_YearPlan_heaviestFrom_0 rfl rfl ?_
  refine m_iconst C d_YearPlan_heaviestFrom_1 ?_
  refine m_iload_n C hl 1 d_YearPlan_heaviestFrom_2 rfl rfl ?_
  obtain ⟨x2, e1, hM⟩ := bnd_some hM
  refine aftR (runV C hP va_S.rf kc_YearPlan sh_66 (Nat.le_of_ble_eq_true rfl) (c_YearPlan_weightOf hI e1) lk_YearPlan_222 mb_YearPlan_weightOf rfl ⟨Nat.le_of_ble_eq_true rfl, Nat.le_of_ble_eq_true rfl⟩ ⟨Nat.zero_le _, Nat.zero_le _⟩ (Nat.le_of_ble_eq_true rfl) d_YearPlan_heaviestFrom_3 hl.1 (rest := []) rfl) ?_
  refine m_istore_n C hl [(2, .int (iZ x2)), (0, .ref (ad 66)), (1, .int (iZ a1))] d_YearPlan_heaviestFrom_6 rfl (by decide) rfl (fun ls hl => ?_)
  refine m_iload_n C hl 0 d_YearPlan_heaviestFrom_7 rfl rfl ?_
  refine m_istore_n C hl [(3, .int (iZ x2)), (2, .int (iZ x2)), (0, .ref (ad 66)), (1, .int (iZ a1))] d_YearPlan_heaviestFrom_8 rfl (by decide) rfl (fun ls hl => ?_)
  refine m_iconst C d_YearPlan_heaviestFrom_9 ?_
  refine m_istore C hl [(4, .int (iZ 0)), (3, .int (iZ x2)), (2, .int (iZ x2)), (0, .ref (ad 66)), (1, .int (iZ a1))] d_YearPlan_heaviestFrom_10 (by decide) rfl (fun ls hl => ?_)
  refine m_iconst C d_YearPlan_heaviestFrom_12 ?_
  refine m_istore C hl [(5, .int (iZ 1)), (4, .int (iZ 0)), (3, .int (iZ x2)), (2, .int (iZ x2)), (0, .ref (ad 66)), (1, .int (iZ a1))] d_YearPlan_heaviestFrom_13 (by decide) rfl (fun ls hl => ?_)
  exact w_YearPlan_heaviestFrom_L15 N hI C hr hlk a1 h hP _ x2 x2 0 1 _ (lv_sub hl [4, 5, 3, 2, 1, 0] rfl) hM
def y_YearPlan_feastsWith : MethodName := ⟨"FeastBook$YearPlan", "feastsWith", "(I)I"⟩
theorem d_YearPlan_feastsWith_0 : decode prog_11_method_21_code 0 = .ok (.iconst 0, 1) := by decide +kernel
theorem d_YearPlan_feastsWith_1 : decode prog_11_method_21_code 1 = .ok (.istore_n 2, 1) := by decide +kernel
theorem d_YearPlan_feastsWith_2 : decode prog_11_method_21_code 2 = .ok (.iconst 0, 1) := by decide +kernel
theorem d_YearPlan_feastsWith_3 : decode prog_11_method_21_code 3 = .ok (.istore_n 3, 1) := by decide +kernel
theorem d_YearPlan_feastsWith_4 : decode prog_11_method_21_code 4 = .ok (.iload_n 3, 1) := by decide +kernel
theorem d_YearPlan_feastsWith_5 : decode prog_11_method_21_code 5 = .ok (.aload_n 0, 1) := by decide +kernel
theorem d_YearPlan_feastsWith_6 : decode prog_11_method_21_code 6 = .ok (.getfield 40, 3) := by decide +kernel
theorem d_YearPlan_feastsWith_9 : decode prog_11_method_21_code 9 = .ok (.getfield 61, 3) := by decide +kernel
theorem d_YearPlan_feastsWith_12 : decode prog_11_method_21_code 12 = .ok (.if_icmp .ge 27, 3) := by decide +kernel
theorem d_YearPlan_feastsWith_15 : decode prog_11_method_21_code 15 = .ok (.iload_n 2, 1) := by decide +kernel
theorem d_YearPlan_feastsWith_16 : decode prog_11_method_21_code 16 = .ok (.aload_n 0, 1) := by decide +kernel
theorem d_YearPlan_feastsWith_17 : decode prog_11_method_21_code 17 = .ok (.getfield 27, 3) := by decide +kernel
theorem d_YearPlan_feastsWith_20 : decode prog_11_method_21_code 20 = .ok (.iload_n 3, 1) := by decide +kernel
theorem d_YearPlan_feastsWith_21 : decode prog_11_method_21_code 21 = .ok (.iaload, 1) := by decide +kernel
theorem d_YearPlan_feastsWith_22 : decode prog_11_method_21_code 22 = .ok (.iload_n 1, 1) := by decide +kernel
theorem d_YearPlan_feastsWith_23 : decode prog_11_method_21_code 23 = .ok (.if_icmp .ne 7, 3) := by decide +kernel
theorem d_YearPlan_feastsWith_26 : decode prog_11_method_21_code 26 = .ok (.iconst 1, 1) := by decide +kernel
theorem d_YearPlan_feastsWith_27 : decode prog_11_method_21_code 27 = .ok (.goto 4, 3) := by decide +kernel
theorem d_YearPlan_feastsWith_30 : decode prog_11_method_21_code 30 = .ok (.iconst 0, 1) := by decide +kernel
theorem d_YearPlan_feastsWith_31 : decode prog_11_method_21_code 31 = .ok (.iadd, 1) := by decide +kernel
theorem d_YearPlan_feastsWith_32 : decode prog_11_method_21_code 32 = .ok (.istore_n 2, 1) := by decide +kernel
theorem d_YearPlan_feastsWith_33 : decode prog_11_method_21_code 33 = .ok (.iinc 3 1, 3) := by decide +kernel
theorem d_YearPlan_feastsWith_36 : decode prog_11_method_21_code 36 = .ok (.goto (-32), 3) := by decide +kernel
theorem d_YearPlan_feastsWith_39 : decode prog_11_method_21_code 39 = .ok (.iload_n 2, 1) := by decide +kernel
theorem d_YearPlan_feastsWith_40 : decode prog_11_method_21_code 40 = .ok (.ireturn, 1) := by decide +kernel
set_option maxHeartbeats 4000000 in
set_option maxRecDepth 100000 in
theorem w_YearPlan_feastsWith_L4 {p : Program} {l : Launch} {e : Env} {s : State} {m : MethodId} {args : Array Value} {below : List Frame} {meth : Method} {c : Code} {D : va_G} {ad : Nat → Nat} {cA : Nat → ClassId} {sd sv : Nat → Nat} {out : Int} (N : Nat) (hI : Inj97 ad) (C : Cx p s m args c prog_11_method_21_code 4 "FeastBook$YearPlan" D ad cA sd sv (FA ad)) (hr : meth.sig.returnType = (some .int)) (hlk : meth.locks = false) (v1 : Int) (h : Hp) (hP : va_P D clL (wl ad cA h) s.heap) : ∀ (n : Nat) (v2 v3 : Int), ∀ ls : Array Slot, lv_has ls 4 [(0, .ref (ad 66)), (1, .int (iZ v1)), (2, .int (iZ v2)), (3, .int (iZ v3))] → YearPlan_feastsWith_L4 N h v1 n v2 v3 = some out → W p l e (rmD 0) s m args below meth c s.heap [] 0 0 (MQ below (QR out) args s 0 0 (fun _ => False)) (F0 m 4 ls []) := by
  intro n
  induction n with
  | zero =>
    intro v2 v3 ls hl hM
    rw [YearPlan_feastsWith_L4] at hM
    cases hM
  | succ n ih =>
    intro v2 v3 ls hl hM
    rw [YearPlan_feastsWith_L4] at hM
    refine m_iload_n C hl 3 d_YearPlan_feastsWith_4 rfl rfl ?_
    refine m_aload_n C hl 0 d_YearPlan_feastsWith_5 rfl rfl ?_
    refine m_getr C hP kc_YearPlan sh_66 (Nat.le_of_ble_eq_true rfl) 1 33 rfl (by decide) fk_YearPlan_40 d_YearPlan_feastsWith_6 ?_
    refine m_geti C hP kc_Feasts sh_33 (Nat.le_of_ble_eq_true rfl) 0 rfl (by decide) fk_YearPlan_61 d_YearPlan_feastsWith_9 ?_
    refine m_icmp_ge C hM 39 d_YearPlan_feastsWith_12 (by decide) (fun hM => ?_) (fun hM => ?_)
    · refine m_iload_n C hl 2 d_YearPlan_feastsWith_39 rfl rfl ?_
      exact m_iretR C hr hlk hM d_YearPlan_feastsWith_40
    · refine m_iload_n C hl 2 d_YearPlan_feastsWith_15 rfl rfl ?_
      refine m_aload_n C hl 0 d_YearPlan_feastsWith_16 rfl rfl ?_
      refine m_getr C hP kc_YearPlan sh_66 (Nat.le_of_ble_eq_true rfl) 11 72 rfl (by decide) fk_YearPlan_27 d_YearPlan_feastsWith_17 ?_
      refine m_iload_n C hl 3 d_YearPlan_feastsWith_20 rfl rfl ?_
      refine m_iald C hP sh_72 (Nat.le_of_ble_eq_true rfl) (Nat.le_of_ble_eq_true rfl) hM d_YearPlan_feastsWith_21 (fun x1 hM => ?_)
      refine m_iload_n C hl 1 d_YearPlan_feastsWith_22 rfl rfl ?_
      refine m_icmp_ne C hM 30 d_YearPlan_feastsWith_23 (by decide) (fun hM => ?_) (fun hM => ?_)
      · refine m_iconst C d_YearPlan_feastsWith_30 ?_
        refine m_iadd C d_YearPlan_feastsWith_31 ?_
        refine m_istore_n C hl [(2, .int (iZ (v2 + 0))), (0, .ref (ad 66)), (1, .int (iZ v1)), (3, .int (iZ v3))] d_YearPlan_feastsWith_32 rfl (by decide) rfl (fun ls hl => ?_)
        refine m_iinc C hl 3 [(3, .int (iZ (v3 + 1))), (2, .int (iZ (v2 + 0))), (0, .ref (ad 66)), (1, .int (iZ v1))] d_YearPlan_feastsWith_33 rfl (by decide) rfl (fun ls hl => ?_)
        refine m_goto C 4 d_YearPlan_feastsWith_36 (by decide) ?_
        exact ih (v2 + 0) (v3 + 1) _ (lv_sub hl [2, 3, 1, 0] rfl) hM
      · refine m_iconst C d_YearPlan_feastsWith_26 ?_
        refine m_goto C 31 d_YearPlan_feastsWith_27 (by decide) ?_
        refine m_iadd C d_YearPlan_feastsWith_31 ?_
        refine m_istore_n C hl [(2, .int (iZ (v2 + 1))), (0, .ref (ad 66)), (1, .int (iZ v1)), (3, .int (iZ v3))] d_YearPlan_feastsWith_32 rfl (by decide) rfl (fun ls hl => ?_)
        refine m_iinc C hl 3 [(3, .int (iZ (v3 + 1))), (2, .int (iZ (v2 + 1))), (0, .ref (ad 66)), (1, .int (iZ v1))] d_YearPlan_feastsWith_33 rfl (by decide) rfl (fun ls hl => ?_)
        refine m_goto C 4 d_YearPlan_feastsWith_36 (by decide) ?_
        exact ih (v2 + 1) (v3 + 1) _ (lv_sub hl [2, 3, 1, 0] rfl) hM
set_option maxHeartbeats 4000000 in
set_option maxRecDepth 100000 in
theorem c_YearPlan_feastsWith {l : Launch} {D : va_G} {ad : Nat → Nat} {cA : Nat → ClassId} {sd sv : Nat → Nat} {h : Hp} {N : Nat} {a1 : Int} {out : Int} (hI : Inj97 ad) (hM : M_YearPlan_feastsWith N h a1 = some out) : Met l y_YearPlan_feastsWith (.code y_YearPlan_feastsWith prog_11_method_21_code 4 (some .int) :: TT) (rmD 0) (PC D ad cA sd sv h [.ref (ad 66), .int (iZ a1)]) (QR out) 0 0 (fun _ => False) := by
  unfold M_YearPlan_feastsWith at hM
  refine entM (by decide +kernel) hI (Nat.le_of_ble_eq_true rfl) ?_
  intro p e s m args below meth c C hr hlk hP ls hl
  have C : Cx p s m args c prog_11_method_21_code 4 "FeastBook$YearPlan" D ad cA sd sv (FA ad) := C
  have hl : lv_has ls 4 [(0, .ref (ad 66)), (1, .int (iZ a1))] := hl
  refine m_iconst C d_YearPlan_feastsWith_0 ?_
  refine m_istore_n C hl [(2, .int (iZ 0)), (0, .ref (ad 66)), (1, .int (iZ a1))] d_YearPlan_feastsWith_1 rfl (by decide) rfl (fun ls hl => ?_)
  refine m_iconst C d_YearPlan_feastsWith_2 ?_
  refine m_istore_n C hl [(3, .int (iZ 0)), (2, .int (iZ 0)), (0, .ref (ad 66)), (1, .int (iZ a1))] d_YearPlan_feastsWith_3 rfl (by decide) rfl (fun ls hl => ?_)
  exact w_YearPlan_feastsWith_L4 N hI C hr hlk a1 h hP _ 0 0 _ (lv_sub hl [2, 3, 1, 0] rfl) hM

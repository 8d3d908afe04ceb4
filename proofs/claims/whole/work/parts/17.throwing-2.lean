def y_FB_course : MethodName := ⟨"FeastBook", "course", "(I)I"⟩
theorem d_FB_course_0 : decode prog_1_method_33_code 0 = .ok (.aload_n 0, 1) := by decide +kernel
theorem d_FB_course_1 : decode prog_1_method_33_code 1 = .ok (.invokevirtual 248, 3) := by decide +kernel
theorem d_FB_course_4 : decode prog_1_method_33_code 4 = .ok (.iload_n 1, 1) := by decide +kernel
theorem d_FB_course_5 : decode prog_1_method_33_code 5 = .ok (.iconst 3, 1) := by decide +kernel
theorem d_FB_course_6 : decode prog_1_method_33_code 6 = .ok (.invokestatic 106, 3) := by decide +kernel
theorem d_FB_course_9 : decode prog_1_method_33_code 9 = .ok (.aload_n 0, 1) := by decide +kernel
theorem d_FB_course_10 : decode prog_1_method_33_code 10 = .ok (.getfield 56, 3) := by decide +kernel
theorem d_FB_course_13 : decode prog_1_method_33_code 13 = .ok (.invokevirtual 317, 3) := by decide +kernel
theorem d_FB_course_16 : decode prog_1_method_33_code 16 = .ok (.iload_n 1, 1) := by decide +kernel
theorem d_FB_course_17 : decode prog_1_method_33_code 17 = .ok (.iconst 2, 1) := by decide +kernel
theorem d_FB_course_18 : decode prog_1_method_33_code 18 = .ok (.if_icmp .lt 7, 3) := by decide +kernel
theorem d_FB_course_21 : decode prog_1_method_33_code 21 = .ok (.iconst 1, 1) := by decide +kernel
theorem d_FB_course_22 : decode prog_1_method_33_code 22 = .ok (.goto 4, 3) := by decide +kernel
theorem d_FB_course_25 : decode prog_1_method_33_code 25 = .ok (.iconst 0, 1) := by decide +kernel
theorem d_FB_course_26 : decode prog_1_method_33_code 26 = .ok (.iload_n 1, 1) := by decide +kernel
theorem d_FB_course_27 : decode prog_1_method_33_code 27 = .ok (.iconst 2, 1) := by decide +kernel
theorem d_FB_course_28 : decode prog_1_method_33_code 28 = .ok (.irem, 1) := by decide +kernel
theorem d_FB_course_29 : decode prog_1_method_33_code 29 = .ok (.iconst 1, 1) := by decide +kernel
theorem d_FB_course_30 : decode prog_1_method_33_code 30 = .ok (.if_icmp .ne 7, 3) := by decide +kernel
theorem d_FB_course_33 : decode prog_1_method_33_code 33 = .ok (.iconst 1, 1) := by decide +kernel
theorem d_FB_course_34 : decode prog_1_method_33_code 34 = .ok (.goto 4, 3) := by decide +kernel
theorem d_FB_course_37 : decode prog_1_method_33_code 37 = .ok (.iconst 0, 1) := by decide +kernel
theorem d_FB_course_38 : decode prog_1_method_33_code 38 = .ok (.invokevirtual 320, 3) := by decide +kernel
theorem d_FB_course_41 : decode prog_1_method_33_code 41 = .ok (.ireturn, 1) := by decide +kernel
theorem mb_Round_allMeasured : MBv R_Round y_Round_allMeasured prog_7_method_5_code 2 (some (.object "FeastBook$Round")) 0 := ⟨mT7 224 (by decide +kernel) (by decide +kernel), mT7 225 (by decide +kernel) (by decide +kernel), mT1 9 (by decide +kernel) (by decide +kernel), mT7 226 (by decide +kernel) (by decide +kernel), by decide, rfl, by decide +kernel, by decide +kernel, by decide +kernel⟩
theorem mb_Round_lessons : MBv R_Round y_Round_lessons prog_7_method_20_code 5 (some .int) 2 := ⟨mT7 230 (by decide +kernel) (by decide +kernel), mT7 231 (by decide +kernel) (by decide +kernel), mT1 9 (by decide +kernel) (by decide +kernel), mT7 232 (by decide +kernel) (by decide +kernel), by decide, rfl, by decide +kernel, by decide +kernel, by decide +kernel⟩
theorem lk_FB_317 : Cond.methodLink "FeastBook" 317 y_Round_allMeasured ∈ TT := mT7 223 (by decide +kernel) (by decide +kernel)
theorem lk_FB_320 : Cond.methodLink "FeastBook" 320 y_Round_lessons ∈ TT := mT7 229 (by decide +kernel) (by decide +kernel)
set_option maxHeartbeats 4000000 in
set_option maxRecDepth 100000 in
theorem c_FB_course {l : Launch} {D : va_G} {ad : Nat → Nat} {cA : Nat → ClassId} {sd sv : Nat → Nat} {h : Hp} {N : Nat} {a1 : Int} {out : XO} (hI : Inj97 ad) (hst : l.stackTraces = false) (hM : M_FB_course N h a1 = some out) : vx_Met l y_FB_course (.code y_FB_course prog_1_method_33_code 2 (some .int) :: TT) (rmX 11 2 12) (PC D ad cA sd sv h [.ref (ad 0), .int (iZ a1)]) (QX D ad cA out) (XT D ad cA out) 2 12 (FA ad) := by
  unfold M_FB_course at hM
  refine entX (by decide +kernel) hI (Nat.le_of_ble_eq_true rfl) ?_
  intro p e s m args below meth c C hr hlk hnt hP ls hl
  have C : Cx p s m args c prog_1_method_33_code 2 "FeastBook" D ad cA sd sv (FA ad) := C
  have hl : lv_has ls 2 [(0, .ref (ad 0)), (1, .int (iZ a1))] := hl
  have w : Wd s D ad cA (FA ad) h s.heap [] := ⟨hP, va_S.rf⟩
  refine m_aload_n C hl 0 d_FB_course_0 rfl rfl ?_
  refine m_xcall (Qc := QX D ad cA) C w hnt hlk hM (fun q e1 => runVX C w.1 w.2 kc_FB sh_0 (Nat.le_of_ble_eq_true rfl) (c_FB_checkBook hI hst  e1) lk_FB_248 mb_FB_checkBook rfl ⟨Nat.le_of_ble_eq_true rfl, Nat.le_of_ble_eq_true rfl⟩ ⟨Nat.le_of_ble_eq_true rfl, Nat.le_of_ble_eq_true rfl⟩ (Nat.le_of_ble_eq_true rfl) d_FB_course_1 hl.1 (rest := []) rfl) (Nat.le_of_ble_eq_true rfl) (Nat.le_of_ble_eq_true rfl) (fun _ h2 H locs w hM => ?_)
  refine m_iload_n C hl 1 d_FB_course_4 rfl rfl ?_
  refine m_iconst C d_FB_course_5 ?_
  refine m_xcall (Qc := QX D ad cA) C w hnt hlk hM (fun q e3 => runSX C w.1 w.2 (c_FB_checkWhat hI hst  e3) lk_FB_106 mb_FB_checkWhat rfl ⟨Nat.le_of_ble_eq_true rfl, Nat.le_of_ble_eq_true rfl⟩ ⟨Nat.le_of_ble_eq_true rfl, Nat.le_of_ble_eq_true rfl⟩ (Nat.le_of_ble_eq_true rfl) d_FB_course_6 hl.1 (rest := []) rfl) (Nat.le_of_ble_eq_true rfl) (Nat.le_of_ble_eq_true rfl) (fun _ h4 H locs w hM => ?_)
  refine m_aload_n C hl 0 d_FB_course_9 rfl rfl ?_
  refine m_getr C w.1 kc_FB sh_0 (Nat.le_of_ble_eq_true rfl) 6 73 rfl (by decide) fk_FB_56 d_FB_course_10 ?_
  obtain ⟨h6, e5, hM⟩ := bnd_some hM
  refine aftN C w (runV C w.1 w.2 kc_Round sh_73 (Nat.le_of_ble_eq_true rfl) (c_Round_allMeasured hI e5) lk_FB_317 mb_Round_allMeasured rfl ⟨Nat.le_of_ble_eq_true rfl, Nat.le_of_ble_eq_true rfl⟩ ⟨Nat.le_of_ble_eq_true rfl, Nat.le_of_ble_eq_true rfl⟩ (Nat.le_of_ble_eq_true rfl) d_FB_course_13 hl.1 (rest := []) rfl) (fun H locs w => ?_)
  refine m_iload_n C hl 1 d_FB_course_16 rfl rfl ?_
  refine m_iconst C d_FB_course_17 ?_
  refine m_icmp_lt C hM 25 d_FB_course_18 (by decide) (fun hM => ?_) (fun hM => ?_)
  · refine m_iconst C d_FB_course_25 ?_
    refine m_iload_n C hl 1 d_FB_course_26 rfl rfl ?_
    refine m_iconst C d_FB_course_27 ?_
    refine m_irem C hM d_FB_course_28 (fun x7 hM => ?_)
    refine m_iconst C d_FB_course_29 ?_
    refine m_icmp_ne C hM 37 d_FB_course_30 (by decide) (fun hM => ?_) (fun hM => ?_)
    · refine m_iconst C d_FB_course_37 ?_
      obtain ⟨x9, e8, hM⟩ := bnd_some hM
      refine aftR (runV C w.1 w.2 kc_Round sh_73 (Nat.le_of_ble_eq_true rfl) (c_Round_lessons hI e8) lk_FB_320 mb_Round_lessons rfl ⟨Nat.le_of_ble_eq_true rfl, Nat.le_of_ble_eq_true rfl⟩ ⟨Nat.le_of_ble_eq_true rfl, Nat.le_of_ble_eq_true rfl⟩ (Nat.le_of_ble_eq_true rfl) d_FB_course_38 hl.1 (rest := []) rfl) ?_
      exact m_iretX C w hr hlk hM (Nat.le_of_ble_eq_true rfl) (Nat.le_of_ble_eq_true rfl) d_FB_course_41
    · refine m_iconst C d_FB_course_33 ?_
      refine m_goto C 38 d_FB_course_34 (by decide) ?_
      obtain ⟨x11, e10, hM⟩ := bnd_some hM
      refine aftR (runV C w.1 w.2 kc_Round sh_73 (Nat.le_of_ble_eq_true rfl) (c_Round_lessons hI e10) lk_FB_320 mb_Round_lessons rfl ⟨Nat.le_of_ble_eq_true rfl, Nat.le_of_ble_eq_true rfl⟩ ⟨Nat.le_of_ble_eq_true rfl, Nat.le_of_ble_eq_true rfl⟩ (Nat.le_of_ble_eq_true rfl) d_FB_course_38 hl.1 (rest := []) rfl) ?_
      exact m_iretX C w hr hlk hM (Nat.le_of_ble_eq_true rfl) (Nat.le_of_ble_eq_true rfl) d_FB_course_41
  · refine m_iconst C d_FB_course_21 ?_
    refine m_goto C 26 d_FB_course_22 (by decide) ?_
    refine m_iload_n C hl 1 d_FB_course_26 rfl rfl ?_
    refine m_iconst C d_FB_course_27 ?_
    refine m_irem C hM d_FB_course_28 (fun x12 hM => ?_)
    refine m_iconst C d_FB_course_29 ?_
    refine m_icmp_ne C hM 37 d_FB_course_30 (by decide) (fun hM => ?_) (fun hM => ?_)
    · refine m_iconst C d_FB_course_37 ?_
      obtain ⟨x14, e13, hM⟩ := bnd_some hM
      refine aftR (runV C w.1 w.2 kc_Round sh_73 (Nat.le_of_ble_eq_true rfl) (c_Round_lessons hI e13) lk_FB_320 mb_Round_lessons rfl ⟨Nat.le_of_ble_eq_true rfl, Nat.le_of_ble_eq_true rfl⟩ ⟨Nat.le_of_ble_eq_true rfl, Nat.le_of_ble_eq_true rfl⟩ (Nat.le_of_ble_eq_true rfl) d_FB_course_38 hl.1 (rest := []) rfl) ?_
      exact m_iretX C w hr hlk hM (Nat.le_of_ble_eq_true rfl) (Nat.le_of_ble_eq_true rfl) d_FB_course_41
    · refine m_iconst C d_FB_course_33 ?_
      refine m_goto C 38 d_FB_course_34 (by decide) ?_
      obtain ⟨x16, e15, hM⟩ := bnd_some hM
      refine aftR (runV C w.1 w.2 kc_Round sh_73 (Nat.le_of_ble_eq_true rfl) (c_Round_lessons hI e15) lk_FB_320 mb_Round_lessons rfl ⟨Nat.le_of_ble_eq_true rfl, Nat.le_of_ble_eq_true rfl⟩ ⟨Nat.le_of_ble_eq_true rfl, Nat.le_of_ble_eq_true rfl⟩ (Nat.le_of_ble_eq_true rfl) d_FB_course_38 hl.1 (rest := []) rfl) ?_
      exact m_iretX C w hr hlk hM (Nat.le_of_ble_eq_true rfl) (Nat.le_of_ble_eq_true rfl) d_FB_course_41
def y_FB_heaviest : MethodName := ⟨"FeastBook", "heaviest", "(IIZ)I"⟩
theorem d_FB_heaviest_0 : decode prog_1_method_34_code 0 = .ok (.aload_n 0, 1) := by decide +kernel
theorem d_FB_heaviest_1 : decode prog_1_method_34_code 1 = .ok (.iload_n 1, 1) := by decide +kernel
theorem d_FB_heaviest_2 : decode prog_1_method_34_code 2 = .ok (.invokevirtual 103, 3) := by decide +kernel
theorem d_FB_heaviest_5 : decode prog_1_method_34_code 5 = .ok (.iload_n 2, 1) := by decide +kernel
theorem d_FB_heaviest_6 : decode prog_1_method_34_code 6 = .ok (.iconst 1, 1) := by decide +kernel
theorem d_FB_heaviest_7 : decode prog_1_method_34_code 7 = .ok (.bipush 60, 2) := by decide +kernel
theorem d_FB_heaviest_9 : decode prog_1_method_34_code 9 = .ok (.invokestatic 225, 3) := by decide +kernel
theorem d_FB_heaviest_12 : decode prog_1_method_34_code 12 = .ok (.iload_n 2, 1) := by decide +kernel
theorem d_FB_heaviest_13 : decode prog_1_method_34_code 13 = .ok (.aload_n 0, 1) := by decide +kernel
theorem d_FB_heaviest_14 : decode prog_1_method_34_code 14 = .ok (.getfield 28, 3) := by decide +kernel
theorem d_FB_heaviest_17 : decode prog_1_method_34_code 17 = .ok (.iload_n 1, 1) := by decide +kernel
theorem d_FB_heaviest_18 : decode prog_1_method_34_code 18 = .ok (.invokevirtual 110, 3) := by decide +kernel
theorem d_FB_heaviest_21 : decode prog_1_method_34_code 21 = .ok (.if_icmp .le 5, 3) := by decide +kernel
theorem d_FB_heaviest_24 : decode prog_1_method_34_code 24 = .ok (.iconst (-1), 1) := by decide +kernel
theorem d_FB_heaviest_25 : decode prog_1_method_34_code 25 = .ok (.ireturn, 1) := by decide +kernel
theorem d_FB_heaviest_26 : decode prog_1_method_34_code 26 = .ok (.aload_n 0, 1) := by decide +kernel
theorem d_FB_heaviest_27 : decode prog_1_method_34_code 27 = .ok (.iload_n 1, 1) := by decide +kernel
theorem d_FB_heaviest_28 : decode prog_1_method_34_code 28 = .ok (.invokevirtual 127, 3) := by decide +kernel
theorem d_FB_heaviest_31 : decode prog_1_method_34_code 31 = .ok (.astore 4, 2) := by decide +kernel
theorem d_FB_heaviest_33 : decode prog_1_method_34_code 33 = .ok (.aload 4, 2) := by decide +kernel
theorem d_FB_heaviest_35 : decode prog_1_method_34_code 35 = .ok (.iload_n 2, 1) := by decide +kernel
theorem d_FB_heaviest_36 : decode prog_1_method_34_code 36 = .ok (.invokevirtual 324, 3) := by decide +kernel
theorem d_FB_heaviest_39 : decode prog_1_method_34_code 39 = .ok (.istore 5, 2) := by decide +kernel
theorem d_FB_heaviest_41 : decode prog_1_method_34_code 41 = .ok (.iload_n 3, 1) := by decide +kernel
theorem d_FB_heaviest_42 : decode prog_1_method_34_code 42 = .ok (.ifCond .eq 14, 3) := by decide +kernel
theorem d_FB_heaviest_45 : decode prog_1_method_34_code 45 = .ok (.aload 4, 2) := by decide +kernel
theorem d_FB_heaviest_47 : decode prog_1_method_34_code 47 = .ok (.iload 5, 2) := by decide +kernel
theorem d_FB_heaviest_49 : decode prog_1_method_34_code 49 = .ok (.iload_n 2, 1) := by decide +kernel
theorem d_FB_heaviest_50 : decode prog_1_method_34_code 50 = .ok (.invokevirtual 327, 3) := by decide +kernel
theorem d_FB_heaviest_53 : decode prog_1_method_34_code 53 = .ok (.goto 5, 3) := by decide +kernel
theorem d_FB_heaviest_56 : decode prog_1_method_34_code 56 = .ok (.iload 5, 2) := by decide +kernel
theorem d_FB_heaviest_58 : decode prog_1_method_34_code 58 = .ok (.ireturn, 1) := by decide +kernel
theorem mb_YearPlan_heaviestFrom : MBv R_YearPlan y_YearPlan_heaviestFrom prog_11_method_33_code 6 (some .int) 1 := ⟨mT8 1 (by decide +kernel) (by decide +kernel), mT8 2 (by decide +kernel) (by decide +kernel), mT1 8 (by decide +kernel) (by decide +kernel), mT8 3 (by decide +kernel) (by decide +kernel), by decide, rfl, by decide +kernel, by decide +kernel, by decide +kernel⟩
theorem lk_FB_324 : Cond.methodLink "FeastBook" 324 y_YearPlan_heaviestFrom ∈ TT := mT8 0 (by decide +kernel) (by decide +kernel)
theorem lk_FB_327 : Cond.methodLink "FeastBook" 327 y_YearPlan_weightOf ∈ TT := mT8 4 (by decide +kernel) (by decide +kernel)
set_option maxHeartbeats 4000000 in
set_option maxRecDepth 100000 in
theorem c_FB_heaviest {l : Launch} {D : va_G} {ad : Nat → Nat} {cA : Nat → ClassId} {sd sv : Nat → Nat} {h : Hp} {N : Nat} {a1 a2 a3 : Int} {out : XO} (hI : Inj97 ad) (hst : l.stackTraces = false) (hM : M_FB_heaviest N h a1 a2 a3 = some out) : vx_Met l y_FB_heaviest (.code y_FB_heaviest prog_1_method_34_code 6 (some .int) :: TT) (rmX 11 2 12) (PC D ad cA sd sv h [.ref (ad 0), .int (iZ a1), .int (iZ a2), .int (iZ a3)]) (QX D ad cA out) (XT D ad cA out) 2 12 (FA ad) := by
  unfold M_FB_heaviest at hM
  refine entX (by decide +kernel) hI (Nat.le_of_ble_eq_true rfl) ?_
  intro p e s m args below meth c C hr hlk hnt hP ls hl
  have C : Cx p s m args c prog_1_method_34_code 6 "FeastBook" D ad cA sd sv (FA ad) := C
  have hl : lv_has ls 6 [(0, .ref (ad 0)), (1, .int (iZ a1)), (2, .int (iZ a2)), (3, .int (iZ a3))] := hl
  have w : Wd s D ad cA (FA ad) h s.heap [] := ⟨hP, va_S.rf⟩
  refine m_aload_n C hl 0 d_FB_heaviest_0 rfl rfl ?_
  refine m_iload_n C hl 1 d_FB_heaviest_1 rfl rfl ?_
  refine m_xcall (Qc := QX D ad cA) C w hnt hlk hM (fun q e1 => runVX C w.1 w.2 kc_FB sh_0 (Nat.le_of_ble_eq_true rfl) (c_FB_checkYear hI hst  e1) lk_FB_103 mb_FB_checkYear rfl ⟨Nat.le_of_ble_eq_true rfl, Nat.le_of_ble_eq_true rfl⟩ ⟨Nat.le_of_ble_eq_true rfl, Nat.le_of_ble_eq_true rfl⟩ (Nat.le_of_ble_eq_true rfl) d_FB_heaviest_2 hl.1 (rest := []) rfl) (Nat.le_of_ble_eq_true rfl) (Nat.le_of_ble_eq_true rfl) (fun _ h2 H locs w hM => ?_)
  refine m_iload_n C hl 2 d_FB_heaviest_5 rfl rfl ?_
  refine m_iconst C d_FB_heaviest_6 ?_
  refine m_bipush C d_FB_heaviest_7 (by decide) ?_
  refine m_xcall (Qc := QX D ad cA) C w hnt hlk hM (fun q e3 => runSX C w.1 w.2 (c_FB_checkNumber hI hst  e3) lk_FB_225 mb_FB_checkNumber rfl ⟨Nat.le_of_ble_eq_true rfl, Nat.le_of_ble_eq_true rfl⟩ ⟨Nat.le_of_ble_eq_true rfl, Nat.le_of_ble_eq_true rfl⟩ (Nat.le_of_ble_eq_true rfl) d_FB_heaviest_9 hl.1 (rest := []) rfl) (Nat.le_of_ble_eq_true rfl) (Nat.le_of_ble_eq_true rfl) (fun _ h4 H locs w hM => ?_)
  refine m_iload_n C hl 2 d_FB_heaviest_12 rfl rfl ?_
  refine m_aload_n C hl 0 d_FB_heaviest_13 rfl rfl ?_
  refine m_getr C w.1 kc_FB sh_0 (Nat.le_of_ble_eq_true rfl) 2 23 rfl (by decide) fk_FB_28 d_FB_heaviest_14 ?_
  refine m_iload_n C hl 1 d_FB_heaviest_17 rfl rfl ?_
  obtain ⟨x6, e5, hM⟩ := bnd_some hM
  refine aftR (runV C w.1 w.2 kc_Book sh_23 (Nat.le_of_ble_eq_true rfl) (c_Book_daysOf hI (Or.inr (Or.inl rfl)) e5) lk_FB_110 mb_Book_daysOf rfl ⟨Nat.le_of_ble_eq_true rfl, Nat.le_of_ble_eq_true rfl⟩ ⟨Nat.le_of_ble_eq_true rfl, Nat.le_of_ble_eq_true rfl⟩ (Nat.le_of_ble_eq_true rfl) d_FB_heaviest_18 hl.1 (rest := [.int (iZ a2)]) rfl) ?_
  refine m_icmp_le C hM 26 d_FB_heaviest_21 (by decide) (fun hM => ?_) (fun hM => ?_)
  · refine m_aload_n C hl 0 d_FB_heaviest_26 rfl rfl ?_
    refine m_iload_n C hl 1 d_FB_heaviest_27 rfl rfl ?_
    obtain ⟨h8, e7, hM⟩ := bnd_some hM
    refine aftN C w (runV C w.1 w.2 kc_FB sh_0 (Nat.le_of_ble_eq_true rfl) (c_FB_settledYear hI e7) lk_FB_127 mb_FB_settledYear rfl ⟨Nat.le_of_ble_eq_true rfl, Nat.le_of_ble_eq_true rfl⟩ ⟨Nat.le_of_ble_eq_true rfl, Nat.le_of_ble_eq_true rfl⟩ (Nat.le_of_ble_eq_true rfl) d_FB_heaviest_28 hl.1 (rest := []) rfl) (fun H locs w => ?_)
    refine m_astore C hl [(4, .ref (ad 66)), (0, .ref (ad 0)), (1, .int (iZ a1)), (2, .int (iZ a2)), (3, .int (iZ a3))] d_FB_heaviest_31 (by decide) rfl (fun ls hl => ?_)
    refine m_aload C hl 0 d_FB_heaviest_33 rfl ?_
    refine m_iload_n C hl 3 d_FB_heaviest_35 rfl rfl ?_
    obtain ⟨x10, e9, hM⟩ := bnd_some hM
    refine aftR (runV C w.1 w.2 kc_YearPlan sh_66 (Nat.le_of_ble_eq_true rfl) (c_YearPlan_heaviestFrom hI e9) lk_FB_324 mb_YearPlan_heaviestFrom rfl ⟨Nat.le_of_ble_eq_true rfl, Nat.le_of_ble_eq_true rfl⟩ ⟨Nat.le_of_ble_eq_true rfl, Nat.le_of_ble_eq_true rfl⟩ (Nat.le_of_ble_eq_true rfl) d_FB_heaviest_36 hl.1 (rest := []) rfl) ?_
    refine m_istore C hl [(5, .int (iZ x10)), (4, .ref (ad 66)), (0, .ref (ad 0)), (1, .int (iZ a1)), (2, .int (iZ a2)), (3, .int (iZ a3))] d_FB_heaviest_39 (by decide) rfl (fun ls hl => ?_)
    refine m_iload_n C hl 5 d_FB_heaviest_41 rfl rfl ?_
    refine m_if_eq C hM 56 d_FB_heaviest_42 (by decide) (fun hM => ?_) (fun hM => ?_)
    · refine m_iload C hl 0 d_FB_heaviest_56 rfl ?_
      exact m_iretX C w hr hlk hM (Nat.le_of_ble_eq_true rfl) (Nat.le_of_ble_eq_true rfl) d_FB_heaviest_58
    · refine m_aload C hl 1 d_FB_heaviest_45 rfl ?_
      refine m_iload C hl 0 d_FB_heaviest_47 rfl ?_
      refine m_iload_n C hl 4 d_FB_heaviest_49 rfl rfl ?_
      obtain ⟨x12, e11, hM⟩ := bnd_some hM
      refine aftR (runV C w.1 w.2 kc_YearPlan sh_66 (Nat.le_of_ble_eq_true rfl) (c_YearPlan_weightOf hI e11) lk_FB_327 mb_YearPlan_weightOf rfl ⟨Nat.le_of_ble_eq_true rfl, Nat.le_of_ble_eq_true rfl⟩ ⟨Nat.le_of_ble_eq_true rfl, Nat.le_of_ble_eq_true rfl⟩ (Nat.le_of_ble_eq_true rfl) d_FB_heaviest_50 hl.1 (rest := []) rfl) ?_
      refine m_goto C 58 d_FB_heaviest_53 (by decide) ?_
      exact m_iretX C w hr hlk hM (Nat.le_of_ble_eq_true rfl) (Nat.le_of_ble_eq_true rfl) d_FB_heaviest_58
  · refine m_iconst C d_FB_heaviest_24 ?_
    exact m_iretX C w hr hlk hM (Nat.le_of_ble_eq_true rfl) (Nat.le_of_ble_eq_true rfl) d_FB_heaviest_25
def y_FB_interval : MethodName := ⟨"FeastBook", "interval", "(IZ)I"⟩
theorem d_FB_interval_0 : decode prog_1_method_35_code 0 = .ok (.aload_n 0, 1) := by decide +kernel
theorem d_FB_interval_1 : decode prog_1_method_35_code 1 = .ok (.iload_n 1, 1) := by decide +kernel
theorem d_FB_interval_2 : decode prog_1_method_35_code 2 = .ok (.invokevirtual 186, 3) := by decide +kernel
theorem d_FB_interval_5 : decode prog_1_method_35_code 5 = .ok (.aload_n 0, 1) := by decide +kernel
theorem d_FB_interval_6 : decode prog_1_method_35_code 6 = .ok (.getfield 56, 3) := by decide +kernel
theorem d_FB_interval_9 : decode prog_1_method_35_code 9 = .ok (.invokevirtual 269, 3) := by decide +kernel
theorem d_FB_interval_12 : decode prog_1_method_35_code 12 = .ok (.iload_n 1, 1) := by decide +kernel
theorem d_FB_interval_13 : decode prog_1_method_35_code 13 = .ok (.iload_n 2, 1) := by decide +kernel
theorem d_FB_interval_14 : decode prog_1_method_35_code 14 = .ok (.invokevirtual 330, 3) := by decide +kernel
theorem d_FB_interval_17 : decode prog_1_method_35_code 17 = .ok (.ireturn, 1) := by decide +kernel
theorem mb_Round_gap : MBv R_Round y_Round_gap prog_7_method_21_code 9 (some .int) 2 := ⟨mT8 13 (by decide +kernel) (by decide +kernel), mT8 14 (by decide +kernel) (by decide +kernel), mT1 9 (by decide +kernel) (by decide +kernel), mT8 15 (by decide +kernel) (by decide +kernel), by decide, rfl, by decide +kernel, by decide +kernel, by decide +kernel⟩
theorem lk_FB_330 : Cond.methodLink "FeastBook" 330 y_Round_gap ∈ TT := mT8 12 (by decide +kernel) (by decide +kernel)
set_option maxHeartbeats 4000000 in
set_option maxRecDepth 100000 in
theorem c_FB_interval {l : Launch} {D : va_G} {ad : Nat → Nat} {cA : Nat → ClassId} {sd sv : Nat → Nat} {h : Hp} {N : Nat} {a1 a2 : Int} {out : XO} (hI : Inj97 ad) (hst : l.stackTraces = false) (hM : M_FB_interval N h a1 a2 = some out) : vx_Met l y_FB_interval (.code y_FB_interval prog_1_method_35_code 3 (some .int) :: TT) (rmX 11 1 6) (PC D ad cA sd sv h [.ref (ad 0), .int (iZ a1), .int (iZ a2)]) (QX D ad cA out) (XT D ad cA out) 1 6 (FA ad) := by
  unfold M_FB_interval at hM
  refine entX (by decide +kernel) hI (Nat.le_of_ble_eq_true rfl) ?_
  intro p e s m args below meth c C hr hlk hnt hP ls hl
  have C : Cx p s m args c prog_1_method_35_code 3 "FeastBook" D ad cA sd sv (FA ad) := C
  have hl : lv_has ls 3 [(0, .ref (ad 0)), (1, .int (iZ a1)), (2, .int (iZ a2))] := hl
  have w : Wd s D ad cA (FA ad) h s.heap [] := ⟨hP, va_S.rf⟩
  refine m_aload_n C hl 0 d_FB_interval_0 rfl rfl ?_
  refine m_iload_n C hl 1 d_FB_interval_1 rfl rfl ?_
  refine m_xcall (Qc := QX D ad cA) C w hnt hlk hM (fun q e1 => runVX C w.1 w.2 kc_FB sh_0 (Nat.le_of_ble_eq_true rfl) (c_FB_checkFeast hI hst  e1) lk_FB_186 mb_FB_checkFeast rfl ⟨Nat.le_of_ble_eq_true rfl, Nat.le_of_ble_eq_true rfl⟩ ⟨Nat.le_of_ble_eq_true rfl, Nat.le_of_ble_eq_true rfl⟩ (Nat.le_of_ble_eq_true rfl) d_FB_interval_2 hl.1 (rest := []) rfl) (Nat.le_of_ble_eq_true rfl) (Nat.le_of_ble_eq_true rfl) (fun _ h2 H locs w hM => ?_)
  refine m_aload_n C hl 0 d_FB_interval_5 rfl rfl ?_
  refine m_getr C w.1 kc_FB sh_0 (Nat.le_of_ble_eq_true rfl) 6 73 rfl (by decide) fk_FB_56 d_FB_interval_6 ?_
  obtain ⟨h4, e3, hM⟩ := bnd_some hM
  refine aftN C w (runV C w.1 w.2 kc_Round sh_73 (Nat.le_of_ble_eq_true rfl) (c_Round_allSettled hI e3) lk_FB_269 mb_Round_allSettled rfl ⟨Nat.le_of_ble_eq_true rfl, Nat.le_of_ble_eq_true rfl⟩ ⟨Nat.le_of_ble_eq_true rfl, Nat.le_of_ble_eq_true rfl⟩ (Nat.le_of_ble_eq_true rfl) d_FB_interval_9 hl.1 (rest := []) rfl) (fun H locs w => ?_)
  refine m_iload_n C hl 1 d_FB_interval_12 rfl rfl ?_
  refine m_iload_n C hl 2 d_FB_interval_13 rfl rfl ?_
  obtain ⟨x6, e5, hM⟩ := bnd_some hM
  refine aftR (runV C w.1 w.2 kc_Round sh_73 (Nat.le_of_ble_eq_true rfl) (c_Round_gap hI e5) lk_FB_330 mb_Round_gap rfl ⟨Nat.le_of_ble_eq_true rfl, Nat.le_of_ble_eq_true rfl⟩ ⟨Nat.le_of_ble_eq_true rfl, Nat.le_of_ble_eq_true rfl⟩ (Nat.le_of_ble_eq_true rfl) d_FB_interval_14 hl.1 (rest := []) rfl) ?_
  exact m_iretX C w hr hlk hM (Nat.le_of_ble_eq_true rfl) (Nat.le_of_ble_eq_true rfl) d_FB_interval_17
def y_FB_better : MethodName := ⟨"FeastBook", "better", "(III)I"⟩
theorem d_FB_better_0 : decode prog_1_method_37_code 0 = .ok (.aload_n 0, 1) := by decide +kernel
theorem d_FB_better_1 : decode prog_1_method_37_code 1 = .ok (.iload_n 1, 1) := by decide +kernel
theorem d_FB_better_2 : decode prog_1_method_37_code 2 = .ok (.invokevirtual 186, 3) := by decide +kernel
theorem d_FB_better_5 : decode prog_1_method_37_code 5 = .ok (.iload_n 3, 1) := by decide +kernel
theorem d_FB_better_6 : decode prog_1_method_37_code 6 = .ok (.iconst 1, 1) := by decide +kernel
theorem d_FB_better_7 : decode prog_1_method_37_code 7 = .ok (.invokestatic 106, 3) := by decide +kernel
theorem d_FB_better_10 : decode prog_1_method_37_code 10 = .ok (.iload_n 2, 1) := by decide +kernel
theorem d_FB_better_11 : decode prog_1_method_37_code 11 = .ok (.iconst 0, 1) := by decide +kernel
theorem d_FB_better_12 : decode prog_1_method_37_code 12 = .ok (.iconst 5, 1) := by decide +kernel
theorem d_FB_better_13 : decode prog_1_method_37_code 13 = .ok (.invokestatic 225, 3) := by decide +kernel
theorem d_FB_better_16 : decode prog_1_method_37_code 16 = .ok (.aload_n 0, 1) := by decide +kernel
theorem d_FB_better_17 : decode prog_1_method_37_code 17 = .ok (.getfield 56, 3) := by decide +kernel
theorem d_FB_better_20 : decode prog_1_method_37_code 20 = .ok (.iload_n 1, 1) := by decide +kernel
theorem d_FB_better_21 : decode prog_1_method_37_code 21 = .ok (.iload_n 2, 1) := by decide +kernel
theorem d_FB_better_22 : decode prog_1_method_37_code 22 = .ok (.invokevirtual 336, 3) := by decide +kernel
theorem d_FB_better_25 : decode prog_1_method_37_code 25 = .ok (.istore 4, 2) := by decide +kernel
theorem d_FB_better_27 : decode prog_1_method_37_code 27 = .ok (.iload_n 3, 1) := by decide +kernel
theorem d_FB_better_28 : decode prog_1_method_37_code 28 = .ok (.ifCond .ne 21, 3) := by decide +kernel
theorem d_FB_better_31 : decode prog_1_method_37_code 31 = .ok (.aload_n 0, 1) := by decide +kernel
theorem d_FB_better_32 : decode prog_1_method_37_code 32 = .ok (.getfield 28, 3) := by decide +kernel
theorem d_FB_better_35 : decode prog_1_method_37_code 35 = .ok (.getfield 96, 3) := by decide +kernel
theorem d_FB_better_38 : decode prog_1_method_37_code 38 = .ok (.getfield 198, 3) := by decide +kernel
theorem d_FB_better_41 : decode prog_1_method_37_code 41 = .ok (.iload_n 1, 1) := by decide +kernel
theorem d_FB_better_42 : decode prog_1_method_37_code 42 = .ok (.iaload, 1) := by decide +kernel
theorem d_FB_better_43 : decode prog_1_method_37_code 43 = .ok (.iload 4, 2) := by decide +kernel
theorem d_FB_better_45 : decode prog_1_method_37_code 45 = .ok (.iadd, 1) := by decide +kernel
theorem d_FB_better_46 : decode prog_1_method_37_code 46 = .ok (.goto 12, 3) := by decide +kernel
theorem d_FB_better_49 : decode prog_1_method_37_code 49 = .ok (.aload_n 0, 1) := by decide +kernel
theorem d_FB_better_50 : decode prog_1_method_37_code 50 = .ok (.getfield 56, 3) := by decide +kernel
theorem d_FB_better_53 : decode prog_1_method_37_code 53 = .ok (.iload 4, 2) := by decide +kernel
theorem d_FB_better_55 : decode prog_1_method_37_code 55 = .ok (.invokevirtual 339, 3) := by decide +kernel
theorem d_FB_better_58 : decode prog_1_method_37_code 58 = .ok (.ireturn, 1) := by decide +kernel
theorem mb_Round_bestShift : MBv R_Round y_Round_bestShift prog_7_method_22_code 5 (some .int) 2 := ⟨mT8 25 (by decide +kernel) (by decide +kernel), mT8 26 (by decide +kernel) (by decide +kernel), mT1 9 (by decide +kernel) (by decide +kernel), mT8 27 (by decide +kernel) (by decide +kernel), by decide, rfl, by decide +kernel, by decide +kernel, by decide +kernel⟩
theorem lk_FB_336 : Cond.methodLink "FeastBook" 336 y_Round_bestShift ∈ TT := mT8 24 (by decide +kernel) (by decide +kernel)
theorem lk_FB_339 : Cond.methodLink "FeastBook" 339 y_Round_keptByShift ∈ TT := mT8 43 (by decide +kernel) (by decide +kernel)
set_option maxHeartbeats 4000000 in
set_option maxRecDepth 100000 in
theorem c_FB_better {l : Launch} {D : va_G} {ad : Nat → Nat} {cA : Nat → ClassId} {sd sv : Nat → Nat} {h : Hp} {N : Nat} {a1 a2 a3 : Int} {out : XO} (hI : Inj97 ad) (hst : l.stackTraces = false) (hM : M_FB_better N h a1 a2 a3 = some out) : vx_Met l y_FB_better (.code y_FB_better prog_1_method_37_code 5 (some .int) :: TT) (rmX 11 3 18) (PC D ad cA sd sv h [.ref (ad 0), .int (iZ a1), .int (iZ a2), .int (iZ a3)]) (QX D ad cA out) (XT D ad cA out) 3 18 (FA ad) := by
  unfold M_FB_better at hM
  refine entX (by decide +kernel) hI (Nat.le_of_ble_eq_true rfl) ?_
  intro p e s m args below meth c C hr hlk hnt hP ls hl
  have C : Cx p s m args c prog_1_method_37_code 5 "FeastBook" D ad cA sd sv (FA ad) := C
  have hl : lv_has ls 5 [(0, .ref (ad 0)), (1, .int (iZ a1)), (2, .int (iZ a2)), (3, .int (iZ a3))] := hl
  have w : Wd s D ad cA (FA ad) h s.heap [] := ⟨hP, va_S.rf⟩
  refine m_aload_n C hl 0 d_FB_better_0 rfl rfl ?_
  refine m_iload_n C hl 1 d_FB_better_1 rfl rfl ?_
  refine m_xcall (Qc := QX D ad cA) C w hnt hlk hM (fun q e1 => runVX C w.1 w.2 kc_FB sh_0 (Nat.le_of_ble_eq_true rfl) (c_FB_checkFeast hI hst  e1) lk_FB_186 mb_FB_checkFeast rfl ⟨Nat.le_of_ble_eq_true rfl, Nat.le_of_ble_eq_true rfl⟩ ⟨Nat.le_of_ble_eq_true rfl, Nat.le_of_ble_eq_true rfl⟩ (Nat.le_of_ble_eq_true rfl) d_FB_better_2 hl.1 (rest := []) rfl) (Nat.le_of_ble_eq_true rfl) (Nat.le_of_ble_eq_true rfl) (fun _ h2 H locs w hM => ?_)
  refine m_iload_n C hl 3 d_FB_better_5 rfl rfl ?_
  refine m_iconst C d_FB_better_6 ?_
  refine m_xcall (Qc := QX D ad cA) C w hnt hlk hM (fun q e3 => runSX C w.1 w.2 (c_FB_checkWhat hI hst  e3) lk_FB_106 mb_FB_checkWhat rfl ⟨Nat.le_of_ble_eq_true rfl, Nat.le_of_ble_eq_true rfl⟩ ⟨Nat.le_of_ble_eq_true rfl, Nat.le_of_ble_eq_true rfl⟩ (Nat.le_of_ble_eq_true rfl) d_FB_better_7 hl.1 (rest := []) rfl) (Nat.le_of_ble_eq_true rfl) (Nat.le_of_ble_eq_true rfl) (fun _ h4 H locs w hM => ?_)
  refine m_iload_n C hl 2 d_FB_better_10 rfl rfl ?_
  refine m_iconst C d_FB_better_11 ?_
  refine m_iconst C d_FB_better_12 ?_
  refine m_xcall (Qc := QX D ad cA) C w hnt hlk hM (fun q e5 => runSX C w.1 w.2 (c_FB_checkNumber hI hst  e5) lk_FB_225 mb_FB_checkNumber rfl ⟨Nat.le_of_ble_eq_true rfl, Nat.le_of_ble_eq_true rfl⟩ ⟨Nat.le_of_ble_eq_true rfl, Nat.le_of_ble_eq_true rfl⟩ (Nat.le_of_ble_eq_true rfl) d_FB_better_13 hl.1 (rest := []) rfl) (Nat.le_of_ble_eq_true rfl) (Nat.le_of_ble_eq_true rfl) (fun _ h6 H locs w hM => ?_)
  refine m_aload_n C hl 0 d_FB_better_16 rfl rfl ?_
  refine m_getr C w.1 kc_FB sh_0 (Nat.le_of_ble_eq_true rfl) 6 73 rfl (by decide) fk_FB_56 d_FB_better_17 ?_
  refine m_iload_n C hl 1 d_FB_better_20 rfl rfl ?_
  refine m_iload_n C hl 2 d_FB_better_21 rfl rfl ?_
  obtain ⟨q8, e7, hM⟩ := bnd_some hM
  refine aftI C w (runV C w.1 w.2 kc_Round sh_73 (Nat.le_of_ble_eq_true rfl) (c_Round_bestShift hI e7) lk_FB_336 mb_Round_bestShift rfl ⟨Nat.le_of_ble_eq_true rfl, Nat.le_of_ble_eq_true rfl⟩ ⟨Nat.le_of_ble_eq_true rfl, Nat.le_of_ble_eq_true rfl⟩ (Nat.le_of_ble_eq_true rfl) d_FB_better_22 hl.1 (rest := []) rfl) (fun H locs w => ?_)
  refine m_istore C hl [(4, .int (iZ q8.1)), (0, .ref (ad 0)), (1, .int (iZ a1)), (2, .int (iZ a2)), (3, .int (iZ a3))] d_FB_better_25 (by decide) rfl (fun ls hl => ?_)
  refine m_iload_n C hl 4 d_FB_better_27 rfl rfl ?_
  refine m_if_ne C hM 49 d_FB_better_28 (by decide) (fun hM => ?_) (fun hM => ?_)
  · refine m_aload_n C hl 1 d_FB_better_49 rfl rfl ?_
    refine m_getr C w.1 kc_FB sh_0 (Nat.le_of_ble_eq_true rfl) 6 73 rfl (by decide) fk_FB_56 d_FB_better_50 ?_
    refine m_iload C hl 0 d_FB_better_53 rfl ?_
    obtain ⟨x10, e9, hM⟩ := bnd_some hM
    refine aftR (runV C w.1 w.2 kc_Round sh_73 (Nat.le_of_ble_eq_true rfl) (c_Round_keptByShift hI e9) lk_FB_339 mb_Round_keptByShift rfl ⟨Nat.le_of_ble_eq_true rfl, Nat.le_of_ble_eq_true rfl⟩ ⟨Nat.le_of_ble_eq_true rfl, Nat.le_of_ble_eq_true rfl⟩ (Nat.le_of_ble_eq_true rfl) d_FB_better_55 hl.1 (rest := []) rfl) ?_
    exact m_iretX C w hr hlk hM (Nat.le_of_ble_eq_true rfl) (Nat.le_of_ble_eq_true rfl) d_FB_better_58
  · refine m_aload_n C hl 1 d_FB_better_31 rfl rfl ?_
    refine m_getr C w.1 kc_FB sh_0 (Nat.le_of_ble_eq_true rfl) 2 23 rfl (by decide) fk_FB_28 d_FB_better_32 ?_
    refine m_getr C w.1 kc_Book sh_23 (Nat.le_of_ble_eq_true rfl) 17 33 rfl (by decide) fk_FB_96 d_FB_better_35 ?_
    refine m_getr C w.1 kc_Feasts sh_33 (Nat.le_of_ble_eq_true rfl) 3 36 rfl (by decide) fk_FB_198 d_FB_better_38 ?_
    refine m_iload_n C hl 2 d_FB_better_41 rfl rfl ?_
    refine m_iald C w.1 sh_36 (Nat.le_of_ble_eq_true rfl) (Nat.le_of_ble_eq_true rfl) hM d_FB_better_42 (fun x11 hM => ?_)
    refine m_iload C hl 0 d_FB_better_43 rfl ?_
    refine m_iadd C d_FB_better_45 ?_
    refine m_goto C 58 d_FB_better_46 (by decide) ?_
    exact m_iretX C w hr hlk hM (Nat.le_of_ble_eq_true rfl) (Nat.le_of_ble_eq_true rfl) d_FB_better_58
def y_FB_rival : MethodName := ⟨"FeastBook", "rival", "(I)I"⟩
theorem d_FB_rival_0 : decode prog_1_method_38_code 0 = .ok (.aload_n 0, 1) := by decide +kernel
theorem d_FB_rival_1 : decode prog_1_method_38_code 1 = .ok (.iload_n 1, 1) := by decide +kernel
theorem d_FB_rival_2 : decode prog_1_method_38_code 2 = .ok (.invokevirtual 186, 3) := by decide +kernel
theorem d_FB_rival_5 : decode prog_1_method_38_code 5 = .ok (.aload_n 0, 1) := by decide +kernel
theorem d_FB_rival_6 : decode prog_1_method_38_code 6 = .ok (.getfield 56, 3) := by decide +kernel
theorem d_FB_rival_9 : decode prog_1_method_38_code 9 = .ok (.invokevirtual 269, 3) := by decide +kernel
theorem d_FB_rival_12 : decode prog_1_method_38_code 12 = .ok (.iload_n 1, 1) := by decide +kernel
theorem d_FB_rival_13 : decode prog_1_method_38_code 13 = .ok (.invokevirtual 342, 3) := by decide +kernel
theorem d_FB_rival_16 : decode prog_1_method_38_code 16 = .ok (.ireturn, 1) := by decide +kernel
theorem mb_Round_worstRival : MBv R_Round y_Round_worstRival prog_7_method_26_code 6 (some .int) 1 := ⟨mT8 52 (by decide +kernel) (by decide +kernel), mT8 53 (by decide +kernel) (by decide +kernel), mT1 9 (by decide +kernel) (by decide +kernel), mT8 54 (by decide +kernel) (by decide +kernel), by decide, rfl, by decide +kernel, by decide +kernel, by decide +kernel⟩
theorem lk_FB_342 : Cond.methodLink "FeastBook" 342 y_Round_worstRival ∈ TT := mT8 51 (by decide +kernel) (by decide +kernel)
set_option maxHeartbeats 4000000 in
set_option maxRecDepth 100000 in
theorem c_FB_rival {l : Launch} {D : va_G} {ad : Nat → Nat} {cA : Nat → ClassId} {sd sv : Nat → Nat} {h : Hp} {N : Nat} {a1 : Int} {out : XO} (hI : Inj97 ad) (hst : l.stackTraces = false) (hM : M_FB_rival N h a1 = some out) : vx_Met l y_FB_rival (.code y_FB_rival prog_1_method_38_code 2 (some .int) :: TT) (rmX 11 1 6) (PC D ad cA sd sv h [.ref (ad 0), .int (iZ a1)]) (QX D ad cA out) (XT D ad cA out) 1 6 (FA ad) := by
  unfold M_FB_rival at hM
  refine entX (by decide +kernel) hI (Nat.le_of_ble_eq_true rfl) ?_
  intro p e s m args below meth c C hr hlk hnt hP ls hl
  have C : Cx p s m args c prog_1_method_38_code 2 "FeastBook" D ad cA sd sv (FA ad) := C
  have hl : lv_has ls 2 [(0, .ref (ad 0)), (1, .int (iZ a1))] := hl
  have w : Wd s D ad cA (FA ad) h s.heap [] := ⟨hP, va_S.rf⟩
  refine m_aload_n C hl 0 d_FB_rival_0 rfl rfl ?_
  refine m_iload_n C hl 1 d_FB_rival_1 rfl rfl ?_
  refine m_xcall (Qc := QX D ad cA) C w hnt hlk hM (fun q e1 => runVX C w.1 w.2 kc_FB sh_0 (Nat.le_of_ble_eq_true rfl) (c_FB_checkFeast hI hst  e1) lk_FB_186 mb_FB_checkFeast rfl ⟨Nat.le_of_ble_eq_true rfl, Nat.le_of_ble_eq_true rfl⟩ ⟨Nat.le_of_ble_eq_true rfl, Nat.le_of_ble_eq_true rfl⟩ (Nat.le_of_ble_eq_true rfl) d_FB_rival_2 hl.1 (rest := []) rfl) (Nat.le_of_ble_eq_true rfl) (Nat.le_of_ble_eq_true rfl) (fun _ h2 H locs w hM => ?_)
  refine m_aload_n C hl 0 d_FB_rival_5 rfl rfl ?_
  refine m_getr C w.1 kc_FB sh_0 (Nat.le_of_ble_eq_true rfl) 6 73 rfl (by decide) fk_FB_56 d_FB_rival_6 ?_
  obtain ⟨h4, e3, hM⟩ := bnd_some hM
  refine aftN C w (runV C w.1 w.2 kc_Round sh_73 (Nat.le_of_ble_eq_true rfl) (c_Round_allSettled hI e3) lk_FB_269 mb_Round_allSettled rfl ⟨Nat.le_of_ble_eq_true rfl, Nat.le_of_ble_eq_true rfl⟩ ⟨Nat.le_of_ble_eq_true rfl, Nat.le_of_ble_eq_true rfl⟩ (Nat.le_of_ble_eq_true rfl) d_FB_rival_9 hl.1 (rest := []) rfl) (fun H locs w => ?_)
  refine m_iload_n C hl 1 d_FB_rival_12 rfl rfl ?_
  obtain ⟨x6, e5, hM⟩ := bnd_some hM
  refine aftR (runV C w.1 w.2 kc_Round sh_73 (Nat.le_of_ble_eq_true rfl) (c_Round_worstRival hI e5) lk_FB_342 mb_Round_worstRival rfl ⟨Nat.le_of_ble_eq_true rfl, Nat.le_of_ble_eq_true rfl⟩ ⟨Nat.le_of_ble_eq_true rfl, Nat.le_of_ble_eq_true rfl⟩ (Nat.le_of_ble_eq_true rfl) d_FB_rival_13 hl.1 (rest := []) rfl) ?_
  exact m_iretX C w hr hlk hM (Nat.le_of_ble_eq_true rfl) (Nat.le_of_ble_eq_true rfl) d_FB_rival_16
def y_FB_lull : MethodName := ⟨"FeastBook", "lull", "(I)I"⟩
theorem d_FB_lull_0 : decode prog_1_method_39_code 0 = .ok (.aload_n 0, 1) := by decide +kernel
theorem d_FB_lull_1 : decode prog_1_method_39_code 1 = .ok (.invokevirtual 248, 3) := by decide +kernel
theorem d_FB_lull_4 : decode prog_1_method_39_code 4 = .ok (.iload_n 1, 1) := by decide +kernel
theorem d_FB_lull_5 : decode prog_1_method_39_code 5 = .ok (.iconst 1, 1) := by decide +kernel
theorem d_FB_lull_6 : decode prog_1_method_39_code 6 = .ok (.bipush 60, 2) := by decide +kernel
theorem d_FB_lull_8 : decode prog_1_method_39_code 8 = .ok (.invokestatic 225, 3) := by decide +kernel
theorem d_FB_lull_11 : decode prog_1_method_39_code 11 = .ok (.aload_n 0, 1) := by decide +kernel
theorem d_FB_lull_12 : decode prog_1_method_39_code 12 = .ok (.getfield 56, 3) := by decide +kernel
theorem d_FB_lull_15 : decode prog_1_method_39_code 15 = .ok (.invokevirtual 317, 3) := by decide +kernel
theorem d_FB_lull_18 : decode prog_1_method_39_code 18 = .ok (.iload_n 1, 1) := by decide +kernel
theorem d_FB_lull_19 : decode prog_1_method_39_code 19 = .ok (.invokevirtual 345, 3) := by decide +kernel
theorem d_FB_lull_22 : decode prog_1_method_39_code 22 = .ok (.ireturn, 1) := by decide +kernel
theorem mb_Round_firstRunOf : MBv R_Round y_Round_firstRunOf prog_7_method_27_code 4 (some .int) 1 := ⟨mT8 64 (by decide +kernel) (by decide +kernel), mT8 65 (by decide +kernel) (by decide +kernel), mT1 9 (by decide +kernel) (by decide +kernel), mT8 66 (by decide +kernel) (by decide +kernel), by decide, rfl, by decide +kernel, by decide +kernel, by decide +kernel⟩
theorem lk_FB_345 : Cond.methodLink "FeastBook" 345 y_Round_firstRunOf ∈ TT := mT8 63 (by decide +kernel) (by decide +kernel)
set_option maxHeartbeats 4000000 in
set_option maxRecDepth 100000 in
theorem c_FB_lull {l : Launch} {D : va_G} {ad : Nat → Nat} {cA : Nat → ClassId} {sd sv : Nat → Nat} {h : Hp} {N : Nat} {a1 : Int} {out : XO} (hI : Inj97 ad) (hst : l.stackTraces = false) (hM : M_FB_lull N h a1 = some out) : vx_Met l y_FB_lull (.code y_FB_lull prog_1_method_39_code 2 (some .int) :: TT) (rmX 11 2 12) (PC D ad cA sd sv h [.ref (ad 0), .int (iZ a1)]) (QX D ad cA out) (XT D ad cA out) 2 12 (FA ad) := by
  unfold M_FB_lull at hM
  refine entX (by decide +kernel) hI (Nat.le_of_ble_eq_true rfl) ?_
  intro p e s m args below meth c C hr hlk hnt hP ls hl
  have C : Cx p s m args c prog_1_method_39_code 2 "FeastBook" D ad cA sd sv (FA ad) := C
  have hl : lv_has ls 2 [(0, .ref (ad 0)), (1, .int (iZ a1))] := hl
  have w : Wd s D ad cA (FA ad) h s.heap [] := ⟨hP, va_S.rf⟩
  refine m_aload_n C hl 0 d_FB_lull_0 rfl rfl ?_
  refine m_xcall (Qc := QX D ad cA) C w hnt hlk hM (fun q e1 => runVX C w.1 w.2 kc_FB sh_0 (Nat.le_of_ble_eq_true rfl) (c_FB_checkBook hI hst  e1) lk_FB_248 mb_FB_checkBook rfl ⟨Nat.le_of_ble_eq_true rfl, Nat.le_of_ble_eq_true rfl⟩ ⟨Nat.le_of_ble_eq_true rfl, Nat.le_of_ble_eq_true rfl⟩ (Nat.le_of_ble_eq_true rfl) d_FB_lull_1 hl.1 (rest := []) rfl) (Nat.le_of_ble_eq_true rfl) (Nat.le_of_ble_eq_true rfl) (fun _ h2 H locs w hM => ?_)
  refine m_iload_n C hl 1 d_FB_lull_4 rfl rfl ?_
  refine m_iconst C d_FB_lull_5 ?_
  refine m_bipush C d_FB_lull_6 (by decide) ?_
  refine m_xcall (Qc := QX D ad cA) C w hnt hlk hM (fun q e3 => runSX C w.1 w.2 (c_FB_checkNumber hI hst  e3) lk_FB_225 mb_FB_checkNumber rfl ⟨Nat.le_of_ble_eq_true rfl, Nat.le_of_ble_eq_true rfl⟩ ⟨Nat.le_of_ble_eq_true rfl, Nat.le_of_ble_eq_true rfl⟩ (Nat.le_of_ble_eq_true rfl) d_FB_lull_8 hl.1 (rest := []) rfl) (Nat.le_of_ble_eq_true rfl) (Nat.le_of_ble_eq_true rfl) (fun _ h4 H locs w hM => ?_)
  refine m_aload_n C hl 0 d_FB_lull_11 rfl rfl ?_
  refine m_getr C w.1 kc_FB sh_0 (Nat.le_of_ble_eq_true rfl) 6 73 rfl (by decide) fk_FB_56 d_FB_lull_12 ?_
  obtain ⟨h6, e5, hM⟩ := bnd_some hM
  refine aftN C w (runV C w.1 w.2 kc_Round sh_73 (Nat.le_of_ble_eq_true rfl) (c_Round_allMeasured hI e5) lk_FB_317 mb_Round_allMeasured rfl ⟨Nat.le_of_ble_eq_true rfl, Nat.le_of_ble_eq_true rfl⟩ ⟨Nat.le_of_ble_eq_true rfl, Nat.le_of_ble_eq_true rfl⟩ (Nat.le_of_ble_eq_true rfl) d_FB_lull_15 hl.1 (rest := []) rfl) (fun H locs w => ?_)
  refine m_iload_n C hl 1 d_FB_lull_18 rfl rfl ?_
  obtain ⟨x8, e7, hM⟩ := bnd_some hM
  refine aftR (runV C w.1 w.2 kc_Round sh_73 (Nat.le_of_ble_eq_true rfl) (c_Round_firstRunOf hI e7) lk_FB_345 mb_Round_firstRunOf rfl ⟨Nat.le_of_ble_eq_true rfl, Nat.le_of_ble_eq_true rfl⟩ ⟨Nat.le_of_ble_eq_true rfl, Nat.le_of_ble_eq_true rfl⟩ (Nat.le_of_ble_eq_true rfl) d_FB_lull_19 hl.1 (rest := []) rfl) ?_
  exact m_iretX C w hr hlk hM (Nat.le_of_ble_eq_true rfl) (Nat.le_of_ble_eq_true rfl) d_FB_lull_22
def y_FB_tally : MethodName := ⟨"FeastBook", "tally", "(II)I"⟩
theorem d_FB_tally_0 : decode prog_1_method_40_code 0 = .ok (.aload_n 0, 1) := by decide +kernel
theorem d_FB_tally_1 : decode prog_1_method_40_code 1 = .ok (.iload_n 1, 1) := by decide +kernel
theorem d_FB_tally_2 : decode prog_1_method_40_code 2 = .ok (.invokevirtual 103, 3) := by decide +kernel
theorem d_FB_tally_5 : decode prog_1_method_40_code 5 = .ok (.iload_n 2, 1) := by decide +kernel
theorem d_FB_tally_6 : decode prog_1_method_40_code 6 = .ok (.iconst 0, 1) := by decide +kernel
theorem d_FB_tally_7 : decode prog_1_method_40_code 7 = .ok (.iconst 5, 1) := by decide +kernel
theorem d_FB_tally_8 : decode prog_1_method_40_code 8 = .ok (.invokestatic 225, 3) := by decide +kernel
theorem d_FB_tally_11 : decode prog_1_method_40_code 11 = .ok (.aload_n 0, 1) := by decide +kernel
theorem d_FB_tally_12 : decode prog_1_method_40_code 12 = .ok (.iload_n 1, 1) := by decide +kernel
theorem d_FB_tally_13 : decode prog_1_method_40_code 13 = .ok (.invokevirtual 127, 3) := by decide +kernel
theorem d_FB_tally_16 : decode prog_1_method_40_code 16 = .ok (.iload_n 2, 1) := by decide +kernel
theorem d_FB_tally_17 : decode prog_1_method_40_code 17 = .ok (.invokevirtual 348, 3) := by decide +kernel
theorem d_FB_tally_20 : decode prog_1_method_40_code 20 = .ok (.ireturn, 1) := by decide +kernel
theorem mb_YearPlan_feastsWith : MBv R_YearPlan y_YearPlan_feastsWith prog_11_method_21_code 4 (some .int) 1 := ⟨mT8 75 (by decide +kernel) (by decide +kernel), mT8 76 (by decide +kernel) (by decide +kernel), mT1 8 (by decide +kernel) (by decide +kernel), mT8 77 (by decide +kernel) (by decide +kernel), by decide, rfl, by decide +kernel, by decide +kernel, by decide +kernel⟩
theorem lk_FB_348 : Cond.methodLink "FeastBook" 348 y_YearPlan_feastsWith ∈ TT := mT8 74 (by decide +kernel) (by decide +kernel)
set_option maxHeartbeats 4000000 in
set_option maxRecDepth 100000 in
theorem c_FB_tally {l : Launch} {D : va_G} {ad : Nat → Nat} {cA : Nat → ClassId} {sd sv : Nat → Nat} {h : Hp} {N : Nat} {a1 a2 : Int} {out : XO} (hI : Inj97 ad) (hst : l.stackTraces = false) (hM : M_FB_tally N h a1 a2 = some out) : vx_Met l y_FB_tally (.code y_FB_tally prog_1_method_40_code 3 (some .int) :: TT) (rmX 11 2 12) (PC D ad cA sd sv h [.ref (ad 0), .int (iZ a1), .int (iZ a2)]) (QX D ad cA out) (XT D ad cA out) 2 12 (FA ad) := by
  unfold M_FB_tally at hM
  refine entX (by decide +kernel) hI (Nat.le_of_ble_eq_true rfl) ?_
  intro p e s m args below meth c C hr hlk hnt hP ls hl
  have C : Cx p s m args c prog_1_method_40_code 3 "FeastBook" D ad cA sd sv (FA ad) := C
  have hl : lv_has ls 3 [(0, .ref (ad 0)), (1, .int (iZ a1)), (2, .int (iZ a2))] := hl
  have w : Wd s D ad cA (FA ad) h s.heap [] := ⟨hP, va_S.rf⟩
  refine m_aload_n C hl 0 d_FB_tally_0 rfl rfl ?_
  refine m_iload_n C hl 1 d_FB_tally_1 rfl rfl ?_
  refine m_xcall (Qc := QX D ad cA) C w hnt hlk hM (fun q e1 => runVX C w.1 w.2 kc_FB sh_0 (Nat.le_of_ble_eq_true rfl) (c_FB_checkYear hI hst  e1) lk_FB_103 mb_FB_checkYear rfl ⟨Nat.le_of_ble_eq_true rfl, Nat.le_of_ble_eq_true rfl⟩ ⟨Nat.le_of_ble_eq_true rfl, Nat.le_of_ble_eq_true rfl⟩ (Nat.le_of_ble_eq_true rfl) d_FB_tally_2 hl.1 (rest := []) rfl) (Nat.le_of_ble_eq_true rfl) (Nat.le_of_ble_eq_true rfl) (fun _ h2 H locs w hM => ?_)
  refine m_iload_n C hl 2 d_FB_tally_5 rfl rfl ?_
  refine m_iconst C d_FB_tally_6 ?_
  refine m_iconst C d_FB_tally_7 ?_
  refine m_xcall (Qc := QX D ad cA) C w hnt hlk hM (fun q e3 => runSX C w.1 w.2 (c_FB_checkNumber hI hst  e3) lk_FB_225 mb_FB_checkNumber rfl ⟨Nat.le_of_ble_eq_true rfl, Nat.le_of_ble_eq_true rfl⟩ ⟨Nat.le_of_ble_eq_true rfl, Nat.le_of_ble_eq_true rfl⟩ (Nat.le_of_ble_eq_true rfl) d_FB_tally_8 hl.1 (rest := []) rfl) (Nat.le_of_ble_eq_true rfl) (Nat.le_of_ble_eq_true rfl) (fun _ h4 H locs w hM => ?_)
  refine m_aload_n C hl 0 d_FB_tally_11 rfl rfl ?_
  refine m_iload_n C hl 1 d_FB_tally_12 rfl rfl ?_
  obtain ⟨h6, e5, hM⟩ := bnd_some hM
  refine aftN C w (runV C w.1 w.2 kc_FB sh_0 (Nat.le_of_ble_eq_true rfl) (c_FB_settledYear hI e5) lk_FB_127 mb_FB_settledYear rfl ⟨Nat.le_of_ble_eq_true rfl, Nat.le_of_ble_eq_true rfl⟩ ⟨Nat.le_of_ble_eq_true rfl, Nat.le_of_ble_eq_true rfl⟩ (Nat.le_of_ble_eq_true rfl) d_FB_tally_13 hl.1 (rest := []) rfl) (fun H locs w => ?_)
  refine m_iload_n C hl 2 d_FB_tally_16 rfl rfl ?_
  obtain ⟨x8, e7, hM⟩ := bnd_some hM
  refine aftR (runV C w.1 w.2 kc_YearPlan sh_66 (Nat.le_of_ble_eq_true rfl) (c_YearPlan_feastsWith hI e7) lk_FB_348 mb_YearPlan_feastsWith rfl ⟨Nat.le_of_ble_eq_true rfl, Nat.le_of_ble_eq_true rfl⟩ ⟨Nat.le_of_ble_eq_true rfl, Nat.le_of_ble_eq_true rfl⟩ (Nat.le_of_ble_eq_true rfl) d_FB_tally_17 hl.1 (rest := []) rfl) ?_
  exact m_iretX C w hr hlk hM (Nat.le_of_ble_eq_true rfl) (Nat.le_of_ble_eq_true rfl) d_FB_tally_20
def y_FB_leader : MethodName := ⟨"FeastBook", "leader", "()I"⟩
theorem d_FB_leader_0 : decode prog_1_method_41_code 0 = .ok (.aload_n 0, 1) := by decide +kernel
theorem d_FB_leader_1 : decode prog_1_method_41_code 1 = .ok (.invokevirtual 248, 3) := by decide +kernel
theorem d_FB_leader_4 : decode prog_1_method_41_code 4 = .ok (.aload_n 0, 1) := by decide +kernel
theorem d_FB_leader_5 : decode prog_1_method_41_code 5 = .ok (.getfield 56, 3) := by decide +kernel
theorem d_FB_leader_8 : decode prog_1_method_41_code 8 = .ok (.invokevirtual 269, 3) := by decide +kernel
theorem d_FB_leader_11 : decode prog_1_method_41_code 11 = .ok (.invokevirtual 351, 3) := by decide +kernel
theorem d_FB_leader_14 : decode prog_1_method_41_code 14 = .ok (.ireturn, 1) := by decide +kernel
theorem mb_Round_mostKept : MBv R_Round y_Round_mostKept prog_7_method_28_code 5 (some .int) 0 := ⟨mT8 86 (by decide +kernel) (by decide +kernel), mT8 87 (by decide +kernel) (by decide +kernel), mT1 9 (by decide +kernel) (by decide +kernel), mT8 88 (by decide +kernel) (by decide +kernel), by decide, rfl, by decide +kernel, by decide +kernel, by decide +kernel⟩
theorem lk_FB_351 : Cond.methodLink "FeastBook" 351 y_Round_mostKept ∈ TT := mT8 85 (by decide +kernel) (by decide +kernel)
set_option maxHeartbeats 4000000 in
set_option maxRecDepth 100000 in
theorem c_FB_leader {l : Launch} {D : va_G} {ad : Nat → Nat} {cA : Nat → ClassId} {sd sv : Nat → Nat} {h : Hp} {N : Nat} {out : XO} (hI : Inj97 ad) (hst : l.stackTraces = false) (hM : M_FB_leader N h = some out) : vx_Met l y_FB_leader (.code y_FB_leader prog_1_method_41_code 1 (some .int) :: TT) (rmX 11 1 6) (PC D ad cA sd sv h [.ref (ad 0)]) (QX D ad cA out) (XT D ad cA out) 1 6 (FA ad) := by
  unfold M_FB_leader at hM
  refine entX (by decide +kernel) hI (Nat.le_of_ble_eq_true rfl) ?_
  intro p e s m args below meth c C hr hlk hnt hP ls hl
  have C : Cx p s m args c prog_1_method_41_code 1 "FeastBook" D ad cA sd sv (FA ad) := C
  have hl : lv_has ls 1 [(0, .ref (ad 0))] := hl
  have w : Wd s D ad cA (FA ad) h s.heap [] := ⟨hP, va_S.rf⟩
  refine m_aload_n C hl 0 d_FB_leader_0 rfl rfl ?_
  refine m_xcall (Qc := QX D ad cA) C w hnt hlk hM (fun q e1 => runVX C w.1 w.2 kc_FB sh_0 (Nat.le_of_ble_eq_true rfl) (c_FB_checkBook hI hst  e1) lk_FB_248 mb_FB_checkBook rfl ⟨Nat.le_of_ble_eq_true rfl, Nat.le_of_ble_eq_true rfl⟩ ⟨Nat.le_of_ble_eq_true rfl, Nat.le_of_ble_eq_true rfl⟩ (Nat.le_of_ble_eq_true rfl) d_FB_leader_1 hl.1 (rest := []) rfl) (Nat.le_of_ble_eq_true rfl) (Nat.le_of_ble_eq_true rfl) (fun _ h2 H locs w hM => ?_)
  refine m_aload_n C hl 0 d_FB_leader_4 rfl rfl ?_
  refine m_getr C w.1 kc_FB sh_0 (Nat.le_of_ble_eq_true rfl) 6 73 rfl (by decide) fk_FB_56 d_FB_leader_5 ?_
  obtain ⟨h4, e3, hM⟩ := bnd_some hM
  refine aftN C w (runV C w.1 w.2 kc_Round sh_73 (Nat.le_of_ble_eq_true rfl) (c_Round_allSettled hI e3) lk_FB_269 mb_Round_allSettled rfl ⟨Nat.le_of_ble_eq_true rfl, Nat.le_of_ble_eq_true rfl⟩ ⟨Nat.le_of_ble_eq_true rfl, Nat.le_of_ble_eq_true rfl⟩ (Nat.le_of_ble_eq_true rfl) d_FB_leader_8 hl.1 (rest := []) rfl) (fun H locs w => ?_)
  obtain ⟨x6, e5, hM⟩ := bnd_some hM
  refine aftR (runV C w.1 w.2 kc_Round sh_73 (Nat.le_of_ble_eq_true rfl) (c_Round_mostKept hI e5) lk_FB_351 mb_Round_mostKept rfl ⟨Nat.le_of_ble_eq_true rfl, Nat.le_of_ble_eq_true rfl⟩ ⟨Nat.le_of_ble_eq_true rfl, Nat.le_of_ble_eq_true rfl⟩ (Nat.le_of_ble_eq_true rfl) d_FB_leader_11 hl.1 (rest := []) rfl) ?_
  exact m_iretX C w hr hlk hM (Nat.le_of_ble_eq_true rfl) (Nat.le_of_ble_eq_true rfl) d_FB_leader_14

def y_FB_book : MethodName := ⟨"FeastBook", "book", "()I"⟩
theorem d_FB_book_0 : decode prog_1_method_4_code 0 = .ok (.aload_n 0, 1) := by decide +kernel
theorem d_FB_book_1 : decode prog_1_method_4_code 1 = .ok (.aload_n 0, 1) := by decide +kernel
theorem d_FB_book_2 : decode prog_1_method_4_code 2 = .ok (.getfield 21, 3) := by decide +kernel
theorem d_FB_book_5 : decode prog_1_method_4_code 5 = .ok (.invokevirtual 79, 3) := by decide +kernel
theorem d_FB_book_8 : decode prog_1_method_4_code 8 = .ok (.putfield 64, 3) := by decide +kernel
theorem d_FB_book_11 : decode prog_1_method_4_code 11 = .ok (.aload_n 0, 1) := by decide +kernel
theorem d_FB_book_12 : decode prog_1_method_4_code 12 = .ok (.getfield 12, 3) := by decide +kernel
theorem d_FB_book_15 : decode prog_1_method_4_code 15 = .ok (.iconst 0, 1) := by decide +kernel
theorem d_FB_book_16 : decode prog_1_method_4_code 16 = .ok (.putfield 76, 3) := by decide +kernel
theorem d_FB_book_19 : decode prog_1_method_4_code 19 = .ok (.aload_n 0, 1) := by decide +kernel
theorem d_FB_book_20 : decode prog_1_method_4_code 20 = .ok (.getfield 64, 3) := by decide +kernel
theorem d_FB_book_23 : decode prog_1_method_4_code 23 = .ok (.iconst (-1), 1) := by decide +kernel
theorem d_FB_book_24 : decode prog_1_method_4_code 24 = .ok (.if_icmp .eq 13, 3) := by decide +kernel
theorem d_FB_book_27 : decode prog_1_method_4_code 27 = .ok (.new 83, 3) := by decide +kernel
theorem d_FB_book_30 : decode prog_1_method_4_code 30 = .ok (.dup, 1) := by decide +kernel
theorem d_FB_book_31 : decode prog_1_method_4_code 31 = .ok (.ldc 85, 2) := by decide +kernel
theorem d_FB_book_33 : decode prog_1_method_4_code 33 = .ok (.invokespecial 87, 3) := by decide +kernel
theorem d_FB_book_36 : decode prog_1_method_4_code 36 = .ok (.athrow, 1) := by decide +kernel
theorem d_FB_book_37 : decode prog_1_method_4_code 37 = .ok (.aload_n 0, 1) := by decide +kernel
theorem d_FB_book_38 : decode prog_1_method_4_code 38 = .ok (.aload_n 0, 1) := by decide +kernel
theorem d_FB_book_39 : decode prog_1_method_4_code 39 = .ok (.getfield 21, 3) := by decide +kernel
theorem d_FB_book_42 : decode prog_1_method_4_code 42 = .ok (.getfield 90, 3) := by decide +kernel
theorem d_FB_book_45 : decode prog_1_method_4_code 45 = .ok (.invokevirtual 93, 3) := by decide +kernel
theorem d_FB_book_48 : decode prog_1_method_4_code 48 = .ok (.aload_n 0, 1) := by decide +kernel
theorem d_FB_book_49 : decode prog_1_method_4_code 49 = .ok (.getfield 28, 3) := by decide +kernel
theorem d_FB_book_52 : decode prog_1_method_4_code 52 = .ok (.getfield 96, 3) := by decide +kernel
theorem d_FB_book_55 : decode prog_1_method_4_code 55 = .ok (.getfield 100, 3) := by decide +kernel
theorem d_FB_book_58 : decode prog_1_method_4_code 58 = .ok (.ireturn, 1) := by decide +kernel
theorem mb_Reader_read : MBv R_Reader y_Reader_read prog_6_method_2_code 2 (some .int) 0 := ⟨mT3 75 (by decide +kernel) (by decide +kernel), mT3 76 (by decide +kernel) (by decide +kernel), mT1 3 (by decide +kernel) (by decide +kernel), mT3 77 (by decide +kernel) (by decide +kernel), by decide, rfl, by decide +kernel, by decide +kernel, by decide +kernel⟩
theorem fk_FB_21 : Cond.fieldLink "FeastBook" 21 (T_FB 1).1 (T_FB 1).2.1 (T_FB 1).2.2.1 ∈ TT := mT2 166 (by decide +kernel) (by decide +kernel)
theorem fk_FB_90 : Cond.fieldLink "FeastBook" 90 (T_Reader 1).1 (T_Reader 1).2.1 (T_Reader 1).2.2.1 ∈ TT := mT2 5 (by decide +kernel) (by decide +kernel)
theorem lk_FB_79 : Cond.methodLink "FeastBook" 79 y_Reader_read ∈ TT := mT3 74 (by decide +kernel) (by decide +kernel)
set_option maxHeartbeats 4000000 in
set_option maxRecDepth 100000 in
theorem c_FB_book {l : Launch} {D : va_G} {ad : Nat → Nat} {cA : Nat → ClassId} {sd sv : Nat → Nat} {h : Hp} {N : Nat} {out : XO} (hI : Inj97 ad) (hst : l.stackTraces = false) (hM : M_FB_book N h = some out) : vx_Met l y_FB_book (.code y_FB_book prog_1_method_4_code 1 (some .int) :: TT) (rmX 10 1 6) (PC D ad cA sd sv h [.ref (ad 0)]) (QX D ad cA out) (XT D ad cA out) 1 6 (FA ad) := by
  unfold M_FB_book at hM
  refine entX (by decide +kernel) hI (Nat.le_of_ble_eq_true rfl) ?_
  intro p e s m args below meth c C hr hlk hnt hP ls hl
  have C : Cx p s m args c prog_1_method_4_code 1 "FeastBook" D ad cA sd sv (FA ad) := C
  have hl : lv_has ls 1 [(0, .ref (ad 0))] := hl
  have w : Wd s D ad cA (FA ad) h s.heap [] := ⟨hP, va_S.rf⟩
  refine m_aload_n C hl 0 d_FB_book_0 rfl rfl ?_
  refine m_aload_n C hl 0 d_FB_book_1 rfl rfl ?_
  refine m_getr C w.1 kc_FB sh_0 (Nat.le_of_ble_eq_true rfl) 1 3 rfl (by decide) fk_FB_21 d_FB_book_2 ?_
  obtain ⟨q2, e1, hM⟩ := bnd_some hM
  refine aftI C w (runV C w.1 w.2 kc_Reader sh_3 (Nat.le_of_ble_eq_true rfl) (c_Reader_read hI e1) lk_FB_79 mb_Reader_read rfl ⟨Nat.le_of_ble_eq_true rfl, Nat.le_of_ble_eq_true rfl⟩ ⟨Nat.le_of_ble_eq_true rfl, Nat.le_of_ble_eq_true rfl⟩ (Nat.le_of_ble_eq_true rfl) d_FB_book_5 hl.1 (rest := [.ref (ad 0)]) rfl) (fun H locs w => ?_)
  refine m_puti C w kc_FB sh_0 (Nat.le_of_ble_eq_true rfl) 8 hM rfl (by decide) rfl rfl fk_FB_64 d_FB_book_8 (fun h3 H locs w hM => ?_)
  refine m_aload_n C hl 0 d_FB_book_11 rfl rfl ?_
  refine m_getr C w.1 kc_FB sh_0 (Nat.le_of_ble_eq_true rfl) 0 1 rfl (by decide) fk_FB_12 d_FB_book_12 ?_
  refine m_iconst C d_FB_book_15 ?_
  refine m_puti C w kc_Tape sh_1 (Nat.le_of_ble_eq_true rfl) 1 hM rfl (by decide) rfl rfl fk_FB_76 d_FB_book_16 (fun h4 H locs w hM => ?_)
  refine m_aload_n C hl 0 d_FB_book_19 rfl rfl ?_
  refine m_geti C w.1 kc_FB sh_0 (Nat.le_of_ble_eq_true rfl) 8 rfl (by decide) fk_FB_64 d_FB_book_20 ?_
  refine m_iconst C d_FB_book_23 ?_
  refine m_icmp_eq C hM 37 d_FB_book_24 (by decide) (fun hM => ?_) (fun hM => ?_)
  · refine m_aload_n C hl 0 d_FB_book_37 rfl rfl ?_
    refine m_aload_n C hl 0 d_FB_book_38 rfl rfl ?_
    refine m_getr C w.1 kc_FB sh_0 (Nat.le_of_ble_eq_true rfl) 1 3 rfl (by decide) fk_FB_21 d_FB_book_39 ?_
    refine m_getr C w.1 kc_Reader sh_3 (Nat.le_of_ble_eq_true rfl) 1 4 rfl (by decide) fk_FB_90 d_FB_book_42 ?_
    obtain ⟨h6, e5, hM⟩ := bnd_some hM
    refine aftV C w (runV C w.1 w.2 kc_FB sh_0 (Nat.le_of_ble_eq_true rfl) (c_FB_takeOver hI (Or.inl rfl) e5) lk_FB_93 mb_FB_takeOver rfl ⟨Nat.le_of_ble_eq_true rfl, Nat.le_of_ble_eq_true rfl⟩ ⟨Nat.le_of_ble_eq_true rfl, Nat.le_of_ble_eq_true rfl⟩ (Nat.le_of_ble_eq_true rfl) d_FB_book_45 hl.1 (rest := []) rfl) (fun H locs w => ?_)
    refine m_aload_n C hl 0 d_FB_book_48 rfl rfl ?_
    refine m_getr C w.1 kc_FB sh_0 (Nat.le_of_ble_eq_true rfl) 2 23 rfl (by decide) fk_FB_28 d_FB_book_49 ?_
    refine m_getr C w.1 kc_Book sh_23 (Nat.le_of_ble_eq_true rfl) 17 33 rfl (by decide) fk_FB_96 d_FB_book_52 ?_
    refine m_geti C w.1 kc_Feasts sh_33 (Nat.le_of_ble_eq_true rfl) 0 rfl (by decide) fk_FB_100 d_FB_book_55 ?_
    exact m_iretX C w hr hlk hM (Nat.le_of_ble_eq_true rfl) (Nat.le_of_ble_eq_true rfl) d_FB_book_58
  · exact m_thrS (Qc := QX D ad cA) (t := 36) hst C w hnt hl.1 hlk thw_3 (by decide) rfl (by decide) hM d_FB_book_27 d_FB_book_30 d_FB_book_31 d_FB_book_33 d_FB_book_36 (Nat.le_of_ble_eq_true rfl) (Nat.le_of_ble_eq_true rfl) (Nat.le_of_ble_eq_true rfl) (Nat.le_of_ble_eq_true rfl) (Nat.le_of_ble_eq_true rfl) (Nat.le_of_ble_eq_true rfl)
def y_FB_checkYear : MethodName := ⟨"FeastBook", "checkYear", "(I)V"⟩
theorem d_FB_checkYear_0 : decode prog_1_method_46_code 0 = .ok (.aload_n 0, 1) := by decide +kernel
theorem d_FB_checkYear_1 : decode prog_1_method_46_code 1 = .ok (.getfield 28, 3) := by decide +kernel
theorem d_FB_checkYear_4 : decode prog_1_method_46_code 4 = .ok (.getfield 375, 3) := by decide +kernel
theorem d_FB_checkYear_7 : decode prog_1_method_46_code 7 = .ok (.ifCond .eq 14, 3) := by decide +kernel
theorem d_FB_checkYear_10 : decode prog_1_method_46_code 10 = .ok (.iload_n 1, 1) := by decide +kernel
theorem d_FB_checkYear_11 : decode prog_1_method_46_code 11 = .ok (.ifCond .lt 10, 3) := by decide +kernel
theorem d_FB_checkYear_14 : decode prog_1_method_46_code 14 = .ok (.iload_n 1, 1) := by decide +kernel
theorem d_FB_checkYear_15 : decode prog_1_method_46_code 15 = .ok (.sipush 9999, 3) := by decide +kernel
theorem d_FB_checkYear_18 : decode prog_1_method_46_code 18 = .ok (.if_icmp .le 14, 3) := by decide +kernel
theorem d_FB_checkYear_21 : decode prog_1_method_46_code 21 = .ok (.new 380, 3) := by decide +kernel
theorem d_FB_checkYear_24 : decode prog_1_method_46_code 24 = .ok (.dup, 1) := by decide +kernel
theorem d_FB_checkYear_25 : decode prog_1_method_46_code 25 = .ok (.ldc_w 382, 3) := by decide +kernel
theorem d_FB_checkYear_28 : decode prog_1_method_46_code 28 = .ok (.invokespecial 384, 3) := by decide +kernel
theorem d_FB_checkYear_31 : decode prog_1_method_46_code 31 = .ok (.athrow, 1) := by decide +kernel
theorem d_FB_checkYear_32 : decode prog_1_method_46_code 32 = .ok (.return_, 1) := by decide +kernel
theorem fk_FB_375 : Cond.fieldLink "FeastBook" 375 (T_Book 0).1 (T_Book 0).2.1 (T_Book 0).2.2.1 ∈ TT := mT1 154 (by decide +kernel) (by decide +kernel)
set_option maxHeartbeats 4000000 in
set_option maxRecDepth 100000 in
theorem c_FB_checkYear {l : Launch} {D : va_G} {ad : Nat → Nat} {cA : Nat → ClassId} {sd sv : Nat → Nat} {h : Hp} {a1 : Int} {out : XO} (hI : Inj97 ad) (hst : l.stackTraces = false) (hM : M_FB_checkYear h a1 = some out) : vx_Met l y_FB_checkYear (.code y_FB_checkYear prog_1_method_46_code 2 none :: TT) (rmX 10 1 6) (PC D ad cA sd sv h [.ref (ad 0), .int (iZ a1)]) (QXV D ad cA out) (XT D ad cA out) 1 6 (FA ad) := by
  unfold M_FB_checkYear at hM
  refine entX (by decide +kernel) hI (Nat.le_of_ble_eq_true rfl) ?_
  intro p e s m args below meth c C hr hlk hnt hP ls hl
  have C : Cx p s m args c prog_1_method_46_code 2 "FeastBook" D ad cA sd sv (FA ad) := C
  have hl : lv_has ls 2 [(0, .ref (ad 0)), (1, .int (iZ a1))] := hl
  have w : Wd s D ad cA (FA ad) h s.heap [] := ⟨hP, va_S.rf⟩
  refine m_aload_n C hl 0 d_FB_checkYear_0 rfl rfl ?_
  refine m_getr C w.1 kc_FB sh_0 (Nat.le_of_ble_eq_true rfl) 2 23 rfl (by decide) fk_FB_28 d_FB_checkYear_1 ?_
  refine m_geti C w.1 kc_Book sh_23 (Nat.le_of_ble_eq_true rfl) 0 rfl (by decide) fk_FB_375 d_FB_checkYear_4 ?_
  refine m_if_eq C hM 21 d_FB_checkYear_7 (by decide) (fun hM => ?_) (fun hM => ?_)
  · exact m_thrW (Qc := QXV D ad cA) (t := 37) hst C w hnt hl.1 hlk thw_1 (by decide) rfl (by decide) hM d_FB_checkYear_21 d_FB_checkYear_24 d_FB_checkYear_25 d_FB_checkYear_28 d_FB_checkYear_31 (Nat.le_of_ble_eq_true rfl) (Nat.le_of_ble_eq_true rfl) (Nat.le_of_ble_eq_true rfl) (Nat.le_of_ble_eq_true rfl) (Nat.le_of_ble_eq_true rfl) (Nat.le_of_ble_eq_true rfl)
  · refine m_iload_n C hl 1 d_FB_checkYear_10 rfl rfl ?_
    refine m_if_lt C hM 21 d_FB_checkYear_11 (by decide) (fun hM => ?_) (fun hM => ?_)
    · exact m_thrW (Qc := QXV D ad cA) (t := 37) hst C w hnt hl.1 hlk thw_1 (by decide) rfl (by decide) hM d_FB_checkYear_21 d_FB_checkYear_24 d_FB_checkYear_25 d_FB_checkYear_28 d_FB_checkYear_31 (Nat.le_of_ble_eq_true rfl) (Nat.le_of_ble_eq_true rfl) (Nat.le_of_ble_eq_true rfl) (Nat.le_of_ble_eq_true rfl) (Nat.le_of_ble_eq_true rfl) (Nat.le_of_ble_eq_true rfl)
    · refine m_iload_n C hl 1 d_FB_checkYear_14 rfl rfl ?_
      refine m_sipush C d_FB_checkYear_15 (by decide) ?_
      refine m_icmp_le C hM 32 d_FB_checkYear_18 (by decide) (fun hM => ?_) (fun hM => ?_)
      · exact m_vretX C w hr hlk hM (Nat.le_of_ble_eq_true rfl) (Nat.le_of_ble_eq_true rfl) d_FB_checkYear_32
      · exact m_thrW (Qc := QXV D ad cA) (t := 37) hst C w hnt hl.1 hlk thw_1 (by decide) rfl (by decide) hM d_FB_checkYear_21 d_FB_checkYear_24 d_FB_checkYear_25 d_FB_checkYear_28 d_FB_checkYear_31 (Nat.le_of_ble_eq_true rfl) (Nat.le_of_ble_eq_true rfl) (Nat.le_of_ble_eq_true rfl) (Nat.le_of_ble_eq_true rfl) (Nat.le_of_ble_eq_true rfl) (Nat.le_of_ble_eq_true rfl)
def y_FB_checkWhat : MethodName := ⟨"FeastBook", "checkWhat", "(II)V"⟩
theorem d_FB_checkWhat_0 : decode prog_1_method_50_code 0 = .ok (.iload_n 0, 1) := by decide +kernel
theorem d_FB_checkWhat_1 : decode prog_1_method_50_code 1 = .ok (.ifCond .lt 8, 3) := by decide +kernel
theorem d_FB_checkWhat_4 : decode prog_1_method_50_code 4 = .ok (.iload_n 0, 1) := by decide +kernel
theorem d_FB_checkWhat_5 : decode prog_1_method_50_code 5 = .ok (.iload_n 1, 1) := by decide +kernel
theorem d_FB_checkWhat_6 : decode prog_1_method_50_code 6 = .ok (.if_icmp .le 14, 3) := by decide +kernel
theorem d_FB_checkWhat_9 : decode prog_1_method_50_code 9 = .ok (.new 391, 3) := by decide +kernel
theorem d_FB_checkWhat_12 : decode prog_1_method_50_code 12 = .ok (.dup, 1) := by decide +kernel
theorem d_FB_checkWhat_13 : decode prog_1_method_50_code 13 = .ok (.ldc_w 393, 3) := by decide +kernel
theorem d_FB_checkWhat_16 : decode prog_1_method_50_code 16 = .ok (.invokespecial 395, 3) := by decide +kernel
theorem d_FB_checkWhat_19 : decode prog_1_method_50_code 19 = .ok (.athrow, 1) := by decide +kernel
theorem d_FB_checkWhat_20 : decode prog_1_method_50_code 20 = .ok (.return_, 1) := by decide +kernel
set_option maxHeartbeats 4000000 in
set_option maxRecDepth 100000 in
theorem c_FB_checkWhat {l : Launch} {D : va_G} {ad : Nat → Nat} {cA : Nat → ClassId} {sd sv : Nat → Nat} {h : Hp} {a0 a1 : Int} {out : XO} (hI : Inj97 ad) (hst : l.stackTraces = false) (hM : M_FB_checkWhat h a0 a1 = some out) : vx_Met l y_FB_checkWhat (.code y_FB_checkWhat prog_1_method_50_code 2 none :: TT) (rmX 10 1 6) (PC D ad cA sd sv h [.int (iZ a0), .int (iZ a1)]) (QXV D ad cA out) (XT D ad cA out) 1 6 (FA ad) := by
  unfold M_FB_checkWhat at hM
  refine entX (by decide +kernel) hI (Nat.le_of_ble_eq_true rfl) ?_
  intro p e s m args below meth c C hr hlk hnt hP ls hl
  have C : Cx p s m args c prog_1_method_50_code 2 "FeastBook" D ad cA sd sv (FA ad) := C
  have hl : lv_has ls 2 [(0, .int (iZ a0)), (1, .int (iZ a1))] := hl
  have w : Wd s D ad cA (FA ad) h s.heap [] := ⟨hP, va_S.rf⟩
  refine m_iload_n C hl 0 d_FB_checkWhat_0 rfl rfl ?_
  refine m_if_lt C hM 9 d_FB_checkWhat_1 (by decide) (fun hM => ?_) (fun hM => ?_)
  · exact m_thrN (Qc := QXV D ad cA) (t := 38) hst C w hnt hl.1 hlk (by decide) rfl hM d_FB_checkWhat_9 d_FB_checkWhat_12 d_FB_checkWhat_13 d_FB_checkWhat_16 d_FB_checkWhat_19 (Nat.le_of_ble_eq_true rfl) (Nat.le_of_ble_eq_true rfl) (Nat.le_of_ble_eq_true rfl) (Nat.le_of_ble_eq_true rfl) (Nat.le_of_ble_eq_true rfl) (Nat.le_of_ble_eq_true rfl)
  · refine m_iload_n C hl 0 d_FB_checkWhat_4 rfl rfl ?_
    refine m_iload_n C hl 1 d_FB_checkWhat_5 rfl rfl ?_
    refine m_icmp_le C hM 20 d_FB_checkWhat_6 (by decide) (fun hM => ?_) (fun hM => ?_)
    · exact m_vretX C w hr hlk hM (Nat.le_of_ble_eq_true rfl) (Nat.le_of_ble_eq_true rfl) d_FB_checkWhat_20
    · exact m_thrN (Qc := QXV D ad cA) (t := 38) hst C w hnt hl.1 hlk (by decide) rfl hM d_FB_checkWhat_9 d_FB_checkWhat_12 d_FB_checkWhat_13 d_FB_checkWhat_16 d_FB_checkWhat_19 (Nat.le_of_ble_eq_true rfl) (Nat.le_of_ble_eq_true rfl) (Nat.le_of_ble_eq_true rfl) (Nat.le_of_ble_eq_true rfl) (Nat.le_of_ble_eq_true rfl) (Nat.le_of_ble_eq_true rfl)
def y_FB_year : MethodName := ⟨"FeastBook", "year", "(II)I"⟩
theorem d_FB_year_0 : decode prog_1_method_6_code 0 = .ok (.aload_n 0, 1) := by decide +kernel
theorem d_FB_year_1 : decode prog_1_method_6_code 1 = .ok (.iload_n 1, 1) := by decide +kernel
theorem d_FB_year_2 : decode prog_1_method_6_code 2 = .ok (.invokevirtual 103, 3) := by decide +kernel
theorem d_FB_year_5 : decode prog_1_method_6_code 5 = .ok (.iload_n 2, 1) := by decide +kernel
theorem d_FB_year_6 : decode prog_1_method_6_code 6 = .ok (.bipush 10, 2) := by decide +kernel
theorem d_FB_year_8 : decode prog_1_method_6_code 8 = .ok (.invokestatic 106, 3) := by decide +kernel
theorem d_FB_year_11 : decode prog_1_method_6_code 11 = .ok (.iload_n 2, 1) := by decide +kernel
theorem d_FB_year_12 : decode prog_1_method_6_code 12 = .ok (.tableswitch 97 0 6 #[44, 53, 62, 71, 97, 97, 80], 44) := by decide +kernel
theorem d_FB_year_56 : decode prog_1_method_6_code 56 = .ok (.aload_n 0, 1) := by decide +kernel
theorem d_FB_year_57 : decode prog_1_method_6_code 57 = .ok (.getfield 28, 3) := by decide +kernel
theorem d_FB_year_60 : decode prog_1_method_6_code 60 = .ok (.iload_n 1, 1) := by decide +kernel
theorem d_FB_year_61 : decode prog_1_method_6_code 61 = .ok (.invokevirtual 110, 3) := by decide +kernel
theorem d_FB_year_64 : decode prog_1_method_6_code 64 = .ok (.ireturn, 1) := by decide +kernel
theorem d_FB_year_65 : decode prog_1_method_6_code 65 = .ok (.aload_n 0, 1) := by decide +kernel
theorem d_FB_year_66 : decode prog_1_method_6_code 66 = .ok (.getfield 28, 3) := by decide +kernel
theorem d_FB_year_69 : decode prog_1_method_6_code 69 = .ok (.iload_n 1, 1) := by decide +kernel
theorem d_FB_year_70 : decode prog_1_method_6_code 70 = .ok (.invokevirtual 114, 3) := by decide +kernel
theorem d_FB_year_73 : decode prog_1_method_6_code 73 = .ok (.ireturn, 1) := by decide +kernel
theorem d_FB_year_74 : decode prog_1_method_6_code 74 = .ok (.aload_n 0, 1) := by decide +kernel
theorem d_FB_year_75 : decode prog_1_method_6_code 75 = .ok (.getfield 28, 3) := by decide +kernel
theorem d_FB_year_78 : decode prog_1_method_6_code 78 = .ok (.iload_n 1, 1) := by decide +kernel
theorem d_FB_year_79 : decode prog_1_method_6_code 79 = .ok (.invokevirtual 117, 3) := by decide +kernel
theorem d_FB_year_82 : decode prog_1_method_6_code 82 = .ok (.ireturn, 1) := by decide +kernel
theorem d_FB_year_83 : decode prog_1_method_6_code 83 = .ok (.aload_n 0, 1) := by decide +kernel
theorem d_FB_year_84 : decode prog_1_method_6_code 84 = .ok (.getfield 28, 3) := by decide +kernel
theorem d_FB_year_87 : decode prog_1_method_6_code 87 = .ok (.iload_n 1, 1) := by decide +kernel
theorem d_FB_year_88 : decode prog_1_method_6_code 88 = .ok (.invokevirtual 120, 3) := by decide +kernel
theorem d_FB_year_91 : decode prog_1_method_6_code 91 = .ok (.ireturn, 1) := by decide +kernel
theorem d_FB_year_92 : decode prog_1_method_6_code 92 = .ok (.aload_n 0, 1) := by decide +kernel
theorem d_FB_year_93 : decode prog_1_method_6_code 93 = .ok (.getfield 28, 3) := by decide +kernel
theorem d_FB_year_96 : decode prog_1_method_6_code 96 = .ok (.iload_n 1, 1) := by decide +kernel
theorem d_FB_year_97 : decode prog_1_method_6_code 97 = .ok (.invokevirtual 123, 3) := by decide +kernel
theorem d_FB_year_100 : decode prog_1_method_6_code 100 = .ok (.ifCond .eq 7, 3) := by decide +kernel
theorem d_FB_year_103 : decode prog_1_method_6_code 103 = .ok (.iconst 1, 1) := by decide +kernel
theorem d_FB_year_104 : decode prog_1_method_6_code 104 = .ok (.goto 4, 3) := by decide +kernel
theorem d_FB_year_107 : decode prog_1_method_6_code 107 = .ok (.iconst 0, 1) := by decide +kernel
theorem d_FB_year_108 : decode prog_1_method_6_code 108 = .ok (.ireturn, 1) := by decide +kernel
theorem d_FB_year_109 : decode prog_1_method_6_code 109 = .ok (.aload_n 0, 1) := by decide +kernel
theorem d_FB_year_110 : decode prog_1_method_6_code 110 = .ok (.iload_n 1, 1) := by decide +kernel
theorem d_FB_year_111 : decode prog_1_method_6_code 111 = .ok (.invokevirtual 127, 3) := by decide +kernel
theorem d_FB_year_114 : decode prog_1_method_6_code 114 = .ok (.iload_n 2, 1) := by decide +kernel
theorem d_FB_year_115 : decode prog_1_method_6_code 115 = .ok (.invokevirtual 131, 3) := by decide +kernel
theorem d_FB_year_118 : decode prog_1_method_6_code 118 = .ok (.ireturn, 1) := by decide +kernel
theorem mb_Book_daysOf : MBv R_Book y_Book_daysOf prog_2_method_7_code 2 (some .int) 1 := ⟨mT4 147 (by decide +kernel) (by decide +kernel), mT4 148 (by decide +kernel) (by decide +kernel), mT1 4 (by decide +kernel) (by decide +kernel), mT4 149 (by decide +kernel) (by decide +kernel), by decide, rfl, by decide +kernel, by decide +kernel, by decide +kernel⟩
theorem mb_YearPlan_measure : MBv R_YearPlan y_YearPlan_measure prog_11_method_22_code 2 (some .int) 1 := ⟨mT6 41 (by decide +kernel) (by decide +kernel), mT6 42 (by decide +kernel) (by decide +kernel), mT1 8 (by decide +kernel) (by decide +kernel), mT6 43 (by decide +kernel) (by decide +kernel), by decide, rfl, by decide +kernel, by decide +kernel, by decide +kernel⟩
theorem mb_FB_checkWhat : MBs y_FB_checkWhat prog_1_method_50_code 2 none 2 := ⟨mT4 128 (by decide +kernel) (by decide +kernel), mT1 1 (by decide +kernel) (by decide +kernel), mT4 129 (by decide +kernel) (by decide +kernel), by decide, by decide +kernel, by decide +kernel, by decide +kernel⟩
theorem mb_FB_checkYear : MBv R_FB y_FB_checkYear prog_1_method_46_code 2 none 1 := ⟨mT4 109 (by decide +kernel) (by decide +kernel), mTs 2 (by decide +kernel) (by decide +kernel), mT1 1 (by decide +kernel) (by decide +kernel), mT4 110 (by decide +kernel) (by decide +kernel), by decide, rfl, by decide +kernel, by decide +kernel, by decide +kernel⟩
theorem mb_FB_settledYear : MBv R_FB y_FB_settledYear prog_1_method_52_code 2 (some (.object "FeastBook$YearPlan")) 1 := ⟨mT4 156 (by decide +kernel) (by decide +kernel), mTs 3 (by decide +kernel) (by decide +kernel), mT1 1 (by decide +kernel) (by decide +kernel), mT4 157 (by decide +kernel) (by decide +kernel), by decide, rfl, by decide +kernel, by decide +kernel, by decide +kernel⟩
theorem lk_FB_103 : Cond.methodLink "FeastBook" 103 y_FB_checkYear ∈ TT := mT4 107 (by decide +kernel) (by decide +kernel)
theorem lk_FB_106 : Cond.methodLink "FeastBook" 106 y_FB_checkWhat ∈ TT := mT4 127 (by decide +kernel) (by decide +kernel)
theorem lk_FB_110 : Cond.methodLink "FeastBook" 110 y_Book_daysOf ∈ TT := mT4 146 (by decide +kernel) (by decide +kernel)
theorem lk_FB_114 : Cond.methodLink "FeastBook" 114 y_Book_firstWeekday ∈ TT := mT4 150 (by decide +kernel) (by decide +kernel)
theorem lk_FB_117 : Cond.methodLink "FeastBook" 117 y_Book_fullOf ∈ TT := mT4 151 (by decide +kernel) (by decide +kernel)
theorem lk_FB_120 : Cond.methodLink "FeastBook" 120 y_Book_paschOf ∈ TT := mT4 152 (by decide +kernel) (by decide +kernel)
theorem lk_FB_123 : Cond.methodLink "FeastBook" 123 y_Book_isLeap ∈ TT := mT4 153 (by decide +kernel) (by decide +kernel)
theorem lk_FB_127 : Cond.methodLink "FeastBook" 127 y_FB_settledYear ∈ TT := mT4 154 (by decide +kernel) (by decide +kernel)
theorem lk_FB_131 : Cond.methodLink "FeastBook" 131 y_YearPlan_measure ∈ TT := mT6 40 (by decide +kernel) (by decide +kernel)
set_option maxHeartbeats 4000000 in
set_option maxRecDepth 100000 in
theorem c_FB_year {l : Launch} {D : va_G} {ad : Nat → Nat} {cA : Nat → ClassId} {sd sv : Nat → Nat} {h : Hp} {N : Nat} {a1 a2 : Int} {out : XO} (hI : Inj97 ad) (hst : l.stackTraces = false) (hM : M_FB_year N h a1 a2 = some out) : vx_Met l y_FB_year (.code y_FB_year prog_1_method_6_code 3 (some .int) :: TT) (rmX 11 2 12) (PC D ad cA sd sv h [.ref (ad 0), .int (iZ a1), .int (iZ a2)]) (QX D ad cA out) (XT D ad cA out) 2 12 (FA ad) := by
  unfold M_FB_year at hM
  refine entX (by decide +kernel) hI (Nat.le_of_ble_eq_true rfl) ?_
  intro p e s m args below meth c C hr hlk hnt hP ls hl
  have C : Cx p s m args c prog_1_method_6_code 3 "FeastBook" D ad cA sd sv (FA ad) := C
  have hl : lv_has ls 3 [(0, .ref (ad 0)), (1, .int (iZ a1)), (2, .int (iZ a2))] := hl
  have w : Wd s D ad cA (FA ad) h s.heap [] := ⟨hP, va_S.rf⟩
  refine m_aload_n C hl 0 d_FB_year_0 rfl rfl ?_
  refine m_iload_n C hl 1 d_FB_year_1 rfl rfl ?_
  refine m_xcall (Qc := QX D ad cA) C w hnt hlk hM (fun q e1 => runVX C w.1 w.2 kc_FB sh_0 (Nat.le_of_ble_eq_true rfl) (c_FB_checkYear hI hst  e1) lk_FB_103 mb_FB_checkYear rfl ⟨Nat.le_of_ble_eq_true rfl, Nat.le_of_ble_eq_true rfl⟩ ⟨Nat.le_of_ble_eq_true rfl, Nat.le_of_ble_eq_true rfl⟩ (Nat.le_of_ble_eq_true rfl) d_FB_year_2 hl.1 (rest := []) rfl) (Nat.le_of_ble_eq_true rfl) (Nat.le_of_ble_eq_true rfl) (fun _ h2 H locs w hM => ?_)
  refine m_iload_n C hl 2 d_FB_year_5 rfl rfl ?_
  refine m_bipush C d_FB_year_6 (by decide) ?_
  refine m_xcall (Qc := QX D ad cA) C w hnt hlk hM (fun q e3 => runSX C w.1 w.2 (c_FB_checkWhat hI hst  e3) lk_FB_106 mb_FB_checkWhat rfl ⟨Nat.le_of_ble_eq_true rfl, Nat.le_of_ble_eq_true rfl⟩ ⟨Nat.le_of_ble_eq_true rfl, Nat.le_of_ble_eq_true rfl⟩ (Nat.le_of_ble_eq_true rfl) d_FB_year_8 hl.1 (rest := []) rfl) (Nat.le_of_ble_eq_true rfl) (Nat.le_of_ble_eq_true rfl) (fun _ h4 H locs w hM => ?_)
  refine m_iload_n C hl 2 d_FB_year_11 rfl rfl ?_
  refine m_swc 0 hM (fun ek hM => ?_) (fun hn0 hM => ?_)
  · refine lv_tableIn C.1 C.2.1 d_FB_year_12 (tgt := 56) (off := 44) (by rw [ek]; decide) (by rw [ek]; decide) (by rw [ek]; rfl) (by decide) ?_
    refine m_aload_n C hl 0 d_FB_year_56 rfl rfl ?_
    refine m_getr C w.1 kc_FB sh_0 (Nat.le_of_ble_eq_true rfl) 2 23 rfl (by decide) fk_FB_28 d_FB_year_57 ?_
    refine m_iload_n C hl 1 d_FB_year_60 rfl rfl ?_
    obtain ⟨x6, e5, hM⟩ := bnd_some hM
    refine aftR (runV C w.1 w.2 kc_Book sh_23 (Nat.le_of_ble_eq_true rfl) (c_Book_daysOf hI (Or.inr (Or.inl rfl)) e5) lk_FB_110 mb_Book_daysOf rfl ⟨Nat.le_of_ble_eq_true rfl, Nat.le_of_ble_eq_true rfl⟩ ⟨Nat.le_of_ble_eq_true rfl, Nat.le_of_ble_eq_true rfl⟩ (Nat.le_of_ble_eq_true rfl) d_FB_year_61 hl.1 (rest := []) rfl) ?_
    exact m_iretX C w hr hlk hM (Nat.le_of_ble_eq_true rfl) (Nat.le_of_ble_eq_true rfl) d_FB_year_64
  · refine m_swc 1 hM (fun ek hM => ?_) (fun hn1 hM => ?_)
    · refine lv_tableIn C.1 C.2.1 d_FB_year_12 (tgt := 65) (off := 53) (by rw [ek]; decide) (by rw [ek]; decide) (by rw [ek]; rfl) (by decide) ?_
      refine m_aload_n C hl 0 d_FB_year_65 rfl rfl ?_
      refine m_getr C w.1 kc_FB sh_0 (Nat.le_of_ble_eq_true rfl) 2 23 rfl (by decide) fk_FB_28 d_FB_year_66 ?_
      refine m_iload_n C hl 1 d_FB_year_69 rfl rfl ?_
      obtain ⟨x8, e7, hM⟩ := bnd_some hM
      refine aftR (runV C w.1 w.2 kc_Book sh_23 (Nat.le_of_ble_eq_true rfl) (c_Book_firstWeekday hI (Or.inr (Or.inl rfl)) e7) lk_FB_114 mb_Book_firstWeekday rfl ⟨Nat.le_of_ble_eq_true rfl, Nat.le_of_ble_eq_true rfl⟩ ⟨Nat.le_of_ble_eq_true rfl, Nat.le_of_ble_eq_true rfl⟩ (Nat.le_of_ble_eq_true rfl) d_FB_year_70 hl.1 (rest := []) rfl) ?_
      exact m_iretX C w hr hlk hM (Nat.le_of_ble_eq_true rfl) (Nat.le_of_ble_eq_true rfl) d_FB_year_73
    · refine m_swc 2 hM (fun ek hM => ?_) (fun hn2 hM => ?_)
      · refine lv_tableIn C.1 C.2.1 d_FB_year_12 (tgt := 74) (off := 62) (by rw [ek]; decide) (by rw [ek]; decide) (by rw [ek]; rfl) (by decide) ?_
        refine m_aload_n C hl 0 d_FB_year_74 rfl rfl ?_
        refine m_getr C w.1 kc_FB sh_0 (Nat.le_of_ble_eq_true rfl) 2 23 rfl (by decide) fk_FB_28 d_FB_year_75 ?_
        refine m_iload_n C hl 1 d_FB_year_78 rfl rfl ?_
        obtain ⟨x10, e9, hM⟩ := bnd_some hM
        refine aftR (runV C w.1 w.2 kc_Book sh_23 (Nat.le_of_ble_eq_true rfl) (c_Book_fullOf hI (Or.inr (Or.inl rfl)) e9) lk_FB_117 mb_Book_fullOf rfl ⟨Nat.le_of_ble_eq_true rfl, Nat.le_of_ble_eq_true rfl⟩ ⟨Nat.le_of_ble_eq_true rfl, Nat.le_of_ble_eq_true rfl⟩ (Nat.le_of_ble_eq_true rfl) d_FB_year_79 hl.1 (rest := []) rfl) ?_
        exact m_iretX C w hr hlk hM (Nat.le_of_ble_eq_true rfl) (Nat.le_of_ble_eq_true rfl) d_FB_year_82
      · refine m_swc 3 hM (fun ek hM => ?_) (fun hn3 hM => ?_)
        · refine lv_tableIn C.1 C.2.1 d_FB_year_12 (tgt := 83) (off := 71) (by rw [ek]; decide) (by rw [ek]; decide) (by rw [ek]; rfl) (by decide) ?_
          refine m_aload_n C hl 0 d_FB_year_83 rfl rfl ?_
          refine m_getr C w.1 kc_FB sh_0 (Nat.le_of_ble_eq_true rfl) 2 23 rfl (by decide) fk_FB_28 d_FB_year_84 ?_
          refine m_iload_n C hl 1 d_FB_year_87 rfl rfl ?_
          obtain ⟨x12, e11, hM⟩ := bnd_some hM
          refine aftR (runV C w.1 w.2 kc_Book sh_23 (Nat.le_of_ble_eq_true rfl) (c_Book_paschOf hI (Or.inr (Or.inl rfl)) e11) lk_FB_120 mb_Book_paschOf rfl ⟨Nat.le_of_ble_eq_true rfl, Nat.le_of_ble_eq_true rfl⟩ ⟨Nat.le_of_ble_eq_true rfl, Nat.le_of_ble_eq_true rfl⟩ (Nat.le_of_ble_eq_true rfl) d_FB_year_88 hl.1 (rest := []) rfl) ?_
          exact m_iretX C w hr hlk hM (Nat.le_of_ble_eq_true rfl) (Nat.le_of_ble_eq_true rfl) d_FB_year_91
        · refine m_swc 4 hM (fun ek hM => ?_) (fun hn4 hM => ?_)
          · refine lv_tableIn C.1 C.2.1 d_FB_year_12 (tgt := 109) (off := 97) (by rw [ek]; decide) (by rw [ek]; decide) (by rw [ek]; rfl) (by decide) ?_
            refine m_aload_n C hl 0 d_FB_year_109 rfl rfl ?_
            refine m_iload_n C hl 1 d_FB_year_110 rfl rfl ?_
            obtain ⟨h14, e13, hM⟩ := bnd_some hM
            refine aftN C w (runV C w.1 w.2 kc_FB sh_0 (Nat.le_of_ble_eq_true rfl) (c_FB_settledYear hI e13) lk_FB_127 mb_FB_settledYear rfl ⟨Nat.le_of_ble_eq_true rfl, Nat.le_of_ble_eq_true rfl⟩ ⟨Nat.le_of_ble_eq_true rfl, Nat.le_of_ble_eq_true rfl⟩ (Nat.le_of_ble_eq_true rfl) d_FB_year_111 hl.1 (rest := []) rfl) (fun H locs w => ?_)
            refine m_iload_n C hl 2 d_FB_year_114 rfl rfl ?_
            obtain ⟨x16, e15, hM⟩ := bnd_some hM
            refine aftR (runV C w.1 w.2 kc_YearPlan sh_66 (Nat.le_of_ble_eq_true rfl) (c_YearPlan_measure hI e15) lk_FB_131 mb_YearPlan_measure rfl ⟨Nat.le_of_ble_eq_true rfl, Nat.le_of_ble_eq_true rfl⟩ ⟨Nat.le_of_ble_eq_true rfl, Nat.le_of_ble_eq_true rfl⟩ (Nat.le_of_ble_eq_true rfl) d_FB_year_115 hl.1 (rest := []) rfl) ?_
            exact m_iretX C w hr hlk hM (Nat.le_of_ble_eq_true rfl) (Nat.le_of_ble_eq_true rfl) d_FB_year_118
          · refine m_swc 5 hM (fun ek hM => ?_) (fun hn5 hM => ?_)
            · refine lv_tableIn C.1 C.2.1 d_FB_year_12 (tgt := 109) (off := 97) (by rw [ek]; decide) (by rw [ek]; decide) (by rw [ek]; rfl) (by decide) ?_
              refine m_aload_n C hl 0 d_FB_year_109 rfl rfl ?_
              refine m_iload_n C hl 1 d_FB_year_110 rfl rfl ?_
              obtain ⟨h18, e17, hM⟩ := bnd_some hM
              refine aftN C w (runV C w.1 w.2 kc_FB sh_0 (Nat.le_of_ble_eq_true rfl) (c_FB_settledYear hI e17) lk_FB_127 mb_FB_settledYear rfl ⟨Nat.le_of_ble_eq_true rfl, Nat.le_of_ble_eq_true rfl⟩ ⟨Nat.le_of_ble_eq_true rfl, Nat.le_of_ble_eq_true rfl⟩ (Nat.le_of_ble_eq_true rfl) d_FB_year_111 hl.1 (rest := []) rfl) (fun H locs w => ?_)
              refine m_iload_n C hl 2 d_FB_year_114 rfl rfl ?_
              obtain ⟨x20, e19, hM⟩ := bnd_some hM
              refine aftR (runV C w.1 w.2 kc_YearPlan sh_66 (Nat.le_of_ble_eq_true rfl) (c_YearPlan_measure hI e19) lk_FB_131 mb_YearPlan_measure rfl ⟨Nat.le_of_ble_eq_true rfl, Nat.le_of_ble_eq_true rfl⟩ ⟨Nat.le_of_ble_eq_true rfl, Nat.le_of_ble_eq_true rfl⟩ (Nat.le_of_ble_eq_true rfl) d_FB_year_115 hl.1 (rest := []) rfl) ?_
              exact m_iretX C w hr hlk hM (Nat.le_of_ble_eq_true rfl) (Nat.le_of_ble_eq_true rfl) d_FB_year_118
            · refine m_swc 6 hM (fun ek hM => ?_) (fun hn6 hM => ?_)
              · refine lv_tableIn C.1 C.2.1 d_FB_year_12 (tgt := 92) (off := 80) (by rw [ek]; decide) (by rw [ek]; decide) (by rw [ek]; rfl) (by decide) ?_
                refine m_aload_n C hl 0 d_FB_year_92 rfl rfl ?_
                refine m_getr C w.1 kc_FB sh_0 (Nat.le_of_ble_eq_true rfl) 2 23 rfl (by decide) fk_FB_28 d_FB_year_93 ?_
                refine m_iload_n C hl 1 d_FB_year_96 rfl rfl ?_
                obtain ⟨x22, e21, hM⟩ := bnd_some hM
                refine aftR (runV C w.1 w.2 kc_Book sh_23 (Nat.le_of_ble_eq_true rfl) (c_Book_isLeap hI (Or.inr (Or.inl rfl)) e21) lk_FB_123 mb_Book_isLeap rfl ⟨Nat.le_of_ble_eq_true rfl, Nat.le_of_ble_eq_true rfl⟩ ⟨Nat.le_of_ble_eq_true rfl, Nat.le_of_ble_eq_true rfl⟩ (Nat.le_of_ble_eq_true rfl) d_FB_year_97 hl.1 (rest := []) rfl) ?_
                refine m_if_eq C hM 107 d_FB_year_100 (by decide) (fun hM => ?_) (fun hM => ?_)
                · refine m_iconst C d_FB_year_107 ?_
                  exact m_iretX C w hr hlk hM (Nat.le_of_ble_eq_true rfl) (Nat.le_of_ble_eq_true rfl) d_FB_year_108
                · refine m_iconst C d_FB_year_103 ?_
                  refine m_goto C 108 d_FB_year_104 (by decide) ?_
                  exact m_iretX C w hr hlk hM (Nat.le_of_ble_eq_true rfl) (Nat.le_of_ble_eq_true rfl) d_FB_year_108
              · refine lv_tableOut C.1 C.2.1 d_FB_year_12 (tgt := 109) ?_ (by decide) ?_
                · have g0 := lv_neT hn0 (show (iZ 0).toInt = 0 from rfl); have g1 := lv_neT hn1 (show (iZ 1).toInt = 1 from rfl); have g2 := lv_neT hn2 (show (iZ 2).toInt = 2 from rfl); have g3 := lv_neT hn3 (show (iZ 3).toInt = 3 from rfl); have g4 := lv_neT hn4 (show (iZ 4).toInt = 4 from rfl); have g5 := lv_neT hn5 (show (iZ 5).toInt = 5 from rfl); have g6 := lv_neT hn6 (show (iZ 6).toInt = 6 from rfl); omega
                · refine m_aload_n C hl 0 d_FB_year_109 rfl rfl ?_
                  refine m_iload_n C hl 1 d_FB_year_110 rfl rfl ?_
                  obtain ⟨h24, e23, hM⟩ := bnd_some hM
                  refine aftN C w (runV C w.1 w.2 kc_FB sh_0 (Nat.le_of_ble_eq_true rfl) (c_FB_settledYear hI e23) lk_FB_127 mb_FB_settledYear rfl ⟨Nat.le_of_ble_eq_true rfl, Nat.le_of_ble_eq_true rfl⟩ ⟨Nat.le_of_ble_eq_true rfl, Nat.le_of_ble_eq_true rfl⟩ (Nat.le_of_ble_eq_true rfl) d_FB_year_111 hl.1 (rest := []) rfl) (fun H locs w => ?_)
                  refine m_iload_n C hl 2 d_FB_year_114 rfl rfl ?_
                  obtain ⟨x26, e25, hM⟩ := bnd_some hM
                  refine aftR (runV C w.1 w.2 kc_YearPlan sh_66 (Nat.le_of_ble_eq_true rfl) (c_YearPlan_measure hI e25) lk_FB_131 mb_YearPlan_measure rfl ⟨Nat.le_of_ble_eq_true rfl, Nat.le_of_ble_eq_true rfl⟩ ⟨Nat.le_of_ble_eq_true rfl, Nat.le_of_ble_eq_true rfl⟩ (Nat.le_of_ble_eq_true rfl) d_FB_year_115 hl.1 (rest := []) rfl) ?_
                  exact m_iretX C w hr hlk hM (Nat.le_of_ble_eq_true rfl) (Nat.le_of_ble_eq_true rfl) d_FB_year_118
def y_FB_checkDay : MethodName := ⟨"FeastBook", "checkDay", "(II)V"⟩
theorem d_FB_checkDay_0 : decode prog_1_method_47_code 0 = .ok (.aload_n 0, 1) := by decide +kernel
theorem d_FB_checkDay_1 : decode prog_1_method_47_code 1 = .ok (.iload_n 1, 1) := by decide +kernel
theorem d_FB_checkDay_2 : decode prog_1_method_47_code 2 = .ok (.invokevirtual 103, 3) := by decide +kernel
theorem d_FB_checkDay_5 : decode prog_1_method_47_code 5 = .ok (.iload_n 2, 1) := by decide +kernel
theorem d_FB_checkDay_6 : decode prog_1_method_47_code 6 = .ok (.ifCond .lt 15, 3) := by decide +kernel
theorem d_FB_checkDay_9 : decode prog_1_method_47_code 9 = .ok (.iload_n 2, 1) := by decide +kernel
theorem d_FB_checkDay_10 : decode prog_1_method_47_code 10 = .ok (.aload_n 0, 1) := by decide +kernel
theorem d_FB_checkDay_11 : decode prog_1_method_47_code 11 = .ok (.getfield 28, 3) := by decide +kernel
theorem d_FB_checkDay_14 : decode prog_1_method_47_code 14 = .ok (.iload_n 1, 1) := by decide +kernel
theorem d_FB_checkDay_15 : decode prog_1_method_47_code 15 = .ok (.invokevirtual 110, 3) := by decide +kernel
theorem d_FB_checkDay_18 : decode prog_1_method_47_code 18 = .ok (.if_icmp .lt 14, 3) := by decide +kernel
theorem d_FB_checkDay_21 : decode prog_1_method_47_code 21 = .ok (.new 380, 3) := by decide +kernel
theorem d_FB_checkDay_24 : decode prog_1_method_47_code 24 = .ok (.dup, 1) := by decide +kernel
theorem d_FB_checkDay_25 : decode prog_1_method_47_code 25 = .ok (.ldc_w 385, 3) := by decide +kernel
theorem d_FB_checkDay_28 : decode prog_1_method_47_code 28 = .ok (.invokespecial 384, 3) := by decide +kernel
theorem d_FB_checkDay_31 : decode prog_1_method_47_code 31 = .ok (.athrow, 1) := by decide +kernel
theorem d_FB_checkDay_32 : decode prog_1_method_47_code 32 = .ok (.return_, 1) := by decide +kernel
set_option maxHeartbeats 4000000 in
set_option maxRecDepth 100000 in
theorem c_FB_checkDay {l : Launch} {D : va_G} {ad : Nat → Nat} {cA : Nat → ClassId} {sd sv : Nat → Nat} {h : Hp} {a1 a2 : Int} {out : XO} (hI : Inj97 ad) (hst : l.stackTraces = false) (hM : M_FB_checkDay h a1 a2 = some out) : vx_Met l y_FB_checkDay (.code y_FB_checkDay prog_1_method_47_code 3 none :: TT) (rmX 11 2 12) (PC D ad cA sd sv h [.ref (ad 0), .int (iZ a1), .int (iZ a2)]) (QXV D ad cA out) (XT D ad cA out) 2 12 (FA ad) := by
  unfold M_FB_checkDay at hM
  refine entX (by decide +kernel) hI (Nat.le_of_ble_eq_true rfl) ?_
  intro p e s m args below meth c C hr hlk hnt hP ls hl
  have C : Cx p s m args c prog_1_method_47_code 3 "FeastBook" D ad cA sd sv (FA ad) := C
  have hl : lv_has ls 3 [(0, .ref (ad 0)), (1, .int (iZ a1)), (2, .int (iZ a2))] := hl
  have w : Wd s D ad cA (FA ad) h s.heap [] := ⟨hP, va_S.rf⟩
  refine m_aload_n C hl 0 d_FB_checkDay_0 rfl rfl ?_
  refine m_iload_n C hl 1 d_FB_checkDay_1 rfl rfl ?_
  refine m_xcall (Qc := QXV D ad cA) C w hnt hlk hM (fun q e1 => runVX C w.1 w.2 kc_FB sh_0 (Nat.le_of_ble_eq_true rfl) (c_FB_checkYear hI hst  e1) lk_FB_103 mb_FB_checkYear rfl ⟨Nat.le_of_ble_eq_true rfl, Nat.le_of_ble_eq_true rfl⟩ ⟨Nat.le_of_ble_eq_true rfl, Nat.le_of_ble_eq_true rfl⟩ (Nat.le_of_ble_eq_true rfl) d_FB_checkDay_2 hl.1 (rest := []) rfl) (Nat.le_of_ble_eq_true rfl) (Nat.le_of_ble_eq_true rfl) (fun _ h2 H locs w hM => ?_)
  refine m_iload_n C hl 2 d_FB_checkDay_5 rfl rfl ?_
  refine m_if_lt C hM 21 d_FB_checkDay_6 (by decide) (fun hM => ?_) (fun hM => ?_)
  · exact m_thrW (Qc := QXV D ad cA) (t := 39) hst C w hnt hl.1 hlk thw_1 (by decide) rfl (by decide) hM d_FB_checkDay_21 d_FB_checkDay_24 d_FB_checkDay_25 d_FB_checkDay_28 d_FB_checkDay_31 (Nat.le_of_ble_eq_true rfl) (Nat.le_of_ble_eq_true rfl) (Nat.le_of_ble_eq_true rfl) (Nat.le_of_ble_eq_true rfl) (Nat.le_of_ble_eq_true rfl) (Nat.le_of_ble_eq_true rfl)
  · refine m_iload_n C hl 2 d_FB_checkDay_9 rfl rfl ?_
    refine m_aload_n C hl 0 d_FB_checkDay_10 rfl rfl ?_
    refine m_getr C w.1 kc_FB sh_0 (Nat.le_of_ble_eq_true rfl) 2 23 rfl (by decide) fk_FB_28 d_FB_checkDay_11 ?_
    refine m_iload_n C hl 1 d_FB_checkDay_14 rfl rfl ?_
    obtain ⟨x4, e3, hM⟩ := bnd_some hM
    refine aftR (runV C w.1 w.2 kc_Book sh_23 (Nat.le_of_ble_eq_true rfl) (c_Book_daysOf hI (Or.inr (Or.inl rfl)) e3) lk_FB_110 mb_Book_daysOf rfl ⟨Nat.le_of_ble_eq_true rfl, Nat.le_of_ble_eq_true rfl⟩ ⟨Nat.le_of_ble_eq_true rfl, Nat.le_of_ble_eq_true rfl⟩ (Nat.le_of_ble_eq_true rfl) d_FB_checkDay_15 hl.1 (rest := [.int (iZ a2)]) rfl) ?_
    refine m_icmp_lt C hM 32 d_FB_checkDay_18 (by decide) (fun hM => ?_) (fun hM => ?_)
    · exact m_vretX C w hr hlk hM (Nat.le_of_ble_eq_true rfl) (Nat.le_of_ble_eq_true rfl) d_FB_checkDay_32
    · exact m_thrW (Qc := QXV D ad cA) (t := 39) hst C w hnt hl.1 hlk thw_1 (by decide) rfl (by decide) hM d_FB_checkDay_21 d_FB_checkDay_24 d_FB_checkDay_25 d_FB_checkDay_28 d_FB_checkDay_31 (Nat.le_of_ble_eq_true rfl) (Nat.le_of_ble_eq_true rfl) (Nat.le_of_ble_eq_true rfl) (Nat.le_of_ble_eq_true rfl) (Nat.le_of_ble_eq_true rfl) (Nat.le_of_ble_eq_true rfl)
def y_FB_day : MethodName := ⟨"FeastBook", "day", "(III)I"⟩
theorem d_FB_day_0 : decode prog_1_method_7_code 0 = .ok (.aload_n 0, 1) := by decide +kernel
theorem d_FB_day_1 : decode prog_1_method_7_code 1 = .ok (.iload_n 1, 1) := by decide +kernel
theorem d_FB_day_2 : decode prog_1_method_7_code 2 = .ok (.iload_n 2, 1) := by decide +kernel
theorem d_FB_day_3 : decode prog_1_method_7_code 3 = .ok (.invokevirtual 134, 3) := by decide +kernel
theorem d_FB_day_6 : decode prog_1_method_7_code 6 = .ok (.iload_n 3, 1) := by decide +kernel
theorem d_FB_day_7 : decode prog_1_method_7_code 7 = .ok (.iconst 3, 1) := by decide +kernel
theorem d_FB_day_8 : decode prog_1_method_7_code 8 = .ok (.invokestatic 106, 3) := by decide +kernel
theorem d_FB_day_11 : decode prog_1_method_7_code 11 = .ok (.aload_n 0, 1) := by decide +kernel
theorem d_FB_day_12 : decode prog_1_method_7_code 12 = .ok (.getfield 28, 3) := by decide +kernel
theorem d_FB_day_15 : decode prog_1_method_7_code 15 = .ok (.iload_n 1, 1) := by decide +kernel
theorem d_FB_day_16 : decode prog_1_method_7_code 16 = .ok (.invokevirtual 137, 3) := by decide +kernel
theorem d_FB_day_19 : decode prog_1_method_7_code 19 = .ok (.istore 4, 2) := by decide +kernel
theorem d_FB_day_21 : decode prog_1_method_7_code 21 = .ok (.iload_n 3, 1) := by decide +kernel
theorem d_FB_day_22 : decode prog_1_method_7_code 22 = .ok (.tableswitch 76 0 2 #[26, 37, 59], 26) := by decide +kernel
theorem d_FB_day_48 : decode prog_1_method_7_code 48 = .ok (.aload_n 0, 1) := by decide +kernel
theorem d_FB_day_49 : decode prog_1_method_7_code 49 = .ok (.getfield 28, 3) := by decide +kernel
theorem d_FB_day_52 : decode prog_1_method_7_code 52 = .ok (.iload 4, 2) := by decide +kernel
theorem d_FB_day_54 : decode prog_1_method_7_code 54 = .ok (.iload_n 2, 1) := by decide +kernel
theorem d_FB_day_55 : decode prog_1_method_7_code 55 = .ok (.invokevirtual 140, 3) := by decide +kernel
theorem d_FB_day_58 : decode prog_1_method_7_code 58 = .ok (.ireturn, 1) := by decide +kernel
theorem d_FB_day_59 : decode prog_1_method_7_code 59 = .ok (.iload_n 2, 1) := by decide +kernel
theorem d_FB_day_60 : decode prog_1_method_7_code 60 = .ok (.aload_n 0, 1) := by decide +kernel
theorem d_FB_day_61 : decode prog_1_method_7_code 61 = .ok (.getfield 28, 3) := by decide +kernel
theorem d_FB_day_64 : decode prog_1_method_7_code 64 = .ok (.iload 4, 2) := by decide +kernel
theorem d_FB_day_66 : decode prog_1_method_7_code 66 = .ok (.aload_n 0, 1) := by decide +kernel
theorem d_FB_day_67 : decode prog_1_method_7_code 67 = .ok (.getfield 28, 3) := by decide +kernel
theorem d_FB_day_70 : decode prog_1_method_7_code 70 = .ok (.iload 4, 2) := by decide +kernel
theorem d_FB_day_72 : decode prog_1_method_7_code 72 = .ok (.iload_n 2, 1) := by decide +kernel
theorem d_FB_day_73 : decode prog_1_method_7_code 73 = .ok (.invokevirtual 140, 3) := by decide +kernel
theorem d_FB_day_76 : decode prog_1_method_7_code 76 = .ok (.invokevirtual 144, 3) := by decide +kernel
theorem d_FB_day_79 : decode prog_1_method_7_code 79 = .ok (.isub, 1) := by decide +kernel
theorem d_FB_day_80 : decode prog_1_method_7_code 80 = .ok (.ireturn, 1) := by decide +kernel
theorem d_FB_day_81 : decode prog_1_method_7_code 81 = .ok (.aload_n 0, 1) := by decide +kernel
theorem d_FB_day_82 : decode prog_1_method_7_code 82 = .ok (.getfield 28, 3) := by decide +kernel
theorem d_FB_day_85 : decode prog_1_method_7_code 85 = .ok (.aload_n 0, 1) := by decide +kernel
theorem d_FB_day_86 : decode prog_1_method_7_code 86 = .ok (.getfield 28, 3) := by decide +kernel
theorem d_FB_day_89 : decode prog_1_method_7_code 89 = .ok (.iload_n 1, 1) := by decide +kernel
theorem d_FB_day_90 : decode prog_1_method_7_code 90 = .ok (.invokevirtual 120, 3) := by decide +kernel
theorem d_FB_day_93 : decode prog_1_method_7_code 93 = .ok (.iload_n 2, 1) := by decide +kernel
theorem d_FB_day_94 : decode prog_1_method_7_code 94 = .ok (.invokevirtual 147, 3) := by decide +kernel
theorem d_FB_day_97 : decode prog_1_method_7_code 97 = .ok (.ireturn, 1) := by decide +kernel
theorem d_FB_day_98 : decode prog_1_method_7_code 98 = .ok (.aload_n 0, 1) := by decide +kernel
theorem d_FB_day_99 : decode prog_1_method_7_code 99 = .ok (.getfield 28, 3) := by decide +kernel
theorem d_FB_day_102 : decode prog_1_method_7_code 102 = .ok (.getfield 150, 3) := by decide +kernel
theorem d_FB_day_105 : decode prog_1_method_7_code 105 = .ok (.iload_n 2, 1) := by decide +kernel
theorem d_FB_day_106 : decode prog_1_method_7_code 106 = .ok (.aload_n 0, 1) := by decide +kernel
theorem d_FB_day_107 : decode prog_1_method_7_code 107 = .ok (.getfield 28, 3) := by decide +kernel
theorem d_FB_day_110 : decode prog_1_method_7_code 110 = .ok (.iload_n 1, 1) := by decide +kernel
theorem d_FB_day_111 : decode prog_1_method_7_code 111 = .ok (.invokevirtual 120, 3) := by decide +kernel
theorem d_FB_day_114 : decode prog_1_method_7_code 114 = .ok (.isub, 1) := by decide +kernel
theorem d_FB_day_115 : decode prog_1_method_7_code 115 = .ok (.invokevirtual 154, 3) := by decide +kernel
theorem d_FB_day_118 : decode prog_1_method_7_code 118 = .ok (.iconst (-1), 1) := by decide +kernel
theorem d_FB_day_119 : decode prog_1_method_7_code 119 = .ok (.if_icmp .ne 7, 3) := by decide +kernel
theorem d_FB_day_122 : decode prog_1_method_7_code 122 = .ok (.iconst 0, 1) := by decide +kernel
theorem d_FB_day_123 : decode prog_1_method_7_code 123 = .ok (.goto 4, 3) := by decide +kernel
theorem d_FB_day_126 : decode prog_1_method_7_code 126 = .ok (.iconst 1, 1) := by decide +kernel
theorem d_FB_day_127 : decode prog_1_method_7_code 127 = .ok (.ireturn, 1) := by decide +kernel
theorem mb_Book_monthOf : MBv R_Book y_Book_monthOf prog_2_method_18_code 5 (some .int) 2 := ⟨mT6 97 (by decide +kernel) (by decide +kernel), mT6 98 (by decide +kernel) (by decide +kernel), mT1 4 (by decide +kernel) (by decide +kernel), mT6 99 (by decide +kernel) (by decide +kernel), by decide, rfl, by decide +kernel, by decide +kernel, by decide +kernel⟩
theorem mb_FB_checkDay : MBv R_FB y_FB_checkDay prog_1_method_47_code 3 none 2 := ⟨mT6 93 (by decide +kernel) (by decide +kernel), mTs 4 (by decide +kernel) (by decide +kernel), mT1 1 (by decide +kernel) (by decide +kernel), mT6 94 (by decide +kernel) (by decide +kernel), by decide, rfl, by decide +kernel, by decide +kernel, by decide +kernel⟩
theorem lk_FB_134 : Cond.methodLink "FeastBook" 134 y_FB_checkDay ∈ TT := mT6 91 (by decide +kernel) (by decide +kernel)
theorem lk_FB_140 : Cond.methodLink "FeastBook" 140 y_Book_monthOf ∈ TT := mT6 96 (by decide +kernel) (by decide +kernel)
theorem lk_FB_144 : Cond.methodLink "FeastBook" 144 y_Book_monthStart ∈ TT := mT6 101 (by decide +kernel) (by decide +kernel)
theorem lk_FB_147 : Cond.methodLink "FeastBook" 147 y_Book_weekdayFrom ∈ TT := mT6 102 (by decide +kernel) (by decide +kernel)
theorem lk_FB_154 : Cond.methodLink "FeastBook" 154 y_Spans_lastWith ∈ TT := mT6 103 (by decide +kernel) (by decide +kernel)
set_option maxHeartbeats 4000000 in
set_option maxRecDepth 100000 in
theorem c_FB_day {l : Launch} {D : va_G} {ad : Nat → Nat} {cA : Nat → ClassId} {sd sv : Nat → Nat} {h : Hp} {N : Nat} {a1 a2 a3 : Int} {out : XO} (hI : Inj97 ad) (hst : l.stackTraces = false) (hM : M_FB_day N h a1 a2 a3 = some out) : vx_Met l y_FB_day (.code y_FB_day prog_1_method_7_code 5 (some .int) :: TT) (rmX 12 3 18) (PC D ad cA sd sv h [.ref (ad 0), .int (iZ a1), .int (iZ a2), .int (iZ a3)]) (QX D ad cA out) (XT D ad cA out) 3 18 (FA ad) := by
  unfold M_FB_day at hM
  refine entX (by decide +kernel) hI (Nat.le_of_ble_eq_true rfl) ?_
  intro p e s m args below meth c C hr hlk hnt hP ls hl
  have C : Cx p s m args c prog_1_method_7_code 5 "FeastBook" D ad cA sd sv (FA ad) := C
  have hl : lv_has ls 5 [(0, .ref (ad 0)), (1, .int (iZ a1)), (2, .int (iZ a2)), (3, .int (iZ a3))] := hl
  have w : Wd s D ad cA (FA ad) h s.heap [] := ⟨hP, va_S.rf⟩
  refine m_aload_n C hl 0 d_FB_day_0 rfl rfl ?_
  refine m_iload_n C hl 1 d_FB_day_1 rfl rfl ?_
  refine m_iload_n C hl 2 d_FB_day_2 rfl rfl ?_
  refine m_xcall (Qc := QX D ad cA) C w hnt hlk hM (fun q e1 => runVX C w.1 w.2 kc_FB sh_0 (Nat.le_of_ble_eq_true rfl) (c_FB_checkDay hI hst  e1) lk_FB_134 mb_FB_checkDay rfl ⟨Nat.le_of_ble_eq_true rfl, Nat.le_of_ble_eq_true rfl⟩ ⟨Nat.le_of_ble_eq_true rfl, Nat.le_of_ble_eq_true rfl⟩ (Nat.le_of_ble_eq_true rfl) d_FB_day_3 hl.1 (rest := []) rfl) (Nat.le_of_ble_eq_true rfl) (Nat.le_of_ble_eq_true rfl) (fun _ h2 H locs w hM => ?_)
  refine m_iload_n C hl 3 d_FB_day_6 rfl rfl ?_
  refine m_iconst C d_FB_day_7 ?_
  refine m_xcall (Qc := QX D ad cA) C w hnt hlk hM (fun q e3 => runSX C w.1 w.2 (c_FB_checkWhat hI hst  e3) lk_FB_106 mb_FB_checkWhat rfl ⟨Nat.le_of_ble_eq_true rfl, Nat.le_of_ble_eq_true rfl⟩ ⟨Nat.le_of_ble_eq_true rfl, Nat.le_of_ble_eq_true rfl⟩ (Nat.le_of_ble_eq_true rfl) d_FB_day_8 hl.1 (rest := []) rfl) (Nat.le_of_ble_eq_true rfl) (Nat.le_of_ble_eq_true rfl) (fun _ h4 H locs w hM => ?_)
  refine m_aload_n C hl 0 d_FB_day_11 rfl rfl ?_
  refine m_getr C w.1 kc_FB sh_0 (Nat.le_of_ble_eq_true rfl) 2 23 rfl (by decide) fk_FB_28 d_FB_day_12 ?_
  refine m_iload_n C hl 1 d_FB_day_15 rfl rfl ?_
  obtain ⟨x6, e5, hM⟩ := bnd_some hM
  refine aftR (runV C w.1 w.2 kc_Book sh_23 (Nat.le_of_ble_eq_true rfl) (c_Book_sortOf hI (Or.inr (Or.inl rfl)) e5) lk_FB_137 mb_Book_sortOf rfl ⟨Nat.le_of_ble_eq_true rfl, Nat.le_of_ble_eq_true rfl⟩ ⟨Nat.le_of_ble_eq_true rfl, Nat.le_of_ble_eq_true rfl⟩ (Nat.le_of_ble_eq_true rfl) d_FB_day_16 hl.1 (rest := []) rfl) ?_
  refine m_istore C hl [(4, .int (iZ x6)), (0, .ref (ad 0)), (1, .int (iZ a1)), (2, .int (iZ a2)), (3, .int (iZ a3))] d_FB_day_19 (by decide) rfl (fun ls hl => ?_)
  refine m_iload_n C hl 4 d_FB_day_21 rfl rfl ?_
  refine m_swc 0 hM (fun ek hM => ?_) (fun hn0 hM => ?_)
  · refine lv_tableIn C.1 C.2.1 d_FB_day_22 (tgt := 48) (off := 26) (by rw [ek]; decide) (by rw [ek]; decide) (by rw [ek]; rfl) (by decide) ?_
    refine m_aload_n C hl 1 d_FB_day_48 rfl rfl ?_
    refine m_getr C w.1 kc_FB sh_0 (Nat.le_of_ble_eq_true rfl) 2 23 rfl (by decide) fk_FB_28 d_FB_day_49 ?_
    refine m_iload C hl 0 d_FB_day_52 rfl ?_
    refine m_iload_n C hl 3 d_FB_day_54 rfl rfl ?_
    obtain ⟨x8, e7, hM⟩ := bnd_some hM
    refine aftR (runV C w.1 w.2 kc_Book sh_23 (Nat.le_of_ble_eq_true rfl) (c_Book_monthOf hI (Or.inr (Or.inl rfl)) e7) lk_FB_140 mb_Book_monthOf rfl ⟨Nat.le_of_ble_eq_true rfl, Nat.le_of_ble_eq_true rfl⟩ ⟨Nat.le_of_ble_eq_true rfl, Nat.le_of_ble_eq_true rfl⟩ (Nat.le_of_ble_eq_true rfl) d_FB_day_55 hl.1 (rest := []) rfl) ?_
    exact m_iretX C w hr hlk hM (Nat.le_of_ble_eq_true rfl) (Nat.le_of_ble_eq_true rfl) d_FB_day_58
  · refine m_swc 1 hM (fun ek hM => ?_) (fun hn1 hM => ?_)
    · refine lv_tableIn C.1 C.2.1 d_FB_day_22 (tgt := 59) (off := 37) (by rw [ek]; decide) (by rw [ek]; decide) (by rw [ek]; rfl) (by decide) ?_
      refine m_iload_n C hl 3 d_FB_day_59 rfl rfl ?_
      refine m_aload_n C hl 1 d_FB_day_60 rfl rfl ?_
      refine m_getr C w.1 kc_FB sh_0 (Nat.le_of_ble_eq_true rfl) 2 23 rfl (by decide) fk_FB_28 d_FB_day_61 ?_
      refine m_iload C hl 0 d_FB_day_64 rfl ?_
      refine m_aload_n C hl 1 d_FB_day_66 rfl rfl ?_
      refine m_getr C w.1 kc_FB sh_0 (Nat.le_of_ble_eq_true rfl) 2 23 rfl (by decide) fk_FB_28 d_FB_day_67 ?_
      refine m_iload C hl 0 d_FB_day_70 rfl ?_
      refine m_iload_n C hl 3 d_FB_day_72 rfl rfl ?_
      obtain ⟨x10, e9, hM⟩ := bnd_some hM
      refine aftR (runV C w.1 w.2 kc_Book sh_23 (Nat.le_of_ble_eq_true rfl) (c_Book_monthOf hI (Or.inr (Or.inl rfl)) e9) lk_FB_140 mb_Book_monthOf rfl ⟨Nat.le_of_ble_eq_true rfl, Nat.le_of_ble_eq_true rfl⟩ ⟨Nat.le_of_ble_eq_true rfl, Nat.le_of_ble_eq_true rfl⟩ (Nat.le_of_ble_eq_true rfl) d_FB_day_73 hl.1 (rest := [.int (iZ x6), .ref (ad 23), .int (iZ a2)]) rfl) ?_
      obtain ⟨x12, e11, hM⟩ := bnd_some hM
      refine aftR (runV C w.1 w.2 kc_Book sh_23 (Nat.le_of_ble_eq_true rfl) (c_Book_monthStart hI (Or.inr (Or.inl rfl)) e11) lk_FB_144 mb_Book_monthStart rfl ⟨Nat.le_of_ble_eq_true rfl, Nat.le_of_ble_eq_true rfl⟩ ⟨Nat.le_of_ble_eq_true rfl, Nat.le_of_ble_eq_true rfl⟩ (Nat.le_of_ble_eq_true rfl) d_FB_day_76 hl.1 (rest := [.int (iZ a2)]) rfl) ?_
      refine m_isub C d_FB_day_79 ?_
      exact m_iretX C w hr hlk hM (Nat.le_of_ble_eq_true rfl) (Nat.le_of_ble_eq_true rfl) d_FB_day_80
    · refine m_swc 2 hM (fun ek hM => ?_) (fun hn2 hM => ?_)
      · refine lv_tableIn C.1 C.2.1 d_FB_day_22 (tgt := 81) (off := 59) (by rw [ek]; decide) (by rw [ek]; decide) (by rw [ek]; rfl) (by decide) ?_
        refine m_aload_n C hl 1 d_FB_day_81 rfl rfl ?_
        refine m_getr C w.1 kc_FB sh_0 (Nat.le_of_ble_eq_true rfl) 2 23 rfl (by decide) fk_FB_28 d_FB_day_82 ?_
        refine m_aload_n C hl 1 d_FB_day_85 rfl rfl ?_
        refine m_getr C w.1 kc_FB sh_0 (Nat.le_of_ble_eq_true rfl) 2 23 rfl (by decide) fk_FB_28 d_FB_day_86 ?_
        refine m_iload_n C hl 2 d_FB_day_89 rfl rfl ?_
        obtain ⟨x14, e13, hM⟩ := bnd_some hM
        refine aftR (runV C w.1 w.2 kc_Book sh_23 (Nat.le_of_ble_eq_true rfl) (c_Book_paschOf hI (Or.inr (Or.inl rfl)) e13) lk_FB_120 mb_Book_paschOf rfl ⟨Nat.le_of_ble_eq_true rfl, Nat.le_of_ble_eq_true rfl⟩ ⟨Nat.le_of_ble_eq_true rfl, Nat.le_of_ble_eq_true rfl⟩ (Nat.le_of_ble_eq_true rfl) d_FB_day_90 hl.1 (rest := [.ref (ad 23)]) rfl) ?_
        refine m_iload_n C hl 3 d_FB_day_93 rfl rfl ?_
        obtain ⟨x16, e15, hM⟩ := bnd_some hM
        refine aftR (runV C w.1 w.2 kc_Book sh_23 (Nat.le_of_ble_eq_true rfl) (c_Book_weekdayFrom hI (Or.inr (Or.inl rfl)) e15) lk_FB_147 mb_Book_weekdayFrom rfl ⟨Nat.le_of_ble_eq_true rfl, Nat.le_of_ble_eq_true rfl⟩ ⟨Nat.le_of_ble_eq_true rfl, Nat.le_of_ble_eq_true rfl⟩ (Nat.le_of_ble_eq_true rfl) d_FB_day_94 hl.1 (rest := []) rfl) ?_
        exact m_iretX C w hr hlk hM (Nat.le_of_ble_eq_true rfl) (Nat.le_of_ble_eq_true rfl) d_FB_day_97
      · refine lv_tableOut C.1 C.2.1 d_FB_day_22 (tgt := 98) ?_ (by decide) ?_
        · have g0 := lv_neT hn0 (show (iZ 0).toInt = 0 from rfl); have g1 := lv_neT hn1 (show (iZ 1).toInt = 1 from rfl); have g2 := lv_neT hn2 (show (iZ 2).toInt = 2 from rfl); omega
        · refine m_aload_n C hl 1 d_FB_day_98 rfl rfl ?_
          refine m_getr C w.1 kc_FB sh_0 (Nat.le_of_ble_eq_true rfl) 2 23 rfl (by decide) fk_FB_28 d_FB_day_99 ?_
          refine m_getr C w.1 kc_Book sh_23 (Nat.le_of_ble_eq_true rfl) 16 29 rfl (by decide) fk_FB_150 d_FB_day_102 ?_
          refine m_iload_n C hl 3 d_FB_day_105 rfl rfl ?_
          refine m_aload_n C hl 1 d_FB_day_106 rfl rfl ?_
          refine m_getr C w.1 kc_FB sh_0 (Nat.le_of_ble_eq_true rfl) 2 23 rfl (by decide) fk_FB_28 d_FB_day_107 ?_
          refine m_iload_n C hl 2 d_FB_day_110 rfl rfl ?_
          obtain ⟨x18, e17, hM⟩ := bnd_some hM
          refine aftR (runV C w.1 w.2 kc_Book sh_23 (Nat.le_of_ble_eq_true rfl) (c_Book_paschOf hI (Or.inr (Or.inl rfl)) e17) lk_FB_120 mb_Book_paschOf rfl ⟨Nat.le_of_ble_eq_true rfl, Nat.le_of_ble_eq_true rfl⟩ ⟨Nat.le_of_ble_eq_true rfl, Nat.le_of_ble_eq_true rfl⟩ (Nat.le_of_ble_eq_true rfl) d_FB_day_111 hl.1 (rest := [.int (iZ a2), .ref (ad 29)]) rfl) ?_
          refine m_isub C d_FB_day_114 ?_
          obtain ⟨x20, e19, hM⟩ := bnd_some hM
          refine aftR (runV C w.1 w.2 kc_Spans sh_29 (Nat.le_of_ble_eq_true rfl) (c_Spans_lastWith hI (Or.inr (Or.inr (Or.inr (Or.inl rfl)))) e19) lk_FB_154 mb_Spans_lastWith rfl ⟨Nat.le_of_ble_eq_true rfl, Nat.le_of_ble_eq_true rfl⟩ ⟨Nat.le_of_ble_eq_true rfl, Nat.le_of_ble_eq_true rfl⟩ (Nat.le_of_ble_eq_true rfl) d_FB_day_115 hl.1 (rest := []) rfl) ?_
          refine m_iconst C d_FB_day_118 ?_
          refine m_icmp_ne C hM 126 d_FB_day_119 (by decide) (fun hM => ?_) (fun hM => ?_)
          · refine m_iconst C d_FB_day_126 ?_
            exact m_iretX C w hr hlk hM (Nat.le_of_ble_eq_true rfl) (Nat.le_of_ble_eq_true rfl) d_FB_day_127
          · refine m_iconst C d_FB_day_122 ?_
            refine m_goto C 127 d_FB_day_123 (by decide) ?_
            exact m_iretX C w hr hlk hM (Nat.le_of_ble_eq_true rfl) (Nat.le_of_ble_eq_true rfl) d_FB_day_127
def y_FB_office : MethodName := ⟨"FeastBook", "office", "(III)I"⟩
theorem d_FB_office_0 : decode prog_1_method_8_code 0 = .ok (.aload_n 0, 1) := by decide +kernel
theorem d_FB_office_1 : decode prog_1_method_8_code 1 = .ok (.iload_n 1, 1) := by decide +kernel
theorem d_FB_office_2 : decode prog_1_method_8_code 2 = .ok (.iload_n 2, 1) := by decide +kernel
theorem d_FB_office_3 : decode prog_1_method_8_code 3 = .ok (.invokevirtual 134, 3) := by decide +kernel
theorem d_FB_office_6 : decode prog_1_method_8_code 6 = .ok (.iload_n 3, 1) := by decide +kernel
theorem d_FB_office_7 : decode prog_1_method_8_code 7 = .ok (.iconst 2, 1) := by decide +kernel
theorem d_FB_office_8 : decode prog_1_method_8_code 8 = .ok (.invokestatic 106, 3) := by decide +kernel
theorem d_FB_office_11 : decode prog_1_method_8_code 11 = .ok (.aload_n 0, 1) := by decide +kernel
theorem d_FB_office_12 : decode prog_1_method_8_code 12 = .ok (.iload_n 1, 1) := by decide +kernel
theorem d_FB_office_13 : decode prog_1_method_8_code 13 = .ok (.invokevirtual 127, 3) := by decide +kernel
theorem d_FB_office_16 : decode prog_1_method_8_code 16 = .ok (.getfield 159, 3) := by decide +kernel
theorem d_FB_office_19 : decode prog_1_method_8_code 19 = .ok (.iload_n 2, 1) := by decide +kernel
theorem d_FB_office_20 : decode prog_1_method_8_code 20 = .ok (.iaload, 1) := by decide +kernel
theorem d_FB_office_21 : decode prog_1_method_8_code 21 = .ok (.iload_n 3, 1) := by decide +kernel
theorem d_FB_office_22 : decode prog_1_method_8_code 22 = .ok (.invokestatic 163, 3) := by decide +kernel
theorem d_FB_office_25 : decode prog_1_method_8_code 25 = .ok (.ireturn, 1) := by decide +kernel
theorem mb_Cl_tell : MBs y_Cl_tell prog_3_method_7_code 2 (some .int) 2 := ⟨mT6 112 (by decide +kernel) (by decide +kernel), mT1 16 (by decide +kernel) (by decide +kernel), mT6 113 (by decide +kernel) (by decide +kernel), by decide, by decide +kernel, by decide +kernel, by decide +kernel⟩
theorem fk_FB_159 : Cond.fieldLink "FeastBook" 159 (T_YearPlan 7).1 (T_YearPlan 7).2.1 (T_YearPlan 7).2.2.1 ∈ TT := mT2 76 (by decide +kernel) (by decide +kernel)
theorem lk_FB_163 : Cond.methodLink "FeastBook" 163 y_Cl_tell ∈ TT := mT6 111 (by decide +kernel) (by decide +kernel)
set_option maxHeartbeats 4000000 in
set_option maxRecDepth 100000 in
theorem c_FB_office {l : Launch} {D : va_G} {ad : Nat → Nat} {cA : Nat → ClassId} {sd sv : Nat → Nat} {h : Hp} {N : Nat} {a1 a2 a3 : Int} {out : XO} (hI : Inj97 ad) (hst : l.stackTraces = false) (hM : M_FB_office N h a1 a2 a3 = some out) : vx_Met l y_FB_office (.code y_FB_office prog_1_method_8_code 4 (some .int) :: TT) (rmX 12 3 18) (PC D ad cA sd sv h [.ref (ad 0), .int (iZ a1), .int (iZ a2), .int (iZ a3)]) (QX D ad cA out) (XT D ad cA out) 3 18 (FA ad) := by
  unfold M_FB_office at hM
  refine entX (by decide +kernel) hI (Nat.le_of_ble_eq_true rfl) ?_
  intro p e s m args below meth c C hr hlk hnt hP ls hl
  have C : Cx p s m args c prog_1_method_8_code 4 "FeastBook" D ad cA sd sv (FA ad) := C
  have hl : lv_has ls 4 [(0, .ref (ad 0)), (1, .int (iZ a1)), (2, .int (iZ a2)), (3, .int (iZ a3))] := hl
  have w : Wd s D ad cA (FA ad) h s.heap [] := ⟨hP, va_S.rf⟩
  refine m_aload_n C hl 0 d_FB_office_0 rfl rfl ?_
  refine m_iload_n C hl 1 d_FB_office_1 rfl rfl ?_
  refine m_iload_n C hl 2 d_FB_office_2 rfl rfl ?_
  refine m_xcall (Qc := QX D ad cA) C w hnt hlk hM (fun q e1 => runVX C w.1 w.2 kc_FB sh_0 (Nat.le_of_ble_eq_true rfl) (c_FB_checkDay hI hst  e1) lk_FB_134 mb_FB_checkDay rfl ⟨Nat.le_of_ble_eq_true rfl, Nat.le_of_ble_eq_true rfl⟩ ⟨Nat.le_of_ble_eq_true rfl, Nat.le_of_ble_eq_true rfl⟩ (Nat.le_of_ble_eq_true rfl) d_FB_office_3 hl.1 (rest := []) rfl) (Nat.le_of_ble_eq_true rfl) (Nat.le_of_ble_eq_true rfl) (fun _ h2 H locs w hM => ?_)
  refine m_iload_n C hl 3 d_FB_office_6 rfl rfl ?_
  refine m_iconst C d_FB_office_7 ?_
  refine m_xcall (Qc := QX D ad cA) C w hnt hlk hM (fun q e3 => runSX C w.1 w.2 (c_FB_checkWhat hI hst  e3) lk_FB_106 mb_FB_checkWhat rfl ⟨Nat.le_of_ble_eq_true rfl, Nat.le_of_ble_eq_true rfl⟩ ⟨Nat.le_of_ble_eq_true rfl, Nat.le_of_ble_eq_true rfl⟩ (Nat.le_of_ble_eq_true rfl) d_FB_office_8 hl.1 (rest := []) rfl) (Nat.le_of_ble_eq_true rfl) (Nat.le_of_ble_eq_true rfl) (fun _ h4 H locs w hM => ?_)
  refine m_aload_n C hl 0 d_FB_office_11 rfl rfl ?_
  refine m_iload_n C hl 1 d_FB_office_12 rfl rfl ?_
  obtain ⟨h6, e5, hM⟩ := bnd_some hM
  refine aftN C w (runV C w.1 w.2 kc_FB sh_0 (Nat.le_of_ble_eq_true rfl) (c_FB_settledYear hI e5) lk_FB_127 mb_FB_settledYear rfl ⟨Nat.le_of_ble_eq_true rfl, Nat.le_of_ble_eq_true rfl⟩ ⟨Nat.le_of_ble_eq_true rfl, Nat.le_of_ble_eq_true rfl⟩ (Nat.le_of_ble_eq_true rfl) d_FB_office_13 hl.1 (rest := []) rfl) (fun H locs w => ?_)
  refine m_getr C w.1 kc_YearPlan sh_66 (Nat.le_of_ble_eq_true rfl) 7 68 rfl (by decide) fk_FB_159 d_FB_office_16 ?_
  refine m_iload_n C hl 2 d_FB_office_19 rfl rfl ?_
  refine m_iald C w.1 sh_68 (Nat.le_of_ble_eq_true rfl) (Nat.le_of_ble_eq_true rfl) hM d_FB_office_20 (fun x7 hM => ?_)
  refine m_iload_n C hl 3 d_FB_office_21 rfl rfl ?_
  obtain ⟨x9, e8, hM⟩ := bnd_some hM
  refine aftR (runS C w.1 w.2 (c_Cl_tell hI e8) lk_FB_163 mb_Cl_tell rfl ⟨Nat.le_of_ble_eq_true rfl, Nat.le_of_ble_eq_true rfl⟩ ⟨Nat.le_of_ble_eq_true rfl, Nat.le_of_ble_eq_true rfl⟩ (Nat.le_of_ble_eq_true rfl) d_FB_office_22 hl.1 (rest := []) rfl) ?_
  exact m_iretX C w hr hlk hM (Nat.le_of_ble_eq_true rfl) (Nat.le_of_ble_eq_true rfl) d_FB_office_25
def y_FB_base : MethodName := ⟨"FeastBook", "base", "(III)I"⟩
theorem d_FB_base_0 : decode prog_1_method_9_code 0 = .ok (.aload_n 0, 1) := by decide +kernel
theorem d_FB_base_1 : decode prog_1_method_9_code 1 = .ok (.iload_n 1, 1) := by decide +kernel
theorem d_FB_base_2 : decode prog_1_method_9_code 2 = .ok (.iload_n 2, 1) := by decide +kernel
theorem d_FB_base_3 : decode prog_1_method_9_code 3 = .ok (.invokevirtual 134, 3) := by decide +kernel
theorem d_FB_base_6 : decode prog_1_method_9_code 6 = .ok (.iload_n 3, 1) := by decide +kernel
theorem d_FB_base_7 : decode prog_1_method_9_code 7 = .ok (.iconst 2, 1) := by decide +kernel
theorem d_FB_base_8 : decode prog_1_method_9_code 8 = .ok (.invokestatic 106, 3) := by decide +kernel
theorem d_FB_base_11 : decode prog_1_method_9_code 11 = .ok (.aload_n 0, 1) := by decide +kernel
theorem d_FB_base_12 : decode prog_1_method_9_code 12 = .ok (.iload_n 1, 1) := by decide +kernel
theorem d_FB_base_13 : decode prog_1_method_9_code 13 = .ok (.invokevirtual 127, 3) := by decide +kernel
theorem d_FB_base_16 : decode prog_1_method_9_code 16 = .ok (.getfield 168, 3) := by decide +kernel
theorem d_FB_base_19 : decode prog_1_method_9_code 19 = .ok (.iload_n 2, 1) := by decide +kernel
theorem d_FB_base_20 : decode prog_1_method_9_code 20 = .ok (.iaload, 1) := by decide +kernel
theorem d_FB_base_21 : decode prog_1_method_9_code 21 = .ok (.iload_n 3, 1) := by decide +kernel
theorem d_FB_base_22 : decode prog_1_method_9_code 22 = .ok (.invokestatic 163, 3) := by decide +kernel
theorem d_FB_base_25 : decode prog_1_method_9_code 25 = .ok (.ireturn, 1) := by decide +kernel
theorem fk_FB_168 : Cond.fieldLink "FeastBook" 168 (T_YearPlan 6).1 (T_YearPlan 6).2.1 (T_YearPlan 6).2.2.1 ∈ TT := mT2 74 (by decide +kernel) (by decide +kernel)
set_option maxHeartbeats 4000000 in
set_option maxRecDepth 100000 in
theorem c_FB_base {l : Launch} {D : va_G} {ad : Nat → Nat} {cA : Nat → ClassId} {sd sv : Nat → Nat} {h : Hp} {N : Nat} {a1 a2 a3 : Int} {out : XO} (hI : Inj97 ad) (hst : l.stackTraces = false) (hM : M_FB_base N h a1 a2 a3 = some out) : vx_Met l y_FB_base (.code y_FB_base prog_1_method_9_code 4 (some .int) :: TT) (rmX 12 3 18) (PC D ad cA sd sv h [.ref (ad 0), .int (iZ a1), .int (iZ a2), .int (iZ a3)]) (QX D ad cA out) (XT D ad cA out) 3 18 (FA ad) := by
  unfold M_FB_base at hM
  refine entX (by decide +kernel) hI (Nat.le_of_ble_eq_true rfl) ?_
  intro p e s m args below meth c C hr hlk hnt hP ls hl
  have C : Cx p s m args c prog_1_method_9_code 4 "FeastBook" D ad cA sd sv (FA ad) := C
  have hl : lv_has ls 4 [(0, .ref (ad 0)), (1, .int (iZ a1)), (2, .int (iZ a2)), (3, .int (iZ a3))] := hl
  have w : Wd s D ad cA (FA ad) h s.heap [] := ⟨hP, va_S.rf⟩
  refine m_aload_n C hl 0 d_FB_base_0 rfl rfl ?_
  refine m_iload_n C hl 1 d_FB_base_1 rfl rfl ?_
  refine m_iload_n C hl 2 d_FB_base_2 rfl rfl ?_
  refine m_xcall (Qc := QX D ad cA) C w hnt hlk hM (fun q e1 => runVX C w.1 w.2 kc_FB sh_0 (Nat.le_of_ble_eq_true rfl) (c_FB_checkDay hI hst  e1) lk_FB_134 mb_FB_checkDay rfl ⟨Nat.le_of_ble_eq_true rfl, Nat.le_of_ble_eq_true rfl⟩ ⟨Nat.le_of_ble_eq_true rfl, Nat.le_of_ble_eq_true rfl⟩ (Nat.le_of_ble_eq_true rfl) d_FB_base_3 hl.1 (rest := []) rfl) (Nat.le_of_ble_eq_true rfl) (Nat.le_of_ble_eq_true rfl) (fun _ h2 H locs w hM => ?_)
  refine m_iload_n C hl 3 d_FB_base_6 rfl rfl ?_
  refine m_iconst C d_FB_base_7 ?_
  refine m_xcall (Qc := QX D ad cA) C w hnt hlk hM (fun q e3 => runSX C w.1 w.2 (c_FB_checkWhat hI hst  e3) lk_FB_106 mb_FB_checkWhat rfl ⟨Nat.le_of_ble_eq_true rfl, Nat.le_of_ble_eq_true rfl⟩ ⟨Nat.le_of_ble_eq_true rfl, Nat.le_of_ble_eq_true rfl⟩ (Nat.le_of_ble_eq_true rfl) d_FB_base_8 hl.1 (rest := []) rfl) (Nat.le_of_ble_eq_true rfl) (Nat.le_of_ble_eq_true rfl) (fun _ h4 H locs w hM => ?_)
  refine m_aload_n C hl 0 d_FB_base_11 rfl rfl ?_
  refine m_iload_n C hl 1 d_FB_base_12 rfl rfl ?_
  obtain ⟨h6, e5, hM⟩ := bnd_some hM
  refine aftN C w (runV C w.1 w.2 kc_FB sh_0 (Nat.le_of_ble_eq_true rfl) (c_FB_settledYear hI e5) lk_FB_127 mb_FB_settledYear rfl ⟨Nat.le_of_ble_eq_true rfl, Nat.le_of_ble_eq_true rfl⟩ ⟨Nat.le_of_ble_eq_true rfl, Nat.le_of_ble_eq_true rfl⟩ (Nat.le_of_ble_eq_true rfl) d_FB_base_13 hl.1 (rest := []) rfl) (fun H locs w => ?_)
  refine m_getr C w.1 kc_YearPlan sh_66 (Nat.le_of_ble_eq_true rfl) 6 67 rfl (by decide) fk_FB_168 d_FB_base_16 ?_
  refine m_iload_n C hl 2 d_FB_base_19 rfl rfl ?_
  refine m_iald C w.1 sh_67 (Nat.le_of_ble_eq_true rfl) (Nat.le_of_ble_eq_true rfl) hM d_FB_base_20 (fun x7 hM => ?_)
  refine m_iload_n C hl 3 d_FB_base_21 rfl rfl ?_
  obtain ⟨x9, e8, hM⟩ := bnd_some hM
  refine aftR (runS C w.1 w.2 (c_Cl_tell hI e8) lk_FB_163 mb_Cl_tell rfl ⟨Nat.le_of_ble_eq_true rfl, Nat.le_of_ble_eq_true rfl⟩ ⟨Nat.le_of_ble_eq_true rfl, Nat.le_of_ble_eq_true rfl⟩ (Nat.le_of_ble_eq_true rfl) d_FB_base_22 hl.1 (rest := []) rfl) ?_
  exact m_iretX C w hr hlk hM (Nat.le_of_ble_eq_true rfl) (Nat.le_of_ble_eq_true rfl) d_FB_base_25
def y_FB_fast : MethodName := ⟨"FeastBook", "fast", "(II)Z"⟩
theorem d_FB_fast_0 : decode prog_1_method_10_code 0 = .ok (.aload_n 0, 1) := by decide +kernel
theorem d_FB_fast_1 : decode prog_1_method_10_code 1 = .ok (.iload_n 1, 1) := by decide +kernel
theorem d_FB_fast_2 : decode prog_1_method_10_code 2 = .ok (.iload_n 2, 1) := by decide +kernel
theorem d_FB_fast_3 : decode prog_1_method_10_code 3 = .ok (.invokevirtual 134, 3) := by decide +kernel
theorem d_FB_fast_6 : decode prog_1_method_10_code 6 = .ok (.aload_n 0, 1) := by decide +kernel
theorem d_FB_fast_7 : decode prog_1_method_10_code 7 = .ok (.iload_n 1, 1) := by decide +kernel
theorem d_FB_fast_8 : decode prog_1_method_10_code 8 = .ok (.invokevirtual 127, 3) := by decide +kernel
theorem d_FB_fast_11 : decode prog_1_method_10_code 11 = .ok (.iload_n 2, 1) := by decide +kernel
theorem d_FB_fast_12 : decode prog_1_method_10_code 12 = .ok (.invokevirtual 171, 3) := by decide +kernel
theorem d_FB_fast_15 : decode prog_1_method_10_code 15 = .ok (.ireturn, 1) := by decide +kernel
theorem lk_FB_171 : Cond.methodLink "FeastBook" 171 y_YearPlan_isFast ∈ TT := mT6 133 (by decide +kernel) (by decide +kernel)
set_option maxHeartbeats 4000000 in
set_option maxRecDepth 100000 in
theorem c_FB_fast {l : Launch} {D : va_G} {ad : Nat → Nat} {cA : Nat → ClassId} {sd sv : Nat → Nat} {h : Hp} {N : Nat} {a1 a2 : Int} {out : XO} (hI : Inj97 ad) (hst : l.stackTraces = false) (hM : M_FB_fast N h a1 a2 = some out) : vx_Met l y_FB_fast (.code y_FB_fast prog_1_method_10_code 3 (some .boolean) :: TT) (rmX 12 2 12) (PC D ad cA sd sv h [.ref (ad 0), .int (iZ a1), .int (iZ a2)]) (QX D ad cA out) (XT D ad cA out) 2 12 (FA ad) := by
  unfold M_FB_fast at hM
  refine entX (by decide +kernel) hI (Nat.le_of_ble_eq_true rfl) ?_
  intro p e s m args below meth c C hr hlk hnt hP ls hl
  have C : Cx p s m args c prog_1_method_10_code 3 "FeastBook" D ad cA sd sv (FA ad) := C
  have hl : lv_has ls 3 [(0, .ref (ad 0)), (1, .int (iZ a1)), (2, .int (iZ a2))] := hl
  have w : Wd s D ad cA (FA ad) h s.heap [] := ⟨hP, va_S.rf⟩
  refine m_aload_n C hl 0 d_FB_fast_0 rfl rfl ?_
  refine m_iload_n C hl 1 d_FB_fast_1 rfl rfl ?_
  refine m_iload_n C hl 2 d_FB_fast_2 rfl rfl ?_
  refine m_xcall (Qc := QX D ad cA) C w hnt hlk hM (fun q e1 => runVX C w.1 w.2 kc_FB sh_0 (Nat.le_of_ble_eq_true rfl) (c_FB_checkDay hI hst  e1) lk_FB_134 mb_FB_checkDay rfl ⟨Nat.le_of_ble_eq_true rfl, Nat.le_of_ble_eq_true rfl⟩ ⟨Nat.le_of_ble_eq_true rfl, Nat.le_of_ble_eq_true rfl⟩ (Nat.le_of_ble_eq_true rfl) d_FB_fast_3 hl.1 (rest := []) rfl) (Nat.le_of_ble_eq_true rfl) (Nat.le_of_ble_eq_true rfl) (fun _ h2 H locs w hM => ?_)
  refine m_aload_n C hl 0 d_FB_fast_6 rfl rfl ?_
  refine m_iload_n C hl 1 d_FB_fast_7 rfl rfl ?_
  obtain ⟨h4, e3, hM⟩ := bnd_some hM
  refine aftN C w (runV C w.1 w.2 kc_FB sh_0 (Nat.le_of_ble_eq_true rfl) (c_FB_settledYear hI e3) lk_FB_127 mb_FB_settledYear rfl ⟨Nat.le_of_ble_eq_true rfl, Nat.le_of_ble_eq_true rfl⟩ ⟨Nat.le_of_ble_eq_true rfl, Nat.le_of_ble_eq_true rfl⟩ (Nat.le_of_ble_eq_true rfl) d_FB_fast_8 hl.1 (rest := []) rfl) (fun H locs w => ?_)
  refine m_iload_n C hl 2 d_FB_fast_11 rfl rfl ?_
  obtain ⟨x6, e5, hM⟩ := bnd_some hM
  refine aftR (runV C w.1 w.2 kc_YearPlan sh_66 (Nat.le_of_ble_eq_true rfl) (c_YearPlan_isFast hI e5) lk_FB_171 mb_YearPlan_isFast rfl ⟨Nat.le_of_ble_eq_true rfl, Nat.le_of_ble_eq_true rfl⟩ ⟨Nat.le_of_ble_eq_true rfl, Nat.le_of_ble_eq_true rfl⟩ (Nat.le_of_ble_eq_true rfl) d_FB_fast_12 hl.1 (rest := []) rfl) ?_
  exact m_zretX C w hr hlk hM (Nat.le_of_ble_eq_true rfl) (Nat.le_of_ble_eq_true rfl) d_FB_fast_15
def y_FB_lesson : MethodName := ⟨"FeastBook", "lesson", "(II)I"⟩
theorem d_FB_lesson_0 : decode prog_1_method_11_code 0 = .ok (.aload_n 0, 1) := by decide +kernel
theorem d_FB_lesson_1 : decode prog_1_method_11_code 1 = .ok (.iload_n 1, 1) := by decide +kernel
theorem d_FB_lesson_2 : decode prog_1_method_11_code 2 = .ok (.iload_n 2, 1) := by decide +kernel
theorem d_FB_lesson_3 : decode prog_1_method_11_code 3 = .ok (.invokevirtual 134, 3) := by decide +kernel
theorem d_FB_lesson_6 : decode prog_1_method_11_code 6 = .ok (.aload_n 0, 1) := by decide +kernel
theorem d_FB_lesson_7 : decode prog_1_method_11_code 7 = .ok (.iload_n 1, 1) := by decide +kernel
theorem d_FB_lesson_8 : decode prog_1_method_11_code 8 = .ok (.invokevirtual 127, 3) := by decide +kernel
theorem d_FB_lesson_11 : decode prog_1_method_11_code 11 = .ok (.astore_n 3, 1) := by decide +kernel
theorem d_FB_lesson_12 : decode prog_1_method_11_code 12 = .ok (.aload_n 3, 1) := by decide +kernel
theorem d_FB_lesson_13 : decode prog_1_method_11_code 13 = .ok (.iload_n 2, 1) := by decide +kernel
theorem d_FB_lesson_14 : decode prog_1_method_11_code 14 = .ok (.invokevirtual 174, 3) := by decide +kernel
theorem d_FB_lesson_17 : decode prog_1_method_11_code 17 = .ok (.ifCond .ne 5, 3) := by decide +kernel
theorem d_FB_lesson_20 : decode prog_1_method_11_code 20 = .ok (.iconst (-1), 1) := by decide +kernel
theorem d_FB_lesson_21 : decode prog_1_method_11_code 21 = .ok (.ireturn, 1) := by decide +kernel
theorem d_FB_lesson_22 : decode prog_1_method_11_code 22 = .ok (.aload_n 3, 1) := by decide +kernel
theorem d_FB_lesson_23 : decode prog_1_method_11_code 23 = .ok (.iload_n 2, 1) := by decide +kernel
theorem d_FB_lesson_24 : decode prog_1_method_11_code 24 = .ok (.aload_n 3, 1) := by decide +kernel
theorem d_FB_lesson_25 : decode prog_1_method_11_code 25 = .ok (.getfield 177, 3) := by decide +kernel
theorem d_FB_lesson_28 : decode prog_1_method_11_code 28 = .ok (.if_icmp .lt 10, 3) := by decide +kernel
theorem d_FB_lesson_31 : decode prog_1_method_11_code 31 = .ok (.aload_n 3, 1) := by decide +kernel
theorem d_FB_lesson_32 : decode prog_1_method_11_code 32 = .ok (.getfield 177, 3) := by decide +kernel
theorem d_FB_lesson_35 : decode prog_1_method_11_code 35 = .ok (.goto 4, 3) := by decide +kernel
theorem d_FB_lesson_38 : decode prog_1_method_11_code 38 = .ok (.iconst 0, 1) := by decide +kernel
theorem d_FB_lesson_39 : decode prog_1_method_11_code 39 = .ok (.iload_n 2, 1) := by decide +kernel
theorem d_FB_lesson_40 : decode prog_1_method_11_code 40 = .ok (.invokevirtual 180, 3) := by decide +kernel
theorem d_FB_lesson_43 : decode prog_1_method_11_code 43 = .ok (.ireturn, 1) := by decide +kernel
theorem fk_FB_177 : Cond.fieldLink "FeastBook" 177 (T_YearPlan 5).1 (T_YearPlan 5).2.1 (T_YearPlan 5).2.2.1 ∈ TT := mT2 72 (by decide +kernel) (by decide +kernel)
theorem lk_FB_174 : Cond.methodLink "FeastBook" 174 y_YearPlan_isPlain ∈ TT := mT6 141 (by decide +kernel) (by decide +kernel)
theorem lk_FB_180 : Cond.methodLink "FeastBook" 180 y_YearPlan_plainDays ∈ TT := mT6 142 (by decide +kernel) (by decide +kernel)
set_option maxHeartbeats 4000000 in
set_option maxRecDepth 100000 in
theorem c_FB_lesson {l : Launch} {D : va_G} {ad : Nat → Nat} {cA : Nat → ClassId} {sd sv : Nat → Nat} {h : Hp} {N : Nat} {a1 a2 : Int} {out : XO} (hI : Inj97 ad) (hst : l.stackTraces = false) (hM : M_FB_lesson N h a1 a2 = some out) : vx_Met l y_FB_lesson (.code y_FB_lesson prog_1_method_11_code 4 (some .int) :: TT) (rmX 12 2 12) (PC D ad cA sd sv h [.ref (ad 0), .int (iZ a1), .int (iZ a2)]) (QX D ad cA out) (XT D ad cA out) 2 12 (FA ad) := by
  unfold M_FB_lesson at hM
  refine entX (by decide +kernel) hI (Nat.le_of_ble_eq_true rfl) ?_
  intro p e s m args below meth c C hr hlk hnt hP ls hl
  have C : Cx p s m args c prog_1_method_11_code 4 "FeastBook" D ad cA sd sv (FA ad) := C
  have hl : lv_has ls 4 [(0, .ref (ad 0)), (1, .int (iZ a1)), (2, .int (iZ a2))] := hl
  have w : Wd s D ad cA (FA ad) h s.heap [] := ⟨hP, va_S.rf⟩
  refine m_aload_n C hl 0 d_FB_lesson_0 rfl rfl ?_
  refine m_iload_n C hl 1 d_FB_lesson_1 rfl rfl ?_
  refine m_iload_n C hl 2 d_FB_lesson_2 rfl rfl ?_
  refine m_xcall (Qc := QX D ad cA) C w hnt hlk hM (fun q e1 => runVX C w.1 w.2 kc_FB sh_0 (Nat.le_of_ble_eq_true rfl) (c_FB_checkDay hI hst  e1) lk_FB_134 mb_FB_checkDay rfl ⟨Nat.le_of_ble_eq_true rfl, Nat.le_of_ble_eq_true rfl⟩ ⟨Nat.le_of_ble_eq_true rfl, Nat.le_of_ble_eq_true rfl⟩ (Nat.le_of_ble_eq_true rfl) d_FB_lesson_3 hl.1 (rest := []) rfl) (Nat.le_of_ble_eq_true rfl) (Nat.le_of_ble_eq_true rfl) (fun _ h2 H locs w hM => ?_)
  refine m_aload_n C hl 0 d_FB_lesson_6 rfl rfl ?_
  refine m_iload_n C hl 1 d_FB_lesson_7 rfl rfl ?_
  obtain ⟨h4, e3, hM⟩ := bnd_some hM
  refine aftN C w (runV C w.1 w.2 kc_FB sh_0 (Nat.le_of_ble_eq_true rfl) (c_FB_settledYear hI e3) lk_FB_127 mb_FB_settledYear rfl ⟨Nat.le_of_ble_eq_true rfl, Nat.le_of_ble_eq_true rfl⟩ ⟨Nat.le_of_ble_eq_true rfl, Nat.le_of_ble_eq_true rfl⟩ (Nat.le_of_ble_eq_true rfl) d_FB_lesson_8 hl.1 (rest := []) rfl) (fun H locs w => ?_)
  refine m_astore_n C hl [(3, .ref (ad 66)), (0, .ref (ad 0)), (1, .int (iZ a1)), (2, .int (iZ a2))] d_FB_lesson_11 rfl (by decide) rfl (fun ls hl => ?_)
  refine m_aload_n C hl 0 d_FB_lesson_12 rfl rfl ?_
  refine m_iload_n C hl 3 d_FB_lesson_13 rfl rfl ?_
  obtain ⟨x6, e5, hM⟩ := bnd_some hM
  refine aftR (runV C w.1 w.2 kc_YearPlan sh_66 (Nat.le_of_ble_eq_true rfl) (c_YearPlan_isPlain hI e5) lk_FB_174 mb_YearPlan_isPlain rfl ⟨Nat.le_of_ble_eq_true rfl, Nat.le_of_ble_eq_true rfl⟩ ⟨Nat.le_of_ble_eq_true rfl, Nat.le_of_ble_eq_true rfl⟩ (Nat.le_of_ble_eq_true rfl) d_FB_lesson_14 hl.1 (rest := []) rfl) ?_
  refine m_if_ne C hM 22 d_FB_lesson_17 (by decide) (fun hM => ?_) (fun hM => ?_)
  · refine m_aload_n C hl 0 d_FB_lesson_22 rfl rfl ?_
    refine m_iload_n C hl 3 d_FB_lesson_23 rfl rfl ?_
    refine m_aload_n C hl 0 d_FB_lesson_24 rfl rfl ?_
    refine m_geti C w.1 kc_YearPlan sh_66 (Nat.le_of_ble_eq_true rfl) 5 rfl (by decide) fk_FB_177 d_FB_lesson_25 ?_
    refine m_icmp_lt C hM 38 d_FB_lesson_28 (by decide) (fun hM => ?_) (fun hM => ?_)
    · refine m_iconst C d_FB_lesson_38 ?_
      refine m_iload_n C hl 3 d_FB_lesson_39 rfl rfl ?_
      obtain ⟨x8, e7, hM⟩ := bnd_some hM
      refine aftR (runV C w.1 w.2 kc_YearPlan sh_66 (Nat.le_of_ble_eq_true rfl) (c_YearPlan_plainDays hI e7) lk_FB_180 mb_YearPlan_plainDays rfl ⟨Nat.le_of_ble_eq_true rfl, Nat.le_of_ble_eq_true rfl⟩ ⟨Nat.le_of_ble_eq_true rfl, Nat.le_of_ble_eq_true rfl⟩ (Nat.le_of_ble_eq_true rfl) d_FB_lesson_40 hl.1 (rest := []) rfl) ?_
      exact m_iretX C w hr hlk hM (Nat.le_of_ble_eq_true rfl) (Nat.le_of_ble_eq_true rfl) d_FB_lesson_43
    · refine m_aload_n C hl 0 d_FB_lesson_31 rfl rfl ?_
      refine m_geti C w.1 kc_YearPlan sh_66 (Nat.le_of_ble_eq_true rfl) 5 rfl (by decide) fk_FB_177 d_FB_lesson_32 ?_
      refine m_goto C 39 d_FB_lesson_35 (by decide) ?_
      refine m_iload_n C hl 3 d_FB_lesson_39 rfl rfl ?_
      obtain ⟨x10, e9, hM⟩ := bnd_some hM
      refine aftR (runV C w.1 w.2 kc_YearPlan sh_66 (Nat.le_of_ble_eq_true rfl) (c_YearPlan_plainDays hI e9) lk_FB_180 mb_YearPlan_plainDays rfl ⟨Nat.le_of_ble_eq_true rfl, Nat.le_of_ble_eq_true rfl⟩ ⟨Nat.le_of_ble_eq_true rfl, Nat.le_of_ble_eq_true rfl⟩ (Nat.le_of_ble_eq_true rfl) d_FB_lesson_40 hl.1 (rest := []) rfl) ?_
      exact m_iretX C w hr hlk hM (Nat.le_of_ble_eq_true rfl) (Nat.le_of_ble_eq_true rfl) d_FB_lesson_43
  · refine m_iconst C d_FB_lesson_20 ?_
    exact m_iretX C w hr hlk hM (Nat.le_of_ble_eq_true rfl) (Nat.le_of_ble_eq_true rfl) d_FB_lesson_21
def y_FB_joined : MethodName := ⟨"FeastBook", "joined", "(II)I"⟩
theorem d_FB_joined_0 : decode prog_1_method_12_code 0 = .ok (.aload_n 0, 1) := by decide +kernel
theorem d_FB_joined_1 : decode prog_1_method_12_code 1 = .ok (.iload_n 1, 1) := by decide +kernel
theorem d_FB_joined_2 : decode prog_1_method_12_code 2 = .ok (.iload_n 2, 1) := by decide +kernel
theorem d_FB_joined_3 : decode prog_1_method_12_code 3 = .ok (.invokevirtual 134, 3) := by decide +kernel
theorem d_FB_joined_6 : decode prog_1_method_12_code 6 = .ok (.aload_n 0, 1) := by decide +kernel
theorem d_FB_joined_7 : decode prog_1_method_12_code 7 = .ok (.iload_n 1, 1) := by decide +kernel
theorem d_FB_joined_8 : decode prog_1_method_12_code 8 = .ok (.invokevirtual 127, 3) := by decide +kernel
theorem d_FB_joined_11 : decode prog_1_method_12_code 11 = .ok (.iload_n 2, 1) := by decide +kernel
theorem d_FB_joined_12 : decode prog_1_method_12_code 12 = .ok (.invokevirtual 183, 3) := by decide +kernel
theorem d_FB_joined_15 : decode prog_1_method_12_code 15 = .ok (.ireturn, 1) := by decide +kernel
theorem lk_FB_183 : Cond.methodLink "FeastBook" 183 y_YearPlan_joinedTo ∈ TT := mT6 150 (by decide +kernel) (by decide +kernel)
set_option maxHeartbeats 4000000 in
set_option maxRecDepth 100000 in
theorem c_FB_joined {l : Launch} {D : va_G} {ad : Nat → Nat} {cA : Nat → ClassId} {sd sv : Nat → Nat} {h : Hp} {N : Nat} {a1 a2 : Int} {out : XO} (hI : Inj97 ad) (hst : l.stackTraces = false) (hM : M_FB_joined N h a1 a2 = some out) : vx_Met l y_FB_joined (.code y_FB_joined prog_1_method_12_code 3 (some .int) :: TT) (rmX 12 2 12) (PC D ad cA sd sv h [.ref (ad 0), .int (iZ a1), .int (iZ a2)]) (QX D ad cA out) (XT D ad cA out) 2 12 (FA ad) := by
  unfold M_FB_joined at hM
  refine entX (by decide +kernel) hI (Nat.le_of_ble_eq_true rfl) ?_
  intro p e s m args below meth c C hr hlk hnt hP ls hl
  have C : Cx p s m args c prog_1_method_12_code 3 "FeastBook" D ad cA sd sv (FA ad) := C
  have hl : lv_has ls 3 [(0, .ref (ad 0)), (1, .int (iZ a1)), (2, .int (iZ a2))] := hl
  have w : Wd s D ad cA (FA ad) h s.heap [] := ⟨hP, va_S.rf⟩
  refine m_aload_n C hl 0 d_FB_joined_0 rfl rfl ?_
  refine m_iload_n C hl 1 d_FB_joined_1 rfl rfl ?_
  refine m_iload_n C hl 2 d_FB_joined_2 rfl rfl ?_
  refine m_xcall (Qc := QX D ad cA) C w hnt hlk hM (fun q e1 => runVX C w.1 w.2 kc_FB sh_0 (Nat.le_of_ble_eq_true rfl) (c_FB_checkDay hI hst  e1) lk_FB_134 mb_FB_checkDay rfl ⟨Nat.le_of_ble_eq_true rfl, Nat.le_of_ble_eq_true rfl⟩ ⟨Nat.le_of_ble_eq_true rfl, Nat.le_of_ble_eq_true rfl⟩ (Nat.le_of_ble_eq_true rfl) d_FB_joined_3 hl.1 (rest := []) rfl) (Nat.le_of_ble_eq_true rfl) (Nat.le_of_ble_eq_true rfl) (fun _ h2 H locs w hM => ?_)
  refine m_aload_n C hl 0 d_FB_joined_6 rfl rfl ?_
  refine m_iload_n C hl 1 d_FB_joined_7 rfl rfl ?_
  obtain ⟨h4, e3, hM⟩ := bnd_some hM
  refine aftN C w (runV C w.1 w.2 kc_FB sh_0 (Nat.le_of_ble_eq_true rfl) (c_FB_settledYear hI e3) lk_FB_127 mb_FB_settledYear rfl ⟨Nat.le_of_ble_eq_true rfl, Nat.le_of_ble_eq_true rfl⟩ ⟨Nat.le_of_ble_eq_true rfl, Nat.le_of_ble_eq_true rfl⟩ (Nat.le_of_ble_eq_true rfl) d_FB_joined_8 hl.1 (rest := []) rfl) (fun H locs w => ?_)
  refine m_iload_n C hl 2 d_FB_joined_11 rfl rfl ?_
  obtain ⟨x6, e5, hM⟩ := bnd_some hM
  refine aftR (runV C w.1 w.2 kc_YearPlan sh_66 (Nat.le_of_ble_eq_true rfl) (c_YearPlan_joinedTo hI e5) lk_FB_183 mb_YearPlan_joinedTo rfl ⟨Nat.le_of_ble_eq_true rfl, Nat.le_of_ble_eq_true rfl⟩ ⟨Nat.le_of_ble_eq_true rfl, Nat.le_of_ble_eq_true rfl⟩ (Nat.le_of_ble_eq_true rfl) d_FB_joined_12 hl.1 (rest := []) rfl) ?_
  exact m_iretX C w hr hlk hM (Nat.le_of_ble_eq_true rfl) (Nat.le_of_ble_eq_true rfl) d_FB_joined_15
def y_FB_checkFeast : MethodName := ⟨"FeastBook", "checkFeast", "(I)V"⟩
theorem d_FB_checkFeast_0 : decode prog_1_method_48_code 0 = .ok (.iload_n 1, 1) := by decide +kernel
theorem d_FB_checkFeast_1 : decode prog_1_method_48_code 1 = .ok (.ifCond .lt 17, 3) := by decide +kernel
theorem d_FB_checkFeast_4 : decode prog_1_method_48_code 4 = .ok (.iload_n 1, 1) := by decide +kernel
theorem d_FB_checkFeast_5 : decode prog_1_method_48_code 5 = .ok (.aload_n 0, 1) := by decide +kernel
theorem d_FB_checkFeast_6 : decode prog_1_method_48_code 6 = .ok (.getfield 28, 3) := by decide +kernel
theorem d_FB_checkFeast_9 : decode prog_1_method_48_code 9 = .ok (.getfield 96, 3) := by decide +kernel
theorem d_FB_checkFeast_12 : decode prog_1_method_48_code 12 = .ok (.getfield 100, 3) := by decide +kernel
theorem d_FB_checkFeast_15 : decode prog_1_method_48_code 15 = .ok (.if_icmp .lt 14, 3) := by decide +kernel
theorem d_FB_checkFeast_18 : decode prog_1_method_48_code 18 = .ok (.new 380, 3) := by decide +kernel
theorem d_FB_checkFeast_21 : decode prog_1_method_48_code 21 = .ok (.dup, 1) := by decide +kernel
theorem d_FB_checkFeast_22 : decode prog_1_method_48_code 22 = .ok (.ldc_w 387, 3) := by decide +kernel
theorem d_FB_checkFeast_25 : decode prog_1_method_48_code 25 = .ok (.invokespecial 384, 3) := by decide +kernel
theorem d_FB_checkFeast_28 : decode prog_1_method_48_code 28 = .ok (.athrow, 1) := by decide +kernel
theorem d_FB_checkFeast_29 : decode prog_1_method_48_code 29 = .ok (.return_, 1) := by decide +kernel
set_option maxHeartbeats 4000000 in
set_option maxRecDepth 100000 in
theorem c_FB_checkFeast {l : Launch} {D : va_G} {ad : Nat → Nat} {cA : Nat → ClassId} {sd sv : Nat → Nat} {h : Hp} {a1 : Int} {out : XO} (hI : Inj97 ad) (hst : l.stackTraces = false) (hM : M_FB_checkFeast h a1 = some out) : vx_Met l y_FB_checkFeast (.code y_FB_checkFeast prog_1_method_48_code 2 none :: TT) (rmX 10 1 6) (PC D ad cA sd sv h [.ref (ad 0), .int (iZ a1)]) (QXV D ad cA out) (XT D ad cA out) 1 6 (FA ad) := by
  unfold M_FB_checkFeast at hM
  refine entX (by decide +kernel) hI (Nat.le_of_ble_eq_true rfl) ?_
  intro p e s m args below meth c C hr hlk hnt hP ls hl
  have C : Cx p s m args c prog_1_method_48_code 2 "FeastBook" D ad cA sd sv (FA ad) := C
  have hl : lv_has ls 2 [(0, .ref (ad 0)), (1, .int (iZ a1))] := hl
  have w : Wd s D ad cA (FA ad) h s.heap [] := ⟨hP, va_S.rf⟩
  refine m_iload_n C hl 1 d_FB_checkFeast_0 rfl rfl ?_
  refine m_if_lt C hM 18 d_FB_checkFeast_1 (by decide) (fun hM => ?_) (fun hM => ?_)
  · exact m_thrW (Qc := QXV D ad cA) (t := 40) hst C w hnt hl.1 hlk thw_1 (by decide) rfl (by decide) hM d_FB_checkFeast_18 d_FB_checkFeast_21 d_FB_checkFeast_22 d_FB_checkFeast_25 d_FB_checkFeast_28 (Nat.le_of_ble_eq_true rfl) (Nat.le_of_ble_eq_true rfl) (Nat.le_of_ble_eq_true rfl) (Nat.le_of_ble_eq_true rfl) (Nat.le_of_ble_eq_true rfl) (Nat.le_of_ble_eq_true rfl)
  · refine m_iload_n C hl 1 d_FB_checkFeast_4 rfl rfl ?_
    refine m_aload_n C hl 0 d_FB_checkFeast_5 rfl rfl ?_
    refine m_getr C w.1 kc_FB sh_0 (Nat.le_of_ble_eq_true rfl) 2 23 rfl (by decide) fk_FB_28 d_FB_checkFeast_6 ?_
    refine m_getr C w.1 kc_Book sh_23 (Nat.le_of_ble_eq_true rfl) 17 33 rfl (by decide) fk_FB_96 d_FB_checkFeast_9 ?_
    refine m_geti C w.1 kc_Feasts sh_33 (Nat.le_of_ble_eq_true rfl) 0 rfl (by decide) fk_FB_100 d_FB_checkFeast_12 ?_
    refine m_icmp_lt C hM 29 d_FB_checkFeast_15 (by decide) (fun hM => ?_) (fun hM => ?_)
    · exact m_vretX C w hr hlk hM (Nat.le_of_ble_eq_true rfl) (Nat.le_of_ble_eq_true rfl) d_FB_checkFeast_29
    · exact m_thrW (Qc := QXV D ad cA) (t := 40) hst C w hnt hl.1 hlk thw_1 (by decide) rfl (by decide) hM d_FB_checkFeast_18 d_FB_checkFeast_21 d_FB_checkFeast_22 d_FB_checkFeast_25 d_FB_checkFeast_28 (Nat.le_of_ble_eq_true rfl) (Nat.le_of_ble_eq_true rfl) (Nat.le_of_ble_eq_true rfl) (Nat.le_of_ble_eq_true rfl) (Nat.le_of_ble_eq_true rfl) (Nat.le_of_ble_eq_true rfl)
def y_FB_feast : MethodName := ⟨"FeastBook", "feast", "(II)I"⟩
theorem d_FB_feast_0 : decode prog_1_method_13_code 0 = .ok (.aload_n 0, 1) := by decide +kernel
theorem d_FB_feast_1 : decode prog_1_method_13_code 1 = .ok (.iload_n 1, 1) := by decide +kernel
theorem d_FB_feast_2 : decode prog_1_method_13_code 2 = .ok (.invokevirtual 186, 3) := by decide +kernel
theorem d_FB_feast_5 : decode prog_1_method_13_code 5 = .ok (.iload_n 2, 1) := by decide +kernel
theorem d_FB_feast_6 : decode prog_1_method_13_code 6 = .ok (.bipush 6, 2) := by decide +kernel
theorem d_FB_feast_8 : decode prog_1_method_13_code 8 = .ok (.invokestatic 106, 3) := by decide +kernel
theorem d_FB_feast_11 : decode prog_1_method_13_code 11 = .ok (.aload_n 0, 1) := by decide +kernel
theorem d_FB_feast_12 : decode prog_1_method_13_code 12 = .ok (.getfield 28, 3) := by decide +kernel
theorem d_FB_feast_15 : decode prog_1_method_13_code 15 = .ok (.getfield 96, 3) := by decide +kernel
theorem d_FB_feast_18 : decode prog_1_method_13_code 18 = .ok (.astore_n 3, 1) := by decide +kernel
theorem d_FB_feast_19 : decode prog_1_method_13_code 19 = .ok (.iload_n 2, 1) := by decide +kernel
theorem d_FB_feast_20 : decode prog_1_method_13_code 20 = .ok (.tableswitch 89 0 5 #[40, 47, 61, 68, 75, 82], 40) := by decide +kernel
theorem d_FB_feast_60 : decode prog_1_method_13_code 60 = .ok (.aload_n 3, 1) := by decide +kernel
theorem d_FB_feast_61 : decode prog_1_method_13_code 61 = .ok (.getfield 189, 3) := by decide +kernel
theorem d_FB_feast_64 : decode prog_1_method_13_code 64 = .ok (.iload_n 1, 1) := by decide +kernel
theorem d_FB_feast_65 : decode prog_1_method_13_code 65 = .ok (.iaload, 1) := by decide +kernel
theorem d_FB_feast_66 : decode prog_1_method_13_code 66 = .ok (.ireturn, 1) := by decide +kernel
theorem d_FB_feast_67 : decode prog_1_method_13_code 67 = .ok (.aload_n 3, 1) := by decide +kernel
theorem d_FB_feast_68 : decode prog_1_method_13_code 68 = .ok (.iload_n 1, 1) := by decide +kernel
theorem d_FB_feast_69 : decode prog_1_method_13_code 69 = .ok (.invokevirtual 192, 3) := by decide +kernel
theorem d_FB_feast_72 : decode prog_1_method_13_code 72 = .ok (.ifCond .eq 7, 3) := by decide +kernel
theorem d_FB_feast_75 : decode prog_1_method_13_code 75 = .ok (.iconst 1, 1) := by decide +kernel
theorem d_FB_feast_76 : decode prog_1_method_13_code 76 = .ok (.goto 4, 3) := by decide +kernel
theorem d_FB_feast_79 : decode prog_1_method_13_code 79 = .ok (.iconst 0, 1) := by decide +kernel
theorem d_FB_feast_80 : decode prog_1_method_13_code 80 = .ok (.ireturn, 1) := by decide +kernel
theorem d_FB_feast_81 : decode prog_1_method_13_code 81 = .ok (.aload_n 3, 1) := by decide +kernel
theorem d_FB_feast_82 : decode prog_1_method_13_code 82 = .ok (.getfield 195, 3) := by decide +kernel
theorem d_FB_feast_85 : decode prog_1_method_13_code 85 = .ok (.iload_n 1, 1) := by decide +kernel
theorem d_FB_feast_86 : decode prog_1_method_13_code 86 = .ok (.iaload, 1) := by decide +kernel
theorem d_FB_feast_87 : decode prog_1_method_13_code 87 = .ok (.ireturn, 1) := by decide +kernel
theorem d_FB_feast_88 : decode prog_1_method_13_code 88 = .ok (.aload_n 3, 1) := by decide +kernel
theorem d_FB_feast_89 : decode prog_1_method_13_code 89 = .ok (.getfield 198, 3) := by decide +kernel
theorem d_FB_feast_92 : decode prog_1_method_13_code 92 = .ok (.iload_n 1, 1) := by decide +kernel
theorem d_FB_feast_93 : decode prog_1_method_13_code 93 = .ok (.iaload, 1) := by decide +kernel
theorem d_FB_feast_94 : decode prog_1_method_13_code 94 = .ok (.ireturn, 1) := by decide +kernel
theorem d_FB_feast_95 : decode prog_1_method_13_code 95 = .ok (.aload_n 3, 1) := by decide +kernel
theorem d_FB_feast_96 : decode prog_1_method_13_code 96 = .ok (.getfield 201, 3) := by decide +kernel
theorem d_FB_feast_99 : decode prog_1_method_13_code 99 = .ok (.iload_n 1, 1) := by decide +kernel
theorem d_FB_feast_100 : decode prog_1_method_13_code 100 = .ok (.iaload, 1) := by decide +kernel
theorem d_FB_feast_101 : decode prog_1_method_13_code 101 = .ok (.ireturn, 1) := by decide +kernel
theorem d_FB_feast_102 : decode prog_1_method_13_code 102 = .ok (.aload_n 3, 1) := by decide +kernel
theorem d_FB_feast_103 : decode prog_1_method_13_code 103 = .ok (.getfield 204, 3) := by decide +kernel
theorem d_FB_feast_106 : decode prog_1_method_13_code 106 = .ok (.iload_n 1, 1) := by decide +kernel
theorem d_FB_feast_107 : decode prog_1_method_13_code 107 = .ok (.iaload, 1) := by decide +kernel
theorem d_FB_feast_108 : decode prog_1_method_13_code 108 = .ok (.ireturn, 1) := by decide +kernel
theorem d_FB_feast_109 : decode prog_1_method_13_code 109 = .ok (.aload_n 3, 1) := by decide +kernel
theorem d_FB_feast_110 : decode prog_1_method_13_code 110 = .ok (.getfield 207, 3) := by decide +kernel
theorem d_FB_feast_113 : decode prog_1_method_13_code 113 = .ok (.iload_n 1, 1) := by decide +kernel
theorem d_FB_feast_114 : decode prog_1_method_13_code 114 = .ok (.iaload, 1) := by decide +kernel
theorem d_FB_feast_115 : decode prog_1_method_13_code 115 = .ok (.ireturn, 1) := by decide +kernel
theorem mb_FB_checkFeast : MBv R_FB y_FB_checkFeast prog_1_method_48_code 2 none 1 := ⟨mT6 160 (by decide +kernel) (by decide +kernel), mTs 5 (by decide +kernel) (by decide +kernel), mT1 1 (by decide +kernel) (by decide +kernel), mT6 161 (by decide +kernel) (by decide +kernel), by decide, rfl, by decide +kernel, by decide +kernel, by decide +kernel⟩
theorem fk_FB_204 : Cond.fieldLink "FeastBook" 204 (T_Feasts 5).1 (T_Feasts 5).2.1 (T_Feasts 5).2.2.1 ∈ TT := mT1 121 (by decide +kernel) (by decide +kernel)
theorem fk_FB_207 : Cond.fieldLink "FeastBook" 207 (T_Feasts 6).1 (T_Feasts 6).2.1 (T_Feasts 6).2.2.1 ∈ TT := mT1 124 (by decide +kernel) (by decide +kernel)
theorem lk_FB_186 : Cond.methodLink "FeastBook" 186 y_FB_checkFeast ∈ TT := mT6 158 (by decide +kernel) (by decide +kernel)
theorem lk_FB_192 : Cond.methodLink "FeastBook" 192 y_Feasts_isMoving ∈ TT := mT6 163 (by decide +kernel) (by decide +kernel)
set_option maxHeartbeats 4000000 in
set_option maxRecDepth 100000 in
theorem c_FB_feast {l : Launch} {D : va_G} {ad : Nat → Nat} {cA : Nat → ClassId} {sd sv : Nat → Nat} {h : Hp} {a1 a2 : Int} {out : XO} (hI : Inj97 ad) (hst : l.stackTraces = false) (hM : M_FB_feast h a1 a2 = some out) : vx_Met l y_FB_feast (.code y_FB_feast prog_1_method_13_code 4 (some .int) :: TT) (rmX 11 2 12) (PC D ad cA sd sv h [.ref (ad 0), .int (iZ a1), .int (iZ a2)]) (QX D ad cA out) (XT D ad cA out) 2 12 (FA ad) := by
  unfold M_FB_feast at hM
  refine entX (by decide +kernel) hI (Nat.le_of_ble_eq_true rfl) ?_
  intro p e s m args below meth c C hr hlk hnt hP ls hl
  have C : Cx p s m args c prog_1_method_13_code 4 "FeastBook" D ad cA sd sv (FA ad) := C
  have hl : lv_has ls 4 [(0, .ref (ad 0)), (1, .int (iZ a1)), (2, .int (iZ a2))] := hl
  have w : Wd s D ad cA (FA ad) h s.heap [] := ⟨hP, va_S.rf⟩
  refine m_aload_n C hl 0 d_FB_feast_0 rfl rfl ?_
  refine m_iload_n C hl 1 d_FB_feast_1 rfl rfl ?_
  refine m_xcall (Qc := QX D ad cA) C w hnt hlk hM (fun q e1 => runVX C w.1 w.2 kc_FB sh_0 (Nat.le_of_ble_eq_true rfl) (c_FB_checkFeast hI hst  e1) lk_FB_186 mb_FB_checkFeast rfl ⟨Nat.le_of_ble_eq_true rfl, Nat.le_of_ble_eq_true rfl⟩ ⟨Nat.le_of_ble_eq_true rfl, Nat.le_of_ble_eq_true rfl⟩ (Nat.le_of_ble_eq_true rfl) d_FB_feast_2 hl.1 (rest := []) rfl) (Nat.le_of_ble_eq_true rfl) (Nat.le_of_ble_eq_true rfl) (fun _ h2 H locs w hM => ?_)
  refine m_iload_n C hl 2 d_FB_feast_5 rfl rfl ?_
  refine m_bipush C d_FB_feast_6 (by decide) ?_
  refine m_xcall (Qc := QX D ad cA) C w hnt hlk hM (fun q e3 => runSX C w.1 w.2 (c_FB_checkWhat hI hst  e3) lk_FB_106 mb_FB_checkWhat rfl ⟨Nat.le_of_ble_eq_true rfl, Nat.le_of_ble_eq_true rfl⟩ ⟨Nat.le_of_ble_eq_true rfl, Nat.le_of_ble_eq_true rfl⟩ (Nat.le_of_ble_eq_true rfl) d_FB_feast_8 hl.1 (rest := []) rfl) (Nat.le_of_ble_eq_true rfl) (Nat.le_of_ble_eq_true rfl) (fun _ h4 H locs w hM => ?_)
  refine m_aload_n C hl 0 d_FB_feast_11 rfl rfl ?_
  refine m_getr C w.1 kc_FB sh_0 (Nat.le_of_ble_eq_true rfl) 2 23 rfl (by decide) fk_FB_28 d_FB_feast_12 ?_
  refine m_getr C w.1 kc_Book sh_23 (Nat.le_of_ble_eq_true rfl) 17 33 rfl (by decide) fk_FB_96 d_FB_feast_15 ?_
  refine m_astore_n C hl [(3, .ref (ad 33)), (0, .ref (ad 0)), (1, .int (iZ a1)), (2, .int (iZ a2))] d_FB_feast_18 rfl (by decide) rfl (fun ls hl => ?_)
  refine m_iload_n C hl 3 d_FB_feast_19 rfl rfl ?_
  refine m_swc 0 hM (fun ek hM => ?_) (fun hn0 hM => ?_)
  · refine lv_tableIn C.1 C.2.1 d_FB_feast_20 (tgt := 60) (off := 40) (by rw [ek]; decide) (by rw [ek]; decide) (by rw [ek]; rfl) (by decide) ?_
    refine m_aload_n C hl 0 d_FB_feast_60 rfl rfl ?_
    refine m_getr C w.1 kc_Feasts sh_33 (Nat.le_of_ble_eq_true rfl) 1 34 rfl (by decide) fk_FB_189 d_FB_feast_61 ?_
    refine m_iload_n C hl 2 d_FB_feast_64 rfl rfl ?_
    refine m_iald C w.1 sh_34 (Nat.le_of_ble_eq_true rfl) (Nat.le_of_ble_eq_true rfl) hM d_FB_feast_65 (fun x5 hM => ?_)
    exact m_iretX C w hr hlk hM (Nat.le_of_ble_eq_true rfl) (Nat.le_of_ble_eq_true rfl) d_FB_feast_66
  · refine m_swc 1 hM (fun ek hM => ?_) (fun hn1 hM => ?_)
    · refine lv_tableIn C.1 C.2.1 d_FB_feast_20 (tgt := 67) (off := 47) (by rw [ek]; decide) (by rw [ek]; decide) (by rw [ek]; rfl) (by decide) ?_
      refine m_aload_n C hl 0 d_FB_feast_67 rfl rfl ?_
      refine m_iload_n C hl 2 d_FB_feast_68 rfl rfl ?_
      obtain ⟨x7, e6, hM⟩ := bnd_some hM
      refine aftR (runV C w.1 w.2 kc_Feasts sh_33 (Nat.le_of_ble_eq_true rfl) (c_Feasts_isMoving hI (Or.inr (Or.inl rfl)) e6) lk_FB_192 mb_Feasts_isMoving rfl ⟨Nat.le_of_ble_eq_true rfl, Nat.le_of_ble_eq_true rfl⟩ ⟨Nat.le_of_ble_eq_true rfl, Nat.le_of_ble_eq_true rfl⟩ (Nat.le_of_ble_eq_true rfl) d_FB_feast_69 hl.1 (rest := []) rfl) ?_
      refine m_if_eq C hM 79 d_FB_feast_72 (by decide) (fun hM => ?_) (fun hM => ?_)
      · refine m_iconst C d_FB_feast_79 ?_
        exact m_iretX C w hr hlk hM (Nat.le_of_ble_eq_true rfl) (Nat.le_of_ble_eq_true rfl) d_FB_feast_80
      · refine m_iconst C d_FB_feast_75 ?_
        refine m_goto C 80 d_FB_feast_76 (by decide) ?_
        exact m_iretX C w hr hlk hM (Nat.le_of_ble_eq_true rfl) (Nat.le_of_ble_eq_true rfl) d_FB_feast_80
    · refine m_swc 2 hM (fun ek hM => ?_) (fun hn2 hM => ?_)
      · refine lv_tableIn C.1 C.2.1 d_FB_feast_20 (tgt := 81) (off := 61) (by rw [ek]; decide) (by rw [ek]; decide) (by rw [ek]; rfl) (by decide) ?_
        refine m_aload_n C hl 0 d_FB_feast_81 rfl rfl ?_
        refine m_getr C w.1 kc_Feasts sh_33 (Nat.le_of_ble_eq_true rfl) 2 35 rfl (by decide) fk_FB_195 d_FB_feast_82 ?_
        refine m_iload_n C hl 2 d_FB_feast_85 rfl rfl ?_
        refine m_iald C w.1 sh_35 (Nat.le_of_ble_eq_true rfl) (Nat.le_of_ble_eq_true rfl) hM d_FB_feast_86 (fun x8 hM => ?_)
        exact m_iretX C w hr hlk hM (Nat.le_of_ble_eq_true rfl) (Nat.le_of_ble_eq_true rfl) d_FB_feast_87
      · refine m_swc 3 hM (fun ek hM => ?_) (fun hn3 hM => ?_)
        · refine lv_tableIn C.1 C.2.1 d_FB_feast_20 (tgt := 88) (off := 68) (by rw [ek]; decide) (by rw [ek]; decide) (by rw [ek]; rfl) (by decide) ?_
          refine m_aload_n C hl 0 d_FB_feast_88 rfl rfl ?_
          refine m_getr C w.1 kc_Feasts sh_33 (Nat.le_of_ble_eq_true rfl) 3 36 rfl (by decide) fk_FB_198 d_FB_feast_89 ?_
          refine m_iload_n C hl 2 d_FB_feast_92 rfl rfl ?_
          refine m_iald C w.1 sh_36 (Nat.le_of_ble_eq_true rfl) (Nat.le_of_ble_eq_true rfl) hM d_FB_feast_93 (fun x9 hM => ?_)
          exact m_iretX C w hr hlk hM (Nat.le_of_ble_eq_true rfl) (Nat.le_of_ble_eq_true rfl) d_FB_feast_94
        · refine m_swc 4 hM (fun ek hM => ?_) (fun hn4 hM => ?_)
          · refine lv_tableIn C.1 C.2.1 d_FB_feast_20 (tgt := 95) (off := 75) (by rw [ek]; decide) (by rw [ek]; decide) (by rw [ek]; rfl) (by decide) ?_
            refine m_aload_n C hl 0 d_FB_feast_95 rfl rfl ?_
            refine m_getr C w.1 kc_Feasts sh_33 (Nat.le_of_ble_eq_true rfl) 4 37 rfl (by decide) fk_FB_201 d_FB_feast_96 ?_
            refine m_iload_n C hl 2 d_FB_feast_99 rfl rfl ?_
            refine m_iald C w.1 sh_37 (Nat.le_of_ble_eq_true rfl) (Nat.le_of_ble_eq_true rfl) hM d_FB_feast_100 (fun x10 hM => ?_)
            exact m_iretX C w hr hlk hM (Nat.le_of_ble_eq_true rfl) (Nat.le_of_ble_eq_true rfl) d_FB_feast_101
          · refine m_swc 5 hM (fun ek hM => ?_) (fun hn5 hM => ?_)
            · refine lv_tableIn C.1 C.2.1 d_FB_feast_20 (tgt := 102) (off := 82) (by rw [ek]; decide) (by rw [ek]; decide) (by rw [ek]; rfl) (by decide) ?_
              refine m_aload_n C hl 0 d_FB_feast_102 rfl rfl ?_
              refine m_getr C w.1 kc_Feasts sh_33 (Nat.le_of_ble_eq_true rfl) 5 38 rfl (by decide) fk_FB_204 d_FB_feast_103 ?_
              refine m_iload_n C hl 2 d_FB_feast_106 rfl rfl ?_
              refine m_iald C w.1 sh_38 (Nat.le_of_ble_eq_true rfl) (Nat.le_of_ble_eq_true rfl) hM d_FB_feast_107 (fun x11 hM => ?_)
              exact m_iretX C w hr hlk hM (Nat.le_of_ble_eq_true rfl) (Nat.le_of_ble_eq_true rfl) d_FB_feast_108
            · refine lv_tableOut C.1 C.2.1 d_FB_feast_20 (tgt := 109) ?_ (by decide) ?_
              · have g0 := lv_neT hn0 (show (iZ 0).toInt = 0 from rfl); have g1 := lv_neT hn1 (show (iZ 1).toInt = 1 from rfl); have g2 := lv_neT hn2 (show (iZ 2).toInt = 2 from rfl); have g3 := lv_neT hn3 (show (iZ 3).toInt = 3 from rfl); have g4 := lv_neT hn4 (show (iZ 4).toInt = 4 from rfl); have g5 := lv_neT hn5 (show (iZ 5).toInt = 5 from rfl); omega
              · refine m_aload_n C hl 0 d_FB_feast_109 rfl rfl ?_
                refine m_getr C w.1 kc_Feasts sh_33 (Nat.le_of_ble_eq_true rfl) 6 39 rfl (by decide) fk_FB_207 d_FB_feast_110 ?_
                refine m_iload_n C hl 2 d_FB_feast_113 rfl rfl ?_
                refine m_iald C w.1 sh_39 (Nat.le_of_ble_eq_true rfl) (Nat.le_of_ble_eq_true rfl) hM d_FB_feast_114 (fun x12 hM => ?_)
                exact m_iretX C w hr hlk hM (Nat.le_of_ble_eq_true rfl) (Nat.le_of_ble_eq_true rfl) d_FB_feast_115
def y_FB_of : MethodName := ⟨"FeastBook", "of", "(III)I"⟩
theorem d_FB_of_0 : decode prog_1_method_14_code 0 = .ok (.aload_n 0, 1) := by decide +kernel
theorem d_FB_of_1 : decode prog_1_method_14_code 1 = .ok (.iload_n 1, 1) := by decide +kernel
theorem d_FB_of_2 : decode prog_1_method_14_code 2 = .ok (.invokevirtual 186, 3) := by decide +kernel
theorem d_FB_of_5 : decode prog_1_method_14_code 5 = .ok (.aload_n 0, 1) := by decide +kernel
theorem d_FB_of_6 : decode prog_1_method_14_code 6 = .ok (.iload_n 2, 1) := by decide +kernel
theorem d_FB_of_7 : decode prog_1_method_14_code 7 = .ok (.invokevirtual 103, 3) := by decide +kernel
theorem d_FB_of_10 : decode prog_1_method_14_code 10 = .ok (.iload_n 3, 1) := by decide +kernel
theorem d_FB_of_11 : decode prog_1_method_14_code 11 = .ok (.iconst 4, 1) := by decide +kernel
theorem d_FB_of_12 : decode prog_1_method_14_code 12 = .ok (.invokestatic 106, 3) := by decide +kernel
theorem d_FB_of_15 : decode prog_1_method_14_code 15 = .ok (.aload_n 0, 1) := by decide +kernel
theorem d_FB_of_16 : decode prog_1_method_14_code 16 = .ok (.iload_n 2, 1) := by decide +kernel
theorem d_FB_of_17 : decode prog_1_method_14_code 17 = .ok (.invokevirtual 127, 3) := by decide +kernel
theorem d_FB_of_20 : decode prog_1_method_14_code 20 = .ok (.astore 4, 2) := by decide +kernel
theorem d_FB_of_22 : decode prog_1_method_14_code 22 = .ok (.iload_n 3, 1) := by decide +kernel
theorem d_FB_of_23 : decode prog_1_method_14_code 23 = .ok (.tableswitch 60 0 3 #[29, 37, 45, 53], 29) := by decide +kernel
theorem d_FB_of_52 : decode prog_1_method_14_code 52 = .ok (.aload 4, 2) := by decide +kernel
theorem d_FB_of_54 : decode prog_1_method_14_code 54 = .ok (.getfield 210, 3) := by decide +kernel
theorem d_FB_of_57 : decode prog_1_method_14_code 57 = .ok (.iload_n 1, 1) := by decide +kernel
theorem d_FB_of_58 : decode prog_1_method_14_code 58 = .ok (.iaload, 1) := by decide +kernel
theorem d_FB_of_59 : decode prog_1_method_14_code 59 = .ok (.ireturn, 1) := by decide +kernel
theorem d_FB_of_60 : decode prog_1_method_14_code 60 = .ok (.aload 4, 2) := by decide +kernel
theorem d_FB_of_62 : decode prog_1_method_14_code 62 = .ok (.getfield 213, 3) := by decide +kernel
theorem d_FB_of_65 : decode prog_1_method_14_code 65 = .ok (.iload_n 1, 1) := by decide +kernel
theorem d_FB_of_66 : decode prog_1_method_14_code 66 = .ok (.iaload, 1) := by decide +kernel
theorem d_FB_of_67 : decode prog_1_method_14_code 67 = .ok (.ireturn, 1) := by decide +kernel
theorem d_FB_of_68 : decode prog_1_method_14_code 68 = .ok (.aload 4, 2) := by decide +kernel
theorem d_FB_of_70 : decode prog_1_method_14_code 70 = .ok (.getfield 216, 3) := by decide +kernel
theorem d_FB_of_73 : decode prog_1_method_14_code 73 = .ok (.iload_n 1, 1) := by decide +kernel
theorem d_FB_of_74 : decode prog_1_method_14_code 74 = .ok (.iaload, 1) := by decide +kernel
theorem d_FB_of_75 : decode prog_1_method_14_code 75 = .ok (.ireturn, 1) := by decide +kernel
theorem d_FB_of_76 : decode prog_1_method_14_code 76 = .ok (.aload 4, 2) := by decide +kernel
theorem d_FB_of_78 : decode prog_1_method_14_code 78 = .ok (.iload_n 1, 1) := by decide +kernel
theorem d_FB_of_79 : decode prog_1_method_14_code 79 = .ok (.invokevirtual 219, 3) := by decide +kernel
theorem d_FB_of_82 : decode prog_1_method_14_code 82 = .ok (.ireturn, 1) := by decide +kernel
theorem d_FB_of_83 : decode prog_1_method_14_code 83 = .ok (.aload 4, 2) := by decide +kernel
theorem d_FB_of_85 : decode prog_1_method_14_code 85 = .ok (.iload_n 1, 1) := by decide +kernel
theorem d_FB_of_86 : decode prog_1_method_14_code 86 = .ok (.invokevirtual 222, 3) := by decide +kernel
theorem d_FB_of_89 : decode prog_1_method_14_code 89 = .ok (.ireturn, 1) := by decide +kernel
theorem mb_YearPlan_kindYieldedTo : MBv R_YearPlan y_YearPlan_kindYieldedTo prog_11_method_20_code 2 (some .int) 1 := ⟨mT6 176 (by decide +kernel) (by decide +kernel), mT6 177 (by decide +kernel) (by decide +kernel), mT1 8 (by decide +kernel) (by decide +kernel), mT6 178 (by decide +kernel) (by decide +kernel), by decide, rfl, by decide +kernel, by decide +kernel, by decide +kernel⟩
theorem fk_FB_210 : Cond.fieldLink "FeastBook" 210 (T_YearPlan 8).1 (T_YearPlan 8).2.1 (T_YearPlan 8).2.2.1 ∈ TT := mT2 79 (by decide +kernel) (by decide +kernel)
theorem fk_FB_213 : Cond.fieldLink "FeastBook" 213 (T_YearPlan 10).1 (T_YearPlan 10).2.1 (T_YearPlan 10).2.2.1 ∈ TT := mT2 83 (by decide +kernel) (by decide +kernel)
theorem fk_FB_216 : Cond.fieldLink "FeastBook" 216 (T_YearPlan 11).1 (T_YearPlan 11).2.1 (T_YearPlan 11).2.2.1 ∈ TT := mT2 86 (by decide +kernel) (by decide +kernel)
theorem lk_FB_219 : Cond.methodLink "FeastBook" 219 y_YearPlan_yieldedTo ∈ TT := mT6 171 (by decide +kernel) (by decide +kernel)
theorem lk_FB_222 : Cond.methodLink "FeastBook" 222 y_YearPlan_kindYieldedTo ∈ TT := mT6 175 (by decide +kernel) (by decide +kernel)
set_option maxHeartbeats 4000000 in
set_option maxRecDepth 100000 in
theorem c_FB_of {l : Launch} {D : va_G} {ad : Nat → Nat} {cA : Nat → ClassId} {sd sv : Nat → Nat} {h : Hp} {N : Nat} {a1 a2 a3 : Int} {out : XO} (hI : Inj97 ad) (hst : l.stackTraces = false) (hM : M_FB_of N h a1 a2 a3 = some out) : vx_Met l y_FB_of (.code y_FB_of prog_1_method_14_code 5 (some .int) :: TT) (rmX 11 3 18) (PC D ad cA sd sv h [.ref (ad 0), .int (iZ a1), .int (iZ a2), .int (iZ a3)]) (QX D ad cA out) (XT D ad cA out) 3 18 (FA ad) := by
  unfold M_FB_of at hM
  refine entX (by decide +kernel) hI (Nat.le_of_ble_eq_true rfl) ?_
  intro p e s m args below meth c C hr hlk hnt hP ls hl
  have C : Cx p s m args c prog_1_method_14_code 5 "FeastBook" D ad cA sd sv (FA ad) := C
  have hl : lv_has ls 5 [(0, .ref (ad 0)), (1, .int (iZ a1)), (2, .int (iZ a2)), (3, .int (iZ a3))] := hl
  have w : Wd s D ad cA (FA ad) h s.heap [] := ⟨hP, va_S.rf⟩
  refine m_aload_n C hl 0 d_FB_of_0 rfl rfl ?_
  refine m_iload_n C hl 1 d_FB_of_1 rfl rfl ?_
  refine m_xcall (Qc := QX D ad cA) C w hnt hlk hM (fun q e1 => runVX C w.1 w.2 kc_FB sh_0 (Nat.le_of_ble_eq_true rfl) (c_FB_checkFeast hI hst  e1) lk_FB_186 mb_FB_checkFeast rfl ⟨Nat.le_of_ble_eq_true rfl, Nat.le_of_ble_eq_true rfl⟩ ⟨Nat.le_of_ble_eq_true rfl, Nat.le_of_ble_eq_true rfl⟩ (Nat.le_of_ble_eq_true rfl) d_FB_of_2 hl.1 (rest := []) rfl) (Nat.le_of_ble_eq_true rfl) (Nat.le_of_ble_eq_true rfl) (fun _ h2 H locs w hM => ?_)
  refine m_aload_n C hl 0 d_FB_of_5 rfl rfl ?_
  refine m_iload_n C hl 2 d_FB_of_6 rfl rfl ?_
  refine m_xcall (Qc := QX D ad cA) C w hnt hlk hM (fun q e3 => runVX C w.1 w.2 kc_FB sh_0 (Nat.le_of_ble_eq_true rfl) (c_FB_checkYear hI hst  e3) lk_FB_103 mb_FB_checkYear rfl ⟨Nat.le_of_ble_eq_true rfl, Nat.le_of_ble_eq_true rfl⟩ ⟨Nat.le_of_ble_eq_true rfl, Nat.le_of_ble_eq_true rfl⟩ (Nat.le_of_ble_eq_true rfl) d_FB_of_7 hl.1 (rest := []) rfl) (Nat.le_of_ble_eq_true rfl) (Nat.le_of_ble_eq_true rfl) (fun _ h4 H locs w hM => ?_)
  refine m_iload_n C hl 3 d_FB_of_10 rfl rfl ?_
  refine m_iconst C d_FB_of_11 ?_
  refine m_xcall (Qc := QX D ad cA) C w hnt hlk hM (fun q e5 => runSX C w.1 w.2 (c_FB_checkWhat hI hst  e5) lk_FB_106 mb_FB_checkWhat rfl ⟨Nat.le_of_ble_eq_true rfl, Nat.le_of_ble_eq_true rfl⟩ ⟨Nat.le_of_ble_eq_true rfl, Nat.le_of_ble_eq_true rfl⟩ (Nat.le_of_ble_eq_true rfl) d_FB_of_12 hl.1 (rest := []) rfl) (Nat.le_of_ble_eq_true rfl) (Nat.le_of_ble_eq_true rfl) (fun _ h6 H locs w hM => ?_)
  refine m_aload_n C hl 0 d_FB_of_15 rfl rfl ?_
  refine m_iload_n C hl 2 d_FB_of_16 rfl rfl ?_
  obtain ⟨h8, e7, hM⟩ := bnd_some hM
  refine aftN C w (runV C w.1 w.2 kc_FB sh_0 (Nat.le_of_ble_eq_true rfl) (c_FB_settledYear hI e7) lk_FB_127 mb_FB_settledYear rfl ⟨Nat.le_of_ble_eq_true rfl, Nat.le_of_ble_eq_true rfl⟩ ⟨Nat.le_of_ble_eq_true rfl, Nat.le_of_ble_eq_true rfl⟩ (Nat.le_of_ble_eq_true rfl) d_FB_of_17 hl.1 (rest := []) rfl) (fun H locs w => ?_)
  refine m_astore C hl [(4, .ref (ad 66)), (0, .ref (ad 0)), (1, .int (iZ a1)), (2, .int (iZ a2)), (3, .int (iZ a3))] d_FB_of_20 (by decide) rfl (fun ls hl => ?_)
  refine m_iload_n C hl 4 d_FB_of_22 rfl rfl ?_
  refine m_swc 0 hM (fun ek hM => ?_) (fun hn0 hM => ?_)
  · refine lv_tableIn C.1 C.2.1 d_FB_of_23 (tgt := 52) (off := 29) (by rw [ek]; decide) (by rw [ek]; decide) (by rw [ek]; rfl) (by decide) ?_
    refine m_aload C hl 0 d_FB_of_52 rfl ?_
    refine m_getr C w.1 kc_YearPlan sh_66 (Nat.le_of_ble_eq_true rfl) 8 69 rfl (by decide) fk_FB_210 d_FB_of_54 ?_
    refine m_iload_n C hl 2 d_FB_of_57 rfl rfl ?_
    refine m_iald C w.1 sh_69 (Nat.le_of_ble_eq_true rfl) (Nat.le_of_ble_eq_true rfl) hM d_FB_of_58 (fun x9 hM => ?_)
    exact m_iretX C w hr hlk hM (Nat.le_of_ble_eq_true rfl) (Nat.le_of_ble_eq_true rfl) d_FB_of_59
  · refine m_swc 1 hM (fun ek hM => ?_) (fun hn1 hM => ?_)
    · refine lv_tableIn C.1 C.2.1 d_FB_of_23 (tgt := 60) (off := 37) (by rw [ek]; decide) (by rw [ek]; decide) (by rw [ek]; rfl) (by decide) ?_
      refine m_aload C hl 0 d_FB_of_60 rfl ?_
      refine m_getr C w.1 kc_YearPlan sh_66 (Nat.le_of_ble_eq_true rfl) 10 71 rfl (by decide) fk_FB_213 d_FB_of_62 ?_
      refine m_iload_n C hl 2 d_FB_of_65 rfl rfl ?_
      refine m_iald C w.1 sh_71 (Nat.le_of_ble_eq_true rfl) (Nat.le_of_ble_eq_true rfl) hM d_FB_of_66 (fun x10 hM => ?_)
      exact m_iretX C w hr hlk hM (Nat.le_of_ble_eq_true rfl) (Nat.le_of_ble_eq_true rfl) d_FB_of_67
    · refine m_swc 2 hM (fun ek hM => ?_) (fun hn2 hM => ?_)
      · refine lv_tableIn C.1 C.2.1 d_FB_of_23 (tgt := 68) (off := 45) (by rw [ek]; decide) (by rw [ek]; decide) (by rw [ek]; rfl) (by decide) ?_
        refine m_aload C hl 0 d_FB_of_68 rfl ?_
        refine m_getr C w.1 kc_YearPlan sh_66 (Nat.le_of_ble_eq_true rfl) 11 72 rfl (by decide) fk_FB_216 d_FB_of_70 ?_
        refine m_iload_n C hl 2 d_FB_of_73 rfl rfl ?_
        refine m_iald C w.1 sh_72 (Nat.le_of_ble_eq_true rfl) (Nat.le_of_ble_eq_true rfl) hM d_FB_of_74 (fun x11 hM => ?_)
        exact m_iretX C w hr hlk hM (Nat.le_of_ble_eq_true rfl) (Nat.le_of_ble_eq_true rfl) d_FB_of_75
      · refine m_swc 3 hM (fun ek hM => ?_) (fun hn3 hM => ?_)
        · refine lv_tableIn C.1 C.2.1 d_FB_of_23 (tgt := 76) (off := 53) (by rw [ek]; decide) (by rw [ek]; decide) (by rw [ek]; rfl) (by decide) ?_
          refine m_aload C hl 0 d_FB_of_76 rfl ?_
          refine m_iload_n C hl 2 d_FB_of_78 rfl rfl ?_
          obtain ⟨x13, e12, hM⟩ := bnd_some hM
          refine aftR (runV C w.1 w.2 kc_YearPlan sh_66 (Nat.le_of_ble_eq_true rfl) (c_YearPlan_yieldedTo hI e12) lk_FB_219 mb_YearPlan_yieldedTo rfl ⟨Nat.le_of_ble_eq_true rfl, Nat.le_of_ble_eq_true rfl⟩ ⟨Nat.le_of_ble_eq_true rfl, Nat.le_of_ble_eq_true rfl⟩ (Nat.le_of_ble_eq_true rfl) d_FB_of_79 hl.1 (rest := []) rfl) ?_
          exact m_iretX C w hr hlk hM (Nat.le_of_ble_eq_true rfl) (Nat.le_of_ble_eq_true rfl) d_FB_of_82
        · refine lv_tableOut C.1 C.2.1 d_FB_of_23 (tgt := 83) ?_ (by decide) ?_
          · have g0 := lv_neT hn0 (show (iZ 0).toInt = 0 from rfl); have g1 := lv_neT hn1 (show (iZ 1).toInt = 1 from rfl); have g2 := lv_neT hn2 (show (iZ 2).toInt = 2 from rfl); have g3 := lv_neT hn3 (show (iZ 3).toInt = 3 from rfl); omega
          · refine m_aload C hl 0 d_FB_of_83 rfl ?_
            refine m_iload_n C hl 2 d_FB_of_85 rfl rfl ?_
            obtain ⟨x15, e14, hM⟩ := bnd_some hM
            refine aftR (runV C w.1 w.2 kc_YearPlan sh_66 (Nat.le_of_ble_eq_true rfl) (c_YearPlan_kindYieldedTo hI e14) lk_FB_222 mb_YearPlan_kindYieldedTo rfl ⟨Nat.le_of_ble_eq_true rfl, Nat.le_of_ble_eq_true rfl⟩ ⟨Nat.le_of_ble_eq_true rfl, Nat.le_of_ble_eq_true rfl⟩ (Nat.le_of_ble_eq_true rfl) d_FB_of_86 hl.1 (rest := []) rfl) ?_
            exact m_iretX C w hr hlk hM (Nat.le_of_ble_eq_true rfl) (Nat.le_of_ble_eq_true rfl) d_FB_of_89
def y_FB_checkNumber : MethodName := ⟨"FeastBook", "checkNumber", "(III)V"⟩
theorem d_FB_checkNumber_0 : decode prog_1_method_51_code 0 = .ok (.iload_n 0, 1) := by decide +kernel
theorem d_FB_checkNumber_1 : decode prog_1_method_51_code 1 = .ok (.iload_n 1, 1) := by decide +kernel
theorem d_FB_checkNumber_2 : decode prog_1_method_51_code 2 = .ok (.if_icmp .lt 8, 3) := by decide +kernel
theorem d_FB_checkNumber_5 : decode prog_1_method_51_code 5 = .ok (.iload_n 0, 1) := by decide +kernel
theorem d_FB_checkNumber_6 : decode prog_1_method_51_code 6 = .ok (.iload_n 2, 1) := by decide +kernel
theorem d_FB_checkNumber_7 : decode prog_1_method_51_code 7 = .ok (.if_icmp .le 14, 3) := by decide +kernel
theorem d_FB_checkNumber_10 : decode prog_1_method_51_code 10 = .ok (.new 83, 3) := by decide +kernel
theorem d_FB_checkNumber_13 : decode prog_1_method_51_code 13 = .ok (.dup, 1) := by decide +kernel
theorem d_FB_checkNumber_14 : decode prog_1_method_51_code 14 = .ok (.ldc_w 396, 3) := by decide +kernel
theorem d_FB_checkNumber_17 : decode prog_1_method_51_code 17 = .ok (.invokespecial 87, 3) := by decide +kernel
theorem d_FB_checkNumber_20 : decode prog_1_method_51_code 20 = .ok (.athrow, 1) := by decide +kernel
theorem d_FB_checkNumber_21 : decode prog_1_method_51_code 21 = .ok (.return_, 1) := by decide +kernel
set_option maxHeartbeats 4000000 in
set_option maxRecDepth 100000 in
theorem c_FB_checkNumber {l : Launch} {D : va_G} {ad : Nat → Nat} {cA : Nat → ClassId} {sd sv : Nat → Nat} {h : Hp} {a0 a1 a2 : Int} {out : XO} (hI : Inj97 ad) (hst : l.stackTraces = false) (hM : M_FB_checkNumber h a0 a1 a2 = some out) : vx_Met l y_FB_checkNumber (.code y_FB_checkNumber prog_1_method_51_code 3 none :: TT) (rmX 10 1 6) (PC D ad cA sd sv h [.int (iZ a0), .int (iZ a1), .int (iZ a2)]) (QXV D ad cA out) (XT D ad cA out) 1 6 (FA ad) := by
  unfold M_FB_checkNumber at hM
  refine entX (by decide +kernel) hI (Nat.le_of_ble_eq_true rfl) ?_
  intro p e s m args below meth c C hr hlk hnt hP ls hl
  have C : Cx p s m args c prog_1_method_51_code 3 "FeastBook" D ad cA sd sv (FA ad) := C
  have hl : lv_has ls 3 [(0, .int (iZ a0)), (1, .int (iZ a1)), (2, .int (iZ a2))] := hl
  have w : Wd s D ad cA (FA ad) h s.heap [] := ⟨hP, va_S.rf⟩
  refine m_iload_n C hl 0 d_FB_checkNumber_0 rfl rfl ?_
  refine m_iload_n C hl 1 d_FB_checkNumber_1 rfl rfl ?_
  refine m_icmp_lt C hM 10 d_FB_checkNumber_2 (by decide) (fun hM => ?_) (fun hM => ?_)
  · exact m_thrW (Qc := QXV D ad cA) (t := 41) hst C w hnt hl.1 hlk thw_3 (by decide) rfl (by decide) hM d_FB_checkNumber_10 d_FB_checkNumber_13 d_FB_checkNumber_14 d_FB_checkNumber_17 d_FB_checkNumber_20 (Nat.le_of_ble_eq_true rfl) (Nat.le_of_ble_eq_true rfl) (Nat.le_of_ble_eq_true rfl) (Nat.le_of_ble_eq_true rfl) (Nat.le_of_ble_eq_true rfl) (Nat.le_of_ble_eq_true rfl)
  · refine m_iload_n C hl 0 d_FB_checkNumber_5 rfl rfl ?_
    refine m_iload_n C hl 2 d_FB_checkNumber_6 rfl rfl ?_
    refine m_icmp_le C hM 21 d_FB_checkNumber_7 (by decide) (fun hM => ?_) (fun hM => ?_)
    · exact m_vretX C w hr hlk hM (Nat.le_of_ble_eq_true rfl) (Nat.le_of_ble_eq_true rfl) d_FB_checkNumber_21
    · exact m_thrW (Qc := QXV D ad cA) (t := 41) hst C w hnt hl.1 hlk thw_3 (by decide) rfl (by decide) hM d_FB_checkNumber_10 d_FB_checkNumber_13 d_FB_checkNumber_14 d_FB_checkNumber_17 d_FB_checkNumber_20 (Nat.le_of_ble_eq_true rfl) (Nat.le_of_ble_eq_true rfl) (Nat.le_of_ble_eq_true rfl) (Nat.le_of_ble_eq_true rfl) (Nat.le_of_ble_eq_true rfl) (Nat.le_of_ble_eq_true rfl)
def y_FB_rank : MethodName := ⟨"FeastBook", "rank", "(II)I"⟩
theorem d_FB_rank_0 : decode prog_1_method_15_code 0 = .ok (.aload_n 0, 1) := by decide +kernel
theorem d_FB_rank_1 : decode prog_1_method_15_code 1 = .ok (.iload_n 1, 1) := by decide +kernel
theorem d_FB_rank_2 : decode prog_1_method_15_code 2 = .ok (.invokevirtual 186, 3) := by decide +kernel
theorem d_FB_rank_5 : decode prog_1_method_15_code 5 = .ok (.iload_n 2, 1) := by decide +kernel
theorem d_FB_rank_6 : decode prog_1_method_15_code 6 = .ok (.iconst 1, 1) := by decide +kernel
theorem d_FB_rank_7 : decode prog_1_method_15_code 7 = .ok (.bipush 9, 2) := by decide +kernel
theorem d_FB_rank_9 : decode prog_1_method_15_code 9 = .ok (.invokestatic 225, 3) := by decide +kernel
theorem d_FB_rank_12 : decode prog_1_method_15_code 12 = .ok (.aload_n 0, 1) := by decide +kernel
theorem d_FB_rank_13 : decode prog_1_method_15_code 13 = .ok (.getfield 28, 3) := by decide +kernel
theorem d_FB_rank_16 : decode prog_1_method_15_code 16 = .ok (.getfield 96, 3) := by decide +kernel
theorem d_FB_rank_19 : decode prog_1_method_15_code 19 = .ok (.getfield 189, 3) := by decide +kernel
theorem d_FB_rank_22 : decode prog_1_method_15_code 22 = .ok (.iload_n 1, 1) := by decide +kernel
theorem d_FB_rank_23 : decode prog_1_method_15_code 23 = .ok (.iaload, 1) := by decide +kernel
theorem d_FB_rank_24 : decode prog_1_method_15_code 24 = .ok (.istore_n 3, 1) := by decide +kernel
theorem d_FB_rank_25 : decode prog_1_method_15_code 25 = .ok (.aload_n 0, 1) := by decide +kernel
theorem d_FB_rank_26 : decode prog_1_method_15_code 26 = .ok (.getfield 38, 3) := by decide +kernel
theorem d_FB_rank_29 : decode prog_1_method_15_code 29 = .ok (.iconst 0, 1) := by decide +kernel
theorem d_FB_rank_30 : decode prog_1_method_15_code 30 = .ok (.iload_n 1, 1) := by decide +kernel
theorem d_FB_rank_31 : decode prog_1_method_15_code 31 = .ok (.iconst (-1), 1) := by decide +kernel
theorem d_FB_rank_32 : decode prog_1_method_15_code 32 = .ok (.iload_n 3, 1) := by decide +kernel
theorem d_FB_rank_33 : decode prog_1_method_15_code 33 = .ok (.invokevirtual 229, 3) := by decide +kernel
theorem d_FB_rank_36 : decode prog_1_method_15_code 36 = .ok (.aload_n 0, 1) := by decide +kernel
theorem d_FB_rank_37 : decode prog_1_method_15_code 37 = .ok (.iload_n 1, 1) := by decide +kernel
theorem d_FB_rank_38 : decode prog_1_method_15_code 38 = .ok (.iload_n 2, 1) := by decide +kernel
theorem d_FB_rank_39 : decode prog_1_method_15_code 39 = .ok (.invokevirtual 233, 3) := by decide +kernel
theorem d_FB_rank_42 : decode prog_1_method_15_code 42 = .ok (.iload_n 3, 1) := by decide +kernel
theorem d_FB_rank_43 : decode prog_1_method_15_code 43 = .ok (.ireturn, 1) := by decide +kernel
theorem mb_Past_remember : MBv R_Past y_Past_remember prog_5_method_2_code 5 none 4 := ⟨mT6 192 (by decide +kernel) (by decide +kernel), mT6 193 (by decide +kernel) (by decide +kernel), mT1 7 (by decide +kernel) (by decide +kernel), mT6 194 (by decide +kernel) (by decide +kernel), by decide, rfl, by decide +kernel, by decide +kernel, by decide +kernel⟩
theorem mb_FB_checkNumber : MBs y_FB_checkNumber prog_1_method_51_code 3 none 3 := ⟨mT6 188 (by decide +kernel) (by decide +kernel), mT1 1 (by decide +kernel) (by decide +kernel), mT6 189 (by decide +kernel) (by decide +kernel), by decide, by decide +kernel, by decide +kernel, by decide +kernel⟩
theorem lk_FB_225 : Cond.methodLink "FeastBook" 225 y_FB_checkNumber ∈ TT := mT6 187 (by decide +kernel) (by decide +kernel)
theorem lk_FB_229 : Cond.methodLink "FeastBook" 229 y_Past_remember ∈ TT := mT6 191 (by decide +kernel) (by decide +kernel)
set_option maxHeartbeats 4000000 in
set_option maxRecDepth 100000 in
theorem c_FB_rank {l : Launch} {D : va_G} {ad : Nat → Nat} {cA : Nat → ClassId} {sd sv : Nat → Nat} {h : Hp} {N : Nat} {a1 a2 : Int} {out : XO} (hI : Inj97 ad) (hst : l.stackTraces = false) (hM : M_FB_rank N h a1 a2 = some out) : vx_Met l y_FB_rank (.code y_FB_rank prog_1_method_15_code 4 (some .int) :: TT) (rmX 11 2 12) (PC D ad cA sd sv h [.ref (ad 0), .int (iZ a1), .int (iZ a2)]) (QX D ad cA out) (XT D ad cA out) 2 12 (FA ad) := by
  unfold M_FB_rank at hM
  refine entX (by decide +kernel) hI (Nat.le_of_ble_eq_true rfl) ?_
  intro p e s m args below meth c C hr hlk hnt hP ls hl
  have C : Cx p s m args c prog_1_method_15_code 4 "FeastBook" D ad cA sd sv (FA ad) := C
  have hl : lv_has ls 4 [(0, .ref (ad 0)), (1, .int (iZ a1)), (2, .int (iZ a2))] := hl
  have w : Wd s D ad cA (FA ad) h s.heap [] := ⟨hP, va_S.rf⟩
  refine m_aload_n C hl 0 d_FB_rank_0 rfl rfl ?_
  refine m_iload_n C hl 1 d_FB_rank_1 rfl rfl ?_
  refine m_xcall (Qc := QX D ad cA) C w hnt hlk hM (fun q e1 => runVX C w.1 w.2 kc_FB sh_0 (Nat.le_of_ble_eq_true rfl) (c_FB_checkFeast hI hst  e1) lk_FB_186 mb_FB_checkFeast rfl ⟨Nat.le_of_ble_eq_true rfl, Nat.le_of_ble_eq_true rfl⟩ ⟨Nat.le_of_ble_eq_true rfl, Nat.le_of_ble_eq_true rfl⟩ (Nat.le_of_ble_eq_true rfl) d_FB_rank_2 hl.1 (rest := []) rfl) (Nat.le_of_ble_eq_true rfl) (Nat.le_of_ble_eq_true rfl) (fun _ h2 H locs w hM => ?_)
  refine m_iload_n C hl 2 d_FB_rank_5 rfl rfl ?_
  refine m_iconst C d_FB_rank_6 ?_
  refine m_bipush C d_FB_rank_7 (by decide) ?_
  refine m_xcall (Qc := QX D ad cA) C w hnt hlk hM (fun q e3 => runSX C w.1 w.2 (c_FB_checkNumber hI hst  e3) lk_FB_225 mb_FB_checkNumber rfl ⟨Nat.le_of_ble_eq_true rfl, Nat.le_of_ble_eq_true rfl⟩ ⟨Nat.le_of_ble_eq_true rfl, Nat.le_of_ble_eq_true rfl⟩ (Nat.le_of_ble_eq_true rfl) d_FB_rank_9 hl.1 (rest := []) rfl) (Nat.le_of_ble_eq_true rfl) (Nat.le_of_ble_eq_true rfl) (fun _ h4 H locs w hM => ?_)
  refine m_aload_n C hl 0 d_FB_rank_12 rfl rfl ?_
  refine m_getr C w.1 kc_FB sh_0 (Nat.le_of_ble_eq_true rfl) 2 23 rfl (by decide) fk_FB_28 d_FB_rank_13 ?_
  refine m_getr C w.1 kc_Book sh_23 (Nat.le_of_ble_eq_true rfl) 17 33 rfl (by decide) fk_FB_96 d_FB_rank_16 ?_
  refine m_getr C w.1 kc_Feasts sh_33 (Nat.le_of_ble_eq_true rfl) 1 34 rfl (by decide) fk_FB_189 d_FB_rank_19 ?_
  refine m_iload_n C hl 1 d_FB_rank_22 rfl rfl ?_
  refine m_iald C w.1 sh_34 (Nat.le_of_ble_eq_true rfl) (Nat.le_of_ble_eq_true rfl) hM d_FB_rank_23 (fun x5 hM => ?_)
  refine m_istore_n C hl [(3, .int (iZ x5)), (0, .ref (ad 0)), (1, .int (iZ a1)), (2, .int (iZ a2))] d_FB_rank_24 rfl (by decide) rfl (fun ls hl => ?_)
  refine m_aload_n C hl 1 d_FB_rank_25 rfl rfl ?_
  refine m_getr C w.1 kc_FB sh_0 (Nat.le_of_ble_eq_true rfl) 4 61 rfl (by decide) fk_FB_38 d_FB_rank_26 ?_
  refine m_iconst C d_FB_rank_29 ?_
  refine m_iload_n C hl 2 d_FB_rank_30 rfl rfl ?_
  refine m_iconst C d_FB_rank_31 ?_
  refine m_iload_n C hl 0 d_FB_rank_32 rfl rfl ?_
  obtain ⟨h7, e6, hM⟩ := bnd_some hM
  refine aftV C w (runV C w.1 w.2 kc_Past sh_61 (Nat.le_of_ble_eq_true rfl) (c_Past_remember hI e6) lk_FB_229 mb_Past_remember rfl ⟨Nat.le_of_ble_eq_true rfl, Nat.le_of_ble_eq_true rfl⟩ ⟨Nat.le_of_ble_eq_true rfl, Nat.le_of_ble_eq_true rfl⟩ (Nat.le_of_ble_eq_true rfl) d_FB_rank_33 hl.1 (rest := []) rfl) (fun H locs w => ?_)
  refine m_aload_n C hl 1 d_FB_rank_36 rfl rfl ?_
  refine m_iload_n C hl 2 d_FB_rank_37 rfl rfl ?_
  refine m_iload_n C hl 3 d_FB_rank_38 rfl rfl ?_
  obtain ⟨h9, e8, hM⟩ := bnd_some hM
  refine aftV C w (runV C w.1 w.2 kc_FB sh_0 (Nat.le_of_ble_eq_true rfl) (c_FB_tellRank hI e8) lk_FB_233 mb_FB_tellRank rfl ⟨Nat.le_of_ble_eq_true rfl, Nat.le_of_ble_eq_true rfl⟩ ⟨Nat.le_of_ble_eq_true rfl, Nat.le_of_ble_eq_true rfl⟩ (Nat.le_of_ble_eq_true rfl) d_FB_rank_39 hl.1 (rest := []) rfl) (fun H locs w => ?_)
  refine m_iload_n C hl 0 d_FB_rank_42 rfl rfl ?_
  exact m_iretX C w hr hlk hM (Nat.le_of_ble_eq_true rfl) (Nat.le_of_ble_eq_true rfl) d_FB_rank_43
def y_FB_law : MethodName := ⟨"FeastBook", "law", "(II)I"⟩
theorem d_FB_law_0 : decode prog_1_method_16_code 0 = .ok (.aload_n 0, 1) := by decide +kernel
theorem d_FB_law_1 : decode prog_1_method_16_code 1 = .ok (.iload_n 1, 1) := by decide +kernel
theorem d_FB_law_2 : decode prog_1_method_16_code 2 = .ok (.invokevirtual 186, 3) := by decide +kernel
theorem d_FB_law_5 : decode prog_1_method_16_code 5 = .ok (.iload_n 2, 1) := by decide +kernel
theorem d_FB_law_6 : decode prog_1_method_16_code 6 = .ok (.iconst 0, 1) := by decide +kernel
theorem d_FB_law_7 : decode prog_1_method_16_code 7 = .ok (.iconst 3, 1) := by decide +kernel
theorem d_FB_law_8 : decode prog_1_method_16_code 8 = .ok (.invokestatic 225, 3) := by decide +kernel
theorem d_FB_law_11 : decode prog_1_method_16_code 11 = .ok (.aload_n 0, 1) := by decide +kernel
theorem d_FB_law_12 : decode prog_1_method_16_code 12 = .ok (.getfield 28, 3) := by decide +kernel
theorem d_FB_law_15 : decode prog_1_method_16_code 15 = .ok (.getfield 96, 3) := by decide +kernel
theorem d_FB_law_18 : decode prog_1_method_16_code 18 = .ok (.getfield 201, 3) := by decide +kernel
theorem d_FB_law_21 : decode prog_1_method_16_code 21 = .ok (.iload_n 1, 1) := by decide +kernel
theorem d_FB_law_22 : decode prog_1_method_16_code 22 = .ok (.iaload, 1) := by decide +kernel
theorem d_FB_law_23 : decode prog_1_method_16_code 23 = .ok (.istore_n 3, 1) := by decide +kernel
theorem d_FB_law_24 : decode prog_1_method_16_code 24 = .ok (.aload_n 0, 1) := by decide +kernel
theorem d_FB_law_25 : decode prog_1_method_16_code 25 = .ok (.getfield 38, 3) := by decide +kernel
theorem d_FB_law_28 : decode prog_1_method_16_code 28 = .ok (.iconst 1, 1) := by decide +kernel
theorem d_FB_law_29 : decode prog_1_method_16_code 29 = .ok (.iload_n 1, 1) := by decide +kernel
theorem d_FB_law_30 : decode prog_1_method_16_code 30 = .ok (.iconst (-1), 1) := by decide +kernel
theorem d_FB_law_31 : decode prog_1_method_16_code 31 = .ok (.iload_n 3, 1) := by decide +kernel
theorem d_FB_law_32 : decode prog_1_method_16_code 32 = .ok (.invokevirtual 229, 3) := by decide +kernel
theorem d_FB_law_35 : decode prog_1_method_16_code 35 = .ok (.aload_n 0, 1) := by decide +kernel
theorem d_FB_law_36 : decode prog_1_method_16_code 36 = .ok (.iload_n 1, 1) := by decide +kernel
theorem d_FB_law_37 : decode prog_1_method_16_code 37 = .ok (.iload_n 2, 1) := by decide +kernel
theorem d_FB_law_38 : decode prog_1_method_16_code 38 = .ok (.invokevirtual 236, 3) := by decide +kernel
theorem d_FB_law_41 : decode prog_1_method_16_code 41 = .ok (.iload_n 3, 1) := by decide +kernel
theorem d_FB_law_42 : decode prog_1_method_16_code 42 = .ok (.ireturn, 1) := by decide +kernel
set_option maxHeartbeats 4000000 in
set_option maxRecDepth 100000 in
theorem c_FB_law {l : Launch} {D : va_G} {ad : Nat → Nat} {cA : Nat → ClassId} {sd sv : Nat → Nat} {h : Hp} {a1 a2 : Int} {out : XO} (hI : Inj97 ad) (hst : l.stackTraces = false) (hM : M_FB_law h a1 a2 = some out) : vx_Met l y_FB_law (.code y_FB_law prog_1_method_16_code 4 (some .int) :: TT) (rmX 11 2 12) (PC D ad cA sd sv h [.ref (ad 0), .int (iZ a1), .int (iZ a2)]) (QX D ad cA out) (XT D ad cA out) 2 12 (FA ad) := by
  unfold M_FB_law at hM
  refine entX (by decide +kernel) hI (Nat.le_of_ble_eq_true rfl) ?_
  intro p e s m args below meth c C hr hlk hnt hP ls hl
  have C : Cx p s m args c prog_1_method_16_code 4 "FeastBook" D ad cA sd sv (FA ad) := C
  have hl : lv_has ls 4 [(0, .ref (ad 0)), (1, .int (iZ a1)), (2, .int (iZ a2))] := hl
  have w : Wd s D ad cA (FA ad) h s.heap [] := ⟨hP, va_S.rf⟩
  refine m_aload_n C hl 0 d_FB_law_0 rfl rfl ?_
  refine m_iload_n C hl 1 d_FB_law_1 rfl rfl ?_
  refine m_xcall (Qc := QX D ad cA) C w hnt hlk hM (fun q e1 => runVX C w.1 w.2 kc_FB sh_0 (Nat.le_of_ble_eq_true rfl) (c_FB_checkFeast hI hst  e1) lk_FB_186 mb_FB_checkFeast rfl ⟨Nat.le_of_ble_eq_true rfl, Nat.le_of_ble_eq_true rfl⟩ ⟨Nat.le_of_ble_eq_true rfl, Nat.le_of_ble_eq_true rfl⟩ (Nat.le_of_ble_eq_true rfl) d_FB_law_2 hl.1 (rest := []) rfl) (Nat.le_of_ble_eq_true rfl) (Nat.le_of_ble_eq_true rfl) (fun _ h2 H locs w hM => ?_)
  refine m_iload_n C hl 2 d_FB_law_5 rfl rfl ?_
  refine m_iconst C d_FB_law_6 ?_
  refine m_iconst C d_FB_law_7 ?_
  refine m_xcall (Qc := QX D ad cA) C w hnt hlk hM (fun q e3 => runSX C w.1 w.2 (c_FB_checkNumber hI hst  e3) lk_FB_225 mb_FB_checkNumber rfl ⟨Nat.le_of_ble_eq_true rfl, Nat.le_of_ble_eq_true rfl⟩ ⟨Nat.le_of_ble_eq_true rfl, Nat.le_of_ble_eq_true rfl⟩ (Nat.le_of_ble_eq_true rfl) d_FB_law_8 hl.1 (rest := []) rfl) (Nat.le_of_ble_eq_true rfl) (Nat.le_of_ble_eq_true rfl) (fun _ h4 H locs w hM => ?_)
  refine m_aload_n C hl 0 d_FB_law_11 rfl rfl ?_
  refine m_getr C w.1 kc_FB sh_0 (Nat.le_of_ble_eq_true rfl) 2 23 rfl (by decide) fk_FB_28 d_FB_law_12 ?_
  refine m_getr C w.1 kc_Book sh_23 (Nat.le_of_ble_eq_true rfl) 17 33 rfl (by decide) fk_FB_96 d_FB_law_15 ?_
  refine m_getr C w.1 kc_Feasts sh_33 (Nat.le_of_ble_eq_true rfl) 4 37 rfl (by decide) fk_FB_201 d_FB_law_18 ?_
  refine m_iload_n C hl 1 d_FB_law_21 rfl rfl ?_
  refine m_iald C w.1 sh_37 (Nat.le_of_ble_eq_true rfl) (Nat.le_of_ble_eq_true rfl) hM d_FB_law_22 (fun x5 hM => ?_)
  refine m_istore_n C hl [(3, .int (iZ x5)), (0, .ref (ad 0)), (1, .int (iZ a1)), (2, .int (iZ a2))] d_FB_law_23 rfl (by decide) rfl (fun ls hl => ?_)
  refine m_aload_n C hl 1 d_FB_law_24 rfl rfl ?_
  refine m_getr C w.1 kc_FB sh_0 (Nat.le_of_ble_eq_true rfl) 4 61 rfl (by decide) fk_FB_38 d_FB_law_25 ?_
  refine m_iconst C d_FB_law_28 ?_
  refine m_iload_n C hl 2 d_FB_law_29 rfl rfl ?_
  refine m_iconst C d_FB_law_30 ?_
  refine m_iload_n C hl 0 d_FB_law_31 rfl rfl ?_
  obtain ⟨h7, e6, hM⟩ := bnd_some hM
  refine aftV C w (runV C w.1 w.2 kc_Past sh_61 (Nat.le_of_ble_eq_true rfl) (c_Past_remember hI e6) lk_FB_229 mb_Past_remember rfl ⟨Nat.le_of_ble_eq_true rfl, Nat.le_of_ble_eq_true rfl⟩ ⟨Nat.le_of_ble_eq_true rfl, Nat.le_of_ble_eq_true rfl⟩ (Nat.le_of_ble_eq_true rfl) d_FB_law_32 hl.1 (rest := []) rfl) (fun H locs w => ?_)
  refine m_aload_n C hl 1 d_FB_law_35 rfl rfl ?_
  refine m_iload_n C hl 2 d_FB_law_36 rfl rfl ?_
  refine m_iload_n C hl 3 d_FB_law_37 rfl rfl ?_
  obtain ⟨h9, e8, hM⟩ := bnd_some hM
  refine aftV C w (runV C w.1 w.2 kc_FB sh_0 (Nat.le_of_ble_eq_true rfl) (c_FB_tellLaw hI e8) lk_FB_236 mb_FB_tellLaw rfl ⟨Nat.le_of_ble_eq_true rfl, Nat.le_of_ble_eq_true rfl⟩ ⟨Nat.le_of_ble_eq_true rfl, Nat.le_of_ble_eq_true rfl⟩ (Nat.le_of_ble_eq_true rfl) d_FB_law_38 hl.1 (rest := []) rfl) (fun H locs w => ?_)
  refine m_iload_n C hl 0 d_FB_law_41 rfl rfl ?_
  exact m_iretX C w hr hlk hM (Nat.le_of_ble_eq_true rfl) (Nat.le_of_ble_eq_true rfl) d_FB_law_42
def y_FB_put : MethodName := ⟨"FeastBook", "put", "(III)I"⟩
theorem d_FB_put_0 : decode prog_1_method_17_code 0 = .ok (.aload_n 0, 1) := by decide +kernel
theorem d_FB_put_1 : decode prog_1_method_17_code 1 = .ok (.iload_n 1, 1) := by decide +kernel
theorem d_FB_put_2 : decode prog_1_method_17_code 2 = .ok (.invokevirtual 186, 3) := by decide +kernel
theorem d_FB_put_5 : decode prog_1_method_17_code 5 = .ok (.aload_n 0, 1) := by decide +kernel
theorem d_FB_put_6 : decode prog_1_method_17_code 6 = .ok (.getfield 28, 3) := by decide +kernel
theorem d_FB_put_9 : decode prog_1_method_17_code 9 = .ok (.getfield 96, 3) := by decide +kernel
theorem d_FB_put_12 : decode prog_1_method_17_code 12 = .ok (.iload_n 1, 1) := by decide +kernel
theorem d_FB_put_13 : decode prog_1_method_17_code 13 = .ok (.invokevirtual 192, 3) := by decide +kernel
theorem d_FB_put_16 : decode prog_1_method_17_code 16 = .ok (.iload_n 2, 1) := by decide +kernel
theorem d_FB_put_17 : decode prog_1_method_17_code 17 = .ok (.iconst (-1), 1) := by decide +kernel
theorem d_FB_put_18 : decode prog_1_method_17_code 18 = .ok (.if_icmp .ne 7, 3) := by decide +kernel
theorem d_FB_put_21 : decode prog_1_method_17_code 21 = .ok (.iconst 1, 1) := by decide +kernel
theorem d_FB_put_22 : decode prog_1_method_17_code 22 = .ok (.goto 4, 3) := by decide +kernel
theorem d_FB_put_25 : decode prog_1_method_17_code 25 = .ok (.iconst 0, 1) := by decide +kernel
theorem d_FB_put_26 : decode prog_1_method_17_code 26 = .ok (.if_icmp .ne 15, 3) := by decide +kernel
theorem d_FB_put_29 : decode prog_1_method_17_code 29 = .ok (.aload_n 0, 1) := by decide +kernel
theorem d_FB_put_30 : decode prog_1_method_17_code 30 = .ok (.getfield 28, 3) := by decide +kernel
theorem d_FB_put_33 : decode prog_1_method_17_code 33 = .ok (.iload_n 2, 1) := by decide +kernel
theorem d_FB_put_34 : decode prog_1_method_17_code 34 = .ok (.iload_n 3, 1) := by decide +kernel
theorem d_FB_put_35 : decode prog_1_method_17_code 35 = .ok (.invokevirtual 239, 3) := by decide +kernel
theorem d_FB_put_38 : decode prog_1_method_17_code 38 = .ok (.ifCond .ne 13, 3) := by decide +kernel
theorem d_FB_put_41 : decode prog_1_method_17_code 41 = .ok (.new 83, 3) := by decide +kernel
theorem d_FB_put_44 : decode prog_1_method_17_code 44 = .ok (.dup, 1) := by decide +kernel
theorem d_FB_put_45 : decode prog_1_method_17_code 45 = .ok (.ldc 243, 2) := by decide +kernel
theorem d_FB_put_47 : decode prog_1_method_17_code 47 = .ok (.invokespecial 87, 3) := by decide +kernel
theorem d_FB_put_50 : decode prog_1_method_17_code 50 = .ok (.athrow, 1) := by decide +kernel
theorem d_FB_put_51 : decode prog_1_method_17_code 51 = .ok (.aload_n 0, 1) := by decide +kernel
theorem d_FB_put_52 : decode prog_1_method_17_code 52 = .ok (.getfield 28, 3) := by decide +kernel
theorem d_FB_put_55 : decode prog_1_method_17_code 55 = .ok (.getfield 96, 3) := by decide +kernel
theorem d_FB_put_58 : decode prog_1_method_17_code 58 = .ok (.getfield 195, 3) := by decide +kernel
theorem d_FB_put_61 : decode prog_1_method_17_code 61 = .ok (.iload_n 1, 1) := by decide +kernel
theorem d_FB_put_62 : decode prog_1_method_17_code 62 = .ok (.iaload, 1) := by decide +kernel
theorem d_FB_put_63 : decode prog_1_method_17_code 63 = .ok (.istore 4, 2) := by decide +kernel
theorem d_FB_put_65 : decode prog_1_method_17_code 65 = .ok (.aload_n 0, 1) := by decide +kernel
theorem d_FB_put_66 : decode prog_1_method_17_code 66 = .ok (.getfield 28, 3) := by decide +kernel
theorem d_FB_put_69 : decode prog_1_method_17_code 69 = .ok (.getfield 96, 3) := by decide +kernel
theorem d_FB_put_72 : decode prog_1_method_17_code 72 = .ok (.getfield 198, 3) := by decide +kernel
theorem d_FB_put_75 : decode prog_1_method_17_code 75 = .ok (.iload_n 1, 1) := by decide +kernel
theorem d_FB_put_76 : decode prog_1_method_17_code 76 = .ok (.iaload, 1) := by decide +kernel
theorem d_FB_put_77 : decode prog_1_method_17_code 77 = .ok (.istore 5, 2) := by decide +kernel
theorem d_FB_put_79 : decode prog_1_method_17_code 79 = .ok (.aload_n 0, 1) := by decide +kernel
theorem d_FB_put_80 : decode prog_1_method_17_code 80 = .ok (.getfield 38, 3) := by decide +kernel
theorem d_FB_put_83 : decode prog_1_method_17_code 83 = .ok (.iconst 2, 1) := by decide +kernel
theorem d_FB_put_84 : decode prog_1_method_17_code 84 = .ok (.iload_n 1, 1) := by decide +kernel
theorem d_FB_put_85 : decode prog_1_method_17_code 85 = .ok (.iload 4, 2) := by decide +kernel
theorem d_FB_put_87 : decode prog_1_method_17_code 87 = .ok (.iload 5, 2) := by decide +kernel
theorem d_FB_put_89 : decode prog_1_method_17_code 89 = .ok (.invokevirtual 229, 3) := by decide +kernel
theorem d_FB_put_92 : decode prog_1_method_17_code 92 = .ok (.aload_n 0, 1) := by decide +kernel
theorem d_FB_put_93 : decode prog_1_method_17_code 93 = .ok (.iload_n 1, 1) := by decide +kernel
theorem d_FB_put_94 : decode prog_1_method_17_code 94 = .ok (.iload_n 2, 1) := by decide +kernel
theorem d_FB_put_95 : decode prog_1_method_17_code 95 = .ok (.iload_n 3, 1) := by decide +kernel
theorem d_FB_put_96 : decode prog_1_method_17_code 96 = .ok (.invokevirtual 245, 3) := by decide +kernel
theorem d_FB_put_99 : decode prog_1_method_17_code 99 = .ok (.iload 4, 2) := by decide +kernel
theorem d_FB_put_101 : decode prog_1_method_17_code 101 = .ok (.iload_n 2, 1) := by decide +kernel
theorem d_FB_put_102 : decode prog_1_method_17_code 102 = .ok (.if_icmp .ne 9, 3) := by decide +kernel
theorem d_FB_put_105 : decode prog_1_method_17_code 105 = .ok (.iload 5, 2) := by decide +kernel
theorem d_FB_put_107 : decode prog_1_method_17_code 107 = .ok (.iload_n 3, 1) := by decide +kernel
theorem d_FB_put_108 : decode prog_1_method_17_code 108 = .ok (.if_icmp .eq 7, 3) := by decide +kernel
theorem d_FB_put_111 : decode prog_1_method_17_code 111 = .ok (.iconst 1, 1) := by decide +kernel
theorem d_FB_put_112 : decode prog_1_method_17_code 112 = .ok (.goto 4, 3) := by decide +kernel
theorem d_FB_put_115 : decode prog_1_method_17_code 115 = .ok (.iconst 0, 1) := by decide +kernel
theorem d_FB_put_116 : decode prog_1_method_17_code 116 = .ok (.ireturn, 1) := by decide +kernel
theorem lk_FB_239 : Cond.methodLink "FeastBook" 239 y_Book_canTell ∈ TT := mT6 228 (by decide +kernel) (by decide +kernel)
set_option maxHeartbeats 4000000 in
set_option maxRecDepth 100000 in
theorem c_FB_put {l : Launch} {D : va_G} {ad : Nat → Nat} {cA : Nat → ClassId} {sd sv : Nat → Nat} {h : Hp} {a1 a2 a3 : Int} {out : XO} (hI : Inj97 ad) (hst : l.stackTraces = false) (hM : M_FB_put h a1 a2 a3 = some out) : vx_Met l y_FB_put (.code y_FB_put prog_1_method_17_code 6 (some .int) :: TT) (rmX 11 2 12) (PC D ad cA sd sv h [.ref (ad 0), .int (iZ a1), .int (iZ a2), .int (iZ a3)]) (QX D ad cA out) (XT D ad cA out) 2 12 (FA ad) := by
  unfold M_FB_put at hM
  refine entX (by decide +kernel) hI (Nat.le_of_ble_eq_true rfl) ?_
  intro p e s m args below meth c C hr hlk hnt hP ls hl
  have C : Cx p s m args c prog_1_method_17_code 6 "FeastBook" D ad cA sd sv (FA ad) := C
  have hl : lv_has ls 6 [(0, .ref (ad 0)), (1, .int (iZ a1)), (2, .int (iZ a2)), (3, .int (iZ a3))] := hl
  have w : Wd s D ad cA (FA ad) h s.heap [] := ⟨hP, va_S.rf⟩
  refine m_aload_n C hl 0 d_FB_put_0 rfl rfl ?_
  refine m_iload_n C hl 1 d_FB_put_1 rfl rfl ?_
  refine m_xcall (Qc := QX D ad cA) C w hnt hlk hM (fun q e1 => runVX C w.1 w.2 kc_FB sh_0 (Nat.le_of_ble_eq_true rfl) (c_FB_checkFeast hI hst  e1) lk_FB_186 mb_FB_checkFeast rfl ⟨Nat.le_of_ble_eq_true rfl, Nat.le_of_ble_eq_true rfl⟩ ⟨Nat.le_of_ble_eq_true rfl, Nat.le_of_ble_eq_true rfl⟩ (Nat.le_of_ble_eq_true rfl) d_FB_put_2 hl.1 (rest := []) rfl) (Nat.le_of_ble_eq_true rfl) (Nat.le_of_ble_eq_true rfl) (fun _ h2 H locs w hM => ?_)
  refine m_aload_n C hl 0 d_FB_put_5 rfl rfl ?_
  refine m_getr C w.1 kc_FB sh_0 (Nat.le_of_ble_eq_true rfl) 2 23 rfl (by decide) fk_FB_28 d_FB_put_6 ?_
  refine m_getr C w.1 kc_Book sh_23 (Nat.le_of_ble_eq_true rfl) 17 33 rfl (by decide) fk_FB_96 d_FB_put_9 ?_
  refine m_iload_n C hl 1 d_FB_put_12 rfl rfl ?_
  obtain ⟨x4, e3, hM⟩ := bnd_some hM
  refine aftR (runV C w.1 w.2 kc_Feasts sh_33 (Nat.le_of_ble_eq_true rfl) (c_Feasts_isMoving hI (Or.inr (Or.inl rfl)) e3) lk_FB_192 mb_Feasts_isMoving rfl ⟨Nat.le_of_ble_eq_true rfl, Nat.le_of_ble_eq_true rfl⟩ ⟨Nat.le_of_ble_eq_true rfl, Nat.le_of_ble_eq_true rfl⟩ (Nat.le_of_ble_eq_true rfl) d_FB_put_13 hl.1 (rest := []) rfl) ?_
  refine m_iload_n C hl 2 d_FB_put_16 rfl rfl ?_
  refine m_iconst C d_FB_put_17 ?_
  refine lt_join hM (fun j5 ej hM => ?_)
  have hJ5 : ∀ (s0_5 : Int), j5 s0_5 = some out → ∀ ls : Array Slot, lv_has ls 6 [(0, .ref (ad 0)), (1, .int (iZ a1)), (2, .int (iZ a2)), (3, .int (iZ a3))] → W p l e (rmX 11 2 12) s m args below meth c H locs 1 6 (vx_MQ below (QX D ad cA out) (XT D ad cA out) args s 2 12 (FA ad)) (F0 m 26 ls [.int (iZ s0_5), .int (iZ x4)]) := by
    intro s0_5 hM ls hl
    subst ej
    dsimp only at hM
    refine m_icmp_ne C hM 41 d_FB_put_26 (by decide) (fun hM => ?_) (fun hM => ?_)
    · exact m_thrS (Qc := QX D ad cA) (t := 42) hst C w hnt hl.1 hlk thw_3 (by decide) rfl (by decide) hM d_FB_put_41 d_FB_put_44 d_FB_put_45 d_FB_put_47 d_FB_put_50 (Nat.le_of_ble_eq_true rfl) (Nat.le_of_ble_eq_true rfl) (Nat.le_of_ble_eq_true rfl) (Nat.le_of_ble_eq_true rfl) (Nat.le_of_ble_eq_true rfl) (Nat.le_of_ble_eq_true rfl)
    · refine m_aload_n C hl 0 d_FB_put_29 rfl rfl ?_
      refine m_getr C w.1 kc_FB sh_0 (Nat.le_of_ble_eq_true rfl) 2 23 rfl (by decide) fk_FB_28 d_FB_put_30 ?_
      refine m_iload_n C hl 2 d_FB_put_33 rfl rfl ?_
      refine m_iload_n C hl 3 d_FB_put_34 rfl rfl ?_
      obtain ⟨x7, e6, hM⟩ := bnd_some hM
      refine aftR (runV C w.1 w.2 kc_Book sh_23 (Nat.le_of_ble_eq_true rfl) (c_Book_canTell hI (Or.inr (Or.inl rfl)) e6) lk_FB_239 mb_Book_canTell rfl ⟨Nat.le_of_ble_eq_true rfl, Nat.le_of_ble_eq_true rfl⟩ ⟨Nat.le_of_ble_eq_true rfl, Nat.le_of_ble_eq_true rfl⟩ (Nat.le_of_ble_eq_true rfl) d_FB_put_35 hl.1 (rest := []) rfl) ?_
      refine m_if_ne C hM 51 d_FB_put_38 (by decide) (fun hM => ?_) (fun hM => ?_)
      · refine m_aload_n C hl 0 d_FB_put_51 rfl rfl ?_
        refine m_getr C w.1 kc_FB sh_0 (Nat.le_of_ble_eq_true rfl) 2 23 rfl (by decide) fk_FB_28 d_FB_put_52 ?_
        refine m_getr C w.1 kc_Book sh_23 (Nat.le_of_ble_eq_true rfl) 17 33 rfl (by decide) fk_FB_96 d_FB_put_55 ?_
        refine m_getr C w.1 kc_Feasts sh_33 (Nat.le_of_ble_eq_true rfl) 2 35 rfl (by decide) fk_FB_195 d_FB_put_58 ?_
        refine m_iload_n C hl 1 d_FB_put_61 rfl rfl ?_
        refine m_iald C w.1 sh_35 (Nat.le_of_ble_eq_true rfl) (Nat.le_of_ble_eq_true rfl) hM d_FB_put_62 (fun x8 hM => ?_)
        refine m_istore C hl [(4, .int (iZ x8)), (0, .ref (ad 0)), (1, .int (iZ a1)), (2, .int (iZ a2)), (3, .int (iZ a3))] d_FB_put_63 (by decide) rfl (fun ls hl => ?_)
        refine m_aload_n C hl 1 d_FB_put_65 rfl rfl ?_
        refine m_getr C w.1 kc_FB sh_0 (Nat.le_of_ble_eq_true rfl) 2 23 rfl (by decide) fk_FB_28 d_FB_put_66 ?_
        refine m_getr C w.1 kc_Book sh_23 (Nat.le_of_ble_eq_true rfl) 17 33 rfl (by decide) fk_FB_96 d_FB_put_69 ?_
        refine m_getr C w.1 kc_Feasts sh_33 (Nat.le_of_ble_eq_true rfl) 3 36 rfl (by decide) fk_FB_198 d_FB_put_72 ?_
        refine m_iload_n C hl 2 d_FB_put_75 rfl rfl ?_
        refine m_iald C w.1 sh_36 (Nat.le_of_ble_eq_true rfl) (Nat.le_of_ble_eq_true rfl) hM d_FB_put_76 (fun x9 hM => ?_)
        refine m_istore C hl [(5, .int (iZ x9)), (4, .int (iZ x8)), (0, .ref (ad 0)), (1, .int (iZ a1)), (2, .int (iZ a2)), (3, .int (iZ a3))] d_FB_put_77 (by decide) rfl (fun ls hl => ?_)
        refine m_aload_n C hl 2 d_FB_put_79 rfl rfl ?_
        refine m_getr C w.1 kc_FB sh_0 (Nat.le_of_ble_eq_true rfl) 4 61 rfl (by decide) fk_FB_38 d_FB_put_80 ?_
        refine m_iconst C d_FB_put_83 ?_
        refine m_iload_n C hl 3 d_FB_put_84 rfl rfl ?_
        refine m_iload C hl 1 d_FB_put_85 rfl ?_
        refine m_iload C hl 0 d_FB_put_87 rfl ?_
        obtain ⟨h11, e10, hM⟩ := bnd_some hM
        refine aftV C w (runV C w.1 w.2 kc_Past sh_61 (Nat.le_of_ble_eq_true rfl) (c_Past_remember hI e10) lk_FB_229 mb_Past_remember rfl ⟨Nat.le_of_ble_eq_true rfl, Nat.le_of_ble_eq_true rfl⟩ ⟨Nat.le_of_ble_eq_true rfl, Nat.le_of_ble_eq_true rfl⟩ (Nat.le_of_ble_eq_true rfl) d_FB_put_89 hl.1 (rest := []) rfl) (fun H locs w => ?_)
        refine m_aload_n C hl 2 d_FB_put_92 rfl rfl ?_
        refine m_iload_n C hl 3 d_FB_put_93 rfl rfl ?_
        refine m_iload_n C hl 4 d_FB_put_94 rfl rfl ?_
        refine m_iload_n C hl 5 d_FB_put_95 rfl rfl ?_
        obtain ⟨h13, e12, hM⟩ := bnd_some hM
        refine aftV C w (runV C w.1 w.2 kc_FB sh_0 (Nat.le_of_ble_eq_true rfl) (c_FB_tellDay hI e12) lk_FB_245 mb_FB_tellDay rfl ⟨Nat.le_of_ble_eq_true rfl, Nat.le_of_ble_eq_true rfl⟩ ⟨Nat.le_of_ble_eq_true rfl, Nat.le_of_ble_eq_true rfl⟩ (Nat.le_of_ble_eq_true rfl) d_FB_put_96 hl.1 (rest := []) rfl) (fun H locs w => ?_)
        refine m_iload C hl 1 d_FB_put_99 rfl ?_
        refine m_iload_n C hl 4 d_FB_put_101 rfl rfl ?_
        refine m_icmp_ne C hM 111 d_FB_put_102 (by decide) (fun hM => ?_) (fun hM => ?_)
        · refine m_iconst C d_FB_put_111 ?_
          refine m_goto C 116 d_FB_put_112 (by decide) ?_
          exact m_iretX C w hr hlk hM (Nat.le_of_ble_eq_true rfl) (Nat.le_of_ble_eq_true rfl) d_FB_put_116
        · refine m_iload C hl 0 d_FB_put_105 rfl ?_
          refine m_iload_n C hl 5 d_FB_put_107 rfl rfl ?_
          refine m_icmp_eq C hM 115 d_FB_put_108 (by decide) (fun hM => ?_) (fun hM => ?_)
          · refine m_iconst C d_FB_put_115 ?_
            exact m_iretX C w hr hlk hM (Nat.le_of_ble_eq_true rfl) (Nat.le_of_ble_eq_true rfl) d_FB_put_116
          · refine m_iconst C d_FB_put_111 ?_
            refine m_goto C 116 d_FB_put_112 (by decide) ?_
            exact m_iretX C w hr hlk hM (Nat.le_of_ble_eq_true rfl) (Nat.le_of_ble_eq_true rfl) d_FB_put_116
      · exact m_thrS (Qc := QX D ad cA) (t := 42) hst C w hnt hl.1 hlk thw_3 (by decide) rfl (by decide) hM d_FB_put_41 d_FB_put_44 d_FB_put_45 d_FB_put_47 d_FB_put_50 (Nat.le_of_ble_eq_true rfl) (Nat.le_of_ble_eq_true rfl) (Nat.le_of_ble_eq_true rfl) (Nat.le_of_ble_eq_true rfl) (Nat.le_of_ble_eq_true rfl) (Nat.le_of_ble_eq_true rfl)
  refine m_icmp_ne C hM 25 d_FB_put_18 (by decide) (fun hM => ?_) (fun hM => ?_)
  · refine m_iconst C d_FB_put_25 ?_
    exact hJ5 0 hM _ hl
  · refine m_iconst C d_FB_put_21 ?_
    refine m_goto C 26 d_FB_put_22 (by decide) ?_
    exact hJ5 1 hM _ hl
def y_FB_checkBook : MethodName := ⟨"FeastBook", "checkBook", "()V"⟩
theorem d_FB_checkBook_0 : decode prog_1_method_45_code 0 = .ok (.aload_n 0, 1) := by decide +kernel
theorem d_FB_checkBook_1 : decode prog_1_method_45_code 1 = .ok (.getfield 28, 3) := by decide +kernel
theorem d_FB_checkBook_4 : decode prog_1_method_45_code 4 = .ok (.getfield 375, 3) := by decide +kernel
theorem d_FB_checkBook_7 : decode prog_1_method_45_code 7 = .ok (.ifCond .ne 14, 3) := by decide +kernel
theorem d_FB_checkBook_10 : decode prog_1_method_45_code 10 = .ok (.new 258, 3) := by decide +kernel
theorem d_FB_checkBook_13 : decode prog_1_method_45_code 13 = .ok (.dup, 1) := by decide +kernel
theorem d_FB_checkBook_14 : decode prog_1_method_45_code 14 = .ok (.ldc_w 378, 3) := by decide +kernel
theorem d_FB_checkBook_17 : decode prog_1_method_45_code 17 = .ok (.invokespecial 262, 3) := by decide +kernel
theorem d_FB_checkBook_20 : decode prog_1_method_45_code 20 = .ok (.athrow, 1) := by decide +kernel
theorem d_FB_checkBook_21 : decode prog_1_method_45_code 21 = .ok (.return_, 1) := by decide +kernel
set_option maxHeartbeats 4000000 in
set_option maxRecDepth 100000 in
theorem c_FB_checkBook {l : Launch} {D : va_G} {ad : Nat → Nat} {cA : Nat → ClassId} {sd sv : Nat → Nat} {h : Hp} {out : XO} (hI : Inj97 ad) (hst : l.stackTraces = false) (hM : M_FB_checkBook h = some out) : vx_Met l y_FB_checkBook (.code y_FB_checkBook prog_1_method_45_code 1 none :: TT) (rmX 10 1 6) (PC D ad cA sd sv h [.ref (ad 0)]) (QXV D ad cA out) (XT D ad cA out) 1 6 (FA ad) := by
  unfold M_FB_checkBook at hM
  refine entX (by decide +kernel) hI (Nat.le_of_ble_eq_true rfl) ?_
  intro p e s m args below meth c C hr hlk hnt hP ls hl
  have C : Cx p s m args c prog_1_method_45_code 1 "FeastBook" D ad cA sd sv (FA ad) := C
  have hl : lv_has ls 1 [(0, .ref (ad 0))] := hl
  have w : Wd s D ad cA (FA ad) h s.heap [] := ⟨hP, va_S.rf⟩
  refine m_aload_n C hl 0 d_FB_checkBook_0 rfl rfl ?_
  refine m_getr C w.1 kc_FB sh_0 (Nat.le_of_ble_eq_true rfl) 2 23 rfl (by decide) fk_FB_28 d_FB_checkBook_1 ?_
  refine m_geti C w.1 kc_Book sh_23 (Nat.le_of_ble_eq_true rfl) 0 rfl (by decide) fk_FB_375 d_FB_checkBook_4 ?_
  refine m_if_ne C hM 21 d_FB_checkBook_7 (by decide) (fun hM => ?_) (fun hM => ?_)
  · exact m_vretX C w hr hlk hM (Nat.le_of_ble_eq_true rfl) (Nat.le_of_ble_eq_true rfl) d_FB_checkBook_21
  · exact m_thrW (Qc := QXV D ad cA) (t := 43) hst C w hnt hl.1 hlk thw_4 (by decide) rfl (by decide) hM d_FB_checkBook_10 d_FB_checkBook_13 d_FB_checkBook_14 d_FB_checkBook_17 d_FB_checkBook_20 (Nat.le_of_ble_eq_true rfl) (Nat.le_of_ble_eq_true rfl) (Nat.le_of_ble_eq_true rfl) (Nat.le_of_ble_eq_true rfl) (Nat.le_of_ble_eq_true rfl) (Nat.le_of_ble_eq_true rfl)
def y_FB_reach : MethodName := ⟨"FeastBook", "reach", "(I)I"⟩
theorem d_FB_reach_0 : decode prog_1_method_18_code 0 = .ok (.aload_n 0, 1) := by decide +kernel
theorem d_FB_reach_1 : decode prog_1_method_18_code 1 = .ok (.invokevirtual 248, 3) := by decide +kernel
theorem d_FB_reach_4 : decode prog_1_method_18_code 4 = .ok (.iload_n 1, 1) := by decide +kernel
theorem d_FB_reach_5 : decode prog_1_method_18_code 5 = .ok (.iconst 1, 1) := by decide +kernel
theorem d_FB_reach_6 : decode prog_1_method_18_code 6 = .ok (.bipush 60, 2) := by decide +kernel
theorem d_FB_reach_8 : decode prog_1_method_18_code 8 = .ok (.invokestatic 225, 3) := by decide +kernel
theorem d_FB_reach_11 : decode prog_1_method_18_code 11 = .ok (.aload_n 0, 1) := by decide +kernel
theorem d_FB_reach_12 : decode prog_1_method_18_code 12 = .ok (.getfield 28, 3) := by decide +kernel
theorem d_FB_reach_15 : decode prog_1_method_18_code 15 = .ok (.getfield 251, 3) := by decide +kernel
theorem d_FB_reach_18 : decode prog_1_method_18_code 18 = .ok (.istore_n 2, 1) := by decide +kernel
theorem d_FB_reach_19 : decode prog_1_method_18_code 19 = .ok (.aload_n 0, 1) := by decide +kernel
theorem d_FB_reach_20 : decode prog_1_method_18_code 20 = .ok (.getfield 38, 3) := by decide +kernel
theorem d_FB_reach_23 : decode prog_1_method_18_code 23 = .ok (.iconst 3, 1) := by decide +kernel
theorem d_FB_reach_24 : decode prog_1_method_18_code 24 = .ok (.iconst (-1), 1) := by decide +kernel
theorem d_FB_reach_25 : decode prog_1_method_18_code 25 = .ok (.iconst (-1), 1) := by decide +kernel
theorem d_FB_reach_26 : decode prog_1_method_18_code 26 = .ok (.iload_n 2, 1) := by decide +kernel
theorem d_FB_reach_27 : decode prog_1_method_18_code 27 = .ok (.invokevirtual 229, 3) := by decide +kernel
theorem d_FB_reach_30 : decode prog_1_method_18_code 30 = .ok (.aload_n 0, 1) := by decide +kernel
theorem d_FB_reach_31 : decode prog_1_method_18_code 31 = .ok (.iload_n 1, 1) := by decide +kernel
theorem d_FB_reach_32 : decode prog_1_method_18_code 32 = .ok (.invokevirtual 254, 3) := by decide +kernel
theorem d_FB_reach_35 : decode prog_1_method_18_code 35 = .ok (.iload_n 2, 1) := by decide +kernel
theorem d_FB_reach_36 : decode prog_1_method_18_code 36 = .ok (.ireturn, 1) := by decide +kernel
theorem mb_FB_checkBook : MBv R_FB y_FB_checkBook prog_1_method_45_code 1 none 0 := ⟨mT7 7 (by decide +kernel) (by decide +kernel), mTs 10 (by decide +kernel) (by decide +kernel), mT1 1 (by decide +kernel) (by decide +kernel), mT7 8 (by decide +kernel) (by decide +kernel), by decide, rfl, by decide +kernel, by decide +kernel, by decide +kernel⟩
theorem lk_FB_248 : Cond.methodLink "FeastBook" 248 y_FB_checkBook ∈ TT := mT7 5 (by decide +kernel) (by decide +kernel)
set_option maxHeartbeats 4000000 in
set_option maxRecDepth 100000 in
theorem c_FB_reach {l : Launch} {D : va_G} {ad : Nat → Nat} {cA : Nat → ClassId} {sd sv : Nat → Nat} {h : Hp} {a1 : Int} {out : XO} (hI : Inj97 ad) (hst : l.stackTraces = false) (hM : M_FB_reach h a1 = some out) : vx_Met l y_FB_reach (.code y_FB_reach prog_1_method_18_code 3 (some .int) :: TT) (rmX 11 2 12) (PC D ad cA sd sv h [.ref (ad 0), .int (iZ a1)]) (QX D ad cA out) (XT D ad cA out) 2 12 (FA ad) := by
  unfold M_FB_reach at hM
  refine entX (by decide +kernel) hI (Nat.le_of_ble_eq_true rfl) ?_
  intro p e s m args below meth c C hr hlk hnt hP ls hl
  have C : Cx p s m args c prog_1_method_18_code 3 "FeastBook" D ad cA sd sv (FA ad) := C
  have hl : lv_has ls 3 [(0, .ref (ad 0)), (1, .int (iZ a1))] := hl
  have w : Wd s D ad cA (FA ad) h s.heap [] := ⟨hP, va_S.rf⟩
  refine m_aload_n C hl 0 d_FB_reach_0 rfl rfl ?_
  refine m_xcall (Qc := QX D ad cA) C w hnt hlk hM (fun q e1 => runVX C w.1 w.2 kc_FB sh_0 (Nat.le_of_ble_eq_true rfl) (c_FB_checkBook hI hst  e1) lk_FB_248 mb_FB_checkBook rfl ⟨Nat.le_of_ble_eq_true rfl, Nat.le_of_ble_eq_true rfl⟩ ⟨Nat.le_of_ble_eq_true rfl, Nat.le_of_ble_eq_true rfl⟩ (Nat.le_of_ble_eq_true rfl) d_FB_reach_1 hl.1 (rest := []) rfl) (Nat.le_of_ble_eq_true rfl) (Nat.le_of_ble_eq_true rfl) (fun _ h2 H locs w hM => ?_)
  refine m_iload_n C hl 1 d_FB_reach_4 rfl rfl ?_
  refine m_iconst C d_FB_reach_5 ?_
  refine m_bipush C d_FB_reach_6 (by decide) ?_
  refine m_xcall (Qc := QX D ad cA) C w hnt hlk hM (fun q e3 => runSX C w.1 w.2 (c_FB_checkNumber hI hst  e3) lk_FB_225 mb_FB_checkNumber rfl ⟨Nat.le_of_ble_eq_true rfl, Nat.le_of_ble_eq_true rfl⟩ ⟨Nat.le_of_ble_eq_true rfl, Nat.le_of_ble_eq_true rfl⟩ (Nat.le_of_ble_eq_true rfl) d_FB_reach_8 hl.1 (rest := []) rfl) (Nat.le_of_ble_eq_true rfl) (Nat.le_of_ble_eq_true rfl) (fun _ h4 H locs w hM => ?_)
  refine m_aload_n C hl 0 d_FB_reach_11 rfl rfl ?_
  refine m_getr C w.1 kc_FB sh_0 (Nat.le_of_ble_eq_true rfl) 2 23 rfl (by decide) fk_FB_28 d_FB_reach_12 ?_
  refine m_geti C w.1 kc_Book sh_23 (Nat.le_of_ble_eq_true rfl) 10 rfl (by decide) fk_FB_251 d_FB_reach_15 ?_
  refine m_istore_n C hl [(2, .int (iZ (h4 23 10))), (0, .ref (ad 0)), (1, .int (iZ a1))] d_FB_reach_18 rfl (by decide) rfl (fun ls hl => ?_)
  refine m_aload_n C hl 1 d_FB_reach_19 rfl rfl ?_
  refine m_getr C w.1 kc_FB sh_0 (Nat.le_of_ble_eq_true rfl) 4 61 rfl (by decide) fk_FB_38 d_FB_reach_20 ?_
  refine m_iconst C d_FB_reach_23 ?_
  refine m_iconst C d_FB_reach_24 ?_
  refine m_iconst C d_FB_reach_25 ?_
  refine m_iload_n C hl 0 d_FB_reach_26 rfl rfl ?_
  obtain ⟨h6, e5, hM⟩ := bnd_some hM
  refine aftV C w (runV C w.1 w.2 kc_Past sh_61 (Nat.le_of_ble_eq_true rfl) (c_Past_remember hI e5) lk_FB_229 mb_Past_remember rfl ⟨Nat.le_of_ble_eq_true rfl, Nat.le_of_ble_eq_true rfl⟩ ⟨Nat.le_of_ble_eq_true rfl, Nat.le_of_ble_eq_true rfl⟩ (Nat.le_of_ble_eq_true rfl) d_FB_reach_27 hl.1 (rest := []) rfl) (fun H locs w => ?_)
  refine m_aload_n C hl 1 d_FB_reach_30 rfl rfl ?_
  refine m_iload_n C hl 2 d_FB_reach_31 rfl rfl ?_
  obtain ⟨h8, e7, hM⟩ := bnd_some hM
  refine aftV C w (runV C w.1 w.2 kc_FB sh_0 (Nat.le_of_ble_eq_true rfl) (c_FB_tellReach hI e7) lk_FB_254 mb_FB_tellReach rfl ⟨Nat.le_of_ble_eq_true rfl, Nat.le_of_ble_eq_true rfl⟩ ⟨Nat.le_of_ble_eq_true rfl, Nat.le_of_ble_eq_true rfl⟩ (Nat.le_of_ble_eq_true rfl) d_FB_reach_32 hl.1 (rest := []) rfl) (fun H locs w => ?_)
  refine m_iload_n C hl 0 d_FB_reach_35 rfl rfl ?_
  exact m_iretX C w hr hlk hM (Nat.le_of_ble_eq_true rfl) (Nat.le_of_ble_eq_true rfl) d_FB_reach_36
def y_FB_undo : MethodName := ⟨"FeastBook", "undo", "()I"⟩
theorem d_FB_undo_0 : decode prog_1_method_19_code 0 = .ok (.aload_n 0, 1) := by decide +kernel
theorem d_FB_undo_1 : decode prog_1_method_19_code 1 = .ok (.getfield 38, 3) := by decide +kernel
theorem d_FB_undo_4 : decode prog_1_method_19_code 4 = .ok (.getfield 257, 3) := by decide +kernel
theorem d_FB_undo_7 : decode prog_1_method_19_code 7 = .ok (.iconst 1, 1) := by decide +kernel
theorem d_FB_undo_8 : decode prog_1_method_19_code 8 = .ok (.if_icmp .ge 14, 3) := by decide +kernel
theorem d_FB_undo_11 : decode prog_1_method_19_code 11 = .ok (.new 258, 3) := by decide +kernel
theorem d_FB_undo_14 : decode prog_1_method_19_code 14 = .ok (.dup, 1) := by decide +kernel
theorem d_FB_undo_15 : decode prog_1_method_19_code 15 = .ok (.ldc_w 260, 3) := by decide +kernel
theorem d_FB_undo_18 : decode prog_1_method_19_code 18 = .ok (.invokespecial 262, 3) := by decide +kernel
theorem d_FB_undo_21 : decode prog_1_method_19_code 21 = .ok (.athrow, 1) := by decide +kernel
theorem d_FB_undo_22 : decode prog_1_method_19_code 22 = .ok (.aload_n 0, 1) := by decide +kernel
theorem d_FB_undo_23 : decode prog_1_method_19_code 23 = .ok (.getfield 38, 3) := by decide +kernel
theorem d_FB_undo_26 : decode prog_1_method_19_code 26 = .ok (.dup, 1) := by decide +kernel
theorem d_FB_undo_27 : decode prog_1_method_19_code 27 = .ok (.getfield 257, 3) := by decide +kernel
theorem d_FB_undo_30 : decode prog_1_method_19_code 30 = .ok (.iconst 1, 1) := by decide +kernel
theorem d_FB_undo_31 : decode prog_1_method_19_code 31 = .ok (.isub, 1) := by decide +kernel
theorem d_FB_undo_32 : decode prog_1_method_19_code 32 = .ok (.putfield 257, 3) := by decide +kernel
theorem d_FB_undo_35 : decode prog_1_method_19_code 35 = .ok (.aload_n 0, 1) := by decide +kernel
theorem d_FB_undo_36 : decode prog_1_method_19_code 36 = .ok (.aload_n 0, 1) := by decide +kernel
theorem d_FB_undo_37 : decode prog_1_method_19_code 37 = .ok (.getfield 38, 3) := by decide +kernel
theorem d_FB_undo_40 : decode prog_1_method_19_code 40 = .ok (.getfield 257, 3) := by decide +kernel
theorem d_FB_undo_43 : decode prog_1_method_19_code 43 = .ok (.invokevirtual 263, 3) := by decide +kernel
theorem d_FB_undo_46 : decode prog_1_method_19_code 46 = .ok (.aload_n 0, 1) := by decide +kernel
theorem d_FB_undo_47 : decode prog_1_method_19_code 47 = .ok (.getfield 38, 3) := by decide +kernel
theorem d_FB_undo_50 : decode prog_1_method_19_code 50 = .ok (.getfield 257, 3) := by decide +kernel
theorem d_FB_undo_53 : decode prog_1_method_19_code 53 = .ok (.ireturn, 1) := by decide +kernel
theorem mb_FB_takeBack : MBv R_FB y_FB_takeBack prog_1_method_59_code 4 none 1 := ⟨mT7 39 (by decide +kernel) (by decide +kernel), mTs 12 (by decide +kernel) (by decide +kernel), mT1 1 (by decide +kernel) (by decide +kernel), mT7 40 (by decide +kernel) (by decide +kernel), by decide, rfl, by decide +kernel, by decide +kernel, by decide +kernel⟩
theorem lk_FB_263 : Cond.methodLink "FeastBook" 263 y_FB_takeBack ∈ TT := mT7 37 (by decide +kernel) (by decide +kernel)
set_option maxHeartbeats 4000000 in
set_option maxRecDepth 100000 in
theorem c_FB_undo {l : Launch} {D : va_G} {ad : Nat → Nat} {cA : Nat → ClassId} {sd sv : Nat → Nat} {h : Hp} {N : Nat} {out : XO} (hI : Inj97 ad) (hst : l.stackTraces = false) (hM : M_FB_undo N h = some out) : vx_Met l y_FB_undo (.code y_FB_undo prog_1_method_19_code 1 (some .int) :: TT) (rmX 10 1 6) (PC D ad cA sd sv h [.ref (ad 0)]) (QX D ad cA out) (XT D ad cA out) 1 6 (FA ad) := by
  unfold M_FB_undo at hM
  refine entX (by decide +kernel) hI (Nat.le_of_ble_eq_true rfl) ?_
  intro p e s m args below meth c C hr hlk hnt hP ls hl
  have C : Cx p s m args c prog_1_method_19_code 1 "FeastBook" D ad cA sd sv (FA ad) := C
  have hl : lv_has ls 1 [(0, .ref (ad 0))] := hl
  have w : Wd s D ad cA (FA ad) h s.heap [] := ⟨hP, va_S.rf⟩
  refine m_aload_n C hl 0 d_FB_undo_0 rfl rfl ?_
  refine m_getr C w.1 kc_FB sh_0 (Nat.le_of_ble_eq_true rfl) 4 61 rfl (by decide) fk_FB_38 d_FB_undo_1 ?_
  refine m_geti C w.1 kc_Past sh_61 (Nat.le_of_ble_eq_true rfl) 0 rfl (by decide) fk_FB_257 d_FB_undo_4 ?_
  refine m_iconst C d_FB_undo_7 ?_
  refine m_icmp_ge C hM 22 d_FB_undo_8 (by decide) (fun hM => ?_) (fun hM => ?_)
  · refine m_aload_n C hl 0 d_FB_undo_22 rfl rfl ?_
    refine m_getr C w.1 kc_FB sh_0 (Nat.le_of_ble_eq_true rfl) 4 61 rfl (by decide) fk_FB_38 d_FB_undo_23 ?_
    refine m_dup C d_FB_undo_26 rfl ?_
    refine m_geti C w.1 kc_Past sh_61 (Nat.le_of_ble_eq_true rfl) 0 rfl (by decide) fk_FB_257 d_FB_undo_27 ?_
    refine m_iconst C d_FB_undo_30 ?_
    refine m_isub C d_FB_undo_31 ?_
    refine m_puti C w kc_Past sh_61 (Nat.le_of_ble_eq_true rfl) 0 hM rfl (by decide) rfl rfl fk_FB_257 d_FB_undo_32 (fun h1 H locs w hM => ?_)
    refine m_aload_n C hl 0 d_FB_undo_35 rfl rfl ?_
    refine m_aload_n C hl 0 d_FB_undo_36 rfl rfl ?_
    refine m_getr C w.1 kc_FB sh_0 (Nat.le_of_ble_eq_true rfl) 4 61 rfl (by decide) fk_FB_38 d_FB_undo_37 ?_
    refine m_geti C w.1 kc_Past sh_61 (Nat.le_of_ble_eq_true rfl) 0 rfl (by decide) fk_FB_257 d_FB_undo_40 ?_
    obtain ⟨h3, e2, hM⟩ := bnd_some hM
    refine aftV C w (runV C w.1 w.2 kc_FB sh_0 (Nat.le_of_ble_eq_true rfl) (c_FB_takeBack hI e2) lk_FB_263 mb_FB_takeBack rfl ⟨Nat.le_of_ble_eq_true rfl, Nat.le_of_ble_eq_true rfl⟩ ⟨Nat.le_of_ble_eq_true rfl, Nat.le_of_ble_eq_true rfl⟩ (Nat.le_of_ble_eq_true rfl) d_FB_undo_43 hl.1 (rest := []) rfl) (fun H locs w => ?_)
    refine m_aload_n C hl 0 d_FB_undo_46 rfl rfl ?_
    refine m_getr C w.1 kc_FB sh_0 (Nat.le_of_ble_eq_true rfl) 4 61 rfl (by decide) fk_FB_38 d_FB_undo_47 ?_
    refine m_geti C w.1 kc_Past sh_61 (Nat.le_of_ble_eq_true rfl) 0 rfl (by decide) fk_FB_257 d_FB_undo_50 ?_
    exact m_iretX C w hr hlk hM (Nat.le_of_ble_eq_true rfl) (Nat.le_of_ble_eq_true rfl) d_FB_undo_53
  · exact m_thrW (Qc := QX D ad cA) (t := 44) hst C w hnt hl.1 hlk thw_4 (by decide) rfl (by decide) hM d_FB_undo_11 d_FB_undo_14 d_FB_undo_15 d_FB_undo_18 d_FB_undo_21 (Nat.le_of_ble_eq_true rfl) (Nat.le_of_ble_eq_true rfl) (Nat.le_of_ble_eq_true rfl) (Nat.le_of_ble_eq_true rfl) (Nat.le_of_ble_eq_true rfl) (Nat.le_of_ble_eq_true rfl)
def y_FB_cycle : MethodName := ⟨"FeastBook", "cycle", "()I"⟩
theorem d_FB_cycle_0 : decode prog_1_method_20_code 0 = .ok (.aload_n 0, 1) := by decide +kernel
theorem d_FB_cycle_1 : decode prog_1_method_20_code 1 = .ok (.invokevirtual 248, 3) := by decide +kernel
theorem d_FB_cycle_4 : decode prog_1_method_20_code 4 = .ok (.aload_n 0, 1) := by decide +kernel
theorem d_FB_cycle_5 : decode prog_1_method_20_code 5 = .ok (.getfield 56, 3) := by decide +kernel
theorem d_FB_cycle_8 : decode prog_1_method_20_code 8 = .ok (.getfield 266, 3) := by decide +kernel
theorem d_FB_cycle_11 : decode prog_1_method_20_code 11 = .ok (.ireturn, 1) := by decide +kernel
theorem fk_FB_266 : Cond.fieldLink "FeastBook" 266 (T_Round 3).1 (T_Round 3).2.1 (T_Round 3).2.2.1 ∈ TT := mT2 122 (by decide +kernel) (by decide +kernel)
set_option maxHeartbeats 4000000 in
set_option maxRecDepth 100000 in
theorem c_FB_cycle {l : Launch} {D : va_G} {ad : Nat → Nat} {cA : Nat → ClassId} {sd sv : Nat → Nat} {h : Hp} {out : XO} (hI : Inj97 ad) (hst : l.stackTraces = false) (hM : M_FB_cycle h = some out) : vx_Met l y_FB_cycle (.code y_FB_cycle prog_1_method_20_code 1 (some .int) :: TT) (rmX 11 1 6) (PC D ad cA sd sv h [.ref (ad 0)]) (QX D ad cA out) (XT D ad cA out) 1 6 (FA ad) := by
  unfold M_FB_cycle at hM
  refine entX (by decide +kernel) hI (Nat.le_of_ble_eq_true rfl) ?_
  intro p e s m args below meth c C hr hlk hnt hP ls hl
  have C : Cx p s m args c prog_1_method_20_code 1 "FeastBook" D ad cA sd sv (FA ad) := C
  have hl : lv_has ls 1 [(0, .ref (ad 0))] := hl
  have w : Wd s D ad cA (FA ad) h s.heap [] := ⟨hP, va_S.rf⟩
  refine m_aload_n C hl 0 d_FB_cycle_0 rfl rfl ?_
  refine m_xcall (Qc := QX D ad cA) C w hnt hlk hM (fun q e1 => runVX C w.1 w.2 kc_FB sh_0 (Nat.le_of_ble_eq_true rfl) (c_FB_checkBook hI hst  e1) lk_FB_248 mb_FB_checkBook rfl ⟨Nat.le_of_ble_eq_true rfl, Nat.le_of_ble_eq_true rfl⟩ ⟨Nat.le_of_ble_eq_true rfl, Nat.le_of_ble_eq_true rfl⟩ (Nat.le_of_ble_eq_true rfl) d_FB_cycle_1 hl.1 (rest := []) rfl) (Nat.le_of_ble_eq_true rfl) (Nat.le_of_ble_eq_true rfl) (fun _ h2 H locs w hM => ?_)
  refine m_aload_n C hl 0 d_FB_cycle_4 rfl rfl ?_
  refine m_getr C w.1 kc_FB sh_0 (Nat.le_of_ble_eq_true rfl) 6 73 rfl (by decide) fk_FB_56 d_FB_cycle_5 ?_
  refine m_geti C w.1 kc_Round sh_73 (Nat.le_of_ble_eq_true rfl) 3 rfl (by decide) fk_FB_266 d_FB_cycle_8 ?_
  exact m_iretX C w hr hlk hM (Nat.le_of_ble_eq_true rfl) (Nat.le_of_ble_eq_true rfl) d_FB_cycle_11
def y_FB_fates : MethodName := ⟨"FeastBook", "fates", "(IIZ)I"⟩
theorem d_FB_fates_0 : decode prog_1_method_21_code 0 = .ok (.aload_n 0, 1) := by decide +kernel
theorem d_FB_fates_1 : decode prog_1_method_21_code 1 = .ok (.iload_n 1, 1) := by decide +kernel
theorem d_FB_fates_2 : decode prog_1_method_21_code 2 = .ok (.invokevirtual 186, 3) := by decide +kernel
theorem d_FB_fates_5 : decode prog_1_method_21_code 5 = .ok (.iload_n 2, 1) := by decide +kernel
theorem d_FB_fates_6 : decode prog_1_method_21_code 6 = .ok (.iconst 0, 1) := by decide +kernel
theorem d_FB_fates_7 : decode prog_1_method_21_code 7 = .ok (.iconst 5, 1) := by decide +kernel
theorem d_FB_fates_8 : decode prog_1_method_21_code 8 = .ok (.invokestatic 225, 3) := by decide +kernel
theorem d_FB_fates_11 : decode prog_1_method_21_code 11 = .ok (.iload_n 3, 1) := by decide +kernel
theorem d_FB_fates_12 : decode prog_1_method_21_code 12 = .ok (.ifCond .eq 18, 3) := by decide +kernel
theorem d_FB_fates_15 : decode prog_1_method_21_code 15 = .ok (.aload_n 0, 1) := by decide +kernel
theorem d_FB_fates_16 : decode prog_1_method_21_code 16 = .ok (.getfield 56, 3) := by decide +kernel
theorem d_FB_fates_19 : decode prog_1_method_21_code 19 = .ok (.invokevirtual 269, 3) := by decide +kernel
theorem d_FB_fates_22 : decode prog_1_method_21_code 22 = .ok (.iload_n 1, 1) := by decide +kernel
theorem d_FB_fates_23 : decode prog_1_method_21_code 23 = .ok (.iload_n 2, 1) := by decide +kernel
theorem d_FB_fates_24 : decode prog_1_method_21_code 24 = .ok (.invokevirtual 273, 3) := by decide +kernel
theorem d_FB_fates_27 : decode prog_1_method_21_code 27 = .ok (.goto 15, 3) := by decide +kernel
theorem d_FB_fates_30 : decode prog_1_method_21_code 30 = .ok (.aload_n 0, 1) := by decide +kernel
theorem d_FB_fates_31 : decode prog_1_method_21_code 31 = .ok (.getfield 56, 3) := by decide +kernel
theorem d_FB_fates_34 : decode prog_1_method_21_code 34 = .ok (.invokevirtual 269, 3) := by decide +kernel
theorem d_FB_fates_37 : decode prog_1_method_21_code 37 = .ok (.iload_n 1, 1) := by decide +kernel
theorem d_FB_fates_38 : decode prog_1_method_21_code 38 = .ok (.iload_n 2, 1) := by decide +kernel
theorem d_FB_fates_39 : decode prog_1_method_21_code 39 = .ok (.invokevirtual 276, 3) := by decide +kernel
theorem d_FB_fates_42 : decode prog_1_method_21_code 42 = .ok (.ireturn, 1) := by decide +kernel
theorem mb_Round_allSettled : MBv R_Round y_Round_allSettled prog_7_method_4_code 2 (some (.object "FeastBook$Round")) 0 := ⟨mT7 56 (by decide +kernel) (by decide +kernel), mT7 57 (by decide +kernel) (by decide +kernel), mT1 9 (by decide +kernel) (by decide +kernel), mT7 58 (by decide +kernel) (by decide +kernel), by decide, rfl, by decide +kernel, by decide +kernel, by decide +kernel⟩
theorem lk_FB_269 : Cond.methodLink "FeastBook" 269 y_Round_allSettled ∈ TT := mT7 55 (by decide +kernel) (by decide +kernel)
theorem lk_FB_273 : Cond.methodLink "FeastBook" 273 y_Round_firstWith ∈ TT := mT7 61 (by decide +kernel) (by decide +kernel)
theorem lk_FB_276 : Cond.methodLink "FeastBook" 276 y_Round_yearsWith ∈ TT := mT7 69 (by decide +kernel) (by decide +kernel)
set_option maxHeartbeats 4000000 in
set_option maxRecDepth 100000 in
theorem c_FB_fates {l : Launch} {D : va_G} {ad : Nat → Nat} {cA : Nat → ClassId} {sd sv : Nat → Nat} {h : Hp} {N : Nat} {a1 a2 a3 : Int} {out : XO} (hI : Inj97 ad) (hst : l.stackTraces = false) (hM : M_FB_fates N h a1 a2 a3 = some out) : vx_Met l y_FB_fates (.code y_FB_fates prog_1_method_21_code 4 (some .int) :: TT) (rmX 11 2 12) (PC D ad cA sd sv h [.ref (ad 0), .int (iZ a1), .int (iZ a2), .int (iZ a3)]) (QX D ad cA out) (XT D ad cA out) 2 12 (FA ad) := by
  unfold M_FB_fates at hM
  refine entX (by decide +kernel) hI (Nat.le_of_ble_eq_true rfl) ?_
  intro p e s m args below meth c C hr hlk hnt hP ls hl
  have C : Cx p s m args c prog_1_method_21_code 4 "FeastBook" D ad cA sd sv (FA ad) := C
  have hl : lv_has ls 4 [(0, .ref (ad 0)), (1, .int (iZ a1)), (2, .int (iZ a2)), (3, .int (iZ a3))] := hl
  have w : Wd s D ad cA (FA ad) h s.heap [] := ⟨hP, va_S.rf⟩
  refine m_aload_n C hl 0 d_FB_fates_0 rfl rfl ?_
  refine m_iload_n C hl 1 d_FB_fates_1 rfl rfl ?_
  refine m_xcall (Qc := QX D ad cA) C w hnt hlk hM (fun q e1 => runVX C w.1 w.2 kc_FB sh_0 (Nat.le_of_ble_eq_true rfl) (c_FB_checkFeast hI hst  e1) lk_FB_186 mb_FB_checkFeast rfl ⟨Nat.le_of_ble_eq_true rfl, Nat.le_of_ble_eq_true rfl⟩ ⟨Nat.le_of_ble_eq_true rfl, Nat.le_of_ble_eq_true rfl⟩ (Nat.le_of_ble_eq_true rfl) d_FB_fates_2 hl.1 (rest := []) rfl) (Nat.le_of_ble_eq_true rfl) (Nat.le_of_ble_eq_true rfl) (fun _ h2 H locs w hM => ?_)
  refine m_iload_n C hl 2 d_FB_fates_5 rfl rfl ?_
  refine m_iconst C d_FB_fates_6 ?_
  refine m_iconst C d_FB_fates_7 ?_
  refine m_xcall (Qc := QX D ad cA) C w hnt hlk hM (fun q e3 => runSX C w.1 w.2 (c_FB_checkNumber hI hst  e3) lk_FB_225 mb_FB_checkNumber rfl ⟨Nat.le_of_ble_eq_true rfl, Nat.le_of_ble_eq_true rfl⟩ ⟨Nat.le_of_ble_eq_true rfl, Nat.le_of_ble_eq_true rfl⟩ (Nat.le_of_ble_eq_true rfl) d_FB_fates_8 hl.1 (rest := []) rfl) (Nat.le_of_ble_eq_true rfl) (Nat.le_of_ble_eq_true rfl) (fun _ h4 H locs w hM => ?_)
  refine m_iload_n C hl 3 d_FB_fates_11 rfl rfl ?_
  refine m_if_eq C hM 30 d_FB_fates_12 (by decide) (fun hM => ?_) (fun hM => ?_)
  · refine m_aload_n C hl 0 d_FB_fates_30 rfl rfl ?_
    refine m_getr C w.1 kc_FB sh_0 (Nat.le_of_ble_eq_true rfl) 6 73 rfl (by decide) fk_FB_56 d_FB_fates_31 ?_
    obtain ⟨h6, e5, hM⟩ := bnd_some hM
    refine aftN C w (runV C w.1 w.2 kc_Round sh_73 (Nat.le_of_ble_eq_true rfl) (c_Round_allSettled hI e5) lk_FB_269 mb_Round_allSettled rfl ⟨Nat.le_of_ble_eq_true rfl, Nat.le_of_ble_eq_true rfl⟩ ⟨Nat.le_of_ble_eq_true rfl, Nat.le_of_ble_eq_true rfl⟩ (Nat.le_of_ble_eq_true rfl) d_FB_fates_34 hl.1 (rest := []) rfl) (fun H locs w => ?_)
    refine m_iload_n C hl 1 d_FB_fates_37 rfl rfl ?_
    refine m_iload_n C hl 2 d_FB_fates_38 rfl rfl ?_
    obtain ⟨x8, e7, hM⟩ := bnd_some hM
    refine aftR (runV C w.1 w.2 kc_Round sh_73 (Nat.le_of_ble_eq_true rfl) (c_Round_yearsWith hI e7) lk_FB_276 mb_Round_yearsWith rfl ⟨Nat.le_of_ble_eq_true rfl, Nat.le_of_ble_eq_true rfl⟩ ⟨Nat.le_of_ble_eq_true rfl, Nat.le_of_ble_eq_true rfl⟩ (Nat.le_of_ble_eq_true rfl) d_FB_fates_39 hl.1 (rest := []) rfl) ?_
    exact m_iretX C w hr hlk hM (Nat.le_of_ble_eq_true rfl) (Nat.le_of_ble_eq_true rfl) d_FB_fates_42
  · refine m_aload_n C hl 0 d_FB_fates_15 rfl rfl ?_
    refine m_getr C w.1 kc_FB sh_0 (Nat.le_of_ble_eq_true rfl) 6 73 rfl (by decide) fk_FB_56 d_FB_fates_16 ?_
    obtain ⟨h10, e9, hM⟩ := bnd_some hM
    refine aftN C w (runV C w.1 w.2 kc_Round sh_73 (Nat.le_of_ble_eq_true rfl) (c_Round_allSettled hI e9) lk_FB_269 mb_Round_allSettled rfl ⟨Nat.le_of_ble_eq_true rfl, Nat.le_of_ble_eq_true rfl⟩ ⟨Nat.le_of_ble_eq_true rfl, Nat.le_of_ble_eq_true rfl⟩ (Nat.le_of_ble_eq_true rfl) d_FB_fates_19 hl.1 (rest := []) rfl) (fun H locs w => ?_)
    refine m_iload_n C hl 1 d_FB_fates_22 rfl rfl ?_
    refine m_iload_n C hl 2 d_FB_fates_23 rfl rfl ?_
    obtain ⟨x12, e11, hM⟩ := bnd_some hM
    refine aftR (runV C w.1 w.2 kc_Round sh_73 (Nat.le_of_ble_eq_true rfl) (c_Round_firstWith hI e11) lk_FB_273 mb_Round_firstWith rfl ⟨Nat.le_of_ble_eq_true rfl, Nat.le_of_ble_eq_true rfl⟩ ⟨Nat.le_of_ble_eq_true rfl, Nat.le_of_ble_eq_true rfl⟩ (Nat.le_of_ble_eq_true rfl) d_FB_fates_24 hl.1 (rest := []) rfl) ?_
    refine m_goto C 42 d_FB_fates_27 (by decide) ?_
    exact m_iretX C w hr hlk hM (Nat.le_of_ble_eq_true rfl) (Nat.le_of_ble_eq_true rfl) d_FB_fates_42
def y_FB_far : MethodName := ⟨"FeastBook", "far", "(I)I"⟩
theorem d_FB_far_0 : decode prog_1_method_22_code 0 = .ok (.aload_n 0, 1) := by decide +kernel
theorem d_FB_far_1 : decode prog_1_method_22_code 1 = .ok (.iload_n 1, 1) := by decide +kernel
theorem d_FB_far_2 : decode prog_1_method_22_code 2 = .ok (.invokevirtual 186, 3) := by decide +kernel
theorem d_FB_far_5 : decode prog_1_method_22_code 5 = .ok (.aload_n 0, 1) := by decide +kernel
theorem d_FB_far_6 : decode prog_1_method_22_code 6 = .ok (.getfield 56, 3) := by decide +kernel
theorem d_FB_far_9 : decode prog_1_method_22_code 9 = .ok (.invokevirtual 269, 3) := by decide +kernel
theorem d_FB_far_12 : decode prog_1_method_22_code 12 = .ok (.iload_n 1, 1) := by decide +kernel
theorem d_FB_far_13 : decode prog_1_method_22_code 13 = .ok (.invokevirtual 279, 3) := by decide +kernel
theorem d_FB_far_16 : decode prog_1_method_22_code 16 = .ok (.ireturn, 1) := by decide +kernel
theorem mb_Round_farthest : MBv R_Round y_Round_farthest prog_7_method_10_code 5 (some .int) 1 := ⟨mT7 81 (by decide +kernel) (by decide +kernel), mT7 82 (by decide +kernel) (by decide +kernel), mT1 9 (by decide +kernel) (by decide +kernel), mT7 83 (by decide +kernel) (by decide +kernel), by decide, rfl, by decide +kernel, by decide +kernel, by decide +kernel⟩
theorem lk_FB_279 : Cond.methodLink "FeastBook" 279 y_Round_farthest ∈ TT := mT7 80 (by decide +kernel) (by decide +kernel)
set_option maxHeartbeats 4000000 in
set_option maxRecDepth 100000 in
theorem c_FB_far {l : Launch} {D : va_G} {ad : Nat → Nat} {cA : Nat → ClassId} {sd sv : Nat → Nat} {h : Hp} {N : Nat} {a1 : Int} {out : XO} (hI : Inj97 ad) (hst : l.stackTraces = false) (hM : M_FB_far N h a1 = some out) : vx_Met l y_FB_far (.code y_FB_far prog_1_method_22_code 2 (some .int) :: TT) (rmX 11 1 6) (PC D ad cA sd sv h [.ref (ad 0), .int (iZ a1)]) (QX D ad cA out) (XT D ad cA out) 1 6 (FA ad) := by
  unfold M_FB_far at hM
  refine entX (by decide +kernel) hI (Nat.le_of_ble_eq_true rfl) ?_
  intro p e s m args below meth c C hr hlk hnt hP ls hl
  have C : Cx p s m args c prog_1_method_22_code 2 "FeastBook" D ad cA sd sv (FA ad) := C
  have hl : lv_has ls 2 [(0, .ref (ad 0)), (1, .int (iZ a1))] := hl
  have w : Wd s D ad cA (FA ad) h s.heap [] := ⟨hP, va_S.rf⟩
  refine m_aload_n C hl 0 d_FB_far_0 rfl rfl ?_
  refine m_iload_n C hl 1 d_FB_far_1 rfl rfl ?_
  refine m_xcall (Qc := QX D ad cA) C w hnt hlk hM (fun q e1 => runVX C w.1 w.2 kc_FB sh_0 (Nat.le_of_ble_eq_true rfl) (c_FB_checkFeast hI hst  e1) lk_FB_186 mb_FB_checkFeast rfl ⟨Nat.le_of_ble_eq_true rfl, Nat.le_of_ble_eq_true rfl⟩ ⟨Nat.le_of_ble_eq_true rfl, Nat.le_of_ble_eq_true rfl⟩ (Nat.le_of_ble_eq_true rfl) d_FB_far_2 hl.1 (rest := []) rfl) (Nat.le_of_ble_eq_true rfl) (Nat.le_of_ble_eq_true rfl) (fun _ h2 H locs w hM => ?_)
  refine m_aload_n C hl 0 d_FB_far_5 rfl rfl ?_
  refine m_getr C w.1 kc_FB sh_0 (Nat.le_of_ble_eq_true rfl) 6 73 rfl (by decide) fk_FB_56 d_FB_far_6 ?_
  obtain ⟨h4, e3, hM⟩ := bnd_some hM
  refine aftN C w (runV C w.1 w.2 kc_Round sh_73 (Nat.le_of_ble_eq_true rfl) (c_Round_allSettled hI e3) lk_FB_269 mb_Round_allSettled rfl ⟨Nat.le_of_ble_eq_true rfl, Nat.le_of_ble_eq_true rfl⟩ ⟨Nat.le_of_ble_eq_true rfl, Nat.le_of_ble_eq_true rfl⟩ (Nat.le_of_ble_eq_true rfl) d_FB_far_9 hl.1 (rest := []) rfl) (fun H locs w => ?_)
  refine m_iload_n C hl 1 d_FB_far_12 rfl rfl ?_
  obtain ⟨x6, e5, hM⟩ := bnd_some hM
  refine aftR (runV C w.1 w.2 kc_Round sh_73 (Nat.le_of_ble_eq_true rfl) (c_Round_farthest hI e5) lk_FB_279 mb_Round_farthest rfl ⟨Nat.le_of_ble_eq_true rfl, Nat.le_of_ble_eq_true rfl⟩ ⟨Nat.le_of_ble_eq_true rfl, Nat.le_of_ble_eq_true rfl⟩ (Nat.le_of_ble_eq_true rfl) d_FB_far_13 hl.1 (rest := []) rfl) ?_
  exact m_iretX C w hr hlk hM (Nat.le_of_ble_eq_true rfl) (Nat.le_of_ble_eq_true rfl) d_FB_far_16
def y_FB_span : MethodName := ⟨"FeastBook", "span", "(IZ)I"⟩
theorem d_FB_span_0 : decode prog_1_method_23_code 0 = .ok (.aload_n 0, 1) := by decide +kernel
theorem d_FB_span_1 : decode prog_1_method_23_code 1 = .ok (.iload_n 1, 1) := by decide +kernel
theorem d_FB_span_2 : decode prog_1_method_23_code 2 = .ok (.invokevirtual 186, 3) := by decide +kernel
theorem d_FB_span_5 : decode prog_1_method_23_code 5 = .ok (.aload_n 0, 1) := by decide +kernel
theorem d_FB_span_6 : decode prog_1_method_23_code 6 = .ok (.getfield 56, 3) := by decide +kernel
theorem d_FB_span_9 : decode prog_1_method_23_code 9 = .ok (.invokevirtual 269, 3) := by decide +kernel
theorem d_FB_span_12 : decode prog_1_method_23_code 12 = .ok (.iload_n 1, 1) := by decide +kernel
theorem d_FB_span_13 : decode prog_1_method_23_code 13 = .ok (.iload_n 2, 1) := by decide +kernel
theorem d_FB_span_14 : decode prog_1_method_23_code 14 = .ok (.invokevirtual 282, 3) := by decide +kernel
theorem d_FB_span_17 : decode prog_1_method_23_code 17 = .ok (.ireturn, 1) := by decide +kernel
theorem mb_Round_outermost : MBv R_Round y_Round_outermost prog_7_method_11_code 5 (some .int) 2 := ⟨mT7 96 (by decide +kernel) (by decide +kernel), mT7 97 (by decide +kernel) (by decide +kernel), mT1 9 (by decide +kernel) (by decide +kernel), mT7 98 (by decide +kernel) (by decide +kernel), by decide, rfl, by decide +kernel, by decide +kernel, by decide +kernel⟩
theorem lk_FB_282 : Cond.methodLink "FeastBook" 282 y_Round_outermost ∈ TT := mT7 95 (by decide +kernel) (by decide +kernel)
set_option maxHeartbeats 4000000 in
set_option maxRecDepth 100000 in
theorem c_FB_span {l : Launch} {D : va_G} {ad : Nat → Nat} {cA : Nat → ClassId} {sd sv : Nat → Nat} {h : Hp} {N : Nat} {a1 a2 : Int} {out : XO} (hI : Inj97 ad) (hst : l.stackTraces = false) (hM : M_FB_span N h a1 a2 = some out) : vx_Met l y_FB_span (.code y_FB_span prog_1_method_23_code 3 (some .int) :: TT) (rmX 11 1 6) (PC D ad cA sd sv h [.ref (ad 0), .int (iZ a1), .int (iZ a2)]) (QX D ad cA out) (XT D ad cA out) 1 6 (FA ad) := by
  unfold M_FB_span at hM
  refine entX (by decide +kernel) hI (Nat.le_of_ble_eq_true rfl) ?_
  intro p e s m args below meth c C hr hlk hnt hP ls hl
  have C : Cx p s m args c prog_1_method_23_code 3 "FeastBook" D ad cA sd sv (FA ad) := C
  have hl : lv_has ls 3 [(0, .ref (ad 0)), (1, .int (iZ a1)), (2, .int (iZ a2))] := hl
  have w : Wd s D ad cA (FA ad) h s.heap [] := ⟨hP, va_S.rf⟩
  refine m_aload_n C hl 0 d_FB_span_0 rfl rfl ?_
  refine m_iload_n C hl 1 d_FB_span_1 rfl rfl ?_
  refine m_xcall (Qc := QX D ad cA) C w hnt hlk hM (fun q e1 => runVX C w.1 w.2 kc_FB sh_0 (Nat.le_of_ble_eq_true rfl) (c_FB_checkFeast hI hst  e1) lk_FB_186 mb_FB_checkFeast rfl ⟨Nat.le_of_ble_eq_true rfl, Nat.le_of_ble_eq_true rfl⟩ ⟨Nat.le_of_ble_eq_true rfl, Nat.le_of_ble_eq_true rfl⟩ (Nat.le_of_ble_eq_true rfl) d_FB_span_2 hl.1 (rest := []) rfl) (Nat.le_of_ble_eq_true rfl) (Nat.le_of_ble_eq_true rfl) (fun _ h2 H locs w hM => ?_)
  refine m_aload_n C hl 0 d_FB_span_5 rfl rfl ?_
  refine m_getr C w.1 kc_FB sh_0 (Nat.le_of_ble_eq_true rfl) 6 73 rfl (by decide) fk_FB_56 d_FB_span_6 ?_
  obtain ⟨h4, e3, hM⟩ := bnd_some hM
  refine aftN C w (runV C w.1 w.2 kc_Round sh_73 (Nat.le_of_ble_eq_true rfl) (c_Round_allSettled hI e3) lk_FB_269 mb_Round_allSettled rfl ⟨Nat.le_of_ble_eq_true rfl, Nat.le_of_ble_eq_true rfl⟩ ⟨Nat.le_of_ble_eq_true rfl, Nat.le_of_ble_eq_true rfl⟩ (Nat.le_of_ble_eq_true rfl) d_FB_span_9 hl.1 (rest := []) rfl) (fun H locs w => ?_)
  refine m_iload_n C hl 1 d_FB_span_12 rfl rfl ?_
  refine m_iload_n C hl 2 d_FB_span_13 rfl rfl ?_
  obtain ⟨x6, e5, hM⟩ := bnd_some hM
  refine aftR (runV C w.1 w.2 kc_Round sh_73 (Nat.le_of_ble_eq_true rfl) (c_Round_outermost hI e5) lk_FB_282 mb_Round_outermost rfl ⟨Nat.le_of_ble_eq_true rfl, Nat.le_of_ble_eq_true rfl⟩ ⟨Nat.le_of_ble_eq_true rfl, Nat.le_of_ble_eq_true rfl⟩ (Nat.le_of_ble_eq_true rfl) d_FB_span_14 hl.1 (rest := []) rfl) ?_
  exact m_iretX C w hr hlk hM (Nat.le_of_ble_eq_true rfl) (Nat.le_of_ble_eq_true rfl) d_FB_span_17
def y_FB_meets : MethodName := ⟨"FeastBook", "meets", "(I)I"⟩
theorem d_FB_meets_0 : decode prog_1_method_24_code 0 = .ok (.aload_n 0, 1) := by decide +kernel
theorem d_FB_meets_1 : decode prog_1_method_24_code 1 = .ok (.iload_n 1, 1) := by decide +kernel
theorem d_FB_meets_2 : decode prog_1_method_24_code 2 = .ok (.invokevirtual 186, 3) := by decide +kernel
theorem d_FB_meets_5 : decode prog_1_method_24_code 5 = .ok (.aload_n 0, 1) := by decide +kernel
theorem d_FB_meets_6 : decode prog_1_method_24_code 6 = .ok (.getfield 56, 3) := by decide +kernel
theorem d_FB_meets_9 : decode prog_1_method_24_code 9 = .ok (.iload_n 1, 1) := by decide +kernel
theorem d_FB_meets_10 : decode prog_1_method_24_code 10 = .ok (.invokevirtual 286, 3) := by decide +kernel
theorem d_FB_meets_13 : decode prog_1_method_24_code 13 = .ok (.ireturn, 1) := by decide +kernel
theorem mb_Round_metBy : MBv R_Round y_Round_metBy prog_7_method_13_code 4 (some .int) 1 := ⟨mT7 111 (by decide +kernel) (by decide +kernel), mT7 112 (by decide +kernel) (by decide +kernel), mT1 9 (by decide +kernel) (by decide +kernel), mT7 113 (by decide +kernel) (by decide +kernel), by decide, rfl, by decide +kernel, by decide +kernel, by decide +kernel⟩
theorem lk_FB_286 : Cond.methodLink "FeastBook" 286 y_Round_metBy ∈ TT := mT7 110 (by decide +kernel) (by decide +kernel)
set_option maxHeartbeats 4000000 in
set_option maxRecDepth 100000 in
theorem c_FB_meets {l : Launch} {D : va_G} {ad : Nat → Nat} {cA : Nat → ClassId} {sd sv : Nat → Nat} {h : Hp} {N : Nat} {a1 : Int} {out : XO} (hI : Inj97 ad) (hst : l.stackTraces = false) (hM : M_FB_meets N h a1 = some out) : vx_Met l y_FB_meets (.code y_FB_meets prog_1_method_24_code 2 (some .int) :: TT) (rmX 11 1 6) (PC D ad cA sd sv h [.ref (ad 0), .int (iZ a1)]) (QX D ad cA out) (XT D ad cA out) 1 6 (FA ad) := by
  unfold M_FB_meets at hM
  refine entX (by decide +kernel) hI (Nat.le_of_ble_eq_true rfl) ?_
  intro p e s m args below meth c C hr hlk hnt hP ls hl
  have C : Cx p s m args c prog_1_method_24_code 2 "FeastBook" D ad cA sd sv (FA ad) := C
  have hl : lv_has ls 2 [(0, .ref (ad 0)), (1, .int (iZ a1))] := hl
  have w : Wd s D ad cA (FA ad) h s.heap [] := ⟨hP, va_S.rf⟩
  refine m_aload_n C hl 0 d_FB_meets_0 rfl rfl ?_
  refine m_iload_n C hl 1 d_FB_meets_1 rfl rfl ?_
  refine m_xcall (Qc := QX D ad cA) C w hnt hlk hM (fun q e1 => runVX C w.1 w.2 kc_FB sh_0 (Nat.le_of_ble_eq_true rfl) (c_FB_checkFeast hI hst  e1) lk_FB_186 mb_FB_checkFeast rfl ⟨Nat.le_of_ble_eq_true rfl, Nat.le_of_ble_eq_true rfl⟩ ⟨Nat.le_of_ble_eq_true rfl, Nat.le_of_ble_eq_true rfl⟩ (Nat.le_of_ble_eq_true rfl) d_FB_meets_2 hl.1 (rest := []) rfl) (Nat.le_of_ble_eq_true rfl) (Nat.le_of_ble_eq_true rfl) (fun _ h2 H locs w hM => ?_)
  refine m_aload_n C hl 0 d_FB_meets_5 rfl rfl ?_
  refine m_getr C w.1 kc_FB sh_0 (Nat.le_of_ble_eq_true rfl) 6 73 rfl (by decide) fk_FB_56 d_FB_meets_6 ?_
  refine m_iload_n C hl 1 d_FB_meets_9 rfl rfl ?_
  obtain ⟨q4, e3, hM⟩ := bnd_some hM
  refine aftI C w (runV C w.1 w.2 kc_Round sh_73 (Nat.le_of_ble_eq_true rfl) (c_Round_metBy hI e3) lk_FB_286 mb_Round_metBy rfl ⟨Nat.le_of_ble_eq_true rfl, Nat.le_of_ble_eq_true rfl⟩ ⟨Nat.le_of_ble_eq_true rfl, Nat.le_of_ble_eq_true rfl⟩ (Nat.le_of_ble_eq_true rfl) d_FB_meets_10 hl.1 (rest := []) rfl) (fun H locs w => ?_)
  exact m_iretX C w hr hlk hM (Nat.le_of_ble_eq_true rfl) (Nat.le_of_ble_eq_true rfl) d_FB_meets_13
def y_FB_checkTwoFeasts : MethodName := ⟨"FeastBook", "checkTwoFeasts", "(II)V"⟩
theorem d_FB_checkTwoFeasts_0 : decode prog_1_method_49_code 0 = .ok (.aload_n 0, 1) := by decide +kernel
theorem d_FB_checkTwoFeasts_1 : decode prog_1_method_49_code 1 = .ok (.iload_n 1, 1) := by decide +kernel
theorem d_FB_checkTwoFeasts_2 : decode prog_1_method_49_code 2 = .ok (.invokevirtual 186, 3) := by decide +kernel
theorem d_FB_checkTwoFeasts_5 : decode prog_1_method_49_code 5 = .ok (.aload_n 0, 1) := by decide +kernel
theorem d_FB_checkTwoFeasts_6 : decode prog_1_method_49_code 6 = .ok (.iload_n 2, 1) := by decide +kernel
theorem d_FB_checkTwoFeasts_7 : decode prog_1_method_49_code 7 = .ok (.invokevirtual 186, 3) := by decide +kernel
theorem d_FB_checkTwoFeasts_10 : decode prog_1_method_49_code 10 = .ok (.iload_n 1, 1) := by decide +kernel
theorem d_FB_checkTwoFeasts_11 : decode prog_1_method_49_code 11 = .ok (.iload_n 2, 1) := by decide +kernel
theorem d_FB_checkTwoFeasts_12 : decode prog_1_method_49_code 12 = .ok (.if_icmp .ne 14, 3) := by decide +kernel
theorem d_FB_checkTwoFeasts_15 : decode prog_1_method_49_code 15 = .ok (.new 83, 3) := by decide +kernel
theorem d_FB_checkTwoFeasts_18 : decode prog_1_method_49_code 18 = .ok (.dup, 1) := by decide +kernel
theorem d_FB_checkTwoFeasts_19 : decode prog_1_method_49_code 19 = .ok (.ldc_w 389, 3) := by decide +kernel
theorem d_FB_checkTwoFeasts_22 : decode prog_1_method_49_code 22 = .ok (.invokespecial 87, 3) := by decide +kernel
theorem d_FB_checkTwoFeasts_25 : decode prog_1_method_49_code 25 = .ok (.athrow, 1) := by decide +kernel
theorem d_FB_checkTwoFeasts_26 : decode prog_1_method_49_code 26 = .ok (.return_, 1) := by decide +kernel
set_option maxHeartbeats 4000000 in
set_option maxRecDepth 100000 in
theorem c_FB_checkTwoFeasts {l : Launch} {D : va_G} {ad : Nat → Nat} {cA : Nat → ClassId} {sd sv : Nat → Nat} {h : Hp} {a1 a2 : Int} {out : XO} (hI : Inj97 ad) (hst : l.stackTraces = false) (hM : M_FB_checkTwoFeasts h a1 a2 = some out) : vx_Met l y_FB_checkTwoFeasts (.code y_FB_checkTwoFeasts prog_1_method_49_code 3 none :: TT) (rmX 11 3 18) (PC D ad cA sd sv h [.ref (ad 0), .int (iZ a1), .int (iZ a2)]) (QXV D ad cA out) (XT D ad cA out) 3 18 (FA ad) := by
  unfold M_FB_checkTwoFeasts at hM
  refine entX (by decide +kernel) hI (Nat.le_of_ble_eq_true rfl) ?_
  intro p e s m args below meth c C hr hlk hnt hP ls hl
  have C : Cx p s m args c prog_1_method_49_code 3 "FeastBook" D ad cA sd sv (FA ad) := C
  have hl : lv_has ls 3 [(0, .ref (ad 0)), (1, .int (iZ a1)), (2, .int (iZ a2))] := hl
  have w : Wd s D ad cA (FA ad) h s.heap [] := ⟨hP, va_S.rf⟩
  refine m_aload_n C hl 0 d_FB_checkTwoFeasts_0 rfl rfl ?_
  refine m_iload_n C hl 1 d_FB_checkTwoFeasts_1 rfl rfl ?_
  refine m_xcall (Qc := QXV D ad cA) C w hnt hlk hM (fun q e1 => runVX C w.1 w.2 kc_FB sh_0 (Nat.le_of_ble_eq_true rfl) (c_FB_checkFeast hI hst  e1) lk_FB_186 mb_FB_checkFeast rfl ⟨Nat.le_of_ble_eq_true rfl, Nat.le_of_ble_eq_true rfl⟩ ⟨Nat.le_of_ble_eq_true rfl, Nat.le_of_ble_eq_true rfl⟩ (Nat.le_of_ble_eq_true rfl) d_FB_checkTwoFeasts_2 hl.1 (rest := []) rfl) (Nat.le_of_ble_eq_true rfl) (Nat.le_of_ble_eq_true rfl) (fun _ h2 H locs w hM => ?_)
  refine m_aload_n C hl 0 d_FB_checkTwoFeasts_5 rfl rfl ?_
  refine m_iload_n C hl 2 d_FB_checkTwoFeasts_6 rfl rfl ?_
  refine m_xcall (Qc := QXV D ad cA) C w hnt hlk hM (fun q e3 => runVX C w.1 w.2 kc_FB sh_0 (Nat.le_of_ble_eq_true rfl) (c_FB_checkFeast hI hst  e3) lk_FB_186 mb_FB_checkFeast rfl ⟨Nat.le_of_ble_eq_true rfl, Nat.le_of_ble_eq_true rfl⟩ ⟨Nat.le_of_ble_eq_true rfl, Nat.le_of_ble_eq_true rfl⟩ (Nat.le_of_ble_eq_true rfl) d_FB_checkTwoFeasts_7 hl.1 (rest := []) rfl) (Nat.le_of_ble_eq_true rfl) (Nat.le_of_ble_eq_true rfl) (fun _ h4 H locs w hM => ?_)
  refine m_iload_n C hl 1 d_FB_checkTwoFeasts_10 rfl rfl ?_
  refine m_iload_n C hl 2 d_FB_checkTwoFeasts_11 rfl rfl ?_
  refine m_icmp_ne C hM 26 d_FB_checkTwoFeasts_12 (by decide) (fun hM => ?_) (fun hM => ?_)
  · exact m_vretX C w hr hlk hM (Nat.le_of_ble_eq_true rfl) (Nat.le_of_ble_eq_true rfl) d_FB_checkTwoFeasts_26
  · exact m_thrW (Qc := QXV D ad cA) (t := 45) hst C w hnt hl.1 hlk thw_3 (by decide) rfl (by decide) hM d_FB_checkTwoFeasts_15 d_FB_checkTwoFeasts_18 d_FB_checkTwoFeasts_19 d_FB_checkTwoFeasts_22 d_FB_checkTwoFeasts_25 (Nat.le_of_ble_eq_true rfl) (Nat.le_of_ble_eq_true rfl) (Nat.le_of_ble_eq_true rfl) (Nat.le_of_ble_eq_true rfl) (Nat.le_of_ble_eq_true rfl) (Nat.le_of_ble_eq_true rfl)
def y_FB_beats : MethodName := ⟨"FeastBook", "beats", "(II)Z"⟩
theorem d_FB_beats_0 : decode prog_1_method_25_code 0 = .ok (.aload_n 0, 1) := by decide +kernel
theorem d_FB_beats_1 : decode prog_1_method_25_code 1 = .ok (.iload_n 1, 1) := by decide +kernel
theorem d_FB_beats_2 : decode prog_1_method_25_code 2 = .ok (.iload_n 2, 1) := by decide +kernel
theorem d_FB_beats_3 : decode prog_1_method_25_code 3 = .ok (.invokevirtual 289, 3) := by decide +kernel
theorem d_FB_beats_6 : decode prog_1_method_25_code 6 = .ok (.aload_n 0, 1) := by decide +kernel
theorem d_FB_beats_7 : decode prog_1_method_25_code 7 = .ok (.getfield 28, 3) := by decide +kernel
theorem d_FB_beats_10 : decode prog_1_method_25_code 10 = .ok (.getfield 96, 3) := by decide +kernel
theorem d_FB_beats_13 : decode prog_1_method_25_code 13 = .ok (.getfield 292, 3) := by decide +kernel
theorem d_FB_beats_16 : decode prog_1_method_25_code 16 = .ok (.iload_n 1, 1) := by decide +kernel
theorem d_FB_beats_17 : decode prog_1_method_25_code 17 = .ok (.iaload, 1) := by decide +kernel
theorem d_FB_beats_18 : decode prog_1_method_25_code 18 = .ok (.aload_n 0, 1) := by decide +kernel
theorem d_FB_beats_19 : decode prog_1_method_25_code 19 = .ok (.getfield 28, 3) := by decide +kernel
theorem d_FB_beats_22 : decode prog_1_method_25_code 22 = .ok (.getfield 96, 3) := by decide +kernel
theorem d_FB_beats_25 : decode prog_1_method_25_code 25 = .ok (.getfield 292, 3) := by decide +kernel
theorem d_FB_beats_28 : decode prog_1_method_25_code 28 = .ok (.iload_n 2, 1) := by decide +kernel
theorem d_FB_beats_29 : decode prog_1_method_25_code 29 = .ok (.iaload, 1) := by decide +kernel
theorem d_FB_beats_30 : decode prog_1_method_25_code 30 = .ok (.if_icmp .le 7, 3) := by decide +kernel
theorem d_FB_beats_33 : decode prog_1_method_25_code 33 = .ok (.iconst 1, 1) := by decide +kernel
theorem d_FB_beats_34 : decode prog_1_method_25_code 34 = .ok (.goto 4, 3) := by decide +kernel
theorem d_FB_beats_37 : decode prog_1_method_25_code 37 = .ok (.iconst 0, 1) := by decide +kernel
theorem d_FB_beats_38 : decode prog_1_method_25_code 38 = .ok (.ireturn, 1) := by decide +kernel
theorem mb_FB_checkTwoFeasts : MBv R_FB y_FB_checkTwoFeasts prog_1_method_49_code 3 none 2 := ⟨mT7 128 (by decide +kernel) (by decide +kernel), mTs 13 (by decide +kernel) (by decide +kernel), mT1 1 (by decide +kernel) (by decide +kernel), mT7 129 (by decide +kernel) (by decide +kernel), by decide, rfl, by decide +kernel, by decide +kernel, by decide +kernel⟩
theorem fk_FB_292 : Cond.fieldLink "FeastBook" 292 (T_Feasts 7).1 (T_Feasts 7).2.1 (T_Feasts 7).2.2.1 ∈ TT := mT1 127 (by decide +kernel) (by decide +kernel)
theorem lk_FB_289 : Cond.methodLink "FeastBook" 289 y_FB_checkTwoFeasts ∈ TT := mT7 126 (by decide +kernel) (by decide +kernel)
set_option maxHeartbeats 4000000 in
set_option maxRecDepth 100000 in
theorem c_FB_beats {l : Launch} {D : va_G} {ad : Nat → Nat} {cA : Nat → ClassId} {sd sv : Nat → Nat} {h : Hp} {a1 a2 : Int} {out : XO} (hI : Inj97 ad) (hst : l.stackTraces = false) (hM : M_FB_beats h a1 a2 = some out) : vx_Met l y_FB_beats (.code y_FB_beats prog_1_method_25_code 3 (some .boolean) :: TT) (rmX 12 3 18) (PC D ad cA sd sv h [.ref (ad 0), .int (iZ a1), .int (iZ a2)]) (QX D ad cA out) (XT D ad cA out) 3 18 (FA ad) := by
  unfold M_FB_beats at hM
  refine entX (by decide +kernel) hI (Nat.le_of_ble_eq_true rfl) ?_
  intro p e s m args below meth c C hr hlk hnt hP ls hl
  have C : Cx p s m args c prog_1_method_25_code 3 "FeastBook" D ad cA sd sv (FA ad) := C
  have hl : lv_has ls 3 [(0, .ref (ad 0)), (1, .int (iZ a1)), (2, .int (iZ a2))] := hl
  have w : Wd s D ad cA (FA ad) h s.heap [] := ⟨hP, va_S.rf⟩
  refine m_aload_n C hl 0 d_FB_beats_0 rfl rfl ?_
  refine m_iload_n C hl 1 d_FB_beats_1 rfl rfl ?_
  refine m_iload_n C hl 2 d_FB_beats_2 rfl rfl ?_
  refine m_xcall (Qc := QX D ad cA) C w hnt hlk hM (fun q e1 => runVX C w.1 w.2 kc_FB sh_0 (Nat.le_of_ble_eq_true rfl) (c_FB_checkTwoFeasts hI hst  e1) lk_FB_289 mb_FB_checkTwoFeasts rfl ⟨Nat.le_of_ble_eq_true rfl, Nat.le_of_ble_eq_true rfl⟩ ⟨Nat.le_of_ble_eq_true rfl, Nat.le_of_ble_eq_true rfl⟩ (Nat.le_of_ble_eq_true rfl) d_FB_beats_3 hl.1 (rest := []) rfl) (Nat.le_of_ble_eq_true rfl) (Nat.le_of_ble_eq_true rfl) (fun _ h2 H locs w hM => ?_)
  refine m_aload_n C hl 0 d_FB_beats_6 rfl rfl ?_
  refine m_getr C w.1 kc_FB sh_0 (Nat.le_of_ble_eq_true rfl) 2 23 rfl (by decide) fk_FB_28 d_FB_beats_7 ?_
  refine m_getr C w.1 kc_Book sh_23 (Nat.le_of_ble_eq_true rfl) 17 33 rfl (by decide) fk_FB_96 d_FB_beats_10 ?_
  refine m_getr C w.1 kc_Feasts sh_33 (Nat.le_of_ble_eq_true rfl) 7 40 rfl (by decide) fk_FB_292 d_FB_beats_13 ?_
  refine m_iload_n C hl 1 d_FB_beats_16 rfl rfl ?_
  refine m_iald C w.1 sh_40 (Nat.le_of_ble_eq_true rfl) (Nat.le_of_ble_eq_true rfl) hM d_FB_beats_17 (fun x3 hM => ?_)
  refine m_aload_n C hl 0 d_FB_beats_18 rfl rfl ?_
  refine m_getr C w.1 kc_FB sh_0 (Nat.le_of_ble_eq_true rfl) 2 23 rfl (by decide) fk_FB_28 d_FB_beats_19 ?_
  refine m_getr C w.1 kc_Book sh_23 (Nat.le_of_ble_eq_true rfl) 17 33 rfl (by decide) fk_FB_96 d_FB_beats_22 ?_
  refine m_getr C w.1 kc_Feasts sh_33 (Nat.le_of_ble_eq_true rfl) 7 40 rfl (by decide) fk_FB_292 d_FB_beats_25 ?_
  refine m_iload_n C hl 2 d_FB_beats_28 rfl rfl ?_
  refine m_iald C w.1 sh_40 (Nat.le_of_ble_eq_true rfl) (Nat.le_of_ble_eq_true rfl) hM d_FB_beats_29 (fun x4 hM => ?_)
  refine m_icmp_le C hM 37 d_FB_beats_30 (by decide) (fun hM => ?_) (fun hM => ?_)
  · refine m_iconst C d_FB_beats_37 ?_
    exact m_zretX C w hr hlk hM (Nat.le_of_ble_eq_true rfl) (Nat.le_of_ble_eq_true rfl) d_FB_beats_38
  · refine m_iconst C d_FB_beats_33 ?_
    refine m_goto C 38 d_FB_beats_34 (by decide) ?_
    exact m_zretX C w hr hlk hM (Nat.le_of_ble_eq_true rfl) (Nat.le_of_ble_eq_true rfl) d_FB_beats_38
def y_FB_safe : MethodName := ⟨"FeastBook", "safe", "(I)I"⟩
theorem d_FB_safe_0 : decode prog_1_method_26_code 0 = .ok (.aload_n 0, 1) := by decide +kernel
theorem d_FB_safe_1 : decode prog_1_method_26_code 1 = .ok (.iload_n 1, 1) := by decide +kernel
theorem d_FB_safe_2 : decode prog_1_method_26_code 2 = .ok (.invokevirtual 186, 3) := by decide +kernel
theorem d_FB_safe_5 : decode prog_1_method_26_code 5 = .ok (.aload_n 0, 1) := by decide +kernel
theorem d_FB_safe_6 : decode prog_1_method_26_code 6 = .ok (.getfield 56, 3) := by decide +kernel
theorem d_FB_safe_9 : decode prog_1_method_26_code 9 = .ok (.iload_n 1, 1) := by decide +kernel
theorem d_FB_safe_10 : decode prog_1_method_26_code 10 = .ok (.invokevirtual 295, 3) := by decide +kernel
theorem d_FB_safe_13 : decode prog_1_method_26_code 13 = .ok (.ireturn, 1) := by decide +kernel
theorem mb_Round_safeRank : MBv R_Round y_Round_safeRank prog_7_method_15_code 5 (some .int) 1 := ⟨mT7 139 (by decide +kernel) (by decide +kernel), mT7 140 (by decide +kernel) (by decide +kernel), mT1 9 (by decide +kernel) (by decide +kernel), mT7 141 (by decide +kernel) (by decide +kernel), by decide, rfl, by decide +kernel, by decide +kernel, by decide +kernel⟩
theorem lk_FB_295 : Cond.methodLink "FeastBook" 295 y_Round_safeRank ∈ TT := mT7 138 (by decide +kernel) (by decide +kernel)
set_option maxHeartbeats 4000000 in
set_option maxRecDepth 100000 in
theorem c_FB_safe {l : Launch} {D : va_G} {ad : Nat → Nat} {cA : Nat → ClassId} {sd sv : Nat → Nat} {h : Hp} {N : Nat} {a1 : Int} {out : XO} (hI : Inj97 ad) (hst : l.stackTraces = false) (hM : M_FB_safe N h a1 = some out) : vx_Met l y_FB_safe (.code y_FB_safe prog_1_method_26_code 2 (some .int) :: TT) (rmX 11 1 6) (PC D ad cA sd sv h [.ref (ad 0), .int (iZ a1)]) (QX D ad cA out) (XT D ad cA out) 1 6 (FA ad) := by
  unfold M_FB_safe at hM
  refine entX (by decide +kernel) hI (Nat.le_of_ble_eq_true rfl) ?_
  intro p e s m args below meth c C hr hlk hnt hP ls hl
  have C : Cx p s m args c prog_1_method_26_code 2 "FeastBook" D ad cA sd sv (FA ad) := C
  have hl : lv_has ls 2 [(0, .ref (ad 0)), (1, .int (iZ a1))] := hl
  have w : Wd s D ad cA (FA ad) h s.heap [] := ⟨hP, va_S.rf⟩
  refine m_aload_n C hl 0 d_FB_safe_0 rfl rfl ?_
  refine m_iload_n C hl 1 d_FB_safe_1 rfl rfl ?_
  refine m_xcall (Qc := QX D ad cA) C w hnt hlk hM (fun q e1 => runVX C w.1 w.2 kc_FB sh_0 (Nat.le_of_ble_eq_true rfl) (c_FB_checkFeast hI hst  e1) lk_FB_186 mb_FB_checkFeast rfl ⟨Nat.le_of_ble_eq_true rfl, Nat.le_of_ble_eq_true rfl⟩ ⟨Nat.le_of_ble_eq_true rfl, Nat.le_of_ble_eq_true rfl⟩ (Nat.le_of_ble_eq_true rfl) d_FB_safe_2 hl.1 (rest := []) rfl) (Nat.le_of_ble_eq_true rfl) (Nat.le_of_ble_eq_true rfl) (fun _ h2 H locs w hM => ?_)
  refine m_aload_n C hl 0 d_FB_safe_5 rfl rfl ?_
  refine m_getr C w.1 kc_FB sh_0 (Nat.le_of_ble_eq_true rfl) 6 73 rfl (by decide) fk_FB_56 d_FB_safe_6 ?_
  refine m_iload_n C hl 1 d_FB_safe_9 rfl rfl ?_
  obtain ⟨q4, e3, hM⟩ := bnd_some hM
  refine aftI C w (runV C w.1 w.2 kc_Round sh_73 (Nat.le_of_ble_eq_true rfl) (c_Round_safeRank hI e3) lk_FB_295 mb_Round_safeRank rfl ⟨Nat.le_of_ble_eq_true rfl, Nat.le_of_ble_eq_true rfl⟩ ⟨Nat.le_of_ble_eq_true rfl, Nat.le_of_ble_eq_true rfl⟩ (Nat.le_of_ble_eq_true rfl) d_FB_safe_10 hl.1 (rest := []) rfl) (fun H locs w => ?_)
  exact m_iretX C w hr hlk hM (Nat.le_of_ble_eq_true rfl) (Nat.le_of_ble_eq_true rfl) d_FB_safe_13
def y_FB_next : MethodName := ⟨"FeastBook", "next", "(III)I"⟩
theorem d_FB_next_0 : decode prog_1_method_27_code 0 = .ok (.aload_n 0, 1) := by decide +kernel
theorem d_FB_next_1 : decode prog_1_method_27_code 1 = .ok (.iload_n 1, 1) := by decide +kernel
theorem d_FB_next_2 : decode prog_1_method_27_code 2 = .ok (.invokevirtual 186, 3) := by decide +kernel
theorem d_FB_next_5 : decode prog_1_method_27_code 5 = .ok (.aload_n 0, 1) := by decide +kernel
theorem d_FB_next_6 : decode prog_1_method_27_code 6 = .ok (.iload_n 3, 1) := by decide +kernel
theorem d_FB_next_7 : decode prog_1_method_27_code 7 = .ok (.invokevirtual 103, 3) := by decide +kernel
theorem d_FB_next_10 : decode prog_1_method_27_code 10 = .ok (.iload_n 2, 1) := by decide +kernel
theorem d_FB_next_11 : decode prog_1_method_27_code 11 = .ok (.iconst 0, 1) := by decide +kernel
theorem d_FB_next_12 : decode prog_1_method_27_code 12 = .ok (.aload_n 0, 1) := by decide +kernel
theorem d_FB_next_13 : decode prog_1_method_27_code 13 = .ok (.getfield 28, 3) := by decide +kernel
theorem d_FB_next_16 : decode prog_1_method_27_code 16 = .ok (.getfield 298, 3) := by decide +kernel
theorem d_FB_next_19 : decode prog_1_method_27_code 19 = .ok (.iconst 1, 1) := by decide +kernel
theorem d_FB_next_20 : decode prog_1_method_27_code 20 = .ok (.isub, 1) := by decide +kernel
theorem d_FB_next_21 : decode prog_1_method_27_code 21 = .ok (.invokestatic 225, 3) := by decide +kernel
theorem d_FB_next_24 : decode prog_1_method_27_code 24 = .ok (.aload_n 0, 1) := by decide +kernel
theorem d_FB_next_25 : decode prog_1_method_27_code 25 = .ok (.getfield 56, 3) := by decide +kernel
theorem d_FB_next_28 : decode prog_1_method_27_code 28 = .ok (.invokevirtual 269, 3) := by decide +kernel
theorem d_FB_next_31 : decode prog_1_method_27_code 31 = .ok (.iload_n 1, 1) := by decide +kernel
theorem d_FB_next_32 : decode prog_1_method_27_code 32 = .ok (.iload_n 2, 1) := by decide +kernel
theorem d_FB_next_33 : decode prog_1_method_27_code 33 = .ok (.iload_n 3, 1) := by decide +kernel
theorem d_FB_next_34 : decode prog_1_method_27_code 34 = .ok (.invokevirtual 301, 3) := by decide +kernel
theorem d_FB_next_37 : decode prog_1_method_27_code 37 = .ok (.ireturn, 1) := by decide +kernel
theorem mb_Round_firstOn : MBv R_Round y_Round_firstOn prog_7_method_16_code 7 (some .int) 3 := ⟨mT7 159 (by decide +kernel) (by decide +kernel), mT7 160 (by decide +kernel) (by decide +kernel), mT1 9 (by decide +kernel) (by decide +kernel), mT7 161 (by decide +kernel) (by decide +kernel), by decide, rfl, by decide +kernel, by decide +kernel, by decide +kernel⟩
theorem lk_FB_301 : Cond.methodLink "FeastBook" 301 y_Round_firstOn ∈ TT := mT7 158 (by decide +kernel) (by decide +kernel)
set_option maxHeartbeats 4000000 in
set_option maxRecDepth 100000 in
theorem c_FB_next {l : Launch} {D : va_G} {ad : Nat → Nat} {cA : Nat → ClassId} {sd sv : Nat → Nat} {h : Hp} {N : Nat} {a1 a2 a3 : Int} {out : XO} (hI : Inj97 ad) (hst : l.stackTraces = false) (hM : M_FB_next N h a1 a2 a3 = some out) : vx_Met l y_FB_next (.code y_FB_next prog_1_method_27_code 4 (some .int) :: TT) (rmX 11 3 18) (PC D ad cA sd sv h [.ref (ad 0), .int (iZ a1), .int (iZ a2), .int (iZ a3)]) (QX D ad cA out) (XT D ad cA out) 3 18 (FA ad) := by
  unfold M_FB_next at hM
  refine entX (by decide +kernel) hI (Nat.le_of_ble_eq_true rfl) ?_
  intro p e s m args below meth c C hr hlk hnt hP ls hl
  have C : Cx p s m args c prog_1_method_27_code 4 "FeastBook" D ad cA sd sv (FA ad) := C
  have hl : lv_has ls 4 [(0, .ref (ad 0)), (1, .int (iZ a1)), (2, .int (iZ a2)), (3, .int (iZ a3))] := hl
  have w : Wd s D ad cA (FA ad) h s.heap [] := ⟨hP, va_S.rf⟩
  refine m_aload_n C hl 0 d_FB_next_0 rfl rfl ?_
  refine m_iload_n C hl 1 d_FB_next_1 rfl rfl ?_
  refine m_xcall (Qc := QX D ad cA) C w hnt hlk hM (fun q e1 => runVX C w.1 w.2 kc_FB sh_0 (Nat.le_of_ble_eq_true rfl) (c_FB_checkFeast hI hst  e1) lk_FB_186 mb_FB_checkFeast rfl ⟨Nat.le_of_ble_eq_true rfl, Nat.le_of_ble_eq_true rfl⟩ ⟨Nat.le_of_ble_eq_true rfl, Nat.le_of_ble_eq_true rfl⟩ (Nat.le_of_ble_eq_true rfl) d_FB_next_2 hl.1 (rest := []) rfl) (Nat.le_of_ble_eq_true rfl) (Nat.le_of_ble_eq_true rfl) (fun _ h2 H locs w hM => ?_)
  refine m_aload_n C hl 0 d_FB_next_5 rfl rfl ?_
  refine m_iload_n C hl 3 d_FB_next_6 rfl rfl ?_
  refine m_xcall (Qc := QX D ad cA) C w hnt hlk hM (fun q e3 => runVX C w.1 w.2 kc_FB sh_0 (Nat.le_of_ble_eq_true rfl) (c_FB_checkYear hI hst  e3) lk_FB_103 mb_FB_checkYear rfl ⟨Nat.le_of_ble_eq_true rfl, Nat.le_of_ble_eq_true rfl⟩ ⟨Nat.le_of_ble_eq_true rfl, Nat.le_of_ble_eq_true rfl⟩ (Nat.le_of_ble_eq_true rfl) d_FB_next_7 hl.1 (rest := []) rfl) (Nat.le_of_ble_eq_true rfl) (Nat.le_of_ble_eq_true rfl) (fun _ h4 H locs w hM => ?_)
  refine m_iload_n C hl 2 d_FB_next_10 rfl rfl ?_
  refine m_iconst C d_FB_next_11 ?_
  refine m_aload_n C hl 0 d_FB_next_12 rfl rfl ?_
  refine m_getr C w.1 kc_FB sh_0 (Nat.le_of_ble_eq_true rfl) 2 23 rfl (by decide) fk_FB_28 d_FB_next_13 ?_
  refine m_geti C w.1 kc_Book sh_23 (Nat.le_of_ble_eq_true rfl) 1 rfl (by decide) fk_FB_298 d_FB_next_16 ?_
  refine m_iconst C d_FB_next_19 ?_
  refine m_isub C d_FB_next_20 ?_
  refine m_xcall (Qc := QX D ad cA) C w hnt hlk hM (fun q e5 => runSX C w.1 w.2 (c_FB_checkNumber hI hst  e5) lk_FB_225 mb_FB_checkNumber rfl ⟨Nat.le_of_ble_eq_true rfl, Nat.le_of_ble_eq_true rfl⟩ ⟨Nat.le_of_ble_eq_true rfl, Nat.le_of_ble_eq_true rfl⟩ (Nat.le_of_ble_eq_true rfl) d_FB_next_21 hl.1 (rest := []) rfl) (Nat.le_of_ble_eq_true rfl) (Nat.le_of_ble_eq_true rfl) (fun _ h6 H locs w hM => ?_)
  refine m_aload_n C hl 0 d_FB_next_24 rfl rfl ?_
  refine m_getr C w.1 kc_FB sh_0 (Nat.le_of_ble_eq_true rfl) 6 73 rfl (by decide) fk_FB_56 d_FB_next_25 ?_
  obtain ⟨h8, e7, hM⟩ := bnd_some hM
  refine aftN C w (runV C w.1 w.2 kc_Round sh_73 (Nat.le_of_ble_eq_true rfl) (c_Round_allSettled hI e7) lk_FB_269 mb_Round_allSettled rfl ⟨Nat.le_of_ble_eq_true rfl, Nat.le_of_ble_eq_true rfl⟩ ⟨Nat.le_of_ble_eq_true rfl, Nat.le_of_ble_eq_true rfl⟩ (Nat.le_of_ble_eq_true rfl) d_FB_next_28 hl.1 (rest := []) rfl) (fun H locs w => ?_)
  refine m_iload_n C hl 1 d_FB_next_31 rfl rfl ?_
  refine m_iload_n C hl 2 d_FB_next_32 rfl rfl ?_
  refine m_iload_n C hl 3 d_FB_next_33 rfl rfl ?_
  obtain ⟨x10, e9, hM⟩ := bnd_some hM
  refine aftR (runV C w.1 w.2 kc_Round sh_73 (Nat.le_of_ble_eq_true rfl) (c_Round_firstOn hI e9) lk_FB_301 mb_Round_firstOn rfl ⟨Nat.le_of_ble_eq_true rfl, Nat.le_of_ble_eq_true rfl⟩ ⟨Nat.le_of_ble_eq_true rfl, Nat.le_of_ble_eq_true rfl⟩ (Nat.le_of_ble_eq_true rfl) d_FB_next_34 hl.1 (rest := []) rfl) ?_
  exact m_iretX C w hr hlk hM (Nat.le_of_ble_eq_true rfl) (Nat.le_of_ble_eq_true rfl) d_FB_next_37
def y_FB_unresolved : MethodName := ⟨"FeastBook", "unresolved", "()I"⟩
theorem d_FB_unresolved_0 : decode prog_1_method_28_code 0 = .ok (.aload_n 0, 1) := by decide +kernel
theorem d_FB_unresolved_1 : decode prog_1_method_28_code 1 = .ok (.invokevirtual 248, 3) := by decide +kernel
theorem d_FB_unresolved_4 : decode prog_1_method_28_code 4 = .ok (.aload_n 0, 1) := by decide +kernel
theorem d_FB_unresolved_5 : decode prog_1_method_28_code 5 = .ok (.getfield 56, 3) := by decide +kernel
theorem d_FB_unresolved_8 : decode prog_1_method_28_code 8 = .ok (.invokevirtual 269, 3) := by decide +kernel
theorem d_FB_unresolved_11 : decode prog_1_method_28_code 11 = .ok (.invokevirtual 305, 3) := by decide +kernel
theorem d_FB_unresolved_14 : decode prog_1_method_28_code 14 = .ok (.ireturn, 1) := by decide +kernel
theorem mb_Round_firstLeft : MBv R_Round y_Round_firstLeft prog_7_method_9_code 4 (some .int) 0 := ⟨mT7 172 (by decide +kernel) (by decide +kernel), mT7 173 (by decide +kernel) (by decide +kernel), mT1 9 (by decide +kernel) (by decide +kernel), mT7 174 (by decide +kernel) (by decide +kernel), by decide, rfl, by decide +kernel, by decide +kernel, by decide +kernel⟩
theorem lk_FB_305 : Cond.methodLink "FeastBook" 305 y_Round_firstLeft ∈ TT := mT7 171 (by decide +kernel) (by decide +kernel)
set_option maxHeartbeats 4000000 in
set_option maxRecDepth 100000 in
theorem c_FB_unresolved {l : Launch} {D : va_G} {ad : Nat → Nat} {cA : Nat → ClassId} {sd sv : Nat → Nat} {h : Hp} {N : Nat} {out : XO} (hI : Inj97 ad) (hst : l.stackTraces = false) (hM : M_FB_unresolved N h = some out) : vx_Met l y_FB_unresolved (.code y_FB_unresolved prog_1_method_28_code 1 (some .int) :: TT) (rmX 11 1 6) (PC D ad cA sd sv h [.ref (ad 0)]) (QX D ad cA out) (XT D ad cA out) 1 6 (FA ad) := by
  unfold M_FB_unresolved at hM
  refine entX (by decide +kernel) hI (Nat.le_of_ble_eq_true rfl) ?_
  intro p e s m args below meth c C hr hlk hnt hP ls hl
  have C : Cx p s m args c prog_1_method_28_code 1 "FeastBook" D ad cA sd sv (FA ad) := C
  have hl : lv_has ls 1 [(0, .ref (ad 0))] := hl
  have w : Wd s D ad cA (FA ad) h s.heap [] := ⟨hP, va_S.rf⟩
  refine m_aload_n C hl 0 d_FB_unresolved_0 rfl rfl ?_
  refine m_xcall (Qc := QX D ad cA) C w hnt hlk hM (fun q e1 => runVX C w.1 w.2 kc_FB sh_0 (Nat.le_of_ble_eq_true rfl) (c_FB_checkBook hI hst  e1) lk_FB_248 mb_FB_checkBook rfl ⟨Nat.le_of_ble_eq_true rfl, Nat.le_of_ble_eq_true rfl⟩ ⟨Nat.le_of_ble_eq_true rfl, Nat.le_of_ble_eq_true rfl⟩ (Nat.le_of_ble_eq_true rfl) d_FB_unresolved_1 hl.1 (rest := []) rfl) (Nat.le_of_ble_eq_true rfl) (Nat.le_of_ble_eq_true rfl) (fun _ h2 H locs w hM => ?_)
  refine m_aload_n C hl 0 d_FB_unresolved_4 rfl rfl ?_
  refine m_getr C w.1 kc_FB sh_0 (Nat.le_of_ble_eq_true rfl) 6 73 rfl (by decide) fk_FB_56 d_FB_unresolved_5 ?_
  obtain ⟨h4, e3, hM⟩ := bnd_some hM
  refine aftN C w (runV C w.1 w.2 kc_Round sh_73 (Nat.le_of_ble_eq_true rfl) (c_Round_allSettled hI e3) lk_FB_269 mb_Round_allSettled rfl ⟨Nat.le_of_ble_eq_true rfl, Nat.le_of_ble_eq_true rfl⟩ ⟨Nat.le_of_ble_eq_true rfl, Nat.le_of_ble_eq_true rfl⟩ (Nat.le_of_ble_eq_true rfl) d_FB_unresolved_8 hl.1 (rest := []) rfl) (fun H locs w => ?_)
  obtain ⟨x6, e5, hM⟩ := bnd_some hM
  refine aftR (runV C w.1 w.2 kc_Round sh_73 (Nat.le_of_ble_eq_true rfl) (c_Round_firstLeft hI e5) lk_FB_305 mb_Round_firstLeft rfl ⟨Nat.le_of_ble_eq_true rfl, Nat.le_of_ble_eq_true rfl⟩ ⟨Nat.le_of_ble_eq_true rfl, Nat.le_of_ble_eq_true rfl⟩ (Nat.le_of_ble_eq_true rfl) d_FB_unresolved_11 hl.1 (rest := []) rfl) ?_
  exact m_iretX C w hr hlk hM (Nat.le_of_ble_eq_true rfl) (Nat.le_of_ble_eq_true rfl) d_FB_unresolved_14
def y_FB_paschs : MethodName := ⟨"FeastBook", "paschs", "(I)I"⟩
theorem d_FB_paschs_0 : decode prog_1_method_29_code 0 = .ok (.aload_n 0, 1) := by decide +kernel
theorem d_FB_paschs_1 : decode prog_1_method_29_code 1 = .ok (.invokevirtual 248, 3) := by decide +kernel
theorem d_FB_paschs_4 : decode prog_1_method_29_code 4 = .ok (.aload_n 0, 1) := by decide +kernel
theorem d_FB_paschs_5 : decode prog_1_method_29_code 5 = .ok (.getfield 56, 3) := by decide +kernel
theorem d_FB_paschs_8 : decode prog_1_method_29_code 8 = .ok (.iload_n 1, 1) := by decide +kernel
theorem d_FB_paschs_9 : decode prog_1_method_29_code 9 = .ok (.invokevirtual 308, 3) := by decide +kernel
theorem d_FB_paschs_12 : decode prog_1_method_29_code 12 = .ok (.ireturn, 1) := by decide +kernel
theorem mb_Round_yearsWithPasch : MBv R_Round y_Round_yearsWithPasch prog_7_method_17_code 4 (some .int) 1 := ⟨mT7 184 (by decide +kernel) (by decide +kernel), mT7 185 (by decide +kernel) (by decide +kernel), mT1 9 (by decide +kernel) (by decide +kernel), mT7 186 (by decide +kernel) (by decide +kernel), by decide, rfl, by decide +kernel, by decide +kernel, by decide +kernel⟩
theorem lk_FB_308 : Cond.methodLink "FeastBook" 308 y_Round_yearsWithPasch ∈ TT := mT7 183 (by decide +kernel) (by decide +kernel)
set_option maxHeartbeats 4000000 in
set_option maxRecDepth 100000 in
theorem c_FB_paschs {l : Launch} {D : va_G} {ad : Nat → Nat} {cA : Nat → ClassId} {sd sv : Nat → Nat} {h : Hp} {N : Nat} {a1 : Int} {out : XO} (hI : Inj97 ad) (hst : l.stackTraces = false) (hM : M_FB_paschs N h a1 = some out) : vx_Met l y_FB_paschs (.code y_FB_paschs prog_1_method_29_code 2 (some .int) :: TT) (rmX 11 1 6) (PC D ad cA sd sv h [.ref (ad 0), .int (iZ a1)]) (QX D ad cA out) (XT D ad cA out) 1 6 (FA ad) := by
  unfold M_FB_paschs at hM
  refine entX (by decide +kernel) hI (Nat.le_of_ble_eq_true rfl) ?_
  intro p e s m args below meth c C hr hlk hnt hP ls hl
  have C : Cx p s m args c prog_1_method_29_code 2 "FeastBook" D ad cA sd sv (FA ad) := C
  have hl : lv_has ls 2 [(0, .ref (ad 0)), (1, .int (iZ a1))] := hl
  have w : Wd s D ad cA (FA ad) h s.heap [] := ⟨hP, va_S.rf⟩
  refine m_aload_n C hl 0 d_FB_paschs_0 rfl rfl ?_
  refine m_xcall (Qc := QX D ad cA) C w hnt hlk hM (fun q e1 => runVX C w.1 w.2 kc_FB sh_0 (Nat.le_of_ble_eq_true rfl) (c_FB_checkBook hI hst  e1) lk_FB_248 mb_FB_checkBook rfl ⟨Nat.le_of_ble_eq_true rfl, Nat.le_of_ble_eq_true rfl⟩ ⟨Nat.le_of_ble_eq_true rfl, Nat.le_of_ble_eq_true rfl⟩ (Nat.le_of_ble_eq_true rfl) d_FB_paschs_1 hl.1 (rest := []) rfl) (Nat.le_of_ble_eq_true rfl) (Nat.le_of_ble_eq_true rfl) (fun _ h2 H locs w hM => ?_)
  refine m_aload_n C hl 0 d_FB_paschs_4 rfl rfl ?_
  refine m_getr C w.1 kc_FB sh_0 (Nat.le_of_ble_eq_true rfl) 6 73 rfl (by decide) fk_FB_56 d_FB_paschs_5 ?_
  refine m_iload_n C hl 1 d_FB_paschs_8 rfl rfl ?_
  obtain ⟨x4, e3, hM⟩ := bnd_some hM
  refine aftR (runV C w.1 w.2 kc_Round sh_73 (Nat.le_of_ble_eq_true rfl) (c_Round_yearsWithPasch hI e3) lk_FB_308 mb_Round_yearsWithPasch rfl ⟨Nat.le_of_ble_eq_true rfl, Nat.le_of_ble_eq_true rfl⟩ ⟨Nat.le_of_ble_eq_true rfl, Nat.le_of_ble_eq_true rfl⟩ (Nat.le_of_ble_eq_true rfl) d_FB_paschs_9 hl.1 (rest := []) rfl) ?_
  exact m_iretX C w hr hlk hM (Nat.le_of_ble_eq_true rfl) (Nat.le_of_ble_eq_true rfl) d_FB_paschs_12
def y_FB_alike : MethodName := ⟨"FeastBook", "alike", "(II)Z"⟩
theorem d_FB_alike_0 : decode prog_1_method_30_code 0 = .ok (.aload_n 0, 1) := by decide +kernel
theorem d_FB_alike_1 : decode prog_1_method_30_code 1 = .ok (.iload_n 1, 1) := by decide +kernel
theorem d_FB_alike_2 : decode prog_1_method_30_code 2 = .ok (.invokevirtual 103, 3) := by decide +kernel
theorem d_FB_alike_5 : decode prog_1_method_30_code 5 = .ok (.aload_n 0, 1) := by decide +kernel
theorem d_FB_alike_6 : decode prog_1_method_30_code 6 = .ok (.iload_n 2, 1) := by decide +kernel
theorem d_FB_alike_7 : decode prog_1_method_30_code 7 = .ok (.invokevirtual 103, 3) := by decide +kernel
theorem d_FB_alike_10 : decode prog_1_method_30_code 10 = .ok (.aload_n 0, 1) := by decide +kernel
theorem d_FB_alike_11 : decode prog_1_method_30_code 11 = .ok (.getfield 28, 3) := by decide +kernel
theorem d_FB_alike_14 : decode prog_1_method_30_code 14 = .ok (.iload_n 1, 1) := by decide +kernel
theorem d_FB_alike_15 : decode prog_1_method_30_code 15 = .ok (.invokevirtual 137, 3) := by decide +kernel
theorem d_FB_alike_18 : decode prog_1_method_30_code 18 = .ok (.aload_n 0, 1) := by decide +kernel
theorem d_FB_alike_19 : decode prog_1_method_30_code 19 = .ok (.getfield 28, 3) := by decide +kernel
theorem d_FB_alike_22 : decode prog_1_method_30_code 22 = .ok (.iload_n 2, 1) := by decide +kernel
theorem d_FB_alike_23 : decode prog_1_method_30_code 23 = .ok (.invokevirtual 137, 3) := by decide +kernel
theorem d_FB_alike_26 : decode prog_1_method_30_code 26 = .ok (.if_icmp .ne 7, 3) := by decide +kernel
theorem d_FB_alike_29 : decode prog_1_method_30_code 29 = .ok (.iconst 1, 1) := by decide +kernel
theorem d_FB_alike_30 : decode prog_1_method_30_code 30 = .ok (.goto 4, 3) := by decide +kernel
theorem d_FB_alike_33 : decode prog_1_method_30_code 33 = .ok (.iconst 0, 1) := by decide +kernel
theorem d_FB_alike_34 : decode prog_1_method_30_code 34 = .ok (.ireturn, 1) := by decide +kernel
set_option maxHeartbeats 4000000 in
set_option maxRecDepth 100000 in
theorem c_FB_alike {l : Launch} {D : va_G} {ad : Nat → Nat} {cA : Nat → ClassId} {sd sv : Nat → Nat} {h : Hp} {a1 a2 : Int} {out : XO} (hI : Inj97 ad) (hst : l.stackTraces = false) (hM : M_FB_alike h a1 a2 = some out) : vx_Met l y_FB_alike (.code y_FB_alike prog_1_method_30_code 3 (some .boolean) :: TT) (rmX 11 2 12) (PC D ad cA sd sv h [.ref (ad 0), .int (iZ a1), .int (iZ a2)]) (QX D ad cA out) (XT D ad cA out) 2 12 (FA ad) := by
  unfold M_FB_alike at hM
  refine entX (by decide +kernel) hI (Nat.le_of_ble_eq_true rfl) ?_
  intro p e s m args below meth c C hr hlk hnt hP ls hl
  have C : Cx p s m args c prog_1_method_30_code 3 "FeastBook" D ad cA sd sv (FA ad) := C
  have hl : lv_has ls 3 [(0, .ref (ad 0)), (1, .int (iZ a1)), (2, .int (iZ a2))] := hl
  have w : Wd s D ad cA (FA ad) h s.heap [] := ⟨hP, va_S.rf⟩
  refine m_aload_n C hl 0 d_FB_alike_0 rfl rfl ?_
  refine m_iload_n C hl 1 d_FB_alike_1 rfl rfl ?_
  refine m_xcall (Qc := QX D ad cA) C w hnt hlk hM (fun q e1 => runVX C w.1 w.2 kc_FB sh_0 (Nat.le_of_ble_eq_true rfl) (c_FB_checkYear hI hst  e1) lk_FB_103 mb_FB_checkYear rfl ⟨Nat.le_of_ble_eq_true rfl, Nat.le_of_ble_eq_true rfl⟩ ⟨Nat.le_of_ble_eq_true rfl, Nat.le_of_ble_eq_true rfl⟩ (Nat.le_of_ble_eq_true rfl) d_FB_alike_2 hl.1 (rest := []) rfl) (Nat.le_of_ble_eq_true rfl) (Nat.le_of_ble_eq_true rfl) (fun _ h2 H locs w hM => ?_)
  refine m_aload_n C hl 0 d_FB_alike_5 rfl rfl ?_
  refine m_iload_n C hl 2 d_FB_alike_6 rfl rfl ?_
  refine m_xcall (Qc := QX D ad cA) C w hnt hlk hM (fun q e3 => runVX C w.1 w.2 kc_FB sh_0 (Nat.le_of_ble_eq_true rfl) (c_FB_checkYear hI hst  e3) lk_FB_103 mb_FB_checkYear rfl ⟨Nat.le_of_ble_eq_true rfl, Nat.le_of_ble_eq_true rfl⟩ ⟨Nat.le_of_ble_eq_true rfl, Nat.le_of_ble_eq_true rfl⟩ (Nat.le_of_ble_eq_true rfl) d_FB_alike_7 hl.1 (rest := []) rfl) (Nat.le_of_ble_eq_true rfl) (Nat.le_of_ble_eq_true rfl) (fun _ h4 H locs w hM => ?_)
  refine m_aload_n C hl 0 d_FB_alike_10 rfl rfl ?_
  refine m_getr C w.1 kc_FB sh_0 (Nat.le_of_ble_eq_true rfl) 2 23 rfl (by decide) fk_FB_28 d_FB_alike_11 ?_
  refine m_iload_n C hl 1 d_FB_alike_14 rfl rfl ?_
  obtain ⟨x6, e5, hM⟩ := bnd_some hM
  refine aftR (runV C w.1 w.2 kc_Book sh_23 (Nat.le_of_ble_eq_true rfl) (c_Book_sortOf hI (Or.inr (Or.inl rfl)) e5) lk_FB_137 mb_Book_sortOf rfl ⟨Nat.le_of_ble_eq_true rfl, Nat.le_of_ble_eq_true rfl⟩ ⟨Nat.le_of_ble_eq_true rfl, Nat.le_of_ble_eq_true rfl⟩ (Nat.le_of_ble_eq_true rfl) d_FB_alike_15 hl.1 (rest := []) rfl) ?_
  refine m_aload_n C hl 0 d_FB_alike_18 rfl rfl ?_
  refine m_getr C w.1 kc_FB sh_0 (Nat.le_of_ble_eq_true rfl) 2 23 rfl (by decide) fk_FB_28 d_FB_alike_19 ?_
  refine m_iload_n C hl 2 d_FB_alike_22 rfl rfl ?_
  obtain ⟨x8, e7, hM⟩ := bnd_some hM
  refine aftR (runV C w.1 w.2 kc_Book sh_23 (Nat.le_of_ble_eq_true rfl) (c_Book_sortOf hI (Or.inr (Or.inl rfl)) e7) lk_FB_137 mb_Book_sortOf rfl ⟨Nat.le_of_ble_eq_true rfl, Nat.le_of_ble_eq_true rfl⟩ ⟨Nat.le_of_ble_eq_true rfl, Nat.le_of_ble_eq_true rfl⟩ (Nat.le_of_ble_eq_true rfl) d_FB_alike_23 hl.1 (rest := [.int (iZ x6)]) rfl) ?_
  refine m_icmp_ne C hM 33 d_FB_alike_26 (by decide) (fun hM => ?_) (fun hM => ?_)
  · refine m_iconst C d_FB_alike_33 ?_
    exact m_zretX C w hr hlk hM (Nat.le_of_ble_eq_true rfl) (Nat.le_of_ble_eq_true rfl) d_FB_alike_34
  · refine m_iconst C d_FB_alike_29 ?_
    refine m_goto C 34 d_FB_alike_30 (by decide) ?_
    exact m_zretX C w hr hlk hM (Nat.le_of_ble_eq_true rfl) (Nat.le_of_ble_eq_true rfl) d_FB_alike_34
def y_FB_sorts : MethodName := ⟨"FeastBook", "sorts", "()I"⟩
theorem d_FB_sorts_0 : decode prog_1_method_31_code 0 = .ok (.aload_n 0, 1) := by decide +kernel
theorem d_FB_sorts_1 : decode prog_1_method_31_code 1 = .ok (.invokevirtual 248, 3) := by decide +kernel
theorem d_FB_sorts_4 : decode prog_1_method_31_code 4 = .ok (.aload_n 0, 1) := by decide +kernel
theorem d_FB_sorts_5 : decode prog_1_method_31_code 5 = .ok (.getfield 56, 3) := by decide +kernel
theorem d_FB_sorts_8 : decode prog_1_method_31_code 8 = .ok (.invokevirtual 311, 3) := by decide +kernel
theorem d_FB_sorts_11 : decode prog_1_method_31_code 11 = .ok (.ireturn, 1) := by decide +kernel
theorem mb_Round_howManySorts : MBv R_Round y_Round_howManySorts prog_7_method_18_code 3 (some .int) 0 := ⟨mT7 202 (by decide +kernel) (by decide +kernel), mT7 203 (by decide +kernel) (by decide +kernel), mT1 9 (by decide +kernel) (by decide +kernel), mT7 204 (by decide +kernel) (by decide +kernel), by decide, rfl, by decide +kernel, by decide +kernel, by decide +kernel⟩
theorem lk_FB_311 : Cond.methodLink "FeastBook" 311 y_Round_howManySorts ∈ TT := mT7 201 (by decide +kernel) (by decide +kernel)
set_option maxHeartbeats 4000000 in
set_option maxRecDepth 100000 in
theorem c_FB_sorts {l : Launch} {D : va_G} {ad : Nat → Nat} {cA : Nat → ClassId} {sd sv : Nat → Nat} {h : Hp} {N : Nat} {out : XO} (hI : Inj97 ad) (hst : l.stackTraces = false) (hM : M_FB_sorts N h = some out) : vx_Met l y_FB_sorts (.code y_FB_sorts prog_1_method_31_code 1 (some .int) :: TT) (rmX 11 1 6) (PC D ad cA sd sv h [.ref (ad 0)]) (QX D ad cA out) (XT D ad cA out) 1 6 (FA ad) := by
  unfold M_FB_sorts at hM
  refine entX (by decide +kernel) hI (Nat.le_of_ble_eq_true rfl) ?_
  intro p e s m args below meth c C hr hlk hnt hP ls hl
  have C : Cx p s m args c prog_1_method_31_code 1 "FeastBook" D ad cA sd sv (FA ad) := C
  have hl : lv_has ls 1 [(0, .ref (ad 0))] := hl
  have w : Wd s D ad cA (FA ad) h s.heap [] := ⟨hP, va_S.rf⟩
  refine m_aload_n C hl 0 d_FB_sorts_0 rfl rfl ?_
  refine m_xcall (Qc := QX D ad cA) C w hnt hlk hM (fun q e1 => runVX C w.1 w.2 kc_FB sh_0 (Nat.le_of_ble_eq_true rfl) (c_FB_checkBook hI hst  e1) lk_FB_248 mb_FB_checkBook rfl ⟨Nat.le_of_ble_eq_true rfl, Nat.le_of_ble_eq_true rfl⟩ ⟨Nat.le_of_ble_eq_true rfl, Nat.le_of_ble_eq_true rfl⟩ (Nat.le_of_ble_eq_true rfl) d_FB_sorts_1 hl.1 (rest := []) rfl) (Nat.le_of_ble_eq_true rfl) (Nat.le_of_ble_eq_true rfl) (fun _ h2 H locs w hM => ?_)
  refine m_aload_n C hl 0 d_FB_sorts_4 rfl rfl ?_
  refine m_getr C w.1 kc_FB sh_0 (Nat.le_of_ble_eq_true rfl) 6 73 rfl (by decide) fk_FB_56 d_FB_sorts_5 ?_
  obtain ⟨x4, e3, hM⟩ := bnd_some hM
  refine aftR (runV C w.1 w.2 kc_Round sh_73 (Nat.le_of_ble_eq_true rfl) (c_Round_howManySorts hI e3) lk_FB_311 mb_Round_howManySorts rfl ⟨Nat.le_of_ble_eq_true rfl, Nat.le_of_ble_eq_true rfl⟩ ⟨Nat.le_of_ble_eq_true rfl, Nat.le_of_ble_eq_true rfl⟩ (Nat.le_of_ble_eq_true rfl) d_FB_sorts_8 hl.1 (rest := []) rfl) ?_
  exact m_iretX C w hr hlk hM (Nat.le_of_ble_eq_true rfl) (Nat.le_of_ble_eq_true rfl) d_FB_sorts_11
def y_FB_yields : MethodName := ⟨"FeastBook", "yields", "(II)I"⟩
theorem d_FB_yields_0 : decode prog_1_method_32_code 0 = .ok (.aload_n 0, 1) := by decide +kernel
theorem d_FB_yields_1 : decode prog_1_method_32_code 1 = .ok (.iload_n 1, 1) := by decide +kernel
theorem d_FB_yields_2 : decode prog_1_method_32_code 2 = .ok (.iload_n 2, 1) := by decide +kernel
theorem d_FB_yields_3 : decode prog_1_method_32_code 3 = .ok (.invokevirtual 289, 3) := by decide +kernel
theorem d_FB_yields_6 : decode prog_1_method_32_code 6 = .ok (.aload_n 0, 1) := by decide +kernel
theorem d_FB_yields_7 : decode prog_1_method_32_code 7 = .ok (.getfield 56, 3) := by decide +kernel
theorem d_FB_yields_10 : decode prog_1_method_32_code 10 = .ok (.invokevirtual 269, 3) := by decide +kernel
theorem d_FB_yields_13 : decode prog_1_method_32_code 13 = .ok (.iload_n 1, 1) := by decide +kernel
theorem d_FB_yields_14 : decode prog_1_method_32_code 14 = .ok (.iload_n 2, 1) := by decide +kernel
theorem d_FB_yields_15 : decode prog_1_method_32_code 15 = .ok (.invokevirtual 314, 3) := by decide +kernel
theorem d_FB_yields_18 : decode prog_1_method_32_code 18 = .ok (.ireturn, 1) := by decide +kernel
theorem lk_FB_314 : Cond.methodLink "FeastBook" 314 y_Round_yearsYielding ∈ TT := mT7 212 (by decide +kernel) (by decide +kernel)
set_option maxHeartbeats 4000000 in
set_option maxRecDepth 100000 in
theorem c_FB_yields {l : Launch} {D : va_G} {ad : Nat → Nat} {cA : Nat → ClassId} {sd sv : Nat → Nat} {h : Hp} {N : Nat} {a1 a2 : Int} {out : XO} (hI : Inj97 ad) (hst : l.stackTraces = false) (hM : M_FB_yields N h a1 a2 = some out) : vx_Met l y_FB_yields (.code y_FB_yields prog_1_method_32_code 3 (some .int) :: TT) (rmX 12 3 18) (PC D ad cA sd sv h [.ref (ad 0), .int (iZ a1), .int (iZ a2)]) (QX D ad cA out) (XT D ad cA out) 3 18 (FA ad) := by
  unfold M_FB_yields at hM
  refine entX (by decide +kernel) hI (Nat.le_of_ble_eq_true rfl) ?_
  intro p e s m args below meth c C hr hlk hnt hP ls hl
  have C : Cx p s m args c prog_1_method_32_code 3 "FeastBook" D ad cA sd sv (FA ad) := C
  have hl : lv_has ls 3 [(0, .ref (ad 0)), (1, .int (iZ a1)), (2, .int (iZ a2))] := hl
  have w : Wd s D ad cA (FA ad) h s.heap [] := ⟨hP, va_S.rf⟩
  refine m_aload_n C hl 0 d_FB_yields_0 rfl rfl ?_
  refine m_iload_n C hl 1 d_FB_yields_1 rfl rfl ?_
  refine m_iload_n C hl 2 d_FB_yields_2 rfl rfl ?_
  refine m_xcall (Qc := QX D ad cA) C w hnt hlk hM (fun q e1 => runVX C w.1 w.2 kc_FB sh_0 (Nat.le_of_ble_eq_true rfl) (c_FB_checkTwoFeasts hI hst  e1) lk_FB_289 mb_FB_checkTwoFeasts rfl ⟨Nat.le_of_ble_eq_true rfl, Nat.le_of_ble_eq_true rfl⟩ ⟨Nat.le_of_ble_eq_true rfl, Nat.le_of_ble_eq_true rfl⟩ (Nat.le_of_ble_eq_true rfl) d_FB_yields_3 hl.1 (rest := []) rfl) (Nat.le_of_ble_eq_true rfl) (Nat.le_of_ble_eq_true rfl) (fun _ h2 H locs w hM => ?_)
  refine m_aload_n C hl 0 d_FB_yields_6 rfl rfl ?_
  refine m_getr C w.1 kc_FB sh_0 (Nat.le_of_ble_eq_true rfl) 6 73 rfl (by decide) fk_FB_56 d_FB_yields_7 ?_
  obtain ⟨h4, e3, hM⟩ := bnd_some hM
  refine aftN C w (runV C w.1 w.2 kc_Round sh_73 (Nat.le_of_ble_eq_true rfl) (c_Round_allSettled hI e3) lk_FB_269 mb_Round_allSettled rfl ⟨Nat.le_of_ble_eq_true rfl, Nat.le_of_ble_eq_true rfl⟩ ⟨Nat.le_of_ble_eq_true rfl, Nat.le_of_ble_eq_true rfl⟩ (Nat.le_of_ble_eq_true rfl) d_FB_yields_10 hl.1 (rest := []) rfl) (fun H locs w => ?_)
  refine m_iload_n C hl 1 d_FB_yields_13 rfl rfl ?_
  refine m_iload_n C hl 2 d_FB_yields_14 rfl rfl ?_
  obtain ⟨x6, e5, hM⟩ := bnd_some hM
  refine aftR (runV C w.1 w.2 kc_Round sh_73 (Nat.le_of_ble_eq_true rfl) (c_Round_yearsYielding hI e5) lk_FB_314 mb_Round_yearsYielding rfl ⟨Nat.le_of_ble_eq_true rfl, Nat.le_of_ble_eq_true rfl⟩ ⟨Nat.le_of_ble_eq_true rfl, Nat.le_of_ble_eq_true rfl⟩ (Nat.le_of_ble_eq_true rfl) d_FB_yields_15 hl.1 (rest := []) rfl) ?_
  exact m_iretX C w hr hlk hM (Nat.le_of_ble_eq_true rfl) (Nat.le_of_ble_eq_true rfl) d_FB_yields_18

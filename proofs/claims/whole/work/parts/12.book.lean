def y_Book_copyFrom : MethodName := ⟨"FeastBook$Book", "copyFrom", "(LFeastBook$Book;)V"⟩
theorem d_Book_copyFrom_0 : decode prog_2_method_3_code 0 = .ok (.aload_n 0, 1) := by decide +kernel
theorem d_Book_copyFrom_1 : decode prog_2_method_3_code 1 = .ok (.aload_n 1, 1) := by decide +kernel
theorem d_Book_copyFrom_2 : decode prog_2_method_3_code 2 = .ok (.getfield 39, 3) := by decide +kernel
theorem d_Book_copyFrom_5 : decode prog_2_method_3_code 5 = .ok (.putfield 39, 3) := by decide +kernel
theorem d_Book_copyFrom_8 : decode prog_2_method_3_code 8 = .ok (.aload_n 0, 1) := by decide +kernel
theorem d_Book_copyFrom_9 : decode prog_2_method_3_code 9 = .ok (.aload_n 1, 1) := by decide +kernel
theorem d_Book_copyFrom_10 : decode prog_2_method_3_code 10 = .ok (.getfield 43, 3) := by decide +kernel
theorem d_Book_copyFrom_13 : decode prog_2_method_3_code 13 = .ok (.putfield 43, 3) := by decide +kernel
theorem d_Book_copyFrom_16 : decode prog_2_method_3_code 16 = .ok (.aload_n 0, 1) := by decide +kernel
theorem d_Book_copyFrom_17 : decode prog_2_method_3_code 17 = .ok (.aload_n 1, 1) := by decide +kernel
theorem d_Book_copyFrom_18 : decode prog_2_method_3_code 18 = .ok (.getfield 46, 3) := by decide +kernel
theorem d_Book_copyFrom_21 : decode prog_2_method_3_code 21 = .ok (.putfield 46, 3) := by decide +kernel
theorem d_Book_copyFrom_24 : decode prog_2_method_3_code 24 = .ok (.aload_n 0, 1) := by decide +kernel
theorem d_Book_copyFrom_25 : decode prog_2_method_3_code 25 = .ok (.aload_n 1, 1) := by decide +kernel
theorem d_Book_copyFrom_26 : decode prog_2_method_3_code 26 = .ok (.getfield 49, 3) := by decide +kernel
theorem d_Book_copyFrom_29 : decode prog_2_method_3_code 29 = .ok (.putfield 49, 3) := by decide +kernel
theorem d_Book_copyFrom_32 : decode prog_2_method_3_code 32 = .ok (.aload_n 0, 1) := by decide +kernel
theorem d_Book_copyFrom_33 : decode prog_2_method_3_code 33 = .ok (.aload_n 1, 1) := by decide +kernel
theorem d_Book_copyFrom_34 : decode prog_2_method_3_code 34 = .ok (.getfield 52, 3) := by decide +kernel
theorem d_Book_copyFrom_37 : decode prog_2_method_3_code 37 = .ok (.putfield 52, 3) := by decide +kernel
theorem d_Book_copyFrom_40 : decode prog_2_method_3_code 40 = .ok (.aload_n 0, 1) := by decide +kernel
theorem d_Book_copyFrom_41 : decode prog_2_method_3_code 41 = .ok (.aload_n 1, 1) := by decide +kernel
theorem d_Book_copyFrom_42 : decode prog_2_method_3_code 42 = .ok (.getfield 55, 3) := by decide +kernel
theorem d_Book_copyFrom_45 : decode prog_2_method_3_code 45 = .ok (.putfield 55, 3) := by decide +kernel
theorem d_Book_copyFrom_48 : decode prog_2_method_3_code 48 = .ok (.aload_n 0, 1) := by decide +kernel
theorem d_Book_copyFrom_49 : decode prog_2_method_3_code 49 = .ok (.aload_n 1, 1) := by decide +kernel
theorem d_Book_copyFrom_50 : decode prog_2_method_3_code 50 = .ok (.getfield 68, 3) := by decide +kernel
theorem d_Book_copyFrom_53 : decode prog_2_method_3_code 53 = .ok (.putfield 68, 3) := by decide +kernel
theorem d_Book_copyFrom_56 : decode prog_2_method_3_code 56 = .ok (.aload_n 0, 1) := by decide +kernel
theorem d_Book_copyFrom_57 : decode prog_2_method_3_code 57 = .ok (.aload_n 1, 1) := by decide +kernel
theorem d_Book_copyFrom_58 : decode prog_2_method_3_code 58 = .ok (.getfield 71, 3) := by decide +kernel
theorem d_Book_copyFrom_61 : decode prog_2_method_3_code 61 = .ok (.putfield 71, 3) := by decide +kernel
theorem d_Book_copyFrom_64 : decode prog_2_method_3_code 64 = .ok (.aload_n 0, 1) := by decide +kernel
theorem d_Book_copyFrom_65 : decode prog_2_method_3_code 65 = .ok (.aload_n 1, 1) := by decide +kernel
theorem d_Book_copyFrom_66 : decode prog_2_method_3_code 66 = .ok (.getfield 74, 3) := by decide +kernel
theorem d_Book_copyFrom_69 : decode prog_2_method_3_code 69 = .ok (.putfield 74, 3) := by decide +kernel
theorem d_Book_copyFrom_72 : decode prog_2_method_3_code 72 = .ok (.aload_n 0, 1) := by decide +kernel
theorem d_Book_copyFrom_73 : decode prog_2_method_3_code 73 = .ok (.aload_n 1, 1) := by decide +kernel
theorem d_Book_copyFrom_74 : decode prog_2_method_3_code 74 = .ok (.getfield 77, 3) := by decide +kernel
theorem d_Book_copyFrom_77 : decode prog_2_method_3_code 77 = .ok (.putfield 77, 3) := by decide +kernel
theorem d_Book_copyFrom_80 : decode prog_2_method_3_code 80 = .ok (.aload_n 0, 1) := by decide +kernel
theorem d_Book_copyFrom_81 : decode prog_2_method_3_code 81 = .ok (.aload_n 1, 1) := by decide +kernel
theorem d_Book_copyFrom_82 : decode prog_2_method_3_code 82 = .ok (.getfield 9, 3) := by decide +kernel
theorem d_Book_copyFrom_85 : decode prog_2_method_3_code 85 = .ok (.putfield 9, 3) := by decide +kernel
theorem d_Book_copyFrom_88 : decode prog_2_method_3_code 88 = .ok (.aload_n 0, 1) := by decide +kernel
theorem d_Book_copyFrom_89 : decode prog_2_method_3_code 89 = .ok (.aload_n 1, 1) := by decide +kernel
theorem d_Book_copyFrom_90 : decode prog_2_method_3_code 90 = .ok (.getfield 58, 3) := by decide +kernel
theorem d_Book_copyFrom_93 : decode prog_2_method_3_code 93 = .ok (.putfield 58, 3) := by decide +kernel
theorem d_Book_copyFrom_96 : decode prog_2_method_3_code 96 = .ok (.aload_n 0, 1) := by decide +kernel
theorem d_Book_copyFrom_97 : decode prog_2_method_3_code 97 = .ok (.aload_n 1, 1) := by decide +kernel
theorem d_Book_copyFrom_98 : decode prog_2_method_3_code 98 = .ok (.getfield 15, 3) := by decide +kernel
theorem d_Book_copyFrom_101 : decode prog_2_method_3_code 101 = .ok (.putfield 15, 3) := by decide +kernel
theorem d_Book_copyFrom_104 : decode prog_2_method_3_code 104 = .ok (.aload_n 0, 1) := by decide +kernel
theorem d_Book_copyFrom_105 : decode prog_2_method_3_code 105 = .ok (.aload_n 1, 1) := by decide +kernel
theorem d_Book_copyFrom_106 : decode prog_2_method_3_code 106 = .ok (.getfield 61, 3) := by decide +kernel
theorem d_Book_copyFrom_109 : decode prog_2_method_3_code 109 = .ok (.putfield 61, 3) := by decide +kernel
theorem d_Book_copyFrom_112 : decode prog_2_method_3_code 112 = .ok (.aload_n 1, 1) := by decide +kernel
theorem d_Book_copyFrom_113 : decode prog_2_method_3_code 113 = .ok (.getfield 18, 3) := by decide +kernel
theorem d_Book_copyFrom_116 : decode prog_2_method_3_code 116 = .ok (.iconst 0, 1) := by decide +kernel
theorem d_Book_copyFrom_117 : decode prog_2_method_3_code 117 = .ok (.aload_n 0, 1) := by decide +kernel
theorem d_Book_copyFrom_118 : decode prog_2_method_3_code 118 = .ok (.getfield 18, 3) := by decide +kernel
theorem d_Book_copyFrom_121 : decode prog_2_method_3_code 121 = .ok (.iconst 0, 1) := by decide +kernel
theorem d_Book_copyFrom_122 : decode prog_2_method_3_code 122 = .ok (.bipush 8, 2) := by decide +kernel
theorem d_Book_copyFrom_124 : decode prog_2_method_3_code 124 = .ok (.invokestatic 80, 3) := by decide +kernel
theorem d_Book_copyFrom_127 : decode prog_2_method_3_code 127 = .ok (.aload_n 0, 1) := by decide +kernel
theorem d_Book_copyFrom_128 : decode prog_2_method_3_code 128 = .ok (.getfield 25, 3) := by decide +kernel
theorem d_Book_copyFrom_131 : decode prog_2_method_3_code 131 = .ok (.aload_n 1, 1) := by decide +kernel
theorem d_Book_copyFrom_132 : decode prog_2_method_3_code 132 = .ok (.getfield 25, 3) := by decide +kernel
theorem d_Book_copyFrom_135 : decode prog_2_method_3_code 135 = .ok (.invokevirtual 86, 3) := by decide +kernel
theorem d_Book_copyFrom_138 : decode prog_2_method_3_code 138 = .ok (.aload_n 0, 1) := by decide +kernel
theorem d_Book_copyFrom_139 : decode prog_2_method_3_code 139 = .ok (.getfield 29, 3) := by decide +kernel
theorem d_Book_copyFrom_142 : decode prog_2_method_3_code 142 = .ok (.aload_n 1, 1) := by decide +kernel
theorem d_Book_copyFrom_143 : decode prog_2_method_3_code 143 = .ok (.getfield 29, 3) := by decide +kernel
theorem d_Book_copyFrom_146 : decode prog_2_method_3_code 146 = .ok (.invokevirtual 86, 3) := by decide +kernel
theorem d_Book_copyFrom_149 : decode prog_2_method_3_code 149 = .ok (.aload_n 0, 1) := by decide +kernel
theorem d_Book_copyFrom_150 : decode prog_2_method_3_code 150 = .ok (.getfield 35, 3) := by decide +kernel
theorem d_Book_copyFrom_153 : decode prog_2_method_3_code 153 = .ok (.aload_n 1, 1) := by decide +kernel
theorem d_Book_copyFrom_154 : decode prog_2_method_3_code 154 = .ok (.getfield 35, 3) := by decide +kernel
theorem d_Book_copyFrom_157 : decode prog_2_method_3_code 157 = .ok (.invokevirtual 90, 3) := by decide +kernel
theorem d_Book_copyFrom_160 : decode prog_2_method_3_code 160 = .ok (.return_, 1) := by decide +kernel
theorem mb_Feasts_copyFrom : MBv R_Feasts y_Feasts_copyFrom prog_4_method_9_code 2 none 1 := ⟨mT2 234 (by decide +kernel) (by decide +kernel), mT2 235 (by decide +kernel) (by decide +kernel), mT1 6 (by decide +kernel) (by decide +kernel), mT2 236 (by decide +kernel) (by decide +kernel), by decide, rfl, by decide +kernel, by decide +kernel, by decide +kernel⟩
theorem mb_Spans_copyFrom : MBv R_Spans y_Spans_copyFrom prog_8_method_4_code 2 none 1 := ⟨mT2 229 (by decide +kernel) (by decide +kernel), mT2 230 (by decide +kernel) (by decide +kernel), mT1 5 (by decide +kernel) (by decide +kernel), mT2 231 (by decide +kernel) (by decide +kernel), by decide, rfl, by decide +kernel, by decide +kernel, by decide +kernel⟩
theorem fk_Book_15 : Cond.fieldLink "FeastBook$Book" 15 (T_Book 12).1 (T_Book 12).2.1 (T_Book 12).2.2.1 ∈ TT := mT1 184 (by decide +kernel) (by decide +kernel)
theorem fk_Book_18 : Cond.fieldLink "FeastBook$Book" 18 (T_Book 14).1 (T_Book 14).2.1 (T_Book 14).2.2.1 ∈ TT := mT1 192 (by decide +kernel) (by decide +kernel)
theorem fk_Book_25 : Cond.fieldLink "FeastBook$Book" 25 (T_Book 15).1 (T_Book 15).2.1 (T_Book 15).2.2.1 ∈ TT := mT1 194 (by decide +kernel) (by decide +kernel)
theorem fk_Book_29 : Cond.fieldLink "FeastBook$Book" 29 (T_Book 16).1 (T_Book 16).2.1 (T_Book 16).2.2.1 ∈ TT := mT1 197 (by decide +kernel) (by decide +kernel)
theorem fk_Book_35 : Cond.fieldLink "FeastBook$Book" 35 (T_Book 17).1 (T_Book 17).2.1 (T_Book 17).2.2.1 ∈ TT := mT1 201 (by decide +kernel) (by decide +kernel)
theorem fk_Book_39 : Cond.fieldLink "FeastBook$Book" 39 (T_Book 0).1 (T_Book 0).2.1 (T_Book 0).2.2.1 ∈ TT := mT1 151 (by decide +kernel) (by decide +kernel)
theorem fk_Book_43 : Cond.fieldLink "FeastBook$Book" 43 (T_Book 1).1 (T_Book 1).2.1 (T_Book 1).2.2.1 ∈ TT := mT1 155 (by decide +kernel) (by decide +kernel)
theorem fk_Book_46 : Cond.fieldLink "FeastBook$Book" 46 (T_Book 2).1 (T_Book 2).2.1 (T_Book 2).2.2.1 ∈ TT := mT1 159 (by decide +kernel) (by decide +kernel)
theorem fk_Book_49 : Cond.fieldLink "FeastBook$Book" 49 (T_Book 3).1 (T_Book 3).2.1 (T_Book 3).2.2.1 ∈ TT := mT1 162 (by decide +kernel) (by decide +kernel)
theorem fk_Book_52 : Cond.fieldLink "FeastBook$Book" 52 (T_Book 4).1 (T_Book 4).2.1 (T_Book 4).2.2.1 ∈ TT := mT1 164 (by decide +kernel) (by decide +kernel)
theorem fk_Book_55 : Cond.fieldLink "FeastBook$Book" 55 (T_Book 5).1 (T_Book 5).2.1 (T_Book 5).2.2.1 ∈ TT := mT1 167 (by decide +kernel) (by decide +kernel)
theorem fk_Book_58 : Cond.fieldLink "FeastBook$Book" 58 (T_Book 11).1 (T_Book 11).2.1 (T_Book 11).2.2.1 ∈ TT := mT1 181 (by decide +kernel) (by decide +kernel)
theorem fk_Book_61 : Cond.fieldLink "FeastBook$Book" 61 (T_Book 13).1 (T_Book 13).2.1 (T_Book 13).2.2.1 ∈ TT := mT1 188 (by decide +kernel) (by decide +kernel)
theorem fk_Book_68 : Cond.fieldLink "FeastBook$Book" 68 (T_Book 6).1 (T_Book 6).2.1 (T_Book 6).2.2.1 ∈ TT := mT1 169 (by decide +kernel) (by decide +kernel)
theorem fk_Book_71 : Cond.fieldLink "FeastBook$Book" 71 (T_Book 7).1 (T_Book 7).2.1 (T_Book 7).2.2.1 ∈ TT := mT1 171 (by decide +kernel) (by decide +kernel)
theorem fk_Book_74 : Cond.fieldLink "FeastBook$Book" 74 (T_Book 8).1 (T_Book 8).2.1 (T_Book 8).2.2.1 ∈ TT := mT1 173 (by decide +kernel) (by decide +kernel)
theorem fk_Book_77 : Cond.fieldLink "FeastBook$Book" 77 (T_Book 9).1 (T_Book 9).2.1 (T_Book 9).2.2.1 ∈ TT := mT1 175 (by decide +kernel) (by decide +kernel)
theorem fk_Book_9 : Cond.fieldLink "FeastBook$Book" 9 (T_Book 10).1 (T_Book 10).2.1 (T_Book 10).2.2.1 ∈ TT := mT1 177 (by decide +kernel) (by decide +kernel)
theorem lk_Book_80 : Cond.methodLink "FeastBook$Book" 80 arraycopyName ∈ TT := mT2 225 (by decide +kernel) (by decide +kernel)
theorem lk_Book_86 : Cond.methodLink "FeastBook$Book" 86 y_Spans_copyFrom ∈ TT := mT2 228 (by decide +kernel) (by decide +kernel)
theorem lk_Book_90 : Cond.methodLink "FeastBook$Book" 90 y_Feasts_copyFrom ∈ TT := mT2 233 (by decide +kernel) (by decide +kernel)
set_option maxHeartbeats 4000000 in
set_option maxRecDepth 100000 in
theorem c_Book_copyFrom {l : Launch} {D : va_G} {ad : Nat → Nat} {cA : Nat → ClassId} {sd sv : Nat → Nat} {h : Hp} {B : Nat} {O : Nat} {out : Hp} (hI : Inj97 ad) (hB : isBk B) (hO : isBk O) (hM : M_Book_copyFrom h B O = some out) : Met l y_Book_copyFrom (.code y_Book_copyFrom prog_2_method_3_code 2 none :: TT) (rmD 2) (PC D ad cA sd sv h [.ref (ad B), .ref (ad O)]) (QV D ad cA out) 0 0 (FA ad) := by
  unfold M_Book_copyFrom at hM
  refine entM (by decide +kernel) hI (Nat.le_of_ble_eq_true rfl) ?_
  intro p e s m args below meth c C hr hlk hP ls hl
  have C : Cx p s m args c prog_2_method_3_code 2 "FeastBook$Book" D ad cA sd sv (FA ad) := C
  have hl : lv_has ls 2 [(0, .ref (ad B)), (1, .ref (ad O))] := hl
  have w : Wd s D ad cA (FA ad) h s.heap [] := ⟨hP, va_S.rf⟩
  refine m_aload_n C hl 0 d_Book_copyFrom_0 rfl rfl ?_
  refine m_aload_n C hl 1 d_Book_copyFrom_1 rfl rfl ?_
  refine m_geti C w.1 kc_Book (shB_0 hO) (ltB0 hO) 0 rfl (by decide) fk_Book_39 d_Book_copyFrom_2 ?_
  refine m_putz C w kc_Book (shB_0 hB) (ltB0 hB) 0 hM rfl (by decide) rfl rfl fk_Book_39 d_Book_copyFrom_5 (fun h1 H locs w hM => ?_)
  refine m_aload_n C hl 0 d_Book_copyFrom_8 rfl rfl ?_
  refine m_aload_n C hl 1 d_Book_copyFrom_9 rfl rfl ?_
  refine m_geti C w.1 kc_Book (shB_0 hO) (ltB0 hO) 1 rfl (by decide) fk_Book_43 d_Book_copyFrom_10 ?_
  refine m_puti C w kc_Book (shB_0 hB) (ltB0 hB) 1 hM rfl (by decide) rfl rfl fk_Book_43 d_Book_copyFrom_13 (fun h2 H locs w hM => ?_)
  refine m_aload_n C hl 0 d_Book_copyFrom_16 rfl rfl ?_
  refine m_aload_n C hl 1 d_Book_copyFrom_17 rfl rfl ?_
  refine m_geti C w.1 kc_Book (shB_0 hO) (ltB0 hO) 2 rfl (by decide) fk_Book_46 d_Book_copyFrom_18 ?_
  refine m_puti C w kc_Book (shB_0 hB) (ltB0 hB) 2 hM rfl (by decide) rfl rfl fk_Book_46 d_Book_copyFrom_21 (fun h3 H locs w hM => ?_)
  refine m_aload_n C hl 0 d_Book_copyFrom_24 rfl rfl ?_
  refine m_aload_n C hl 1 d_Book_copyFrom_25 rfl rfl ?_
  refine m_geti C w.1 kc_Book (shB_0 hO) (ltB0 hO) 3 rfl (by decide) fk_Book_49 d_Book_copyFrom_26 ?_
  refine m_puti C w kc_Book (shB_0 hB) (ltB0 hB) 3 hM rfl (by decide) rfl rfl fk_Book_49 d_Book_copyFrom_29 (fun h4 H locs w hM => ?_)
  refine m_aload_n C hl 0 d_Book_copyFrom_32 rfl rfl ?_
  refine m_aload_n C hl 1 d_Book_copyFrom_33 rfl rfl ?_
  refine m_geti C w.1 kc_Book (shB_0 hO) (ltB0 hO) 4 rfl (by decide) fk_Book_52 d_Book_copyFrom_34 ?_
  refine m_puti C w kc_Book (shB_0 hB) (ltB0 hB) 4 hM rfl (by decide) rfl rfl fk_Book_52 d_Book_copyFrom_37 (fun h5 H locs w hM => ?_)
  refine m_aload_n C hl 0 d_Book_copyFrom_40 rfl rfl ?_
  refine m_aload_n C hl 1 d_Book_copyFrom_41 rfl rfl ?_
  refine m_geti C w.1 kc_Book (shB_0 hO) (ltB0 hO) 5 rfl (by decide) fk_Book_55 d_Book_copyFrom_42 ?_
  refine m_puti C w kc_Book (shB_0 hB) (ltB0 hB) 5 hM rfl (by decide) rfl rfl fk_Book_55 d_Book_copyFrom_45 (fun h6 H locs w hM => ?_)
  refine m_aload_n C hl 0 d_Book_copyFrom_48 rfl rfl ?_
  refine m_aload_n C hl 1 d_Book_copyFrom_49 rfl rfl ?_
  refine m_geti C w.1 kc_Book (shB_0 hO) (ltB0 hO) 6 rfl (by decide) fk_Book_68 d_Book_copyFrom_50 ?_
  refine m_puti C w kc_Book (shB_0 hB) (ltB0 hB) 6 hM rfl (by decide) rfl rfl fk_Book_68 d_Book_copyFrom_53 (fun h7 H locs w hM => ?_)
  refine m_aload_n C hl 0 d_Book_copyFrom_56 rfl rfl ?_
  refine m_aload_n C hl 1 d_Book_copyFrom_57 rfl rfl ?_
  refine m_geti C w.1 kc_Book (shB_0 hO) (ltB0 hO) 7 rfl (by decide) fk_Book_71 d_Book_copyFrom_58 ?_
  refine m_puti C w kc_Book (shB_0 hB) (ltB0 hB) 7 hM rfl (by decide) rfl rfl fk_Book_71 d_Book_copyFrom_61 (fun h8 H locs w hM => ?_)
  refine m_aload_n C hl 0 d_Book_copyFrom_64 rfl rfl ?_
  refine m_aload_n C hl 1 d_Book_copyFrom_65 rfl rfl ?_
  refine m_geti C w.1 kc_Book (shB_0 hO) (ltB0 hO) 8 rfl (by decide) fk_Book_74 d_Book_copyFrom_66 ?_
  refine m_puti C w kc_Book (shB_0 hB) (ltB0 hB) 8 hM rfl (by decide) rfl rfl fk_Book_74 d_Book_copyFrom_69 (fun h9 H locs w hM => ?_)
  refine m_aload_n C hl 0 d_Book_copyFrom_72 rfl rfl ?_
  refine m_aload_n C hl 1 d_Book_copyFrom_73 rfl rfl ?_
  refine m_geti C w.1 kc_Book (shB_0 hO) (ltB0 hO) 9 rfl (by decide) fk_Book_77 d_Book_copyFrom_74 ?_
  refine m_puti C w kc_Book (shB_0 hB) (ltB0 hB) 9 hM rfl (by decide) rfl rfl fk_Book_77 d_Book_copyFrom_77 (fun h10 H locs w hM => ?_)
  refine m_aload_n C hl 0 d_Book_copyFrom_80 rfl rfl ?_
  refine m_aload_n C hl 1 d_Book_copyFrom_81 rfl rfl ?_
  refine m_geti C w.1 kc_Book (shB_0 hO) (ltB0 hO) 10 rfl (by decide) fk_Book_9 d_Book_copyFrom_82 ?_
  refine m_puti C w kc_Book (shB_0 hB) (ltB0 hB) 10 hM rfl (by decide) rfl rfl fk_Book_9 d_Book_copyFrom_85 (fun h11 H locs w hM => ?_)
  refine m_aload_n C hl 0 d_Book_copyFrom_88 rfl rfl ?_
  refine m_aload_n C hl 1 d_Book_copyFrom_89 rfl rfl ?_
  refine m_geti C w.1 kc_Book (shB_0 hO) (ltB0 hO) 11 rfl (by decide) fk_Book_58 d_Book_copyFrom_90 ?_
  refine m_puti C w kc_Book (shB_0 hB) (ltB0 hB) 11 hM rfl (by decide) rfl rfl fk_Book_58 d_Book_copyFrom_93 (fun h12 H locs w hM => ?_)
  refine m_aload_n C hl 0 d_Book_copyFrom_96 rfl rfl ?_
  refine m_aload_n C hl 1 d_Book_copyFrom_97 rfl rfl ?_
  refine m_geti C w.1 kc_Book (shB_0 hO) (ltB0 hO) 12 rfl (by decide) fk_Book_15 d_Book_copyFrom_98 ?_
  refine m_puti C w kc_Book (shB_0 hB) (ltB0 hB) 12 hM rfl (by decide) rfl rfl fk_Book_15 d_Book_copyFrom_101 (fun h13 H locs w hM => ?_)
  refine m_aload_n C hl 0 d_Book_copyFrom_104 rfl rfl ?_
  refine m_aload_n C hl 1 d_Book_copyFrom_105 rfl rfl ?_
  refine m_geti C w.1 kc_Book (shB_0 hO) (ltB0 hO) 13 rfl (by decide) fk_Book_61 d_Book_copyFrom_106 ?_
  refine m_puti C w kc_Book (shB_0 hB) (ltB0 hB) 13 hM rfl (by decide) rfl rfl fk_Book_61 d_Book_copyFrom_109 (fun h14 H locs w hM => ?_)
  refine m_aload_n C hl 1 d_Book_copyFrom_112 rfl rfl ?_
  refine m_getr C w.1 kc_Book (shB_0 hO) (ltB0 hO) 14 (O + 1) rfl (by decide) fk_Book_18 d_Book_copyFrom_113 ?_
  refine m_iconst C d_Book_copyFrom_116 ?_
  refine m_aload_n C hl 0 d_Book_copyFrom_117 rfl rfl ?_
  refine m_getr C w.1 kc_Book (shB_0 hB) (ltB0 hB) 14 (B + 1) rfl (by decide) fk_Book_18 d_Book_copyFrom_118 ?_
  refine m_iconst C d_Book_copyFrom_121 ?_
  refine m_bipush C d_Book_copyFrom_122 (by decide) ?_
  refine m_cpy C w (shB_1 hO) (ltB hO 1 (by decide)) (shB_1 hB) (ltB hB 1 (by decide)) (Nat.le_of_ble_eq_true rfl) (Nat.le_of_ble_eq_true rfl) hM lk_Book_80 hl.1 (Nat.le_of_ble_eq_true rfl) (Nat.le_of_ble_eq_true rfl) d_Book_copyFrom_124 (fun h15 H locs w hM => ?_)
  refine m_aload_n C hl 0 d_Book_copyFrom_127 rfl rfl ?_
  refine m_getr C w.1 kc_Book (shB_0 hB) (ltB0 hB) 15 (B + 2) rfl (by decide) fk_Book_25 d_Book_copyFrom_128 ?_
  refine m_aload_n C hl 1 d_Book_copyFrom_131 rfl rfl ?_
  refine m_getr C w.1 kc_Book (shB_0 hO) (ltB0 hO) 15 (O + 2) rfl (by decide) fk_Book_25 d_Book_copyFrom_132 ?_
  obtain ⟨h17, e16, hM⟩ := bnd_some hM
  refine aftV C w (runV C w.1 w.2 kc_Spans (shB_2 hB) (ltB hB 2 (by decide)) (c_Spans_copyFrom hI (spB2 hB) (spB2 hO) e16) lk_Book_86 mb_Spans_copyFrom rfl ⟨Nat.le_of_ble_eq_true rfl, Nat.le_of_ble_eq_true rfl⟩ ⟨Nat.zero_le _, Nat.zero_le _⟩ (Nat.le_of_ble_eq_true rfl) d_Book_copyFrom_135 hl.1 (rest := []) rfl) (fun H locs w => ?_)
  refine m_aload_n C hl 0 d_Book_copyFrom_138 rfl rfl ?_
  refine m_getr C w.1 kc_Book (shB_0 hB) (ltB0 hB) 16 (B + 6) rfl (by decide) fk_Book_29 d_Book_copyFrom_139 ?_
  refine m_aload_n C hl 1 d_Book_copyFrom_142 rfl rfl ?_
  refine m_getr C w.1 kc_Book (shB_0 hO) (ltB0 hO) 16 (O + 6) rfl (by decide) fk_Book_29 d_Book_copyFrom_143 ?_
  obtain ⟨h19, e18, hM⟩ := bnd_some hM
  refine aftV C w (runV C w.1 w.2 kc_Spans (shB_6 hB) (ltB hB 6 (by decide)) (c_Spans_copyFrom hI (spB6 hB) (spB6 hO) e18) lk_Book_86 mb_Spans_copyFrom rfl ⟨Nat.le_of_ble_eq_true rfl, Nat.le_of_ble_eq_true rfl⟩ ⟨Nat.zero_le _, Nat.zero_le _⟩ (Nat.le_of_ble_eq_true rfl) d_Book_copyFrom_146 hl.1 (rest := []) rfl) (fun H locs w => ?_)
  refine m_aload_n C hl 0 d_Book_copyFrom_149 rfl rfl ?_
  refine m_getr C w.1 kc_Book (shB_0 hB) (ltB0 hB) 17 (B + 10) rfl (by decide) fk_Book_35 d_Book_copyFrom_150 ?_
  refine m_aload_n C hl 1 d_Book_copyFrom_153 rfl rfl ?_
  refine m_getr C w.1 kc_Book (shB_0 hO) (ltB0 hO) 17 (O + 10) rfl (by decide) fk_Book_35 d_Book_copyFrom_154 ?_
  obtain ⟨h21, e20, hM⟩ := bnd_some hM
  refine aftV C w (runV C w.1 w.2 kc_Feasts (shB_10 hB) (ltB hB 10 (by decide)) (c_Feasts_copyFrom hI (ftB hB) (ftB hO) e20) lk_Book_90 mb_Feasts_copyFrom rfl ⟨Nat.le_of_ble_eq_true rfl, Nat.le_of_ble_eq_true rfl⟩ ⟨Nat.zero_le _, Nat.zero_le _⟩ (Nat.le_of_ble_eq_true rfl) d_Book_copyFrom_157 hl.1 (rest := []) rfl) (fun H locs w => ?_)
  exact m_vretW C w hr hlk hM d_Book_copyFrom_160
def y_Book_daysAhead : MethodName := ⟨"FeastBook$Book", "daysAhead", "(I)I"⟩
theorem d_Book_daysAhead_0 : decode prog_2_method_9_code 0 = .ok (.aload_n 0, 1) := by decide +kernel
theorem d_Book_daysAhead_1 : decode prog_2_method_9_code 1 = .ok (.getfield 52, 3) := by decide +kernel
theorem d_Book_daysAhead_4 : decode prog_2_method_9_code 4 = .ok (.ifCond .le 19, 3) := by decide +kernel
theorem d_Book_daysAhead_7 : decode prog_2_method_9_code 7 = .ok (.iload_n 1, 1) := by decide +kernel
theorem d_Book_daysAhead_8 : decode prog_2_method_9_code 8 = .ok (.aload_n 0, 1) := by decide +kernel
theorem d_Book_daysAhead_9 : decode prog_2_method_9_code 9 = .ok (.getfield 52, 3) := by decide +kernel
theorem d_Book_daysAhead_12 : decode prog_2_method_9_code 12 = .ok (.iadd, 1) := by decide +kernel
theorem d_Book_daysAhead_13 : decode prog_2_method_9_code 13 = .ok (.iconst 1, 1) := by decide +kernel
theorem d_Book_daysAhead_14 : decode prog_2_method_9_code 14 = .ok (.isub, 1) := by decide +kernel
theorem d_Book_daysAhead_15 : decode prog_2_method_9_code 15 = .ok (.aload_n 0, 1) := by decide +kernel
theorem d_Book_daysAhead_16 : decode prog_2_method_9_code 16 = .ok (.getfield 52, 3) := by decide +kernel
theorem d_Book_daysAhead_19 : decode prog_2_method_9_code 19 = .ok (.idiv, 1) := by decide +kernel
theorem d_Book_daysAhead_20 : decode prog_2_method_9_code 20 = .ok (.goto 4, 3) := by decide +kernel
theorem d_Book_daysAhead_23 : decode prog_2_method_9_code 23 = .ok (.iconst 0, 1) := by decide +kernel
theorem d_Book_daysAhead_24 : decode prog_2_method_9_code 24 = .ok (.istore_n 2, 1) := by decide +kernel
theorem d_Book_daysAhead_25 : decode prog_2_method_9_code 25 = .ok (.iload_n 1, 1) := by decide +kernel
theorem d_Book_daysAhead_26 : decode prog_2_method_9_code 26 = .ok (.aload_n 0, 1) := by decide +kernel
theorem d_Book_daysAhead_27 : decode prog_2_method_9_code 27 = .ok (.getfield 49, 3) := by decide +kernel
theorem d_Book_daysAhead_30 : decode prog_2_method_9_code 30 = .ok (.imul, 1) := by decide +kernel
theorem d_Book_daysAhead_31 : decode prog_2_method_9_code 31 = .ok (.iload_n 2, 1) := by decide +kernel
theorem d_Book_daysAhead_32 : decode prog_2_method_9_code 32 = .ok (.iadd, 1) := by decide +kernel
theorem d_Book_daysAhead_33 : decode prog_2_method_9_code 33 = .ok (.ireturn, 1) := by decide +kernel
set_option maxHeartbeats 4000000 in
set_option maxRecDepth 100000 in
theorem c_Book_daysAhead {l : Launch} {D : va_G} {ad : Nat → Nat} {cA : Nat → ClassId} {sd sv : Nat → Nat} {h : Hp} {B : Nat} {a1 : Int} {out : Int} (hI : Inj97 ad) (hB : isBk B) (hM : M_Book_daysAhead h B a1 = some out) : Met l y_Book_daysAhead (.code y_Book_daysAhead prog_2_method_9_code 3 (some .int) :: TT) (rmD 0) (PC D ad cA sd sv h [.ref (ad B), .int (iZ a1)]) (QR out) 0 0 (fun _ => False) := by
  unfold M_Book_daysAhead at hM
  refine entM (by decide +kernel) hI (Nat.le_of_ble_eq_true rfl) ?_
  intro p e s m args below meth c C hr hlk hP ls hl
  have C : Cx p s m args c prog_2_method_9_code 3 "FeastBook$Book" D ad cA sd sv (FA ad) := C
  have hl : lv_has ls 3 [(0, .ref (ad B)), (1, .int (iZ a1))] := hl
  refine m_aload_n C hl 0 d_Book_daysAhead_0 rfl rfl ?_
  refine m_geti C hP kc_Book (shB_0 hB) (ltB0 hB) 4 rfl (by decide) fk_Book_52 d_Book_daysAhead_1 ?_
  refine m_if_le C hM 23 d_Book_daysAhead_4 (by decide) (fun hM => ?_) (fun hM => ?_)
  · refine m_iconst C d_Book_daysAhead_23 ?_
    refine m_istore_n C hl [(2, .int (iZ 0)), (0, .ref (ad B)), (1, .int (iZ a1))] d_Book_daysAhead_24 rfl (by decide) rfl (fun ls hl => ?_)
    refine m_iload_n C hl 2 d_Book_daysAhead_25 rfl rfl ?_
    refine m_aload_n C hl 1 d_Book_daysAhead_26 rfl rfl ?_
    refine m_geti C hP kc_Book (shB_0 hB) (ltB0 hB) 3 rfl (by decide) fk_Book_49 d_Book_daysAhead_27 ?_
    refine m_imul C d_Book_daysAhead_30 ?_
    refine m_iload_n C hl 0 d_Book_daysAhead_31 rfl rfl ?_
    refine m_iadd C d_Book_daysAhead_32 ?_
    exact m_iretR C hr hlk hM d_Book_daysAhead_33
  · refine m_iload_n C hl 1 d_Book_daysAhead_7 rfl rfl ?_
    refine m_aload_n C hl 0 d_Book_daysAhead_8 rfl rfl ?_
    refine m_geti C hP kc_Book (shB_0 hB) (ltB0 hB) 4 rfl (by decide) fk_Book_52 d_Book_daysAhead_9 ?_
    refine m_iadd C d_Book_daysAhead_12 ?_
    refine m_iconst C d_Book_daysAhead_13 ?_
    refine m_isub C d_Book_daysAhead_14 ?_
    refine m_aload_n C hl 0 d_Book_daysAhead_15 rfl rfl ?_
    refine m_geti C hP kc_Book (shB_0 hB) (ltB0 hB) 4 rfl (by decide) fk_Book_52 d_Book_daysAhead_16 ?_
    refine m_idiv C hM d_Book_daysAhead_19 (fun x1 hM => ?_)
    refine m_goto C 24 d_Book_daysAhead_20 (by decide) ?_
    refine m_istore_n C hl [(2, .int (iZ x1)), (0, .ref (ad B)), (1, .int (iZ a1))] d_Book_daysAhead_24 rfl (by decide) rfl (fun ls hl => ?_)
    refine m_iload_n C hl 2 d_Book_daysAhead_25 rfl rfl ?_
    refine m_aload_n C hl 1 d_Book_daysAhead_26 rfl rfl ?_
    refine m_geti C hP kc_Book (shB_0 hB) (ltB0 hB) 3 rfl (by decide) fk_Book_49 d_Book_daysAhead_27 ?_
    refine m_imul C d_Book_daysAhead_30 ?_
    refine m_iload_n C hl 0 d_Book_daysAhead_31 rfl rfl ?_
    refine m_iadd C d_Book_daysAhead_32 ?_
    exact m_iretR C hr hlk hM d_Book_daysAhead_33
def y_Book_yearsOfCycle : MethodName := ⟨"FeastBook$Book", "yearsOfCycle", "()I"⟩
theorem d_Book_yearsOfCycle_0 : decode prog_2_method_20_code 0 = .ok (.aload_n 0, 1) := by decide +kernel
theorem d_Book_yearsOfCycle_1 : decode prog_2_method_20_code 1 = .ok (.getfield 52, 3) := by decide +kernel
theorem d_Book_yearsOfCycle_4 : decode prog_2_method_20_code 4 = .ok (.iconst 1, 1) := by decide +kernel
theorem d_Book_yearsOfCycle_5 : decode prog_2_method_20_code 5 = .ok (.invokestatic 124, 3) := by decide +kernel
theorem d_Book_yearsOfCycle_8 : decode prog_2_method_20_code 8 = .ok (.istore_n 1, 1) := by decide +kernel
theorem d_Book_yearsOfCycle_9 : decode prog_2_method_20_code 9 = .ok (.aload_n 0, 1) := by decide +kernel
theorem d_Book_yearsOfCycle_10 : decode prog_2_method_20_code 10 = .ok (.getfield 68, 3) := by decide +kernel
theorem d_Book_yearsOfCycle_13 : decode prog_2_method_20_code 13 = .ok (.aload_n 0, 1) := by decide +kernel
theorem d_Book_yearsOfCycle_14 : decode prog_2_method_20_code 14 = .ok (.getfield 68, 3) := by decide +kernel
theorem d_Book_yearsOfCycle_17 : decode prog_2_method_20_code 17 = .ok (.iload_n 1, 1) := by decide +kernel
theorem d_Book_yearsOfCycle_18 : decode prog_2_method_20_code 18 = .ok (.invokestatic 141, 3) := by decide +kernel
theorem d_Book_yearsOfCycle_21 : decode prog_2_method_20_code 21 = .ok (.idiv, 1) := by decide +kernel
theorem d_Book_yearsOfCycle_22 : decode prog_2_method_20_code 22 = .ok (.iload_n 1, 1) := by decide +kernel
theorem d_Book_yearsOfCycle_23 : decode prog_2_method_20_code 23 = .ok (.imul, 1) := by decide +kernel
theorem d_Book_yearsOfCycle_24 : decode prog_2_method_20_code 24 = .ok (.istore_n 2, 1) := by decide +kernel
theorem d_Book_yearsOfCycle_25 : decode prog_2_method_20_code 25 = .ok (.iload_n 2, 1) := by decide +kernel
theorem d_Book_yearsOfCycle_26 : decode prog_2_method_20_code 26 = .ok (.aload_n 0, 1) := by decide +kernel
theorem d_Book_yearsOfCycle_27 : decode prog_2_method_20_code 27 = .ok (.getfield 43, 3) := by decide +kernel
theorem d_Book_yearsOfCycle_30 : decode prog_2_method_20_code 30 = .ok (.aload_n 0, 1) := by decide +kernel
theorem d_Book_yearsOfCycle_31 : decode prog_2_method_20_code 31 = .ok (.iload_n 2, 1) := by decide +kernel
theorem d_Book_yearsOfCycle_32 : decode prog_2_method_20_code 32 = .ok (.invokevirtual 97, 3) := by decide +kernel
theorem d_Book_yearsOfCycle_35 : decode prog_2_method_20_code 35 = .ok (.aload_n 0, 1) := by decide +kernel
theorem d_Book_yearsOfCycle_36 : decode prog_2_method_20_code 36 = .ok (.getfield 43, 3) := by decide +kernel
theorem d_Book_yearsOfCycle_39 : decode prog_2_method_20_code 39 = .ok (.invokestatic 141, 3) := by decide +kernel
theorem d_Book_yearsOfCycle_42 : decode prog_2_method_20_code 42 = .ok (.idiv, 1) := by decide +kernel
theorem d_Book_yearsOfCycle_43 : decode prog_2_method_20_code 43 = .ok (.imul, 1) := by decide +kernel
theorem d_Book_yearsOfCycle_44 : decode prog_2_method_20_code 44 = .ok (.ireturn, 1) := by decide +kernel
theorem mb_Book_daysAhead : MBv R_Book y_Book_daysAhead prog_2_method_9_code 3 (some .int) 1 := ⟨mT3 33 (by decide +kernel) (by decide +kernel), mT3 34 (by decide +kernel) (by decide +kernel), mT1 4 (by decide +kernel) (by decide +kernel), mT3 35 (by decide +kernel) (by decide +kernel), by decide, rfl, by decide +kernel, by decide +kernel, by decide +kernel⟩
theorem mb_Su_common : MBs y_Su_common prog_9_method_3_code 6 (some .int) 2 := ⟨mT3 29 (by decide +kernel) (by decide +kernel), mT1 23 (by decide +kernel) (by decide +kernel), mT3 30 (by decide +kernel) (by decide +kernel), by decide, by decide +kernel, by decide +kernel, by decide +kernel⟩
theorem lk_Book_124 : Cond.methodLink "FeastBook$Book" 124 Lib.Math.max.name ∈ TT := mT3 25 (by decide +kernel) (by decide +kernel)
theorem lk_Book_141 : Cond.methodLink "FeastBook$Book" 141 y_Su_common ∈ TT := mT3 28 (by decide +kernel) (by decide +kernel)
theorem lk_Book_97 : Cond.methodLink "FeastBook$Book" 97 y_Book_daysAhead ∈ TT := mT3 32 (by decide +kernel) (by decide +kernel)
set_option maxHeartbeats 4000000 in
set_option maxRecDepth 100000 in
theorem c_Book_yearsOfCycle {l : Launch} {D : va_G} {ad : Nat → Nat} {cA : Nat → ClassId} {sd sv : Nat → Nat} {h : Hp} {N : Nat} {B : Nat} {out : Int} (hI : Inj97 ad) (hB : isBk B) (hM : M_Book_yearsOfCycle N h B = some out) : Met l y_Book_yearsOfCycle (.code y_Book_yearsOfCycle prog_2_method_20_code 3 (some .int) :: TT) (rmD 2) (PC D ad cA sd sv h [.ref (ad B)]) (QR out) 0 0 (fun _ => False) := by
  unfold M_Book_yearsOfCycle at hM
  refine entM (by decide +kernel) hI (Nat.le_of_ble_eq_true rfl) ?_
  intro p e s m args below meth c C hr hlk hP ls hl
  have C : Cx p s m args c prog_2_method_20_code 3 "FeastBook$Book" D ad cA sd sv (FA ad) := C
  have hl : lv_has ls 3 [(0, .ref (ad B))] := hl
  refine m_aload_n C hl 0 d_Book_yearsOfCycle_0 rfl rfl ?_
  refine m_geti C hP kc_Book (shB_0 hB) (ltB0 hB) 4 rfl (by decide) fk_Book_52 d_Book_yearsOfCycle_1 ?_
  refine m_iconst C d_Book_yearsOfCycle_4 ?_
  refine m_max C lk_Book_124 hl.1 (Nat.le_of_ble_eq_true rfl) (Nat.le_of_ble_eq_true rfl) ⟨Nat.zero_le _, Nat.zero_le _⟩ d_Book_yearsOfCycle_5 ?_
  refine m_istore_n C hl [(1, .int (iZ (mxI (h B 4) 1))), (0, .ref (ad B))] d_Book_yearsOfCycle_8 rfl (by decide) rfl (fun ls hl => ?_)
  refine m_aload_n C hl 1 d_Book_yearsOfCycle_9 rfl rfl ?_
  refine m_geti C hP kc_Book (shB_0 hB) (ltB0 hB) 6 rfl (by decide) fk_Book_68 d_Book_yearsOfCycle_10 ?_
  refine m_aload_n C hl 1 d_Book_yearsOfCycle_13 rfl rfl ?_
  refine m_geti C hP kc_Book (shB_0 hB) (ltB0 hB) 6 rfl (by decide) fk_Book_68 d_Book_yearsOfCycle_14 ?_
  refine m_iload_n C hl 0 d_Book_yearsOfCycle_17 rfl rfl ?_
  obtain ⟨x2, e1, hM⟩ := bnd_some hM
  refine aftR (runS C hP va_S.rf (c_Su_common hI e1) lk_Book_141 mb_Su_common rfl ⟨Nat.le_of_ble_eq_true rfl, Nat.le_of_ble_eq_true rfl⟩ ⟨Nat.zero_le _, Nat.zero_le _⟩ (Nat.le_of_ble_eq_true rfl) d_Book_yearsOfCycle_18 hl.1 (rest := [.int (iZ (h B 6))]) rfl) ?_
  refine m_idiv C hM d_Book_yearsOfCycle_21 (fun x3 hM => ?_)
  refine m_iload_n C hl 0 d_Book_yearsOfCycle_22 rfl rfl ?_
  refine m_imul C d_Book_yearsOfCycle_23 ?_
  refine m_istore_n C hl [(2, .int (iZ (x3 * (mxI (h B 4) 1)))), (1, .int (iZ (mxI (h B 4) 1))), (0, .ref (ad B))] d_Book_yearsOfCycle_24 rfl (by decide) rfl (fun ls hl => ?_)
  refine m_iload_n C hl 0 d_Book_yearsOfCycle_25 rfl rfl ?_
  refine m_aload_n C hl 2 d_Book_yearsOfCycle_26 rfl rfl ?_
  refine m_geti C hP kc_Book (shB_0 hB) (ltB0 hB) 1 rfl (by decide) fk_Book_43 d_Book_yearsOfCycle_27 ?_
  refine m_aload_n C hl 2 d_Book_yearsOfCycle_30 rfl rfl ?_
  refine m_iload_n C hl 0 d_Book_yearsOfCycle_31 rfl rfl ?_
  obtain ⟨x5, e4, hM⟩ := bnd_some hM
  refine aftR (runV C hP va_S.rf kc_Book (shB_0 hB) (ltB0 hB) (c_Book_daysAhead hI hB e4) lk_Book_97 mb_Book_daysAhead rfl ⟨Nat.le_of_ble_eq_true rfl, Nat.le_of_ble_eq_true rfl⟩ ⟨Nat.zero_le _, Nat.zero_le _⟩ (Nat.le_of_ble_eq_true rfl) d_Book_yearsOfCycle_32 hl.1 (rest := [.int (iZ (h B 1)), .int (iZ (x3 * (mxI (h B 4) 1)))]) rfl) ?_
  refine m_aload_n C hl 2 d_Book_yearsOfCycle_35 rfl rfl ?_
  refine m_geti C hP kc_Book (shB_0 hB) (ltB0 hB) 1 rfl (by decide) fk_Book_43 d_Book_yearsOfCycle_36 ?_
  obtain ⟨x7, e6, hM⟩ := bnd_some hM
  refine aftR (runS C hP va_S.rf (c_Su_common hI e6) lk_Book_141 mb_Su_common rfl ⟨Nat.le_of_ble_eq_true rfl, Nat.le_of_ble_eq_true rfl⟩ ⟨Nat.zero_le _, Nat.zero_le _⟩ (Nat.le_of_ble_eq_true rfl) d_Book_yearsOfCycle_39 hl.1 (rest := [.int (iZ (h B 1)), .int (iZ (x3 * (mxI (h B 4) 1)))]) rfl) ?_
  refine m_idiv C hM d_Book_yearsOfCycle_42 (fun x8 hM => ?_)
  refine m_imul C d_Book_yearsOfCycle_43 ?_
  exact m_iretR C hr hlk hM d_Book_yearsOfCycle_44
def y_Book_fullOf : MethodName := ⟨"FeastBook$Book", "fullOf", "(I)I"⟩
theorem d_Book_fullOf_0 : decode prog_2_method_10_code 0 = .ok (.aload_n 0, 1) := by decide +kernel
theorem d_Book_fullOf_1 : decode prog_2_method_10_code 1 = .ok (.getfield 71, 3) := by decide +kernel
theorem d_Book_fullOf_4 : decode prog_2_method_10_code 4 = .ok (.aload_n 0, 1) := by decide +kernel
theorem d_Book_fullOf_5 : decode prog_2_method_10_code 5 = .ok (.getfield 74, 3) := by decide +kernel
theorem d_Book_fullOf_8 : decode prog_2_method_10_code 8 = .ok (.iload_n 1, 1) := by decide +kernel
theorem d_Book_fullOf_9 : decode prog_2_method_10_code 9 = .ok (.aload_n 0, 1) := by decide +kernel
theorem d_Book_fullOf_10 : decode prog_2_method_10_code 10 = .ok (.getfield 68, 3) := by decide +kernel
theorem d_Book_fullOf_13 : decode prog_2_method_10_code 13 = .ok (.invokestatic 101, 3) := by decide +kernel
theorem d_Book_fullOf_16 : decode prog_2_method_10_code 16 = .ok (.imul, 1) := by decide +kernel
theorem d_Book_fullOf_17 : decode prog_2_method_10_code 17 = .ok (.aload_n 0, 1) := by decide +kernel
theorem d_Book_fullOf_18 : decode prog_2_method_10_code 18 = .ok (.getfield 77, 3) := by decide +kernel
theorem d_Book_fullOf_21 : decode prog_2_method_10_code 21 = .ok (.invokestatic 101, 3) := by decide +kernel
theorem d_Book_fullOf_24 : decode prog_2_method_10_code 24 = .ok (.iadd, 1) := by decide +kernel
theorem d_Book_fullOf_25 : decode prog_2_method_10_code 25 = .ok (.ireturn, 1) := by decide +kernel
theorem mb_Su_left : MBs y_Su_left prog_9_method_2_code 2 (some .int) 2 := ⟨mT3 49 (by decide +kernel) (by decide +kernel), mT1 23 (by decide +kernel) (by decide +kernel), mT3 50 (by decide +kernel) (by decide +kernel), by decide, by decide +kernel, by decide +kernel, by decide +kernel⟩
theorem lk_Book_101 : Cond.methodLink "FeastBook$Book" 101 y_Su_left ∈ TT := mT3 48 (by decide +kernel) (by decide +kernel)
set_option maxHeartbeats 4000000 in
set_option maxRecDepth 100000 in
theorem c_Book_fullOf {l : Launch} {D : va_G} {ad : Nat → Nat} {cA : Nat → ClassId} {sd sv : Nat → Nat} {h : Hp} {B : Nat} {a1 : Int} {out : Int} (hI : Inj97 ad) (hB : isBk B) (hM : M_Book_fullOf h B a1 = some out) : Met l y_Book_fullOf (.code y_Book_fullOf prog_2_method_10_code 2 (some .int) :: TT) (rmD 1) (PC D ad cA sd sv h [.ref (ad B), .int (iZ a1)]) (QR out) 0 0 (fun _ => False) := by
  unfold M_Book_fullOf at hM
  refine entM (by decide +kernel) hI (Nat.le_of_ble_eq_true rfl) ?_
  intro p e s m args below meth c C hr hlk hP ls hl
  have C : Cx p s m args c prog_2_method_10_code 2 "FeastBook$Book" D ad cA sd sv (FA ad) := C
  have hl : lv_has ls 2 [(0, .ref (ad B)), (1, .int (iZ a1))] := hl
  refine m_aload_n C hl 0 d_Book_fullOf_0 rfl rfl ?_
  refine m_geti C hP kc_Book (shB_0 hB) (ltB0 hB) 7 rfl (by decide) fk_Book_71 d_Book_fullOf_1 ?_
  refine m_aload_n C hl 0 d_Book_fullOf_4 rfl rfl ?_
  refine m_geti C hP kc_Book (shB_0 hB) (ltB0 hB) 8 rfl (by decide) fk_Book_74 d_Book_fullOf_5 ?_
  refine m_iload_n C hl 1 d_Book_fullOf_8 rfl rfl ?_
  refine m_aload_n C hl 0 d_Book_fullOf_9 rfl rfl ?_
  refine m_geti C hP kc_Book (shB_0 hB) (ltB0 hB) 6 rfl (by decide) fk_Book_68 d_Book_fullOf_10 ?_
  obtain ⟨x2, e1, hM⟩ := bnd_some hM
  refine aftR (runS C hP va_S.rf (c_Su_left hI e1) lk_Book_101 mb_Su_left rfl ⟨Nat.le_of_ble_eq_true rfl, Nat.le_of_ble_eq_true rfl⟩ ⟨Nat.zero_le _, Nat.zero_le _⟩ (Nat.le_of_ble_eq_true rfl) d_Book_fullOf_13 hl.1 (rest := [.int (iZ (h B 8)), .int (iZ (h B 7))]) rfl) ?_
  refine m_imul C d_Book_fullOf_16 ?_
  refine m_aload_n C hl 0 d_Book_fullOf_17 rfl rfl ?_
  refine m_geti C hP kc_Book (shB_0 hB) (ltB0 hB) 9 rfl (by decide) fk_Book_77 d_Book_fullOf_18 ?_
  obtain ⟨x4, e3, hM⟩ := bnd_some hM
  refine aftR (runS C hP va_S.rf (c_Su_left hI e3) lk_Book_101 mb_Su_left rfl ⟨Nat.le_of_ble_eq_true rfl, Nat.le_of_ble_eq_true rfl⟩ ⟨Nat.zero_le _, Nat.zero_le _⟩ (Nat.le_of_ble_eq_true rfl) d_Book_fullOf_21 hl.1 (rest := [.int (iZ (h B 7))]) rfl) ?_
  refine m_iadd C d_Book_fullOf_24 ?_
  exact m_iretR C hr hlk hM d_Book_fullOf_25
def y_Book_firstWeekday : MethodName := ⟨"FeastBook$Book", "firstWeekday", "(I)I"⟩
theorem d_Book_firstWeekday_0 : decode prog_2_method_8_code 0 = .ok (.aload_n 0, 1) := by decide +kernel
theorem d_Book_firstWeekday_1 : decode prog_2_method_8_code 1 = .ok (.iload_n 1, 1) := by decide +kernel
theorem d_Book_firstWeekday_2 : decode prog_2_method_8_code 2 = .ok (.invokevirtual 97, 3) := by decide +kernel
theorem d_Book_firstWeekday_5 : decode prog_2_method_8_code 5 = .ok (.aload_n 0, 1) := by decide +kernel
theorem d_Book_firstWeekday_6 : decode prog_2_method_8_code 6 = .ok (.getfield 43, 3) := by decide +kernel
theorem d_Book_firstWeekday_9 : decode prog_2_method_8_code 9 = .ok (.invokestatic 101, 3) := by decide +kernel
theorem d_Book_firstWeekday_12 : decode prog_2_method_8_code 12 = .ok (.ireturn, 1) := by decide +kernel
set_option maxHeartbeats 4000000 in
set_option maxRecDepth 100000 in
theorem c_Book_firstWeekday {l : Launch} {D : va_G} {ad : Nat → Nat} {cA : Nat → ClassId} {sd sv : Nat → Nat} {h : Hp} {B : Nat} {a1 : Int} {out : Int} (hI : Inj97 ad) (hB : isBk B) (hM : M_Book_firstWeekday h B a1 = some out) : Met l y_Book_firstWeekday (.code y_Book_firstWeekday prog_2_method_8_code 2 (some .int) :: TT) (rmD 1) (PC D ad cA sd sv h [.ref (ad B), .int (iZ a1)]) (QR out) 0 0 (fun _ => False) := by
  unfold M_Book_firstWeekday at hM
  refine entM (by decide +kernel) hI (Nat.le_of_ble_eq_true rfl) ?_
  intro p e s m args below meth c C hr hlk hP ls hl
  have C : Cx p s m args c prog_2_method_8_code 2 "FeastBook$Book" D ad cA sd sv (FA ad) := C
  have hl : lv_has ls 2 [(0, .ref (ad B)), (1, .int (iZ a1))] := hl
  refine m_aload_n C hl 0 d_Book_firstWeekday_0 rfl rfl ?_
  refine m_iload_n C hl 1 d_Book_firstWeekday_1 rfl rfl ?_
  obtain ⟨x2, e1, hM⟩ := bnd_some hM
  refine aftR (runV C hP va_S.rf kc_Book (shB_0 hB) (ltB0 hB) (c_Book_daysAhead hI hB e1) lk_Book_97 mb_Book_daysAhead rfl ⟨Nat.le_of_ble_eq_true rfl, Nat.le_of_ble_eq_true rfl⟩ ⟨Nat.zero_le _, Nat.zero_le _⟩ (Nat.le_of_ble_eq_true rfl) d_Book_firstWeekday_2 hl.1 (rest := []) rfl) ?_
  refine m_aload_n C hl 0 d_Book_firstWeekday_5 rfl rfl ?_
  refine m_geti C hP kc_Book (shB_0 hB) (ltB0 hB) 1 rfl (by decide) fk_Book_43 d_Book_firstWeekday_6 ?_
  obtain ⟨x4, e3, hM⟩ := bnd_some hM
  refine aftR (runS C hP va_S.rf (c_Su_left hI e3) lk_Book_101 mb_Su_left rfl ⟨Nat.le_of_ble_eq_true rfl, Nat.le_of_ble_eq_true rfl⟩ ⟨Nat.zero_le _, Nat.zero_le _⟩ (Nat.le_of_ble_eq_true rfl) d_Book_firstWeekday_9 hl.1 (rest := []) rfl) ?_
  exact m_iretR C hr hlk hM d_Book_firstWeekday_12
def y_Book_paschOf : MethodName := ⟨"FeastBook$Book", "paschOf", "(I)I"⟩
theorem d_Book_paschOf_0 : decode prog_2_method_11_code 0 = .ok (.aload_n 0, 1) := by decide +kernel
theorem d_Book_paschOf_1 : decode prog_2_method_11_code 1 = .ok (.iload_n 1, 1) := by decide +kernel
theorem d_Book_paschOf_2 : decode prog_2_method_11_code 2 = .ok (.invokevirtual 107, 3) := by decide +kernel
theorem d_Book_paschOf_5 : decode prog_2_method_11_code 5 = .ok (.istore_n 2, 1) := by decide +kernel
theorem d_Book_paschOf_6 : decode prog_2_method_11_code 6 = .ok (.iload_n 2, 1) := by decide +kernel
theorem d_Book_paschOf_7 : decode prog_2_method_11_code 7 = .ok (.aload_n 0, 1) := by decide +kernel
theorem d_Book_paschOf_8 : decode prog_2_method_11_code 8 = .ok (.getfield 43, 3) := by decide +kernel
theorem d_Book_paschOf_11 : decode prog_2_method_11_code 11 = .ok (.iadd, 1) := by decide +kernel
theorem d_Book_paschOf_12 : decode prog_2_method_11_code 12 = .ok (.aload_n 0, 1) := by decide +kernel
theorem d_Book_paschOf_13 : decode prog_2_method_11_code 13 = .ok (.iload_n 1, 1) := by decide +kernel
theorem d_Book_paschOf_14 : decode prog_2_method_11_code 14 = .ok (.invokevirtual 110, 3) := by decide +kernel
theorem d_Book_paschOf_17 : decode prog_2_method_11_code 17 = .ok (.iload_n 2, 1) := by decide +kernel
theorem d_Book_paschOf_18 : decode prog_2_method_11_code 18 = .ok (.iadd, 1) := by decide +kernel
theorem d_Book_paschOf_19 : decode prog_2_method_11_code 19 = .ok (.aload_n 0, 1) := by decide +kernel
theorem d_Book_paschOf_20 : decode prog_2_method_11_code 20 = .ok (.getfield 43, 3) := by decide +kernel
theorem d_Book_paschOf_23 : decode prog_2_method_11_code 23 = .ok (.invokestatic 101, 3) := by decide +kernel
theorem d_Book_paschOf_26 : decode prog_2_method_11_code 26 = .ok (.isub, 1) := by decide +kernel
theorem d_Book_paschOf_27 : decode prog_2_method_11_code 27 = .ok (.ireturn, 1) := by decide +kernel
theorem mb_Book_firstWeekday : MBv R_Book y_Book_firstWeekday prog_2_method_8_code 2 (some .int) 1 := ⟨mT3 52 (by decide +kernel) (by decide +kernel), mT3 53 (by decide +kernel) (by decide +kernel), mT1 4 (by decide +kernel) (by decide +kernel), mT3 54 (by decide +kernel) (by decide +kernel), by decide, rfl, by decide +kernel, by decide +kernel, by decide +kernel⟩
theorem mb_Book_fullOf : MBv R_Book y_Book_fullOf prog_2_method_10_code 2 (some .int) 1 := ⟨mT3 45 (by decide +kernel) (by decide +kernel), mT3 46 (by decide +kernel) (by decide +kernel), mT1 4 (by decide +kernel) (by decide +kernel), mT3 47 (by decide +kernel) (by decide +kernel), by decide, rfl, by decide +kernel, by decide +kernel, by decide +kernel⟩
theorem lk_Book_107 : Cond.methodLink "FeastBook$Book" 107 y_Book_fullOf ∈ TT := mT3 44 (by decide +kernel) (by decide +kernel)
theorem lk_Book_110 : Cond.methodLink "FeastBook$Book" 110 y_Book_firstWeekday ∈ TT := mT3 51 (by decide +kernel) (by decide +kernel)
set_option maxHeartbeats 4000000 in
set_option maxRecDepth 100000 in
theorem c_Book_paschOf {l : Launch} {D : va_G} {ad : Nat → Nat} {cA : Nat → ClassId} {sd sv : Nat → Nat} {h : Hp} {B : Nat} {a1 : Int} {out : Int} (hI : Inj97 ad) (hB : isBk B) (hM : M_Book_paschOf h B a1 = some out) : Met l y_Book_paschOf (.code y_Book_paschOf prog_2_method_11_code 3 (some .int) :: TT) (rmD 2) (PC D ad cA sd sv h [.ref (ad B), .int (iZ a1)]) (QR out) 0 0 (fun _ => False) := by
  unfold M_Book_paschOf at hM
  refine entM (by decide +kernel) hI (Nat.le_of_ble_eq_true rfl) ?_
  intro p e s m args below meth c C hr hlk hP ls hl
  have C : Cx p s m args c prog_2_method_11_code 3 "FeastBook$Book" D ad cA sd sv (FA ad) := C
  have hl : lv_has ls 3 [(0, .ref (ad B)), (1, .int (iZ a1))] := hl
  refine m_aload_n C hl 0 d_Book_paschOf_0 rfl rfl ?_
  refine m_iload_n C hl 1 d_Book_paschOf_1 rfl rfl ?_
  obtain ⟨x2, e1, hM⟩ := bnd_some hM
  refine aftR (runV C hP va_S.rf kc_Book (shB_0 hB) (ltB0 hB) (c_Book_fullOf hI hB e1) lk_Book_107 mb_Book_fullOf rfl ⟨Nat.le_of_ble_eq_true rfl, Nat.le_of_ble_eq_true rfl⟩ ⟨Nat.zero_le _, Nat.zero_le _⟩ (Nat.le_of_ble_eq_true rfl) d_Book_paschOf_2 hl.1 (rest := []) rfl) ?_
  refine m_istore_n C hl [(2, .int (iZ x2)), (0, .ref (ad B)), (1, .int (iZ a1))] d_Book_paschOf_5 rfl (by decide) rfl (fun ls hl => ?_)
  refine m_iload_n C hl 0 d_Book_paschOf_6 rfl rfl ?_
  refine m_aload_n C hl 1 d_Book_paschOf_7 rfl rfl ?_
  refine m_geti C hP kc_Book (shB_0 hB) (ltB0 hB) 1 rfl (by decide) fk_Book_43 d_Book_paschOf_8 ?_
  refine m_iadd C d_Book_paschOf_11 ?_
  refine m_aload_n C hl 1 d_Book_paschOf_12 rfl rfl ?_
  refine m_iload_n C hl 2 d_Book_paschOf_13 rfl rfl ?_
  obtain ⟨x4, e3, hM⟩ := bnd_some hM
  refine aftR (runV C hP va_S.rf kc_Book (shB_0 hB) (ltB0 hB) (c_Book_firstWeekday hI hB e3) lk_Book_110 mb_Book_firstWeekday rfl ⟨Nat.le_of_ble_eq_true rfl, Nat.le_of_ble_eq_true rfl⟩ ⟨Nat.zero_le _, Nat.zero_le _⟩ (Nat.le_of_ble_eq_true rfl) d_Book_paschOf_14 hl.1 (rest := [.int (iZ (x2 + (h B 1)))]) rfl) ?_
  refine m_iload_n C hl 0 d_Book_paschOf_17 rfl rfl ?_
  refine m_iadd C d_Book_paschOf_18 ?_
  refine m_aload_n C hl 1 d_Book_paschOf_19 rfl rfl ?_
  refine m_geti C hP kc_Book (shB_0 hB) (ltB0 hB) 1 rfl (by decide) fk_Book_43 d_Book_paschOf_20 ?_
  obtain ⟨x6, e5, hM⟩ := bnd_some hM
  refine aftR (runS C hP va_S.rf (c_Su_left hI e5) lk_Book_101 mb_Su_left rfl ⟨Nat.le_of_ble_eq_true rfl, Nat.le_of_ble_eq_true rfl⟩ ⟨Nat.zero_le _, Nat.zero_le _⟩ (Nat.le_of_ble_eq_true rfl) d_Book_paschOf_23 hl.1 (rest := [.int (iZ (x2 + (h B 1)))]) rfl) ?_
  refine m_isub C d_Book_paschOf_26 ?_
  exact m_iretR C hr hlk hM d_Book_paschOf_27
def y_Book_isLeap : MethodName := ⟨"FeastBook$Book", "isLeap", "(I)Z"⟩
theorem d_Book_isLeap_0 : decode prog_2_method_6_code 0 = .ok (.aload_n 0, 1) := by decide +kernel
theorem d_Book_isLeap_1 : decode prog_2_method_6_code 1 = .ok (.getfield 52, 3) := by decide +kernel
theorem d_Book_isLeap_4 : decode prog_2_method_6_code 4 = .ok (.ifCond .le 16, 3) := by decide +kernel
theorem d_Book_isLeap_7 : decode prog_2_method_6_code 7 = .ok (.iload_n 1, 1) := by decide +kernel
theorem d_Book_isLeap_8 : decode prog_2_method_6_code 8 = .ok (.aload_n 0, 1) := by decide +kernel
theorem d_Book_isLeap_9 : decode prog_2_method_6_code 9 = .ok (.getfield 52, 3) := by decide +kernel
theorem d_Book_isLeap_12 : decode prog_2_method_6_code 12 = .ok (.irem, 1) := by decide +kernel
theorem d_Book_isLeap_13 : decode prog_2_method_6_code 13 = .ok (.ifCond .ne 7, 3) := by decide +kernel
theorem d_Book_isLeap_16 : decode prog_2_method_6_code 16 = .ok (.iconst 1, 1) := by decide +kernel
theorem d_Book_isLeap_17 : decode prog_2_method_6_code 17 = .ok (.goto 4, 3) := by decide +kernel
theorem d_Book_isLeap_20 : decode prog_2_method_6_code 20 = .ok (.iconst 0, 1) := by decide +kernel
theorem d_Book_isLeap_21 : decode prog_2_method_6_code 21 = .ok (.ireturn, 1) := by decide +kernel
set_option maxHeartbeats 4000000 in
set_option maxRecDepth 100000 in
theorem c_Book_isLeap {l : Launch} {D : va_G} {ad : Nat → Nat} {cA : Nat → ClassId} {sd sv : Nat → Nat} {h : Hp} {B : Nat} {a1 : Int} {out : Int} (hI : Inj97 ad) (hB : isBk B) (hM : M_Book_isLeap h B a1 = some out) : Met l y_Book_isLeap (.code y_Book_isLeap prog_2_method_6_code 2 (some .boolean) :: TT) (rmD 0) (PC D ad cA sd sv h [.ref (ad B), .int (iZ a1)]) (QR out) 0 0 (fun _ => False) := by
  unfold M_Book_isLeap at hM
  refine entM (by decide +kernel) hI (Nat.le_of_ble_eq_true rfl) ?_
  intro p e s m args below meth c C hr hlk hP ls hl
  have C : Cx p s m args c prog_2_method_6_code 2 "FeastBook$Book" D ad cA sd sv (FA ad) := C
  have hl : lv_has ls 2 [(0, .ref (ad B)), (1, .int (iZ a1))] := hl
  refine m_aload_n C hl 0 d_Book_isLeap_0 rfl rfl ?_
  refine m_geti C hP kc_Book (shB_0 hB) (ltB0 hB) 4 rfl (by decide) fk_Book_52 d_Book_isLeap_1 ?_
  refine m_if_le C hM 20 d_Book_isLeap_4 (by decide) (fun hM => ?_) (fun hM => ?_)
  · refine m_iconst C d_Book_isLeap_20 ?_
    exact m_zretR C hr hlk hM d_Book_isLeap_21
  · refine m_iload_n C hl 1 d_Book_isLeap_7 rfl rfl ?_
    refine m_aload_n C hl 0 d_Book_isLeap_8 rfl rfl ?_
    refine m_geti C hP kc_Book (shB_0 hB) (ltB0 hB) 4 rfl (by decide) fk_Book_52 d_Book_isLeap_9 ?_
    refine m_irem C hM d_Book_isLeap_12 (fun x1 hM => ?_)
    refine m_if_ne C hM 20 d_Book_isLeap_13 (by decide) (fun hM => ?_) (fun hM => ?_)
    · refine m_iconst C d_Book_isLeap_20 ?_
      exact m_zretR C hr hlk hM d_Book_isLeap_21
    · refine m_iconst C d_Book_isLeap_16 ?_
      refine m_goto C 21 d_Book_isLeap_17 (by decide) ?_
      exact m_zretR C hr hlk hM d_Book_isLeap_21
def y_Book_sortOf : MethodName := ⟨"FeastBook$Book", "sortOf", "(I)I"⟩
theorem d_Book_sortOf_0 : decode prog_2_method_12_code 0 = .ok (.aload_n 0, 1) := by decide +kernel
theorem d_Book_sortOf_1 : decode prog_2_method_12_code 1 = .ok (.iload_n 1, 1) := by decide +kernel
theorem d_Book_sortOf_2 : decode prog_2_method_12_code 2 = .ok (.invokevirtual 113, 3) := by decide +kernel
theorem d_Book_sortOf_5 : decode prog_2_method_12_code 5 = .ok (.aload_n 0, 1) := by decide +kernel
theorem d_Book_sortOf_6 : decode prog_2_method_12_code 6 = .ok (.getfield 71, 3) := by decide +kernel
theorem d_Book_sortOf_9 : decode prog_2_method_12_code 9 = .ok (.isub, 1) := by decide +kernel
theorem d_Book_sortOf_10 : decode prog_2_method_12_code 10 = .ok (.iconst 1, 1) := by decide +kernel
theorem d_Book_sortOf_11 : decode prog_2_method_12_code 11 = .ok (.isub, 1) := by decide +kernel
theorem d_Book_sortOf_12 : decode prog_2_method_12_code 12 = .ok (.bipush 40, 2) := by decide +kernel
theorem d_Book_sortOf_14 : decode prog_2_method_12_code 14 = .ok (.invokestatic 116, 3) := by decide +kernel
theorem d_Book_sortOf_17 : decode prog_2_method_12_code 17 = .ok (.istore_n 2, 1) := by decide +kernel
theorem d_Book_sortOf_18 : decode prog_2_method_12_code 18 = .ok (.aload_n 0, 1) := by decide +kernel
theorem d_Book_sortOf_19 : decode prog_2_method_12_code 19 = .ok (.iload_n 1, 1) := by decide +kernel
theorem d_Book_sortOf_20 : decode prog_2_method_12_code 20 = .ok (.invokevirtual 93, 3) := by decide +kernel
theorem d_Book_sortOf_23 : decode prog_2_method_12_code 23 = .ok (.ifCond .eq 10, 3) := by decide +kernel
theorem d_Book_sortOf_26 : decode prog_2_method_12_code 26 = .ok (.iload_n 2, 1) := by decide +kernel
theorem d_Book_sortOf_27 : decode prog_2_method_12_code 27 = .ok (.bipush 40, 2) := by decide +kernel
theorem d_Book_sortOf_29 : decode prog_2_method_12_code 29 = .ok (.iadd, 1) := by decide +kernel
theorem d_Book_sortOf_30 : decode prog_2_method_12_code 30 = .ok (.goto 4, 3) := by decide +kernel
theorem d_Book_sortOf_33 : decode prog_2_method_12_code 33 = .ok (.iload_n 2, 1) := by decide +kernel
theorem d_Book_sortOf_34 : decode prog_2_method_12_code 34 = .ok (.ireturn, 1) := by decide +kernel
theorem mb_Book_isLeap : MBv R_Book y_Book_isLeap prog_2_method_6_code 2 (some .boolean) 1 := ⟨mT3 59 (by decide +kernel) (by decide +kernel), mT3 60 (by decide +kernel) (by decide +kernel), mT1 4 (by decide +kernel) (by decide +kernel), mT3 61 (by decide +kernel) (by decide +kernel), by decide, rfl, by decide +kernel, by decide +kernel, by decide +kernel⟩
theorem mb_Book_paschOf : MBv R_Book y_Book_paschOf prog_2_method_11_code 3 (some .int) 1 := ⟨mT3 41 (by decide +kernel) (by decide +kernel), mT3 42 (by decide +kernel) (by decide +kernel), mT1 4 (by decide +kernel) (by decide +kernel), mT3 43 (by decide +kernel) (by decide +kernel), by decide, rfl, by decide +kernel, by decide +kernel, by decide +kernel⟩
theorem mb_JM_floorMod : MBs y_JM_floorMod prog_26_method_50_code 3 (some .int) 2 := ⟨mT3 56 (by decide +kernel) (by decide +kernel), mT1 15 (by decide +kernel) (by decide +kernel), mT3 57 (by decide +kernel) (by decide +kernel), by decide, by decide +kernel, by decide +kernel, by decide +kernel⟩
theorem lk_Book_113 : Cond.methodLink "FeastBook$Book" 113 y_Book_paschOf ∈ TT := mT3 40 (by decide +kernel) (by decide +kernel)
theorem lk_Book_116 : Cond.methodLink "FeastBook$Book" 116 y_JM_floorMod ∈ TT := mT3 55 (by decide +kernel) (by decide +kernel)
theorem lk_Book_93 : Cond.methodLink "FeastBook$Book" 93 y_Book_isLeap ∈ TT := mT3 58 (by decide +kernel) (by decide +kernel)
set_option maxHeartbeats 4000000 in
set_option maxRecDepth 100000 in
theorem c_Book_sortOf {l : Launch} {D : va_G} {ad : Nat → Nat} {cA : Nat → ClassId} {sd sv : Nat → Nat} {h : Hp} {B : Nat} {a1 : Int} {out : Int} (hI : Inj97 ad) (hB : isBk B) (hM : M_Book_sortOf h B a1 = some out) : Met l y_Book_sortOf (.code y_Book_sortOf prog_2_method_12_code 3 (some .int) :: TT) (rmD 3) (PC D ad cA sd sv h [.ref (ad B), .int (iZ a1)]) (QR out) 0 0 (fun _ => False) := by
  unfold M_Book_sortOf at hM
  refine entM (by decide +kernel) hI (Nat.le_of_ble_eq_true rfl) ?_
  intro p e s m args below meth c C hr hlk hP ls hl
  have C : Cx p s m args c prog_2_method_12_code 3 "FeastBook$Book" D ad cA sd sv (FA ad) := C
  have hl : lv_has ls 3 [(0, .ref (ad B)), (1, .int (iZ a1))] := hl
  refine m_aload_n C hl 0 d_Book_sortOf_0 rfl rfl ?_
  refine m_iload_n C hl 1 d_Book_sortOf_1 rfl rfl ?_
  obtain ⟨x2, e1, hM⟩ := bnd_some hM
  refine aftR (runV C hP va_S.rf kc_Book (shB_0 hB) (ltB0 hB) (c_Book_paschOf hI hB e1) lk_Book_113 mb_Book_paschOf rfl ⟨Nat.le_of_ble_eq_true rfl, Nat.le_of_ble_eq_true rfl⟩ ⟨Nat.zero_le _, Nat.zero_le _⟩ (Nat.le_of_ble_eq_true rfl) d_Book_sortOf_2 hl.1 (rest := []) rfl) ?_
  refine m_aload_n C hl 0 d_Book_sortOf_5 rfl rfl ?_
  refine m_geti C hP kc_Book (shB_0 hB) (ltB0 hB) 7 rfl (by decide) fk_Book_71 d_Book_sortOf_6 ?_
  refine m_isub C d_Book_sortOf_9 ?_
  refine m_iconst C d_Book_sortOf_10 ?_
  refine m_isub C d_Book_sortOf_11 ?_
  refine m_bipush C d_Book_sortOf_12 (by decide) ?_
  obtain ⟨x4, e3, hM⟩ := bnd_some hM
  refine aftR (runS C hP va_S.rf (c_JM_floorMod hI e3) lk_Book_116 mb_JM_floorMod rfl ⟨Nat.le_of_ble_eq_true rfl, Nat.le_of_ble_eq_true rfl⟩ ⟨Nat.zero_le _, Nat.zero_le _⟩ (Nat.le_of_ble_eq_true rfl) d_Book_sortOf_14 hl.1 (rest := []) rfl) ?_
  refine m_istore_n C hl [(2, .int (iZ x4)), (0, .ref (ad B)), (1, .int (iZ a1))] d_Book_sortOf_17 rfl (by decide) rfl (fun ls hl => ?_)
  refine m_aload_n C hl 1 d_Book_sortOf_18 rfl rfl ?_
  refine m_iload_n C hl 2 d_Book_sortOf_19 rfl rfl ?_
  obtain ⟨x6, e5, hM⟩ := bnd_some hM
  refine aftR (runV C hP va_S.rf kc_Book (shB_0 hB) (ltB0 hB) (c_Book_isLeap hI hB e5) lk_Book_93 mb_Book_isLeap rfl ⟨Nat.le_of_ble_eq_true rfl, Nat.le_of_ble_eq_true rfl⟩ ⟨Nat.zero_le _, Nat.zero_le _⟩ (Nat.le_of_ble_eq_true rfl) d_Book_sortOf_20 hl.1 (rest := []) rfl) ?_
  refine m_if_eq C hM 33 d_Book_sortOf_23 (by decide) (fun hM => ?_) (fun hM => ?_)
  · refine m_iload_n C hl 0 d_Book_sortOf_33 rfl rfl ?_
    exact m_iretR C hr hlk hM d_Book_sortOf_34
  · refine m_iload_n C hl 0 d_Book_sortOf_26 rfl rfl ?_
    refine m_bipush C d_Book_sortOf_27 (by decide) ?_
    refine m_iadd C d_Book_sortOf_29 ?_
    refine m_goto C 34 d_Book_sortOf_30 (by decide) ?_
    exact m_iretR C hr hlk hM d_Book_sortOf_34
def y_Book_clear : MethodName := ⟨"FeastBook$Book", "clear", "()V"⟩
theorem d_Book_clear_0 : decode prog_2_method_2_code 0 = .ok (.aload_n 0, 1) := by decide +kernel
theorem d_Book_clear_1 : decode prog_2_method_2_code 1 = .ok (.iconst 0, 1) := by decide +kernel
theorem d_Book_clear_2 : decode prog_2_method_2_code 2 = .ok (.putfield 39, 3) := by decide +kernel
theorem d_Book_clear_5 : decode prog_2_method_2_code 5 = .ok (.aload_n 0, 1) := by decide +kernel
theorem d_Book_clear_6 : decode prog_2_method_2_code 6 = .ok (.iconst 0, 1) := by decide +kernel
theorem d_Book_clear_7 : decode prog_2_method_2_code 7 = .ok (.putfield 43, 3) := by decide +kernel
theorem d_Book_clear_10 : decode prog_2_method_2_code 10 = .ok (.aload_n 0, 1) := by decide +kernel
theorem d_Book_clear_11 : decode prog_2_method_2_code 11 = .ok (.iconst 0, 1) := by decide +kernel
theorem d_Book_clear_12 : decode prog_2_method_2_code 12 = .ok (.putfield 46, 3) := by decide +kernel
theorem d_Book_clear_15 : decode prog_2_method_2_code 15 = .ok (.aload_n 0, 1) := by decide +kernel
theorem d_Book_clear_16 : decode prog_2_method_2_code 16 = .ok (.iconst 0, 1) := by decide +kernel
theorem d_Book_clear_17 : decode prog_2_method_2_code 17 = .ok (.putfield 49, 3) := by decide +kernel
theorem d_Book_clear_20 : decode prog_2_method_2_code 20 = .ok (.aload_n 0, 1) := by decide +kernel
theorem d_Book_clear_21 : decode prog_2_method_2_code 21 = .ok (.iconst 0, 1) := by decide +kernel
theorem d_Book_clear_22 : decode prog_2_method_2_code 22 = .ok (.putfield 52, 3) := by decide +kernel
theorem d_Book_clear_25 : decode prog_2_method_2_code 25 = .ok (.aload_n 0, 1) := by decide +kernel
theorem d_Book_clear_26 : decode prog_2_method_2_code 26 = .ok (.iconst 0, 1) := by decide +kernel
theorem d_Book_clear_27 : decode prog_2_method_2_code 27 = .ok (.putfield 55, 3) := by decide +kernel
theorem d_Book_clear_30 : decode prog_2_method_2_code 30 = .ok (.aload_n 0, 1) := by decide +kernel
theorem d_Book_clear_31 : decode prog_2_method_2_code 31 = .ok (.bipush 20, 2) := by decide +kernel
theorem d_Book_clear_33 : decode prog_2_method_2_code 33 = .ok (.putfield 9, 3) := by decide +kernel
theorem d_Book_clear_36 : decode prog_2_method_2_code 36 = .ok (.aload_n 0, 1) := by decide +kernel
theorem d_Book_clear_37 : decode prog_2_method_2_code 37 = .ok (.iconst 0, 1) := by decide +kernel
theorem d_Book_clear_38 : decode prog_2_method_2_code 38 = .ok (.putfield 58, 3) := by decide +kernel
theorem d_Book_clear_41 : decode prog_2_method_2_code 41 = .ok (.aload_n 0, 1) := by decide +kernel
theorem d_Book_clear_42 : decode prog_2_method_2_code 42 = .ok (.iconst 5, 1) := by decide +kernel
theorem d_Book_clear_43 : decode prog_2_method_2_code 43 = .ok (.putfield 15, 3) := by decide +kernel
theorem d_Book_clear_46 : decode prog_2_method_2_code 46 = .ok (.aload_n 0, 1) := by decide +kernel
theorem d_Book_clear_47 : decode prog_2_method_2_code 47 = .ok (.iconst 0, 1) := by decide +kernel
theorem d_Book_clear_48 : decode prog_2_method_2_code 48 = .ok (.putfield 61, 3) := by decide +kernel
theorem d_Book_clear_51 : decode prog_2_method_2_code 51 = .ok (.aload_n 0, 1) := by decide +kernel
theorem d_Book_clear_52 : decode prog_2_method_2_code 52 = .ok (.getfield 25, 3) := by decide +kernel
theorem d_Book_clear_55 : decode prog_2_method_2_code 55 = .ok (.iconst 0, 1) := by decide +kernel
theorem d_Book_clear_56 : decode prog_2_method_2_code 56 = .ok (.putfield 64, 3) := by decide +kernel
theorem d_Book_clear_59 : decode prog_2_method_2_code 59 = .ok (.aload_n 0, 1) := by decide +kernel
theorem d_Book_clear_60 : decode prog_2_method_2_code 60 = .ok (.getfield 29, 3) := by decide +kernel
theorem d_Book_clear_63 : decode prog_2_method_2_code 63 = .ok (.iconst 0, 1) := by decide +kernel
theorem d_Book_clear_64 : decode prog_2_method_2_code 64 = .ok (.putfield 64, 3) := by decide +kernel
theorem d_Book_clear_67 : decode prog_2_method_2_code 67 = .ok (.aload_n 0, 1) := by decide +kernel
theorem d_Book_clear_68 : decode prog_2_method_2_code 68 = .ok (.getfield 35, 3) := by decide +kernel
theorem d_Book_clear_71 : decode prog_2_method_2_code 71 = .ok (.iconst 0, 1) := by decide +kernel
theorem d_Book_clear_72 : decode prog_2_method_2_code 72 = .ok (.putfield 67, 3) := by decide +kernel
theorem d_Book_clear_75 : decode prog_2_method_2_code 75 = .ok (.return_, 1) := by decide +kernel
theorem fk_Book_64 : Cond.fieldLink "FeastBook$Book" 64 (T_Spans 0).1 (T_Spans 0).2.1 (T_Spans 0).2.2.1 ∈ TT := mT1 76 (by decide +kernel) (by decide +kernel)
theorem fk_Book_67 : Cond.fieldLink "FeastBook$Book" 67 (T_Feasts 0).1 (T_Feasts 0).2.1 (T_Feasts 0).2.2.1 ∈ TT := mT1 100 (by decide +kernel) (by decide +kernel)
set_option maxHeartbeats 4000000 in
set_option maxRecDepth 100000 in
theorem c_Book_clear {l : Launch} {D : va_G} {ad : Nat → Nat} {cA : Nat → ClassId} {sd sv : Nat → Nat} {h : Hp} {B : Nat} {out : Hp} (hI : Inj97 ad) (hB : isBk B) (hM : M_Book_clear h B = some out) : Met l y_Book_clear (.code y_Book_clear prog_2_method_2_code 1 none :: TT) (rmD 0) (PC D ad cA sd sv h [.ref (ad B)]) (QV D ad cA out) 0 0 (FA ad) := by
  unfold M_Book_clear at hM
  refine entM (by decide +kernel) hI (Nat.le_of_ble_eq_true rfl) ?_
  intro p e s m args below meth c C hr hlk hP ls hl
  have C : Cx p s m args c prog_2_method_2_code 1 "FeastBook$Book" D ad cA sd sv (FA ad) := C
  have hl : lv_has ls 1 [(0, .ref (ad B))] := hl
  have w : Wd s D ad cA (FA ad) h s.heap [] := ⟨hP, va_S.rf⟩
  refine m_aload_n C hl 0 d_Book_clear_0 rfl rfl ?_
  refine m_iconst C d_Book_clear_1 ?_
  refine m_putz C w kc_Book (shB_0 hB) (ltB0 hB) 0 hM rfl (by decide) rfl rfl fk_Book_39 d_Book_clear_2 (fun h1 H locs w hM => ?_)
  refine m_aload_n C hl 0 d_Book_clear_5 rfl rfl ?_
  refine m_iconst C d_Book_clear_6 ?_
  refine m_puti C w kc_Book (shB_0 hB) (ltB0 hB) 1 hM rfl (by decide) rfl rfl fk_Book_43 d_Book_clear_7 (fun h2 H locs w hM => ?_)
  refine m_aload_n C hl 0 d_Book_clear_10 rfl rfl ?_
  refine m_iconst C d_Book_clear_11 ?_
  refine m_puti C w kc_Book (shB_0 hB) (ltB0 hB) 2 hM rfl (by decide) rfl rfl fk_Book_46 d_Book_clear_12 (fun h3 H locs w hM => ?_)
  refine m_aload_n C hl 0 d_Book_clear_15 rfl rfl ?_
  refine m_iconst C d_Book_clear_16 ?_
  refine m_puti C w kc_Book (shB_0 hB) (ltB0 hB) 3 hM rfl (by decide) rfl rfl fk_Book_49 d_Book_clear_17 (fun h4 H locs w hM => ?_)
  refine m_aload_n C hl 0 d_Book_clear_20 rfl rfl ?_
  refine m_iconst C d_Book_clear_21 ?_
  refine m_puti C w kc_Book (shB_0 hB) (ltB0 hB) 4 hM rfl (by decide) rfl rfl fk_Book_52 d_Book_clear_22 (fun h5 H locs w hM => ?_)
  refine m_aload_n C hl 0 d_Book_clear_25 rfl rfl ?_
  refine m_iconst C d_Book_clear_26 ?_
  refine m_puti C w kc_Book (shB_0 hB) (ltB0 hB) 5 hM rfl (by decide) rfl rfl fk_Book_55 d_Book_clear_27 (fun h6 H locs w hM => ?_)
  refine m_aload_n C hl 0 d_Book_clear_30 rfl rfl ?_
  refine m_bipush C d_Book_clear_31 (by decide) ?_
  refine m_puti C w kc_Book (shB_0 hB) (ltB0 hB) 10 hM rfl (by decide) rfl rfl fk_Book_9 d_Book_clear_33 (fun h7 H locs w hM => ?_)
  refine m_aload_n C hl 0 d_Book_clear_36 rfl rfl ?_
  refine m_iconst C d_Book_clear_37 ?_
  refine m_puti C w kc_Book (shB_0 hB) (ltB0 hB) 11 hM rfl (by decide) rfl rfl fk_Book_58 d_Book_clear_38 (fun h8 H locs w hM => ?_)
  refine m_aload_n C hl 0 d_Book_clear_41 rfl rfl ?_
  refine m_iconst C d_Book_clear_42 ?_
  refine m_puti C w kc_Book (shB_0 hB) (ltB0 hB) 12 hM rfl (by decide) rfl rfl fk_Book_15 d_Book_clear_43 (fun h9 H locs w hM => ?_)
  refine m_aload_n C hl 0 d_Book_clear_46 rfl rfl ?_
  refine m_iconst C d_Book_clear_47 ?_
  refine m_puti C w kc_Book (shB_0 hB) (ltB0 hB) 13 hM rfl (by decide) rfl rfl fk_Book_61 d_Book_clear_48 (fun h10 H locs w hM => ?_)
  refine m_aload_n C hl 0 d_Book_clear_51 rfl rfl ?_
  refine m_getr C w.1 kc_Book (shB_0 hB) (ltB0 hB) 15 (B + 2) rfl (by decide) fk_Book_25 d_Book_clear_52 ?_
  refine m_iconst C d_Book_clear_55 ?_
  refine m_puti C w kc_Spans (shB_2 hB) (ltB hB 2 (by decide)) 0 hM rfl (by decide) rfl rfl fk_Book_64 d_Book_clear_56 (fun h11 H locs w hM => ?_)
  refine m_aload_n C hl 0 d_Book_clear_59 rfl rfl ?_
  refine m_getr C w.1 kc_Book (shB_0 hB) (ltB0 hB) 16 (B + 6) rfl (by decide) fk_Book_29 d_Book_clear_60 ?_
  refine m_iconst C d_Book_clear_63 ?_
  refine m_puti C w kc_Spans (shB_6 hB) (ltB hB 6 (by decide)) 0 hM rfl (by decide) rfl rfl fk_Book_64 d_Book_clear_64 (fun h12 H locs w hM => ?_)
  refine m_aload_n C hl 0 d_Book_clear_67 rfl rfl ?_
  refine m_getr C w.1 kc_Book (shB_0 hB) (ltB0 hB) 17 (B + 10) rfl (by decide) fk_Book_35 d_Book_clear_68 ?_
  refine m_iconst C d_Book_clear_71 ?_
  refine m_puti C w kc_Feasts (shB_10 hB) (ltB hB 10 (by decide)) 0 hM rfl (by decide) rfl rfl fk_Book_67 d_Book_clear_72 (fun h13 H locs w hM => ?_)
  exact m_vretW C w hr hlk hM d_Book_clear_75
def y_Book_addMonth : MethodName := ⟨"FeastBook$Book", "addMonth", "(I)V"⟩
theorem d_Book_addMonth_0 : decode prog_2_method_4_code 0 = .ok (.aload_n 0, 1) := by decide +kernel
theorem d_Book_addMonth_1 : decode prog_2_method_4_code 1 = .ok (.getfield 46, 3) := by decide +kernel
theorem d_Book_addMonth_4 : decode prog_2_method_4_code 4 = .ok (.bipush 8, 2) := by decide +kernel
theorem d_Book_addMonth_6 : decode prog_2_method_4_code 6 = .ok (.if_icmp .ge 33, 3) := by decide +kernel
theorem d_Book_addMonth_9 : decode prog_2_method_4_code 9 = .ok (.aload_n 0, 1) := by decide +kernel
theorem d_Book_addMonth_10 : decode prog_2_method_4_code 10 = .ok (.getfield 18, 3) := by decide +kernel
theorem d_Book_addMonth_13 : decode prog_2_method_4_code 13 = .ok (.aload_n 0, 1) := by decide +kernel
theorem d_Book_addMonth_14 : decode prog_2_method_4_code 14 = .ok (.getfield 46, 3) := by decide +kernel
theorem d_Book_addMonth_17 : decode prog_2_method_4_code 17 = .ok (.iload_n 1, 1) := by decide +kernel
theorem d_Book_addMonth_18 : decode prog_2_method_4_code 18 = .ok (.iastore, 1) := by decide +kernel
theorem d_Book_addMonth_19 : decode prog_2_method_4_code 19 = .ok (.aload_n 0, 1) := by decide +kernel
theorem d_Book_addMonth_20 : decode prog_2_method_4_code 20 = .ok (.dup, 1) := by decide +kernel
theorem d_Book_addMonth_21 : decode prog_2_method_4_code 21 = .ok (.getfield 46, 3) := by decide +kernel
theorem d_Book_addMonth_24 : decode prog_2_method_4_code 24 = .ok (.iconst 1, 1) := by decide +kernel
theorem d_Book_addMonth_25 : decode prog_2_method_4_code 25 = .ok (.iadd, 1) := by decide +kernel
theorem d_Book_addMonth_26 : decode prog_2_method_4_code 26 = .ok (.putfield 46, 3) := by decide +kernel
theorem d_Book_addMonth_29 : decode prog_2_method_4_code 29 = .ok (.aload_n 0, 1) := by decide +kernel
theorem d_Book_addMonth_30 : decode prog_2_method_4_code 30 = .ok (.dup, 1) := by decide +kernel
theorem d_Book_addMonth_31 : decode prog_2_method_4_code 31 = .ok (.getfield 49, 3) := by decide +kernel
theorem d_Book_addMonth_34 : decode prog_2_method_4_code 34 = .ok (.iload_n 1, 1) := by decide +kernel
theorem d_Book_addMonth_35 : decode prog_2_method_4_code 35 = .ok (.iadd, 1) := by decide +kernel
theorem d_Book_addMonth_36 : decode prog_2_method_4_code 36 = .ok (.putfield 49, 3) := by decide +kernel
theorem d_Book_addMonth_39 : decode prog_2_method_4_code 39 = .ok (.return_, 1) := by decide +kernel
set_option maxHeartbeats 4000000 in
set_option maxRecDepth 100000 in
theorem c_Book_addMonth {l : Launch} {D : va_G} {ad : Nat → Nat} {cA : Nat → ClassId} {sd sv : Nat → Nat} {h : Hp} {B : Nat} {a1 : Int} {out : Hp} (hI : Inj97 ad) (hB : isBk B) (hM : M_Book_addMonth h B a1 = some out) : Met l y_Book_addMonth (.code y_Book_addMonth prog_2_method_4_code 2 none :: TT) (rmD 0) (PC D ad cA sd sv h [.ref (ad B), .int (iZ a1)]) (QV D ad cA out) 0 0 (FA ad) := by
  unfold M_Book_addMonth at hM
  refine entM (by decide +kernel) hI (Nat.le_of_ble_eq_true rfl) ?_
  intro p e s m args below meth c C hr hlk hP ls hl
  have C : Cx p s m args c prog_2_method_4_code 2 "FeastBook$Book" D ad cA sd sv (FA ad) := C
  have hl : lv_has ls 2 [(0, .ref (ad B)), (1, .int (iZ a1))] := hl
  have w : Wd s D ad cA (FA ad) h s.heap [] := ⟨hP, va_S.rf⟩
  refine m_aload_n C hl 0 d_Book_addMonth_0 rfl rfl ?_
  refine m_geti C w.1 kc_Book (shB_0 hB) (ltB0 hB) 2 rfl (by decide) fk_Book_46 d_Book_addMonth_1 ?_
  refine m_bipush C d_Book_addMonth_4 (by decide) ?_
  refine m_icmp_ge C hM 39 d_Book_addMonth_6 (by decide) (fun hM => ?_) (fun hM => ?_)
  · exact m_vretW C w hr hlk hM d_Book_addMonth_39
  · refine m_aload_n C hl 0 d_Book_addMonth_9 rfl rfl ?_
    refine m_getr C w.1 kc_Book (shB_0 hB) (ltB0 hB) 14 (B + 1) rfl (by decide) fk_Book_18 d_Book_addMonth_10 ?_
    refine m_aload_n C hl 0 d_Book_addMonth_13 rfl rfl ?_
    refine m_geti C w.1 kc_Book (shB_0 hB) (ltB0 hB) 2 rfl (by decide) fk_Book_46 d_Book_addMonth_14 ?_
    refine m_iload_n C hl 1 d_Book_addMonth_17 rfl rfl ?_
    refine m_iast C w (shB_1 hB) (ltB hB 1 (by decide)) (Nat.le_of_ble_eq_true rfl) hM d_Book_addMonth_18 (fun h1 H locs w hM => ?_)
    refine m_aload_n C hl 0 d_Book_addMonth_19 rfl rfl ?_
    refine m_dup C d_Book_addMonth_20 rfl ?_
    refine m_geti C w.1 kc_Book (shB_0 hB) (ltB0 hB) 2 rfl (by decide) fk_Book_46 d_Book_addMonth_21 ?_
    refine m_iconst C d_Book_addMonth_24 ?_
    refine m_iadd C d_Book_addMonth_25 ?_
    refine m_puti C w kc_Book (shB_0 hB) (ltB0 hB) 2 hM rfl (by decide) rfl rfl fk_Book_46 d_Book_addMonth_26 (fun h2 H locs w hM => ?_)
    refine m_aload_n C hl 0 d_Book_addMonth_29 rfl rfl ?_
    refine m_dup C d_Book_addMonth_30 rfl ?_
    refine m_geti C w.1 kc_Book (shB_0 hB) (ltB0 hB) 3 rfl (by decide) fk_Book_49 d_Book_addMonth_31 ?_
    refine m_iload_n C hl 1 d_Book_addMonth_34 rfl rfl ?_
    refine m_iadd C d_Book_addMonth_35 ?_
    refine m_puti C w kc_Book (shB_0 hB) (ltB0 hB) 3 hM rfl (by decide) rfl rfl fk_Book_49 d_Book_addMonth_36 (fun h3 H locs w hM => ?_)
    exact m_vretW C w hr hlk hM d_Book_addMonth_39
def y_Book_daysOf : MethodName := ⟨"FeastBook$Book", "daysOf", "(I)I"⟩
theorem d_Book_daysOf_0 : decode prog_2_method_7_code 0 = .ok (.aload_n 0, 1) := by decide +kernel
theorem d_Book_daysOf_1 : decode prog_2_method_7_code 1 = .ok (.iload_n 1, 1) := by decide +kernel
theorem d_Book_daysOf_2 : decode prog_2_method_7_code 2 = .ok (.invokevirtual 93, 3) := by decide +kernel
theorem d_Book_daysOf_5 : decode prog_2_method_7_code 5 = .ok (.ifCond .eq 12, 3) := by decide +kernel
theorem d_Book_daysOf_8 : decode prog_2_method_7_code 8 = .ok (.aload_n 0, 1) := by decide +kernel
theorem d_Book_daysOf_9 : decode prog_2_method_7_code 9 = .ok (.getfield 49, 3) := by decide +kernel
theorem d_Book_daysOf_12 : decode prog_2_method_7_code 12 = .ok (.iconst 1, 1) := by decide +kernel
theorem d_Book_daysOf_13 : decode prog_2_method_7_code 13 = .ok (.iadd, 1) := by decide +kernel
theorem d_Book_daysOf_14 : decode prog_2_method_7_code 14 = .ok (.goto 7, 3) := by decide +kernel
theorem d_Book_daysOf_17 : decode prog_2_method_7_code 17 = .ok (.aload_n 0, 1) := by decide +kernel
theorem d_Book_daysOf_18 : decode prog_2_method_7_code 18 = .ok (.getfield 49, 3) := by decide +kernel
theorem d_Book_daysOf_21 : decode prog_2_method_7_code 21 = .ok (.ireturn, 1) := by decide +kernel
set_option maxHeartbeats 4000000 in
set_option maxRecDepth 100000 in
theorem c_Book_daysOf {l : Launch} {D : va_G} {ad : Nat → Nat} {cA : Nat → ClassId} {sd sv : Nat → Nat} {h : Hp} {B : Nat} {a1 : Int} {out : Int} (hI : Inj97 ad) (hB : isBk B) (hM : M_Book_daysOf h B a1 = some out) : Met l y_Book_daysOf (.code y_Book_daysOf prog_2_method_7_code 2 (some .int) :: TT) (rmD 1) (PC D ad cA sd sv h [.ref (ad B), .int (iZ a1)]) (QR out) 0 0 (fun _ => False) := by
  unfold M_Book_daysOf at hM
  refine entM (by decide +kernel) hI (Nat.le_of_ble_eq_true rfl) ?_
  intro p e s m args below meth c C hr hlk hP ls hl
  have C : Cx p s m args c prog_2_method_7_code 2 "FeastBook$Book" D ad cA sd sv (FA ad) := C
  have hl : lv_has ls 2 [(0, .ref (ad B)), (1, .int (iZ a1))] := hl
  refine m_aload_n C hl 0 d_Book_daysOf_0 rfl rfl ?_
  refine m_iload_n C hl 1 d_Book_daysOf_1 rfl rfl ?_
  obtain ⟨x2, e1, hM⟩ := bnd_some hM
  refine aftR (runV C hP va_S.rf kc_Book (shB_0 hB) (ltB0 hB) (c_Book_isLeap hI hB e1) lk_Book_93 mb_Book_isLeap rfl ⟨Nat.le_of_ble_eq_true rfl, Nat.le_of_ble_eq_true rfl⟩ ⟨Nat.zero_le _, Nat.zero_le _⟩ (Nat.le_of_ble_eq_true rfl) d_Book_daysOf_2 hl.1 (rest := []) rfl) ?_
  refine m_if_eq C hM 17 d_Book_daysOf_5 (by decide) (fun hM => ?_) (fun hM => ?_)
  · refine m_aload_n C hl 0 d_Book_daysOf_17 rfl rfl ?_
    refine m_geti C hP kc_Book (shB_0 hB) (ltB0 hB) 3 rfl (by decide) fk_Book_49 d_Book_daysOf_18 ?_
    exact m_iretR C hr hlk hM d_Book_daysOf_21
  · refine m_aload_n C hl 0 d_Book_daysOf_8 rfl rfl ?_
    refine m_geti C hP kc_Book (shB_0 hB) (ltB0 hB) 3 rfl (by decide) fk_Book_49 d_Book_daysOf_9 ?_
    refine m_iconst C d_Book_daysOf_12 ?_
    refine m_iadd C d_Book_daysOf_13 ?_
    refine m_goto C 21 d_Book_daysOf_14 (by decide) ?_
    exact m_iretR C hr hlk hM d_Book_daysOf_21
def y_Book_hasLeap : MethodName := ⟨"FeastBook$Book", "hasLeap", "(I)Z"⟩
theorem d_Book_hasLeap_0 : decode prog_2_method_13_code 0 = .ok (.iload_n 1, 1) := by decide +kernel
theorem d_Book_hasLeap_1 : decode prog_2_method_13_code 1 = .ok (.bipush 40, 2) := by decide +kernel
theorem d_Book_hasLeap_3 : decode prog_2_method_13_code 3 = .ok (.if_icmp .lt 7, 3) := by decide +kernel
theorem d_Book_hasLeap_6 : decode prog_2_method_13_code 6 = .ok (.iconst 1, 1) := by decide +kernel
theorem d_Book_hasLeap_7 : decode prog_2_method_13_code 7 = .ok (.goto 4, 3) := by decide +kernel
theorem d_Book_hasLeap_10 : decode prog_2_method_13_code 10 = .ok (.iconst 0, 1) := by decide +kernel
theorem d_Book_hasLeap_11 : decode prog_2_method_13_code 11 = .ok (.ireturn, 1) := by decide +kernel
set_option maxHeartbeats 4000000 in
set_option maxRecDepth 100000 in
theorem c_Book_hasLeap {l : Launch} {D : va_G} {ad : Nat → Nat} {cA : Nat → ClassId} {sd sv : Nat → Nat} {h : Hp} {B : Nat} {a1 : Int} {out : Int} (hI : Inj97 ad) (hB : isBk B) (hM : M_Book_hasLeap B a1 = some out) : Met l y_Book_hasLeap (.code y_Book_hasLeap prog_2_method_13_code 2 (some .boolean) :: TT) (rmD 0) (PC D ad cA sd sv h [.ref (ad B), .int (iZ a1)]) (QR out) 0 0 (fun _ => False) := by
  unfold M_Book_hasLeap at hM
  refine entM (by decide +kernel) hI (Nat.le_of_ble_eq_true rfl) ?_
  intro p e s m args below meth c C hr hlk hP ls hl
  have C : Cx p s m args c prog_2_method_13_code 2 "FeastBook$Book" D ad cA sd sv (FA ad) := C
  have hl : lv_has ls 2 [(0, .ref (ad B)), (1, .int (iZ a1))] := hl
  refine m_iload_n C hl 1 d_Book_hasLeap_0 rfl rfl ?_
  refine m_bipush C d_Book_hasLeap_1 (by decide) ?_
  refine m_icmp_lt C hM 10 d_Book_hasLeap_3 (by decide) (fun hM => ?_) (fun hM => ?_)
  · refine m_iconst C d_Book_hasLeap_10 ?_
    exact m_zretR C hr hlk hM d_Book_hasLeap_11
  · refine m_iconst C d_Book_hasLeap_6 ?_
    refine m_goto C 11 d_Book_hasLeap_7 (by decide) ?_
    exact m_zretR C hr hlk hM d_Book_hasLeap_11
def y_Book_daysIn : MethodName := ⟨"FeastBook$Book", "daysIn", "(I)I"⟩
theorem d_Book_daysIn_0 : decode prog_2_method_14_code 0 = .ok (.aload_n 0, 1) := by decide +kernel
theorem d_Book_daysIn_1 : decode prog_2_method_14_code 1 = .ok (.iload_n 1, 1) := by decide +kernel
theorem d_Book_daysIn_2 : decode prog_2_method_14_code 2 = .ok (.invokevirtual 121, 3) := by decide +kernel
theorem d_Book_daysIn_5 : decode prog_2_method_14_code 5 = .ok (.ifCond .eq 12, 3) := by decide +kernel
theorem d_Book_daysIn_8 : decode prog_2_method_14_code 8 = .ok (.aload_n 0, 1) := by decide +kernel
theorem d_Book_daysIn_9 : decode prog_2_method_14_code 9 = .ok (.getfield 49, 3) := by decide +kernel
theorem d_Book_daysIn_12 : decode prog_2_method_14_code 12 = .ok (.iconst 1, 1) := by decide +kernel
theorem d_Book_daysIn_13 : decode prog_2_method_14_code 13 = .ok (.iadd, 1) := by decide +kernel
theorem d_Book_daysIn_14 : decode prog_2_method_14_code 14 = .ok (.goto 7, 3) := by decide +kernel
theorem d_Book_daysIn_17 : decode prog_2_method_14_code 17 = .ok (.aload_n 0, 1) := by decide +kernel
theorem d_Book_daysIn_18 : decode prog_2_method_14_code 18 = .ok (.getfield 49, 3) := by decide +kernel
theorem d_Book_daysIn_21 : decode prog_2_method_14_code 21 = .ok (.ireturn, 1) := by decide +kernel
theorem mb_Book_hasLeap : MBv R_Book y_Book_hasLeap prog_2_method_13_code 2 (some .boolean) 1 := ⟨mT4 172 (by decide +kernel) (by decide +kernel), mT4 173 (by decide +kernel) (by decide +kernel), mT1 4 (by decide +kernel) (by decide +kernel), mT4 174 (by decide +kernel) (by decide +kernel), by decide, rfl, by decide +kernel, by decide +kernel, by decide +kernel⟩
theorem lk_Book_121 : Cond.methodLink "FeastBook$Book" 121 y_Book_hasLeap ∈ TT := mT4 171 (by decide +kernel) (by decide +kernel)
set_option maxHeartbeats 4000000 in
set_option maxRecDepth 100000 in
theorem c_Book_daysIn {l : Launch} {D : va_G} {ad : Nat → Nat} {cA : Nat → ClassId} {sd sv : Nat → Nat} {h : Hp} {B : Nat} {a1 : Int} {out : Int} (hI : Inj97 ad) (hB : isBk B) (hM : M_Book_daysIn h B a1 = some out) : Met l y_Book_daysIn (.code y_Book_daysIn prog_2_method_14_code 2 (some .int) :: TT) (rmD 1) (PC D ad cA sd sv h [.ref (ad B), .int (iZ a1)]) (QR out) 0 0 (fun _ => False) := by
  unfold M_Book_daysIn at hM
  refine entM (by decide +kernel) hI (Nat.le_of_ble_eq_true rfl) ?_
  intro p e s m args below meth c C hr hlk hP ls hl
  have C : Cx p s m args c prog_2_method_14_code 2 "FeastBook$Book" D ad cA sd sv (FA ad) := C
  have hl : lv_has ls 2 [(0, .ref (ad B)), (1, .int (iZ a1))] := hl
  refine m_aload_n C hl 0 d_Book_daysIn_0 rfl rfl ?_
  refine m_iload_n C hl 1 d_Book_daysIn_1 rfl rfl ?_
  obtain ⟨x2, e1, hM⟩ := bnd_some hM
  refine aftR (runV C hP va_S.rf kc_Book (shB_0 hB) (ltB0 hB) (c_Book_hasLeap hI hB e1) lk_Book_121 mb_Book_hasLeap rfl ⟨Nat.le_of_ble_eq_true rfl, Nat.le_of_ble_eq_true rfl⟩ ⟨Nat.zero_le _, Nat.zero_le _⟩ (Nat.le_of_ble_eq_true rfl) d_Book_daysIn_2 hl.1 (rest := []) rfl) ?_
  refine m_if_eq C hM 17 d_Book_daysIn_5 (by decide) (fun hM => ?_) (fun hM => ?_)
  · refine m_aload_n C hl 0 d_Book_daysIn_17 rfl rfl ?_
    refine m_geti C hP kc_Book (shB_0 hB) (ltB0 hB) 3 rfl (by decide) fk_Book_49 d_Book_daysIn_18 ?_
    exact m_iretR C hr hlk hM d_Book_daysIn_21
  · refine m_aload_n C hl 0 d_Book_daysIn_8 rfl rfl ?_
    refine m_geti C hP kc_Book (shB_0 hB) (ltB0 hB) 3 rfl (by decide) fk_Book_49 d_Book_daysIn_9 ?_
    refine m_iconst C d_Book_daysIn_12 ?_
    refine m_iadd C d_Book_daysIn_13 ?_
    refine m_goto C 21 d_Book_daysIn_14 (by decide) ?_
    exact m_iretR C hr hlk hM d_Book_daysIn_21
def y_Book_paschIn : MethodName := ⟨"FeastBook$Book", "paschIn", "(I)I"⟩
theorem d_Book_paschIn_0 : decode prog_2_method_15_code 0 = .ok (.aload_n 0, 1) := by decide +kernel
theorem d_Book_paschIn_1 : decode prog_2_method_15_code 1 = .ok (.getfield 71, 3) := by decide +kernel
theorem d_Book_paschIn_4 : decode prog_2_method_15_code 4 = .ok (.iconst 1, 1) := by decide +kernel
theorem d_Book_paschIn_5 : decode prog_2_method_15_code 5 = .ok (.iadd, 1) := by decide +kernel
theorem d_Book_paschIn_6 : decode prog_2_method_15_code 6 = .ok (.iload_n 1, 1) := by decide +kernel
theorem d_Book_paschIn_7 : decode prog_2_method_15_code 7 = .ok (.bipush 40, 2) := by decide +kernel
theorem d_Book_paschIn_9 : decode prog_2_method_15_code 9 = .ok (.irem, 1) := by decide +kernel
theorem d_Book_paschIn_10 : decode prog_2_method_15_code 10 = .ok (.iadd, 1) := by decide +kernel
theorem d_Book_paschIn_11 : decode prog_2_method_15_code 11 = .ok (.ireturn, 1) := by decide +kernel
set_option maxHeartbeats 4000000 in
set_option maxRecDepth 100000 in
theorem c_Book_paschIn {l : Launch} {D : va_G} {ad : Nat → Nat} {cA : Nat → ClassId} {sd sv : Nat → Nat} {h : Hp} {B : Nat} {a1 : Int} {out : Int} (hI : Inj97 ad) (hB : isBk B) (hM : M_Book_paschIn h B a1 = some out) : Met l y_Book_paschIn (.code y_Book_paschIn prog_2_method_15_code 2 (some .int) :: TT) (rmD 0) (PC D ad cA sd sv h [.ref (ad B), .int (iZ a1)]) (QR out) 0 0 (fun _ => False) := by
  unfold M_Book_paschIn at hM
  refine entM (by decide +kernel) hI (Nat.le_of_ble_eq_true rfl) ?_
  intro p e s m args below meth c C hr hlk hP ls hl
  have C : Cx p s m args c prog_2_method_15_code 2 "FeastBook$Book" D ad cA sd sv (FA ad) := C
  have hl : lv_has ls 2 [(0, .ref (ad B)), (1, .int (iZ a1))] := hl
  refine m_aload_n C hl 0 d_Book_paschIn_0 rfl rfl ?_
  refine m_geti C hP kc_Book (shB_0 hB) (ltB0 hB) 7 rfl (by decide) fk_Book_71 d_Book_paschIn_1 ?_
  refine m_iconst C d_Book_paschIn_4 ?_
  refine m_iadd C d_Book_paschIn_5 ?_
  refine m_iload_n C hl 1 d_Book_paschIn_6 rfl rfl ?_
  refine m_bipush C d_Book_paschIn_7 (by decide) ?_
  refine m_irem C hM d_Book_paschIn_9 (fun x1 hM => ?_)
  refine m_iadd C d_Book_paschIn_10 ?_
  exact m_iretR C hr hlk hM d_Book_paschIn_11
def y_Book_monthStart : MethodName := ⟨"FeastBook$Book", "monthStart", "(II)I"⟩
theorem d_Book_monthStart_0 : decode prog_2_method_17_code 0 = .ok (.aload_n 0, 1) := by decide +kernel
theorem d_Book_monthStart_1 : decode prog_2_method_17_code 1 = .ok (.iload_n 1, 1) := by decide +kernel
theorem d_Book_monthStart_2 : decode prog_2_method_17_code 2 = .ok (.invokevirtual 121, 3) := by decide +kernel
theorem d_Book_monthStart_5 : decode prog_2_method_17_code 5 = .ok (.ifCond .eq 15, 3) := by decide +kernel
theorem d_Book_monthStart_8 : decode prog_2_method_17_code 8 = .ok (.iload_n 2, 1) := by decide +kernel
theorem d_Book_monthStart_9 : decode prog_2_method_17_code 9 = .ok (.aload_n 0, 1) := by decide +kernel
theorem d_Book_monthStart_10 : decode prog_2_method_17_code 10 = .ok (.getfield 55, 3) := by decide +kernel
theorem d_Book_monthStart_13 : decode prog_2_method_17_code 13 = .ok (.if_icmp .le 7, 3) := by decide +kernel
theorem d_Book_monthStart_16 : decode prog_2_method_17_code 16 = .ok (.iconst 1, 1) := by decide +kernel
theorem d_Book_monthStart_17 : decode prog_2_method_17_code 17 = .ok (.goto 4, 3) := by decide +kernel
theorem d_Book_monthStart_20 : decode prog_2_method_17_code 20 = .ok (.iconst 0, 1) := by decide +kernel
theorem d_Book_monthStart_21 : decode prog_2_method_17_code 21 = .ok (.istore_n 3, 1) := by decide +kernel
theorem d_Book_monthStart_22 : decode prog_2_method_17_code 22 = .ok (.iconst 0, 1) := by decide +kernel
theorem d_Book_monthStart_23 : decode prog_2_method_17_code 23 = .ok (.istore 4, 2) := by decide +kernel
theorem d_Book_monthStart_25 : decode prog_2_method_17_code 25 = .ok (.iload 4, 2) := by decide +kernel
theorem d_Book_monthStart_27 : decode prog_2_method_17_code 27 = .ok (.iload_n 2, 1) := by decide +kernel
theorem d_Book_monthStart_28 : decode prog_2_method_17_code 28 = .ok (.if_icmp .ge 28, 3) := by decide +kernel
theorem d_Book_monthStart_31 : decode prog_2_method_17_code 31 = .ok (.iload 4, 2) := by decide +kernel
theorem d_Book_monthStart_33 : decode prog_2_method_17_code 33 = .ok (.aload_n 0, 1) := by decide +kernel
theorem d_Book_monthStart_34 : decode prog_2_method_17_code 34 = .ok (.getfield 46, 3) := by decide +kernel
theorem d_Book_monthStart_37 : decode prog_2_method_17_code 37 = .ok (.if_icmp .ge 19, 3) := by decide +kernel
theorem d_Book_monthStart_40 : decode prog_2_method_17_code 40 = .ok (.iload_n 3, 1) := by decide +kernel
theorem d_Book_monthStart_41 : decode prog_2_method_17_code 41 = .ok (.aload_n 0, 1) := by decide +kernel
theorem d_Book_monthStart_42 : decode prog_2_method_17_code 42 = .ok (.getfield 18, 3) := by decide +kernel
theorem d_Book_monthStart_45 : decode prog_2_method_17_code 45 = .ok (.iload 4, 2) := by decide +kernel
theorem d_Book_monthStart_47 : decode prog_2_method_17_code 47 = .ok (.iaload, 1) := by decide +kernel
theorem d_Book_monthStart_48 : decode prog_2_method_17_code 48 = .ok (.iadd, 1) := by decide +kernel
theorem d_Book_monthStart_49 : decode prog_2_method_17_code 49 = .ok (.istore_n 3, 1) := by decide +kernel
theorem d_Book_monthStart_50 : decode prog_2_method_17_code 50 = .ok (.iinc 4 1, 3) := by decide +kernel
theorem d_Book_monthStart_53 : decode prog_2_method_17_code 53 = .ok (.goto (-28), 3) := by decide +kernel
theorem d_Book_monthStart_56 : decode prog_2_method_17_code 56 = .ok (.iload_n 3, 1) := by decide +kernel
theorem d_Book_monthStart_57 : decode prog_2_method_17_code 57 = .ok (.ireturn, 1) := by decide +kernel
set_option maxHeartbeats 4000000 in
set_option maxRecDepth 100000 in
theorem w_Book_monthStart_L25 {p : Program} {l : Launch} {e : Env} {s : State} {m : MethodId} {args : Array Value} {below : List Frame} {meth : Method} {c : Code} {D : va_G} {ad : Nat → Nat} {cA : Nat → ClassId} {sd sv : Nat → Nat} {out : Int} (N : Nat) (B : Nat) (hB : isBk B) (hI : Inj97 ad) (C : Cx p s m args c prog_2_method_17_code 5 "FeastBook$Book" D ad cA sd sv (FA ad)) (hr : meth.sig.returnType = (some .int)) (hlk : meth.locks = false) (v1 v2 : Int) (h : Hp) (hP : va_P D clL (wl ad cA h) s.heap) : ∀ (n : Nat) (v3 v4 : Int), ∀ ls : Array Slot, lv_has ls 5 [(0, .ref (ad B)), (1, .int (iZ v1)), (2, .int (iZ v2)), (3, .int (iZ v3)), (4, .int (iZ v4))] → Book_monthStart_L25 N h B v2 n v3 v4 = some out → W p l e (rmD 1) s m args below meth c s.heap [] 0 0 (MQ below (QR out) args s 0 0 (fun _ => False)) (F0 m 25 ls []) := by
  intro n
  induction n with
  | zero =>
    intro v3 v4 ls hl hM
    rw [Book_monthStart_L25] at hM
    cases hM
  | succ n ih =>
    intro v3 v4 ls hl hM
    rw [Book_monthStart_L25] at hM
    refine m_iload C hl 4 d_Book_monthStart_25 rfl ?_
    refine m_iload_n C hl 2 d_Book_monthStart_27 rfl rfl ?_
    refine m_icmp_ge C hM 56 d_Book_monthStart_28 (by decide) (fun hM => ?_) (fun hM => ?_)
    · refine m_iload_n C hl 3 d_Book_monthStart_56 rfl rfl ?_
      exact m_iretR C hr hlk hM d_Book_monthStart_57
    · refine m_iload C hl 4 d_Book_monthStart_31 rfl ?_
      refine m_aload_n C hl 0 d_Book_monthStart_33 rfl rfl ?_
      refine m_geti C hP kc_Book (shB_0 hB) (ltB0 hB) 2 rfl (by decide) fk_Book_46 d_Book_monthStart_34 ?_
      refine m_icmp_ge C hM 56 d_Book_monthStart_37 (by decide) (fun hM => ?_) (fun hM => ?_)
      · refine m_iload_n C hl 3 d_Book_monthStart_56 rfl rfl ?_
        exact m_iretR C hr hlk hM d_Book_monthStart_57
      · refine m_iload_n C hl 3 d_Book_monthStart_40 rfl rfl ?_
        refine m_aload_n C hl 0 d_Book_monthStart_41 rfl rfl ?_
        refine m_getr C hP kc_Book (shB_0 hB) (ltB0 hB) 14 (B + 1) rfl (by decide) fk_Book_18 d_Book_monthStart_42 ?_
        refine m_iload C hl 4 d_Book_monthStart_45 rfl ?_
        refine m_iald C hP (shB_1 hB) (ltB hB 1 (by decide)) (Nat.le_of_ble_eq_true rfl) hM d_Book_monthStart_47 (fun x4 hM => ?_)
        refine m_iadd C d_Book_monthStart_48 ?_
        refine m_istore_n C hl [(3, .int (iZ (v3 + x4))), (0, .ref (ad B)), (1, .int (iZ v1)), (2, .int (iZ v2)), (4, .int (iZ v4))] d_Book_monthStart_49 rfl (by decide) rfl (fun ls hl => ?_)
        refine m_iinc C hl 4 [(4, .int (iZ (v4 + 1))), (3, .int (iZ (v3 + x4))), (0, .ref (ad B)), (1, .int (iZ v1)), (2, .int (iZ v2))] d_Book_monthStart_50 rfl (by decide) rfl (fun ls hl => ?_)
        refine m_goto C 25 d_Book_monthStart_53 (by decide) ?_
        exact ih (v3 + x4) (v4 + 1) _ (lv_sub hl [2, 3, 4, 1, 0] rfl) hM
set_option maxHeartbeats 4000000 in
set_option maxRecDepth 100000 in
theorem c_Book_monthStart {l : Launch} {D : va_G} {ad : Nat → Nat} {cA : Nat → ClassId} {sd sv : Nat → Nat} {h : Hp} {N : Nat} {B : Nat} {a1 a2 : Int} {out : Int} (hI : Inj97 ad) (hB : isBk B) (hM : M_Book_monthStart N h B a1 a2 = some out) : Met l y_Book_monthStart (.code y_Book_monthStart prog_2_method_17_code 5 (some .int) :: TT) (rmD 1) (PC D ad cA sd sv h [.ref (ad B), .int (iZ a1), .int (iZ a2)]) (QR out) 0 0 (fun _ => False) := by
  unfold M_Book_monthStart at hM
  refine entM (by decide +kernel) hI (Nat.le_of_ble_eq_true rfl) ?_
  intro p e s m args below meth c C hr hlk hP ls hl
  have C : Cx p s m args c prog_2_method_17_code 5 "FeastBook$Book" D ad cA sd sv (FA ad) := C
  have hl : lv_has ls 5 [(0, .ref (ad B)), (1, .int (iZ a1)), (2, .int (iZ a2))] := hl
  refine m_aload_n C hl 0 d_Book_monthStart_0 rfl rfl ?_
  refine m_iload_n C hl 1 d_Book_monthStart_1 rfl rfl ?_
  obtain ⟨x2, e1, hM⟩ := bnd_some hM
  refine aftR (runV C hP va_S.rf kc_Book (shB_0 hB) (ltB0 hB) (c_Book_hasLeap hI hB e1) lk_Book_121 mb_Book_hasLeap rfl ⟨Nat.le_of_ble_eq_true rfl, Nat.le_of_ble_eq_true rfl⟩ ⟨Nat.zero_le _, Nat.zero_le _⟩ (Nat.le_of_ble_eq_true rfl) d_Book_monthStart_2 hl.1 (rest := []) rfl) ?_
  refine lt_join hM (fun j3 ej hM => ?_)
  have hJ3 : ∀ (s0_3 : Int), j3 s0_3 = some out → ∀ ls : Array Slot, lv_has ls 5 [(0, .ref (ad B)), (1, .int (iZ a1)), (2, .int (iZ a2))] → W p l e (rmD 1) s m args below meth c s.heap [] 0 0 (MQ below (QR out) args s 0 0 (fun _ => False)) (F0 m 21 ls [.int (iZ s0_3)]) := by
    intro s0_3 hM ls hl
    subst ej
    dsimp only at hM
    refine m_istore_n C hl [(3, .int (iZ s0_3)), (0, .ref (ad B)), (1, .int (iZ a1)), (2, .int (iZ a2))] d_Book_monthStart_21 rfl (by decide) rfl (fun ls hl => ?_)
    refine m_iconst C d_Book_monthStart_22 ?_
    refine m_istore C hl [(4, .int (iZ 0)), (3, .int (iZ s0_3)), (0, .ref (ad B)), (1, .int (iZ a1)), (2, .int (iZ a2))] d_Book_monthStart_23 (by decide) rfl (fun ls hl => ?_)
    exact w_Book_monthStart_L25 N B hB hI C hr hlk a1 a2 h hP _ s0_3 0 _ (lv_sub hl [2, 3, 4, 1, 0] rfl) hM
  refine m_if_eq C hM 20 d_Book_monthStart_5 (by decide) (fun hM => ?_) (fun hM => ?_)
  · refine m_iconst C d_Book_monthStart_20 ?_
    exact hJ3 0 hM _ hl
  · refine m_iload_n C hl 2 d_Book_monthStart_8 rfl rfl ?_
    refine m_aload_n C hl 0 d_Book_monthStart_9 rfl rfl ?_
    refine m_geti C hP kc_Book (shB_0 hB) (ltB0 hB) 5 rfl (by decide) fk_Book_55 d_Book_monthStart_10 ?_
    refine m_icmp_le C hM 20 d_Book_monthStart_13 (by decide) (fun hM => ?_) (fun hM => ?_)
    · refine m_iconst C d_Book_monthStart_20 ?_
      exact hJ3 0 hM _ hl
    · refine m_iconst C d_Book_monthStart_16 ?_
      refine m_goto C 21 d_Book_monthStart_17 (by decide) ?_
      exact hJ3 1 hM _ hl
def y_Book_weekdayFrom : MethodName := ⟨"FeastBook$Book", "weekdayFrom", "(II)I"⟩
theorem d_Book_weekdayFrom_0 : decode prog_2_method_16_code 0 = .ok (.iload_n 2, 1) := by decide +kernel
theorem d_Book_weekdayFrom_1 : decode prog_2_method_16_code 1 = .ok (.iload_n 1, 1) := by decide +kernel
theorem d_Book_weekdayFrom_2 : decode prog_2_method_16_code 2 = .ok (.isub, 1) := by decide +kernel
theorem d_Book_weekdayFrom_3 : decode prog_2_method_16_code 3 = .ok (.aload_n 0, 1) := by decide +kernel
theorem d_Book_weekdayFrom_4 : decode prog_2_method_16_code 4 = .ok (.getfield 43, 3) := by decide +kernel
theorem d_Book_weekdayFrom_7 : decode prog_2_method_16_code 7 = .ok (.iconst 1, 1) := by decide +kernel
theorem d_Book_weekdayFrom_8 : decode prog_2_method_16_code 8 = .ok (.invokestatic 124, 3) := by decide +kernel
theorem d_Book_weekdayFrom_11 : decode prog_2_method_16_code 11 = .ok (.invokestatic 116, 3) := by decide +kernel
theorem d_Book_weekdayFrom_14 : decode prog_2_method_16_code 14 = .ok (.ireturn, 1) := by decide +kernel
set_option maxHeartbeats 4000000 in
set_option maxRecDepth 100000 in
theorem c_Book_weekdayFrom {l : Launch} {D : va_G} {ad : Nat → Nat} {cA : Nat → ClassId} {sd sv : Nat → Nat} {h : Hp} {B : Nat} {a1 a2 : Int} {out : Int} (hI : Inj97 ad) (hB : isBk B) (hM : M_Book_weekdayFrom h B a1 a2 = some out) : Met l y_Book_weekdayFrom (.code y_Book_weekdayFrom prog_2_method_16_code 3 (some .int) :: TT) (rmD 1) (PC D ad cA sd sv h [.ref (ad B), .int (iZ a1), .int (iZ a2)]) (QR out) 0 0 (fun _ => False) := by
  unfold M_Book_weekdayFrom at hM
  refine entM (by decide +kernel) hI (Nat.le_of_ble_eq_true rfl) ?_
  intro p e s m args below meth c C hr hlk hP ls hl
  have C : Cx p s m args c prog_2_method_16_code 3 "FeastBook$Book" D ad cA sd sv (FA ad) := C
  have hl : lv_has ls 3 [(0, .ref (ad B)), (1, .int (iZ a1)), (2, .int (iZ a2))] := hl
  refine m_iload_n C hl 2 d_Book_weekdayFrom_0 rfl rfl ?_
  refine m_iload_n C hl 1 d_Book_weekdayFrom_1 rfl rfl ?_
  refine m_isub C d_Book_weekdayFrom_2 ?_
  refine m_aload_n C hl 0 d_Book_weekdayFrom_3 rfl rfl ?_
  refine m_geti C hP kc_Book (shB_0 hB) (ltB0 hB) 1 rfl (by decide) fk_Book_43 d_Book_weekdayFrom_4 ?_
  refine m_iconst C d_Book_weekdayFrom_7 ?_
  refine m_max C lk_Book_124 hl.1 (Nat.le_of_ble_eq_true rfl) (Nat.le_of_ble_eq_true rfl) ⟨Nat.zero_le _, Nat.zero_le _⟩ d_Book_weekdayFrom_8 ?_
  obtain ⟨x2, e1, hM⟩ := bnd_some hM
  refine aftR (runS C hP va_S.rf (c_JM_floorMod hI e1) lk_Book_116 mb_JM_floorMod rfl ⟨Nat.le_of_ble_eq_true rfl, Nat.le_of_ble_eq_true rfl⟩ ⟨Nat.zero_le _, Nat.zero_le _⟩ (Nat.le_of_ble_eq_true rfl) d_Book_weekdayFrom_11 hl.1 (rest := []) rfl) ?_
  exact m_iretR C hr hlk hM d_Book_weekdayFrom_14
def y_Book_sundayClaim : MethodName := ⟨"FeastBook$Book", "sundayClaim", "(I)I"⟩
theorem d_Book_sundayClaim_0 : decode prog_2_method_19_code 0 = .ok (.aload_n 0, 1) := by decide +kernel
theorem d_Book_sundayClaim_1 : decode prog_2_method_19_code 1 = .ok (.getfield 25, 3) := by decide +kernel
theorem d_Book_sundayClaim_4 : decode prog_2_method_19_code 4 = .ok (.iload_n 1, 1) := by decide +kernel
theorem d_Book_sundayClaim_5 : decode prog_2_method_19_code 5 = .ok (.invokevirtual 130, 3) := by decide +kernel
theorem d_Book_sundayClaim_8 : decode prog_2_method_19_code 8 = .ok (.istore_n 2, 1) := by decide +kernel
theorem d_Book_sundayClaim_9 : decode prog_2_method_19_code 9 = .ok (.iload_n 2, 1) := by decide +kernel
theorem d_Book_sundayClaim_10 : decode prog_2_method_19_code 10 = .ok (.iconst (-1), 1) := by decide +kernel
theorem d_Book_sundayClaim_11 : decode prog_2_method_19_code 11 = .ok (.if_icmp .ne 10, 3) := by decide +kernel
theorem d_Book_sundayClaim_14 : decode prog_2_method_19_code 14 = .ok (.aload_n 0, 1) := by decide +kernel
theorem d_Book_sundayClaim_15 : decode prog_2_method_19_code 15 = .ok (.getfield 58, 3) := by decide +kernel
theorem d_Book_sundayClaim_18 : decode prog_2_method_19_code 18 = .ok (.goto 12, 3) := by decide +kernel
theorem d_Book_sundayClaim_21 : decode prog_2_method_19_code 21 = .ok (.aload_n 0, 1) := by decide +kernel
theorem d_Book_sundayClaim_22 : decode prog_2_method_19_code 22 = .ok (.getfield 25, 3) := by decide +kernel
theorem d_Book_sundayClaim_25 : decode prog_2_method_19_code 25 = .ok (.getfield 133, 3) := by decide +kernel
theorem d_Book_sundayClaim_28 : decode prog_2_method_19_code 28 = .ok (.iload_n 2, 1) := by decide +kernel
theorem d_Book_sundayClaim_29 : decode prog_2_method_19_code 29 = .ok (.iaload, 1) := by decide +kernel
theorem d_Book_sundayClaim_30 : decode prog_2_method_19_code 30 = .ok (.invokestatic 136, 3) := by decide +kernel
theorem d_Book_sundayClaim_33 : decode prog_2_method_19_code 33 = .ok (.ireturn, 1) := by decide +kernel
theorem mb_Cl_sunday : MBs y_Cl_sunday prog_3_method_2_code 1 (some .int) 1 := ⟨mT5 220 (by decide +kernel) (by decide +kernel), mT1 16 (by decide +kernel) (by decide +kernel), mT5 221 (by decide +kernel) (by decide +kernel), by decide, by decide +kernel, by decide +kernel, by decide +kernel⟩
theorem mb_Spans_lastWith : MBv R_Spans y_Spans_lastWith prog_8_method_3_code 3 (some .int) 1 := ⟨mT5 216 (by decide +kernel) (by decide +kernel), mT5 217 (by decide +kernel) (by decide +kernel), mT1 5 (by decide +kernel) (by decide +kernel), mT5 218 (by decide +kernel) (by decide +kernel), by decide, rfl, by decide +kernel, by decide +kernel, by decide +kernel⟩
theorem fk_Book_133 : Cond.fieldLink "FeastBook$Book" 133 (T_Spans 3).1 (T_Spans 3).2.1 (T_Spans 3).2.2.1 ∈ TT := mT1 82 (by decide +kernel) (by decide +kernel)
theorem lk_Book_130 : Cond.methodLink "FeastBook$Book" 130 y_Spans_lastWith ∈ TT := mT5 215 (by decide +kernel) (by decide +kernel)
theorem lk_Book_136 : Cond.methodLink "FeastBook$Book" 136 y_Cl_sunday ∈ TT := mT5 219 (by decide +kernel) (by decide +kernel)
set_option maxHeartbeats 4000000 in
set_option maxRecDepth 100000 in
theorem c_Book_sundayClaim {l : Launch} {D : va_G} {ad : Nat → Nat} {cA : Nat → ClassId} {sd sv : Nat → Nat} {h : Hp} {N : Nat} {B : Nat} {a1 : Int} {out : Int} (hI : Inj97 ad) (hB : isBk B) (hM : M_Book_sundayClaim N h B a1 = some out) : Met l y_Book_sundayClaim (.code y_Book_sundayClaim prog_2_method_19_code 3 (some .int) :: TT) (rmD 1) (PC D ad cA sd sv h [.ref (ad B), .int (iZ a1)]) (QR out) 0 0 (fun _ => False) := by
  unfold M_Book_sundayClaim at hM
  refine entM (by decide +kernel) hI (Nat.le_of_ble_eq_true rfl) ?_
  intro p e s m args below meth c C hr hlk hP ls hl
  have C : Cx p s m args c prog_2_method_19_code 3 "FeastBook$Book" D ad cA sd sv (FA ad) := C
  have hl : lv_has ls 3 [(0, .ref (ad B)), (1, .int (iZ a1))] := hl
  refine m_aload_n C hl 0 d_Book_sundayClaim_0 rfl rfl ?_
  refine m_getr C hP kc_Book (shB_0 hB) (ltB0 hB) 15 (B + 2) rfl (by decide) fk_Book_25 d_Book_sundayClaim_1 ?_
  refine m_iload_n C hl 1 d_Book_sundayClaim_4 rfl rfl ?_
  obtain ⟨x2, e1, hM⟩ := bnd_some hM
  refine aftR (runV C hP va_S.rf kc_Spans (shB_2 hB) (ltB hB 2 (by decide)) (c_Spans_lastWith hI (spB2 hB) e1) lk_Book_130 mb_Spans_lastWith rfl ⟨Nat.le_of_ble_eq_true rfl, Nat.le_of_ble_eq_true rfl⟩ ⟨Nat.zero_le _, Nat.zero_le _⟩ (Nat.le_of_ble_eq_true rfl) d_Book_sundayClaim_5 hl.1 (rest := []) rfl) ?_
  refine m_istore_n C hl [(2, .int (iZ x2)), (0, .ref (ad B)), (1, .int (iZ a1))] d_Book_sundayClaim_8 rfl (by decide) rfl (fun ls hl => ?_)
  refine m_iload_n C hl 0 d_Book_sundayClaim_9 rfl rfl ?_
  refine m_iconst C d_Book_sundayClaim_10 ?_
  refine m_icmp_ne C hM 21 d_Book_sundayClaim_11 (by decide) (fun hM => ?_) (fun hM => ?_)
  · refine m_aload_n C hl 1 d_Book_sundayClaim_21 rfl rfl ?_
    refine m_getr C hP kc_Book (shB_0 hB) (ltB0 hB) 15 (B + 2) rfl (by decide) fk_Book_25 d_Book_sundayClaim_22 ?_
    refine m_getr C hP kc_Spans (shB_2 hB) (ltB hB 2 (by decide)) 3 (B + 5) rfl (by decide) fk_Book_133 d_Book_sundayClaim_25 ?_
    refine m_iload_n C hl 0 d_Book_sundayClaim_28 rfl rfl ?_
    refine m_iald C hP (shB_5 hB) (ltB hB 5 (by decide)) (Nat.le_of_ble_eq_true rfl) hM d_Book_sundayClaim_29 (fun x3 hM => ?_)
    obtain ⟨x5, e4, hM⟩ := bnd_some hM
    refine aftR (runS C hP va_S.rf (c_Cl_sunday hI e4) lk_Book_136 mb_Cl_sunday rfl ⟨Nat.le_of_ble_eq_true rfl, Nat.le_of_ble_eq_true rfl⟩ ⟨Nat.zero_le _, Nat.zero_le _⟩ (Nat.le_of_ble_eq_true rfl) d_Book_sundayClaim_30 hl.1 (rest := []) rfl) ?_
    exact m_iretR C hr hlk hM d_Book_sundayClaim_33
  · refine m_aload_n C hl 1 d_Book_sundayClaim_14 rfl rfl ?_
    refine m_geti C hP kc_Book (shB_0 hB) (ltB0 hB) 11 rfl (by decide) fk_Book_58 d_Book_sundayClaim_15 ?_
    refine m_goto C 30 d_Book_sundayClaim_18 (by decide) ?_
    obtain ⟨x7, e6, hM⟩ := bnd_some hM
    refine aftR (runS C hP va_S.rf (c_Cl_sunday hI e6) lk_Book_136 mb_Cl_sunday rfl ⟨Nat.le_of_ble_eq_true rfl, Nat.le_of_ble_eq_true rfl⟩ ⟨Nat.zero_le _, Nat.zero_le _⟩ (Nat.le_of_ble_eq_true rfl) d_Book_sundayClaim_30 hl.1 (rest := []) rfl) ?_
    exact m_iretR C hr hlk hM d_Book_sundayClaim_33
def y_Book_monthOf : MethodName := ⟨"FeastBook$Book", "monthOf", "(II)I"⟩
theorem d_Book_monthOf_0 : decode prog_2_method_18_code 0 = .ok (.iconst 0, 1) := by decide +kernel
theorem d_Book_monthOf_1 : decode prog_2_method_18_code 1 = .ok (.istore_n 3, 1) := by decide +kernel
theorem d_Book_monthOf_2 : decode prog_2_method_18_code 2 = .ok (.iconst 1, 1) := by decide +kernel
theorem d_Book_monthOf_3 : decode prog_2_method_18_code 3 = .ok (.istore 4, 2) := by decide +kernel
theorem d_Book_monthOf_5 : decode prog_2_method_18_code 5 = .ok (.iload 4, 2) := by decide +kernel
theorem d_Book_monthOf_7 : decode prog_2_method_18_code 7 = .ok (.aload_n 0, 1) := by decide +kernel
theorem d_Book_monthOf_8 : decode prog_2_method_18_code 8 = .ok (.getfield 46, 3) := by decide +kernel
theorem d_Book_monthOf_11 : decode prog_2_method_18_code 11 = .ok (.if_icmp .ge 27, 3) := by decide +kernel
theorem d_Book_monthOf_14 : decode prog_2_method_18_code 14 = .ok (.iload_n 2, 1) := by decide +kernel
theorem d_Book_monthOf_15 : decode prog_2_method_18_code 15 = .ok (.aload_n 0, 1) := by decide +kernel
theorem d_Book_monthOf_16 : decode prog_2_method_18_code 16 = .ok (.iload_n 1, 1) := by decide +kernel
theorem d_Book_monthOf_17 : decode prog_2_method_18_code 17 = .ok (.iload 4, 2) := by decide +kernel
theorem d_Book_monthOf_19 : decode prog_2_method_18_code 19 = .ok (.invokevirtual 127, 3) := by decide +kernel
theorem d_Book_monthOf_22 : decode prog_2_method_18_code 22 = .ok (.if_icmp .lt 8, 3) := by decide +kernel
theorem d_Book_monthOf_25 : decode prog_2_method_18_code 25 = .ok (.iload 4, 2) := by decide +kernel
theorem d_Book_monthOf_27 : decode prog_2_method_18_code 27 = .ok (.goto 4, 3) := by decide +kernel
theorem d_Book_monthOf_30 : decode prog_2_method_18_code 30 = .ok (.iload_n 3, 1) := by decide +kernel
theorem d_Book_monthOf_31 : decode prog_2_method_18_code 31 = .ok (.istore_n 3, 1) := by decide +kernel
theorem d_Book_monthOf_32 : decode prog_2_method_18_code 32 = .ok (.iinc 4 1, 3) := by decide +kernel
theorem d_Book_monthOf_35 : decode prog_2_method_18_code 35 = .ok (.goto (-30), 3) := by decide +kernel
theorem d_Book_monthOf_38 : decode prog_2_method_18_code 38 = .ok (.iload_n 3, 1) := by decide +kernel
theorem d_Book_monthOf_39 : decode prog_2_method_18_code 39 = .ok (.ireturn, 1) := by decide +kernel
theorem mb_Book_monthStart : MBv R_Book y_Book_monthStart prog_2_method_17_code 5 (some .int) 2 := ⟨mT4 185 (by decide +kernel) (by decide +kernel), mT4 186 (by decide +kernel) (by decide +kernel), mT1 4 (by decide +kernel) (by decide +kernel), mT4 187 (by decide +kernel) (by decide +kernel), by decide, rfl, by decide +kernel, by decide +kernel, by decide +kernel⟩
theorem lk_Book_127 : Cond.methodLink "FeastBook$Book" 127 y_Book_monthStart ∈ TT := mT6 100 (by decide +kernel) (by decide +kernel)
set_option maxHeartbeats 4000000 in
set_option maxRecDepth 100000 in
theorem w_Book_monthOf_L5 {p : Program} {l : Launch} {e : Env} {s : State} {m : MethodId} {args : Array Value} {below : List Frame} {meth : Method} {c : Code} {D : va_G} {ad : Nat → Nat} {cA : Nat → ClassId} {sd sv : Nat → Nat} {out : Int} (N : Nat) (B : Nat) (hB : isBk B) (hI : Inj97 ad) (C : Cx p s m args c prog_2_method_18_code 5 "FeastBook$Book" D ad cA sd sv (FA ad)) (hr : meth.sig.returnType = (some .int)) (hlk : meth.locks = false) (v1 v2 : Int) (h : Hp) (hP : va_P D clL (wl ad cA h) s.heap) : ∀ (n : Nat) (v3 v4 : Int), ∀ ls : Array Slot, lv_has ls 5 [(0, .ref (ad B)), (1, .int (iZ v1)), (2, .int (iZ v2)), (3, .int (iZ v3)), (4, .int (iZ v4))] → Book_monthOf_L5 N h B v1 v2 n v3 v4 = some out → W p l e (rmD 2) s m args below meth c s.heap [] 0 0 (MQ below (QR out) args s 0 0 (fun _ => False)) (F0 m 5 ls []) := by
  intro n
  induction n with
  | zero =>
    intro v3 v4 ls hl hM
    rw [Book_monthOf_L5] at hM
    cases hM
  | succ n ih =>
    intro v3 v4 ls hl hM
    rw [Book_monthOf_L5] at hM
    refine m_iload C hl 4 d_Book_monthOf_5 rfl ?_
    refine m_aload_n C hl 0 d_Book_monthOf_7 rfl rfl ?_
    refine m_geti C hP kc_Book (shB_0 hB) (ltB0 hB) 2 rfl (by decide) fk_Book_46 d_Book_monthOf_8 ?_
    refine m_icmp_ge C hM 38 d_Book_monthOf_11 (by decide) (fun hM => ?_) (fun hM => ?_)
    · refine m_iload_n C hl 3 d_Book_monthOf_38 rfl rfl ?_
      exact m_iretR C hr hlk hM d_Book_monthOf_39
    · refine m_iload_n C hl 2 d_Book_monthOf_14 rfl rfl ?_
      refine m_aload_n C hl 0 d_Book_monthOf_15 rfl rfl ?_
      refine m_iload_n C hl 1 d_Book_monthOf_16 rfl rfl ?_
      refine m_iload C hl 4 d_Book_monthOf_17 rfl ?_
      obtain ⟨x2, e1, hM⟩ := bnd_some hM
      refine aftR (runV C hP va_S.rf kc_Book (shB_0 hB) (ltB0 hB) (c_Book_monthStart hI hB e1) lk_Book_127 mb_Book_monthStart rfl ⟨Nat.le_of_ble_eq_true rfl, Nat.le_of_ble_eq_true rfl⟩ ⟨Nat.zero_le _, Nat.zero_le _⟩ (Nat.le_of_ble_eq_true rfl) d_Book_monthOf_19 hl.1 (rest := [.int (iZ v2)]) rfl) ?_
      refine m_icmp_lt C hM 30 d_Book_monthOf_22 (by decide) (fun hM => ?_) (fun hM => ?_)
      · refine m_iload_n C hl 3 d_Book_monthOf_30 rfl rfl ?_
        refine m_istore_n C hl [(3, .int (iZ v3)), (0, .ref (ad B)), (1, .int (iZ v1)), (2, .int (iZ v2)), (4, .int (iZ v4))] d_Book_monthOf_31 rfl (by decide) rfl (fun ls hl => ?_)
        refine m_iinc C hl 4 [(4, .int (iZ (v4 + 1))), (3, .int (iZ v3)), (0, .ref (ad B)), (1, .int (iZ v1)), (2, .int (iZ v2))] d_Book_monthOf_32 rfl (by decide) rfl (fun ls hl => ?_)
        refine m_goto C 5 d_Book_monthOf_35 (by decide) ?_
        exact ih v3 (v4 + 1) _ (lv_sub hl [2, 3, 4, 1, 0] rfl) hM
      · refine m_iload C hl 4 d_Book_monthOf_25 rfl ?_
        refine m_goto C 31 d_Book_monthOf_27 (by decide) ?_
        refine m_istore_n C hl [(3, .int (iZ v4)), (0, .ref (ad B)), (1, .int (iZ v1)), (2, .int (iZ v2)), (4, .int (iZ v4))] d_Book_monthOf_31 rfl (by decide) rfl (fun ls hl => ?_)
        refine m_iinc C hl 4 [(4, .int (iZ (v4 + 1))), (3, .int (iZ v4)), (0, .ref (ad B)), (1, .int (iZ v1)), (2, .int (iZ v2))] d_Book_monthOf_32 rfl (by decide) rfl (fun ls hl => ?_)
        refine m_goto C 5 d_Book_monthOf_35 (by decide) ?_
        exact ih v4 (v4 + 1) _ (lv_sub hl [2, 3, 4, 1, 0] rfl) hM
set_option maxHeartbeats 4000000 in
set_option maxRecDepth 100000 in
theorem c_Book_monthOf {l : Launch} {D : va_G} {ad : Nat → Nat} {cA : Nat → ClassId} {sd sv : Nat → Nat} {h : Hp} {N : Nat} {B : Nat} {a1 a2 : Int} {out : Int} (hI : Inj97 ad) (hB : isBk B) (hM : M_Book_monthOf N h B a1 a2 = some out) : Met l y_Book_monthOf (.code y_Book_monthOf prog_2_method_18_code 5 (some .int) :: TT) (rmD 2) (PC D ad cA sd sv h [.ref (ad B), .int (iZ a1), .int (iZ a2)]) (QR out) 0 0 (fun _ => False) := by
  unfold M_Book_monthOf at hM
  refine entM (by decide +kernel) hI (Nat.le_of_ble_eq_true rfl) ?_
  intro p e s m args below meth c C hr hlk hP ls hl
  have C : Cx p s m args c prog_2_method_18_code 5 "FeastBook$Book" D ad cA sd sv (FA ad) := C
  have hl : lv_has ls 5 [(0, .ref (ad B)), (1, .int (iZ a1)), (2, .int (iZ a2))] := hl
  refine m_iconst C d_Book_monthOf_0 ?_
  refine m_istore_n C hl [(3, .int (iZ 0)), (0, .ref (ad B)), (1, .int (iZ a1)), (2, .int (iZ a2))] d_Book_monthOf_1 rfl (by decide) rfl (fun ls hl => ?_)
  refine m_iconst C d_Book_monthOf_2 ?_
  refine m_istore C hl [(4, .int (iZ 1)), (3, .int (iZ 0)), (0, .ref (ad B)), (1, .int (iZ a1)), (2, .int (iZ a2))] d_Book_monthOf_3 (by decide) rfl (fun ls hl => ?_)
  exact w_Book_monthOf_L5 N B hB hI C hr hlk a1 a2 h hP _ 0 1 _ (lv_sub hl [2, 3, 4, 1, 0] rfl) hM
def y_Book_canTell : MethodName := ⟨"FeastBook$Book", "canTell", "(II)Z"⟩
theorem d_Book_canTell_0 : decode prog_2_method_5_code 0 = .ok (.iload_n 1, 1) := by decide +kernel
theorem d_Book_canTell_1 : decode prog_2_method_5_code 1 = .ok (.iconst (-1), 1) := by decide +kernel
theorem d_Book_canTell_2 : decode prog_2_method_5_code 2 = .ok (.if_icmp .ne 21, 3) := by decide +kernel
theorem d_Book_canTell_5 : decode prog_2_method_5_code 5 = .ok (.iload_n 2, 1) := by decide +kernel
theorem d_Book_canTell_6 : decode prog_2_method_5_code 6 = .ok (.bipush (-99), 2) := by decide +kernel
theorem d_Book_canTell_8 : decode prog_2_method_5_code 8 = .ok (.if_icmp .lt 13, 3) := by decide +kernel
theorem d_Book_canTell_11 : decode prog_2_method_5_code 11 = .ok (.iload_n 2, 1) := by decide +kernel
theorem d_Book_canTell_12 : decode prog_2_method_5_code 12 = .ok (.bipush 99, 2) := by decide +kernel
theorem d_Book_canTell_14 : decode prog_2_method_5_code 14 = .ok (.if_icmp .gt 7, 3) := by decide +kernel
theorem d_Book_canTell_17 : decode prog_2_method_5_code 17 = .ok (.iconst 1, 1) := by decide +kernel
theorem d_Book_canTell_18 : decode prog_2_method_5_code 18 = .ok (.goto 4, 3) := by decide +kernel
theorem d_Book_canTell_21 : decode prog_2_method_5_code 21 = .ok (.iconst 0, 1) := by decide +kernel
theorem d_Book_canTell_22 : decode prog_2_method_5_code 22 = .ok (.ireturn, 1) := by decide +kernel
theorem d_Book_canTell_23 : decode prog_2_method_5_code 23 = .ok (.iload_n 1, 1) := by decide +kernel
theorem d_Book_canTell_24 : decode prog_2_method_5_code 24 = .ok (.ifCond .lt 29, 3) := by decide +kernel
theorem d_Book_canTell_27 : decode prog_2_method_5_code 27 = .ok (.iload_n 1, 1) := by decide +kernel
theorem d_Book_canTell_28 : decode prog_2_method_5_code 28 = .ok (.aload_n 0, 1) := by decide +kernel
theorem d_Book_canTell_29 : decode prog_2_method_5_code 29 = .ok (.getfield 46, 3) := by decide +kernel
theorem d_Book_canTell_32 : decode prog_2_method_5_code 32 = .ok (.if_icmp .ge 21, 3) := by decide +kernel
theorem d_Book_canTell_35 : decode prog_2_method_5_code 35 = .ok (.iload_n 2, 1) := by decide +kernel
theorem d_Book_canTell_36 : decode prog_2_method_5_code 36 = .ok (.ifCond .lt 17, 3) := by decide +kernel
theorem d_Book_canTell_39 : decode prog_2_method_5_code 39 = .ok (.iload_n 2, 1) := by decide +kernel
theorem d_Book_canTell_40 : decode prog_2_method_5_code 40 = .ok (.aload_n 0, 1) := by decide +kernel
theorem d_Book_canTell_41 : decode prog_2_method_5_code 41 = .ok (.getfield 18, 3) := by decide +kernel
theorem d_Book_canTell_44 : decode prog_2_method_5_code 44 = .ok (.iload_n 1, 1) := by decide +kernel
theorem d_Book_canTell_45 : decode prog_2_method_5_code 45 = .ok (.iaload, 1) := by decide +kernel
theorem d_Book_canTell_46 : decode prog_2_method_5_code 46 = .ok (.if_icmp .ge 7, 3) := by decide +kernel
theorem d_Book_canTell_49 : decode prog_2_method_5_code 49 = .ok (.iconst 1, 1) := by decide +kernel
theorem d_Book_canTell_50 : decode prog_2_method_5_code 50 = .ok (.goto 4, 3) := by decide +kernel
theorem d_Book_canTell_53 : decode prog_2_method_5_code 53 = .ok (.iconst 0, 1) := by decide +kernel
theorem d_Book_canTell_54 : decode prog_2_method_5_code 54 = .ok (.ireturn, 1) := by decide +kernel
set_option maxHeartbeats 4000000 in
set_option maxRecDepth 100000 in
theorem c_Book_canTell {l : Launch} {D : va_G} {ad : Nat → Nat} {cA : Nat → ClassId} {sd sv : Nat → Nat} {h : Hp} {B : Nat} {a1 a2 : Int} {out : Int} (hI : Inj97 ad) (hB : isBk B) (hM : M_Book_canTell h B a1 a2 = some out) : Met l y_Book_canTell (.code y_Book_canTell prog_2_method_5_code 3 (some .boolean) :: TT) (rmD 0) (PC D ad cA sd sv h [.ref (ad B), .int (iZ a1), .int (iZ a2)]) (QR out) 0 0 (fun _ => False) := by
  unfold M_Book_canTell at hM
  refine entM (by decide +kernel) hI (Nat.le_of_ble_eq_true rfl) ?_
  intro p e s m args below meth c C hr hlk hP ls hl
  have C : Cx p s m args c prog_2_method_5_code 3 "FeastBook$Book" D ad cA sd sv (FA ad) := C
  have hl : lv_has ls 3 [(0, .ref (ad B)), (1, .int (iZ a1)), (2, .int (iZ a2))] := hl
  refine m_iload_n C hl 1 d_Book_canTell_0 rfl rfl ?_
  refine m_iconst C d_Book_canTell_1 ?_
  refine m_icmp_ne C hM 23 d_Book_canTell_2 (by decide) (fun hM => ?_) (fun hM => ?_)
  · refine m_iload_n C hl 1 d_Book_canTell_23 rfl rfl ?_
    refine m_if_lt C hM 53 d_Book_canTell_24 (by decide) (fun hM => ?_) (fun hM => ?_)
    · refine m_iconst C d_Book_canTell_53 ?_
      exact m_zretR C hr hlk hM d_Book_canTell_54
    · refine m_iload_n C hl 1 d_Book_canTell_27 rfl rfl ?_
      refine m_aload_n C hl 0 d_Book_canTell_28 rfl rfl ?_
      refine m_geti C hP kc_Book (shB_0 hB) (ltB0 hB) 2 rfl (by decide) fk_Book_46 d_Book_canTell_29 ?_
      refine m_icmp_ge C hM 53 d_Book_canTell_32 (by decide) (fun hM => ?_) (fun hM => ?_)
      · refine m_iconst C d_Book_canTell_53 ?_
        exact m_zretR C hr hlk hM d_Book_canTell_54
      · refine m_iload_n C hl 2 d_Book_canTell_35 rfl rfl ?_
        refine m_if_lt C hM 53 d_Book_canTell_36 (by decide) (fun hM => ?_) (fun hM => ?_)
        · refine m_iconst C d_Book_canTell_53 ?_
          exact m_zretR C hr hlk hM d_Book_canTell_54
        · refine m_iload_n C hl 2 d_Book_canTell_39 rfl rfl ?_
          refine m_aload_n C hl 0 d_Book_canTell_40 rfl rfl ?_
          refine m_getr C hP kc_Book (shB_0 hB) (ltB0 hB) 14 (B + 1) rfl (by decide) fk_Book_18 d_Book_canTell_41 ?_
          refine m_iload_n C hl 1 d_Book_canTell_44 rfl rfl ?_
          refine m_iald C hP (shB_1 hB) (ltB hB 1 (by decide)) (Nat.le_of_ble_eq_true rfl) hM d_Book_canTell_45 (fun x1 hM => ?_)
          refine m_icmp_ge C hM 53 d_Book_canTell_46 (by decide) (fun hM => ?_) (fun hM => ?_)
          · refine m_iconst C d_Book_canTell_53 ?_
            exact m_zretR C hr hlk hM d_Book_canTell_54
          · refine m_iconst C d_Book_canTell_49 ?_
            refine m_goto C 54 d_Book_canTell_50 (by decide) ?_
            exact m_zretR C hr hlk hM d_Book_canTell_54
  · refine m_iload_n C hl 2 d_Book_canTell_5 rfl rfl ?_
    refine m_bipush C d_Book_canTell_6 (by decide) ?_
    refine m_icmp_lt C hM 21 d_Book_canTell_8 (by decide) (fun hM => ?_) (fun hM => ?_)
    · refine m_iconst C d_Book_canTell_21 ?_
      exact m_zretR C hr hlk hM d_Book_canTell_22
    · refine m_iload_n C hl 2 d_Book_canTell_11 rfl rfl ?_
      refine m_bipush C d_Book_canTell_12 (by decide) ?_
      refine m_icmp_gt C hM 21 d_Book_canTell_14 (by decide) (fun hM => ?_) (fun hM => ?_)
      · refine m_iconst C d_Book_canTell_21 ?_
        exact m_zretR C hr hlk hM d_Book_canTell_22
      · refine m_iconst C d_Book_canTell_17 ?_
        refine m_goto C 22 d_Book_canTell_18 (by decide) ?_
        exact m_zretR C hr hlk hM d_Book_canTell_22

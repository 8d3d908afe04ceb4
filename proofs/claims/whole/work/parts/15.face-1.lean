def y_FB_feed : MethodName := ⟨"FeastBook", "feed", "(IIIII)I"⟩
theorem d_FB_feed_0 : decode prog_1_method_2_code 0 = .ok (.aload_n 0, 1) := by decide +kernel
theorem d_FB_feed_1 : decode prog_1_method_2_code 1 = .ok (.getfield 12, 3) := by decide +kernel
theorem d_FB_feed_4 : decode prog_1_method_2_code 4 = .ok (.invokevirtual 68, 3) := by decide +kernel
theorem d_FB_feed_7 : decode prog_1_method_2_code 7 = .ok (.ifCond .ne 5, 3) := by decide +kernel
theorem d_FB_feed_10 : decode prog_1_method_2_code 10 = .ok (.iconst (-1), 1) := by decide +kernel
theorem d_FB_feed_11 : decode prog_1_method_2_code 11 = .ok (.ireturn, 1) := by decide +kernel
theorem d_FB_feed_12 : decode prog_1_method_2_code 12 = .ok (.aload_n 0, 1) := by decide +kernel
theorem d_FB_feed_13 : decode prog_1_method_2_code 13 = .ok (.getfield 12, 3) := by decide +kernel
theorem d_FB_feed_16 : decode prog_1_method_2_code 16 = .ok (.iload_n 1, 1) := by decide +kernel
theorem d_FB_feed_17 : decode prog_1_method_2_code 17 = .ok (.invokevirtual 72, 3) := by decide +kernel
theorem d_FB_feed_20 : decode prog_1_method_2_code 20 = .ok (.aload_n 0, 1) := by decide +kernel
theorem d_FB_feed_21 : decode prog_1_method_2_code 21 = .ok (.getfield 12, 3) := by decide +kernel
theorem d_FB_feed_24 : decode prog_1_method_2_code 24 = .ok (.iload_n 2, 1) := by decide +kernel
theorem d_FB_feed_25 : decode prog_1_method_2_code 25 = .ok (.invokevirtual 72, 3) := by decide +kernel
theorem d_FB_feed_28 : decode prog_1_method_2_code 28 = .ok (.aload_n 0, 1) := by decide +kernel
theorem d_FB_feed_29 : decode prog_1_method_2_code 29 = .ok (.getfield 12, 3) := by decide +kernel
theorem d_FB_feed_32 : decode prog_1_method_2_code 32 = .ok (.iload_n 3, 1) := by decide +kernel
theorem d_FB_feed_33 : decode prog_1_method_2_code 33 = .ok (.invokevirtual 72, 3) := by decide +kernel
theorem d_FB_feed_36 : decode prog_1_method_2_code 36 = .ok (.aload_n 0, 1) := by decide +kernel
theorem d_FB_feed_37 : decode prog_1_method_2_code 37 = .ok (.getfield 12, 3) := by decide +kernel
theorem d_FB_feed_40 : decode prog_1_method_2_code 40 = .ok (.iload 4, 2) := by decide +kernel
theorem d_FB_feed_42 : decode prog_1_method_2_code 42 = .ok (.invokevirtual 72, 3) := by decide +kernel
theorem d_FB_feed_45 : decode prog_1_method_2_code 45 = .ok (.aload_n 0, 1) := by decide +kernel
theorem d_FB_feed_46 : decode prog_1_method_2_code 46 = .ok (.getfield 12, 3) := by decide +kernel
theorem d_FB_feed_49 : decode prog_1_method_2_code 49 = .ok (.iload 5, 2) := by decide +kernel
theorem d_FB_feed_51 : decode prog_1_method_2_code 51 = .ok (.invokevirtual 72, 3) := by decide +kernel
theorem d_FB_feed_54 : decode prog_1_method_2_code 54 = .ok (.aload_n 0, 1) := by decide +kernel
theorem d_FB_feed_55 : decode prog_1_method_2_code 55 = .ok (.getfield 12, 3) := by decide +kernel
theorem d_FB_feed_58 : decode prog_1_method_2_code 58 = .ok (.getfield 76, 3) := by decide +kernel
theorem d_FB_feed_61 : decode prog_1_method_2_code 61 = .ok (.ireturn, 1) := by decide +kernel
theorem mb_Tape_add : MBv R_Tape y_Tape_add prog_10_method_3_code 3 none 1 := ⟨mT2 202 (by decide +kernel) (by decide +kernel), mT2 203 (by decide +kernel) (by decide +kernel), mT1 2 (by decide +kernel) (by decide +kernel), mT2 204 (by decide +kernel) (by decide +kernel), by decide, rfl, by decide +kernel, by decide +kernel, by decide +kernel⟩
theorem mb_Tape_hasRoom : MBv R_Tape y_Tape_hasRoom prog_10_method_2_code 1 (some .boolean) 0 := ⟨mT2 198 (by decide +kernel) (by decide +kernel), mT2 199 (by decide +kernel) (by decide +kernel), mT1 2 (by decide +kernel) (by decide +kernel), mT2 200 (by decide +kernel) (by decide +kernel), by decide, rfl, by decide +kernel, by decide +kernel, by decide +kernel⟩
theorem fk_FB_12 : Cond.fieldLink "FeastBook" 12 (T_FB 0).1 (T_FB 0).2.1 (T_FB 0).2.2.1 ∈ TT := mT2 165 (by decide +kernel) (by decide +kernel)
theorem fk_FB_76 : Cond.fieldLink "FeastBook" 76 (T_Tape 1).1 (T_Tape 1).2.1 (T_Tape 1).2.2.1 ∈ TT := mT1 49 (by decide +kernel) (by decide +kernel)
theorem lk_FB_68 : Cond.methodLink "FeastBook" 68 y_Tape_hasRoom ∈ TT := mT2 197 (by decide +kernel) (by decide +kernel)
theorem lk_FB_72 : Cond.methodLink "FeastBook" 72 y_Tape_add ∈ TT := mT2 201 (by decide +kernel) (by decide +kernel)
set_option maxHeartbeats 4000000 in
set_option maxRecDepth 100000 in
theorem c_FB_feed {l : Launch} {D : va_G} {ad : Nat → Nat} {cA : Nat → ClassId} {sd sv : Nat → Nat} {h : Hp} {N : Nat} {a1 a2 a3 a4 a5 : Int} {out : (Int × Hp)} (hI : Inj97 ad) (hM : M_FB_feed N h a1 a2 a3 a4 a5 = some out) : Met l y_FB_feed (.code y_FB_feed prog_1_method_2_code 6 (some .int) :: TT) (rmD 1) (PC D ad cA sd sv h [.ref (ad 0), .int (iZ a1), .int (iZ a2), .int (iZ a3), .int (iZ a4), .int (iZ a5)]) (QI D ad cA out) 0 0 (FA ad) := by
  unfold M_FB_feed at hM
  refine entM (by decide +kernel) hI (Nat.le_of_ble_eq_true rfl) ?_
  intro p e s m args below meth c C hr hlk hP ls hl
  have C : Cx p s m args c prog_1_method_2_code 6 "FeastBook" D ad cA sd sv (FA ad) := C
  have hl : lv_has ls 6 [(0, .ref (ad 0)), (1, .int (iZ a1)), (2, .int (iZ a2)), (3, .int (iZ a3)), (4, .int (iZ a4)), (5, .int (iZ a5))] := hl
  have w : Wd s D ad cA (FA ad) h s.heap [] := ⟨hP, va_S.rf⟩
  refine m_aload_n C hl 0 d_FB_feed_0 rfl rfl ?_
  refine m_getr C w.1 kc_FB sh_0 (Nat.le_of_ble_eq_true rfl) 0 1 rfl (by decide) fk_FB_12 d_FB_feed_1 ?_
  obtain ⟨x2, e1, hM⟩ := bnd_some hM
  refine aftR (runV C w.1 w.2 kc_Tape sh_1 (Nat.le_of_ble_eq_true rfl) (c_Tape_hasRoom hI e1) lk_FB_68 mb_Tape_hasRoom rfl ⟨Nat.le_of_ble_eq_true rfl, Nat.le_of_ble_eq_true rfl⟩ ⟨Nat.zero_le _, Nat.zero_le _⟩ (Nat.le_of_ble_eq_true rfl) d_FB_feed_4 hl.1 (rest := []) rfl) ?_
  refine m_if_ne C hM 12 d_FB_feed_7 (by decide) (fun hM => ?_) (fun hM => ?_)
  · refine m_aload_n C hl 0 d_FB_feed_12 rfl rfl ?_
    refine m_getr C w.1 kc_FB sh_0 (Nat.le_of_ble_eq_true rfl) 0 1 rfl (by decide) fk_FB_12 d_FB_feed_13 ?_
    refine m_iload_n C hl 1 d_FB_feed_16 rfl rfl ?_
    obtain ⟨h4, e3, hM⟩ := bnd_some hM
    refine aftV C w (runV C w.1 w.2 kc_Tape sh_1 (Nat.le_of_ble_eq_true rfl) (c_Tape_add hI e3) lk_FB_72 mb_Tape_add rfl ⟨Nat.le_of_ble_eq_true rfl, Nat.le_of_ble_eq_true rfl⟩ ⟨Nat.zero_le _, Nat.zero_le _⟩ (Nat.le_of_ble_eq_true rfl) d_FB_feed_17 hl.1 (rest := []) rfl) (fun H locs w => ?_)
    refine m_aload_n C hl 0 d_FB_feed_20 rfl rfl ?_
    refine m_getr C w.1 kc_FB sh_0 (Nat.le_of_ble_eq_true rfl) 0 1 rfl (by decide) fk_FB_12 d_FB_feed_21 ?_
    refine m_iload_n C hl 2 d_FB_feed_24 rfl rfl ?_
    obtain ⟨h6, e5, hM⟩ := bnd_some hM
    refine aftV C w (runV C w.1 w.2 kc_Tape sh_1 (Nat.le_of_ble_eq_true rfl) (c_Tape_add hI e5) lk_FB_72 mb_Tape_add rfl ⟨Nat.le_of_ble_eq_true rfl, Nat.le_of_ble_eq_true rfl⟩ ⟨Nat.zero_le _, Nat.zero_le _⟩ (Nat.le_of_ble_eq_true rfl) d_FB_feed_25 hl.1 (rest := []) rfl) (fun H locs w => ?_)
    refine m_aload_n C hl 0 d_FB_feed_28 rfl rfl ?_
    refine m_getr C w.1 kc_FB sh_0 (Nat.le_of_ble_eq_true rfl) 0 1 rfl (by decide) fk_FB_12 d_FB_feed_29 ?_
    refine m_iload_n C hl 3 d_FB_feed_32 rfl rfl ?_
    obtain ⟨h8, e7, hM⟩ := bnd_some hM
    refine aftV C w (runV C w.1 w.2 kc_Tape sh_1 (Nat.le_of_ble_eq_true rfl) (c_Tape_add hI e7) lk_FB_72 mb_Tape_add rfl ⟨Nat.le_of_ble_eq_true rfl, Nat.le_of_ble_eq_true rfl⟩ ⟨Nat.zero_le _, Nat.zero_le _⟩ (Nat.le_of_ble_eq_true rfl) d_FB_feed_33 hl.1 (rest := []) rfl) (fun H locs w => ?_)
    refine m_aload_n C hl 0 d_FB_feed_36 rfl rfl ?_
    refine m_getr C w.1 kc_FB sh_0 (Nat.le_of_ble_eq_true rfl) 0 1 rfl (by decide) fk_FB_12 d_FB_feed_37 ?_
    refine m_iload C hl 4 d_FB_feed_40 rfl ?_
    obtain ⟨h10, e9, hM⟩ := bnd_some hM
    refine aftV C w (runV C w.1 w.2 kc_Tape sh_1 (Nat.le_of_ble_eq_true rfl) (c_Tape_add hI e9) lk_FB_72 mb_Tape_add rfl ⟨Nat.le_of_ble_eq_true rfl, Nat.le_of_ble_eq_true rfl⟩ ⟨Nat.zero_le _, Nat.zero_le _⟩ (Nat.le_of_ble_eq_true rfl) d_FB_feed_42 hl.1 (rest := []) rfl) (fun H locs w => ?_)
    refine m_aload_n C hl 0 d_FB_feed_45 rfl rfl ?_
    refine m_getr C w.1 kc_FB sh_0 (Nat.le_of_ble_eq_true rfl) 0 1 rfl (by decide) fk_FB_12 d_FB_feed_46 ?_
    refine m_iload C hl 5 d_FB_feed_49 rfl ?_
    obtain ⟨h12, e11, hM⟩ := bnd_some hM
    refine aftV C w (runV C w.1 w.2 kc_Tape sh_1 (Nat.le_of_ble_eq_true rfl) (c_Tape_add hI e11) lk_FB_72 mb_Tape_add rfl ⟨Nat.le_of_ble_eq_true rfl, Nat.le_of_ble_eq_true rfl⟩ ⟨Nat.zero_le _, Nat.zero_le _⟩ (Nat.le_of_ble_eq_true rfl) d_FB_feed_51 hl.1 (rest := []) rfl) (fun H locs w => ?_)
    refine m_aload_n C hl 0 d_FB_feed_54 rfl rfl ?_
    refine m_getr C w.1 kc_FB sh_0 (Nat.le_of_ble_eq_true rfl) 0 1 rfl (by decide) fk_FB_12 d_FB_feed_55 ?_
    refine m_geti C w.1 kc_Tape sh_1 (Nat.le_of_ble_eq_true rfl) 1 rfl (by decide) fk_FB_76 d_FB_feed_58 ?_
    exact m_iretW C w hr hlk hM d_FB_feed_61
  · refine m_iconst C d_FB_feed_10 ?_
    exact m_iretW C w hr hlk hM d_FB_feed_11
def y_FB_end : MethodName := ⟨"FeastBook", "end", "(I)Z"⟩
theorem d_FB_end_0 : decode prog_1_method_3_code 0 = .ok (.iload_n 1, 1) := by decide +kernel
theorem d_FB_end_1 : decode prog_1_method_3_code 1 = .ok (.ifCond .lt 14, 3) := by decide +kernel
theorem d_FB_end_4 : decode prog_1_method_3_code 4 = .ok (.iload_n 1, 1) := by decide +kernel
theorem d_FB_end_5 : decode prog_1_method_3_code 5 = .ok (.aload_n 0, 1) := by decide +kernel
theorem d_FB_end_6 : decode prog_1_method_3_code 6 = .ok (.getfield 12, 3) := by decide +kernel
theorem d_FB_end_9 : decode prog_1_method_3_code 9 = .ok (.getfield 76, 3) := by decide +kernel
theorem d_FB_end_12 : decode prog_1_method_3_code 12 = .ok (.if_icmp .le 5, 3) := by decide +kernel
theorem d_FB_end_15 : decode prog_1_method_3_code 15 = .ok (.iconst 0, 1) := by decide +kernel
theorem d_FB_end_16 : decode prog_1_method_3_code 16 = .ok (.ireturn, 1) := by decide +kernel
theorem d_FB_end_17 : decode prog_1_method_3_code 17 = .ok (.aload_n 0, 1) := by decide +kernel
theorem d_FB_end_18 : decode prog_1_method_3_code 18 = .ok (.getfield 12, 3) := by decide +kernel
theorem d_FB_end_21 : decode prog_1_method_3_code 21 = .ok (.iload_n 1, 1) := by decide +kernel
theorem d_FB_end_22 : decode prog_1_method_3_code 22 = .ok (.putfield 76, 3) := by decide +kernel
theorem d_FB_end_25 : decode prog_1_method_3_code 25 = .ok (.iconst 1, 1) := by decide +kernel
theorem d_FB_end_26 : decode prog_1_method_3_code 26 = .ok (.ireturn, 1) := by decide +kernel
set_option maxHeartbeats 4000000 in
set_option maxRecDepth 100000 in
theorem c_FB_end {l : Launch} {D : va_G} {ad : Nat → Nat} {cA : Nat → ClassId} {sd sv : Nat → Nat} {h : Hp} {a1 : Int} {out : (Int × Hp)} (hI : Inj97 ad) (hM : M_FB_end h a1 = some out) : Met l y_FB_end (.code y_FB_end prog_1_method_3_code 2 (some .boolean) :: TT) (rmD 0) (PC D ad cA sd sv h [.ref (ad 0), .int (iZ a1)]) (QI D ad cA out) 0 0 (FA ad) := by
  unfold M_FB_end at hM
  refine entM (by decide +kernel) hI (Nat.le_of_ble_eq_true rfl) ?_
  intro p e s m args below meth c C hr hlk hP ls hl
  have C : Cx p s m args c prog_1_method_3_code 2 "FeastBook" D ad cA sd sv (FA ad) := C
  have hl : lv_has ls 2 [(0, .ref (ad 0)), (1, .int (iZ a1))] := hl
  have w : Wd s D ad cA (FA ad) h s.heap [] := ⟨hP, va_S.rf⟩
  refine m_iload_n C hl 1 d_FB_end_0 rfl rfl ?_
  refine m_if_lt C hM 15 d_FB_end_1 (by decide) (fun hM => ?_) (fun hM => ?_)
  · refine m_iconst C d_FB_end_15 ?_
    exact m_zretW C w hr hlk hM d_FB_end_16
  · refine m_iload_n C hl 1 d_FB_end_4 rfl rfl ?_
    refine m_aload_n C hl 0 d_FB_end_5 rfl rfl ?_
    refine m_getr C w.1 kc_FB sh_0 (Nat.le_of_ble_eq_true rfl) 0 1 rfl (by decide) fk_FB_12 d_FB_end_6 ?_
    refine m_geti C w.1 kc_Tape sh_1 (Nat.le_of_ble_eq_true rfl) 1 rfl (by decide) fk_FB_76 d_FB_end_9 ?_
    refine m_icmp_le C hM 17 d_FB_end_12 (by decide) (fun hM => ?_) (fun hM => ?_)
    · refine m_aload_n C hl 0 d_FB_end_17 rfl rfl ?_
      refine m_getr C w.1 kc_FB sh_0 (Nat.le_of_ble_eq_true rfl) 0 1 rfl (by decide) fk_FB_12 d_FB_end_18 ?_
      refine m_iload_n C hl 1 d_FB_end_21 rfl rfl ?_
      refine m_puti C w kc_Tape sh_1 (Nat.le_of_ble_eq_true rfl) 1 hM rfl (by decide) rfl rfl fk_FB_76 d_FB_end_22 (fun h1 H locs w hM => ?_)
      refine m_iconst C d_FB_end_25 ?_
      exact m_zretW C w hr hlk hM d_FB_end_26
    · refine m_iconst C d_FB_end_15 ?_
      exact m_zretW C w hr hlk hM d_FB_end_16
def y_FB_fault : MethodName := ⟨"FeastBook", "fault", "()I"⟩
theorem d_FB_fault_0 : decode prog_1_method_5_code 0 = .ok (.aload_n 0, 1) := by decide +kernel
theorem d_FB_fault_1 : decode prog_1_method_5_code 1 = .ok (.getfield 64, 3) := by decide +kernel
theorem d_FB_fault_4 : decode prog_1_method_5_code 4 = .ok (.ireturn, 1) := by decide +kernel
theorem fk_FB_64 : Cond.fieldLink "FeastBook" 64 (T_FB 8).1 (T_FB 8).2.1 (T_FB 8).2.2.1 ∈ TT := mT2 173 (by decide +kernel) (by decide +kernel)
set_option maxHeartbeats 4000000 in
set_option maxRecDepth 100000 in
theorem c_FB_fault {l : Launch} {D : va_G} {ad : Nat → Nat} {cA : Nat → ClassId} {sd sv : Nat → Nat} {h : Hp} {out : Int} (hI : Inj97 ad) (hM : M_FB_fault h = some out) : Met l y_FB_fault (.code y_FB_fault prog_1_method_5_code 1 (some .int) :: TT) (rmD 0) (PC D ad cA sd sv h [.ref (ad 0)]) (QR out) 0 0 (fun _ => False) := by
  unfold M_FB_fault at hM
  refine entM (by decide +kernel) hI (Nat.le_of_ble_eq_true rfl) ?_
  intro p e s m args below meth c C hr hlk hP ls hl
  have C : Cx p s m args c prog_1_method_5_code 1 "FeastBook" D ad cA sd sv (FA ad) := C
  have hl : lv_has ls 1 [(0, .ref (ad 0))] := hl
  refine m_aload_n C hl 0 d_FB_fault_0 rfl rfl ?_
  refine m_geti C hP kc_FB sh_0 (Nat.le_of_ble_eq_true rfl) 8 rfl (by decide) fk_FB_64 d_FB_fault_1 ?_
  exact m_iretR C hr hlk hM d_FB_fault_4
def y_FB_order : MethodName := ⟨"FeastBook", "order", "(I)I"⟩
theorem d_FB_order_0 : decode prog_1_method_36_code 0 = .ok (.iload_n 1, 1) := by decide +kernel
theorem d_FB_order_1 : decode prog_1_method_36_code 1 = .ok (.ifCond .lt 32, 3) := by decide +kernel
theorem d_FB_order_4 : decode prog_1_method_36_code 4 = .ok (.iload_n 1, 1) := by decide +kernel
theorem d_FB_order_5 : decode prog_1_method_36_code 5 = .ok (.aload_n 0, 1) := by decide +kernel
theorem d_FB_order_6 : decode prog_1_method_36_code 6 = .ok (.getfield 28, 3) := by decide +kernel
theorem d_FB_order_9 : decode prog_1_method_36_code 9 = .ok (.getfield 96, 3) := by decide +kernel
theorem d_FB_order_12 : decode prog_1_method_36_code 12 = .ok (.getfield 100, 3) := by decide +kernel
theorem d_FB_order_15 : decode prog_1_method_36_code 15 = .ok (.if_icmp .ge 18, 3) := by decide +kernel
theorem d_FB_order_18 : decode prog_1_method_36_code 18 = .ok (.aload_n 0, 1) := by decide +kernel
theorem d_FB_order_19 : decode prog_1_method_36_code 19 = .ok (.getfield 28, 3) := by decide +kernel
theorem d_FB_order_22 : decode prog_1_method_36_code 22 = .ok (.getfield 96, 3) := by decide +kernel
theorem d_FB_order_25 : decode prog_1_method_36_code 25 = .ok (.getfield 333, 3) := by decide +kernel
theorem d_FB_order_28 : decode prog_1_method_36_code 28 = .ok (.iload_n 1, 1) := by decide +kernel
theorem d_FB_order_29 : decode prog_1_method_36_code 29 = .ok (.iaload, 1) := by decide +kernel
theorem d_FB_order_30 : decode prog_1_method_36_code 30 = .ok (.goto 4, 3) := by decide +kernel
theorem d_FB_order_33 : decode prog_1_method_36_code 33 = .ok (.iconst (-1), 1) := by decide +kernel
theorem d_FB_order_34 : decode prog_1_method_36_code 34 = .ok (.ireturn, 1) := by decide +kernel
theorem fk_FB_100 : Cond.fieldLink "FeastBook" 100 (T_Feasts 0).1 (T_Feasts 0).2.1 (T_Feasts 0).2.2.1 ∈ TT := mT1 102 (by decide +kernel) (by decide +kernel)
theorem fk_FB_28 : Cond.fieldLink "FeastBook" 28 (T_FB 2).1 (T_FB 2).2.1 (T_FB 2).2.2.1 ∈ TT := mT2 167 (by decide +kernel) (by decide +kernel)
theorem fk_FB_333 : Cond.fieldLink "FeastBook" 333 (T_Feasts 8).1 (T_Feasts 8).2.1 (T_Feasts 8).2.2.1 ∈ TT := mT1 131 (by decide +kernel) (by decide +kernel)
theorem fk_FB_96 : Cond.fieldLink "FeastBook" 96 (T_Book 17).1 (T_Book 17).2.1 (T_Book 17).2.2.1 ∈ TT := mT1 205 (by decide +kernel) (by decide +kernel)
set_option maxHeartbeats 4000000 in
set_option maxRecDepth 100000 in
theorem c_FB_order {l : Launch} {D : va_G} {ad : Nat → Nat} {cA : Nat → ClassId} {sd sv : Nat → Nat} {h : Hp} {a1 : Int} {out : Int} (hI : Inj97 ad) (hM : M_FB_order h a1 = some out) : Met l y_FB_order (.code y_FB_order prog_1_method_36_code 2 (some .int) :: TT) (rmD 0) (PC D ad cA sd sv h [.ref (ad 0), .int (iZ a1)]) (QR out) 0 0 (fun _ => False) := by
  unfold M_FB_order at hM
  refine entM (by decide +kernel) hI (Nat.le_of_ble_eq_true rfl) ?_
  intro p e s m args below meth c C hr hlk hP ls hl
  have C : Cx p s m args c prog_1_method_36_code 2 "FeastBook" D ad cA sd sv (FA ad) := C
  have hl : lv_has ls 2 [(0, .ref (ad 0)), (1, .int (iZ a1))] := hl
  refine m_iload_n C hl 1 d_FB_order_0 rfl rfl ?_
  refine m_if_lt C hM 33 d_FB_order_1 (by decide) (fun hM => ?_) (fun hM => ?_)
  · refine m_iconst C d_FB_order_33 ?_
    exact m_iretR C hr hlk hM d_FB_order_34
  · refine m_iload_n C hl 1 d_FB_order_4 rfl rfl ?_
    refine m_aload_n C hl 0 d_FB_order_5 rfl rfl ?_
    refine m_getr C hP kc_FB sh_0 (Nat.le_of_ble_eq_true rfl) 2 23 rfl (by decide) fk_FB_28 d_FB_order_6 ?_
    refine m_getr C hP kc_Book sh_23 (Nat.le_of_ble_eq_true rfl) 17 33 rfl (by decide) fk_FB_96 d_FB_order_9 ?_
    refine m_geti C hP kc_Feasts sh_33 (Nat.le_of_ble_eq_true rfl) 0 rfl (by decide) fk_FB_100 d_FB_order_12 ?_
    refine m_icmp_ge C hM 33 d_FB_order_15 (by decide) (fun hM => ?_) (fun hM => ?_)
    · refine m_iconst C d_FB_order_33 ?_
      exact m_iretR C hr hlk hM d_FB_order_34
    · refine m_aload_n C hl 0 d_FB_order_18 rfl rfl ?_
      refine m_getr C hP kc_FB sh_0 (Nat.le_of_ble_eq_true rfl) 2 23 rfl (by decide) fk_FB_28 d_FB_order_19 ?_
      refine m_getr C hP kc_Book sh_23 (Nat.le_of_ble_eq_true rfl) 17 33 rfl (by decide) fk_FB_96 d_FB_order_22 ?_
      refine m_getr C hP kc_Feasts sh_33 (Nat.le_of_ble_eq_true rfl) 8 41 rfl (by decide) fk_FB_333 d_FB_order_25 ?_
      refine m_iload_n C hl 1 d_FB_order_28 rfl rfl ?_
      refine m_iald C hP sh_41 (Nat.le_of_ble_eq_true rfl) (Nat.le_of_ble_eq_true rfl) hM d_FB_order_29 (fun x1 hM => ?_)
      refine m_goto C 34 d_FB_order_30 (by decide) ?_
      exact m_iretR C hr hlk hM d_FB_order_34
def y_FB_image : MethodName := ⟨"FeastBook", "image", "()V"⟩
theorem d_FB_image_0 : decode prog_1_method_42_code 0 = .ok (.aload_n 0, 1) := by decide +kernel
theorem d_FB_image_1 : decode prog_1_method_42_code 1 = .ok (.getfield 32, 3) := by decide +kernel
theorem d_FB_image_4 : decode prog_1_method_42_code 4 = .ok (.aload_n 0, 1) := by decide +kernel
theorem d_FB_image_5 : decode prog_1_method_42_code 5 = .ok (.getfield 28, 3) := by decide +kernel
theorem d_FB_image_8 : decode prog_1_method_42_code 8 = .ok (.invokevirtual 354, 3) := by decide +kernel
theorem d_FB_image_11 : decode prog_1_method_42_code 11 = .ok (.aload_n 0, 1) := by decide +kernel
theorem d_FB_image_12 : decode prog_1_method_42_code 12 = .ok (.iconst 1, 1) := by decide +kernel
theorem d_FB_image_13 : decode prog_1_method_42_code 13 = .ok (.putfield 60, 3) := by decide +kernel
theorem d_FB_image_16 : decode prog_1_method_42_code 16 = .ok (.return_, 1) := by decide +kernel
theorem mb_Book_copyFrom : MBv R_Book y_Book_copyFrom prog_2_method_3_code 2 none 1 := ⟨mT2 222 (by decide +kernel) (by decide +kernel), mT2 223 (by decide +kernel) (by decide +kernel), mT1 4 (by decide +kernel) (by decide +kernel), mT2 224 (by decide +kernel) (by decide +kernel), by decide, rfl, by decide +kernel, by decide +kernel, by decide +kernel⟩
theorem fk_FB_32 : Cond.fieldLink "FeastBook" 32 (T_FB 3).1 (T_FB 3).2.1 (T_FB 3).2.2.1 ∈ TT := mT2 168 (by decide +kernel) (by decide +kernel)
theorem fk_FB_60 : Cond.fieldLink "FeastBook" 60 (T_FB 7).1 (T_FB 7).2.1 (T_FB 7).2.2.1 ∈ TT := mT2 172 (by decide +kernel) (by decide +kernel)
theorem lk_FB_354 : Cond.methodLink "FeastBook" 354 y_Book_copyFrom ∈ TT := mT2 221 (by decide +kernel) (by decide +kernel)
set_option maxHeartbeats 4000000 in
set_option maxRecDepth 100000 in
theorem c_FB_image {l : Launch} {D : va_G} {ad : Nat → Nat} {cA : Nat → ClassId} {sd sv : Nat → Nat} {h : Hp} {out : Hp} (hI : Inj97 ad) (hM : M_FB_image h = some out) : Met l y_FB_image (.code y_FB_image prog_1_method_42_code 1 none :: TT) (rmD 3) (PC D ad cA sd sv h [.ref (ad 0)]) (QV D ad cA out) 0 0 (FA ad) := by
  unfold M_FB_image at hM
  refine entM (by decide +kernel) hI (Nat.le_of_ble_eq_true rfl) ?_
  intro p e s m args below meth c C hr hlk hP ls hl
  have C : Cx p s m args c prog_1_method_42_code 1 "FeastBook" D ad cA sd sv (FA ad) := C
  have hl : lv_has ls 1 [(0, .ref (ad 0))] := hl
  have w : Wd s D ad cA (FA ad) h s.heap [] := ⟨hP, va_S.rf⟩
  refine m_aload_n C hl 0 d_FB_image_0 rfl rfl ?_
  refine m_getr C w.1 kc_FB sh_0 (Nat.le_of_ble_eq_true rfl) 3 42 rfl (by decide) fk_FB_32 d_FB_image_1 ?_
  refine m_aload_n C hl 0 d_FB_image_4 rfl rfl ?_
  refine m_getr C w.1 kc_FB sh_0 (Nat.le_of_ble_eq_true rfl) 2 23 rfl (by decide) fk_FB_28 d_FB_image_5 ?_
  obtain ⟨h2, e1, hM⟩ := bnd_some hM
  refine aftV C w (runV C w.1 w.2 kc_Book sh_42 (Nat.le_of_ble_eq_true rfl) (c_Book_copyFrom hI (Or.inr (Or.inr rfl)) (Or.inr (Or.inl rfl)) e1) lk_FB_354 mb_Book_copyFrom rfl ⟨Nat.le_of_ble_eq_true rfl, Nat.le_of_ble_eq_true rfl⟩ ⟨Nat.zero_le _, Nat.zero_le _⟩ (Nat.le_of_ble_eq_true rfl) d_FB_image_8 hl.1 (rest := []) rfl) (fun H locs w => ?_)
  refine m_aload_n C hl 0 d_FB_image_11 rfl rfl ?_
  refine m_iconst C d_FB_image_12 ?_
  refine m_putz C w kc_FB sh_0 (Nat.le_of_ble_eq_true rfl) 7 hM rfl (by decide) rfl rfl fk_FB_60 d_FB_image_13 (fun h3 H locs w hM => ?_)
  exact m_vretW C w hr hlk hM d_FB_image_16
def y_FB_takeOver : MethodName := ⟨"FeastBook", "takeOver", "(LFeastBook$Book;)V"⟩
theorem d_FB_takeOver_0 : decode prog_1_method_53_code 0 = .ok (.aload_n 0, 1) := by decide +kernel
theorem d_FB_takeOver_1 : decode prog_1_method_53_code 1 = .ok (.getfield 28, 3) := by decide +kernel
theorem d_FB_takeOver_4 : decode prog_1_method_53_code 4 = .ok (.aload_n 1, 1) := by decide +kernel
theorem d_FB_takeOver_5 : decode prog_1_method_53_code 5 = .ok (.invokevirtual 354, 3) := by decide +kernel
theorem d_FB_takeOver_8 : decode prog_1_method_53_code 8 = .ok (.aload_n 0, 1) := by decide +kernel
theorem d_FB_takeOver_9 : decode prog_1_method_53_code 9 = .ok (.getfield 38, 3) := by decide +kernel
theorem d_FB_takeOver_12 : decode prog_1_method_53_code 12 = .ok (.iconst 0, 1) := by decide +kernel
theorem d_FB_takeOver_13 : decode prog_1_method_53_code 13 = .ok (.putfield 257, 3) := by decide +kernel
theorem d_FB_takeOver_16 : decode prog_1_method_53_code 16 = .ok (.aload_n 0, 1) := by decide +kernel
theorem d_FB_takeOver_17 : decode prog_1_method_53_code 17 = .ok (.getfield 47, 3) := by decide +kernel
theorem d_FB_takeOver_20 : decode prog_1_method_53_code 20 = .ok (.invokevirtual 401, 3) := by decide +kernel
theorem d_FB_takeOver_23 : decode prog_1_method_53_code 23 = .ok (.aload_n 0, 1) := by decide +kernel
theorem d_FB_takeOver_24 : decode prog_1_method_53_code 24 = .ok (.getfield 56, 3) := by decide +kernel
theorem d_FB_takeOver_27 : decode prog_1_method_53_code 27 = .ok (.invokevirtual 404, 3) := by decide +kernel
theorem d_FB_takeOver_30 : decode prog_1_method_53_code 30 = .ok (.return_, 1) := by decide +kernel
theorem mb_Round_begin : MBv R_Round y_Round_begin prog_7_method_2_code 3 none 0 := ⟨mT3 11 (by decide +kernel) (by decide +kernel), mT3 12 (by decide +kernel) (by decide +kernel), mT1 9 (by decide +kernel) (by decide +kernel), mT3 13 (by decide +kernel) (by decide +kernel), by decide, rfl, by decide +kernel, by decide +kernel, by decide +kernel⟩
theorem mb_YearPlan_forget : MBv R_YearPlan y_YearPlan_forget prog_11_method_2_code 1 none 0 := ⟨mT3 7 (by decide +kernel) (by decide +kernel), mT3 8 (by decide +kernel) (by decide +kernel), mT1 8 (by decide +kernel) (by decide +kernel), mT3 9 (by decide +kernel) (by decide +kernel), by decide, rfl, by decide +kernel, by decide +kernel, by decide +kernel⟩
theorem fk_FB_257 : Cond.fieldLink "FeastBook" 257 (T_Past 0).1 (T_Past 0).2.1 (T_Past 0).2.2.1 ∈ TT := mT2 38 (by decide +kernel) (by decide +kernel)
theorem fk_FB_38 : Cond.fieldLink "FeastBook" 38 (T_FB 4).1 (T_FB 4).2.1 (T_FB 4).2.2.1 ∈ TT := mT2 169 (by decide +kernel) (by decide +kernel)
theorem fk_FB_47 : Cond.fieldLink "FeastBook" 47 (T_FB 5).1 (T_FB 5).2.1 (T_FB 5).2.2.1 ∈ TT := mT2 170 (by decide +kernel) (by decide +kernel)
theorem fk_FB_56 : Cond.fieldLink "FeastBook" 56 (T_FB 6).1 (T_FB 6).2.1 (T_FB 6).2.2.1 ∈ TT := mT2 171 (by decide +kernel) (by decide +kernel)
theorem lk_FB_401 : Cond.methodLink "FeastBook" 401 y_YearPlan_forget ∈ TT := mT3 6 (by decide +kernel) (by decide +kernel)
theorem lk_FB_404 : Cond.methodLink "FeastBook" 404 y_Round_begin ∈ TT := mT3 10 (by decide +kernel) (by decide +kernel)
set_option maxHeartbeats 4000000 in
set_option maxRecDepth 100000 in
theorem c_FB_takeOver {l : Launch} {D : va_G} {ad : Nat → Nat} {cA : Nat → ClassId} {sd sv : Nat → Nat} {h : Hp} {N : Nat} {B : Nat} {out : Hp} (hI : Inj97 ad) (hB : isBk B) (hM : M_FB_takeOver N h B = some out) : Met l y_FB_takeOver (.code y_FB_takeOver prog_1_method_53_code 2 none :: TT) (rmD 5) (PC D ad cA sd sv h [.ref (ad 0), .ref (ad B)]) (QV D ad cA out) 0 0 (FA ad) := by
  unfold M_FB_takeOver at hM
  refine entM (by decide +kernel) hI (Nat.le_of_ble_eq_true rfl) ?_
  intro p e s m args below meth c C hr hlk hP ls hl
  have C : Cx p s m args c prog_1_method_53_code 2 "FeastBook" D ad cA sd sv (FA ad) := C
  have hl : lv_has ls 2 [(0, .ref (ad 0)), (1, .ref (ad B))] := hl
  have w : Wd s D ad cA (FA ad) h s.heap [] := ⟨hP, va_S.rf⟩
  refine m_aload_n C hl 0 d_FB_takeOver_0 rfl rfl ?_
  refine m_getr C w.1 kc_FB sh_0 (Nat.le_of_ble_eq_true rfl) 2 23 rfl (by decide) fk_FB_28 d_FB_takeOver_1 ?_
  refine m_aload_n C hl 1 d_FB_takeOver_4 rfl rfl ?_
  obtain ⟨h2, e1, hM⟩ := bnd_some hM
  refine aftV C w (runV C w.1 w.2 kc_Book sh_23 (Nat.le_of_ble_eq_true rfl) (c_Book_copyFrom hI (Or.inr (Or.inl rfl)) hB e1) lk_FB_354 mb_Book_copyFrom rfl ⟨Nat.le_of_ble_eq_true rfl, Nat.le_of_ble_eq_true rfl⟩ ⟨Nat.zero_le _, Nat.zero_le _⟩ (Nat.le_of_ble_eq_true rfl) d_FB_takeOver_5 hl.1 (rest := []) rfl) (fun H locs w => ?_)
  refine m_aload_n C hl 0 d_FB_takeOver_8 rfl rfl ?_
  refine m_getr C w.1 kc_FB sh_0 (Nat.le_of_ble_eq_true rfl) 4 61 rfl (by decide) fk_FB_38 d_FB_takeOver_9 ?_
  refine m_iconst C d_FB_takeOver_12 ?_
  refine m_puti C w kc_Past sh_61 (Nat.le_of_ble_eq_true rfl) 0 hM rfl (by decide) rfl rfl fk_FB_257 d_FB_takeOver_13 (fun h3 H locs w hM => ?_)
  refine m_aload_n C hl 0 d_FB_takeOver_16 rfl rfl ?_
  refine m_getr C w.1 kc_FB sh_0 (Nat.le_of_ble_eq_true rfl) 5 66 rfl (by decide) fk_FB_47 d_FB_takeOver_17 ?_
  obtain ⟨h5, e4, hM⟩ := bnd_some hM
  refine aftV C w (runV C w.1 w.2 kc_YearPlan sh_66 (Nat.le_of_ble_eq_true rfl) (c_YearPlan_forget hI e4) lk_FB_401 mb_YearPlan_forget rfl ⟨Nat.le_of_ble_eq_true rfl, Nat.le_of_ble_eq_true rfl⟩ ⟨Nat.zero_le _, Nat.zero_le _⟩ (Nat.le_of_ble_eq_true rfl) d_FB_takeOver_20 hl.1 (rest := []) rfl) (fun H locs w => ?_)
  refine m_aload_n C hl 0 d_FB_takeOver_23 rfl rfl ?_
  refine m_getr C w.1 kc_FB sh_0 (Nat.le_of_ble_eq_true rfl) 6 73 rfl (by decide) fk_FB_56 d_FB_takeOver_24 ?_
  obtain ⟨h7, e6, hM⟩ := bnd_some hM
  refine aftV C w (runV C w.1 w.2 kc_Round sh_73 (Nat.le_of_ble_eq_true rfl) (c_Round_begin hI e6) lk_FB_404 mb_Round_begin rfl ⟨Nat.le_of_ble_eq_true rfl, Nat.le_of_ble_eq_true rfl⟩ ⟨Nat.zero_le _, Nat.zero_le _⟩ (Nat.le_of_ble_eq_true rfl) d_FB_takeOver_27 hl.1 (rest := []) rfl) (fun H locs w => ?_)
  exact m_vretW C w hr hlk hM d_FB_takeOver_30
def y_FB_back : MethodName := ⟨"FeastBook", "back", "()Z"⟩
theorem d_FB_back_0 : decode prog_1_method_43_code 0 = .ok (.aload_n 0, 1) := by decide +kernel
theorem d_FB_back_1 : decode prog_1_method_43_code 1 = .ok (.getfield 60, 3) := by decide +kernel
theorem d_FB_back_4 : decode prog_1_method_43_code 4 = .ok (.ifCond .ne 5, 3) := by decide +kernel
theorem d_FB_back_7 : decode prog_1_method_43_code 7 = .ok (.iconst 0, 1) := by decide +kernel
theorem d_FB_back_8 : decode prog_1_method_43_code 8 = .ok (.ireturn, 1) := by decide +kernel
theorem d_FB_back_9 : decode prog_1_method_43_code 9 = .ok (.aload_n 0, 1) := by decide +kernel
theorem d_FB_back_10 : decode prog_1_method_43_code 10 = .ok (.aload_n 0, 1) := by decide +kernel
theorem d_FB_back_11 : decode prog_1_method_43_code 11 = .ok (.getfield 32, 3) := by decide +kernel
theorem d_FB_back_14 : decode prog_1_method_43_code 14 = .ok (.invokevirtual 93, 3) := by decide +kernel
theorem d_FB_back_17 : decode prog_1_method_43_code 17 = .ok (.iconst 1, 1) := by decide +kernel
theorem d_FB_back_18 : decode prog_1_method_43_code 18 = .ok (.ireturn, 1) := by decide +kernel
theorem mb_FB_takeOver : MBv R_FB y_FB_takeOver prog_1_method_53_code 2 none 1 := ⟨mT3 4 (by decide +kernel) (by decide +kernel), mTs 0 (by decide +kernel) (by decide +kernel), mT1 1 (by decide +kernel) (by decide +kernel), mT3 5 (by decide +kernel) (by decide +kernel), by decide, rfl, by decide +kernel, by decide +kernel, by decide +kernel⟩
theorem lk_FB_93 : Cond.methodLink "FeastBook" 93 y_FB_takeOver ∈ TT := mT3 2 (by decide +kernel) (by decide +kernel)
set_option maxHeartbeats 4000000 in
set_option maxRecDepth 100000 in
theorem c_FB_back {l : Launch} {D : va_G} {ad : Nat → Nat} {cA : Nat → ClassId} {sd sv : Nat → Nat} {h : Hp} {N : Nat} {out : (Int × Hp)} (hI : Inj97 ad) (hM : M_FB_back N h = some out) : Met l y_FB_back (.code y_FB_back prog_1_method_43_code 1 (some .boolean) :: TT) (rmD 6) (PC D ad cA sd sv h [.ref (ad 0)]) (QI D ad cA out) 0 0 (FA ad) := by
  unfold M_FB_back at hM
  refine entM (by decide +kernel) hI (Nat.le_of_ble_eq_true rfl) ?_
  intro p e s m args below meth c C hr hlk hP ls hl
  have C : Cx p s m args c prog_1_method_43_code 1 "FeastBook" D ad cA sd sv (FA ad) := C
  have hl : lv_has ls 1 [(0, .ref (ad 0))] := hl
  have w : Wd s D ad cA (FA ad) h s.heap [] := ⟨hP, va_S.rf⟩
  refine m_aload_n C hl 0 d_FB_back_0 rfl rfl ?_
  refine m_geti C w.1 kc_FB sh_0 (Nat.le_of_ble_eq_true rfl) 7 rfl (by decide) fk_FB_60 d_FB_back_1 ?_
  refine m_if_ne C hM 9 d_FB_back_4 (by decide) (fun hM => ?_) (fun hM => ?_)
  · refine m_aload_n C hl 0 d_FB_back_9 rfl rfl ?_
    refine m_aload_n C hl 0 d_FB_back_10 rfl rfl ?_
    refine m_getr C w.1 kc_FB sh_0 (Nat.le_of_ble_eq_true rfl) 3 42 rfl (by decide) fk_FB_32 d_FB_back_11 ?_
    obtain ⟨h2, e1, hM⟩ := bnd_some hM
    refine aftV C w (runV C w.1 w.2 kc_FB sh_0 (Nat.le_of_ble_eq_true rfl) (c_FB_takeOver hI (Or.inr (Or.inr rfl)) e1) lk_FB_93 mb_FB_takeOver rfl ⟨Nat.le_of_ble_eq_true rfl, Nat.le_of_ble_eq_true rfl⟩ ⟨Nat.zero_le _, Nat.zero_le _⟩ (Nat.le_of_ble_eq_true rfl) d_FB_back_14 hl.1 (rest := []) rfl) (fun H locs w => ?_)
    refine m_iconst C d_FB_back_17 ?_
    exact m_zretW C w hr hlk hM d_FB_back_18
  · refine m_iconst C d_FB_back_7 ?_
    exact m_zretW C w hr hlk hM d_FB_back_8
def y_FB_count : MethodName := ⟨"FeastBook", "count", "(I)I"⟩
theorem d_FB_count_0 : decode prog_1_method_44_code 0 = .ok (.iload_n 1, 1) := by decide +kernel
theorem d_FB_count_1 : decode prog_1_method_44_code 1 = .ok (.tableswitch 156 0 10 #[59, 67, 75, 86, 97, 108, 116, 124, 132, 140, 148], 59) := by decide +kernel
theorem d_FB_count_60 : decode prog_1_method_44_code 60 = .ok (.aload_n 0, 1) := by decide +kernel
theorem d_FB_count_61 : decode prog_1_method_44_code 61 = .ok (.getfield 28, 3) := by decide +kernel
theorem d_FB_count_64 : decode prog_1_method_44_code 64 = .ok (.getfield 298, 3) := by decide +kernel
theorem d_FB_count_67 : decode prog_1_method_44_code 67 = .ok (.ireturn, 1) := by decide +kernel
theorem d_FB_count_68 : decode prog_1_method_44_code 68 = .ok (.aload_n 0, 1) := by decide +kernel
theorem d_FB_count_69 : decode prog_1_method_44_code 69 = .ok (.getfield 28, 3) := by decide +kernel
theorem d_FB_count_72 : decode prog_1_method_44_code 72 = .ok (.getfield 357, 3) := by decide +kernel
theorem d_FB_count_75 : decode prog_1_method_44_code 75 = .ok (.ireturn, 1) := by decide +kernel
theorem d_FB_count_76 : decode prog_1_method_44_code 76 = .ok (.aload_n 0, 1) := by decide +kernel
theorem d_FB_count_77 : decode prog_1_method_44_code 77 = .ok (.getfield 28, 3) := by decide +kernel
theorem d_FB_count_80 : decode prog_1_method_44_code 80 = .ok (.getfield 96, 3) := by decide +kernel
theorem d_FB_count_83 : decode prog_1_method_44_code 83 = .ok (.getfield 100, 3) := by decide +kernel
theorem d_FB_count_86 : decode prog_1_method_44_code 86 = .ok (.ireturn, 1) := by decide +kernel
theorem d_FB_count_87 : decode prog_1_method_44_code 87 = .ok (.aload_n 0, 1) := by decide +kernel
theorem d_FB_count_88 : decode prog_1_method_44_code 88 = .ok (.getfield 28, 3) := by decide +kernel
theorem d_FB_count_91 : decode prog_1_method_44_code 91 = .ok (.getfield 359, 3) := by decide +kernel
theorem d_FB_count_94 : decode prog_1_method_44_code 94 = .ok (.getfield 362, 3) := by decide +kernel
theorem d_FB_count_97 : decode prog_1_method_44_code 97 = .ok (.ireturn, 1) := by decide +kernel
theorem d_FB_count_98 : decode prog_1_method_44_code 98 = .ok (.aload_n 0, 1) := by decide +kernel
theorem d_FB_count_99 : decode prog_1_method_44_code 99 = .ok (.getfield 28, 3) := by decide +kernel
theorem d_FB_count_102 : decode prog_1_method_44_code 102 = .ok (.getfield 150, 3) := by decide +kernel
theorem d_FB_count_105 : decode prog_1_method_44_code 105 = .ok (.getfield 362, 3) := by decide +kernel
theorem d_FB_count_108 : decode prog_1_method_44_code 108 = .ok (.ireturn, 1) := by decide +kernel
theorem d_FB_count_109 : decode prog_1_method_44_code 109 = .ok (.aload_n 0, 1) := by decide +kernel
theorem d_FB_count_110 : decode prog_1_method_44_code 110 = .ok (.getfield 28, 3) := by decide +kernel
theorem d_FB_count_113 : decode prog_1_method_44_code 113 = .ok (.getfield 251, 3) := by decide +kernel
theorem d_FB_count_116 : decode prog_1_method_44_code 116 = .ok (.ireturn, 1) := by decide +kernel
theorem d_FB_count_117 : decode prog_1_method_44_code 117 = .ok (.aload_n 0, 1) := by decide +kernel
theorem d_FB_count_118 : decode prog_1_method_44_code 118 = .ok (.getfield 28, 3) := by decide +kernel
theorem d_FB_count_121 : decode prog_1_method_44_code 121 = .ok (.getfield 363, 3) := by decide +kernel
theorem d_FB_count_124 : decode prog_1_method_44_code 124 = .ok (.ireturn, 1) := by decide +kernel
theorem d_FB_count_125 : decode prog_1_method_44_code 125 = .ok (.aload_n 0, 1) := by decide +kernel
theorem d_FB_count_126 : decode prog_1_method_44_code 126 = .ok (.getfield 28, 3) := by decide +kernel
theorem d_FB_count_129 : decode prog_1_method_44_code 129 = .ok (.getfield 366, 3) := by decide +kernel
theorem d_FB_count_132 : decode prog_1_method_44_code 132 = .ok (.ireturn, 1) := by decide +kernel
theorem d_FB_count_133 : decode prog_1_method_44_code 133 = .ok (.aload_n 0, 1) := by decide +kernel
theorem d_FB_count_134 : decode prog_1_method_44_code 134 = .ok (.getfield 38, 3) := by decide +kernel
theorem d_FB_count_137 : decode prog_1_method_44_code 137 = .ok (.getfield 257, 3) := by decide +kernel
theorem d_FB_count_140 : decode prog_1_method_44_code 140 = .ok (.ireturn, 1) := by decide +kernel
theorem d_FB_count_141 : decode prog_1_method_44_code 141 = .ok (.aload_n 0, 1) := by decide +kernel
theorem d_FB_count_142 : decode prog_1_method_44_code 142 = .ok (.getfield 28, 3) := by decide +kernel
theorem d_FB_count_145 : decode prog_1_method_44_code 145 = .ok (.getfield 369, 3) := by decide +kernel
theorem d_FB_count_148 : decode prog_1_method_44_code 148 = .ok (.ireturn, 1) := by decide +kernel
theorem d_FB_count_149 : decode prog_1_method_44_code 149 = .ok (.aload_n 0, 1) := by decide +kernel
theorem d_FB_count_150 : decode prog_1_method_44_code 150 = .ok (.getfield 28, 3) := by decide +kernel
theorem d_FB_count_153 : decode prog_1_method_44_code 153 = .ok (.getfield 372, 3) := by decide +kernel
theorem d_FB_count_156 : decode prog_1_method_44_code 156 = .ok (.ireturn, 1) := by decide +kernel
theorem d_FB_count_157 : decode prog_1_method_44_code 157 = .ok (.iconst (-1), 1) := by decide +kernel
theorem d_FB_count_158 : decode prog_1_method_44_code 158 = .ok (.ireturn, 1) := by decide +kernel
theorem fk_FB_150 : Cond.fieldLink "FeastBook" 150 (T_Book 16).1 (T_Book 16).2.1 (T_Book 16).2.2.1 ∈ TT := mT1 198 (by decide +kernel) (by decide +kernel)
theorem fk_FB_251 : Cond.fieldLink "FeastBook" 251 (T_Book 10).1 (T_Book 10).2.1 (T_Book 10).2.2.1 ∈ TT := mT1 180 (by decide +kernel) (by decide +kernel)
theorem fk_FB_298 : Cond.fieldLink "FeastBook" 298 (T_Book 1).1 (T_Book 1).2.1 (T_Book 1).2.2.1 ∈ TT := mT1 158 (by decide +kernel) (by decide +kernel)
theorem fk_FB_357 : Cond.fieldLink "FeastBook" 357 (T_Book 2).1 (T_Book 2).2.1 (T_Book 2).2.2.1 ∈ TT := mT1 161 (by decide +kernel) (by decide +kernel)
theorem fk_FB_359 : Cond.fieldLink "FeastBook" 359 (T_Book 15).1 (T_Book 15).2.1 (T_Book 15).2.2.1 ∈ TT := mT1 196 (by decide +kernel) (by decide +kernel)
theorem fk_FB_362 : Cond.fieldLink "FeastBook" 362 (T_Spans 0).1 (T_Spans 0).2.1 (T_Spans 0).2.2.1 ∈ TT := mT1 78 (by decide +kernel) (by decide +kernel)
theorem fk_FB_363 : Cond.fieldLink "FeastBook" 363 (T_Book 11).1 (T_Book 11).2.1 (T_Book 11).2.2.1 ∈ TT := mT1 183 (by decide +kernel) (by decide +kernel)
theorem fk_FB_366 : Cond.fieldLink "FeastBook" 366 (T_Book 4).1 (T_Book 4).2.1 (T_Book 4).2.2.1 ∈ TT := mT1 166 (by decide +kernel) (by decide +kernel)
theorem fk_FB_369 : Cond.fieldLink "FeastBook" 369 (T_Book 13).1 (T_Book 13).2.1 (T_Book 13).2.2.1 ∈ TT := mT1 191 (by decide +kernel) (by decide +kernel)
theorem fk_FB_372 : Cond.fieldLink "FeastBook" 372 (T_Book 12).1 (T_Book 12).2.1 (T_Book 12).2.2.1 ∈ TT := mT1 187 (by decide +kernel) (by decide +kernel)
set_option maxHeartbeats 4000000 in
set_option maxRecDepth 100000 in
theorem c_FB_count {l : Launch} {D : va_G} {ad : Nat → Nat} {cA : Nat → ClassId} {sd sv : Nat → Nat} {h : Hp} {a1 : Int} {out : Int} (hI : Inj97 ad) (hM : M_FB_count h a1 = some out) : Met l y_FB_count (.code y_FB_count prog_1_method_44_code 2 (some .int) :: TT) (rmD 0) (PC D ad cA sd sv h [.ref (ad 0), .int (iZ a1)]) (QR out) 0 0 (fun _ => False) := by
  unfold M_FB_count at hM
  refine entM (by decide +kernel) hI (Nat.le_of_ble_eq_true rfl) ?_
  intro p e s m args below meth c C hr hlk hP ls hl
  have C : Cx p s m args c prog_1_method_44_code 2 "FeastBook" D ad cA sd sv (FA ad) := C
  have hl : lv_has ls 2 [(0, .ref (ad 0)), (1, .int (iZ a1))] := hl
  refine m_iload_n C hl 1 d_FB_count_0 rfl rfl ?_
  refine m_swc 0 hM (fun ek hM => ?_) (fun hn0 hM => ?_)
  · refine lv_tableIn C.1 C.2.1 d_FB_count_1 (tgt := 60) (off := 59) (by rw [ek]; decide) (by rw [ek]; decide) (by rw [ek]; rfl) (by decide) ?_
    refine m_aload_n C hl 0 d_FB_count_60 rfl rfl ?_
    refine m_getr C hP kc_FB sh_0 (Nat.le_of_ble_eq_true rfl) 2 23 rfl (by decide) fk_FB_28 d_FB_count_61 ?_
    refine m_geti C hP kc_Book sh_23 (Nat.le_of_ble_eq_true rfl) 1 rfl (by decide) fk_FB_298 d_FB_count_64 ?_
    exact m_iretR C hr hlk hM d_FB_count_67
  · refine m_swc 1 hM (fun ek hM => ?_) (fun hn1 hM => ?_)
    · refine lv_tableIn C.1 C.2.1 d_FB_count_1 (tgt := 68) (off := 67) (by rw [ek]; decide) (by rw [ek]; decide) (by rw [ek]; rfl) (by decide) ?_
      refine m_aload_n C hl 0 d_FB_count_68 rfl rfl ?_
      refine m_getr C hP kc_FB sh_0 (Nat.le_of_ble_eq_true rfl) 2 23 rfl (by decide) fk_FB_28 d_FB_count_69 ?_
      refine m_geti C hP kc_Book sh_23 (Nat.le_of_ble_eq_true rfl) 2 rfl (by decide) fk_FB_357 d_FB_count_72 ?_
      exact m_iretR C hr hlk hM d_FB_count_75
    · refine m_swc 2 hM (fun ek hM => ?_) (fun hn2 hM => ?_)
      · refine lv_tableIn C.1 C.2.1 d_FB_count_1 (tgt := 76) (off := 75) (by rw [ek]; decide) (by rw [ek]; decide) (by rw [ek]; rfl) (by decide) ?_
        refine m_aload_n C hl 0 d_FB_count_76 rfl rfl ?_
        refine m_getr C hP kc_FB sh_0 (Nat.le_of_ble_eq_true rfl) 2 23 rfl (by decide) fk_FB_28 d_FB_count_77 ?_
        refine m_getr C hP kc_Book sh_23 (Nat.le_of_ble_eq_true rfl) 17 33 rfl (by decide) fk_FB_96 d_FB_count_80 ?_
        refine m_geti C hP kc_Feasts sh_33 (Nat.le_of_ble_eq_true rfl) 0 rfl (by decide) fk_FB_100 d_FB_count_83 ?_
        exact m_iretR C hr hlk hM d_FB_count_86
      · refine m_swc 3 hM (fun ek hM => ?_) (fun hn3 hM => ?_)
        · refine lv_tableIn C.1 C.2.1 d_FB_count_1 (tgt := 87) (off := 86) (by rw [ek]; decide) (by rw [ek]; decide) (by rw [ek]; rfl) (by decide) ?_
          refine m_aload_n C hl 0 d_FB_count_87 rfl rfl ?_
          refine m_getr C hP kc_FB sh_0 (Nat.le_of_ble_eq_true rfl) 2 23 rfl (by decide) fk_FB_28 d_FB_count_88 ?_
          refine m_getr C hP kc_Book sh_23 (Nat.le_of_ble_eq_true rfl) 15 25 rfl (by decide) fk_FB_359 d_FB_count_91 ?_
          refine m_geti C hP kc_Spans sh_25 (Nat.le_of_ble_eq_true rfl) 0 rfl (by decide) fk_FB_362 d_FB_count_94 ?_
          exact m_iretR C hr hlk hM d_FB_count_97
        · refine m_swc 4 hM (fun ek hM => ?_) (fun hn4 hM => ?_)
          · refine lv_tableIn C.1 C.2.1 d_FB_count_1 (tgt := 98) (off := 97) (by rw [ek]; decide) (by rw [ek]; decide) (by rw [ek]; rfl) (by decide) ?_
            refine m_aload_n C hl 0 d_FB_count_98 rfl rfl ?_
            refine m_getr C hP kc_FB sh_0 (Nat.le_of_ble_eq_true rfl) 2 23 rfl (by decide) fk_FB_28 d_FB_count_99 ?_
            refine m_getr C hP kc_Book sh_23 (Nat.le_of_ble_eq_true rfl) 16 29 rfl (by decide) fk_FB_150 d_FB_count_102 ?_
            refine m_geti C hP kc_Spans sh_29 (Nat.le_of_ble_eq_true rfl) 0 rfl (by decide) fk_FB_362 d_FB_count_105 ?_
            exact m_iretR C hr hlk hM d_FB_count_108
          · refine m_swc 5 hM (fun ek hM => ?_) (fun hn5 hM => ?_)
            · refine lv_tableIn C.1 C.2.1 d_FB_count_1 (tgt := 109) (off := 108) (by rw [ek]; decide) (by rw [ek]; decide) (by rw [ek]; rfl) (by decide) ?_
              refine m_aload_n C hl 0 d_FB_count_109 rfl rfl ?_
              refine m_getr C hP kc_FB sh_0 (Nat.le_of_ble_eq_true rfl) 2 23 rfl (by decide) fk_FB_28 d_FB_count_110 ?_
              refine m_geti C hP kc_Book sh_23 (Nat.le_of_ble_eq_true rfl) 10 rfl (by decide) fk_FB_251 d_FB_count_113 ?_
              exact m_iretR C hr hlk hM d_FB_count_116
            · refine m_swc 6 hM (fun ek hM => ?_) (fun hn6 hM => ?_)
              · refine lv_tableIn C.1 C.2.1 d_FB_count_1 (tgt := 117) (off := 116) (by rw [ek]; decide) (by rw [ek]; decide) (by rw [ek]; rfl) (by decide) ?_
                refine m_aload_n C hl 0 d_FB_count_117 rfl rfl ?_
                refine m_getr C hP kc_FB sh_0 (Nat.le_of_ble_eq_true rfl) 2 23 rfl (by decide) fk_FB_28 d_FB_count_118 ?_
                refine m_geti C hP kc_Book sh_23 (Nat.le_of_ble_eq_true rfl) 11 rfl (by decide) fk_FB_363 d_FB_count_121 ?_
                exact m_iretR C hr hlk hM d_FB_count_124
              · refine m_swc 7 hM (fun ek hM => ?_) (fun hn7 hM => ?_)
                · refine lv_tableIn C.1 C.2.1 d_FB_count_1 (tgt := 125) (off := 124) (by rw [ek]; decide) (by rw [ek]; decide) (by rw [ek]; rfl) (by decide) ?_
                  refine m_aload_n C hl 0 d_FB_count_125 rfl rfl ?_
                  refine m_getr C hP kc_FB sh_0 (Nat.le_of_ble_eq_true rfl) 2 23 rfl (by decide) fk_FB_28 d_FB_count_126 ?_
                  refine m_geti C hP kc_Book sh_23 (Nat.le_of_ble_eq_true rfl) 4 rfl (by decide) fk_FB_366 d_FB_count_129 ?_
                  exact m_iretR C hr hlk hM d_FB_count_132
                · refine m_swc 8 hM (fun ek hM => ?_) (fun hn8 hM => ?_)
                  · refine lv_tableIn C.1 C.2.1 d_FB_count_1 (tgt := 133) (off := 132) (by rw [ek]; decide) (by rw [ek]; decide) (by rw [ek]; rfl) (by decide) ?_
                    refine m_aload_n C hl 0 d_FB_count_133 rfl rfl ?_
                    refine m_getr C hP kc_FB sh_0 (Nat.le_of_ble_eq_true rfl) 4 61 rfl (by decide) fk_FB_38 d_FB_count_134 ?_
                    refine m_geti C hP kc_Past sh_61 (Nat.le_of_ble_eq_true rfl) 0 rfl (by decide) fk_FB_257 d_FB_count_137 ?_
                    exact m_iretR C hr hlk hM d_FB_count_140
                  · refine m_swc 9 hM (fun ek hM => ?_) (fun hn9 hM => ?_)
                    · refine lv_tableIn C.1 C.2.1 d_FB_count_1 (tgt := 141) (off := 140) (by rw [ek]; decide) (by rw [ek]; decide) (by rw [ek]; rfl) (by decide) ?_
                      refine m_aload_n C hl 0 d_FB_count_141 rfl rfl ?_
                      refine m_getr C hP kc_FB sh_0 (Nat.le_of_ble_eq_true rfl) 2 23 rfl (by decide) fk_FB_28 d_FB_count_142 ?_
                      refine m_geti C hP kc_Book sh_23 (Nat.le_of_ble_eq_true rfl) 13 rfl (by decide) fk_FB_369 d_FB_count_145 ?_
                      exact m_iretR C hr hlk hM d_FB_count_148
                    · refine m_swc 10 hM (fun ek hM => ?_) (fun hn10 hM => ?_)
                      · refine lv_tableIn C.1 C.2.1 d_FB_count_1 (tgt := 149) (off := 148) (by rw [ek]; decide) (by rw [ek]; decide) (by rw [ek]; rfl) (by decide) ?_
                        refine m_aload_n C hl 0 d_FB_count_149 rfl rfl ?_
                        refine m_getr C hP kc_FB sh_0 (Nat.le_of_ble_eq_true rfl) 2 23 rfl (by decide) fk_FB_28 d_FB_count_150 ?_
                        refine m_geti C hP kc_Book sh_23 (Nat.le_of_ble_eq_true rfl) 12 rfl (by decide) fk_FB_372 d_FB_count_153 ?_
                        exact m_iretR C hr hlk hM d_FB_count_156
                      · refine lv_tableOut C.1 C.2.1 d_FB_count_1 (tgt := 157) ?_ (by decide) ?_
                        · have g0 := lv_neT hn0 (show (iZ 0).toInt = 0 from rfl); have g1 := lv_neT hn1 (show (iZ 1).toInt = 1 from rfl); have g2 := lv_neT hn2 (show (iZ 2).toInt = 2 from rfl); have g3 := lv_neT hn3 (show (iZ 3).toInt = 3 from rfl); have g4 := lv_neT hn4 (show (iZ 4).toInt = 4 from rfl); have g5 := lv_neT hn5 (show (iZ 5).toInt = 5 from rfl); have g6 := lv_neT hn6 (show (iZ 6).toInt = 6 from rfl); have g7 := lv_neT hn7 (show (iZ 7).toInt = 7 from rfl); have g8 := lv_neT hn8 (show (iZ 8).toInt = 8 from rfl); have g9 := lv_neT hn9 (show (iZ 9).toInt = 9 from rfl); have g10 := lv_neT hn10 (show (iZ 10).toInt = 10 from rfl); omega
                        · refine m_iconst C d_FB_count_157 ?_
                          exact m_iretR C hr hlk hM d_FB_count_158
def y_Reader_skipBlanks : MethodName := ⟨"FeastBook$Reader", "skipBlanks", "()V"⟩
theorem d_Reader_skipBlanks_0 : decode prog_6_method_22_code 0 = .ok (.aload_n 0, 1) := by decide +kernel
theorem d_Reader_skipBlanks_1 : decode prog_6_method_22_code 1 = .ok (.getfield 22, 3) := by decide +kernel
theorem d_Reader_skipBlanks_4 : decode prog_6_method_22_code 4 = .ok (.aload_n 0, 1) := by decide +kernel
theorem d_Reader_skipBlanks_5 : decode prog_6_method_22_code 5 = .ok (.getfield 18, 3) := by decide +kernel
theorem d_Reader_skipBlanks_8 : decode prog_6_method_22_code 8 = .ok (.getfield 133, 3) := by decide +kernel
theorem d_Reader_skipBlanks_11 : decode prog_6_method_22_code 11 = .ok (.if_icmp .ge 32, 3) := by decide +kernel
theorem d_Reader_skipBlanks_14 : decode prog_6_method_22_code 14 = .ok (.aload_n 0, 1) := by decide +kernel
theorem d_Reader_skipBlanks_15 : decode prog_6_method_22_code 15 = .ok (.getfield 18, 3) := by decide +kernel
theorem d_Reader_skipBlanks_18 : decode prog_6_method_22_code 18 = .ok (.aload_n 0, 1) := by decide +kernel
theorem d_Reader_skipBlanks_19 : decode prog_6_method_22_code 19 = .ok (.getfield 22, 3) := by decide +kernel
theorem d_Reader_skipBlanks_22 : decode prog_6_method_22_code 22 = .ok (.invokevirtual 138, 3) := by decide +kernel
theorem d_Reader_skipBlanks_25 : decode prog_6_method_22_code 25 = .ok (.bipush 32, 2) := by decide +kernel
theorem d_Reader_skipBlanks_27 : decode prog_6_method_22_code 27 = .ok (.if_icmp .ne 16, 3) := by decide +kernel
theorem d_Reader_skipBlanks_30 : decode prog_6_method_22_code 30 = .ok (.aload_n 0, 1) := by decide +kernel
theorem d_Reader_skipBlanks_31 : decode prog_6_method_22_code 31 = .ok (.dup, 1) := by decide +kernel
theorem d_Reader_skipBlanks_32 : decode prog_6_method_22_code 32 = .ok (.getfield 22, 3) := by decide +kernel
theorem d_Reader_skipBlanks_35 : decode prog_6_method_22_code 35 = .ok (.iconst 1, 1) := by decide +kernel
theorem d_Reader_skipBlanks_36 : decode prog_6_method_22_code 36 = .ok (.iadd, 1) := by decide +kernel
theorem d_Reader_skipBlanks_37 : decode prog_6_method_22_code 37 = .ok (.putfield 22, 3) := by decide +kernel
theorem d_Reader_skipBlanks_40 : decode prog_6_method_22_code 40 = .ok (.goto (-40), 3) := by decide +kernel
theorem d_Reader_skipBlanks_43 : decode prog_6_method_22_code 43 = .ok (.return_, 1) := by decide +kernel
theorem mb_Tape_at : MBv R_Tape y_Tape_at prog_10_method_4_code 2 (some .int) 1 := ⟨mT3 95 (by decide +kernel) (by decide +kernel), mT3 96 (by decide +kernel) (by decide +kernel), mT1 2 (by decide +kernel) (by decide +kernel), mT3 97 (by decide +kernel) (by decide +kernel), by decide, rfl, by decide +kernel, by decide +kernel, by decide +kernel⟩
theorem fk_Reader_133 : Cond.fieldLink "FeastBook$Reader" 133 (T_Tape 1).1 (T_Tape 1).2.1 (T_Tape 1).2.2.1 ∈ TT := mT1 50 (by decide +kernel) (by decide +kernel)
theorem fk_Reader_18 : Cond.fieldLink "FeastBook$Reader" 18 (T_Reader 0).1 (T_Reader 0).2.1 (T_Reader 0).2.2.1 ∈ TT := mT2 3 (by decide +kernel) (by decide +kernel)
theorem fk_Reader_22 : Cond.fieldLink "FeastBook$Reader" 22 (T_Reader 2).1 (T_Reader 2).2.1 (T_Reader 2).2.2.1 ∈ TT := mT2 6 (by decide +kernel) (by decide +kernel)
theorem lk_Reader_138 : Cond.methodLink "FeastBook$Reader" 138 y_Tape_at ∈ TT := mT3 94 (by decide +kernel) (by decide +kernel)
set_option maxHeartbeats 4000000 in
set_option maxRecDepth 100000 in
theorem w_Reader_skipBlanks_L0 {p : Program} {l : Launch} {e : Env} {s : State} {m : MethodId} {args : Array Value} {below : List Frame} {meth : Method} {c : Code} {D : va_G} {ad : Nat → Nat} {cA : Nat → ClassId} {sd sv : Nat → Nat} {out : Hp} (N : Nat) (hI : Inj97 ad) (C : Cx p s m args c prog_6_method_22_code 1 "FeastBook$Reader" D ad cA sd sv (FA ad)) (hr : meth.sig.returnType = none) (hlk : meth.locks = false) : ∀ (n : Nat) (h : Hp) (H : Heap) (locs : List Loc), Wd s D ad cA (FA ad) h H locs → ∀ ls : Array Slot, lv_has ls 1 [(0, .ref (ad 3))] → Reader_skipBlanks_L0 N n h = some out → W p l e (rmD 1) s m args below meth c H locs 0 0 (MQ below (QV D ad cA out) args s 0 0 (FA ad)) (F0 m 0 ls []) := by
  intro n
  induction n with
  | zero =>
    intro h H locs w ls hl hM
    rw [Reader_skipBlanks_L0] at hM
    cases hM
  | succ n ih =>
    intro h H locs w ls hl hM
    rw [Reader_skipBlanks_L0] at hM
    refine m_aload_n C hl 0 d_Reader_skipBlanks_0 rfl rfl ?_
    refine m_geti C w.1 kc_Reader sh_3 (Nat.le_of_ble_eq_true rfl) 2 rfl (by decide) fk_Reader_22 d_Reader_skipBlanks_1 ?_
    refine m_aload_n C hl 0 d_Reader_skipBlanks_4 rfl rfl ?_
    refine m_getr C w.1 kc_Reader sh_3 (Nat.le_of_ble_eq_true rfl) 0 1 rfl (by decide) fk_Reader_18 d_Reader_skipBlanks_5 ?_
    refine m_geti C w.1 kc_Tape sh_1 (Nat.le_of_ble_eq_true rfl) 1 rfl (by decide) fk_Reader_133 d_Reader_skipBlanks_8 ?_
    refine m_icmp_ge C hM 43 d_Reader_skipBlanks_11 (by decide) (fun hM => ?_) (fun hM => ?_)
    · exact m_vretW C w hr hlk hM d_Reader_skipBlanks_43
    · refine m_aload_n C hl 0 d_Reader_skipBlanks_14 rfl rfl ?_
      refine m_getr C w.1 kc_Reader sh_3 (Nat.le_of_ble_eq_true rfl) 0 1 rfl (by decide) fk_Reader_18 d_Reader_skipBlanks_15 ?_
      refine m_aload_n C hl 0 d_Reader_skipBlanks_18 rfl rfl ?_
      refine m_geti C w.1 kc_Reader sh_3 (Nat.le_of_ble_eq_true rfl) 2 rfl (by decide) fk_Reader_22 d_Reader_skipBlanks_19 ?_
      obtain ⟨x2, e1, hM⟩ := bnd_some hM
      refine aftR (runV C w.1 w.2 kc_Tape sh_1 (Nat.le_of_ble_eq_true rfl) (c_Tape_at hI e1) lk_Reader_138 mb_Tape_at rfl ⟨Nat.le_of_ble_eq_true rfl, Nat.le_of_ble_eq_true rfl⟩ ⟨Nat.zero_le _, Nat.zero_le _⟩ (Nat.le_of_ble_eq_true rfl) d_Reader_skipBlanks_22 hl.1 (rest := []) rfl) ?_
      refine m_bipush C d_Reader_skipBlanks_25 (by decide) ?_
      refine m_icmp_ne C hM 43 d_Reader_skipBlanks_27 (by decide) (fun hM => ?_) (fun hM => ?_)
      · exact m_vretW C w hr hlk hM d_Reader_skipBlanks_43
      · refine m_aload_n C hl 0 d_Reader_skipBlanks_30 rfl rfl ?_
        refine m_dup C d_Reader_skipBlanks_31 rfl ?_
        refine m_geti C w.1 kc_Reader sh_3 (Nat.le_of_ble_eq_true rfl) 2 rfl (by decide) fk_Reader_22 d_Reader_skipBlanks_32 ?_
        refine m_iconst C d_Reader_skipBlanks_35 ?_
        refine m_iadd C d_Reader_skipBlanks_36 ?_
        refine m_puti C w kc_Reader sh_3 (Nat.le_of_ble_eq_true rfl) 2 hM rfl (by decide) rfl rfl fk_Reader_22 d_Reader_skipBlanks_37 (fun h3 H locs w hM => ?_)
        refine m_goto C 0 d_Reader_skipBlanks_40 (by decide) ?_
        exact ih  h3 _ _ w _ hl hM
set_option maxHeartbeats 4000000 in
set_option maxRecDepth 100000 in
theorem c_Reader_skipBlanks {l : Launch} {D : va_G} {ad : Nat → Nat} {cA : Nat → ClassId} {sd sv : Nat → Nat} {h : Hp} {N : Nat} {out : Hp} (hI : Inj97 ad) (hM : M_Reader_skipBlanks N h = some out) : Met l y_Reader_skipBlanks (.code y_Reader_skipBlanks prog_6_method_22_code 1 none :: TT) (rmD 1) (PC D ad cA sd sv h [.ref (ad 3)]) (QV D ad cA out) 0 0 (FA ad) := by
  unfold M_Reader_skipBlanks at hM
  refine entM (by decide +kernel) hI (Nat.le_of_ble_eq_true rfl) ?_
  intro p e s m args below meth c C hr hlk hP ls hl
  have C : Cx p s m args c prog_6_method_22_code 1 "FeastBook$Reader" D ad cA sd sv (FA ad) := C
  have hl : lv_has ls 1 [(0, .ref (ad 3))] := hl
  have w : Wd s D ad cA (FA ad) h s.heap [] := ⟨hP, va_S.rf⟩
  exact w_Reader_skipBlanks_L0 N hI C hr hlk  _  h _ _ w _ hl hM
def y_Reader_readWord : MethodName := ⟨"FeastBook$Reader", "readWord", "()V"⟩
theorem d_Reader_readWord_0 : decode prog_6_method_15_code 0 = .ok (.aload_n 0, 1) := by decide +kernel
theorem d_Reader_readWord_1 : decode prog_6_method_15_code 1 = .ok (.invokevirtual 130, 3) := by decide +kernel
theorem d_Reader_readWord_4 : decode prog_6_method_15_code 4 = .ok (.aload_n 0, 1) := by decide +kernel
theorem d_Reader_readWord_5 : decode prog_6_method_15_code 5 = .ok (.aload_n 0, 1) := by decide +kernel
theorem d_Reader_readWord_6 : decode prog_6_method_15_code 6 = .ok (.getfield 22, 3) := by decide +kernel
theorem d_Reader_readWord_9 : decode prog_6_method_15_code 9 = .ok (.putfield 26, 3) := by decide +kernel
theorem d_Reader_readWord_12 : decode prog_6_method_15_code 12 = .ok (.aload_n 0, 1) := by decide +kernel
theorem d_Reader_readWord_13 : decode prog_6_method_15_code 13 = .ok (.getfield 22, 3) := by decide +kernel
theorem d_Reader_readWord_16 : decode prog_6_method_15_code 16 = .ok (.aload_n 0, 1) := by decide +kernel
theorem d_Reader_readWord_17 : decode prog_6_method_15_code 17 = .ok (.getfield 18, 3) := by decide +kernel
theorem d_Reader_readWord_20 : decode prog_6_method_15_code 20 = .ok (.getfield 133, 3) := by decide +kernel
theorem d_Reader_readWord_23 : decode prog_6_method_15_code 23 = .ok (.if_icmp .ge 48, 3) := by decide +kernel
theorem d_Reader_readWord_26 : decode prog_6_method_15_code 26 = .ok (.aload_n 0, 1) := by decide +kernel
theorem d_Reader_readWord_27 : decode prog_6_method_15_code 27 = .ok (.getfield 18, 3) := by decide +kernel
theorem d_Reader_readWord_30 : decode prog_6_method_15_code 30 = .ok (.aload_n 0, 1) := by decide +kernel
theorem d_Reader_readWord_31 : decode prog_6_method_15_code 31 = .ok (.getfield 22, 3) := by decide +kernel
theorem d_Reader_readWord_34 : decode prog_6_method_15_code 34 = .ok (.invokevirtual 138, 3) := by decide +kernel
theorem d_Reader_readWord_37 : decode prog_6_method_15_code 37 = .ok (.bipush 97, 2) := by decide +kernel
theorem d_Reader_readWord_39 : decode prog_6_method_15_code 39 = .ok (.if_icmp .lt 32, 3) := by decide +kernel
theorem d_Reader_readWord_42 : decode prog_6_method_15_code 42 = .ok (.aload_n 0, 1) := by decide +kernel
theorem d_Reader_readWord_43 : decode prog_6_method_15_code 43 = .ok (.getfield 18, 3) := by decide +kernel
theorem d_Reader_readWord_46 : decode prog_6_method_15_code 46 = .ok (.aload_n 0, 1) := by decide +kernel
theorem d_Reader_readWord_47 : decode prog_6_method_15_code 47 = .ok (.getfield 22, 3) := by decide +kernel
theorem d_Reader_readWord_50 : decode prog_6_method_15_code 50 = .ok (.invokevirtual 138, 3) := by decide +kernel
theorem d_Reader_readWord_53 : decode prog_6_method_15_code 53 = .ok (.bipush 122, 2) := by decide +kernel
theorem d_Reader_readWord_55 : decode prog_6_method_15_code 55 = .ok (.if_icmp .gt 16, 3) := by decide +kernel
theorem d_Reader_readWord_58 : decode prog_6_method_15_code 58 = .ok (.aload_n 0, 1) := by decide +kernel
theorem d_Reader_readWord_59 : decode prog_6_method_15_code 59 = .ok (.dup, 1) := by decide +kernel
theorem d_Reader_readWord_60 : decode prog_6_method_15_code 60 = .ok (.getfield 22, 3) := by decide +kernel
theorem d_Reader_readWord_63 : decode prog_6_method_15_code 63 = .ok (.iconst 1, 1) := by decide +kernel
theorem d_Reader_readWord_64 : decode prog_6_method_15_code 64 = .ok (.iadd, 1) := by decide +kernel
theorem d_Reader_readWord_65 : decode prog_6_method_15_code 65 = .ok (.putfield 22, 3) := by decide +kernel
theorem d_Reader_readWord_68 : decode prog_6_method_15_code 68 = .ok (.goto (-56), 3) := by decide +kernel
theorem d_Reader_readWord_71 : decode prog_6_method_15_code 71 = .ok (.return_, 1) := by decide +kernel
theorem mb_Reader_skipBlanks : MBv R_Reader y_Reader_skipBlanks prog_6_method_22_code 1 none 0 := ⟨mT3 91 (by decide +kernel) (by decide +kernel), mT3 92 (by decide +kernel) (by decide +kernel), mT1 3 (by decide +kernel) (by decide +kernel), mT3 93 (by decide +kernel) (by decide +kernel), by decide, rfl, by decide +kernel, by decide +kernel, by decide +kernel⟩
theorem fk_Reader_26 : Cond.fieldLink "FeastBook$Reader" 26 (T_Reader 3).1 (T_Reader 3).2.1 (T_Reader 3).2.2.1 ∈ TT := mT2 7 (by decide +kernel) (by decide +kernel)
theorem lk_Reader_130 : Cond.methodLink "FeastBook$Reader" 130 y_Reader_skipBlanks ∈ TT := mT3 90 (by decide +kernel) (by decide +kernel)
set_option maxHeartbeats 4000000 in
set_option maxRecDepth 100000 in
theorem w_Reader_readWord_L12 {p : Program} {l : Launch} {e : Env} {s : State} {m : MethodId} {args : Array Value} {below : List Frame} {meth : Method} {c : Code} {D : va_G} {ad : Nat → Nat} {cA : Nat → ClassId} {sd sv : Nat → Nat} {out : Hp} (N : Nat) (hI : Inj97 ad) (C : Cx p s m args c prog_6_method_15_code 1 "FeastBook$Reader" D ad cA sd sv (FA ad)) (hr : meth.sig.returnType = none) (hlk : meth.locks = false) : ∀ (n : Nat) (h : Hp) (H : Heap) (locs : List Loc), Wd s D ad cA (FA ad) h H locs → ∀ ls : Array Slot, lv_has ls 1 [(0, .ref (ad 3))] → Reader_readWord_L12 N n h = some out → W p l e (rmD 2) s m args below meth c H locs 0 0 (MQ below (QV D ad cA out) args s 0 0 (FA ad)) (F0 m 12 ls []) := by
  intro n
  induction n with
  | zero =>
    intro h H locs w ls hl hM
    rw [Reader_readWord_L12] at hM
    cases hM
  | succ n ih =>
    intro h H locs w ls hl hM
    rw [Reader_readWord_L12] at hM
    refine m_aload_n C hl 0 d_Reader_readWord_12 rfl rfl ?_
    refine m_geti C w.1 kc_Reader sh_3 (Nat.le_of_ble_eq_true rfl) 2 rfl (by decide) fk_Reader_22 d_Reader_readWord_13 ?_
    refine m_aload_n C hl 0 d_Reader_readWord_16 rfl rfl ?_
    refine m_getr C w.1 kc_Reader sh_3 (Nat.le_of_ble_eq_true rfl) 0 1 rfl (by decide) fk_Reader_18 d_Reader_readWord_17 ?_
    refine m_geti C w.1 kc_Tape sh_1 (Nat.le_of_ble_eq_true rfl) 1 rfl (by decide) fk_Reader_133 d_Reader_readWord_20 ?_
    refine m_icmp_ge C hM 71 d_Reader_readWord_23 (by decide) (fun hM => ?_) (fun hM => ?_)
    · exact m_vretW C w hr hlk hM d_Reader_readWord_71
    · refine m_aload_n C hl 0 d_Reader_readWord_26 rfl rfl ?_
      refine m_getr C w.1 kc_Reader sh_3 (Nat.le_of_ble_eq_true rfl) 0 1 rfl (by decide) fk_Reader_18 d_Reader_readWord_27 ?_
      refine m_aload_n C hl 0 d_Reader_readWord_30 rfl rfl ?_
      refine m_geti C w.1 kc_Reader sh_3 (Nat.le_of_ble_eq_true rfl) 2 rfl (by decide) fk_Reader_22 d_Reader_readWord_31 ?_
      obtain ⟨x5, e4, hM⟩ := bnd_some hM
      refine aftR (runV C w.1 w.2 kc_Tape sh_1 (Nat.le_of_ble_eq_true rfl) (c_Tape_at hI e4) lk_Reader_138 mb_Tape_at rfl ⟨Nat.le_of_ble_eq_true rfl, Nat.le_of_ble_eq_true rfl⟩ ⟨Nat.zero_le _, Nat.zero_le _⟩ (Nat.le_of_ble_eq_true rfl) d_Reader_readWord_34 hl.1 (rest := []) rfl) ?_
      refine m_bipush C d_Reader_readWord_37 (by decide) ?_
      refine m_icmp_lt C hM 71 d_Reader_readWord_39 (by decide) (fun hM => ?_) (fun hM => ?_)
      · exact m_vretW C w hr hlk hM d_Reader_readWord_71
      · refine m_aload_n C hl 0 d_Reader_readWord_42 rfl rfl ?_
        refine m_getr C w.1 kc_Reader sh_3 (Nat.le_of_ble_eq_true rfl) 0 1 rfl (by decide) fk_Reader_18 d_Reader_readWord_43 ?_
        refine m_aload_n C hl 0 d_Reader_readWord_46 rfl rfl ?_
        refine m_geti C w.1 kc_Reader sh_3 (Nat.le_of_ble_eq_true rfl) 2 rfl (by decide) fk_Reader_22 d_Reader_readWord_47 ?_
        obtain ⟨x7, e6, hM⟩ := bnd_some hM
        refine aftR (runV C w.1 w.2 kc_Tape sh_1 (Nat.le_of_ble_eq_true rfl) (c_Tape_at hI e6) lk_Reader_138 mb_Tape_at rfl ⟨Nat.le_of_ble_eq_true rfl, Nat.le_of_ble_eq_true rfl⟩ ⟨Nat.zero_le _, Nat.zero_le _⟩ (Nat.le_of_ble_eq_true rfl) d_Reader_readWord_50 hl.1 (rest := []) rfl) ?_
        refine m_bipush C d_Reader_readWord_53 (by decide) ?_
        refine m_icmp_gt C hM 71 d_Reader_readWord_55 (by decide) (fun hM => ?_) (fun hM => ?_)
        · exact m_vretW C w hr hlk hM d_Reader_readWord_71
        · refine m_aload_n C hl 0 d_Reader_readWord_58 rfl rfl ?_
          refine m_dup C d_Reader_readWord_59 rfl ?_
          refine m_geti C w.1 kc_Reader sh_3 (Nat.le_of_ble_eq_true rfl) 2 rfl (by decide) fk_Reader_22 d_Reader_readWord_60 ?_
          refine m_iconst C d_Reader_readWord_63 ?_
          refine m_iadd C d_Reader_readWord_64 ?_
          refine m_puti C w kc_Reader sh_3 (Nat.le_of_ble_eq_true rfl) 2 hM rfl (by decide) rfl rfl fk_Reader_22 d_Reader_readWord_65 (fun h8 H locs w hM => ?_)
          refine m_goto C 12 d_Reader_readWord_68 (by decide) ?_
          exact ih  h8 _ _ w _ hl hM
set_option maxHeartbeats 4000000 in
set_option maxRecDepth 100000 in
theorem c_Reader_readWord {l : Launch} {D : va_G} {ad : Nat → Nat} {cA : Nat → ClassId} {sd sv : Nat → Nat} {h : Hp} {N : Nat} {out : Hp} (hI : Inj97 ad) (hM : M_Reader_readWord N h = some out) : Met l y_Reader_readWord (.code y_Reader_readWord prog_6_method_15_code 1 none :: TT) (rmD 2) (PC D ad cA sd sv h [.ref (ad 3)]) (QV D ad cA out) 0 0 (FA ad) := by
  unfold M_Reader_readWord at hM
  refine entM (by decide +kernel) hI (Nat.le_of_ble_eq_true rfl) ?_
  intro p e s m args below meth c C hr hlk hP ls hl
  have C : Cx p s m args c prog_6_method_15_code 1 "FeastBook$Reader" D ad cA sd sv (FA ad) := C
  have hl : lv_has ls 1 [(0, .ref (ad 3))] := hl
  have w : Wd s D ad cA (FA ad) h s.heap [] := ⟨hP, va_S.rf⟩
  refine m_aload_n C hl 0 d_Reader_readWord_0 rfl rfl ?_
  obtain ⟨h2, e1, hM⟩ := bnd_some hM
  refine aftV C w (runV C w.1 w.2 kc_Reader sh_3 (Nat.le_of_ble_eq_true rfl) (c_Reader_skipBlanks hI e1) lk_Reader_130 mb_Reader_skipBlanks rfl ⟨Nat.le_of_ble_eq_true rfl, Nat.le_of_ble_eq_true rfl⟩ ⟨Nat.zero_le _, Nat.zero_le _⟩ (Nat.le_of_ble_eq_true rfl) d_Reader_readWord_1 hl.1 (rest := []) rfl) (fun H locs w => ?_)
  refine m_aload_n C hl 0 d_Reader_readWord_4 rfl rfl ?_
  refine m_aload_n C hl 0 d_Reader_readWord_5 rfl rfl ?_
  refine m_geti C w.1 kc_Reader sh_3 (Nat.le_of_ble_eq_true rfl) 2 rfl (by decide) fk_Reader_22 d_Reader_readWord_6 ?_
  refine m_puti C w kc_Reader sh_3 (Nat.le_of_ble_eq_true rfl) 3 hM rfl (by decide) rfl rfl fk_Reader_26 d_Reader_readWord_9 (fun h3 H locs w hM => ?_)
  exact w_Reader_readWord_L12 N hI C hr hlk  _  h3 _ _ w _ hl hM
def y_Reader_isWord : MethodName := ⟨"FeastBook$Reader", "isWord", "(Ljava/lang/String;)Z"⟩
theorem d_Reader_isWord_0 : decode prog_6_method_16_code 0 = .ok (.aload_n 0, 1) := by decide +kernel
theorem d_Reader_isWord_1 : decode prog_6_method_16_code 1 = .ok (.getfield 22, 3) := by decide +kernel
theorem d_Reader_isWord_4 : decode prog_6_method_16_code 4 = .ok (.aload_n 0, 1) := by decide +kernel
theorem d_Reader_isWord_5 : decode prog_6_method_16_code 5 = .ok (.getfield 26, 3) := by decide +kernel
theorem d_Reader_isWord_8 : decode prog_6_method_16_code 8 = .ok (.isub, 1) := by decide +kernel
theorem d_Reader_isWord_9 : decode prog_6_method_16_code 9 = .ok (.aload_n 1, 1) := by decide +kernel
theorem d_Reader_isWord_10 : decode prog_6_method_16_code 10 = .ok (.invokevirtual 230, 3) := by decide +kernel
theorem d_Reader_isWord_13 : decode prog_6_method_16_code 13 = .ok (.if_icmp .eq 5, 3) := by decide +kernel
theorem d_Reader_isWord_16 : decode prog_6_method_16_code 16 = .ok (.iconst 0, 1) := by decide +kernel
theorem d_Reader_isWord_17 : decode prog_6_method_16_code 17 = .ok (.ireturn, 1) := by decide +kernel
theorem d_Reader_isWord_18 : decode prog_6_method_16_code 18 = .ok (.iconst 0, 1) := by decide +kernel
theorem d_Reader_isWord_19 : decode prog_6_method_16_code 19 = .ok (.istore_n 2, 1) := by decide +kernel
theorem d_Reader_isWord_20 : decode prog_6_method_16_code 20 = .ok (.iload_n 2, 1) := by decide +kernel
theorem d_Reader_isWord_21 : decode prog_6_method_16_code 21 = .ok (.aload_n 1, 1) := by decide +kernel
theorem d_Reader_isWord_22 : decode prog_6_method_16_code 22 = .ok (.invokevirtual 230, 3) := by decide +kernel
theorem d_Reader_isWord_25 : decode prog_6_method_16_code 25 = .ok (.if_icmp .ge 32, 3) := by decide +kernel
theorem d_Reader_isWord_28 : decode prog_6_method_16_code 28 = .ok (.aload_n 0, 1) := by decide +kernel
theorem d_Reader_isWord_29 : decode prog_6_method_16_code 29 = .ok (.getfield 18, 3) := by decide +kernel
theorem d_Reader_isWord_32 : decode prog_6_method_16_code 32 = .ok (.aload_n 0, 1) := by decide +kernel
theorem d_Reader_isWord_33 : decode prog_6_method_16_code 33 = .ok (.getfield 26, 3) := by decide +kernel
theorem d_Reader_isWord_36 : decode prog_6_method_16_code 36 = .ok (.iload_n 2, 1) := by decide +kernel
theorem d_Reader_isWord_37 : decode prog_6_method_16_code 37 = .ok (.iadd, 1) := by decide +kernel
theorem d_Reader_isWord_38 : decode prog_6_method_16_code 38 = .ok (.invokevirtual 138, 3) := by decide +kernel
theorem d_Reader_isWord_41 : decode prog_6_method_16_code 41 = .ok (.aload_n 1, 1) := by decide +kernel
theorem d_Reader_isWord_42 : decode prog_6_method_16_code 42 = .ok (.iload_n 2, 1) := by decide +kernel
theorem d_Reader_isWord_43 : decode prog_6_method_16_code 43 = .ok (.invokevirtual 235, 3) := by decide +kernel
theorem d_Reader_isWord_46 : decode prog_6_method_16_code 46 = .ok (.if_icmp .eq 5, 3) := by decide +kernel
theorem d_Reader_isWord_49 : decode prog_6_method_16_code 49 = .ok (.iconst 0, 1) := by decide +kernel
theorem d_Reader_isWord_50 : decode prog_6_method_16_code 50 = .ok (.ireturn, 1) := by decide +kernel
theorem d_Reader_isWord_51 : decode prog_6_method_16_code 51 = .ok (.iinc 2 1, 3) := by decide +kernel
theorem d_Reader_isWord_54 : decode prog_6_method_16_code 54 = .ok (.goto (-34), 3) := by decide +kernel
theorem d_Reader_isWord_57 : decode prog_6_method_16_code 57 = .ok (.iconst 1, 1) := by decide +kernel
theorem d_Reader_isWord_58 : decode prog_6_method_16_code 58 = .ok (.ireturn, 1) := by decide +kernel
theorem lk_Reader_230 : Cond.methodLink "FeastBook$Reader" 230 y_Slen ∈ TT := mT3 103 (by decide +kernel) (by decide +kernel)
theorem lk_Reader_235 : Cond.methodLink "FeastBook$Reader" 235 y_Sca ∈ TT := mT3 113 (by decide +kernel) (by decide +kernel)
set_option maxHeartbeats 4000000 in
set_option maxRecDepth 100000 in
theorem w_Reader_isWord_L20 {p : Program} {l : Launch} {e : Env} {s : State} {m : MethodId} {args : Array Value} {below : List Frame} {meth : Method} {c : Code} {D : va_G} {ad : Nat → Nat} {cA : Nat → ClassId} {sd sv : Nat → Nat} {out : Int} (N : Nat) (t1 : Nat) (ht1 : t1 < 36) (hI : Inj97 ad) (C : Cx p s m args c prog_6_method_16_code 3 "FeastBook$Reader" D ad cA sd sv (FA ad)) (hr : meth.sig.returnType = (some .boolean)) (hlk : meth.locks = false) (h : Hp) (hP : va_P D clL (wl ad cA h) s.heap) : ∀ (n : Nat) (v2 : Int), ∀ ls : Array Slot, lv_has ls 3 [(0, .ref (ad 3)), (1, .ref (sd t1)), (2, .int (iZ v2))] → Reader_isWord_L20 N h t1 n v2 = some out → W p l e (rmD 4) s m args below meth c s.heap [] 0 0 (MQ below (QR out) args s 0 0 (fun _ => False)) (F0 m 20 ls []) := by
  intro n
  induction n with
  | zero =>
    intro v2 ls hl hM
    rw [Reader_isWord_L20] at hM
    cases hM
  | succ n ih =>
    intro v2 ls hl hM
    rw [Reader_isWord_L20] at hM
    refine m_iload_n C hl 2 d_Reader_isWord_20 rfl rfl ?_
    refine m_aload_n C hl 1 d_Reader_isWord_21 rfl rfl ?_
    refine aftR (runVS C hP va_S.rf ht1 (c_Slen hI ht1) lk_Reader_230 mb_Slen rfl ⟨Nat.le_of_ble_eq_true rfl, Nat.le_of_ble_eq_true rfl⟩ ⟨Nat.zero_le _, Nat.zero_le _⟩ (Nat.le_of_ble_eq_true rfl) d_Reader_isWord_22 hl.1 (rest := [.int (iZ v2)]) rfl) ?_
    refine m_icmp_ge C hM 57 d_Reader_isWord_25 (by decide) (fun hM => ?_) (fun hM => ?_)
    · refine m_iconst C d_Reader_isWord_57 ?_
      exact m_zretR C hr hlk hM d_Reader_isWord_58
    · refine m_aload_n C hl 0 d_Reader_isWord_28 rfl rfl ?_
      refine m_getr C hP kc_Reader sh_3 (Nat.le_of_ble_eq_true rfl) 0 1 rfl (by decide) fk_Reader_18 d_Reader_isWord_29 ?_
      refine m_aload_n C hl 0 d_Reader_isWord_32 rfl rfl ?_
      refine m_geti C hP kc_Reader sh_3 (Nat.le_of_ble_eq_true rfl) 3 rfl (by decide) fk_Reader_26 d_Reader_isWord_33 ?_
      refine m_iload_n C hl 2 d_Reader_isWord_36 rfl rfl ?_
      refine m_iadd C d_Reader_isWord_37 ?_
      obtain ⟨x2, e1, hM⟩ := bnd_some hM
      refine aftR (runV C hP va_S.rf kc_Tape sh_1 (Nat.le_of_ble_eq_true rfl) (c_Tape_at hI e1) lk_Reader_138 mb_Tape_at rfl ⟨Nat.le_of_ble_eq_true rfl, Nat.le_of_ble_eq_true rfl⟩ ⟨Nat.zero_le _, Nat.zero_le _⟩ (Nat.le_of_ble_eq_true rfl) d_Reader_isWord_38 hl.1 (rest := []) rfl) ?_
      refine m_aload_n C hl 1 d_Reader_isWord_41 rfl rfl ?_
      refine m_iload_n C hl 2 d_Reader_isWord_42 rfl rfl ?_
      obtain ⟨x3, e4, hM⟩ := bnd_some hM
      refine aftR (runVS C hP va_S.rf ht1 (c_Sca2 hI ht1 e4) lk_Reader_235 mb_Sca rfl ⟨Nat.le_of_ble_eq_true rfl, Nat.le_of_ble_eq_true rfl⟩ ⟨Nat.zero_le _, Nat.zero_le _⟩ (Nat.le_of_ble_eq_true rfl) d_Reader_isWord_43 hl.1 (rest := [.int (iZ x2)]) rfl) ?_
      refine m_icmp_eq C hM 51 d_Reader_isWord_46 (by decide) (fun hM => ?_) (fun hM => ?_)
      · refine m_iinc C hl 2 [(2, .int (iZ (v2 + 1))), (0, .ref (ad 3)), (1, .ref (sd t1))] d_Reader_isWord_51 rfl (by decide) rfl (fun ls hl => ?_)
        refine m_goto C 20 d_Reader_isWord_54 (by decide) ?_
        exact ih (v2 + 1) _ (lv_sub hl [1, 2, 0] rfl) hM
      · refine m_iconst C d_Reader_isWord_49 ?_
        exact m_zretR C hr hlk hM d_Reader_isWord_50
set_option maxHeartbeats 4000000 in
set_option maxRecDepth 100000 in
theorem c_Reader_isWord {l : Launch} {D : va_G} {ad : Nat → Nat} {cA : Nat → ClassId} {sd sv : Nat → Nat} {h : Hp} {N : Nat} {t1 : Nat} {out : Int} (hI : Inj97 ad) (ht1 : t1 < 36) (hM : M_Reader_isWord N h t1 = some out) : Met l y_Reader_isWord (.code y_Reader_isWord prog_6_method_16_code 3 (some .boolean) :: TT) (rmD 4) (PC D ad cA sd sv h [.ref (ad 3), .ref (sd t1)]) (QR out) 0 0 (fun _ => False) := by
  unfold M_Reader_isWord at hM
  refine entM (by decide +kernel) hI (Nat.le_of_ble_eq_true rfl) ?_
  intro p e s m args below meth c C hr hlk hP ls hl
  have C : Cx p s m args c prog_6_method_16_code 3 "FeastBook$Reader" D ad cA sd sv (FA ad) := C
  have hl : lv_has ls 3 [(0, .ref (ad 3)), (1, .ref (sd t1))] := hl
  refine m_aload_n C hl 0 d_Reader_isWord_0 rfl rfl ?_
  refine m_geti C hP kc_Reader sh_3 (Nat.le_of_ble_eq_true rfl) 2 rfl (by decide) fk_Reader_22 d_Reader_isWord_1 ?_
  refine m_aload_n C hl 0 d_Reader_isWord_4 rfl rfl ?_
  refine m_geti C hP kc_Reader sh_3 (Nat.le_of_ble_eq_true rfl) 3 rfl (by decide) fk_Reader_26 d_Reader_isWord_5 ?_
  refine m_isub C d_Reader_isWord_8 ?_
  refine m_aload_n C hl 1 d_Reader_isWord_9 rfl rfl ?_
  refine aftR (runVS C hP va_S.rf ht1 (c_Slen hI ht1) lk_Reader_230 mb_Slen rfl ⟨Nat.le_of_ble_eq_true rfl, Nat.le_of_ble_eq_true rfl⟩ ⟨Nat.zero_le _, Nat.zero_le _⟩ (Nat.le_of_ble_eq_true rfl) d_Reader_isWord_10 hl.1 (rest := [.int (iZ ((h 3 2) - (h 3 3)))]) rfl) ?_
  refine m_icmp_eq C hM 18 d_Reader_isWord_13 (by decide) (fun hM => ?_) (fun hM => ?_)
  · refine m_iconst C d_Reader_isWord_18 ?_
    refine m_istore_n C hl [(2, .int (iZ 0)), (0, .ref (ad 3)), (1, .ref (sd t1))] d_Reader_isWord_19 rfl (by decide) rfl (fun ls hl => ?_)
    exact w_Reader_isWord_L20 N t1 ht1 hI C hr hlk  h hP _ 0 _ (lv_sub hl [1, 2, 0] rfl) hM
  · refine m_iconst C d_Reader_isWord_16 ?_
    exact m_zretR C hr hlk hM d_Reader_isWord_17
def y_Reader_require : MethodName := ⟨"FeastBook$Reader", "require", "(Z)V"⟩
theorem d_Reader_require_0 : decode prog_6_method_23_code 0 = .ok (.iload_n 1, 1) := by decide +kernel
theorem d_Reader_require_1 : decode prog_6_method_23_code 1 = .ok (.ifCond .ne 19, 3) := by decide +kernel
theorem d_Reader_require_4 : decode prog_6_method_23_code 4 = .ok (.aload_n 0, 1) := by decide +kernel
theorem d_Reader_require_5 : decode prog_6_method_23_code 5 = .ok (.getfield 29, 3) := by decide +kernel
theorem d_Reader_require_8 : decode prog_6_method_23_code 8 = .ok (.iconst (-1), 1) := by decide +kernel
theorem d_Reader_require_9 : decode prog_6_method_23_code 9 = .ok (.if_icmp .ne 11, 3) := by decide +kernel
theorem d_Reader_require_12 : decode prog_6_method_23_code 12 = .ok (.aload_n 0, 1) := by decide +kernel
theorem d_Reader_require_13 : decode prog_6_method_23_code 13 = .ok (.aload_n 0, 1) := by decide +kernel
theorem d_Reader_require_14 : decode prog_6_method_23_code 14 = .ok (.getfield 26, 3) := by decide +kernel
theorem d_Reader_require_17 : decode prog_6_method_23_code 17 = .ok (.putfield 29, 3) := by decide +kernel
theorem d_Reader_require_20 : decode prog_6_method_23_code 20 = .ok (.return_, 1) := by decide +kernel
theorem fk_Reader_29 : Cond.fieldLink "FeastBook$Reader" 29 (T_Reader 4).1 (T_Reader 4).2.1 (T_Reader 4).2.2.1 ∈ TT := mT2 8 (by decide +kernel) (by decide +kernel)
set_option maxHeartbeats 4000000 in
set_option maxRecDepth 100000 in
theorem c_Reader_require {l : Launch} {D : va_G} {ad : Nat → Nat} {cA : Nat → ClassId} {sd sv : Nat → Nat} {h : Hp} {a1 : Int} {out : Hp} (hI : Inj97 ad) (hM : M_Reader_require h a1 = some out) : Met l y_Reader_require (.code y_Reader_require prog_6_method_23_code 2 none :: TT) (rmD 0) (PC D ad cA sd sv h [.ref (ad 3), .int (iZ a1)]) (QV D ad cA out) 0 0 (FA ad) := by
  unfold M_Reader_require at hM
  refine entM (by decide +kernel) hI (Nat.le_of_ble_eq_true rfl) ?_
  intro p e s m args below meth c C hr hlk hP ls hl
  have C : Cx p s m args c prog_6_method_23_code 2 "FeastBook$Reader" D ad cA sd sv (FA ad) := C
  have hl : lv_has ls 2 [(0, .ref (ad 3)), (1, .int (iZ a1))] := hl
  have w : Wd s D ad cA (FA ad) h s.heap [] := ⟨hP, va_S.rf⟩
  refine m_iload_n C hl 1 d_Reader_require_0 rfl rfl ?_
  refine m_if_ne C hM 20 d_Reader_require_1 (by decide) (fun hM => ?_) (fun hM => ?_)
  · exact m_vretW C w hr hlk hM d_Reader_require_20
  · refine m_aload_n C hl 0 d_Reader_require_4 rfl rfl ?_
    refine m_geti C w.1 kc_Reader sh_3 (Nat.le_of_ble_eq_true rfl) 4 rfl (by decide) fk_Reader_29 d_Reader_require_5 ?_
    refine m_iconst C d_Reader_require_8 ?_
    refine m_icmp_ne C hM 20 d_Reader_require_9 (by decide) (fun hM => ?_) (fun hM => ?_)
    · exact m_vretW C w hr hlk hM d_Reader_require_20
    · refine m_aload_n C hl 0 d_Reader_require_12 rfl rfl ?_
      refine m_aload_n C hl 0 d_Reader_require_13 rfl rfl ?_
      refine m_geti C w.1 kc_Reader sh_3 (Nat.le_of_ble_eq_true rfl) 3 rfl (by decide) fk_Reader_26 d_Reader_require_14 ?_
      refine m_puti C w kc_Reader sh_3 (Nat.le_of_ble_eq_true rfl) 4 hM rfl (by decide) rfl rfl fk_Reader_29 d_Reader_require_17 (fun h1 H locs w hM => ?_)
      exact m_vretW C w hr hlk hM d_Reader_require_20
def y_Reader_isDigit : MethodName := ⟨"FeastBook$Reader", "isDigit", "(I)Z"⟩
theorem d_Reader_isDigit_0 : decode prog_6_method_21_code 0 = .ok (.iload_n 0, 1) := by decide +kernel
theorem d_Reader_isDigit_1 : decode prog_6_method_21_code 1 = .ok (.bipush 48, 2) := by decide +kernel
theorem d_Reader_isDigit_3 : decode prog_6_method_21_code 3 = .ok (.if_icmp .lt 13, 3) := by decide +kernel
theorem d_Reader_isDigit_6 : decode prog_6_method_21_code 6 = .ok (.iload_n 0, 1) := by decide +kernel
theorem d_Reader_isDigit_7 : decode prog_6_method_21_code 7 = .ok (.bipush 57, 2) := by decide +kernel
theorem d_Reader_isDigit_9 : decode prog_6_method_21_code 9 = .ok (.if_icmp .gt 7, 3) := by decide +kernel
theorem d_Reader_isDigit_12 : decode prog_6_method_21_code 12 = .ok (.iconst 1, 1) := by decide +kernel
theorem d_Reader_isDigit_13 : decode prog_6_method_21_code 13 = .ok (.goto 4, 3) := by decide +kernel
theorem d_Reader_isDigit_16 : decode prog_6_method_21_code 16 = .ok (.iconst 0, 1) := by decide +kernel
theorem d_Reader_isDigit_17 : decode prog_6_method_21_code 17 = .ok (.ireturn, 1) := by decide +kernel
set_option maxHeartbeats 4000000 in
set_option maxRecDepth 100000 in
theorem c_Reader_isDigit {l : Launch} {D : va_G} {ad : Nat → Nat} {cA : Nat → ClassId} {sd sv : Nat → Nat} {h : Hp} {a0 : Int} {out : Int} (hI : Inj97 ad) (hM : M_Reader_isDigit a0 = some out) : Met l y_Reader_isDigit (.code y_Reader_isDigit prog_6_method_21_code 1 (some .boolean) :: TT) (rmD 0) (PC D ad cA sd sv h [.int (iZ a0)]) (QR out) 0 0 (fun _ => False) := by
  unfold M_Reader_isDigit at hM
  refine entM (by decide +kernel) hI (Nat.le_of_ble_eq_true rfl) ?_
  intro p e s m args below meth c C hr hlk hP ls hl
  have C : Cx p s m args c prog_6_method_21_code 1 "FeastBook$Reader" D ad cA sd sv (FA ad) := C
  have hl : lv_has ls 1 [(0, .int (iZ a0))] := hl
  refine m_iload_n C hl 0 d_Reader_isDigit_0 rfl rfl ?_
  refine m_bipush C d_Reader_isDigit_1 (by decide) ?_
  refine m_icmp_lt C hM 16 d_Reader_isDigit_3 (by decide) (fun hM => ?_) (fun hM => ?_)
  · refine m_iconst C d_Reader_isDigit_16 ?_
    exact m_zretR C hr hlk hM d_Reader_isDigit_17
  · refine m_iload_n C hl 0 d_Reader_isDigit_6 rfl rfl ?_
    refine m_bipush C d_Reader_isDigit_7 (by decide) ?_
    refine m_icmp_gt C hM 16 d_Reader_isDigit_9 (by decide) (fun hM => ?_) (fun hM => ?_)
    · refine m_iconst C d_Reader_isDigit_16 ?_
      exact m_zretR C hr hlk hM d_Reader_isDigit_17
    · refine m_iconst C d_Reader_isDigit_12 ?_
      refine m_goto C 17 d_Reader_isDigit_13 (by decide) ?_
      exact m_zretR C hr hlk hM d_Reader_isDigit_17
def y_Reader_readDigits : MethodName := ⟨"FeastBook$Reader", "readDigits", "()I"⟩
theorem d_Reader_readDigits_0 : decode prog_6_method_19_code 0 = .ok (.aload_n 0, 1) := by decide +kernel
theorem d_Reader_readDigits_1 : decode prog_6_method_19_code 1 = .ok (.aload_n 0, 1) := by decide +kernel
theorem d_Reader_readDigits_2 : decode prog_6_method_19_code 2 = .ok (.getfield 18, 3) := by decide +kernel
theorem d_Reader_readDigits_5 : decode prog_6_method_19_code 5 = .ok (.aload_n 0, 1) := by decide +kernel
theorem d_Reader_readDigits_6 : decode prog_6_method_19_code 6 = .ok (.getfield 22, 3) := by decide +kernel
theorem d_Reader_readDigits_9 : decode prog_6_method_19_code 9 = .ok (.invokevirtual 138, 3) := by decide +kernel
theorem d_Reader_readDigits_12 : decode prog_6_method_19_code 12 = .ok (.invokestatic 242, 3) := by decide +kernel
theorem d_Reader_readDigits_15 : decode prog_6_method_19_code 15 = .ok (.invokevirtual 80, 3) := by decide +kernel
theorem d_Reader_readDigits_18 : decode prog_6_method_19_code 18 = .ok (.iconst 0, 1) := by decide +kernel
theorem d_Reader_readDigits_19 : decode prog_6_method_19_code 19 = .ok (.istore_n 1, 1) := by decide +kernel
theorem d_Reader_readDigits_20 : decode prog_6_method_19_code 20 = .ok (.aload_n 0, 1) := by decide +kernel
theorem d_Reader_readDigits_21 : decode prog_6_method_19_code 21 = .ok (.getfield 22, 3) := by decide +kernel
theorem d_Reader_readDigits_24 : decode prog_6_method_19_code 24 = .ok (.istore_n 2, 1) := by decide +kernel
theorem d_Reader_readDigits_25 : decode prog_6_method_19_code 25 = .ok (.aload_n 0, 1) := by decide +kernel
theorem d_Reader_readDigits_26 : decode prog_6_method_19_code 26 = .ok (.getfield 22, 3) := by decide +kernel
theorem d_Reader_readDigits_29 : decode prog_6_method_19_code 29 = .ok (.aload_n 0, 1) := by decide +kernel
theorem d_Reader_readDigits_30 : decode prog_6_method_19_code 30 = .ok (.getfield 18, 3) := by decide +kernel
theorem d_Reader_readDigits_33 : decode prog_6_method_19_code 33 = .ok (.getfield 133, 3) := by decide +kernel
theorem d_Reader_readDigits_36 : decode prog_6_method_19_code 36 = .ok (.if_icmp .ge 63, 3) := by decide +kernel
theorem d_Reader_readDigits_39 : decode prog_6_method_19_code 39 = .ok (.aload_n 0, 1) := by decide +kernel
theorem d_Reader_readDigits_40 : decode prog_6_method_19_code 40 = .ok (.getfield 18, 3) := by decide +kernel
theorem d_Reader_readDigits_43 : decode prog_6_method_19_code 43 = .ok (.aload_n 0, 1) := by decide +kernel
theorem d_Reader_readDigits_44 : decode prog_6_method_19_code 44 = .ok (.getfield 22, 3) := by decide +kernel
theorem d_Reader_readDigits_47 : decode prog_6_method_19_code 47 = .ok (.invokevirtual 138, 3) := by decide +kernel
theorem d_Reader_readDigits_50 : decode prog_6_method_19_code 50 = .ok (.invokestatic 242, 3) := by decide +kernel
theorem d_Reader_readDigits_53 : decode prog_6_method_19_code 53 = .ok (.ifCond .eq 46, 3) := by decide +kernel
theorem d_Reader_readDigits_56 : decode prog_6_method_19_code 56 = .ok (.aload_n 0, 1) := by decide +kernel
theorem d_Reader_readDigits_57 : decode prog_6_method_19_code 57 = .ok (.getfield 22, 3) := by decide +kernel
theorem d_Reader_readDigits_60 : decode prog_6_method_19_code 60 = .ok (.iload_n 2, 1) := by decide +kernel
theorem d_Reader_readDigits_61 : decode prog_6_method_19_code 61 = .ok (.isub, 1) := by decide +kernel
theorem d_Reader_readDigits_62 : decode prog_6_method_19_code 62 = .ok (.iconst 2, 1) := by decide +kernel
theorem d_Reader_readDigits_63 : decode prog_6_method_19_code 63 = .ok (.if_icmp .ge 23, 3) := by decide +kernel
theorem d_Reader_readDigits_66 : decode prog_6_method_19_code 66 = .ok (.iload_n 1, 1) := by decide +kernel
theorem d_Reader_readDigits_67 : decode prog_6_method_19_code 67 = .ok (.bipush 10, 2) := by decide +kernel
theorem d_Reader_readDigits_69 : decode prog_6_method_19_code 69 = .ok (.imul, 1) := by decide +kernel
theorem d_Reader_readDigits_70 : decode prog_6_method_19_code 70 = .ok (.aload_n 0, 1) := by decide +kernel
theorem d_Reader_readDigits_71 : decode prog_6_method_19_code 71 = .ok (.getfield 18, 3) := by decide +kernel
theorem d_Reader_readDigits_74 : decode prog_6_method_19_code 74 = .ok (.aload_n 0, 1) := by decide +kernel
theorem d_Reader_readDigits_75 : decode prog_6_method_19_code 75 = .ok (.getfield 22, 3) := by decide +kernel
theorem d_Reader_readDigits_78 : decode prog_6_method_19_code 78 = .ok (.invokevirtual 138, 3) := by decide +kernel
theorem d_Reader_readDigits_81 : decode prog_6_method_19_code 81 = .ok (.iadd, 1) := by decide +kernel
theorem d_Reader_readDigits_82 : decode prog_6_method_19_code 82 = .ok (.bipush 48, 2) := by decide +kernel
theorem d_Reader_readDigits_84 : decode prog_6_method_19_code 84 = .ok (.isub, 1) := by decide +kernel
theorem d_Reader_readDigits_85 : decode prog_6_method_19_code 85 = .ok (.istore_n 1, 1) := by decide +kernel
theorem d_Reader_readDigits_86 : decode prog_6_method_19_code 86 = .ok (.aload_n 0, 1) := by decide +kernel
theorem d_Reader_readDigits_87 : decode prog_6_method_19_code 87 = .ok (.dup, 1) := by decide +kernel
theorem d_Reader_readDigits_88 : decode prog_6_method_19_code 88 = .ok (.getfield 22, 3) := by decide +kernel
theorem d_Reader_readDigits_91 : decode prog_6_method_19_code 91 = .ok (.iconst 1, 1) := by decide +kernel
theorem d_Reader_readDigits_92 : decode prog_6_method_19_code 92 = .ok (.iadd, 1) := by decide +kernel
theorem d_Reader_readDigits_93 : decode prog_6_method_19_code 93 = .ok (.putfield 22, 3) := by decide +kernel
theorem d_Reader_readDigits_96 : decode prog_6_method_19_code 96 = .ok (.goto (-71), 3) := by decide +kernel
theorem d_Reader_readDigits_99 : decode prog_6_method_19_code 99 = .ok (.aload_n 0, 1) := by decide +kernel
theorem d_Reader_readDigits_100 : decode prog_6_method_19_code 100 = .ok (.aload_n 0, 1) := by decide +kernel
theorem d_Reader_readDigits_101 : decode prog_6_method_19_code 101 = .ok (.getfield 22, 3) := by decide +kernel
theorem d_Reader_readDigits_104 : decode prog_6_method_19_code 104 = .ok (.iload_n 2, 1) := by decide +kernel
theorem d_Reader_readDigits_105 : decode prog_6_method_19_code 105 = .ok (.isub, 1) := by decide +kernel
theorem d_Reader_readDigits_106 : decode prog_6_method_19_code 106 = .ok (.iconst 2, 1) := by decide +kernel
theorem d_Reader_readDigits_107 : decode prog_6_method_19_code 107 = .ok (.if_icmp .gt 7, 3) := by decide +kernel
theorem d_Reader_readDigits_110 : decode prog_6_method_19_code 110 = .ok (.iconst 1, 1) := by decide +kernel
theorem d_Reader_readDigits_111 : decode prog_6_method_19_code 111 = .ok (.goto 4, 3) := by decide +kernel
theorem d_Reader_readDigits_114 : decode prog_6_method_19_code 114 = .ok (.iconst 0, 1) := by decide +kernel
theorem d_Reader_readDigits_115 : decode prog_6_method_19_code 115 = .ok (.invokevirtual 80, 3) := by decide +kernel
theorem d_Reader_readDigits_118 : decode prog_6_method_19_code 118 = .ok (.iload_n 1, 1) := by decide +kernel
theorem d_Reader_readDigits_119 : decode prog_6_method_19_code 119 = .ok (.ireturn, 1) := by decide +kernel
theorem mb_Reader_isDigit : MBs y_Reader_isDigit prog_6_method_21_code 1 (some .boolean) 1 := ⟨mT3 164 (by decide +kernel) (by decide +kernel), mT1 3 (by decide +kernel) (by decide +kernel), mT3 165 (by decide +kernel) (by decide +kernel), by decide, by decide +kernel, by decide +kernel, by decide +kernel⟩
theorem mb_Reader_require : MBv R_Reader y_Reader_require prog_6_method_23_code 2 none 1 := ⟨mT3 152 (by decide +kernel) (by decide +kernel), mT3 153 (by decide +kernel) (by decide +kernel), mT1 3 (by decide +kernel) (by decide +kernel), mT3 154 (by decide +kernel) (by decide +kernel), by decide, rfl, by decide +kernel, by decide +kernel, by decide +kernel⟩
theorem lk_Reader_242 : Cond.methodLink "FeastBook$Reader" 242 y_Reader_isDigit ∈ TT := mT3 163 (by decide +kernel) (by decide +kernel)
theorem lk_Reader_80 : Cond.methodLink "FeastBook$Reader" 80 y_Reader_require ∈ TT := mT3 151 (by decide +kernel) (by decide +kernel)
set_option maxHeartbeats 4000000 in
set_option maxRecDepth 100000 in
theorem w_Reader_readDigits_L25 {p : Program} {l : Launch} {e : Env} {s : State} {m : MethodId} {args : Array Value} {below : List Frame} {meth : Method} {c : Code} {D : va_G} {ad : Nat → Nat} {cA : Nat → ClassId} {sd sv : Nat → Nat} {out : (Int × Hp)} (N : Nat) (hI : Inj97 ad) (C : Cx p s m args c prog_6_method_19_code 3 "FeastBook$Reader" D ad cA sd sv (FA ad)) (hr : meth.sig.returnType = (some .int)) (hlk : meth.locks = false) (v2 : Int) : ∀ (n : Nat) (v1 : Int) (h : Hp) (H : Heap) (locs : List Loc), Wd s D ad cA (FA ad) h H locs → ∀ ls : Array Slot, lv_has ls 3 [(0, .ref (ad 3)), (1, .int (iZ v1)), (2, .int (iZ v2))] → Reader_readDigits_L25 N v2 n v1 h = some out → W p l e (rmD 1) s m args below meth c H locs 0 0 (MQ below (QI D ad cA out) args s 0 0 (FA ad)) (F0 m 25 ls []) := by
  intro n
  induction n with
  | zero =>
    intro v1 h H locs w ls hl hM
    rw [Reader_readDigits_L25] at hM
    cases hM
  | succ n ih =>
    intro v1 h H locs w ls hl hM
    rw [Reader_readDigits_L25] at hM
    refine m_aload_n C hl 0 d_Reader_readDigits_25 rfl rfl ?_
    refine m_geti C w.1 kc_Reader sh_3 (Nat.le_of_ble_eq_true rfl) 2 rfl (by decide) fk_Reader_22 d_Reader_readDigits_26 ?_
    refine m_aload_n C hl 0 d_Reader_readDigits_29 rfl rfl ?_
    refine m_getr C w.1 kc_Reader sh_3 (Nat.le_of_ble_eq_true rfl) 0 1 rfl (by decide) fk_Reader_18 d_Reader_readDigits_30 ?_
    refine m_geti C w.1 kc_Tape sh_1 (Nat.le_of_ble_eq_true rfl) 1 rfl (by decide) fk_Reader_133 d_Reader_readDigits_33 ?_
    refine lt_join hM (fun j15 ej hM => ?_)
    have hJ15 : j15  = some out → ∀ ls : Array Slot, lv_has ls 3 [(0, .ref (ad 3)), (1, .int (iZ v1)), (2, .int (iZ v2))] → W p l e (rmD 1) s m args below meth c H locs 0 0 (MQ below (QI D ad cA out) args s 0 0 (FA ad)) (F0 m 99 ls []) := by
      intro  hM ls hl
      subst ej
      skip
      refine m_aload_n C hl 0 d_Reader_readDigits_99 rfl rfl ?_
      refine m_aload_n C hl 0 d_Reader_readDigits_100 rfl rfl ?_
      refine m_geti C w.1 kc_Reader sh_3 (Nat.le_of_ble_eq_true rfl) 2 rfl (by decide) fk_Reader_22 d_Reader_readDigits_101 ?_
      refine m_iload_n C hl 2 d_Reader_readDigits_104 rfl rfl ?_
      refine m_isub C d_Reader_readDigits_105 ?_
      refine m_iconst C d_Reader_readDigits_106 ?_
      refine m_icmp_gt C hM 114 d_Reader_readDigits_107 (by decide) (fun hM => ?_) (fun hM => ?_)
      · refine m_iconst C d_Reader_readDigits_114 ?_
        obtain ⟨h17, e16, hM⟩ := bnd_some hM
        refine aftV C w (runV C w.1 w.2 kc_Reader sh_3 (Nat.le_of_ble_eq_true rfl) (c_Reader_require hI e16) lk_Reader_80 mb_Reader_require rfl ⟨Nat.le_of_ble_eq_true rfl, Nat.le_of_ble_eq_true rfl⟩ ⟨Nat.zero_le _, Nat.zero_le _⟩ (Nat.le_of_ble_eq_true rfl) d_Reader_readDigits_115 hl.1 (rest := []) rfl) (fun H locs w => ?_)
        refine m_iload_n C hl 1 d_Reader_readDigits_118 rfl rfl ?_
        exact m_iretW C w hr hlk hM d_Reader_readDigits_119
      · refine m_iconst C d_Reader_readDigits_110 ?_
        refine m_goto C 115 d_Reader_readDigits_111 (by decide) ?_
        obtain ⟨h19, e18, hM⟩ := bnd_some hM
        refine aftV C w (runV C w.1 w.2 kc_Reader sh_3 (Nat.le_of_ble_eq_true rfl) (c_Reader_require hI e18) lk_Reader_80 mb_Reader_require rfl ⟨Nat.le_of_ble_eq_true rfl, Nat.le_of_ble_eq_true rfl⟩ ⟨Nat.zero_le _, Nat.zero_le _⟩ (Nat.le_of_ble_eq_true rfl) d_Reader_readDigits_115 hl.1 (rest := []) rfl) (fun H locs w => ?_)
        refine m_iload_n C hl 1 d_Reader_readDigits_118 rfl rfl ?_
        exact m_iretW C w hr hlk hM d_Reader_readDigits_119
    refine m_icmp_ge C hM 99 d_Reader_readDigits_36 (by decide) (fun hM => ?_) (fun hM => ?_)
    · exact hJ15  hM _ hl
    · refine m_aload_n C hl 0 d_Reader_readDigits_39 rfl rfl ?_
      refine m_getr C w.1 kc_Reader sh_3 (Nat.le_of_ble_eq_true rfl) 0 1 rfl (by decide) fk_Reader_18 d_Reader_readDigits_40 ?_
      refine m_aload_n C hl 0 d_Reader_readDigits_43 rfl rfl ?_
      refine m_geti C w.1 kc_Reader sh_3 (Nat.le_of_ble_eq_true rfl) 2 rfl (by decide) fk_Reader_22 d_Reader_readDigits_44 ?_
      obtain ⟨x21, e20, hM⟩ := bnd_some hM
      refine aftR (runV C w.1 w.2 kc_Tape sh_1 (Nat.le_of_ble_eq_true rfl) (c_Tape_at hI e20) lk_Reader_138 mb_Tape_at rfl ⟨Nat.le_of_ble_eq_true rfl, Nat.le_of_ble_eq_true rfl⟩ ⟨Nat.zero_le _, Nat.zero_le _⟩ (Nat.le_of_ble_eq_true rfl) d_Reader_readDigits_47 hl.1 (rest := []) rfl) ?_
      obtain ⟨x23, e22, hM⟩ := bnd_some hM
      refine aftR (runS C w.1 w.2 (c_Reader_isDigit hI e22) lk_Reader_242 mb_Reader_isDigit rfl ⟨Nat.le_of_ble_eq_true rfl, Nat.le_of_ble_eq_true rfl⟩ ⟨Nat.zero_le _, Nat.zero_le _⟩ (Nat.le_of_ble_eq_true rfl) d_Reader_readDigits_50 hl.1 (rest := []) rfl) ?_
      refine m_if_eq C hM 99 d_Reader_readDigits_53 (by decide) (fun hM => ?_) (fun hM => ?_)
      · exact hJ15  hM _ hl
      · refine m_aload_n C hl 0 d_Reader_readDigits_56 rfl rfl ?_
        refine m_geti C w.1 kc_Reader sh_3 (Nat.le_of_ble_eq_true rfl) 2 rfl (by decide) fk_Reader_22 d_Reader_readDigits_57 ?_
        refine m_iload_n C hl 2 d_Reader_readDigits_60 rfl rfl ?_
        refine m_isub C d_Reader_readDigits_61 ?_
        refine m_iconst C d_Reader_readDigits_62 ?_
        refine m_icmp_ge C hM 86 d_Reader_readDigits_63 (by decide) (fun hM => ?_) (fun hM => ?_)
        · refine m_aload_n C hl 0 d_Reader_readDigits_86 rfl rfl ?_
          refine m_dup C d_Reader_readDigits_87 rfl ?_
          refine m_geti C w.1 kc_Reader sh_3 (Nat.le_of_ble_eq_true rfl) 2 rfl (by decide) fk_Reader_22 d_Reader_readDigits_88 ?_
          refine m_iconst C d_Reader_readDigits_91 ?_
          refine m_iadd C d_Reader_readDigits_92 ?_
          refine m_puti C w kc_Reader sh_3 (Nat.le_of_ble_eq_true rfl) 2 hM rfl (by decide) rfl rfl fk_Reader_22 d_Reader_readDigits_93 (fun h24 H locs w hM => ?_)
          refine m_goto C 25 d_Reader_readDigits_96 (by decide) ?_
          exact ih v1 h24 _ _ w _ hl hM
        · refine m_iload_n C hl 1 d_Reader_readDigits_66 rfl rfl ?_
          refine m_bipush C d_Reader_readDigits_67 (by decide) ?_
          refine m_imul C d_Reader_readDigits_69 ?_
          refine m_aload_n C hl 0 d_Reader_readDigits_70 rfl rfl ?_
          refine m_getr C w.1 kc_Reader sh_3 (Nat.le_of_ble_eq_true rfl) 0 1 rfl (by decide) fk_Reader_18 d_Reader_readDigits_71 ?_
          refine m_aload_n C hl 0 d_Reader_readDigits_74 rfl rfl ?_
          refine m_geti C w.1 kc_Reader sh_3 (Nat.le_of_ble_eq_true rfl) 2 rfl (by decide) fk_Reader_22 d_Reader_readDigits_75 ?_
          obtain ⟨x26, e25, hM⟩ := bnd_some hM
          refine aftR (runV C w.1 w.2 kc_Tape sh_1 (Nat.le_of_ble_eq_true rfl) (c_Tape_at hI e25) lk_Reader_138 mb_Tape_at rfl ⟨Nat.le_of_ble_eq_true rfl, Nat.le_of_ble_eq_true rfl⟩ ⟨Nat.zero_le _, Nat.zero_le _⟩ (Nat.le_of_ble_eq_true rfl) d_Reader_readDigits_78 hl.1 (rest := [.int (iZ (v1 * 10))]) rfl) ?_
          refine m_iadd C d_Reader_readDigits_81 ?_
          refine m_bipush C d_Reader_readDigits_82 (by decide) ?_
          refine m_isub C d_Reader_readDigits_84 ?_
          refine m_istore_n C hl [(1, .int (iZ (((v1 * 10) + x26) - 48))), (0, .ref (ad 3)), (2, .int (iZ v2))] d_Reader_readDigits_85 rfl (by decide) rfl (fun ls hl => ?_)
          refine m_aload_n C hl 1 d_Reader_readDigits_86 rfl rfl ?_
          refine m_dup C d_Reader_readDigits_87 rfl ?_
          refine m_geti C w.1 kc_Reader sh_3 (Nat.le_of_ble_eq_true rfl) 2 rfl (by decide) fk_Reader_22 d_Reader_readDigits_88 ?_
          refine m_iconst C d_Reader_readDigits_91 ?_
          refine m_iadd C d_Reader_readDigits_92 ?_
          refine m_puti C w kc_Reader sh_3 (Nat.le_of_ble_eq_true rfl) 2 hM rfl (by decide) rfl rfl fk_Reader_22 d_Reader_readDigits_93 (fun h27 H locs w hM => ?_)
          refine m_goto C 25 d_Reader_readDigits_96 (by decide) ?_
          exact ih (((v1 * 10) + x26) - 48) h27 _ _ w _ (lv_sub hl [1, 0, 2] rfl) hM
set_option maxHeartbeats 4000000 in
set_option maxRecDepth 100000 in
theorem c_Reader_readDigits {l : Launch} {D : va_G} {ad : Nat → Nat} {cA : Nat → ClassId} {sd sv : Nat → Nat} {h : Hp} {N : Nat} {out : (Int × Hp)} (hI : Inj97 ad) (hM : M_Reader_readDigits N h = some out) : Met l y_Reader_readDigits (.code y_Reader_readDigits prog_6_method_19_code 3 (some .int) :: TT) (rmD 1) (PC D ad cA sd sv h [.ref (ad 3)]) (QI D ad cA out) 0 0 (FA ad) := by
  unfold M_Reader_readDigits at hM
  refine entM (by decide +kernel) hI (Nat.le_of_ble_eq_true rfl) ?_
  intro p e s m args below meth c C hr hlk hP ls hl
  have C : Cx p s m args c prog_6_method_19_code 3 "FeastBook$Reader" D ad cA sd sv (FA ad) := C
  have hl : lv_has ls 3 [(0, .ref (ad 3))] := hl
  have w : Wd s D ad cA (FA ad) h s.heap [] := ⟨hP, va_S.rf⟩
  refine m_aload_n C hl 0 d_Reader_readDigits_0 rfl rfl ?_
  refine m_aload_n C hl 0 d_Reader_readDigits_1 rfl rfl ?_
  refine m_getr C w.1 kc_Reader sh_3 (Nat.le_of_ble_eq_true rfl) 0 1 rfl (by decide) fk_Reader_18 d_Reader_readDigits_2 ?_
  refine m_aload_n C hl 0 d_Reader_readDigits_5 rfl rfl ?_
  refine m_geti C w.1 kc_Reader sh_3 (Nat.le_of_ble_eq_true rfl) 2 rfl (by decide) fk_Reader_22 d_Reader_readDigits_6 ?_
  obtain ⟨x2, e1, hM⟩ := bnd_some hM
  refine aftR (runV C w.1 w.2 kc_Tape sh_1 (Nat.le_of_ble_eq_true rfl) (c_Tape_at hI e1) lk_Reader_138 mb_Tape_at rfl ⟨Nat.le_of_ble_eq_true rfl, Nat.le_of_ble_eq_true rfl⟩ ⟨Nat.zero_le _, Nat.zero_le _⟩ (Nat.le_of_ble_eq_true rfl) d_Reader_readDigits_9 hl.1 (rest := [.ref (ad 3)]) rfl) ?_
  obtain ⟨x4, e3, hM⟩ := bnd_some hM
  refine aftR (runS C w.1 w.2 (c_Reader_isDigit hI e3) lk_Reader_242 mb_Reader_isDigit rfl ⟨Nat.le_of_ble_eq_true rfl, Nat.le_of_ble_eq_true rfl⟩ ⟨Nat.zero_le _, Nat.zero_le _⟩ (Nat.le_of_ble_eq_true rfl) d_Reader_readDigits_12 hl.1 (rest := [.ref (ad 3)]) rfl) ?_
  obtain ⟨h6, e5, hM⟩ := bnd_some hM
  refine aftV C w (runV C w.1 w.2 kc_Reader sh_3 (Nat.le_of_ble_eq_true rfl) (c_Reader_require hI e5) lk_Reader_80 mb_Reader_require rfl ⟨Nat.le_of_ble_eq_true rfl, Nat.le_of_ble_eq_true rfl⟩ ⟨Nat.zero_le _, Nat.zero_le _⟩ (Nat.le_of_ble_eq_true rfl) d_Reader_readDigits_15 hl.1 (rest := []) rfl) (fun H locs w => ?_)
  refine m_iconst C d_Reader_readDigits_18 ?_
  refine m_istore_n C hl [(1, .int (iZ 0)), (0, .ref (ad 3))] d_Reader_readDigits_19 rfl (by decide) rfl (fun ls hl => ?_)
  refine m_aload_n C hl 1 d_Reader_readDigits_20 rfl rfl ?_
  refine m_geti C w.1 kc_Reader sh_3 (Nat.le_of_ble_eq_true rfl) 2 rfl (by decide) fk_Reader_22 d_Reader_readDigits_21 ?_
  refine m_istore_n C hl [(2, .int (iZ (h6 3 2))), (1, .int (iZ 0)), (0, .ref (ad 3))] d_Reader_readDigits_24 rfl (by decide) rfl (fun ls hl => ?_)
  exact w_Reader_readDigits_L25 N hI C hr hlk (h6 3 2) _ 0 h6 _ _ w _ (lv_sub hl [2, 1, 0] rfl) hM
def y_Reader_readNumber : MethodName := ⟨"FeastBook$Reader", "readNumber", "(II)I"⟩
theorem d_Reader_readNumber_0 : decode prog_6_method_17_code 0 = .ok (.aload_n 0, 1) := by decide +kernel
theorem d_Reader_readNumber_1 : decode prog_6_method_17_code 1 = .ok (.invokevirtual 130, 3) := by decide +kernel
theorem d_Reader_readNumber_4 : decode prog_6_method_17_code 4 = .ok (.aload_n 0, 1) := by decide +kernel
theorem d_Reader_readNumber_5 : decode prog_6_method_17_code 5 = .ok (.aload_n 0, 1) := by decide +kernel
theorem d_Reader_readNumber_6 : decode prog_6_method_17_code 6 = .ok (.getfield 22, 3) := by decide +kernel
theorem d_Reader_readNumber_9 : decode prog_6_method_17_code 9 = .ok (.putfield 26, 3) := by decide +kernel
theorem d_Reader_readNumber_12 : decode prog_6_method_17_code 12 = .ok (.aload_n 0, 1) := by decide +kernel
theorem d_Reader_readNumber_13 : decode prog_6_method_17_code 13 = .ok (.invokevirtual 239, 3) := by decide +kernel
theorem d_Reader_readNumber_16 : decode prog_6_method_17_code 16 = .ok (.istore_n 3, 1) := by decide +kernel
theorem d_Reader_readNumber_17 : decode prog_6_method_17_code 17 = .ok (.aload_n 0, 1) := by decide +kernel
theorem d_Reader_readNumber_18 : decode prog_6_method_17_code 18 = .ok (.iload_n 3, 1) := by decide +kernel
theorem d_Reader_readNumber_19 : decode prog_6_method_17_code 19 = .ok (.iload_n 1, 1) := by decide +kernel
theorem d_Reader_readNumber_20 : decode prog_6_method_17_code 20 = .ok (.if_icmp .lt 12, 3) := by decide +kernel
theorem d_Reader_readNumber_23 : decode prog_6_method_17_code 23 = .ok (.iload_n 3, 1) := by decide +kernel
theorem d_Reader_readNumber_24 : decode prog_6_method_17_code 24 = .ok (.iload_n 2, 1) := by decide +kernel
theorem d_Reader_readNumber_25 : decode prog_6_method_17_code 25 = .ok (.if_icmp .gt 7, 3) := by decide +kernel
theorem d_Reader_readNumber_28 : decode prog_6_method_17_code 28 = .ok (.iconst 1, 1) := by decide +kernel
theorem d_Reader_readNumber_29 : decode prog_6_method_17_code 29 = .ok (.goto 4, 3) := by decide +kernel
theorem d_Reader_readNumber_32 : decode prog_6_method_17_code 32 = .ok (.iconst 0, 1) := by decide +kernel
theorem d_Reader_readNumber_33 : decode prog_6_method_17_code 33 = .ok (.invokevirtual 80, 3) := by decide +kernel
theorem d_Reader_readNumber_36 : decode prog_6_method_17_code 36 = .ok (.aload_n 0, 1) := by decide +kernel
theorem d_Reader_readNumber_37 : decode prog_6_method_17_code 37 = .ok (.getfield 29, 3) := by decide +kernel
theorem d_Reader_readNumber_40 : decode prog_6_method_17_code 40 = .ok (.iconst (-1), 1) := by decide +kernel
theorem d_Reader_readNumber_41 : decode prog_6_method_17_code 41 = .ok (.if_icmp .ne 7, 3) := by decide +kernel
theorem d_Reader_readNumber_44 : decode prog_6_method_17_code 44 = .ok (.iload_n 3, 1) := by decide +kernel
theorem d_Reader_readNumber_45 : decode prog_6_method_17_code 45 = .ok (.goto 4, 3) := by decide +kernel
theorem d_Reader_readNumber_48 : decode prog_6_method_17_code 48 = .ok (.iload_n 1, 1) := by decide +kernel
theorem d_Reader_readNumber_49 : decode prog_6_method_17_code 49 = .ok (.ireturn, 1) := by decide +kernel
theorem mb_Reader_readDigits : MBv R_Reader y_Reader_readDigits prog_6_method_19_code 3 (some .int) 0 := ⟨mT3 160 (by decide +kernel) (by decide +kernel), mT3 161 (by decide +kernel) (by decide +kernel), mT1 3 (by decide +kernel) (by decide +kernel), mT3 162 (by decide +kernel) (by decide +kernel), by decide, rfl, by decide +kernel, by decide +kernel, by decide +kernel⟩
theorem lk_Reader_239 : Cond.methodLink "FeastBook$Reader" 239 y_Reader_readDigits ∈ TT := mT3 159 (by decide +kernel) (by decide +kernel)
set_option maxHeartbeats 4000000 in
set_option maxRecDepth 100000 in
theorem c_Reader_readNumber {l : Launch} {D : va_G} {ad : Nat → Nat} {cA : Nat → ClassId} {sd sv : Nat → Nat} {h : Hp} {N : Nat} {a1 a2 : Int} {out : (Int × Hp)} (hI : Inj97 ad) (hM : M_Reader_readNumber N h a1 a2 = some out) : Met l y_Reader_readNumber (.code y_Reader_readNumber prog_6_method_17_code 4 (some .int) :: TT) (rmD 2) (PC D ad cA sd sv h [.ref (ad 3), .int (iZ a1), .int (iZ a2)]) (QI D ad cA out) 0 0 (FA ad) := by
  unfold M_Reader_readNumber at hM
  refine entM (by decide +kernel) hI (Nat.le_of_ble_eq_true rfl) ?_
  intro p e s m args below meth c C hr hlk hP ls hl
  have C : Cx p s m args c prog_6_method_17_code 4 "FeastBook$Reader" D ad cA sd sv (FA ad) := C
  have hl : lv_has ls 4 [(0, .ref (ad 3)), (1, .int (iZ a1)), (2, .int (iZ a2))] := hl
  have w : Wd s D ad cA (FA ad) h s.heap [] := ⟨hP, va_S.rf⟩
  refine m_aload_n C hl 0 d_Reader_readNumber_0 rfl rfl ?_
  obtain ⟨h2, e1, hM⟩ := bnd_some hM
  refine aftV C w (runV C w.1 w.2 kc_Reader sh_3 (Nat.le_of_ble_eq_true rfl) (c_Reader_skipBlanks hI e1) lk_Reader_130 mb_Reader_skipBlanks rfl ⟨Nat.le_of_ble_eq_true rfl, Nat.le_of_ble_eq_true rfl⟩ ⟨Nat.zero_le _, Nat.zero_le _⟩ (Nat.le_of_ble_eq_true rfl) d_Reader_readNumber_1 hl.1 (rest := []) rfl) (fun H locs w => ?_)
  refine m_aload_n C hl 0 d_Reader_readNumber_4 rfl rfl ?_
  refine m_aload_n C hl 0 d_Reader_readNumber_5 rfl rfl ?_
  refine m_geti C w.1 kc_Reader sh_3 (Nat.le_of_ble_eq_true rfl) 2 rfl (by decide) fk_Reader_22 d_Reader_readNumber_6 ?_
  refine m_puti C w kc_Reader sh_3 (Nat.le_of_ble_eq_true rfl) 3 hM rfl (by decide) rfl rfl fk_Reader_26 d_Reader_readNumber_9 (fun h3 H locs w hM => ?_)
  refine m_aload_n C hl 0 d_Reader_readNumber_12 rfl rfl ?_
  obtain ⟨q5, e4, hM⟩ := bnd_some hM
  refine aftI C w (runV C w.1 w.2 kc_Reader sh_3 (Nat.le_of_ble_eq_true rfl) (c_Reader_readDigits hI e4) lk_Reader_239 mb_Reader_readDigits rfl ⟨Nat.le_of_ble_eq_true rfl, Nat.le_of_ble_eq_true rfl⟩ ⟨Nat.zero_le _, Nat.zero_le _⟩ (Nat.le_of_ble_eq_true rfl) d_Reader_readNumber_13 hl.1 (rest := []) rfl) (fun H locs w => ?_)
  refine m_istore_n C hl [(3, .int (iZ q5.1)), (0, .ref (ad 3)), (1, .int (iZ a1)), (2, .int (iZ a2))] d_Reader_readNumber_16 rfl (by decide) rfl (fun ls hl => ?_)
  refine m_aload_n C hl 1 d_Reader_readNumber_17 rfl rfl ?_
  refine m_iload_n C hl 0 d_Reader_readNumber_18 rfl rfl ?_
  refine m_iload_n C hl 2 d_Reader_readNumber_19 rfl rfl ?_
  refine m_icmp_lt C hM 32 d_Reader_readNumber_20 (by decide) (fun hM => ?_) (fun hM => ?_)
  · refine m_iconst C d_Reader_readNumber_32 ?_
    obtain ⟨h7, e6, hM⟩ := bnd_some hM
    refine aftV C w (runV C w.1 w.2 kc_Reader sh_3 (Nat.le_of_ble_eq_true rfl) (c_Reader_require hI e6) lk_Reader_80 mb_Reader_require rfl ⟨Nat.le_of_ble_eq_true rfl, Nat.le_of_ble_eq_true rfl⟩ ⟨Nat.zero_le _, Nat.zero_le _⟩ (Nat.le_of_ble_eq_true rfl) d_Reader_readNumber_33 hl.1 (rest := []) rfl) (fun H locs w => ?_)
    refine m_aload_n C hl 1 d_Reader_readNumber_36 rfl rfl ?_
    refine m_geti C w.1 kc_Reader sh_3 (Nat.le_of_ble_eq_true rfl) 4 rfl (by decide) fk_Reader_29 d_Reader_readNumber_37 ?_
    refine m_iconst C d_Reader_readNumber_40 ?_
    refine m_icmp_ne C hM 48 d_Reader_readNumber_41 (by decide) (fun hM => ?_) (fun hM => ?_)
    · refine m_iload_n C hl 2 d_Reader_readNumber_48 rfl rfl ?_
      exact m_iretW C w hr hlk hM d_Reader_readNumber_49
    · refine m_iload_n C hl 0 d_Reader_readNumber_44 rfl rfl ?_
      refine m_goto C 49 d_Reader_readNumber_45 (by decide) ?_
      exact m_iretW C w hr hlk hM d_Reader_readNumber_49
  · refine m_iload_n C hl 0 d_Reader_readNumber_23 rfl rfl ?_
    refine m_iload_n C hl 3 d_Reader_readNumber_24 rfl rfl ?_
    refine m_icmp_gt C hM 32 d_Reader_readNumber_25 (by decide) (fun hM => ?_) (fun hM => ?_)
    · refine m_iconst C d_Reader_readNumber_32 ?_
      obtain ⟨h9, e8, hM⟩ := bnd_some hM
      refine aftV C w (runV C w.1 w.2 kc_Reader sh_3 (Nat.le_of_ble_eq_true rfl) (c_Reader_require hI e8) lk_Reader_80 mb_Reader_require rfl ⟨Nat.le_of_ble_eq_true rfl, Nat.le_of_ble_eq_true rfl⟩ ⟨Nat.zero_le _, Nat.zero_le _⟩ (Nat.le_of_ble_eq_true rfl) d_Reader_readNumber_33 hl.1 (rest := []) rfl) (fun H locs w => ?_)
      refine m_aload_n C hl 1 d_Reader_readNumber_36 rfl rfl ?_
      refine m_geti C w.1 kc_Reader sh_3 (Nat.le_of_ble_eq_true rfl) 4 rfl (by decide) fk_Reader_29 d_Reader_readNumber_37 ?_
      refine m_iconst C d_Reader_readNumber_40 ?_
      refine m_icmp_ne C hM 48 d_Reader_readNumber_41 (by decide) (fun hM => ?_) (fun hM => ?_)
      · refine m_iload_n C hl 2 d_Reader_readNumber_48 rfl rfl ?_
        exact m_iretW C w hr hlk hM d_Reader_readNumber_49
      · refine m_iload_n C hl 0 d_Reader_readNumber_44 rfl rfl ?_
        refine m_goto C 49 d_Reader_readNumber_45 (by decide) ?_
        exact m_iretW C w hr hlk hM d_Reader_readNumber_49
    · refine m_iconst C d_Reader_readNumber_28 ?_
      refine m_goto C 33 d_Reader_readNumber_29 (by decide) ?_
      obtain ⟨h11, e10, hM⟩ := bnd_some hM
      refine aftV C w (runV C w.1 w.2 kc_Reader sh_3 (Nat.le_of_ble_eq_true rfl) (c_Reader_require hI e10) lk_Reader_80 mb_Reader_require rfl ⟨Nat.le_of_ble_eq_true rfl, Nat.le_of_ble_eq_true rfl⟩ ⟨Nat.zero_le _, Nat.zero_le _⟩ (Nat.le_of_ble_eq_true rfl) d_Reader_readNumber_33 hl.1 (rest := []) rfl) (fun H locs w => ?_)
      refine m_aload_n C hl 1 d_Reader_readNumber_36 rfl rfl ?_
      refine m_geti C w.1 kc_Reader sh_3 (Nat.le_of_ble_eq_true rfl) 4 rfl (by decide) fk_Reader_29 d_Reader_readNumber_37 ?_
      refine m_iconst C d_Reader_readNumber_40 ?_
      refine m_icmp_ne C hM 48 d_Reader_readNumber_41 (by decide) (fun hM => ?_) (fun hM => ?_)
      · refine m_iload_n C hl 2 d_Reader_readNumber_48 rfl rfl ?_
        exact m_iretW C w hr hlk hM d_Reader_readNumber_49
      · refine m_iload_n C hl 0 d_Reader_readNumber_44 rfl rfl ?_
        refine m_goto C 49 d_Reader_readNumber_45 (by decide) ?_
        exact m_iretW C w hr hlk hM d_Reader_readNumber_49
def y_Reader_digitComes : MethodName := ⟨"FeastBook$Reader", "digitComes", "()Z"⟩
theorem d_Reader_digitComes_0 : decode prog_6_method_20_code 0 = .ok (.aload_n 0, 1) := by decide +kernel
theorem d_Reader_digitComes_1 : decode prog_6_method_20_code 1 = .ok (.invokevirtual 130, 3) := by decide +kernel
theorem d_Reader_digitComes_4 : decode prog_6_method_20_code 4 = .ok (.aload_n 0, 1) := by decide +kernel
theorem d_Reader_digitComes_5 : decode prog_6_method_20_code 5 = .ok (.getfield 18, 3) := by decide +kernel
theorem d_Reader_digitComes_8 : decode prog_6_method_20_code 8 = .ok (.aload_n 0, 1) := by decide +kernel
theorem d_Reader_digitComes_9 : decode prog_6_method_20_code 9 = .ok (.getfield 22, 3) := by decide +kernel
theorem d_Reader_digitComes_12 : decode prog_6_method_20_code 12 = .ok (.invokevirtual 138, 3) := by decide +kernel
theorem d_Reader_digitComes_15 : decode prog_6_method_20_code 15 = .ok (.invokestatic 242, 3) := by decide +kernel
theorem d_Reader_digitComes_18 : decode prog_6_method_20_code 18 = .ok (.ireturn, 1) := by decide +kernel
set_option maxHeartbeats 4000000 in
set_option maxRecDepth 100000 in
theorem c_Reader_digitComes {l : Launch} {D : va_G} {ad : Nat → Nat} {cA : Nat → ClassId} {sd sv : Nat → Nat} {h : Hp} {N : Nat} {out : (Int × Hp)} (hI : Inj97 ad) (hM : M_Reader_digitComes N h = some out) : Met l y_Reader_digitComes (.code y_Reader_digitComes prog_6_method_20_code 1 (some .boolean) :: TT) (rmD 2) (PC D ad cA sd sv h [.ref (ad 3)]) (QI D ad cA out) 0 0 (FA ad) := by
  unfold M_Reader_digitComes at hM
  refine entM (by decide +kernel) hI (Nat.le_of_ble_eq_true rfl) ?_
  intro p e s m args below meth c C hr hlk hP ls hl
  have C : Cx p s m args c prog_6_method_20_code 1 "FeastBook$Reader" D ad cA sd sv (FA ad) := C
  have hl : lv_has ls 1 [(0, .ref (ad 3))] := hl
  have w : Wd s D ad cA (FA ad) h s.heap [] := ⟨hP, va_S.rf⟩
  refine m_aload_n C hl 0 d_Reader_digitComes_0 rfl rfl ?_
  obtain ⟨h2, e1, hM⟩ := bnd_some hM
  refine aftV C w (runV C w.1 w.2 kc_Reader sh_3 (Nat.le_of_ble_eq_true rfl) (c_Reader_skipBlanks hI e1) lk_Reader_130 mb_Reader_skipBlanks rfl ⟨Nat.le_of_ble_eq_true rfl, Nat.le_of_ble_eq_true rfl⟩ ⟨Nat.zero_le _, Nat.zero_le _⟩ (Nat.le_of_ble_eq_true rfl) d_Reader_digitComes_1 hl.1 (rest := []) rfl) (fun H locs w => ?_)
  refine m_aload_n C hl 0 d_Reader_digitComes_4 rfl rfl ?_
  refine m_getr C w.1 kc_Reader sh_3 (Nat.le_of_ble_eq_true rfl) 0 1 rfl (by decide) fk_Reader_18 d_Reader_digitComes_5 ?_
  refine m_aload_n C hl 0 d_Reader_digitComes_8 rfl rfl ?_
  refine m_geti C w.1 kc_Reader sh_3 (Nat.le_of_ble_eq_true rfl) 2 rfl (by decide) fk_Reader_22 d_Reader_digitComes_9 ?_
  obtain ⟨x4, e3, hM⟩ := bnd_some hM
  refine aftR (runV C w.1 w.2 kc_Tape sh_1 (Nat.le_of_ble_eq_true rfl) (c_Tape_at hI e3) lk_Reader_138 mb_Tape_at rfl ⟨Nat.le_of_ble_eq_true rfl, Nat.le_of_ble_eq_true rfl⟩ ⟨Nat.zero_le _, Nat.zero_le _⟩ (Nat.le_of_ble_eq_true rfl) d_Reader_digitComes_12 hl.1 (rest := []) rfl) ?_
  obtain ⟨x6, e5, hM⟩ := bnd_some hM
  refine aftR (runS C w.1 w.2 (c_Reader_isDigit hI e5) lk_Reader_242 mb_Reader_isDigit rfl ⟨Nat.le_of_ble_eq_true rfl, Nat.le_of_ble_eq_true rfl⟩ ⟨Nat.zero_le _, Nat.zero_le _⟩ (Nat.le_of_ble_eq_true rfl) d_Reader_digitComes_15 hl.1 (rest := []) rfl) ?_
  exact m_zretW C w hr hlk hM d_Reader_digitComes_18
def y_Reader_readYears : MethodName := ⟨"FeastBook$Reader", "readYears", "()V"⟩
theorem d_Reader_readYears_0 : decode prog_6_method_3_code 0 = .ok (.aload_n 0, 1) := by decide +kernel
theorem d_Reader_readYears_1 : decode prog_6_method_3_code 1 = .ok (.invokevirtual 71, 3) := by decide +kernel
theorem d_Reader_readYears_4 : decode prog_6_method_3_code 4 = .ok (.aload_n 0, 1) := by decide +kernel
theorem d_Reader_readYears_5 : decode prog_6_method_3_code 5 = .ok (.aload_n 0, 1) := by decide +kernel
theorem d_Reader_readYears_6 : decode prog_6_method_3_code 6 = .ok (.ldc 74, 2) := by decide +kernel
theorem d_Reader_readYears_8 : decode prog_6_method_3_code 8 = .ok (.invokevirtual 76, 3) := by decide +kernel
theorem d_Reader_readYears_11 : decode prog_6_method_3_code 11 = .ok (.invokevirtual 80, 3) := by decide +kernel
theorem d_Reader_readYears_14 : decode prog_6_method_3_code 14 = .ok (.aload_n 0, 1) := by decide +kernel
theorem d_Reader_readYears_15 : decode prog_6_method_3_code 15 = .ok (.getfield 12, 3) := by decide +kernel
theorem d_Reader_readYears_18 : decode prog_6_method_3_code 18 = .ok (.aload_n 0, 1) := by decide +kernel
theorem d_Reader_readYears_19 : decode prog_6_method_3_code 19 = .ok (.iconst 3, 1) := by decide +kernel
theorem d_Reader_readYears_20 : decode prog_6_method_3_code 20 = .ok (.bipush 9, 2) := by decide +kernel
theorem d_Reader_readYears_22 : decode prog_6_method_3_code 22 = .ok (.invokevirtual 84, 3) := by decide +kernel
theorem d_Reader_readYears_25 : decode prog_6_method_3_code 25 = .ok (.putfield 88, 3) := by decide +kernel
theorem d_Reader_readYears_28 : decode prog_6_method_3_code 28 = .ok (.aload_n 0, 1) := by decide +kernel
theorem d_Reader_readYears_29 : decode prog_6_method_3_code 29 = .ok (.getfield 12, 3) := by decide +kernel
theorem d_Reader_readYears_32 : decode prog_6_method_3_code 32 = .ok (.aload_n 0, 1) := by decide +kernel
theorem d_Reader_readYears_33 : decode prog_6_method_3_code 33 = .ok (.iconst 5, 1) := by decide +kernel
theorem d_Reader_readYears_34 : decode prog_6_method_3_code 34 = .ok (.bipush 31, 2) := by decide +kernel
theorem d_Reader_readYears_36 : decode prog_6_method_3_code 36 = .ok (.invokevirtual 84, 3) := by decide +kernel
theorem d_Reader_readYears_39 : decode prog_6_method_3_code 39 = .ok (.invokevirtual 91, 3) := by decide +kernel
theorem d_Reader_readYears_42 : decode prog_6_method_3_code 42 = .ok (.iconst 1, 1) := by decide +kernel
theorem d_Reader_readYears_43 : decode prog_6_method_3_code 43 = .ok (.istore_n 1, 1) := by decide +kernel
theorem d_Reader_readYears_44 : decode prog_6_method_3_code 44 = .ok (.iload_n 1, 1) := by decide +kernel
theorem d_Reader_readYears_45 : decode prog_6_method_3_code 45 = .ok (.bipush 8, 2) := by decide +kernel
theorem d_Reader_readYears_47 : decode prog_6_method_3_code 47 = .ok (.if_icmp .gt 59, 3) := by decide +kernel
theorem d_Reader_readYears_50 : decode prog_6_method_3_code 50 = .ok (.aload_n 0, 1) := by decide +kernel
theorem d_Reader_readYears_51 : decode prog_6_method_3_code 51 = .ok (.invokevirtual 94, 3) := by decide +kernel
theorem d_Reader_readYears_54 : decode prog_6_method_3_code 54 = .ok (.ifCond .eq 52, 3) := by decide +kernel
theorem d_Reader_readYears_57 : decode prog_6_method_3_code 57 = .ok (.aload_n 0, 1) := by decide +kernel
theorem d_Reader_readYears_58 : decode prog_6_method_3_code 58 = .ok (.aload_n 0, 1) := by decide +kernel
theorem d_Reader_readYears_59 : decode prog_6_method_3_code 59 = .ok (.getfield 22, 3) := by decide +kernel
theorem d_Reader_readYears_62 : decode prog_6_method_3_code 62 = .ok (.putfield 26, 3) := by decide +kernel
theorem d_Reader_readYears_65 : decode prog_6_method_3_code 65 = .ok (.aload_n 0, 1) := by decide +kernel
theorem d_Reader_readYears_66 : decode prog_6_method_3_code 66 = .ok (.aload_n 0, 1) := by decide +kernel
theorem d_Reader_readYears_67 : decode prog_6_method_3_code 67 = .ok (.getfield 12, 3) := by decide +kernel
theorem d_Reader_readYears_70 : decode prog_6_method_3_code 70 = .ok (.getfield 97, 3) := by decide +kernel
theorem d_Reader_readYears_73 : decode prog_6_method_3_code 73 = .ok (.bipush 8, 2) := by decide +kernel
theorem d_Reader_readYears_75 : decode prog_6_method_3_code 75 = .ok (.if_icmp .ge 7, 3) := by decide +kernel
theorem d_Reader_readYears_78 : decode prog_6_method_3_code 78 = .ok (.iconst 1, 1) := by decide +kernel
theorem d_Reader_readYears_79 : decode prog_6_method_3_code 79 = .ok (.goto 4, 3) := by decide +kernel
theorem d_Reader_readYears_82 : decode prog_6_method_3_code 82 = .ok (.iconst 0, 1) := by decide +kernel
theorem d_Reader_readYears_83 : decode prog_6_method_3_code 83 = .ok (.invokevirtual 80, 3) := by decide +kernel
theorem d_Reader_readYears_86 : decode prog_6_method_3_code 86 = .ok (.aload_n 0, 1) := by decide +kernel
theorem d_Reader_readYears_87 : decode prog_6_method_3_code 87 = .ok (.getfield 12, 3) := by decide +kernel
theorem d_Reader_readYears_90 : decode prog_6_method_3_code 90 = .ok (.aload_n 0, 1) := by decide +kernel
theorem d_Reader_readYears_91 : decode prog_6_method_3_code 91 = .ok (.iconst 5, 1) := by decide +kernel
theorem d_Reader_readYears_92 : decode prog_6_method_3_code 92 = .ok (.bipush 31, 2) := by decide +kernel
theorem d_Reader_readYears_94 : decode prog_6_method_3_code 94 = .ok (.invokevirtual 84, 3) := by decide +kernel
theorem d_Reader_readYears_97 : decode prog_6_method_3_code 97 = .ok (.invokevirtual 91, 3) := by decide +kernel
theorem d_Reader_readYears_100 : decode prog_6_method_3_code 100 = .ok (.iinc 1 1, 3) := by decide +kernel
theorem d_Reader_readYears_103 : decode prog_6_method_3_code 103 = .ok (.goto (-59), 3) := by decide +kernel
theorem d_Reader_readYears_106 : decode prog_6_method_3_code 106 = .ok (.return_, 1) := by decide +kernel
theorem mb_Book_addMonth : MBv R_Book y_Book_addMonth prog_2_method_4_code 2 none 1 := ⟨mT3 167 (by decide +kernel) (by decide +kernel), mT3 168 (by decide +kernel) (by decide +kernel), mT1 4 (by decide +kernel) (by decide +kernel), mT3 169 (by decide +kernel) (by decide +kernel), by decide, rfl, by decide +kernel, by decide +kernel, by decide +kernel⟩
theorem mb_Reader_digitComes : MBv R_Reader y_Reader_digitComes prog_6_method_20_code 1 (some .boolean) 0 := ⟨mT3 171 (by decide +kernel) (by decide +kernel), mT3 172 (by decide +kernel) (by decide +kernel), mT1 3 (by decide +kernel) (by decide +kernel), mT3 173 (by decide +kernel) (by decide +kernel), by decide, rfl, by decide +kernel, by decide +kernel, by decide +kernel⟩
theorem mb_Reader_isWord : MBv R_Reader y_Reader_isWord prog_6_method_16_code 3 (some .boolean) 1 := ⟨mT3 100 (by decide +kernel) (by decide +kernel), mT3 101 (by decide +kernel) (by decide +kernel), mT1 3 (by decide +kernel) (by decide +kernel), mT3 102 (by decide +kernel) (by decide +kernel), by decide, rfl, by decide +kernel, by decide +kernel, by decide +kernel⟩
theorem mb_Reader_readNumber : MBv R_Reader y_Reader_readNumber prog_6_method_17_code 4 (some .int) 2 := ⟨mT3 156 (by decide +kernel) (by decide +kernel), mT3 157 (by decide +kernel) (by decide +kernel), mT1 3 (by decide +kernel) (by decide +kernel), mT3 158 (by decide +kernel) (by decide +kernel), by decide, rfl, by decide +kernel, by decide +kernel, by decide +kernel⟩
theorem mb_Reader_readWord : MBv R_Reader y_Reader_readWord prog_6_method_15_code 1 none 0 := ⟨mT3 87 (by decide +kernel) (by decide +kernel), mT3 88 (by decide +kernel) (by decide +kernel), mT1 3 (by decide +kernel) (by decide +kernel), mT3 89 (by decide +kernel) (by decide +kernel), by decide, rfl, by decide +kernel, by decide +kernel, by decide +kernel⟩
theorem fk_Reader_12 : Cond.fieldLink "FeastBook$Reader" 12 (T_Reader 1).1 (T_Reader 1).2.1 (T_Reader 1).2.2.1 ∈ TT := mT2 4 (by decide +kernel) (by decide +kernel)
theorem fk_Reader_88 : Cond.fieldLink "FeastBook$Reader" 88 (T_Book 1).1 (T_Book 1).2.1 (T_Book 1).2.2.1 ∈ TT := mT1 156 (by decide +kernel) (by decide +kernel)
theorem fk_Reader_97 : Cond.fieldLink "FeastBook$Reader" 97 (T_Book 2).1 (T_Book 2).2.1 (T_Book 2).2.2.1 ∈ TT := mT1 160 (by decide +kernel) (by decide +kernel)
theorem lk_Reader_71 : Cond.methodLink "FeastBook$Reader" 71 y_Reader_readWord ∈ TT := mT3 86 (by decide +kernel) (by decide +kernel)
theorem lk_Reader_76 : Cond.methodLink "FeastBook$Reader" 76 y_Reader_isWord ∈ TT := mT3 99 (by decide +kernel) (by decide +kernel)
theorem lk_Reader_84 : Cond.methodLink "FeastBook$Reader" 84 y_Reader_readNumber ∈ TT := mT3 155 (by decide +kernel) (by decide +kernel)
theorem lk_Reader_91 : Cond.methodLink "FeastBook$Reader" 91 y_Book_addMonth ∈ TT := mT3 166 (by decide +kernel) (by decide +kernel)
theorem lk_Reader_94 : Cond.methodLink "FeastBook$Reader" 94 y_Reader_digitComes ∈ TT := mT3 170 (by decide +kernel) (by decide +kernel)
set_option maxHeartbeats 4000000 in
set_option maxRecDepth 100000 in
theorem w_Reader_readYears_L44 {p : Program} {l : Launch} {e : Env} {s : State} {m : MethodId} {args : Array Value} {below : List Frame} {meth : Method} {c : Code} {D : va_G} {ad : Nat → Nat} {cA : Nat → ClassId} {sd sv : Nat → Nat} {out : Hp} (N : Nat) (hI : Inj97 ad) (C : Cx p s m args c prog_6_method_3_code 2 "FeastBook$Reader" D ad cA sd sv (FA ad)) (hr : meth.sig.returnType = none) (hlk : meth.locks = false) : ∀ (n : Nat) (v1 : Int) (h : Hp) (H : Heap) (locs : List Loc), Wd s D ad cA (FA ad) h H locs → ∀ ls : Array Slot, lv_has ls 2 [(0, .ref (ad 3)), (1, .int (iZ v1))] → Reader_readYears_L44 N n v1 h = some out → W p l e (rmD 5) s m args below meth c H locs 0 0 (MQ below (QV D ad cA out) args s 0 0 (FA ad)) (F0 m 44 ls []) := by
  intro n
  induction n with
  | zero =>
    intro v1 h H locs w ls hl hM
    rw [Reader_readYears_L44] at hM
    cases hM
  | succ n ih =>
    intro v1 h H locs w ls hl hM
    rw [Reader_readYears_L44] at hM
    refine m_iload_n C hl 1 d_Reader_readYears_44 rfl rfl ?_
    refine m_bipush C d_Reader_readYears_45 (by decide) ?_
    refine m_icmp_gt C hM 106 d_Reader_readYears_47 (by decide) (fun hM => ?_) (fun hM => ?_)
    · exact m_vretW C w hr hlk hM d_Reader_readYears_106
    · refine m_aload_n C hl 0 d_Reader_readYears_50 rfl rfl ?_
      obtain ⟨q15, e14, hM⟩ := bnd_some hM
      refine aftI C w (runV C w.1 w.2 kc_Reader sh_3 (Nat.le_of_ble_eq_true rfl) (c_Reader_digitComes hI e14) lk_Reader_94 mb_Reader_digitComes rfl ⟨Nat.le_of_ble_eq_true rfl, Nat.le_of_ble_eq_true rfl⟩ ⟨Nat.zero_le _, Nat.zero_le _⟩ (Nat.le_of_ble_eq_true rfl) d_Reader_readYears_51 hl.1 (rest := []) rfl) (fun H locs w => ?_)
      refine m_if_eq C hM 106 d_Reader_readYears_54 (by decide) (fun hM => ?_) (fun hM => ?_)
      · exact m_vretW C w hr hlk hM d_Reader_readYears_106
      · refine m_aload_n C hl 0 d_Reader_readYears_57 rfl rfl ?_
        refine m_aload_n C hl 0 d_Reader_readYears_58 rfl rfl ?_
        refine m_geti C w.1 kc_Reader sh_3 (Nat.le_of_ble_eq_true rfl) 2 rfl (by decide) fk_Reader_22 d_Reader_readYears_59 ?_
        refine m_puti C w kc_Reader sh_3 (Nat.le_of_ble_eq_true rfl) 3 hM rfl (by decide) rfl rfl fk_Reader_26 d_Reader_readYears_62 (fun h16 H locs w hM => ?_)
        refine m_aload_n C hl 0 d_Reader_readYears_65 rfl rfl ?_
        refine m_aload_n C hl 0 d_Reader_readYears_66 rfl rfl ?_
        refine m_getr C w.1 kc_Reader sh_3 (Nat.le_of_ble_eq_true rfl) 1 4 rfl (by decide) fk_Reader_12 d_Reader_readYears_67 ?_
        refine m_geti C w.1 kc_Book sh_4 (Nat.le_of_ble_eq_true rfl) 2 rfl (by decide) fk_Reader_97 d_Reader_readYears_70 ?_
        refine m_bipush C d_Reader_readYears_73 (by decide) ?_
        refine m_icmp_ge C hM 82 d_Reader_readYears_75 (by decide) (fun hM => ?_) (fun hM => ?_)
        · refine m_iconst C d_Reader_readYears_82 ?_
          obtain ⟨h18, e17, hM⟩ := bnd_some hM
          refine aftV C w (runV C w.1 w.2 kc_Reader sh_3 (Nat.le_of_ble_eq_true rfl) (c_Reader_require hI e17) lk_Reader_80 mb_Reader_require rfl ⟨Nat.le_of_ble_eq_true rfl, Nat.le_of_ble_eq_true rfl⟩ ⟨Nat.zero_le _, Nat.zero_le _⟩ (Nat.le_of_ble_eq_true rfl) d_Reader_readYears_83 hl.1 (rest := []) rfl) (fun H locs w => ?_)
          refine m_aload_n C hl 0 d_Reader_readYears_86 rfl rfl ?_
          refine m_getr C w.1 kc_Reader sh_3 (Nat.le_of_ble_eq_true rfl) 1 4 rfl (by decide) fk_Reader_12 d_Reader_readYears_87 ?_
          refine m_aload_n C hl 0 d_Reader_readYears_90 rfl rfl ?_
          refine m_iconst C d_Reader_readYears_91 ?_
          refine m_bipush C d_Reader_readYears_92 (by decide) ?_
          obtain ⟨q20, e19, hM⟩ := bnd_some hM
          refine aftI C w (runV C w.1 w.2 kc_Reader sh_3 (Nat.le_of_ble_eq_true rfl) (c_Reader_readNumber hI e19) lk_Reader_84 mb_Reader_readNumber rfl ⟨Nat.le_of_ble_eq_true rfl, Nat.le_of_ble_eq_true rfl⟩ ⟨Nat.zero_le _, Nat.zero_le _⟩ (Nat.le_of_ble_eq_true rfl) d_Reader_readYears_94 hl.1 (rest := [.ref (ad 4)]) rfl) (fun H locs w => ?_)
          obtain ⟨h22, e21, hM⟩ := bnd_some hM
          refine aftV C w (runV C w.1 w.2 kc_Book sh_4 (Nat.le_of_ble_eq_true rfl) (c_Book_addMonth hI (Or.inl rfl) e21) lk_Reader_91 mb_Book_addMonth rfl ⟨Nat.le_of_ble_eq_true rfl, Nat.le_of_ble_eq_true rfl⟩ ⟨Nat.zero_le _, Nat.zero_le _⟩ (Nat.le_of_ble_eq_true rfl) d_Reader_readYears_97 hl.1 (rest := []) rfl) (fun H locs w => ?_)
          refine m_iinc C hl 1 [(1, .int (iZ (v1 + 1))), (0, .ref (ad 3))] d_Reader_readYears_100 rfl (by decide) rfl (fun ls hl => ?_)
          refine m_goto C 44 d_Reader_readYears_103 (by decide) ?_
          exact ih (v1 + 1) h22 _ _ w _ (lv_sub hl [1, 0] rfl) hM
        · refine m_iconst C d_Reader_readYears_78 ?_
          refine m_goto C 83 d_Reader_readYears_79 (by decide) ?_
          obtain ⟨h24, e23, hM⟩ := bnd_some hM
          refine aftV C w (runV C w.1 w.2 kc_Reader sh_3 (Nat.le_of_ble_eq_true rfl) (c_Reader_require hI e23) lk_Reader_80 mb_Reader_require rfl ⟨Nat.le_of_ble_eq_true rfl, Nat.le_of_ble_eq_true rfl⟩ ⟨Nat.zero_le _, Nat.zero_le _⟩ (Nat.le_of_ble_eq_true rfl) d_Reader_readYears_83 hl.1 (rest := []) rfl) (fun H locs w => ?_)
          refine m_aload_n C hl 0 d_Reader_readYears_86 rfl rfl ?_
          refine m_getr C w.1 kc_Reader sh_3 (Nat.le_of_ble_eq_true rfl) 1 4 rfl (by decide) fk_Reader_12 d_Reader_readYears_87 ?_
          refine m_aload_n C hl 0 d_Reader_readYears_90 rfl rfl ?_
          refine m_iconst C d_Reader_readYears_91 ?_
          refine m_bipush C d_Reader_readYears_92 (by decide) ?_
          obtain ⟨q26, e25, hM⟩ := bnd_some hM
          refine aftI C w (runV C w.1 w.2 kc_Reader sh_3 (Nat.le_of_ble_eq_true rfl) (c_Reader_readNumber hI e25) lk_Reader_84 mb_Reader_readNumber rfl ⟨Nat.le_of_ble_eq_true rfl, Nat.le_of_ble_eq_true rfl⟩ ⟨Nat.zero_le _, Nat.zero_le _⟩ (Nat.le_of_ble_eq_true rfl) d_Reader_readYears_94 hl.1 (rest := [.ref (ad 4)]) rfl) (fun H locs w => ?_)
          obtain ⟨h28, e27, hM⟩ := bnd_some hM
          refine aftV C w (runV C w.1 w.2 kc_Book sh_4 (Nat.le_of_ble_eq_true rfl) (c_Book_addMonth hI (Or.inl rfl) e27) lk_Reader_91 mb_Book_addMonth rfl ⟨Nat.le_of_ble_eq_true rfl, Nat.le_of_ble_eq_true rfl⟩ ⟨Nat.zero_le _, Nat.zero_le _⟩ (Nat.le_of_ble_eq_true rfl) d_Reader_readYears_97 hl.1 (rest := []) rfl) (fun H locs w => ?_)
          refine m_iinc C hl 1 [(1, .int (iZ (v1 + 1))), (0, .ref (ad 3))] d_Reader_readYears_100 rfl (by decide) rfl (fun ls hl => ?_)
          refine m_goto C 44 d_Reader_readYears_103 (by decide) ?_
          exact ih (v1 + 1) h28 _ _ w _ (lv_sub hl [1, 0] rfl) hM
set_option maxHeartbeats 4000000 in
set_option maxRecDepth 100000 in
theorem c_Reader_readYears {l : Launch} {D : va_G} {ad : Nat → Nat} {cA : Nat → ClassId} {sd sv : Nat → Nat} {h : Hp} {N : Nat} {out : Hp} (hI : Inj97 ad) (hM : M_Reader_readYears N h = some out) : Met l y_Reader_readYears (.code y_Reader_readYears prog_6_method_3_code 2 none :: TT) (rmD 5) (PC D ad cA sd sv h [.ref (ad 3)]) (QV D ad cA out) 0 0 (FA ad) := by
  unfold M_Reader_readYears at hM
  refine entM (by decide +kernel) hI (Nat.le_of_ble_eq_true rfl) ?_
  intro p e s m args below meth c C hr hlk hP ls hl
  have C : Cx p s m args c prog_6_method_3_code 2 "FeastBook$Reader" D ad cA sd sv (FA ad) := C
  have hl : lv_has ls 2 [(0, .ref (ad 3))] := hl
  have w : Wd s D ad cA (FA ad) h s.heap [] := ⟨hP, va_S.rf⟩
  refine m_aload_n C hl 0 d_Reader_readYears_0 rfl rfl ?_
  obtain ⟨h2, e1, hM⟩ := bnd_some hM
  refine aftV C w (runV C w.1 w.2 kc_Reader sh_3 (Nat.le_of_ble_eq_true rfl) (c_Reader_readWord hI e1) lk_Reader_71 mb_Reader_readWord rfl ⟨Nat.le_of_ble_eq_true rfl, Nat.le_of_ble_eq_true rfl⟩ ⟨Nat.zero_le _, Nat.zero_le _⟩ (Nat.le_of_ble_eq_true rfl) d_Reader_readYears_1 hl.1 (rest := []) rfl) (fun H locs w => ?_)
  refine m_aload_n C hl 0 d_Reader_readYears_4 rfl rfl ?_
  refine m_aload_n C hl 0 d_Reader_readYears_5 rfl rfl ?_
  refine m_ldcS C 0 (by decide) rfl d_Reader_readYears_6 ?_
  obtain ⟨x4, e3, hM⟩ := bnd_some hM
  refine aftR (runV C w.1 w.2 kc_Reader sh_3 (Nat.le_of_ble_eq_true rfl) (c_Reader_isWord hI (by decide) e3) lk_Reader_76 mb_Reader_isWord rfl ⟨Nat.le_of_ble_eq_true rfl, Nat.le_of_ble_eq_true rfl⟩ ⟨Nat.zero_le _, Nat.zero_le _⟩ (Nat.le_of_ble_eq_true rfl) d_Reader_readYears_8 hl.1 (rest := [.ref (ad 3)]) rfl) ?_
  obtain ⟨h6, e5, hM⟩ := bnd_some hM
  refine aftV C w (runV C w.1 w.2 kc_Reader sh_3 (Nat.le_of_ble_eq_true rfl) (c_Reader_require hI e5) lk_Reader_80 mb_Reader_require rfl ⟨Nat.le_of_ble_eq_true rfl, Nat.le_of_ble_eq_true rfl⟩ ⟨Nat.zero_le _, Nat.zero_le _⟩ (Nat.le_of_ble_eq_true rfl) d_Reader_readYears_11 hl.1 (rest := []) rfl) (fun H locs w => ?_)
  refine m_aload_n C hl 0 d_Reader_readYears_14 rfl rfl ?_
  refine m_getr C w.1 kc_Reader sh_3 (Nat.le_of_ble_eq_true rfl) 1 4 rfl (by decide) fk_Reader_12 d_Reader_readYears_15 ?_
  refine m_aload_n C hl 0 d_Reader_readYears_18 rfl rfl ?_
  refine m_iconst C d_Reader_readYears_19 ?_
  refine m_bipush C d_Reader_readYears_20 (by decide) ?_
  obtain ⟨q8, e7, hM⟩ := bnd_some hM
  refine aftI C w (runV C w.1 w.2 kc_Reader sh_3 (Nat.le_of_ble_eq_true rfl) (c_Reader_readNumber hI e7) lk_Reader_84 mb_Reader_readNumber rfl ⟨Nat.le_of_ble_eq_true rfl, Nat.le_of_ble_eq_true rfl⟩ ⟨Nat.zero_le _, Nat.zero_le _⟩ (Nat.le_of_ble_eq_true rfl) d_Reader_readYears_22 hl.1 (rest := [.ref (ad 4)]) rfl) (fun H locs w => ?_)
  refine m_puti C w kc_Book sh_4 (Nat.le_of_ble_eq_true rfl) 1 hM rfl (by decide) rfl rfl fk_Reader_88 d_Reader_readYears_25 (fun h9 H locs w hM => ?_)
  refine m_aload_n C hl 0 d_Reader_readYears_28 rfl rfl ?_
  refine m_getr C w.1 kc_Reader sh_3 (Nat.le_of_ble_eq_true rfl) 1 4 rfl (by decide) fk_Reader_12 d_Reader_readYears_29 ?_
  refine m_aload_n C hl 0 d_Reader_readYears_32 rfl rfl ?_
  refine m_iconst C d_Reader_readYears_33 ?_
  refine m_bipush C d_Reader_readYears_34 (by decide) ?_
  obtain ⟨q11, e10, hM⟩ := bnd_some hM
  refine aftI C w (runV C w.1 w.2 kc_Reader sh_3 (Nat.le_of_ble_eq_true rfl) (c_Reader_readNumber hI e10) lk_Reader_84 mb_Reader_readNumber rfl ⟨Nat.le_of_ble_eq_true rfl, Nat.le_of_ble_eq_true rfl⟩ ⟨Nat.zero_le _, Nat.zero_le _⟩ (Nat.le_of_ble_eq_true rfl) d_Reader_readYears_36 hl.1 (rest := [.ref (ad 4)]) rfl) (fun H locs w => ?_)
  obtain ⟨h13, e12, hM⟩ := bnd_some hM
  refine aftV C w (runV C w.1 w.2 kc_Book sh_4 (Nat.le_of_ble_eq_true rfl) (c_Book_addMonth hI (Or.inl rfl) e12) lk_Reader_91 mb_Book_addMonth rfl ⟨Nat.le_of_ble_eq_true rfl, Nat.le_of_ble_eq_true rfl⟩ ⟨Nat.zero_le _, Nat.zero_le _⟩ (Nat.le_of_ble_eq_true rfl) d_Reader_readYears_39 hl.1 (rest := []) rfl) (fun H locs w => ?_)
  refine m_iconst C d_Reader_readYears_42 ?_
  refine m_istore_n C hl [(1, .int (iZ 1)), (0, .ref (ad 3))] d_Reader_readYears_43 rfl (by decide) rfl (fun ls hl => ?_)
  exact w_Reader_readYears_L44 N hI C hr hlk  _ 1 h13 _ _ w _ (lv_sub hl [1, 0] rfl) hM
def y_Reader_readMoon : MethodName := ⟨"FeastBook$Reader", "readMoon", "()V"⟩
theorem d_Reader_readMoon_0 : decode prog_6_method_4_code 0 = .ok (.aload_n 0, 1) := by decide +kernel
theorem d_Reader_readMoon_1 : decode prog_6_method_4_code 1 = .ok (.invokevirtual 71, 3) := by decide +kernel
theorem d_Reader_readMoon_4 : decode prog_6_method_4_code 4 = .ok (.aload_n 0, 1) := by decide +kernel
theorem d_Reader_readMoon_5 : decode prog_6_method_4_code 5 = .ok (.ldc 100, 2) := by decide +kernel
theorem d_Reader_readMoon_7 : decode prog_6_method_4_code 7 = .ok (.invokevirtual 76, 3) := by decide +kernel
theorem d_Reader_readMoon_10 : decode prog_6_method_4_code 10 = .ok (.ifCond .eq 42, 3) := by decide +kernel
theorem d_Reader_readMoon_13 : decode prog_6_method_4_code 13 = .ok (.aload_n 0, 1) := by decide +kernel
theorem d_Reader_readMoon_14 : decode prog_6_method_4_code 14 = .ok (.getfield 12, 3) := by decide +kernel
theorem d_Reader_readMoon_17 : decode prog_6_method_4_code 17 = .ok (.aload_n 0, 1) := by decide +kernel
theorem d_Reader_readMoon_18 : decode prog_6_method_4_code 18 = .ok (.iconst 2, 1) := by decide +kernel
theorem d_Reader_readMoon_19 : decode prog_6_method_4_code 19 = .ok (.bipush 9, 2) := by decide +kernel
theorem d_Reader_readMoon_21 : decode prog_6_method_4_code 21 = .ok (.invokevirtual 84, 3) := by decide +kernel
theorem d_Reader_readMoon_24 : decode prog_6_method_4_code 24 = .ok (.putfield 102, 3) := by decide +kernel
theorem d_Reader_readMoon_27 : decode prog_6_method_4_code 27 = .ok (.aload_n 0, 1) := by decide +kernel
theorem d_Reader_readMoon_28 : decode prog_6_method_4_code 28 = .ok (.getfield 12, 3) := by decide +kernel
theorem d_Reader_readMoon_31 : decode prog_6_method_4_code 31 = .ok (.aload_n 0, 1) := by decide +kernel
theorem d_Reader_readMoon_32 : decode prog_6_method_4_code 32 = .ok (.iconst 0, 1) := by decide +kernel
theorem d_Reader_readMoon_33 : decode prog_6_method_4_code 33 = .ok (.aload_n 0, 1) := by decide +kernel
theorem d_Reader_readMoon_34 : decode prog_6_method_4_code 34 = .ok (.getfield 12, 3) := by decide +kernel
theorem d_Reader_readMoon_37 : decode prog_6_method_4_code 37 = .ok (.getfield 97, 3) := by decide +kernel
theorem d_Reader_readMoon_40 : decode prog_6_method_4_code 40 = .ok (.iconst 1, 1) := by decide +kernel
theorem d_Reader_readMoon_41 : decode prog_6_method_4_code 41 = .ok (.isub, 1) := by decide +kernel
theorem d_Reader_readMoon_42 : decode prog_6_method_4_code 42 = .ok (.invokevirtual 84, 3) := by decide +kernel
theorem d_Reader_readMoon_45 : decode prog_6_method_4_code 45 = .ok (.putfield 105, 3) := by decide +kernel
theorem d_Reader_readMoon_48 : decode prog_6_method_4_code 48 = .ok (.aload_n 0, 1) := by decide +kernel
theorem d_Reader_readMoon_49 : decode prog_6_method_4_code 49 = .ok (.invokevirtual 71, 3) := by decide +kernel
theorem d_Reader_readMoon_52 : decode prog_6_method_4_code 52 = .ok (.aload_n 0, 1) := by decide +kernel
theorem d_Reader_readMoon_53 : decode prog_6_method_4_code 53 = .ok (.aload_n 0, 1) := by decide +kernel
theorem d_Reader_readMoon_54 : decode prog_6_method_4_code 54 = .ok (.ldc 108, 2) := by decide +kernel
theorem d_Reader_readMoon_56 : decode prog_6_method_4_code 56 = .ok (.invokevirtual 76, 3) := by decide +kernel
theorem d_Reader_readMoon_59 : decode prog_6_method_4_code 59 = .ok (.invokevirtual 80, 3) := by decide +kernel
theorem d_Reader_readMoon_62 : decode prog_6_method_4_code 62 = .ok (.aload_n 0, 1) := by decide +kernel
theorem d_Reader_readMoon_63 : decode prog_6_method_4_code 63 = .ok (.getfield 12, 3) := by decide +kernel
theorem d_Reader_readMoon_66 : decode prog_6_method_4_code 66 = .ok (.aload_n 0, 1) := by decide +kernel
theorem d_Reader_readMoon_67 : decode prog_6_method_4_code 67 = .ok (.iconst 1, 1) := by decide +kernel
theorem d_Reader_readMoon_68 : decode prog_6_method_4_code 68 = .ok (.bipush 19, 2) := by decide +kernel
theorem d_Reader_readMoon_70 : decode prog_6_method_4_code 70 = .ok (.invokevirtual 84, 3) := by decide +kernel
theorem d_Reader_readMoon_73 : decode prog_6_method_4_code 73 = .ok (.putfield 110, 3) := by decide +kernel
theorem d_Reader_readMoon_76 : decode prog_6_method_4_code 76 = .ok (.aload_n 0, 1) := by decide +kernel
theorem d_Reader_readMoon_77 : decode prog_6_method_4_code 77 = .ok (.getfield 12, 3) := by decide +kernel
theorem d_Reader_readMoon_80 : decode prog_6_method_4_code 80 = .ok (.aload_n 0, 1) := by decide +kernel
theorem d_Reader_readMoon_81 : decode prog_6_method_4_code 81 = .ok (.iconst 0, 1) := by decide +kernel
theorem d_Reader_readMoon_82 : decode prog_6_method_4_code 82 = .ok (.bipush 99, 2) := by decide +kernel
theorem d_Reader_readMoon_84 : decode prog_6_method_4_code 84 = .ok (.invokevirtual 84, 3) := by decide +kernel
theorem d_Reader_readMoon_87 : decode prog_6_method_4_code 87 = .ok (.putfield 113, 3) := by decide +kernel
theorem d_Reader_readMoon_90 : decode prog_6_method_4_code 90 = .ok (.aload_n 0, 1) := by decide +kernel
theorem d_Reader_readMoon_91 : decode prog_6_method_4_code 91 = .ok (.getfield 12, 3) := by decide +kernel
theorem d_Reader_readMoon_94 : decode prog_6_method_4_code 94 = .ok (.aload_n 0, 1) := by decide +kernel
theorem d_Reader_readMoon_95 : decode prog_6_method_4_code 95 = .ok (.iconst 0, 1) := by decide +kernel
theorem d_Reader_readMoon_96 : decode prog_6_method_4_code 96 = .ok (.bipush 30, 2) := by decide +kernel
theorem d_Reader_readMoon_98 : decode prog_6_method_4_code 98 = .ok (.invokevirtual 84, 3) := by decide +kernel
theorem d_Reader_readMoon_101 : decode prog_6_method_4_code 101 = .ok (.putfield 116, 3) := by decide +kernel
theorem d_Reader_readMoon_104 : decode prog_6_method_4_code 104 = .ok (.aload_n 0, 1) := by decide +kernel
theorem d_Reader_readMoon_105 : decode prog_6_method_4_code 105 = .ok (.getfield 12, 3) := by decide +kernel
theorem d_Reader_readMoon_108 : decode prog_6_method_4_code 108 = .ok (.aload_n 0, 1) := by decide +kernel
theorem d_Reader_readMoon_109 : decode prog_6_method_4_code 109 = .ok (.iconst 1, 1) := by decide +kernel
theorem d_Reader_readMoon_110 : decode prog_6_method_4_code 110 = .ok (.bipush 30, 2) := by decide +kernel
theorem d_Reader_readMoon_112 : decode prog_6_method_4_code 112 = .ok (.aload_n 0, 1) := by decide +kernel
theorem d_Reader_readMoon_113 : decode prog_6_method_4_code 113 = .ok (.getfield 12, 3) := by decide +kernel
theorem d_Reader_readMoon_116 : decode prog_6_method_4_code 116 = .ok (.getfield 119, 3) := by decide +kernel
theorem d_Reader_readMoon_119 : decode prog_6_method_4_code 119 = .ok (.aload_n 0, 1) := by decide +kernel
theorem d_Reader_readMoon_120 : decode prog_6_method_4_code 120 = .ok (.getfield 12, 3) := by decide +kernel
theorem d_Reader_readMoon_123 : decode prog_6_method_4_code 123 = .ok (.getfield 113, 3) := by decide +kernel
theorem d_Reader_readMoon_126 : decode prog_6_method_4_code 126 = .ok (.isub, 1) := by decide +kernel
theorem d_Reader_readMoon_127 : decode prog_6_method_4_code 127 = .ok (.aload_n 0, 1) := by decide +kernel
theorem d_Reader_readMoon_128 : decode prog_6_method_4_code 128 = .ok (.getfield 12, 3) := by decide +kernel
theorem d_Reader_readMoon_131 : decode prog_6_method_4_code 131 = .ok (.getfield 88, 3) := by decide +kernel
theorem d_Reader_readMoon_134 : decode prog_6_method_4_code 134 = .ok (.isub, 1) := by decide +kernel
theorem d_Reader_readMoon_135 : decode prog_6_method_4_code 135 = .ok (.invokestatic 122, 3) := by decide +kernel
theorem d_Reader_readMoon_138 : decode prog_6_method_4_code 138 = .ok (.invokevirtual 84, 3) := by decide +kernel
theorem d_Reader_readMoon_141 : decode prog_6_method_4_code 141 = .ok (.putfield 127, 3) := by decide +kernel
theorem d_Reader_readMoon_144 : decode prog_6_method_4_code 144 = .ok (.return_, 1) := by decide +kernel
theorem fk_Reader_102 : Cond.fieldLink "FeastBook$Reader" 102 (T_Book 4).1 (T_Book 4).2.1 (T_Book 4).2.2.1 ∈ TT := mT1 165 (by decide +kernel) (by decide +kernel)
theorem fk_Reader_105 : Cond.fieldLink "FeastBook$Reader" 105 (T_Book 5).1 (T_Book 5).2.1 (T_Book 5).2.2.1 ∈ TT := mT1 168 (by decide +kernel) (by decide +kernel)
theorem fk_Reader_110 : Cond.fieldLink "FeastBook$Reader" 110 (T_Book 6).1 (T_Book 6).2.1 (T_Book 6).2.2.1 ∈ TT := mT1 170 (by decide +kernel) (by decide +kernel)
theorem fk_Reader_113 : Cond.fieldLink "FeastBook$Reader" 113 (T_Book 7).1 (T_Book 7).2.1 (T_Book 7).2.2.1 ∈ TT := mT1 172 (by decide +kernel) (by decide +kernel)
theorem fk_Reader_116 : Cond.fieldLink "FeastBook$Reader" 116 (T_Book 8).1 (T_Book 8).2.1 (T_Book 8).2.2.1 ∈ TT := mT1 174 (by decide +kernel) (by decide +kernel)
theorem fk_Reader_119 : Cond.fieldLink "FeastBook$Reader" 119 (T_Book 3).1 (T_Book 3).2.1 (T_Book 3).2.2.1 ∈ TT := mT1 163 (by decide +kernel) (by decide +kernel)
theorem fk_Reader_127 : Cond.fieldLink "FeastBook$Reader" 127 (T_Book 9).1 (T_Book 9).2.1 (T_Book 9).2.2.1 ∈ TT := mT1 176 (by decide +kernel) (by decide +kernel)
theorem lk_Reader_122 : Cond.methodLink "FeastBook$Reader" 122 Lib.Math.min.name ∈ TT := mT3 180 (by decide +kernel) (by decide +kernel)
set_option maxHeartbeats 4000000 in
set_option maxRecDepth 100000 in
theorem c_Reader_readMoon {l : Launch} {D : va_G} {ad : Nat → Nat} {cA : Nat → ClassId} {sd sv : Nat → Nat} {h : Hp} {N : Nat} {out : Hp} (hI : Inj97 ad) (hM : M_Reader_readMoon N h = some out) : Met l y_Reader_readMoon (.code y_Reader_readMoon prog_6_method_4_code 1 none :: TT) (rmD 5) (PC D ad cA sd sv h [.ref (ad 3)]) (QV D ad cA out) 0 0 (FA ad) := by
  unfold M_Reader_readMoon at hM
  refine entM (by decide +kernel) hI (Nat.le_of_ble_eq_true rfl) ?_
  intro p e s m args below meth c C hr hlk hP ls hl
  have C : Cx p s m args c prog_6_method_4_code 1 "FeastBook$Reader" D ad cA sd sv (FA ad) := C
  have hl : lv_has ls 1 [(0, .ref (ad 3))] := hl
  have w : Wd s D ad cA (FA ad) h s.heap [] := ⟨hP, va_S.rf⟩
  refine m_aload_n C hl 0 d_Reader_readMoon_0 rfl rfl ?_
  obtain ⟨h2, e1, hM⟩ := bnd_some hM
  refine aftV C w (runV C w.1 w.2 kc_Reader sh_3 (Nat.le_of_ble_eq_true rfl) (c_Reader_readWord hI e1) lk_Reader_71 mb_Reader_readWord rfl ⟨Nat.le_of_ble_eq_true rfl, Nat.le_of_ble_eq_true rfl⟩ ⟨Nat.zero_le _, Nat.zero_le _⟩ (Nat.le_of_ble_eq_true rfl) d_Reader_readMoon_1 hl.1 (rest := []) rfl) (fun H locs w => ?_)
  refine m_aload_n C hl 0 d_Reader_readMoon_4 rfl rfl ?_
  refine m_ldcS C 1 (by decide) rfl d_Reader_readMoon_5 ?_
  obtain ⟨x4, e3, hM⟩ := bnd_some hM
  refine aftR (runV C w.1 w.2 kc_Reader sh_3 (Nat.le_of_ble_eq_true rfl) (c_Reader_isWord hI (by decide) e3) lk_Reader_76 mb_Reader_isWord rfl ⟨Nat.le_of_ble_eq_true rfl, Nat.le_of_ble_eq_true rfl⟩ ⟨Nat.zero_le _, Nat.zero_le _⟩ (Nat.le_of_ble_eq_true rfl) d_Reader_readMoon_7 hl.1 (rest := []) rfl) ?_
  refine lt_join hM (fun j13 ej hM => ?_)
  have hJ13 : ∀ (h_13 : Hp), j13 h_13 = some out → ∀ (H : Heap) (locs : List Loc), Wd s D ad cA (FA ad) h_13 H locs → ∀ ls : Array Slot, lv_has ls 1 [(0, .ref (ad 3))] → W p l e (rmD 5) s m args below meth c H locs 0 0 (MQ below (QV D ad cA out) args s 0 0 (FA ad)) (F0 m 52 ls []) := by
    intro h_13 hM H locs w ls hl
    subst ej
    dsimp only at hM
    refine m_aload_n C hl 0 d_Reader_readMoon_52 rfl rfl ?_
    refine m_aload_n C hl 0 d_Reader_readMoon_53 rfl rfl ?_
    refine m_ldcS C 2 (by decide) rfl d_Reader_readMoon_54 ?_
    obtain ⟨x15, e14, hM⟩ := bnd_some hM
    refine aftR (runV C w.1 w.2 kc_Reader sh_3 (Nat.le_of_ble_eq_true rfl) (c_Reader_isWord hI (by decide) e14) lk_Reader_76 mb_Reader_isWord rfl ⟨Nat.le_of_ble_eq_true rfl, Nat.le_of_ble_eq_true rfl⟩ ⟨Nat.zero_le _, Nat.zero_le _⟩ (Nat.le_of_ble_eq_true rfl) d_Reader_readMoon_56 hl.1 (rest := [.ref (ad 3)]) rfl) ?_
    obtain ⟨h17, e16, hM⟩ := bnd_some hM
    refine aftV C w (runV C w.1 w.2 kc_Reader sh_3 (Nat.le_of_ble_eq_true rfl) (c_Reader_require hI e16) lk_Reader_80 mb_Reader_require rfl ⟨Nat.le_of_ble_eq_true rfl, Nat.le_of_ble_eq_true rfl⟩ ⟨Nat.zero_le _, Nat.zero_le _⟩ (Nat.le_of_ble_eq_true rfl) d_Reader_readMoon_59 hl.1 (rest := []) rfl) (fun H locs w => ?_)
    refine m_aload_n C hl 0 d_Reader_readMoon_62 rfl rfl ?_
    refine m_getr C w.1 kc_Reader sh_3 (Nat.le_of_ble_eq_true rfl) 1 4 rfl (by decide) fk_Reader_12 d_Reader_readMoon_63 ?_
    refine m_aload_n C hl 0 d_Reader_readMoon_66 rfl rfl ?_
    refine m_iconst C d_Reader_readMoon_67 ?_
    refine m_bipush C d_Reader_readMoon_68 (by decide) ?_
    obtain ⟨q19, e18, hM⟩ := bnd_some hM
    refine aftI C w (runV C w.1 w.2 kc_Reader sh_3 (Nat.le_of_ble_eq_true rfl) (c_Reader_readNumber hI e18) lk_Reader_84 mb_Reader_readNumber rfl ⟨Nat.le_of_ble_eq_true rfl, Nat.le_of_ble_eq_true rfl⟩ ⟨Nat.zero_le _, Nat.zero_le _⟩ (Nat.le_of_ble_eq_true rfl) d_Reader_readMoon_70 hl.1 (rest := [.ref (ad 4)]) rfl) (fun H locs w => ?_)
    refine m_puti C w kc_Book sh_4 (Nat.le_of_ble_eq_true rfl) 6 hM rfl (by decide) rfl rfl fk_Reader_110 d_Reader_readMoon_73 (fun h20 H locs w hM => ?_)
    refine m_aload_n C hl 0 d_Reader_readMoon_76 rfl rfl ?_
    refine m_getr C w.1 kc_Reader sh_3 (Nat.le_of_ble_eq_true rfl) 1 4 rfl (by decide) fk_Reader_12 d_Reader_readMoon_77 ?_
    refine m_aload_n C hl 0 d_Reader_readMoon_80 rfl rfl ?_
    refine m_iconst C d_Reader_readMoon_81 ?_
    refine m_bipush C d_Reader_readMoon_82 (by decide) ?_
    obtain ⟨q22, e21, hM⟩ := bnd_some hM
    refine aftI C w (runV C w.1 w.2 kc_Reader sh_3 (Nat.le_of_ble_eq_true rfl) (c_Reader_readNumber hI e21) lk_Reader_84 mb_Reader_readNumber rfl ⟨Nat.le_of_ble_eq_true rfl, Nat.le_of_ble_eq_true rfl⟩ ⟨Nat.zero_le _, Nat.zero_le _⟩ (Nat.le_of_ble_eq_true rfl) d_Reader_readMoon_84 hl.1 (rest := [.ref (ad 4)]) rfl) (fun H locs w => ?_)
    refine m_puti C w kc_Book sh_4 (Nat.le_of_ble_eq_true rfl) 7 hM rfl (by decide) rfl rfl fk_Reader_113 d_Reader_readMoon_87 (fun h23 H locs w hM => ?_)
    refine m_aload_n C hl 0 d_Reader_readMoon_90 rfl rfl ?_
    refine m_getr C w.1 kc_Reader sh_3 (Nat.le_of_ble_eq_true rfl) 1 4 rfl (by decide) fk_Reader_12 d_Reader_readMoon_91 ?_
    refine m_aload_n C hl 0 d_Reader_readMoon_94 rfl rfl ?_
    refine m_iconst C d_Reader_readMoon_95 ?_
    refine m_bipush C d_Reader_readMoon_96 (by decide) ?_
    obtain ⟨q25, e24, hM⟩ := bnd_some hM
    refine aftI C w (runV C w.1 w.2 kc_Reader sh_3 (Nat.le_of_ble_eq_true rfl) (c_Reader_readNumber hI e24) lk_Reader_84 mb_Reader_readNumber rfl ⟨Nat.le_of_ble_eq_true rfl, Nat.le_of_ble_eq_true rfl⟩ ⟨Nat.zero_le _, Nat.zero_le _⟩ (Nat.le_of_ble_eq_true rfl) d_Reader_readMoon_98 hl.1 (rest := [.ref (ad 4)]) rfl) (fun H locs w => ?_)
    refine m_puti C w kc_Book sh_4 (Nat.le_of_ble_eq_true rfl) 8 hM rfl (by decide) rfl rfl fk_Reader_116 d_Reader_readMoon_101 (fun h26 H locs w hM => ?_)
    refine m_aload_n C hl 0 d_Reader_readMoon_104 rfl rfl ?_
    refine m_getr C w.1 kc_Reader sh_3 (Nat.le_of_ble_eq_true rfl) 1 4 rfl (by decide) fk_Reader_12 d_Reader_readMoon_105 ?_
    refine m_aload_n C hl 0 d_Reader_readMoon_108 rfl rfl ?_
    refine m_iconst C d_Reader_readMoon_109 ?_
    refine m_bipush C d_Reader_readMoon_110 (by decide) ?_
    refine m_aload_n C hl 0 d_Reader_readMoon_112 rfl rfl ?_
    refine m_getr C w.1 kc_Reader sh_3 (Nat.le_of_ble_eq_true rfl) 1 4 rfl (by decide) fk_Reader_12 d_Reader_readMoon_113 ?_
    refine m_geti C w.1 kc_Book sh_4 (Nat.le_of_ble_eq_true rfl) 3 rfl (by decide) fk_Reader_119 d_Reader_readMoon_116 ?_
    refine m_aload_n C hl 0 d_Reader_readMoon_119 rfl rfl ?_
    refine m_getr C w.1 kc_Reader sh_3 (Nat.le_of_ble_eq_true rfl) 1 4 rfl (by decide) fk_Reader_12 d_Reader_readMoon_120 ?_
    refine m_geti C w.1 kc_Book sh_4 (Nat.le_of_ble_eq_true rfl) 7 rfl (by decide) fk_Reader_113 d_Reader_readMoon_123 ?_
    refine m_isub C d_Reader_readMoon_126 ?_
    refine m_aload_n C hl 0 d_Reader_readMoon_127 rfl rfl ?_
    refine m_getr C w.1 kc_Reader sh_3 (Nat.le_of_ble_eq_true rfl) 1 4 rfl (by decide) fk_Reader_12 d_Reader_readMoon_128 ?_
    refine m_geti C w.1 kc_Book sh_4 (Nat.le_of_ble_eq_true rfl) 1 rfl (by decide) fk_Reader_88 d_Reader_readMoon_131 ?_
    refine m_isub C d_Reader_readMoon_134 ?_
    refine m_min C lk_Reader_122 hl.1 (Nat.le_of_ble_eq_true rfl) (Nat.le_of_ble_eq_true rfl) ⟨Nat.zero_le _, Nat.zero_le _⟩ d_Reader_readMoon_135 ?_
    obtain ⟨q28, e27, hM⟩ := bnd_some hM
    refine aftI C w (runV C w.1 w.2 kc_Reader sh_3 (Nat.le_of_ble_eq_true rfl) (c_Reader_readNumber hI e27) lk_Reader_84 mb_Reader_readNumber rfl ⟨Nat.le_of_ble_eq_true rfl, Nat.le_of_ble_eq_true rfl⟩ ⟨Nat.zero_le _, Nat.zero_le _⟩ (Nat.le_of_ble_eq_true rfl) d_Reader_readMoon_138 hl.1 (rest := [.ref (ad 4)]) rfl) (fun H locs w => ?_)
    refine m_puti C w kc_Book sh_4 (Nat.le_of_ble_eq_true rfl) 9 hM rfl (by decide) rfl rfl fk_Reader_127 d_Reader_readMoon_141 (fun h29 H locs w hM => ?_)
    exact m_vretW C w hr hlk hM d_Reader_readMoon_144
  refine m_if_eq C hM 52 d_Reader_readMoon_10 (by decide) (fun hM => ?_) (fun hM => ?_)
  · exact hJ13 h2 hM _ _ w _ hl
  · refine m_aload_n C hl 0 d_Reader_readMoon_13 rfl rfl ?_
    refine m_getr C w.1 kc_Reader sh_3 (Nat.le_of_ble_eq_true rfl) 1 4 rfl (by decide) fk_Reader_12 d_Reader_readMoon_14 ?_
    refine m_aload_n C hl 0 d_Reader_readMoon_17 rfl rfl ?_
    refine m_iconst C d_Reader_readMoon_18 ?_
    refine m_bipush C d_Reader_readMoon_19 (by decide) ?_
    obtain ⟨q31, e30, hM⟩ := bnd_some hM
    refine aftI C w (runV C w.1 w.2 kc_Reader sh_3 (Nat.le_of_ble_eq_true rfl) (c_Reader_readNumber hI e30) lk_Reader_84 mb_Reader_readNumber rfl ⟨Nat.le_of_ble_eq_true rfl, Nat.le_of_ble_eq_true rfl⟩ ⟨Nat.zero_le _, Nat.zero_le _⟩ (Nat.le_of_ble_eq_true rfl) d_Reader_readMoon_21 hl.1 (rest := [.ref (ad 4)]) rfl) (fun H locs w => ?_)
    refine m_puti C w kc_Book sh_4 (Nat.le_of_ble_eq_true rfl) 4 hM rfl (by decide) rfl rfl fk_Reader_102 d_Reader_readMoon_24 (fun h32 H locs w hM => ?_)
    refine m_aload_n C hl 0 d_Reader_readMoon_27 rfl rfl ?_
    refine m_getr C w.1 kc_Reader sh_3 (Nat.le_of_ble_eq_true rfl) 1 4 rfl (by decide) fk_Reader_12 d_Reader_readMoon_28 ?_
    refine m_aload_n C hl 0 d_Reader_readMoon_31 rfl rfl ?_
    refine m_iconst C d_Reader_readMoon_32 ?_
    refine m_aload_n C hl 0 d_Reader_readMoon_33 rfl rfl ?_
    refine m_getr C w.1 kc_Reader sh_3 (Nat.le_of_ble_eq_true rfl) 1 4 rfl (by decide) fk_Reader_12 d_Reader_readMoon_34 ?_
    refine m_geti C w.1 kc_Book sh_4 (Nat.le_of_ble_eq_true rfl) 2 rfl (by decide) fk_Reader_97 d_Reader_readMoon_37 ?_
    refine m_iconst C d_Reader_readMoon_40 ?_
    refine m_isub C d_Reader_readMoon_41 ?_
    obtain ⟨q34, e33, hM⟩ := bnd_some hM
    refine aftI C w (runV C w.1 w.2 kc_Reader sh_3 (Nat.le_of_ble_eq_true rfl) (c_Reader_readNumber hI e33) lk_Reader_84 mb_Reader_readNumber rfl ⟨Nat.le_of_ble_eq_true rfl, Nat.le_of_ble_eq_true rfl⟩ ⟨Nat.zero_le _, Nat.zero_le _⟩ (Nat.le_of_ble_eq_true rfl) d_Reader_readMoon_42 hl.1 (rest := [.ref (ad 4)]) rfl) (fun H locs w => ?_)
    refine m_puti C w kc_Book sh_4 (Nat.le_of_ble_eq_true rfl) 5 hM rfl (by decide) rfl rfl fk_Reader_105 d_Reader_readMoon_45 (fun h35 H locs w hM => ?_)
    refine m_aload_n C hl 0 d_Reader_readMoon_48 rfl rfl ?_
    obtain ⟨h37, e36, hM⟩ := bnd_some hM
    refine aftV C w (runV C w.1 w.2 kc_Reader sh_3 (Nat.le_of_ble_eq_true rfl) (c_Reader_readWord hI e36) lk_Reader_71 mb_Reader_readWord rfl ⟨Nat.le_of_ble_eq_true rfl, Nat.le_of_ble_eq_true rfl⟩ ⟨Nat.zero_le _, Nat.zero_le _⟩ (Nat.le_of_ble_eq_true rfl) d_Reader_readMoon_49 hl.1 (rest := []) rfl) (fun H locs w => ?_)
    exact hJ13 h37 hM _ _ w _ hl
def y_Reader_lineComes : MethodName := ⟨"FeastBook$Reader", "lineComes", "()Z"⟩
theorem d_Reader_lineComes_0 : decode prog_6_method_5_code 0 = .ok (.aload_n 0, 1) := by decide +kernel
theorem d_Reader_lineComes_1 : decode prog_6_method_5_code 1 = .ok (.invokevirtual 130, 3) := by decide +kernel
theorem d_Reader_lineComes_4 : decode prog_6_method_5_code 4 = .ok (.aload_n 0, 1) := by decide +kernel
theorem d_Reader_lineComes_5 : decode prog_6_method_5_code 5 = .ok (.aload_n 0, 1) := by decide +kernel
theorem d_Reader_lineComes_6 : decode prog_6_method_5_code 6 = .ok (.getfield 22, 3) := by decide +kernel
theorem d_Reader_lineComes_9 : decode prog_6_method_5_code 9 = .ok (.putfield 26, 3) := by decide +kernel
theorem d_Reader_lineComes_12 : decode prog_6_method_5_code 12 = .ok (.aload_n 0, 1) := by decide +kernel
theorem d_Reader_lineComes_13 : decode prog_6_method_5_code 13 = .ok (.aload_n 0, 1) := by decide +kernel
theorem d_Reader_lineComes_14 : decode prog_6_method_5_code 14 = .ok (.getfield 22, 3) := by decide +kernel
theorem d_Reader_lineComes_17 : decode prog_6_method_5_code 17 = .ok (.aload_n 0, 1) := by decide +kernel
theorem d_Reader_lineComes_18 : decode prog_6_method_5_code 18 = .ok (.getfield 18, 3) := by decide +kernel
theorem d_Reader_lineComes_21 : decode prog_6_method_5_code 21 = .ok (.getfield 133, 3) := by decide +kernel
theorem d_Reader_lineComes_24 : decode prog_6_method_5_code 24 = .ok (.if_icmp .ge 19, 3) := by decide +kernel
theorem d_Reader_lineComes_27 : decode prog_6_method_5_code 27 = .ok (.aload_n 0, 1) := by decide +kernel
theorem d_Reader_lineComes_28 : decode prog_6_method_5_code 28 = .ok (.getfield 18, 3) := by decide +kernel
theorem d_Reader_lineComes_31 : decode prog_6_method_5_code 31 = .ok (.aload_n 0, 1) := by decide +kernel
theorem d_Reader_lineComes_32 : decode prog_6_method_5_code 32 = .ok (.getfield 22, 3) := by decide +kernel
theorem d_Reader_lineComes_35 : decode prog_6_method_5_code 35 = .ok (.invokevirtual 138, 3) := by decide +kernel
theorem d_Reader_lineComes_38 : decode prog_6_method_5_code 38 = .ok (.bipush 59, 2) := by decide +kernel
theorem d_Reader_lineComes_40 : decode prog_6_method_5_code 40 = .ok (.if_icmp .ne 7, 3) := by decide +kernel
theorem d_Reader_lineComes_43 : decode prog_6_method_5_code 43 = .ok (.iconst 1, 1) := by decide +kernel
theorem d_Reader_lineComes_44 : decode prog_6_method_5_code 44 = .ok (.goto 4, 3) := by decide +kernel
theorem d_Reader_lineComes_47 : decode prog_6_method_5_code 47 = .ok (.iconst 0, 1) := by decide +kernel
theorem d_Reader_lineComes_48 : decode prog_6_method_5_code 48 = .ok (.invokevirtual 80, 3) := by decide +kernel
theorem d_Reader_lineComes_51 : decode prog_6_method_5_code 51 = .ok (.aload_n 0, 1) := by decide +kernel
theorem d_Reader_lineComes_52 : decode prog_6_method_5_code 52 = .ok (.getfield 29, 3) := by decide +kernel
theorem d_Reader_lineComes_55 : decode prog_6_method_5_code 55 = .ok (.iconst (-1), 1) := by decide +kernel
theorem d_Reader_lineComes_56 : decode prog_6_method_5_code 56 = .ok (.if_icmp .ne 21, 3) := by decide +kernel
theorem d_Reader_lineComes_59 : decode prog_6_method_5_code 59 = .ok (.aload_n 0, 1) := by decide +kernel
theorem d_Reader_lineComes_60 : decode prog_6_method_5_code 60 = .ok (.getfield 22, 3) := by decide +kernel
theorem d_Reader_lineComes_63 : decode prog_6_method_5_code 63 = .ok (.aload_n 0, 1) := by decide +kernel
theorem d_Reader_lineComes_64 : decode prog_6_method_5_code 64 = .ok (.getfield 18, 3) := by decide +kernel
theorem d_Reader_lineComes_67 : decode prog_6_method_5_code 67 = .ok (.getfield 133, 3) := by decide +kernel
theorem d_Reader_lineComes_70 : decode prog_6_method_5_code 70 = .ok (.if_icmp .ge 7, 3) := by decide +kernel
theorem d_Reader_lineComes_73 : decode prog_6_method_5_code 73 = .ok (.iconst 1, 1) := by decide +kernel
theorem d_Reader_lineComes_74 : decode prog_6_method_5_code 74 = .ok (.goto 4, 3) := by decide +kernel
theorem d_Reader_lineComes_77 : decode prog_6_method_5_code 77 = .ok (.iconst 0, 1) := by decide +kernel
theorem d_Reader_lineComes_78 : decode prog_6_method_5_code 78 = .ok (.ireturn, 1) := by decide +kernel
set_option maxHeartbeats 4000000 in
set_option maxRecDepth 100000 in
theorem c_Reader_lineComes {l : Launch} {D : va_G} {ad : Nat → Nat} {cA : Nat → ClassId} {sd sv : Nat → Nat} {h : Hp} {N : Nat} {out : (Int × Hp)} (hI : Inj97 ad) (hM : M_Reader_lineComes N h = some out) : Met l y_Reader_lineComes (.code y_Reader_lineComes prog_6_method_5_code 1 (some .boolean) :: TT) (rmD 2) (PC D ad cA sd sv h [.ref (ad 3)]) (QI D ad cA out) 0 0 (FA ad) := by
  unfold M_Reader_lineComes at hM
  refine entM (by decide +kernel) hI (Nat.le_of_ble_eq_true rfl) ?_
  intro p e s m args below meth c C hr hlk hP ls hl
  have C : Cx p s m args c prog_6_method_5_code 1 "FeastBook$Reader" D ad cA sd sv (FA ad) := C
  have hl : lv_has ls 1 [(0, .ref (ad 3))] := hl
  have w : Wd s D ad cA (FA ad) h s.heap [] := ⟨hP, va_S.rf⟩
  refine m_aload_n C hl 0 d_Reader_lineComes_0 rfl rfl ?_
  obtain ⟨h2, e1, hM⟩ := bnd_some hM
  refine aftV C w (runV C w.1 w.2 kc_Reader sh_3 (Nat.le_of_ble_eq_true rfl) (c_Reader_skipBlanks hI e1) lk_Reader_130 mb_Reader_skipBlanks rfl ⟨Nat.le_of_ble_eq_true rfl, Nat.le_of_ble_eq_true rfl⟩ ⟨Nat.zero_le _, Nat.zero_le _⟩ (Nat.le_of_ble_eq_true rfl) d_Reader_lineComes_1 hl.1 (rest := []) rfl) (fun H locs w => ?_)
  refine m_aload_n C hl 0 d_Reader_lineComes_4 rfl rfl ?_
  refine m_aload_n C hl 0 d_Reader_lineComes_5 rfl rfl ?_
  refine m_geti C w.1 kc_Reader sh_3 (Nat.le_of_ble_eq_true rfl) 2 rfl (by decide) fk_Reader_22 d_Reader_lineComes_6 ?_
  refine m_puti C w kc_Reader sh_3 (Nat.le_of_ble_eq_true rfl) 3 hM rfl (by decide) rfl rfl fk_Reader_26 d_Reader_lineComes_9 (fun h3 H locs w hM => ?_)
  refine m_aload_n C hl 0 d_Reader_lineComes_12 rfl rfl ?_
  refine m_aload_n C hl 0 d_Reader_lineComes_13 rfl rfl ?_
  refine m_geti C w.1 kc_Reader sh_3 (Nat.le_of_ble_eq_true rfl) 2 rfl (by decide) fk_Reader_22 d_Reader_lineComes_14 ?_
  refine m_aload_n C hl 0 d_Reader_lineComes_17 rfl rfl ?_
  refine m_getr C w.1 kc_Reader sh_3 (Nat.le_of_ble_eq_true rfl) 0 1 rfl (by decide) fk_Reader_18 d_Reader_lineComes_18 ?_
  refine m_geti C w.1 kc_Tape sh_1 (Nat.le_of_ble_eq_true rfl) 1 rfl (by decide) fk_Reader_133 d_Reader_lineComes_21 ?_
  refine lt_join hM (fun j6 ej hM => ?_)
  have hJ6 : ∀ (s0_6 : Int), j6 s0_6 = some out → ∀ ls : Array Slot, lv_has ls 1 [(0, .ref (ad 3))] → W p l e (rmD 2) s m args below meth c H locs 0 0 (MQ below (QI D ad cA out) args s 0 0 (FA ad)) (F0 m 48 ls [.int (iZ s0_6), .ref (ad 3)]) := by
    intro s0_6 hM ls hl
    subst ej
    dsimp only at hM
    obtain ⟨h8, e7, hM⟩ := bnd_some hM
    refine aftV C w (runV C w.1 w.2 kc_Reader sh_3 (Nat.le_of_ble_eq_true rfl) (c_Reader_require hI e7) lk_Reader_80 mb_Reader_require rfl ⟨Nat.le_of_ble_eq_true rfl, Nat.le_of_ble_eq_true rfl⟩ ⟨Nat.zero_le _, Nat.zero_le _⟩ (Nat.le_of_ble_eq_true rfl) d_Reader_lineComes_48 hl.1 (rest := []) rfl) (fun H locs w => ?_)
    refine m_aload_n C hl 0 d_Reader_lineComes_51 rfl rfl ?_
    refine m_geti C w.1 kc_Reader sh_3 (Nat.le_of_ble_eq_true rfl) 4 rfl (by decide) fk_Reader_29 d_Reader_lineComes_52 ?_
    refine m_iconst C d_Reader_lineComes_55 ?_
    refine m_icmp_ne C hM 77 d_Reader_lineComes_56 (by decide) (fun hM => ?_) (fun hM => ?_)
    · refine m_iconst C d_Reader_lineComes_77 ?_
      exact m_zretW C w hr hlk hM d_Reader_lineComes_78
    · refine m_aload_n C hl 0 d_Reader_lineComes_59 rfl rfl ?_
      refine m_geti C w.1 kc_Reader sh_3 (Nat.le_of_ble_eq_true rfl) 2 rfl (by decide) fk_Reader_22 d_Reader_lineComes_60 ?_
      refine m_aload_n C hl 0 d_Reader_lineComes_63 rfl rfl ?_
      refine m_getr C w.1 kc_Reader sh_3 (Nat.le_of_ble_eq_true rfl) 0 1 rfl (by decide) fk_Reader_18 d_Reader_lineComes_64 ?_
      refine m_geti C w.1 kc_Tape sh_1 (Nat.le_of_ble_eq_true rfl) 1 rfl (by decide) fk_Reader_133 d_Reader_lineComes_67 ?_
      refine m_icmp_ge C hM 77 d_Reader_lineComes_70 (by decide) (fun hM => ?_) (fun hM => ?_)
      · refine m_iconst C d_Reader_lineComes_77 ?_
        exact m_zretW C w hr hlk hM d_Reader_lineComes_78
      · refine m_iconst C d_Reader_lineComes_73 ?_
        refine m_goto C 78 d_Reader_lineComes_74 (by decide) ?_
        exact m_zretW C w hr hlk hM d_Reader_lineComes_78
  refine m_icmp_ge C hM 43 d_Reader_lineComes_24 (by decide) (fun hM => ?_) (fun hM => ?_)
  · refine m_iconst C d_Reader_lineComes_43 ?_
    refine m_goto C 48 d_Reader_lineComes_44 (by decide) ?_
    exact hJ6 1 hM _ hl
  · refine m_aload_n C hl 0 d_Reader_lineComes_27 rfl rfl ?_
    refine m_getr C w.1 kc_Reader sh_3 (Nat.le_of_ble_eq_true rfl) 0 1 rfl (by decide) fk_Reader_18 d_Reader_lineComes_28 ?_
    refine m_aload_n C hl 0 d_Reader_lineComes_31 rfl rfl ?_
    refine m_geti C w.1 kc_Reader sh_3 (Nat.le_of_ble_eq_true rfl) 2 rfl (by decide) fk_Reader_22 d_Reader_lineComes_32 ?_
    obtain ⟨x10, e9, hM⟩ := bnd_some hM
    refine aftR (runV C w.1 w.2 kc_Tape sh_1 (Nat.le_of_ble_eq_true rfl) (c_Tape_at hI e9) lk_Reader_138 mb_Tape_at rfl ⟨Nat.le_of_ble_eq_true rfl, Nat.le_of_ble_eq_true rfl⟩ ⟨Nat.zero_le _, Nat.zero_le _⟩ (Nat.le_of_ble_eq_true rfl) d_Reader_lineComes_35 hl.1 (rest := [.ref (ad 3)]) rfl) ?_
    refine m_bipush C d_Reader_lineComes_38 (by decide) ?_
    refine m_icmp_ne C hM 47 d_Reader_lineComes_40 (by decide) (fun hM => ?_) (fun hM => ?_)
    · refine m_iconst C d_Reader_lineComes_47 ?_
      exact hJ6 0 hM _ hl
    · refine m_iconst C d_Reader_lineComes_43 ?_
      refine m_goto C 48 d_Reader_lineComes_44 (by decide) ?_
      exact hJ6 1 hM _ hl
def y_Reader_readSigned : MethodName := ⟨"FeastBook$Reader", "readSigned", "(I)I"⟩
theorem d_Reader_readSigned_0 : decode prog_6_method_18_code 0 = .ok (.aload_n 0, 1) := by decide +kernel
theorem d_Reader_readSigned_1 : decode prog_6_method_18_code 1 = .ok (.invokevirtual 130, 3) := by decide +kernel
theorem d_Reader_readSigned_4 : decode prog_6_method_18_code 4 = .ok (.aload_n 0, 1) := by decide +kernel
theorem d_Reader_readSigned_5 : decode prog_6_method_18_code 5 = .ok (.getfield 22, 3) := by decide +kernel
theorem d_Reader_readSigned_8 : decode prog_6_method_18_code 8 = .ok (.istore_n 2, 1) := by decide +kernel
theorem d_Reader_readSigned_9 : decode prog_6_method_18_code 9 = .ok (.aload_n 0, 1) := by decide +kernel
theorem d_Reader_readSigned_10 : decode prog_6_method_18_code 10 = .ok (.getfield 18, 3) := by decide +kernel
theorem d_Reader_readSigned_13 : decode prog_6_method_18_code 13 = .ok (.aload_n 0, 1) := by decide +kernel
theorem d_Reader_readSigned_14 : decode prog_6_method_18_code 14 = .ok (.getfield 22, 3) := by decide +kernel
theorem d_Reader_readSigned_17 : decode prog_6_method_18_code 17 = .ok (.invokevirtual 138, 3) := by decide +kernel
theorem d_Reader_readSigned_20 : decode prog_6_method_18_code 20 = .ok (.bipush 45, 2) := by decide +kernel
theorem d_Reader_readSigned_22 : decode prog_6_method_18_code 22 = .ok (.if_icmp .ne 7, 3) := by decide +kernel
theorem d_Reader_readSigned_25 : decode prog_6_method_18_code 25 = .ok (.iconst 1, 1) := by decide +kernel
theorem d_Reader_readSigned_26 : decode prog_6_method_18_code 26 = .ok (.goto 4, 3) := by decide +kernel
theorem d_Reader_readSigned_29 : decode prog_6_method_18_code 29 = .ok (.iconst 0, 1) := by decide +kernel
theorem d_Reader_readSigned_30 : decode prog_6_method_18_code 30 = .ok (.istore_n 3, 1) := by decide +kernel
theorem d_Reader_readSigned_31 : decode prog_6_method_18_code 31 = .ok (.iload_n 3, 1) := by decide +kernel
theorem d_Reader_readSigned_32 : decode prog_6_method_18_code 32 = .ok (.ifCond .eq 39, 3) := by decide +kernel
theorem d_Reader_readSigned_35 : decode prog_6_method_18_code 35 = .ok (.aload_n 0, 1) := by decide +kernel
theorem d_Reader_readSigned_36 : decode prog_6_method_18_code 36 = .ok (.dup, 1) := by decide +kernel
theorem d_Reader_readSigned_37 : decode prog_6_method_18_code 37 = .ok (.getfield 22, 3) := by decide +kernel
theorem d_Reader_readSigned_40 : decode prog_6_method_18_code 40 = .ok (.iconst 1, 1) := by decide +kernel
theorem d_Reader_readSigned_41 : decode prog_6_method_18_code 41 = .ok (.iadd, 1) := by decide +kernel
theorem d_Reader_readSigned_42 : decode prog_6_method_18_code 42 = .ok (.putfield 22, 3) := by decide +kernel
theorem d_Reader_readSigned_45 : decode prog_6_method_18_code 45 = .ok (.aload_n 0, 1) := by decide +kernel
theorem d_Reader_readSigned_46 : decode prog_6_method_18_code 46 = .ok (.aload_n 0, 1) := by decide +kernel
theorem d_Reader_readSigned_47 : decode prog_6_method_18_code 47 = .ok (.getfield 22, 3) := by decide +kernel
theorem d_Reader_readSigned_50 : decode prog_6_method_18_code 50 = .ok (.putfield 26, 3) := by decide +kernel
theorem d_Reader_readSigned_53 : decode prog_6_method_18_code 53 = .ok (.aload_n 0, 1) := by decide +kernel
theorem d_Reader_readSigned_54 : decode prog_6_method_18_code 54 = .ok (.aload_n 0, 1) := by decide +kernel
theorem d_Reader_readSigned_55 : decode prog_6_method_18_code 55 = .ok (.getfield 18, 3) := by decide +kernel
theorem d_Reader_readSigned_58 : decode prog_6_method_18_code 58 = .ok (.aload_n 0, 1) := by decide +kernel
theorem d_Reader_readSigned_59 : decode prog_6_method_18_code 59 = .ok (.getfield 22, 3) := by decide +kernel
theorem d_Reader_readSigned_62 : decode prog_6_method_18_code 62 = .ok (.invokevirtual 138, 3) := by decide +kernel
theorem d_Reader_readSigned_65 : decode prog_6_method_18_code 65 = .ok (.invokestatic 242, 3) := by decide +kernel
theorem d_Reader_readSigned_68 : decode prog_6_method_18_code 68 = .ok (.invokevirtual 80, 3) := by decide +kernel
theorem d_Reader_readSigned_71 : decode prog_6_method_18_code 71 = .ok (.aload_n 0, 1) := by decide +kernel
theorem d_Reader_readSigned_72 : decode prog_6_method_18_code 72 = .ok (.iload_n 2, 1) := by decide +kernel
theorem d_Reader_readSigned_73 : decode prog_6_method_18_code 73 = .ok (.putfield 26, 3) := by decide +kernel
theorem d_Reader_readSigned_76 : decode prog_6_method_18_code 76 = .ok (.iload_n 3, 1) := by decide +kernel
theorem d_Reader_readSigned_77 : decode prog_6_method_18_code 77 = .ok (.ifCond .eq 11, 3) := by decide +kernel
theorem d_Reader_readSigned_80 : decode prog_6_method_18_code 80 = .ok (.aload_n 0, 1) := by decide +kernel
theorem d_Reader_readSigned_81 : decode prog_6_method_18_code 81 = .ok (.invokevirtual 239, 3) := by decide +kernel
theorem d_Reader_readSigned_84 : decode prog_6_method_18_code 84 = .ok (.ineg, 1) := by decide +kernel
theorem d_Reader_readSigned_85 : decode prog_6_method_18_code 85 = .ok (.goto 7, 3) := by decide +kernel
theorem d_Reader_readSigned_88 : decode prog_6_method_18_code 88 = .ok (.aload_n 0, 1) := by decide +kernel
theorem d_Reader_readSigned_89 : decode prog_6_method_18_code 89 = .ok (.invokevirtual 239, 3) := by decide +kernel
theorem d_Reader_readSigned_92 : decode prog_6_method_18_code 92 = .ok (.istore 4, 2) := by decide +kernel
theorem d_Reader_readSigned_94 : decode prog_6_method_18_code 94 = .ok (.aload_n 0, 1) := by decide +kernel
theorem d_Reader_readSigned_95 : decode prog_6_method_18_code 95 = .ok (.iload 4, 2) := by decide +kernel
theorem d_Reader_readSigned_97 : decode prog_6_method_18_code 97 = .ok (.iload_n 1, 1) := by decide +kernel
theorem d_Reader_readSigned_98 : decode prog_6_method_18_code 98 = .ok (.if_icmp .lt 7, 3) := by decide +kernel
theorem d_Reader_readSigned_101 : decode prog_6_method_18_code 101 = .ok (.iconst 1, 1) := by decide +kernel
theorem d_Reader_readSigned_102 : decode prog_6_method_18_code 102 = .ok (.goto 4, 3) := by decide +kernel
theorem d_Reader_readSigned_105 : decode prog_6_method_18_code 105 = .ok (.iconst 0, 1) := by decide +kernel
theorem d_Reader_readSigned_106 : decode prog_6_method_18_code 106 = .ok (.invokevirtual 80, 3) := by decide +kernel
theorem d_Reader_readSigned_109 : decode prog_6_method_18_code 109 = .ok (.aload_n 0, 1) := by decide +kernel
theorem d_Reader_readSigned_110 : decode prog_6_method_18_code 110 = .ok (.getfield 29, 3) := by decide +kernel
theorem d_Reader_readSigned_113 : decode prog_6_method_18_code 113 = .ok (.iconst (-1), 1) := by decide +kernel
theorem d_Reader_readSigned_114 : decode prog_6_method_18_code 114 = .ok (.if_icmp .ne 8, 3) := by decide +kernel
theorem d_Reader_readSigned_117 : decode prog_6_method_18_code 117 = .ok (.iload 4, 2) := by decide +kernel
theorem d_Reader_readSigned_119 : decode prog_6_method_18_code 119 = .ok (.goto 4, 3) := by decide +kernel
theorem d_Reader_readSigned_122 : decode prog_6_method_18_code 122 = .ok (.iload_n 1, 1) := by decide +kernel
theorem d_Reader_readSigned_123 : decode prog_6_method_18_code 123 = .ok (.ireturn, 1) := by decide +kernel
set_option maxHeartbeats 4000000 in
set_option maxRecDepth 100000 in
theorem c_Reader_readSigned {l : Launch} {D : va_G} {ad : Nat → Nat} {cA : Nat → ClassId} {sd sv : Nat → Nat} {h : Hp} {N : Nat} {a1 : Int} {out : (Int × Hp)} (hI : Inj97 ad) (hM : M_Reader_readSigned N h a1 = some out) : Met l y_Reader_readSigned (.code y_Reader_readSigned prog_6_method_18_code 5 (some .int) :: TT) (rmD 2) (PC D ad cA sd sv h [.ref (ad 3), .int (iZ a1)]) (QI D ad cA out) 0 0 (FA ad) := by
  unfold M_Reader_readSigned at hM
  refine entM (by decide +kernel) hI (Nat.le_of_ble_eq_true rfl) ?_
  intro p e s m args below meth c C hr hlk hP ls hl
  have C : Cx p s m args c prog_6_method_18_code 5 "FeastBook$Reader" D ad cA sd sv (FA ad) := C
  have hl : lv_has ls 5 [(0, .ref (ad 3)), (1, .int (iZ a1))] := hl
  have w : Wd s D ad cA (FA ad) h s.heap [] := ⟨hP, va_S.rf⟩
  refine m_aload_n C hl 0 d_Reader_readSigned_0 rfl rfl ?_
  obtain ⟨h2, e1, hM⟩ := bnd_some hM
  refine aftV C w (runV C w.1 w.2 kc_Reader sh_3 (Nat.le_of_ble_eq_true rfl) (c_Reader_skipBlanks hI e1) lk_Reader_130 mb_Reader_skipBlanks rfl ⟨Nat.le_of_ble_eq_true rfl, Nat.le_of_ble_eq_true rfl⟩ ⟨Nat.zero_le _, Nat.zero_le _⟩ (Nat.le_of_ble_eq_true rfl) d_Reader_readSigned_1 hl.1 (rest := []) rfl) (fun H locs w => ?_)
  refine m_aload_n C hl 0 d_Reader_readSigned_4 rfl rfl ?_
  refine m_geti C w.1 kc_Reader sh_3 (Nat.le_of_ble_eq_true rfl) 2 rfl (by decide) fk_Reader_22 d_Reader_readSigned_5 ?_
  refine m_istore_n C hl [(2, .int (iZ (h2 3 2))), (0, .ref (ad 3)), (1, .int (iZ a1))] d_Reader_readSigned_8 rfl (by decide) rfl (fun ls hl => ?_)
  refine m_aload_n C hl 1 d_Reader_readSigned_9 rfl rfl ?_
  refine m_getr C w.1 kc_Reader sh_3 (Nat.le_of_ble_eq_true rfl) 0 1 rfl (by decide) fk_Reader_18 d_Reader_readSigned_10 ?_
  refine m_aload_n C hl 1 d_Reader_readSigned_13 rfl rfl ?_
  refine m_geti C w.1 kc_Reader sh_3 (Nat.le_of_ble_eq_true rfl) 2 rfl (by decide) fk_Reader_22 d_Reader_readSigned_14 ?_
  obtain ⟨x4, e3, hM⟩ := bnd_some hM
  refine aftR (runV C w.1 w.2 kc_Tape sh_1 (Nat.le_of_ble_eq_true rfl) (c_Tape_at hI e3) lk_Reader_138 mb_Tape_at rfl ⟨Nat.le_of_ble_eq_true rfl, Nat.le_of_ble_eq_true rfl⟩ ⟨Nat.zero_le _, Nat.zero_le _⟩ (Nat.le_of_ble_eq_true rfl) d_Reader_readSigned_17 hl.1 (rest := []) rfl) ?_
  refine m_bipush C d_Reader_readSigned_20 (by decide) ?_
  refine lt_join hM (fun j5 ej hM => ?_)
  have hJ5 : ∀ (s0_5 : Int), j5 s0_5 = some out → ∀ ls : Array Slot, lv_has ls 5 [(0, .ref (ad 3)), (1, .int (iZ a1)), (2, .int (iZ (h2 3 2)))] → W p l e (rmD 2) s m args below meth c H locs 0 0 (MQ below (QI D ad cA out) args s 0 0 (FA ad)) (F0 m 30 ls [.int (iZ s0_5)]) := by
    intro s0_5 hM ls hl
    subst ej
    dsimp only at hM
    refine m_istore_n C hl [(3, .int (iZ s0_5)), (0, .ref (ad 3)), (1, .int (iZ a1)), (2, .int (iZ (h2 3 2)))] d_Reader_readSigned_30 rfl (by decide) rfl (fun ls hl => ?_)
    refine m_iload_n C hl 0 d_Reader_readSigned_31 rfl rfl ?_
    refine lt_join hM (fun j14 ej hM => ?_)
    have hJ14 : ∀ (h_14 : Hp), j14 h_14 = some out → ∀ (H : Heap) (locs : List Loc), Wd s D ad cA (FA ad) h_14 H locs → ∀ ls : Array Slot, lv_has ls 5 [(0, .ref (ad 3)), (1, .int (iZ a1)), (2, .int (iZ (h2 3 2))), (3, .int (iZ s0_5))] → W p l e (rmD 2) s m args below meth c H locs 0 0 (MQ below (QI D ad cA out) args s 0 0 (FA ad)) (F0 m 71 ls []) := by
      intro h_14 hM H locs w ls hl
      subst ej
      dsimp only at hM
      refine m_aload_n C hl 0 d_Reader_readSigned_71 rfl rfl ?_
      refine m_iload_n C hl 2 d_Reader_readSigned_72 rfl rfl ?_
      refine m_puti C w kc_Reader sh_3 (Nat.le_of_ble_eq_true rfl) 3 hM rfl (by decide) rfl rfl fk_Reader_26 d_Reader_readSigned_73 (fun h15 H locs w hM => ?_)
      refine m_iload_n C hl 3 d_Reader_readSigned_76 rfl rfl ?_
      refine lt_join hM (fun j20 ej hM => ?_)
      have hJ20 : ∀ (s0_20 : Int) (h_20 : Hp), j20 s0_20 h_20 = some out → ∀ (H : Heap) (locs : List Loc), Wd s D ad cA (FA ad) h_20 H locs → ∀ ls : Array Slot, lv_has ls 5 [(0, .ref (ad 3)), (1, .int (iZ a1)), (2, .int (iZ (h2 3 2))), (3, .int (iZ s0_5))] → W p l e (rmD 2) s m args below meth c H locs 0 0 (MQ below (QI D ad cA out) args s 0 0 (FA ad)) (F0 m 92 ls [.int (iZ s0_20)]) := by
        intro s0_20 h_20 hM H locs w ls hl
        subst ej
        dsimp only at hM
        refine m_istore C hl [(4, .int (iZ s0_20)), (0, .ref (ad 3)), (1, .int (iZ a1)), (2, .int (iZ (h2 3 2))), (3, .int (iZ s0_5))] d_Reader_readSigned_92 (by decide) rfl (fun ls hl => ?_)
        refine m_aload_n C hl 1 d_Reader_readSigned_94 rfl rfl ?_
        refine m_iload C hl 0 d_Reader_readSigned_95 rfl ?_
        refine m_iload_n C hl 2 d_Reader_readSigned_97 rfl rfl ?_
        refine m_icmp_lt C hM 105 d_Reader_readSigned_98 (by decide) (fun hM => ?_) (fun hM => ?_)
        · refine m_iconst C d_Reader_readSigned_105 ?_
          obtain ⟨h22, e21, hM⟩ := bnd_some hM
          refine aftV C w (runV C w.1 w.2 kc_Reader sh_3 (Nat.le_of_ble_eq_true rfl) (c_Reader_require hI e21) lk_Reader_80 mb_Reader_require rfl ⟨Nat.le_of_ble_eq_true rfl, Nat.le_of_ble_eq_true rfl⟩ ⟨Nat.zero_le _, Nat.zero_le _⟩ (Nat.le_of_ble_eq_true rfl) d_Reader_readSigned_106 hl.1 (rest := []) rfl) (fun H locs w => ?_)
          refine m_aload_n C hl 1 d_Reader_readSigned_109 rfl rfl ?_
          refine m_geti C w.1 kc_Reader sh_3 (Nat.le_of_ble_eq_true rfl) 4 rfl (by decide) fk_Reader_29 d_Reader_readSigned_110 ?_
          refine m_iconst C d_Reader_readSigned_113 ?_
          refine m_icmp_ne C hM 122 d_Reader_readSigned_114 (by decide) (fun hM => ?_) (fun hM => ?_)
          · refine m_iload_n C hl 2 d_Reader_readSigned_122 rfl rfl ?_
            exact m_iretW C w hr hlk hM d_Reader_readSigned_123
          · refine m_iload C hl 0 d_Reader_readSigned_117 rfl ?_
            refine m_goto C 123 d_Reader_readSigned_119 (by decide) ?_
            exact m_iretW C w hr hlk hM d_Reader_readSigned_123
        · refine m_iconst C d_Reader_readSigned_101 ?_
          refine m_goto C 106 d_Reader_readSigned_102 (by decide) ?_
          obtain ⟨h24, e23, hM⟩ := bnd_some hM
          refine aftV C w (runV C w.1 w.2 kc_Reader sh_3 (Nat.le_of_ble_eq_true rfl) (c_Reader_require hI e23) lk_Reader_80 mb_Reader_require rfl ⟨Nat.le_of_ble_eq_true rfl, Nat.le_of_ble_eq_true rfl⟩ ⟨Nat.zero_le _, Nat.zero_le _⟩ (Nat.le_of_ble_eq_true rfl) d_Reader_readSigned_106 hl.1 (rest := []) rfl) (fun H locs w => ?_)
          refine m_aload_n C hl 1 d_Reader_readSigned_109 rfl rfl ?_
          refine m_geti C w.1 kc_Reader sh_3 (Nat.le_of_ble_eq_true rfl) 4 rfl (by decide) fk_Reader_29 d_Reader_readSigned_110 ?_
          refine m_iconst C d_Reader_readSigned_113 ?_
          refine m_icmp_ne C hM 122 d_Reader_readSigned_114 (by decide) (fun hM => ?_) (fun hM => ?_)
          · refine m_iload_n C hl 2 d_Reader_readSigned_122 rfl rfl ?_
            exact m_iretW C w hr hlk hM d_Reader_readSigned_123
          · refine m_iload C hl 0 d_Reader_readSigned_117 rfl ?_
            refine m_goto C 123 d_Reader_readSigned_119 (by decide) ?_
            exact m_iretW C w hr hlk hM d_Reader_readSigned_123
      refine m_if_eq C hM 88 d_Reader_readSigned_77 (by decide) (fun hM => ?_) (fun hM => ?_)
      · refine m_aload_n C hl 0 d_Reader_readSigned_88 rfl rfl ?_
        obtain ⟨q26, e25, hM⟩ := bnd_some hM
        refine aftI C w (runV C w.1 w.2 kc_Reader sh_3 (Nat.le_of_ble_eq_true rfl) (c_Reader_readDigits hI e25) lk_Reader_239 mb_Reader_readDigits rfl ⟨Nat.le_of_ble_eq_true rfl, Nat.le_of_ble_eq_true rfl⟩ ⟨Nat.zero_le _, Nat.zero_le _⟩ (Nat.le_of_ble_eq_true rfl) d_Reader_readSigned_89 hl.1 (rest := []) rfl) (fun H locs w => ?_)
        exact hJ20 q26.1 q26.2 hM _ _ w _ hl
      · refine m_aload_n C hl 0 d_Reader_readSigned_80 rfl rfl ?_
        obtain ⟨q28, e27, hM⟩ := bnd_some hM
        refine aftI C w (runV C w.1 w.2 kc_Reader sh_3 (Nat.le_of_ble_eq_true rfl) (c_Reader_readDigits hI e27) lk_Reader_239 mb_Reader_readDigits rfl ⟨Nat.le_of_ble_eq_true rfl, Nat.le_of_ble_eq_true rfl⟩ ⟨Nat.zero_le _, Nat.zero_le _⟩ (Nat.le_of_ble_eq_true rfl) d_Reader_readSigned_81 hl.1 (rest := []) rfl) (fun H locs w => ?_)
        refine m_ineg C d_Reader_readSigned_84 ?_
        refine m_goto C 92 d_Reader_readSigned_85 (by decide) ?_
        exact hJ20 (-q28.1) q28.2 hM _ _ w _ hl
    refine m_if_eq C hM 71 d_Reader_readSigned_32 (by decide) (fun hM => ?_) (fun hM => ?_)
    · exact hJ14 h2 hM _ _ w _ (lv_sub hl [1, 2, 3, 0] rfl)
    · refine m_aload_n C hl 1 d_Reader_readSigned_35 rfl rfl ?_
      refine m_dup C d_Reader_readSigned_36 rfl ?_
      refine m_geti C w.1 kc_Reader sh_3 (Nat.le_of_ble_eq_true rfl) 2 rfl (by decide) fk_Reader_22 d_Reader_readSigned_37 ?_
      refine m_iconst C d_Reader_readSigned_40 ?_
      refine m_iadd C d_Reader_readSigned_41 ?_
      refine m_puti C w kc_Reader sh_3 (Nat.le_of_ble_eq_true rfl) 2 hM rfl (by decide) rfl rfl fk_Reader_22 d_Reader_readSigned_42 (fun h29 H locs w hM => ?_)
      refine m_aload_n C hl 1 d_Reader_readSigned_45 rfl rfl ?_
      refine m_aload_n C hl 1 d_Reader_readSigned_46 rfl rfl ?_
      refine m_geti C w.1 kc_Reader sh_3 (Nat.le_of_ble_eq_true rfl) 2 rfl (by decide) fk_Reader_22 d_Reader_readSigned_47 ?_
      refine m_puti C w kc_Reader sh_3 (Nat.le_of_ble_eq_true rfl) 3 hM rfl (by decide) rfl rfl fk_Reader_26 d_Reader_readSigned_50 (fun h30 H locs w hM => ?_)
      refine m_aload_n C hl 1 d_Reader_readSigned_53 rfl rfl ?_
      refine m_aload_n C hl 1 d_Reader_readSigned_54 rfl rfl ?_
      refine m_getr C w.1 kc_Reader sh_3 (Nat.le_of_ble_eq_true rfl) 0 1 rfl (by decide) fk_Reader_18 d_Reader_readSigned_55 ?_
      refine m_aload_n C hl 1 d_Reader_readSigned_58 rfl rfl ?_
      refine m_geti C w.1 kc_Reader sh_3 (Nat.le_of_ble_eq_true rfl) 2 rfl (by decide) fk_Reader_22 d_Reader_readSigned_59 ?_
      obtain ⟨x32, e31, hM⟩ := bnd_some hM
      refine aftR (runV C w.1 w.2 kc_Tape sh_1 (Nat.le_of_ble_eq_true rfl) (c_Tape_at hI e31) lk_Reader_138 mb_Tape_at rfl ⟨Nat.le_of_ble_eq_true rfl, Nat.le_of_ble_eq_true rfl⟩ ⟨Nat.zero_le _, Nat.zero_le _⟩ (Nat.le_of_ble_eq_true rfl) d_Reader_readSigned_62 hl.1 (rest := [.ref (ad 3)]) rfl) ?_
      obtain ⟨x34, e33, hM⟩ := bnd_some hM
      refine aftR (runS C w.1 w.2 (c_Reader_isDigit hI e33) lk_Reader_242 mb_Reader_isDigit rfl ⟨Nat.le_of_ble_eq_true rfl, Nat.le_of_ble_eq_true rfl⟩ ⟨Nat.zero_le _, Nat.zero_le _⟩ (Nat.le_of_ble_eq_true rfl) d_Reader_readSigned_65 hl.1 (rest := [.ref (ad 3)]) rfl) ?_
      obtain ⟨h36, e35, hM⟩ := bnd_some hM
      refine aftV C w (runV C w.1 w.2 kc_Reader sh_3 (Nat.le_of_ble_eq_true rfl) (c_Reader_require hI e35) lk_Reader_80 mb_Reader_require rfl ⟨Nat.le_of_ble_eq_true rfl, Nat.le_of_ble_eq_true rfl⟩ ⟨Nat.zero_le _, Nat.zero_le _⟩ (Nat.le_of_ble_eq_true rfl) d_Reader_readSigned_68 hl.1 (rest := []) rfl) (fun H locs w => ?_)
      exact hJ14 h36 hM _ _ w _ (lv_sub hl [1, 2, 3, 0] rfl)
  refine m_icmp_ne C hM 29 d_Reader_readSigned_22 (by decide) (fun hM => ?_) (fun hM => ?_)
  · refine m_iconst C d_Reader_readSigned_29 ?_
    exact hJ5 0 hM _ (lv_sub hl [1, 2, 0] rfl)
  · refine m_iconst C d_Reader_readSigned_25 ?_
    refine m_goto C 30 d_Reader_readSigned_26 (by decide) ?_
    exact hJ5 1 hM _ (lv_sub hl [1, 2, 0] rfl)
def y_Reader_lastDayOf : MethodName := ⟨"FeastBook$Reader", "lastDayOf", "(I)I"⟩
theorem d_Reader_lastDayOf_0 : decode prog_6_method_12_code 0 = .ok (.iload_n 1, 1) := by decide +kernel
theorem d_Reader_lastDayOf_1 : decode prog_6_method_12_code 1 = .ok (.ifCond .lt 28, 3) := by decide +kernel
theorem d_Reader_lastDayOf_4 : decode prog_6_method_12_code 4 = .ok (.iload_n 1, 1) := by decide +kernel
theorem d_Reader_lastDayOf_5 : decode prog_6_method_12_code 5 = .ok (.aload_n 0, 1) := by decide +kernel
theorem d_Reader_lastDayOf_6 : decode prog_6_method_12_code 6 = .ok (.getfield 12, 3) := by decide +kernel
theorem d_Reader_lastDayOf_9 : decode prog_6_method_12_code 9 = .ok (.getfield 97, 3) := by decide +kernel
theorem d_Reader_lastDayOf_12 : decode prog_6_method_12_code 12 = .ok (.if_icmp .ge 17, 3) := by decide +kernel
theorem d_Reader_lastDayOf_15 : decode prog_6_method_12_code 15 = .ok (.aload_n 0, 1) := by decide +kernel
theorem d_Reader_lastDayOf_16 : decode prog_6_method_12_code 16 = .ok (.getfield 12, 3) := by decide +kernel
theorem d_Reader_lastDayOf_19 : decode prog_6_method_12_code 19 = .ok (.getfield 218, 3) := by decide +kernel
theorem d_Reader_lastDayOf_22 : decode prog_6_method_12_code 22 = .ok (.iload_n 1, 1) := by decide +kernel
theorem d_Reader_lastDayOf_23 : decode prog_6_method_12_code 23 = .ok (.iaload, 1) := by decide +kernel
theorem d_Reader_lastDayOf_24 : decode prog_6_method_12_code 24 = .ok (.iconst 1, 1) := by decide +kernel
theorem d_Reader_lastDayOf_25 : decode prog_6_method_12_code 25 = .ok (.isub, 1) := by decide +kernel
theorem d_Reader_lastDayOf_26 : decode prog_6_method_12_code 26 = .ok (.goto 4, 3) := by decide +kernel
theorem d_Reader_lastDayOf_29 : decode prog_6_method_12_code 29 = .ok (.iconst (-1), 1) := by decide +kernel
theorem d_Reader_lastDayOf_30 : decode prog_6_method_12_code 30 = .ok (.ireturn, 1) := by decide +kernel
theorem fk_Reader_218 : Cond.fieldLink "FeastBook$Reader" 218 (T_Book 14).1 (T_Book 14).2.1 (T_Book 14).2.2.1 ∈ TT := mT1 193 (by decide +kernel) (by decide +kernel)
set_option maxHeartbeats 4000000 in
set_option maxRecDepth 100000 in
theorem c_Reader_lastDayOf {l : Launch} {D : va_G} {ad : Nat → Nat} {cA : Nat → ClassId} {sd sv : Nat → Nat} {h : Hp} {a1 : Int} {out : Int} (hI : Inj97 ad) (hM : M_Reader_lastDayOf h a1 = some out) : Met l y_Reader_lastDayOf (.code y_Reader_lastDayOf prog_6_method_12_code 2 (some .int) :: TT) (rmD 0) (PC D ad cA sd sv h [.ref (ad 3), .int (iZ a1)]) (QR out) 0 0 (fun _ => False) := by
  unfold M_Reader_lastDayOf at hM
  refine entM (by decide +kernel) hI (Nat.le_of_ble_eq_true rfl) ?_
  intro p e s m args below meth c C hr hlk hP ls hl
  have C : Cx p s m args c prog_6_method_12_code 2 "FeastBook$Reader" D ad cA sd sv (FA ad) := C
  have hl : lv_has ls 2 [(0, .ref (ad 3)), (1, .int (iZ a1))] := hl
  refine m_iload_n C hl 1 d_Reader_lastDayOf_0 rfl rfl ?_
  refine m_if_lt C hM 29 d_Reader_lastDayOf_1 (by decide) (fun hM => ?_) (fun hM => ?_)
  · refine m_iconst C d_Reader_lastDayOf_29 ?_
    exact m_iretR C hr hlk hM d_Reader_lastDayOf_30
  · refine m_iload_n C hl 1 d_Reader_lastDayOf_4 rfl rfl ?_
    refine m_aload_n C hl 0 d_Reader_lastDayOf_5 rfl rfl ?_
    refine m_getr C hP kc_Reader sh_3 (Nat.le_of_ble_eq_true rfl) 1 4 rfl (by decide) fk_Reader_12 d_Reader_lastDayOf_6 ?_
    refine m_geti C hP kc_Book sh_4 (Nat.le_of_ble_eq_true rfl) 2 rfl (by decide) fk_Reader_97 d_Reader_lastDayOf_9 ?_
    refine m_icmp_ge C hM 29 d_Reader_lastDayOf_12 (by decide) (fun hM => ?_) (fun hM => ?_)
    · refine m_iconst C d_Reader_lastDayOf_29 ?_
      exact m_iretR C hr hlk hM d_Reader_lastDayOf_30
    · refine m_aload_n C hl 0 d_Reader_lastDayOf_15 rfl rfl ?_
      refine m_getr C hP kc_Reader sh_3 (Nat.le_of_ble_eq_true rfl) 1 4 rfl (by decide) fk_Reader_12 d_Reader_lastDayOf_16 ?_
      refine m_getr C hP kc_Book sh_4 (Nat.le_of_ble_eq_true rfl) 14 5 rfl (by decide) fk_Reader_218 d_Reader_lastDayOf_19 ?_
      refine m_iload_n C hl 1 d_Reader_lastDayOf_22 rfl rfl ?_
      refine m_iald C hP sh_5 (Nat.le_of_ble_eq_true rfl) (Nat.le_of_ble_eq_true rfl) hM d_Reader_lastDayOf_23 (fun x1 hM => ?_)
      refine m_iconst C d_Reader_lastDayOf_24 ?_
      refine m_isub C d_Reader_lastDayOf_25 ?_
      refine m_goto C 30 d_Reader_lastDayOf_26 (by decide) ?_
      exact m_iretR C hr hlk hM d_Reader_lastDayOf_30
def y_Reader_readLaw : MethodName := ⟨"FeastBook$Reader", "readLaw", "()I"⟩
theorem d_Reader_readLaw_0 : decode prog_6_method_13_code 0 = .ok (.aload_n 0, 1) := by decide +kernel
theorem d_Reader_readLaw_1 : decode prog_6_method_13_code 1 = .ok (.invokevirtual 71, 3) := by decide +kernel
theorem d_Reader_readLaw_4 : decode prog_6_method_13_code 4 = .ok (.aload_n 0, 1) := by decide +kernel
theorem d_Reader_readLaw_5 : decode prog_6_method_13_code 5 = .ok (.ldc 222, 2) := by decide +kernel
theorem d_Reader_readLaw_7 : decode prog_6_method_13_code 7 = .ok (.invokevirtual 76, 3) := by decide +kernel
theorem d_Reader_readLaw_10 : decode prog_6_method_13_code 10 = .ok (.ifCond .eq 5, 3) := by decide +kernel
theorem d_Reader_readLaw_13 : decode prog_6_method_13_code 13 = .ok (.iconst 0, 1) := by decide +kernel
theorem d_Reader_readLaw_14 : decode prog_6_method_13_code 14 = .ok (.ireturn, 1) := by decide +kernel
theorem d_Reader_readLaw_15 : decode prog_6_method_13_code 15 = .ok (.aload_n 0, 1) := by decide +kernel
theorem d_Reader_readLaw_16 : decode prog_6_method_13_code 16 = .ok (.ldc 224, 2) := by decide +kernel
theorem d_Reader_readLaw_18 : decode prog_6_method_13_code 18 = .ok (.invokevirtual 76, 3) := by decide +kernel
theorem d_Reader_readLaw_21 : decode prog_6_method_13_code 21 = .ok (.ifCond .eq 5, 3) := by decide +kernel
theorem d_Reader_readLaw_24 : decode prog_6_method_13_code 24 = .ok (.iconst 1, 1) := by decide +kernel
theorem d_Reader_readLaw_25 : decode prog_6_method_13_code 25 = .ok (.ireturn, 1) := by decide +kernel
theorem d_Reader_readLaw_26 : decode prog_6_method_13_code 26 = .ok (.aload_n 0, 1) := by decide +kernel
theorem d_Reader_readLaw_27 : decode prog_6_method_13_code 27 = .ok (.ldc 226, 2) := by decide +kernel
theorem d_Reader_readLaw_29 : decode prog_6_method_13_code 29 = .ok (.invokevirtual 76, 3) := by decide +kernel
theorem d_Reader_readLaw_32 : decode prog_6_method_13_code 32 = .ok (.ifCond .eq 5, 3) := by decide +kernel
theorem d_Reader_readLaw_35 : decode prog_6_method_13_code 35 = .ok (.iconst 2, 1) := by decide +kernel
theorem d_Reader_readLaw_36 : decode prog_6_method_13_code 36 = .ok (.ireturn, 1) := by decide +kernel
theorem d_Reader_readLaw_37 : decode prog_6_method_13_code 37 = .ok (.aload_n 0, 1) := by decide +kernel
theorem d_Reader_readLaw_38 : decode prog_6_method_13_code 38 = .ok (.aload_n 0, 1) := by decide +kernel
theorem d_Reader_readLaw_39 : decode prog_6_method_13_code 39 = .ok (.ldc 228, 2) := by decide +kernel
theorem d_Reader_readLaw_41 : decode prog_6_method_13_code 41 = .ok (.invokevirtual 76, 3) := by decide +kernel
theorem d_Reader_readLaw_44 : decode prog_6_method_13_code 44 = .ok (.invokevirtual 80, 3) := by decide +kernel
theorem d_Reader_readLaw_47 : decode prog_6_method_13_code 47 = .ok (.iconst 3, 1) := by decide +kernel
theorem d_Reader_readLaw_48 : decode prog_6_method_13_code 48 = .ok (.ireturn, 1) := by decide +kernel
set_option maxHeartbeats 4000000 in
set_option maxRecDepth 100000 in
theorem c_Reader_readLaw {l : Launch} {D : va_G} {ad : Nat → Nat} {cA : Nat → ClassId} {sd sv : Nat → Nat} {h : Hp} {N : Nat} {out : (Int × Hp)} (hI : Inj97 ad) (hM : M_Reader_readLaw N h = some out) : Met l y_Reader_readLaw (.code y_Reader_readLaw prog_6_method_13_code 1 (some .int) :: TT) (rmD 5) (PC D ad cA sd sv h [.ref (ad 3)]) (QI D ad cA out) 0 0 (FA ad) := by
  unfold M_Reader_readLaw at hM
  refine entM (by decide +kernel) hI (Nat.le_of_ble_eq_true rfl) ?_
  intro p e s m args below meth c C hr hlk hP ls hl
  have C : Cx p s m args c prog_6_method_13_code 1 "FeastBook$Reader" D ad cA sd sv (FA ad) := C
  have hl : lv_has ls 1 [(0, .ref (ad 3))] := hl
  have w : Wd s D ad cA (FA ad) h s.heap [] := ⟨hP, va_S.rf⟩
  refine m_aload_n C hl 0 d_Reader_readLaw_0 rfl rfl ?_
  obtain ⟨h2, e1, hM⟩ := bnd_some hM
  refine aftV C w (runV C w.1 w.2 kc_Reader sh_3 (Nat.le_of_ble_eq_true rfl) (c_Reader_readWord hI e1) lk_Reader_71 mb_Reader_readWord rfl ⟨Nat.le_of_ble_eq_true rfl, Nat.le_of_ble_eq_true rfl⟩ ⟨Nat.zero_le _, Nat.zero_le _⟩ (Nat.le_of_ble_eq_true rfl) d_Reader_readLaw_1 hl.1 (rest := []) rfl) (fun H locs w => ?_)
  refine m_aload_n C hl 0 d_Reader_readLaw_4 rfl rfl ?_
  refine m_ldcS C 6 (by decide) rfl d_Reader_readLaw_5 ?_
  obtain ⟨x4, e3, hM⟩ := bnd_some hM
  refine aftR (runV C w.1 w.2 kc_Reader sh_3 (Nat.le_of_ble_eq_true rfl) (c_Reader_isWord hI (by decide) e3) lk_Reader_76 mb_Reader_isWord rfl ⟨Nat.le_of_ble_eq_true rfl, Nat.le_of_ble_eq_true rfl⟩ ⟨Nat.zero_le _, Nat.zero_le _⟩ (Nat.le_of_ble_eq_true rfl) d_Reader_readLaw_7 hl.1 (rest := []) rfl) ?_
  refine m_if_eq C hM 15 d_Reader_readLaw_10 (by decide) (fun hM => ?_) (fun hM => ?_)
  · refine m_aload_n C hl 0 d_Reader_readLaw_15 rfl rfl ?_
    refine m_ldcS C 7 (by decide) rfl d_Reader_readLaw_16 ?_
    obtain ⟨x6, e5, hM⟩ := bnd_some hM
    refine aftR (runV C w.1 w.2 kc_Reader sh_3 (Nat.le_of_ble_eq_true rfl) (c_Reader_isWord hI (by decide) e5) lk_Reader_76 mb_Reader_isWord rfl ⟨Nat.le_of_ble_eq_true rfl, Nat.le_of_ble_eq_true rfl⟩ ⟨Nat.zero_le _, Nat.zero_le _⟩ (Nat.le_of_ble_eq_true rfl) d_Reader_readLaw_18 hl.1 (rest := []) rfl) ?_
    refine m_if_eq C hM 26 d_Reader_readLaw_21 (by decide) (fun hM => ?_) (fun hM => ?_)
    · refine m_aload_n C hl 0 d_Reader_readLaw_26 rfl rfl ?_
      refine m_ldcS C 8 (by decide) rfl d_Reader_readLaw_27 ?_
      obtain ⟨x8, e7, hM⟩ := bnd_some hM
      refine aftR (runV C w.1 w.2 kc_Reader sh_3 (Nat.le_of_ble_eq_true rfl) (c_Reader_isWord hI (by decide) e7) lk_Reader_76 mb_Reader_isWord rfl ⟨Nat.le_of_ble_eq_true rfl, Nat.le_of_ble_eq_true rfl⟩ ⟨Nat.zero_le _, Nat.zero_le _⟩ (Nat.le_of_ble_eq_true rfl) d_Reader_readLaw_29 hl.1 (rest := []) rfl) ?_
      refine m_if_eq C hM 37 d_Reader_readLaw_32 (by decide) (fun hM => ?_) (fun hM => ?_)
      · refine m_aload_n C hl 0 d_Reader_readLaw_37 rfl rfl ?_
        refine m_aload_n C hl 0 d_Reader_readLaw_38 rfl rfl ?_
        refine m_ldcS C 9 (by decide) rfl d_Reader_readLaw_39 ?_
        obtain ⟨x10, e9, hM⟩ := bnd_some hM
        refine aftR (runV C w.1 w.2 kc_Reader sh_3 (Nat.le_of_ble_eq_true rfl) (c_Reader_isWord hI (by decide) e9) lk_Reader_76 mb_Reader_isWord rfl ⟨Nat.le_of_ble_eq_true rfl, Nat.le_of_ble_eq_true rfl⟩ ⟨Nat.zero_le _, Nat.zero_le _⟩ (Nat.le_of_ble_eq_true rfl) d_Reader_readLaw_41 hl.1 (rest := [.ref (ad 3)]) rfl) ?_
        obtain ⟨h12, e11, hM⟩ := bnd_some hM
        refine aftV C w (runV C w.1 w.2 kc_Reader sh_3 (Nat.le_of_ble_eq_true rfl) (c_Reader_require hI e11) lk_Reader_80 mb_Reader_require rfl ⟨Nat.le_of_ble_eq_true rfl, Nat.le_of_ble_eq_true rfl⟩ ⟨Nat.zero_le _, Nat.zero_le _⟩ (Nat.le_of_ble_eq_true rfl) d_Reader_readLaw_44 hl.1 (rest := []) rfl) (fun H locs w => ?_)
        refine m_iconst C d_Reader_readLaw_47 ?_
        exact m_iretW C w hr hlk hM d_Reader_readLaw_48
      · refine m_iconst C d_Reader_readLaw_35 ?_
        exact m_iretW C w hr hlk hM d_Reader_readLaw_36
    · refine m_iconst C d_Reader_readLaw_24 ?_
      exact m_iretW C w hr hlk hM d_Reader_readLaw_25
  · refine m_iconst C d_Reader_readLaw_13 ?_
    exact m_iretW C w hr hlk hM d_Reader_readLaw_14
def y_Reader_readOption : MethodName := ⟨"FeastBook$Reader", "readOption", "(Ljava/lang/String;)I"⟩
theorem d_Reader_readOption_0 : decode prog_6_method_14_code 0 = .ok (.aload_n 0, 1) := by decide +kernel
theorem d_Reader_readOption_1 : decode prog_6_method_14_code 1 = .ok (.getfield 22, 3) := by decide +kernel
theorem d_Reader_readOption_4 : decode prog_6_method_14_code 4 = .ok (.istore_n 2, 1) := by decide +kernel
theorem d_Reader_readOption_5 : decode prog_6_method_14_code 5 = .ok (.aload_n 0, 1) := by decide +kernel
theorem d_Reader_readOption_6 : decode prog_6_method_14_code 6 = .ok (.invokevirtual 71, 3) := by decide +kernel
theorem d_Reader_readOption_9 : decode prog_6_method_14_code 9 = .ok (.aload_n 0, 1) := by decide +kernel
theorem d_Reader_readOption_10 : decode prog_6_method_14_code 10 = .ok (.aload_n 1, 1) := by decide +kernel
theorem d_Reader_readOption_11 : decode prog_6_method_14_code 11 = .ok (.invokevirtual 76, 3) := by decide +kernel
theorem d_Reader_readOption_14 : decode prog_6_method_14_code 14 = .ok (.ifCond .eq 11, 3) := by decide +kernel
theorem d_Reader_readOption_17 : decode prog_6_method_14_code 17 = .ok (.aload_n 0, 1) := by decide +kernel
theorem d_Reader_readOption_18 : decode prog_6_method_14_code 18 = .ok (.iconst 1, 1) := by decide +kernel
theorem d_Reader_readOption_19 : decode prog_6_method_14_code 19 = .ok (.bipush 9, 2) := by decide +kernel
theorem d_Reader_readOption_21 : decode prog_6_method_14_code 21 = .ok (.invokevirtual 84, 3) := by decide +kernel
theorem d_Reader_readOption_24 : decode prog_6_method_14_code 24 = .ok (.ireturn, 1) := by decide +kernel
theorem d_Reader_readOption_25 : decode prog_6_method_14_code 25 = .ok (.aload_n 0, 1) := by decide +kernel
theorem d_Reader_readOption_26 : decode prog_6_method_14_code 26 = .ok (.iload_n 2, 1) := by decide +kernel
theorem d_Reader_readOption_27 : decode prog_6_method_14_code 27 = .ok (.putfield 22, 3) := by decide +kernel
theorem d_Reader_readOption_30 : decode prog_6_method_14_code 30 = .ok (.iconst 0, 1) := by decide +kernel
theorem d_Reader_readOption_31 : decode prog_6_method_14_code 31 = .ok (.ireturn, 1) := by decide +kernel
set_option maxHeartbeats 4000000 in
set_option maxRecDepth 100000 in
theorem c_Reader_readOption {l : Launch} {D : va_G} {ad : Nat → Nat} {cA : Nat → ClassId} {sd sv : Nat → Nat} {h : Hp} {N : Nat} {t1 : Nat} {out : (Int × Hp)} (hI : Inj97 ad) (ht1 : t1 < 36) (hM : M_Reader_readOption N h t1 = some out) : Met l y_Reader_readOption (.code y_Reader_readOption prog_6_method_14_code 3 (some .int) :: TT) (rmD 5) (PC D ad cA sd sv h [.ref (ad 3), .ref (sd t1)]) (QI D ad cA out) 0 0 (FA ad) := by
  unfold M_Reader_readOption at hM
  refine entM (by decide +kernel) hI (Nat.le_of_ble_eq_true rfl) ?_
  intro p e s m args below meth c C hr hlk hP ls hl
  have C : Cx p s m args c prog_6_method_14_code 3 "FeastBook$Reader" D ad cA sd sv (FA ad) := C
  have hl : lv_has ls 3 [(0, .ref (ad 3)), (1, .ref (sd t1))] := hl
  have w : Wd s D ad cA (FA ad) h s.heap [] := ⟨hP, va_S.rf⟩
  refine m_aload_n C hl 0 d_Reader_readOption_0 rfl rfl ?_
  refine m_geti C w.1 kc_Reader sh_3 (Nat.le_of_ble_eq_true rfl) 2 rfl (by decide) fk_Reader_22 d_Reader_readOption_1 ?_
  refine m_istore_n C hl [(2, .int (iZ (h 3 2))), (0, .ref (ad 3)), (1, .ref (sd t1))] d_Reader_readOption_4 rfl (by decide) rfl (fun ls hl => ?_)
  refine m_aload_n C hl 1 d_Reader_readOption_5 rfl rfl ?_
  obtain ⟨h2, e1, hM⟩ := bnd_some hM
  refine aftV C w (runV C w.1 w.2 kc_Reader sh_3 (Nat.le_of_ble_eq_true rfl) (c_Reader_readWord hI e1) lk_Reader_71 mb_Reader_readWord rfl ⟨Nat.le_of_ble_eq_true rfl, Nat.le_of_ble_eq_true rfl⟩ ⟨Nat.zero_le _, Nat.zero_le _⟩ (Nat.le_of_ble_eq_true rfl) d_Reader_readOption_6 hl.1 (rest := []) rfl) (fun H locs w => ?_)
  refine m_aload_n C hl 1 d_Reader_readOption_9 rfl rfl ?_
  refine m_aload_n C hl 2 d_Reader_readOption_10 rfl rfl ?_
  obtain ⟨x4, e3, hM⟩ := bnd_some hM
  refine aftR (runV C w.1 w.2 kc_Reader sh_3 (Nat.le_of_ble_eq_true rfl) (c_Reader_isWord hI ht1 e3) lk_Reader_76 mb_Reader_isWord rfl ⟨Nat.le_of_ble_eq_true rfl, Nat.le_of_ble_eq_true rfl⟩ ⟨Nat.zero_le _, Nat.zero_le _⟩ (Nat.le_of_ble_eq_true rfl) d_Reader_readOption_11 hl.1 (rest := []) rfl) ?_
  refine m_if_eq C hM 25 d_Reader_readOption_14 (by decide) (fun hM => ?_) (fun hM => ?_)
  · refine m_aload_n C hl 1 d_Reader_readOption_25 rfl rfl ?_
    refine m_iload_n C hl 0 d_Reader_readOption_26 rfl rfl ?_
    refine m_puti C w kc_Reader sh_3 (Nat.le_of_ble_eq_true rfl) 2 hM rfl (by decide) rfl rfl fk_Reader_22 d_Reader_readOption_27 (fun h5 H locs w hM => ?_)
    refine m_iconst C d_Reader_readOption_30 ?_
    exact m_iretW C w hr hlk hM d_Reader_readOption_31
  · refine m_aload_n C hl 1 d_Reader_readOption_17 rfl rfl ?_
    refine m_iconst C d_Reader_readOption_18 ?_
    refine m_bipush C d_Reader_readOption_19 (by decide) ?_
    obtain ⟨q7, e6, hM⟩ := bnd_some hM
    refine aftI C w (runV C w.1 w.2 kc_Reader sh_3 (Nat.le_of_ble_eq_true rfl) (c_Reader_readNumber hI e6) lk_Reader_84 mb_Reader_readNumber rfl ⟨Nat.le_of_ble_eq_true rfl, Nat.le_of_ble_eq_true rfl⟩ ⟨Nat.zero_le _, Nat.zero_le _⟩ (Nat.le_of_ble_eq_true rfl) d_Reader_readOption_21 hl.1 (rest := []) rfl) (fun H locs w => ?_)
    exact m_iretW C w hr hlk hM d_Reader_readOption_24
def y_Reader_readFeast : MethodName := ⟨"FeastBook$Reader", "readFeast", "()V"⟩
theorem d_Reader_readFeast_0 : decode prog_6_method_11_code 0 = .ok (.aload_n 0, 1) := by decide +kernel
theorem d_Reader_readFeast_1 : decode prog_6_method_11_code 1 = .ok (.aload_n 0, 1) := by decide +kernel
theorem d_Reader_readFeast_2 : decode prog_6_method_11_code 2 = .ok (.getfield 12, 3) := by decide +kernel
theorem d_Reader_readFeast_5 : decode prog_6_method_11_code 5 = .ok (.getfield 59, 3) := by decide +kernel
theorem d_Reader_readFeast_8 : decode prog_6_method_11_code 8 = .ok (.getfield 196, 3) := by decide +kernel
theorem d_Reader_readFeast_11 : decode prog_6_method_11_code 11 = .ok (.bipush 12, 2) := by decide +kernel
theorem d_Reader_readFeast_13 : decode prog_6_method_11_code 13 = .ok (.if_icmp .ge 7, 3) := by decide +kernel
theorem d_Reader_readFeast_16 : decode prog_6_method_11_code 16 = .ok (.iconst 1, 1) := by decide +kernel
theorem d_Reader_readFeast_17 : decode prog_6_method_11_code 17 = .ok (.goto 4, 3) := by decide +kernel
theorem d_Reader_readFeast_20 : decode prog_6_method_11_code 20 = .ok (.iconst 0, 1) := by decide +kernel
theorem d_Reader_readFeast_21 : decode prog_6_method_11_code 21 = .ok (.invokevirtual 80, 3) := by decide +kernel
theorem d_Reader_readFeast_24 : decode prog_6_method_11_code 24 = .ok (.aload_n 0, 1) := by decide +kernel
theorem d_Reader_readFeast_25 : decode prog_6_method_11_code 25 = .ok (.iconst 1, 1) := by decide +kernel
theorem d_Reader_readFeast_26 : decode prog_6_method_11_code 26 = .ok (.bipush 9, 2) := by decide +kernel
theorem d_Reader_readFeast_28 : decode prog_6_method_11_code 28 = .ok (.invokevirtual 84, 3) := by decide +kernel
theorem d_Reader_readFeast_31 : decode prog_6_method_11_code 31 = .ok (.istore_n 1, 1) := by decide +kernel
theorem d_Reader_readFeast_32 : decode prog_6_method_11_code 32 = .ok (.aload_n 0, 1) := by decide +kernel
theorem d_Reader_readFeast_33 : decode prog_6_method_11_code 33 = .ok (.invokevirtual 71, 3) := by decide +kernel
theorem d_Reader_readFeast_36 : decode prog_6_method_11_code 36 = .ok (.aload_n 0, 1) := by decide +kernel
theorem d_Reader_readFeast_37 : decode prog_6_method_11_code 37 = .ok (.ldc 197, 2) := by decide +kernel
theorem d_Reader_readFeast_39 : decode prog_6_method_11_code 39 = .ok (.invokevirtual 76, 3) := by decide +kernel
theorem d_Reader_readFeast_42 : decode prog_6_method_11_code 42 = .ok (.istore_n 2, 1) := by decide +kernel
theorem d_Reader_readFeast_43 : decode prog_6_method_11_code 43 = .ok (.aload_n 0, 1) := by decide +kernel
theorem d_Reader_readFeast_44 : decode prog_6_method_11_code 44 = .ok (.iload_n 2, 1) := by decide +kernel
theorem d_Reader_readFeast_45 : decode prog_6_method_11_code 45 = .ok (.ifCond .ne 12, 3) := by decide +kernel
theorem d_Reader_readFeast_48 : decode prog_6_method_11_code 48 = .ok (.aload_n 0, 1) := by decide +kernel
theorem d_Reader_readFeast_49 : decode prog_6_method_11_code 49 = .ok (.ldc 198, 2) := by decide +kernel
theorem d_Reader_readFeast_51 : decode prog_6_method_11_code 51 = .ok (.invokevirtual 76, 3) := by decide +kernel
theorem d_Reader_readFeast_54 : decode prog_6_method_11_code 54 = .ok (.ifCond .eq 7, 3) := by decide +kernel
theorem d_Reader_readFeast_57 : decode prog_6_method_11_code 57 = .ok (.iconst 1, 1) := by decide +kernel
theorem d_Reader_readFeast_58 : decode prog_6_method_11_code 58 = .ok (.goto 4, 3) := by decide +kernel
theorem d_Reader_readFeast_61 : decode prog_6_method_11_code 61 = .ok (.iconst 0, 1) := by decide +kernel
theorem d_Reader_readFeast_62 : decode prog_6_method_11_code 62 = .ok (.invokevirtual 80, 3) := by decide +kernel
theorem d_Reader_readFeast_65 : decode prog_6_method_11_code 65 = .ok (.iload_n 2, 1) := by decide +kernel
theorem d_Reader_readFeast_66 : decode prog_6_method_11_code 66 = .ok (.ifCond .eq 7, 3) := by decide +kernel
theorem d_Reader_readFeast_69 : decode prog_6_method_11_code 69 = .ok (.iconst (-1), 1) := by decide +kernel
theorem d_Reader_readFeast_70 : decode prog_6_method_11_code 70 = .ok (.goto 17, 3) := by decide +kernel
theorem d_Reader_readFeast_73 : decode prog_6_method_11_code 73 = .ok (.aload_n 0, 1) := by decide +kernel
theorem d_Reader_readFeast_74 : decode prog_6_method_11_code 74 = .ok (.iconst 0, 1) := by decide +kernel
theorem d_Reader_readFeast_75 : decode prog_6_method_11_code 75 = .ok (.aload_n 0, 1) := by decide +kernel
theorem d_Reader_readFeast_76 : decode prog_6_method_11_code 76 = .ok (.getfield 12, 3) := by decide +kernel
theorem d_Reader_readFeast_79 : decode prog_6_method_11_code 79 = .ok (.getfield 97, 3) := by decide +kernel
theorem d_Reader_readFeast_82 : decode prog_6_method_11_code 82 = .ok (.iconst 1, 1) := by decide +kernel
theorem d_Reader_readFeast_83 : decode prog_6_method_11_code 83 = .ok (.isub, 1) := by decide +kernel
theorem d_Reader_readFeast_84 : decode prog_6_method_11_code 84 = .ok (.invokevirtual 84, 3) := by decide +kernel
theorem d_Reader_readFeast_87 : decode prog_6_method_11_code 87 = .ok (.istore_n 3, 1) := by decide +kernel
theorem d_Reader_readFeast_88 : decode prog_6_method_11_code 88 = .ok (.iload_n 2, 1) := by decide +kernel
theorem d_Reader_readFeast_89 : decode prog_6_method_11_code 89 = .ok (.ifCond .eq 12, 3) := by decide +kernel
theorem d_Reader_readFeast_92 : decode prog_6_method_11_code 92 = .ok (.aload_n 0, 1) := by decide +kernel
theorem d_Reader_readFeast_93 : decode prog_6_method_11_code 93 = .ok (.bipush (-99), 2) := by decide +kernel
theorem d_Reader_readFeast_95 : decode prog_6_method_11_code 95 = .ok (.invokevirtual 187, 3) := by decide +kernel
theorem d_Reader_readFeast_98 : decode prog_6_method_11_code 98 = .ok (.goto 13, 3) := by decide +kernel
theorem d_Reader_readFeast_101 : decode prog_6_method_11_code 101 = .ok (.aload_n 0, 1) := by decide +kernel
theorem d_Reader_readFeast_102 : decode prog_6_method_11_code 102 = .ok (.iconst 0, 1) := by decide +kernel
theorem d_Reader_readFeast_103 : decode prog_6_method_11_code 103 = .ok (.aload_n 0, 1) := by decide +kernel
theorem d_Reader_readFeast_104 : decode prog_6_method_11_code 104 = .ok (.iload_n 3, 1) := by decide +kernel
theorem d_Reader_readFeast_105 : decode prog_6_method_11_code 105 = .ok (.invokevirtual 200, 3) := by decide +kernel
theorem d_Reader_readFeast_108 : decode prog_6_method_11_code 108 = .ok (.invokevirtual 84, 3) := by decide +kernel
theorem d_Reader_readFeast_111 : decode prog_6_method_11_code 111 = .ok (.istore 4, 2) := by decide +kernel
theorem d_Reader_readFeast_113 : decode prog_6_method_11_code 113 = .ok (.aload_n 0, 1) := by decide +kernel
theorem d_Reader_readFeast_114 : decode prog_6_method_11_code 114 = .ok (.invokevirtual 203, 3) := by decide +kernel
theorem d_Reader_readFeast_117 : decode prog_6_method_11_code 117 = .ok (.istore 5, 2) := by decide +kernel
theorem d_Reader_readFeast_119 : decode prog_6_method_11_code 119 = .ok (.aload_n 0, 1) := by decide +kernel
theorem d_Reader_readFeast_120 : decode prog_6_method_11_code 120 = .ok (.ldc 207, 2) := by decide +kernel
theorem d_Reader_readFeast_122 : decode prog_6_method_11_code 122 = .ok (.invokevirtual 209, 3) := by decide +kernel
theorem d_Reader_readFeast_125 : decode prog_6_method_11_code 125 = .ok (.istore 6, 2) := by decide +kernel
theorem d_Reader_readFeast_127 : decode prog_6_method_11_code 127 = .ok (.aload_n 0, 1) := by decide +kernel
theorem d_Reader_readFeast_128 : decode prog_6_method_11_code 128 = .ok (.ldc 213, 2) := by decide +kernel
theorem d_Reader_readFeast_130 : decode prog_6_method_11_code 130 = .ok (.invokevirtual 209, 3) := by decide +kernel
theorem d_Reader_readFeast_133 : decode prog_6_method_11_code 133 = .ok (.istore 7, 2) := by decide +kernel
theorem d_Reader_readFeast_135 : decode prog_6_method_11_code 135 = .ok (.aload_n 0, 1) := by decide +kernel
theorem d_Reader_readFeast_136 : decode prog_6_method_11_code 136 = .ok (.getfield 12, 3) := by decide +kernel
theorem d_Reader_readFeast_139 : decode prog_6_method_11_code 139 = .ok (.getfield 59, 3) := by decide +kernel
theorem d_Reader_readFeast_142 : decode prog_6_method_11_code 142 = .ok (.iload_n 1, 1) := by decide +kernel
theorem d_Reader_readFeast_143 : decode prog_6_method_11_code 143 = .ok (.iload_n 3, 1) := by decide +kernel
theorem d_Reader_readFeast_144 : decode prog_6_method_11_code 144 = .ok (.iload 4, 2) := by decide +kernel
theorem d_Reader_readFeast_146 : decode prog_6_method_11_code 146 = .ok (.iload 5, 2) := by decide +kernel
theorem d_Reader_readFeast_148 : decode prog_6_method_11_code 148 = .ok (.iload 6, 2) := by decide +kernel
theorem d_Reader_readFeast_150 : decode prog_6_method_11_code 150 = .ok (.iload 7, 2) := by decide +kernel
theorem d_Reader_readFeast_152 : decode prog_6_method_11_code 152 = .ok (.invokevirtual 215, 3) := by decide +kernel
theorem d_Reader_readFeast_155 : decode prog_6_method_11_code 155 = .ok (.return_, 1) := by decide +kernel
theorem mb_Feasts_add : MBv R_Feasts y_Feasts_add prog_4_method_2_code 7 none 6 := ⟨mT3 221 (by decide +kernel) (by decide +kernel), mT3 222 (by decide +kernel) (by decide +kernel), mT1 6 (by decide +kernel) (by decide +kernel), mT3 223 (by decide +kernel) (by decide +kernel), by decide, rfl, by decide +kernel, by decide +kernel, by decide +kernel⟩
theorem mb_Reader_lastDayOf : MBv R_Reader y_Reader_lastDayOf prog_6_method_12_code 2 (some .int) 1 := ⟨mT3 203 (by decide +kernel) (by decide +kernel), mT3 204 (by decide +kernel) (by decide +kernel), mT1 3 (by decide +kernel) (by decide +kernel), mT3 205 (by decide +kernel) (by decide +kernel), by decide, rfl, by decide +kernel, by decide +kernel, by decide +kernel⟩
theorem mb_Reader_readLaw : MBv R_Reader y_Reader_readLaw prog_6_method_13_code 1 (some .int) 0 := ⟨mT3 207 (by decide +kernel) (by decide +kernel), mT3 208 (by decide +kernel) (by decide +kernel), mT1 3 (by decide +kernel) (by decide +kernel), mT3 209 (by decide +kernel) (by decide +kernel), by decide, rfl, by decide +kernel, by decide +kernel, by decide +kernel⟩
theorem mb_Reader_readOption : MBv R_Reader y_Reader_readOption prog_6_method_14_code 3 (some .int) 1 := ⟨mT3 216 (by decide +kernel) (by decide +kernel), mT3 217 (by decide +kernel) (by decide +kernel), mT1 3 (by decide +kernel) (by decide +kernel), mT3 218 (by decide +kernel) (by decide +kernel), by decide, rfl, by decide +kernel, by decide +kernel, by decide +kernel⟩
theorem mb_Reader_readSigned : MBv R_Reader y_Reader_readSigned prog_6_method_18_code 5 (some .int) 1 := ⟨mT3 199 (by decide +kernel) (by decide +kernel), mT3 200 (by decide +kernel) (by decide +kernel), mT1 3 (by decide +kernel) (by decide +kernel), mT3 201 (by decide +kernel) (by decide +kernel), by decide, rfl, by decide +kernel, by decide +kernel, by decide +kernel⟩
theorem fk_Reader_196 : Cond.fieldLink "FeastBook$Reader" 196 (T_Feasts 0).1 (T_Feasts 0).2.1 (T_Feasts 0).2.2.1 ∈ TT := mT1 104 (by decide +kernel) (by decide +kernel)
theorem fk_Reader_59 : Cond.fieldLink "FeastBook$Reader" 59 (T_Book 17).1 (T_Book 17).2.1 (T_Book 17).2.2.1 ∈ TT := mT1 204 (by decide +kernel) (by decide +kernel)
theorem lk_Reader_187 : Cond.methodLink "FeastBook$Reader" 187 y_Reader_readSigned ∈ TT := mT3 198 (by decide +kernel) (by decide +kernel)
theorem lk_Reader_200 : Cond.methodLink "FeastBook$Reader" 200 y_Reader_lastDayOf ∈ TT := mT3 202 (by decide +kernel) (by decide +kernel)
theorem lk_Reader_203 : Cond.methodLink "FeastBook$Reader" 203 y_Reader_readLaw ∈ TT := mT3 206 (by decide +kernel) (by decide +kernel)
theorem lk_Reader_209 : Cond.methodLink "FeastBook$Reader" 209 y_Reader_readOption ∈ TT := mT3 215 (by decide +kernel) (by decide +kernel)
theorem lk_Reader_215 : Cond.methodLink "FeastBook$Reader" 215 y_Feasts_add ∈ TT := mT3 220 (by decide +kernel) (by decide +kernel)
set_option maxHeartbeats 4000000 in
set_option maxRecDepth 100000 in
theorem c_Reader_readFeast {l : Launch} {D : va_G} {ad : Nat → Nat} {cA : Nat → ClassId} {sd sv : Nat → Nat} {h : Hp} {N : Nat} {out : Hp} (hI : Inj97 ad) (hM : M_Reader_readFeast N h = some out) : Met l y_Reader_readFeast (.code y_Reader_readFeast prog_6_method_11_code 8 none :: TT) (rmD 6) (PC D ad cA sd sv h [.ref (ad 3)]) (QV D ad cA out) 0 0 (FA ad) := by
  unfold M_Reader_readFeast at hM
  refine entM (by decide +kernel) hI (Nat.le_of_ble_eq_true rfl) ?_
  intro p e s m args below meth c C hr hlk hP ls hl
  have C : Cx p s m args c prog_6_method_11_code 8 "FeastBook$Reader" D ad cA sd sv (FA ad) := C
  have hl : lv_has ls 8 [(0, .ref (ad 3))] := hl
  have w : Wd s D ad cA (FA ad) h s.heap [] := ⟨hP, va_S.rf⟩
  refine m_aload_n C hl 0 d_Reader_readFeast_0 rfl rfl ?_
  refine m_aload_n C hl 0 d_Reader_readFeast_1 rfl rfl ?_
  refine m_getr C w.1 kc_Reader sh_3 (Nat.le_of_ble_eq_true rfl) 1 4 rfl (by decide) fk_Reader_12 d_Reader_readFeast_2 ?_
  refine m_getr C w.1 kc_Book sh_4 (Nat.le_of_ble_eq_true rfl) 17 14 rfl (by decide) fk_Reader_59 d_Reader_readFeast_5 ?_
  refine m_geti C w.1 kc_Feasts sh_14 (Nat.le_of_ble_eq_true rfl) 0 rfl (by decide) fk_Reader_196 d_Reader_readFeast_8 ?_
  refine m_bipush C d_Reader_readFeast_11 (by decide) ?_
  refine lt_join hM (fun j1 ej hM => ?_)
  have hJ1 : ∀ (s0_1 : Int), j1 s0_1 = some out → ∀ ls : Array Slot, lv_has ls 8 [(0, .ref (ad 3))] → W p l e (rmD 6) s m args below meth c s.heap [] 0 0 (MQ below (QV D ad cA out) args s 0 0 (FA ad)) (F0 m 21 ls [.int (iZ s0_1), .ref (ad 3)]) := by
    intro s0_1 hM ls hl
    subst ej
    dsimp only at hM
    obtain ⟨h3, e2, hM⟩ := bnd_some hM
    refine aftV C w (runV C w.1 w.2 kc_Reader sh_3 (Nat.le_of_ble_eq_true rfl) (c_Reader_require hI e2) lk_Reader_80 mb_Reader_require rfl ⟨Nat.le_of_ble_eq_true rfl, Nat.le_of_ble_eq_true rfl⟩ ⟨Nat.zero_le _, Nat.zero_le _⟩ (Nat.le_of_ble_eq_true rfl) d_Reader_readFeast_21 hl.1 (rest := []) rfl) (fun H locs w => ?_)
    refine m_aload_n C hl 0 d_Reader_readFeast_24 rfl rfl ?_
    refine m_iconst C d_Reader_readFeast_25 ?_
    refine m_bipush C d_Reader_readFeast_26 (by decide) ?_
    obtain ⟨q5, e4, hM⟩ := bnd_some hM
    refine aftI C w (runV C w.1 w.2 kc_Reader sh_3 (Nat.le_of_ble_eq_true rfl) (c_Reader_readNumber hI e4) lk_Reader_84 mb_Reader_readNumber rfl ⟨Nat.le_of_ble_eq_true rfl, Nat.le_of_ble_eq_true rfl⟩ ⟨Nat.zero_le _, Nat.zero_le _⟩ (Nat.le_of_ble_eq_true rfl) d_Reader_readFeast_28 hl.1 (rest := []) rfl) (fun H locs w => ?_)
    refine m_istore_n C hl [(1, .int (iZ q5.1)), (0, .ref (ad 3))] d_Reader_readFeast_31 rfl (by decide) rfl (fun ls hl => ?_)
    refine m_aload_n C hl 1 d_Reader_readFeast_32 rfl rfl ?_
    obtain ⟨h7, e6, hM⟩ := bnd_some hM
    refine aftV C w (runV C w.1 w.2 kc_Reader sh_3 (Nat.le_of_ble_eq_true rfl) (c_Reader_readWord hI e6) lk_Reader_71 mb_Reader_readWord rfl ⟨Nat.le_of_ble_eq_true rfl, Nat.le_of_ble_eq_true rfl⟩ ⟨Nat.zero_le _, Nat.zero_le _⟩ (Nat.le_of_ble_eq_true rfl) d_Reader_readFeast_33 hl.1 (rest := []) rfl) (fun H locs w => ?_)
    refine m_aload_n C hl 1 d_Reader_readFeast_36 rfl rfl ?_
    refine m_ldcS C 4 (by decide) rfl d_Reader_readFeast_37 ?_
    obtain ⟨x9, e8, hM⟩ := bnd_some hM
    refine aftR (runV C w.1 w.2 kc_Reader sh_3 (Nat.le_of_ble_eq_true rfl) (c_Reader_isWord hI (by decide) e8) lk_Reader_76 mb_Reader_isWord rfl ⟨Nat.le_of_ble_eq_true rfl, Nat.le_of_ble_eq_true rfl⟩ ⟨Nat.zero_le _, Nat.zero_le _⟩ (Nat.le_of_ble_eq_true rfl) d_Reader_readFeast_39 hl.1 (rest := []) rfl) ?_
    refine m_istore_n C hl [(2, .int (iZ x9)), (1, .int (iZ q5.1)), (0, .ref (ad 3))] d_Reader_readFeast_42 rfl (by decide) rfl (fun ls hl => ?_)
    refine m_aload_n C hl 2 d_Reader_readFeast_43 rfl rfl ?_
    refine m_iload_n C hl 0 d_Reader_readFeast_44 rfl rfl ?_
    refine lt_join hM (fun j12 ej hM => ?_)
    have hJ12 : ∀ (s0_12 : Int), j12 s0_12 = some out → ∀ ls : Array Slot, lv_has ls 8 [(0, .ref (ad 3)), (1, .int (iZ q5.1)), (2, .int (iZ x9))] → W p l e (rmD 6) s m args below meth c H locs 0 0 (MQ below (QV D ad cA out) args s 0 0 (FA ad)) (F0 m 62 ls [.int (iZ s0_12), .ref (ad 3)]) := by
      intro s0_12 hM ls hl
      subst ej
      dsimp only at hM
      obtain ⟨h14, e13, hM⟩ := bnd_some hM
      refine aftV C w (runV C w.1 w.2 kc_Reader sh_3 (Nat.le_of_ble_eq_true rfl) (c_Reader_require hI e13) lk_Reader_80 mb_Reader_require rfl ⟨Nat.le_of_ble_eq_true rfl, Nat.le_of_ble_eq_true rfl⟩ ⟨Nat.zero_le _, Nat.zero_le _⟩ (Nat.le_of_ble_eq_true rfl) d_Reader_readFeast_62 hl.1 (rest := []) rfl) (fun H locs w => ?_)
      refine m_iload_n C hl 2 d_Reader_readFeast_65 rfl rfl ?_
      refine lt_join hM (fun j17 ej hM => ?_)
      have hJ17 : ∀ (s0_17 : Int) (h_17 : Hp), j17 s0_17 h_17 = some out → ∀ (H : Heap) (locs : List Loc), Wd s D ad cA (FA ad) h_17 H locs → ∀ ls : Array Slot, lv_has ls 8 [(0, .ref (ad 3)), (1, .int (iZ q5.1)), (2, .int (iZ x9))] → W p l e (rmD 6) s m args below meth c H locs 0 0 (MQ below (QV D ad cA out) args s 0 0 (FA ad)) (F0 m 87 ls [.int (iZ s0_17)]) := by
        intro s0_17 h_17 hM H locs w ls hl
        subst ej
        dsimp only at hM
        refine m_istore_n C hl [(3, .int (iZ s0_17)), (0, .ref (ad 3)), (1, .int (iZ q5.1)), (2, .int (iZ x9))] d_Reader_readFeast_87 rfl (by decide) rfl (fun ls hl => ?_)
        refine m_iload_n C hl 3 d_Reader_readFeast_88 rfl rfl ?_
        refine lt_join hM (fun j24 ej hM => ?_)
        have hJ24 : ∀ (s0_24 : Int) (h_24 : Hp), j24 s0_24 h_24 = some out → ∀ (H : Heap) (locs : List Loc), Wd s D ad cA (FA ad) h_24 H locs → ∀ ls : Array Slot, lv_has ls 8 [(0, .ref (ad 3)), (1, .int (iZ q5.1)), (2, .int (iZ x9)), (3, .int (iZ s0_17))] → W p l e (rmD 6) s m args below meth c H locs 0 0 (MQ below (QV D ad cA out) args s 0 0 (FA ad)) (F0 m 111 ls [.int (iZ s0_24)]) := by
          intro s0_24 h_24 hM H locs w ls hl
          subst ej
          dsimp only at hM
          refine m_istore C hl [(4, .int (iZ s0_24)), (0, .ref (ad 3)), (1, .int (iZ q5.1)), (2, .int (iZ x9)), (3, .int (iZ s0_17))] d_Reader_readFeast_111 (by decide) rfl (fun ls hl => ?_)
          refine m_aload_n C hl 1 d_Reader_readFeast_113 rfl rfl ?_
          obtain ⟨q26, e25, hM⟩ := bnd_some hM
          refine aftI C w (runV C w.1 w.2 kc_Reader sh_3 (Nat.le_of_ble_eq_true rfl) (c_Reader_readLaw hI e25) lk_Reader_203 mb_Reader_readLaw rfl ⟨Nat.le_of_ble_eq_true rfl, Nat.le_of_ble_eq_true rfl⟩ ⟨Nat.zero_le _, Nat.zero_le _⟩ (Nat.le_of_ble_eq_true rfl) d_Reader_readFeast_114 hl.1 (rest := []) rfl) (fun H locs w => ?_)
          refine m_istore C hl [(5, .int (iZ q26.1)), (4, .int (iZ s0_24)), (0, .ref (ad 3)), (1, .int (iZ q5.1)), (2, .int (iZ x9)), (3, .int (iZ s0_17))] d_Reader_readFeast_117 (by decide) rfl (fun ls hl => ?_)
          refine m_aload_n C hl 2 d_Reader_readFeast_119 rfl rfl ?_
          refine m_ldcS C 10 (by decide) rfl d_Reader_readFeast_120 ?_
          obtain ⟨q28, e27, hM⟩ := bnd_some hM
          refine aftI C w (runV C w.1 w.2 kc_Reader sh_3 (Nat.le_of_ble_eq_true rfl) (c_Reader_readOption hI (by decide) e27) lk_Reader_209 mb_Reader_readOption rfl ⟨Nat.le_of_ble_eq_true rfl, Nat.le_of_ble_eq_true rfl⟩ ⟨Nat.zero_le _, Nat.zero_le _⟩ (Nat.le_of_ble_eq_true rfl) d_Reader_readFeast_122 hl.1 (rest := []) rfl) (fun H locs w => ?_)
          refine m_istore C hl [(6, .int (iZ q28.1)), (5, .int (iZ q26.1)), (4, .int (iZ s0_24)), (0, .ref (ad 3)), (1, .int (iZ q5.1)), (2, .int (iZ x9)), (3, .int (iZ s0_17))] d_Reader_readFeast_125 (by decide) rfl (fun ls hl => ?_)
          refine m_aload_n C hl 3 d_Reader_readFeast_127 rfl rfl ?_
          refine m_ldcS C 11 (by decide) rfl d_Reader_readFeast_128 ?_
          obtain ⟨q30, e29, hM⟩ := bnd_some hM
          refine aftI C w (runV C w.1 w.2 kc_Reader sh_3 (Nat.le_of_ble_eq_true rfl) (c_Reader_readOption hI (by decide) e29) lk_Reader_209 mb_Reader_readOption rfl ⟨Nat.le_of_ble_eq_true rfl, Nat.le_of_ble_eq_true rfl⟩ ⟨Nat.zero_le _, Nat.zero_le _⟩ (Nat.le_of_ble_eq_true rfl) d_Reader_readFeast_130 hl.1 (rest := []) rfl) (fun H locs w => ?_)
          refine m_istore C hl [(7, .int (iZ q30.1)), (6, .int (iZ q28.1)), (5, .int (iZ q26.1)), (4, .int (iZ s0_24)), (0, .ref (ad 3)), (1, .int (iZ q5.1)), (2, .int (iZ x9)), (3, .int (iZ s0_17))] d_Reader_readFeast_133 (by decide) rfl (fun ls hl => ?_)
          refine m_aload_n C hl 4 d_Reader_readFeast_135 rfl rfl ?_
          refine m_getr C w.1 kc_Reader sh_3 (Nat.le_of_ble_eq_true rfl) 1 4 rfl (by decide) fk_Reader_12 d_Reader_readFeast_136 ?_
          refine m_getr C w.1 kc_Book sh_4 (Nat.le_of_ble_eq_true rfl) 17 14 rfl (by decide) fk_Reader_59 d_Reader_readFeast_139 ?_
          refine m_iload_n C hl 5 d_Reader_readFeast_142 rfl rfl ?_
          refine m_iload_n C hl 7 d_Reader_readFeast_143 rfl rfl ?_
          refine m_iload C hl 3 d_Reader_readFeast_144 rfl ?_
          refine m_iload C hl 2 d_Reader_readFeast_146 rfl ?_
          refine m_iload C hl 1 d_Reader_readFeast_148 rfl ?_
          refine m_iload C hl 0 d_Reader_readFeast_150 rfl ?_
          obtain ⟨h32, e31, hM⟩ := bnd_some hM
          refine aftV C w (runV C w.1 w.2 kc_Feasts sh_14 (Nat.le_of_ble_eq_true rfl) (c_Feasts_add hI (Or.inl rfl) e31) lk_Reader_215 mb_Feasts_add rfl ⟨Nat.le_of_ble_eq_true rfl, Nat.le_of_ble_eq_true rfl⟩ ⟨Nat.zero_le _, Nat.zero_le _⟩ (Nat.le_of_ble_eq_true rfl) d_Reader_readFeast_152 hl.1 (rest := []) rfl) (fun H locs w => ?_)
          exact m_vretW C w hr hlk hM d_Reader_readFeast_155
        refine m_if_eq C hM 101 d_Reader_readFeast_89 (by decide) (fun hM => ?_) (fun hM => ?_)
        · refine m_aload_n C hl 1 d_Reader_readFeast_101 rfl rfl ?_
          refine m_iconst C d_Reader_readFeast_102 ?_
          refine m_aload_n C hl 1 d_Reader_readFeast_103 rfl rfl ?_
          refine m_iload_n C hl 0 d_Reader_readFeast_104 rfl rfl ?_
          obtain ⟨x34, e33, hM⟩ := bnd_some hM
          refine aftR (runV C w.1 w.2 kc_Reader sh_3 (Nat.le_of_ble_eq_true rfl) (c_Reader_lastDayOf hI e33) lk_Reader_200 mb_Reader_lastDayOf rfl ⟨Nat.le_of_ble_eq_true rfl, Nat.le_of_ble_eq_true rfl⟩ ⟨Nat.zero_le _, Nat.zero_le _⟩ (Nat.le_of_ble_eq_true rfl) d_Reader_readFeast_105 hl.1 (rest := [.int (iZ 0), .ref (ad 3)]) rfl) ?_
          obtain ⟨q36, e35, hM⟩ := bnd_some hM
          refine aftI C w (runV C w.1 w.2 kc_Reader sh_3 (Nat.le_of_ble_eq_true rfl) (c_Reader_readNumber hI e35) lk_Reader_84 mb_Reader_readNumber rfl ⟨Nat.le_of_ble_eq_true rfl, Nat.le_of_ble_eq_true rfl⟩ ⟨Nat.zero_le _, Nat.zero_le _⟩ (Nat.le_of_ble_eq_true rfl) d_Reader_readFeast_108 hl.1 (rest := []) rfl) (fun H locs w => ?_)
          exact hJ24 q36.1 q36.2 hM _ _ w _ (lv_sub hl [1, 2, 3, 0] rfl)
        · refine m_aload_n C hl 1 d_Reader_readFeast_92 rfl rfl ?_
          refine m_bipush C d_Reader_readFeast_93 (by decide) ?_
          obtain ⟨q38, e37, hM⟩ := bnd_some hM
          refine aftI C w (runV C w.1 w.2 kc_Reader sh_3 (Nat.le_of_ble_eq_true rfl) (c_Reader_readSigned hI e37) lk_Reader_187 mb_Reader_readSigned rfl ⟨Nat.le_of_ble_eq_true rfl, Nat.le_of_ble_eq_true rfl⟩ ⟨Nat.zero_le _, Nat.zero_le _⟩ (Nat.le_of_ble_eq_true rfl) d_Reader_readFeast_95 hl.1 (rest := []) rfl) (fun H locs w => ?_)
          refine m_goto C 111 d_Reader_readFeast_98 (by decide) ?_
          exact hJ24 q38.1 q38.2 hM _ _ w _ (lv_sub hl [1, 2, 3, 0] rfl)
      refine m_if_eq C hM 73 d_Reader_readFeast_66 (by decide) (fun hM => ?_) (fun hM => ?_)
      · refine m_aload_n C hl 0 d_Reader_readFeast_73 rfl rfl ?_
        refine m_iconst C d_Reader_readFeast_74 ?_
        refine m_aload_n C hl 0 d_Reader_readFeast_75 rfl rfl ?_
        refine m_getr C w.1 kc_Reader sh_3 (Nat.le_of_ble_eq_true rfl) 1 4 rfl (by decide) fk_Reader_12 d_Reader_readFeast_76 ?_
        refine m_geti C w.1 kc_Book sh_4 (Nat.le_of_ble_eq_true rfl) 2 rfl (by decide) fk_Reader_97 d_Reader_readFeast_79 ?_
        refine m_iconst C d_Reader_readFeast_82 ?_
        refine m_isub C d_Reader_readFeast_83 ?_
        obtain ⟨q40, e39, hM⟩ := bnd_some hM
        refine aftI C w (runV C w.1 w.2 kc_Reader sh_3 (Nat.le_of_ble_eq_true rfl) (c_Reader_readNumber hI e39) lk_Reader_84 mb_Reader_readNumber rfl ⟨Nat.le_of_ble_eq_true rfl, Nat.le_of_ble_eq_true rfl⟩ ⟨Nat.zero_le _, Nat.zero_le _⟩ (Nat.le_of_ble_eq_true rfl) d_Reader_readFeast_84 hl.1 (rest := []) rfl) (fun H locs w => ?_)
        exact hJ17 q40.1 q40.2 hM _ _ w _ hl
      · refine m_iconst C d_Reader_readFeast_69 ?_
        refine m_goto C 87 d_Reader_readFeast_70 (by decide) ?_
        exact hJ17 (-1) h14 hM _ _ w _ hl
    refine m_if_ne C hM 57 d_Reader_readFeast_45 (by decide) (fun hM => ?_) (fun hM => ?_)
    · refine m_iconst C d_Reader_readFeast_57 ?_
      refine m_goto C 62 d_Reader_readFeast_58 (by decide) ?_
      exact hJ12 1 hM _ (lv_sub hl [2, 1, 0] rfl)
    · refine m_aload_n C hl 2 d_Reader_readFeast_48 rfl rfl ?_
      refine m_ldcS C 5 (by decide) rfl d_Reader_readFeast_49 ?_
      obtain ⟨x42, e41, hM⟩ := bnd_some hM
      refine aftR (runV C w.1 w.2 kc_Reader sh_3 (Nat.le_of_ble_eq_true rfl) (c_Reader_isWord hI (by decide) e41) lk_Reader_76 mb_Reader_isWord rfl ⟨Nat.le_of_ble_eq_true rfl, Nat.le_of_ble_eq_true rfl⟩ ⟨Nat.zero_le _, Nat.zero_le _⟩ (Nat.le_of_ble_eq_true rfl) d_Reader_readFeast_51 hl.1 (rest := [.ref (ad 3)]) rfl) ?_
      refine m_if_eq C hM 61 d_Reader_readFeast_54 (by decide) (fun hM => ?_) (fun hM => ?_)
      · refine m_iconst C d_Reader_readFeast_61 ?_
        exact hJ12 0 hM _ (lv_sub hl [2, 1, 0] rfl)
      · refine m_iconst C d_Reader_readFeast_57 ?_
        refine m_goto C 62 d_Reader_readFeast_58 (by decide) ?_
        exact hJ12 1 hM _ (lv_sub hl [2, 1, 0] rfl)
  refine m_icmp_ge C hM 20 d_Reader_readFeast_13 (by decide) (fun hM => ?_) (fun hM => ?_)
  · refine m_iconst C d_Reader_readFeast_20 ?_
    exact hJ1 0 hM _ hl
  · refine m_iconst C d_Reader_readFeast_16 ?_
    refine m_goto C 21 d_Reader_readFeast_17 (by decide) ?_
    exact hJ1 1 hM _ hl
def y_Reader_readSeason : MethodName := ⟨"FeastBook$Reader", "readSeason", "()V"⟩
theorem d_Reader_readSeason_0 : decode prog_6_method_9_code 0 = .ok (.aload_n 0, 1) := by decide +kernel
theorem d_Reader_readSeason_1 : decode prog_6_method_9_code 1 = .ok (.aload_n 0, 1) := by decide +kernel
theorem d_Reader_readSeason_2 : decode prog_6_method_9_code 2 = .ok (.getfield 12, 3) := by decide +kernel
theorem d_Reader_readSeason_5 : decode prog_6_method_9_code 5 = .ok (.getfield 180, 3) := by decide +kernel
theorem d_Reader_readSeason_8 : decode prog_6_method_9_code 8 = .ok (.getfield 184, 3) := by decide +kernel
theorem d_Reader_readSeason_11 : decode prog_6_method_9_code 11 = .ok (.iconst 4, 1) := by decide +kernel
theorem d_Reader_readSeason_12 : decode prog_6_method_9_code 12 = .ok (.if_icmp .ge 7, 3) := by decide +kernel
theorem d_Reader_readSeason_15 : decode prog_6_method_9_code 15 = .ok (.iconst 1, 1) := by decide +kernel
theorem d_Reader_readSeason_16 : decode prog_6_method_9_code 16 = .ok (.goto 4, 3) := by decide +kernel
theorem d_Reader_readSeason_19 : decode prog_6_method_9_code 19 = .ok (.iconst 0, 1) := by decide +kernel
theorem d_Reader_readSeason_20 : decode prog_6_method_9_code 20 = .ok (.invokevirtual 80, 3) := by decide +kernel
theorem d_Reader_readSeason_23 : decode prog_6_method_9_code 23 = .ok (.aload_n 0, 1) := by decide +kernel
theorem d_Reader_readSeason_24 : decode prog_6_method_9_code 24 = .ok (.bipush (-99), 2) := by decide +kernel
theorem d_Reader_readSeason_26 : decode prog_6_method_9_code 26 = .ok (.invokevirtual 187, 3) := by decide +kernel
theorem d_Reader_readSeason_29 : decode prog_6_method_9_code 29 = .ok (.istore_n 1, 1) := by decide +kernel
theorem d_Reader_readSeason_30 : decode prog_6_method_9_code 30 = .ok (.aload_n 0, 1) := by decide +kernel
theorem d_Reader_readSeason_31 : decode prog_6_method_9_code 31 = .ok (.iload_n 1, 1) := by decide +kernel
theorem d_Reader_readSeason_32 : decode prog_6_method_9_code 32 = .ok (.invokevirtual 187, 3) := by decide +kernel
theorem d_Reader_readSeason_35 : decode prog_6_method_9_code 35 = .ok (.istore_n 2, 1) := by decide +kernel
theorem d_Reader_readSeason_36 : decode prog_6_method_9_code 36 = .ok (.aload_n 0, 1) := by decide +kernel
theorem d_Reader_readSeason_37 : decode prog_6_method_9_code 37 = .ok (.getfield 12, 3) := by decide +kernel
theorem d_Reader_readSeason_40 : decode prog_6_method_9_code 40 = .ok (.getfield 180, 3) := by decide +kernel
theorem d_Reader_readSeason_43 : decode prog_6_method_9_code 43 = .ok (.iload_n 1, 1) := by decide +kernel
theorem d_Reader_readSeason_44 : decode prog_6_method_9_code 44 = .ok (.iload_n 2, 1) := by decide +kernel
theorem d_Reader_readSeason_45 : decode prog_6_method_9_code 45 = .ok (.aload_n 0, 1) := by decide +kernel
theorem d_Reader_readSeason_46 : decode prog_6_method_9_code 46 = .ok (.iconst 0, 1) := by decide +kernel
theorem d_Reader_readSeason_47 : decode prog_6_method_9_code 47 = .ok (.bipush 9, 2) := by decide +kernel
theorem d_Reader_readSeason_49 : decode prog_6_method_9_code 49 = .ok (.invokevirtual 84, 3) := by decide +kernel
theorem d_Reader_readSeason_52 : decode prog_6_method_9_code 52 = .ok (.invokevirtual 190, 3) := by decide +kernel
theorem d_Reader_readSeason_55 : decode prog_6_method_9_code 55 = .ok (.return_, 1) := by decide +kernel
theorem mb_Spans_add : MBv R_Spans y_Spans_add prog_8_method_2_code 4 none 3 := ⟨mT3 230 (by decide +kernel) (by decide +kernel), mT3 231 (by decide +kernel) (by decide +kernel), mT1 5 (by decide +kernel) (by decide +kernel), mT3 232 (by decide +kernel) (by decide +kernel), by decide, rfl, by decide +kernel, by decide +kernel, by decide +kernel⟩
theorem fk_Reader_180 : Cond.fieldLink "FeastBook$Reader" 180 (T_Book 15).1 (T_Book 15).2.1 (T_Book 15).2.2.1 ∈ TT := mT1 195 (by decide +kernel) (by decide +kernel)
theorem fk_Reader_184 : Cond.fieldLink "FeastBook$Reader" 184 (T_Spans 0).1 (T_Spans 0).2.1 (T_Spans 0).2.2.1 ∈ TT := mT1 77 (by decide +kernel) (by decide +kernel)
theorem lk_Reader_190 : Cond.methodLink "FeastBook$Reader" 190 y_Spans_add ∈ TT := mT3 229 (by decide +kernel) (by decide +kernel)
set_option maxHeartbeats 4000000 in
set_option maxRecDepth 100000 in
theorem c_Reader_readSeason {l : Launch} {D : va_G} {ad : Nat → Nat} {cA : Nat → ClassId} {sd sv : Nat → Nat} {h : Hp} {N : Nat} {out : Hp} (hI : Inj97 ad) (hM : M_Reader_readSeason N h = some out) : Met l y_Reader_readSeason (.code y_Reader_readSeason prog_6_method_9_code 3 none :: TT) (rmD 3) (PC D ad cA sd sv h [.ref (ad 3)]) (QV D ad cA out) 0 0 (FA ad) := by
  unfold M_Reader_readSeason at hM
  refine entM (by decide +kernel) hI (Nat.le_of_ble_eq_true rfl) ?_
  intro p e s m args below meth c C hr hlk hP ls hl
  have C : Cx p s m args c prog_6_method_9_code 3 "FeastBook$Reader" D ad cA sd sv (FA ad) := C
  have hl : lv_has ls 3 [(0, .ref (ad 3))] := hl
  have w : Wd s D ad cA (FA ad) h s.heap [] := ⟨hP, va_S.rf⟩
  refine m_aload_n C hl 0 d_Reader_readSeason_0 rfl rfl ?_
  refine m_aload_n C hl 0 d_Reader_readSeason_1 rfl rfl ?_
  refine m_getr C w.1 kc_Reader sh_3 (Nat.le_of_ble_eq_true rfl) 1 4 rfl (by decide) fk_Reader_12 d_Reader_readSeason_2 ?_
  refine m_getr C w.1 kc_Book sh_4 (Nat.le_of_ble_eq_true rfl) 15 6 rfl (by decide) fk_Reader_180 d_Reader_readSeason_5 ?_
  refine m_geti C w.1 kc_Spans sh_6 (Nat.le_of_ble_eq_true rfl) 0 rfl (by decide) fk_Reader_184 d_Reader_readSeason_8 ?_
  refine m_iconst C d_Reader_readSeason_11 ?_
  refine lt_join hM (fun j1 ej hM => ?_)
  have hJ1 : ∀ (s0_1 : Int), j1 s0_1 = some out → ∀ ls : Array Slot, lv_has ls 3 [(0, .ref (ad 3))] → W p l e (rmD 3) s m args below meth c s.heap [] 0 0 (MQ below (QV D ad cA out) args s 0 0 (FA ad)) (F0 m 20 ls [.int (iZ s0_1), .ref (ad 3)]) := by
    intro s0_1 hM ls hl
    subst ej
    dsimp only at hM
    obtain ⟨h3, e2, hM⟩ := bnd_some hM
    refine aftV C w (runV C w.1 w.2 kc_Reader sh_3 (Nat.le_of_ble_eq_true rfl) (c_Reader_require hI e2) lk_Reader_80 mb_Reader_require rfl ⟨Nat.le_of_ble_eq_true rfl, Nat.le_of_ble_eq_true rfl⟩ ⟨Nat.zero_le _, Nat.zero_le _⟩ (Nat.le_of_ble_eq_true rfl) d_Reader_readSeason_20 hl.1 (rest := []) rfl) (fun H locs w => ?_)
    refine m_aload_n C hl 0 d_Reader_readSeason_23 rfl rfl ?_
    refine m_bipush C d_Reader_readSeason_24 (by decide) ?_
    obtain ⟨q5, e4, hM⟩ := bnd_some hM
    refine aftI C w (runV C w.1 w.2 kc_Reader sh_3 (Nat.le_of_ble_eq_true rfl) (c_Reader_readSigned hI e4) lk_Reader_187 mb_Reader_readSigned rfl ⟨Nat.le_of_ble_eq_true rfl, Nat.le_of_ble_eq_true rfl⟩ ⟨Nat.zero_le _, Nat.zero_le _⟩ (Nat.le_of_ble_eq_true rfl) d_Reader_readSeason_26 hl.1 (rest := []) rfl) (fun H locs w => ?_)
    refine m_istore_n C hl [(1, .int (iZ q5.1)), (0, .ref (ad 3))] d_Reader_readSeason_29 rfl (by decide) rfl (fun ls hl => ?_)
    refine m_aload_n C hl 1 d_Reader_readSeason_30 rfl rfl ?_
    refine m_iload_n C hl 0 d_Reader_readSeason_31 rfl rfl ?_
    obtain ⟨q7, e6, hM⟩ := bnd_some hM
    refine aftI C w (runV C w.1 w.2 kc_Reader sh_3 (Nat.le_of_ble_eq_true rfl) (c_Reader_readSigned hI e6) lk_Reader_187 mb_Reader_readSigned rfl ⟨Nat.le_of_ble_eq_true rfl, Nat.le_of_ble_eq_true rfl⟩ ⟨Nat.zero_le _, Nat.zero_le _⟩ (Nat.le_of_ble_eq_true rfl) d_Reader_readSeason_32 hl.1 (rest := []) rfl) (fun H locs w => ?_)
    refine m_istore_n C hl [(2, .int (iZ q7.1)), (1, .int (iZ q5.1)), (0, .ref (ad 3))] d_Reader_readSeason_35 rfl (by decide) rfl (fun ls hl => ?_)
    refine m_aload_n C hl 2 d_Reader_readSeason_36 rfl rfl ?_
    refine m_getr C w.1 kc_Reader sh_3 (Nat.le_of_ble_eq_true rfl) 1 4 rfl (by decide) fk_Reader_12 d_Reader_readSeason_37 ?_
    refine m_getr C w.1 kc_Book sh_4 (Nat.le_of_ble_eq_true rfl) 15 6 rfl (by decide) fk_Reader_180 d_Reader_readSeason_40 ?_
    refine m_iload_n C hl 1 d_Reader_readSeason_43 rfl rfl ?_
    refine m_iload_n C hl 0 d_Reader_readSeason_44 rfl rfl ?_
    refine m_aload_n C hl 2 d_Reader_readSeason_45 rfl rfl ?_
    refine m_iconst C d_Reader_readSeason_46 ?_
    refine m_bipush C d_Reader_readSeason_47 (by decide) ?_
    obtain ⟨q9, e8, hM⟩ := bnd_some hM
    refine aftI C w (runV C w.1 w.2 kc_Reader sh_3 (Nat.le_of_ble_eq_true rfl) (c_Reader_readNumber hI e8) lk_Reader_84 mb_Reader_readNumber rfl ⟨Nat.le_of_ble_eq_true rfl, Nat.le_of_ble_eq_true rfl⟩ ⟨Nat.zero_le _, Nat.zero_le _⟩ (Nat.le_of_ble_eq_true rfl) d_Reader_readSeason_49 hl.1 (rest := [.int (iZ q7.1), .int (iZ q5.1), .ref (ad 6)]) rfl) (fun H locs w => ?_)
    obtain ⟨h11, e10, hM⟩ := bnd_some hM
    refine aftV C w (runV C w.1 w.2 kc_Spans sh_6 (Nat.le_of_ble_eq_true rfl) (c_Spans_add hI (Or.inl rfl) e10) lk_Reader_190 mb_Spans_add rfl ⟨Nat.le_of_ble_eq_true rfl, Nat.le_of_ble_eq_true rfl⟩ ⟨Nat.zero_le _, Nat.zero_le _⟩ (Nat.le_of_ble_eq_true rfl) d_Reader_readSeason_52 hl.1 (rest := []) rfl) (fun H locs w => ?_)
    exact m_vretW C w hr hlk hM d_Reader_readSeason_55
  refine m_icmp_ge C hM 19 d_Reader_readSeason_12 (by decide) (fun hM => ?_) (fun hM => ?_)
  · refine m_iconst C d_Reader_readSeason_19 ?_
    exact hJ1 0 hM _ hl
  · refine m_iconst C d_Reader_readSeason_15 ?_
    refine m_goto C 20 d_Reader_readSeason_16 (by decide) ?_
    exact hJ1 1 hM _ hl
def y_Reader_readClosed : MethodName := ⟨"FeastBook$Reader", "readClosed", "()V"⟩
theorem d_Reader_readClosed_0 : decode prog_6_method_10_code 0 = .ok (.aload_n 0, 1) := by decide +kernel
theorem d_Reader_readClosed_1 : decode prog_6_method_10_code 1 = .ok (.aload_n 0, 1) := by decide +kernel
theorem d_Reader_readClosed_2 : decode prog_6_method_10_code 2 = .ok (.getfield 12, 3) := by decide +kernel
theorem d_Reader_readClosed_5 : decode prog_6_method_10_code 5 = .ok (.getfield 194, 3) := by decide +kernel
theorem d_Reader_readClosed_8 : decode prog_6_method_10_code 8 = .ok (.getfield 184, 3) := by decide +kernel
theorem d_Reader_readClosed_11 : decode prog_6_method_10_code 11 = .ok (.iconst 4, 1) := by decide +kernel
theorem d_Reader_readClosed_12 : decode prog_6_method_10_code 12 = .ok (.if_icmp .ge 7, 3) := by decide +kernel
theorem d_Reader_readClosed_15 : decode prog_6_method_10_code 15 = .ok (.iconst 1, 1) := by decide +kernel
theorem d_Reader_readClosed_16 : decode prog_6_method_10_code 16 = .ok (.goto 4, 3) := by decide +kernel
theorem d_Reader_readClosed_19 : decode prog_6_method_10_code 19 = .ok (.iconst 0, 1) := by decide +kernel
theorem d_Reader_readClosed_20 : decode prog_6_method_10_code 20 = .ok (.invokevirtual 80, 3) := by decide +kernel
theorem d_Reader_readClosed_23 : decode prog_6_method_10_code 23 = .ok (.aload_n 0, 1) := by decide +kernel
theorem d_Reader_readClosed_24 : decode prog_6_method_10_code 24 = .ok (.bipush (-99), 2) := by decide +kernel
theorem d_Reader_readClosed_26 : decode prog_6_method_10_code 26 = .ok (.invokevirtual 187, 3) := by decide +kernel
theorem d_Reader_readClosed_29 : decode prog_6_method_10_code 29 = .ok (.istore_n 1, 1) := by decide +kernel
theorem d_Reader_readClosed_30 : decode prog_6_method_10_code 30 = .ok (.aload_n 0, 1) := by decide +kernel
theorem d_Reader_readClosed_31 : decode prog_6_method_10_code 31 = .ok (.getfield 12, 3) := by decide +kernel
theorem d_Reader_readClosed_34 : decode prog_6_method_10_code 34 = .ok (.getfield 194, 3) := by decide +kernel
theorem d_Reader_readClosed_37 : decode prog_6_method_10_code 37 = .ok (.iload_n 1, 1) := by decide +kernel
theorem d_Reader_readClosed_38 : decode prog_6_method_10_code 38 = .ok (.aload_n 0, 1) := by decide +kernel
theorem d_Reader_readClosed_39 : decode prog_6_method_10_code 39 = .ok (.iload_n 1, 1) := by decide +kernel
theorem d_Reader_readClosed_40 : decode prog_6_method_10_code 40 = .ok (.invokevirtual 187, 3) := by decide +kernel
theorem d_Reader_readClosed_43 : decode prog_6_method_10_code 43 = .ok (.iconst 0, 1) := by decide +kernel
theorem d_Reader_readClosed_44 : decode prog_6_method_10_code 44 = .ok (.invokevirtual 190, 3) := by decide +kernel
theorem d_Reader_readClosed_47 : decode prog_6_method_10_code 47 = .ok (.return_, 1) := by decide +kernel
theorem fk_Reader_194 : Cond.fieldLink "FeastBook$Reader" 194 (T_Book 16).1 (T_Book 16).2.1 (T_Book 16).2.2.1 ∈ TT := mT1 199 (by decide +kernel) (by decide +kernel)
set_option maxHeartbeats 4000000 in
set_option maxRecDepth 100000 in
theorem c_Reader_readClosed {l : Launch} {D : va_G} {ad : Nat → Nat} {cA : Nat → ClassId} {sd sv : Nat → Nat} {h : Hp} {N : Nat} {out : Hp} (hI : Inj97 ad) (hM : M_Reader_readClosed N h = some out) : Met l y_Reader_readClosed (.code y_Reader_readClosed prog_6_method_10_code 2 none :: TT) (rmD 3) (PC D ad cA sd sv h [.ref (ad 3)]) (QV D ad cA out) 0 0 (FA ad) := by
  unfold M_Reader_readClosed at hM
  refine entM (by decide +kernel) hI (Nat.le_of_ble_eq_true rfl) ?_
  intro p e s m args below meth c C hr hlk hP ls hl
  have C : Cx p s m args c prog_6_method_10_code 2 "FeastBook$Reader" D ad cA sd sv (FA ad) := C
  have hl : lv_has ls 2 [(0, .ref (ad 3))] := hl
  have w : Wd s D ad cA (FA ad) h s.heap [] := ⟨hP, va_S.rf⟩
  refine m_aload_n C hl 0 d_Reader_readClosed_0 rfl rfl ?_
  refine m_aload_n C hl 0 d_Reader_readClosed_1 rfl rfl ?_
  refine m_getr C w.1 kc_Reader sh_3 (Nat.le_of_ble_eq_true rfl) 1 4 rfl (by decide) fk_Reader_12 d_Reader_readClosed_2 ?_
  refine m_getr C w.1 kc_Book sh_4 (Nat.le_of_ble_eq_true rfl) 16 10 rfl (by decide) fk_Reader_194 d_Reader_readClosed_5 ?_
  refine m_geti C w.1 kc_Spans sh_10 (Nat.le_of_ble_eq_true rfl) 0 rfl (by decide) fk_Reader_184 d_Reader_readClosed_8 ?_
  refine m_iconst C d_Reader_readClosed_11 ?_
  refine lt_join hM (fun j1 ej hM => ?_)
  have hJ1 : ∀ (s0_1 : Int), j1 s0_1 = some out → ∀ ls : Array Slot, lv_has ls 2 [(0, .ref (ad 3))] → W p l e (rmD 3) s m args below meth c s.heap [] 0 0 (MQ below (QV D ad cA out) args s 0 0 (FA ad)) (F0 m 20 ls [.int (iZ s0_1), .ref (ad 3)]) := by
    intro s0_1 hM ls hl
    subst ej
    dsimp only at hM
    obtain ⟨h3, e2, hM⟩ := bnd_some hM
    refine aftV C w (runV C w.1 w.2 kc_Reader sh_3 (Nat.le_of_ble_eq_true rfl) (c_Reader_require hI e2) lk_Reader_80 mb_Reader_require rfl ⟨Nat.le_of_ble_eq_true rfl, Nat.le_of_ble_eq_true rfl⟩ ⟨Nat.zero_le _, Nat.zero_le _⟩ (Nat.le_of_ble_eq_true rfl) d_Reader_readClosed_20 hl.1 (rest := []) rfl) (fun H locs w => ?_)
    refine m_aload_n C hl 0 d_Reader_readClosed_23 rfl rfl ?_
    refine m_bipush C d_Reader_readClosed_24 (by decide) ?_
    obtain ⟨q5, e4, hM⟩ := bnd_some hM
    refine aftI C w (runV C w.1 w.2 kc_Reader sh_3 (Nat.le_of_ble_eq_true rfl) (c_Reader_readSigned hI e4) lk_Reader_187 mb_Reader_readSigned rfl ⟨Nat.le_of_ble_eq_true rfl, Nat.le_of_ble_eq_true rfl⟩ ⟨Nat.zero_le _, Nat.zero_le _⟩ (Nat.le_of_ble_eq_true rfl) d_Reader_readClosed_26 hl.1 (rest := []) rfl) (fun H locs w => ?_)
    refine m_istore_n C hl [(1, .int (iZ q5.1)), (0, .ref (ad 3))] d_Reader_readClosed_29 rfl (by decide) rfl (fun ls hl => ?_)
    refine m_aload_n C hl 1 d_Reader_readClosed_30 rfl rfl ?_
    refine m_getr C w.1 kc_Reader sh_3 (Nat.le_of_ble_eq_true rfl) 1 4 rfl (by decide) fk_Reader_12 d_Reader_readClosed_31 ?_
    refine m_getr C w.1 kc_Book sh_4 (Nat.le_of_ble_eq_true rfl) 16 10 rfl (by decide) fk_Reader_194 d_Reader_readClosed_34 ?_
    refine m_iload_n C hl 0 d_Reader_readClosed_37 rfl rfl ?_
    refine m_aload_n C hl 1 d_Reader_readClosed_38 rfl rfl ?_
    refine m_iload_n C hl 0 d_Reader_readClosed_39 rfl rfl ?_
    obtain ⟨q7, e6, hM⟩ := bnd_some hM
    refine aftI C w (runV C w.1 w.2 kc_Reader sh_3 (Nat.le_of_ble_eq_true rfl) (c_Reader_readSigned hI e6) lk_Reader_187 mb_Reader_readSigned rfl ⟨Nat.le_of_ble_eq_true rfl, Nat.le_of_ble_eq_true rfl⟩ ⟨Nat.zero_le _, Nat.zero_le _⟩ (Nat.le_of_ble_eq_true rfl) d_Reader_readClosed_40 hl.1 (rest := [.int (iZ q5.1), .ref (ad 10)]) rfl) (fun H locs w => ?_)
    refine m_iconst C d_Reader_readClosed_43 ?_
    obtain ⟨h9, e8, hM⟩ := bnd_some hM
    refine aftV C w (runV C w.1 w.2 kc_Spans sh_10 (Nat.le_of_ble_eq_true rfl) (c_Spans_add hI (Or.inr (Or.inl rfl)) e8) lk_Reader_190 mb_Spans_add rfl ⟨Nat.le_of_ble_eq_true rfl, Nat.le_of_ble_eq_true rfl⟩ ⟨Nat.zero_le _, Nat.zero_le _⟩ (Nat.le_of_ble_eq_true rfl) d_Reader_readClosed_44 hl.1 (rest := []) rfl) (fun H locs w => ?_)
    exact m_vretW C w hr hlk hM d_Reader_readClosed_47
  refine m_icmp_ge C hM 19 d_Reader_readClosed_12 (by decide) (fun hM => ?_) (fun hM => ?_)
  · refine m_iconst C d_Reader_readClosed_19 ?_
    exact hJ1 0 hM _ hl
  · refine m_iconst C d_Reader_readClosed_15 ?_
    refine m_goto C 20 d_Reader_readClosed_16 (by decide) ?_
    exact hJ1 1 hM _ hl
def y_Reader_readFasting : MethodName := ⟨"FeastBook$Reader", "readFasting", "()V"⟩
theorem d_Reader_readFasting_0 : decode prog_6_method_8_code 0 = .ok (.aload_n 0, 1) := by decide +kernel
theorem d_Reader_readFasting_1 : decode prog_6_method_8_code 1 = .ok (.iconst 0, 1) := by decide +kernel
theorem d_Reader_readFasting_2 : decode prog_6_method_8_code 2 = .ok (.aload_n 0, 1) := by decide +kernel
theorem d_Reader_readFasting_3 : decode prog_6_method_8_code 3 = .ok (.getfield 12, 3) := by decide +kernel
theorem d_Reader_readFasting_6 : decode prog_6_method_8_code 6 = .ok (.getfield 88, 3) := by decide +kernel
theorem d_Reader_readFasting_9 : decode prog_6_method_8_code 9 = .ok (.iconst 1, 1) := by decide +kernel
theorem d_Reader_readFasting_10 : decode prog_6_method_8_code 10 = .ok (.isub, 1) := by decide +kernel
theorem d_Reader_readFasting_11 : decode prog_6_method_8_code 11 = .ok (.invokevirtual 84, 3) := by decide +kernel
theorem d_Reader_readFasting_14 : decode prog_6_method_8_code 14 = .ok (.istore_n 1, 1) := by decide +kernel
theorem d_Reader_readFasting_15 : decode prog_6_method_8_code 15 = .ok (.aload_n 0, 1) := by decide +kernel
theorem d_Reader_readFasting_16 : decode prog_6_method_8_code 16 = .ok (.aload_n 0, 1) := by decide +kernel
theorem d_Reader_readFasting_17 : decode prog_6_method_8_code 17 = .ok (.getfield 12, 3) := by decide +kernel
theorem d_Reader_readFasting_20 : decode prog_6_method_8_code 20 = .ok (.getfield 177, 3) := by decide +kernel
theorem d_Reader_readFasting_23 : decode prog_6_method_8_code 23 = .ok (.iload_n 1, 1) := by decide +kernel
theorem d_Reader_readFasting_24 : decode prog_6_method_8_code 24 = .ok (.ishr, 1) := by decide +kernel
theorem d_Reader_readFasting_25 : decode prog_6_method_8_code 25 = .ok (.iconst 1, 1) := by decide +kernel
theorem d_Reader_readFasting_26 : decode prog_6_method_8_code 26 = .ok (.iand, 1) := by decide +kernel
theorem d_Reader_readFasting_27 : decode prog_6_method_8_code 27 = .ok (.ifCond .ne 7, 3) := by decide +kernel
theorem d_Reader_readFasting_30 : decode prog_6_method_8_code 30 = .ok (.iconst 1, 1) := by decide +kernel
theorem d_Reader_readFasting_31 : decode prog_6_method_8_code 31 = .ok (.goto 4, 3) := by decide +kernel
theorem d_Reader_readFasting_34 : decode prog_6_method_8_code 34 = .ok (.iconst 0, 1) := by decide +kernel
theorem d_Reader_readFasting_35 : decode prog_6_method_8_code 35 = .ok (.invokevirtual 80, 3) := by decide +kernel
theorem d_Reader_readFasting_38 : decode prog_6_method_8_code 38 = .ok (.aload_n 0, 1) := by decide +kernel
theorem d_Reader_readFasting_39 : decode prog_6_method_8_code 39 = .ok (.getfield 12, 3) := by decide +kernel
theorem d_Reader_readFasting_42 : decode prog_6_method_8_code 42 = .ok (.dup, 1) := by decide +kernel
theorem d_Reader_readFasting_43 : decode prog_6_method_8_code 43 = .ok (.getfield 177, 3) := by decide +kernel
theorem d_Reader_readFasting_46 : decode prog_6_method_8_code 46 = .ok (.iconst 1, 1) := by decide +kernel
theorem d_Reader_readFasting_47 : decode prog_6_method_8_code 47 = .ok (.iload_n 1, 1) := by decide +kernel
theorem d_Reader_readFasting_48 : decode prog_6_method_8_code 48 = .ok (.ishl, 1) := by decide +kernel
theorem d_Reader_readFasting_49 : decode prog_6_method_8_code 49 = .ok (.ior, 1) := by decide +kernel
theorem d_Reader_readFasting_50 : decode prog_6_method_8_code 50 = .ok (.putfield 177, 3) := by decide +kernel
theorem d_Reader_readFasting_53 : decode prog_6_method_8_code 53 = .ok (.return_, 1) := by decide +kernel
theorem fk_Reader_177 : Cond.fieldLink "FeastBook$Reader" 177 (T_Book 13).1 (T_Book 13).2.1 (T_Book 13).2.2.1 ∈ TT := mT1 189 (by decide +kernel) (by decide +kernel)
set_option maxHeartbeats 4000000 in
set_option maxRecDepth 100000 in
theorem c_Reader_readFasting {l : Launch} {D : va_G} {ad : Nat → Nat} {cA : Nat → ClassId} {sd sv : Nat → Nat} {h : Hp} {N : Nat} {out : Hp} (hI : Inj97 ad) (hM : M_Reader_readFasting N h = some out) : Met l y_Reader_readFasting (.code y_Reader_readFasting prog_6_method_8_code 2 none :: TT) (rmD 3) (PC D ad cA sd sv h [.ref (ad 3)]) (QV D ad cA out) 0 0 (FA ad) := by
  unfold M_Reader_readFasting at hM
  refine entM (by decide +kernel) hI (Nat.le_of_ble_eq_true rfl) ?_
  intro p e s m args below meth c C hr hlk hP ls hl
  have C : Cx p s m args c prog_6_method_8_code 2 "FeastBook$Reader" D ad cA sd sv (FA ad) := C
  have hl : lv_has ls 2 [(0, .ref (ad 3))] := hl
  have w : Wd s D ad cA (FA ad) h s.heap [] := ⟨hP, va_S.rf⟩
  refine m_aload_n C hl 0 d_Reader_readFasting_0 rfl rfl ?_
  refine m_iconst C d_Reader_readFasting_1 ?_
  refine m_aload_n C hl 0 d_Reader_readFasting_2 rfl rfl ?_
  refine m_getr C w.1 kc_Reader sh_3 (Nat.le_of_ble_eq_true rfl) 1 4 rfl (by decide) fk_Reader_12 d_Reader_readFasting_3 ?_
  refine m_geti C w.1 kc_Book sh_4 (Nat.le_of_ble_eq_true rfl) 1 rfl (by decide) fk_Reader_88 d_Reader_readFasting_6 ?_
  refine m_iconst C d_Reader_readFasting_9 ?_
  refine m_isub C d_Reader_readFasting_10 ?_
  obtain ⟨q2, e1, hM⟩ := bnd_some hM
  refine aftI C w (runV C w.1 w.2 kc_Reader sh_3 (Nat.le_of_ble_eq_true rfl) (c_Reader_readNumber hI e1) lk_Reader_84 mb_Reader_readNumber rfl ⟨Nat.le_of_ble_eq_true rfl, Nat.le_of_ble_eq_true rfl⟩ ⟨Nat.zero_le _, Nat.zero_le _⟩ (Nat.le_of_ble_eq_true rfl) d_Reader_readFasting_11 hl.1 (rest := []) rfl) (fun H locs w => ?_)
  refine m_istore_n C hl [(1, .int (iZ q2.1)), (0, .ref (ad 3))] d_Reader_readFasting_14 rfl (by decide) rfl (fun ls hl => ?_)
  refine m_aload_n C hl 1 d_Reader_readFasting_15 rfl rfl ?_
  refine m_aload_n C hl 1 d_Reader_readFasting_16 rfl rfl ?_
  refine m_getr C w.1 kc_Reader sh_3 (Nat.le_of_ble_eq_true rfl) 1 4 rfl (by decide) fk_Reader_12 d_Reader_readFasting_17 ?_
  refine m_geti C w.1 kc_Book sh_4 (Nat.le_of_ble_eq_true rfl) 13 rfl (by decide) fk_Reader_177 d_Reader_readFasting_20 ?_
  refine m_iload_n C hl 0 d_Reader_readFasting_23 rfl rfl ?_
  refine m_ishr C d_Reader_readFasting_24 ?_
  refine m_iconst C d_Reader_readFasting_25 ?_
  refine m_iand C d_Reader_readFasting_26 ?_
  refine m_if_ne C hM 34 d_Reader_readFasting_27 (by decide) (fun hM => ?_) (fun hM => ?_)
  · refine m_iconst C d_Reader_readFasting_34 ?_
    obtain ⟨h4, e3, hM⟩ := bnd_some hM
    refine aftV C w (runV C w.1 w.2 kc_Reader sh_3 (Nat.le_of_ble_eq_true rfl) (c_Reader_require hI e3) lk_Reader_80 mb_Reader_require rfl ⟨Nat.le_of_ble_eq_true rfl, Nat.le_of_ble_eq_true rfl⟩ ⟨Nat.zero_le _, Nat.zero_le _⟩ (Nat.le_of_ble_eq_true rfl) d_Reader_readFasting_35 hl.1 (rest := []) rfl) (fun H locs w => ?_)
    refine m_aload_n C hl 1 d_Reader_readFasting_38 rfl rfl ?_
    refine m_getr C w.1 kc_Reader sh_3 (Nat.le_of_ble_eq_true rfl) 1 4 rfl (by decide) fk_Reader_12 d_Reader_readFasting_39 ?_
    refine m_dup C d_Reader_readFasting_42 rfl ?_
    refine m_geti C w.1 kc_Book sh_4 (Nat.le_of_ble_eq_true rfl) 13 rfl (by decide) fk_Reader_177 d_Reader_readFasting_43 ?_
    refine m_iconst C d_Reader_readFasting_46 ?_
    refine m_iload_n C hl 0 d_Reader_readFasting_47 rfl rfl ?_
    refine m_ishl C d_Reader_readFasting_48 ?_
    refine m_ior C d_Reader_readFasting_49 ?_
    refine m_puti C w kc_Book sh_4 (Nat.le_of_ble_eq_true rfl) 13 hM rfl (by decide) rfl rfl fk_Reader_177 d_Reader_readFasting_50 (fun h5 H locs w hM => ?_)
    exact m_vretW C w hr hlk hM d_Reader_readFasting_53
  · refine m_iconst C d_Reader_readFasting_30 ?_
    refine m_goto C 35 d_Reader_readFasting_31 (by decide) ?_
    obtain ⟨h7, e6, hM⟩ := bnd_some hM
    refine aftV C w (runV C w.1 w.2 kc_Reader sh_3 (Nat.le_of_ble_eq_true rfl) (c_Reader_require hI e6) lk_Reader_80 mb_Reader_require rfl ⟨Nat.le_of_ble_eq_true rfl, Nat.le_of_ble_eq_true rfl⟩ ⟨Nat.zero_le _, Nat.zero_le _⟩ (Nat.le_of_ble_eq_true rfl) d_Reader_readFasting_35 hl.1 (rest := []) rfl) (fun H locs w => ?_)
    refine m_aload_n C hl 1 d_Reader_readFasting_38 rfl rfl ?_
    refine m_getr C w.1 kc_Reader sh_3 (Nat.le_of_ble_eq_true rfl) 1 4 rfl (by decide) fk_Reader_12 d_Reader_readFasting_39 ?_
    refine m_dup C d_Reader_readFasting_42 rfl ?_
    refine m_geti C w.1 kc_Book sh_4 (Nat.le_of_ble_eq_true rfl) 13 rfl (by decide) fk_Reader_177 d_Reader_readFasting_43 ?_
    refine m_iconst C d_Reader_readFasting_46 ?_
    refine m_iload_n C hl 0 d_Reader_readFasting_47 rfl rfl ?_
    refine m_ishl C d_Reader_readFasting_48 ?_
    refine m_ior C d_Reader_readFasting_49 ?_
    refine m_puti C w kc_Book sh_4 (Nat.le_of_ble_eq_true rfl) 13 hM rfl (by decide) rfl rfl fk_Reader_177 d_Reader_readFasting_50 (fun h8 H locs w hM => ?_)
    exact m_vretW C w hr hlk hM d_Reader_readFasting_53
def y_Reader_readSetting : MethodName := ⟨"FeastBook$Reader", "readSetting", "()V"⟩
theorem d_Reader_readSetting_0 : decode prog_6_method_7_code 0 = .ok (.aload_n 0, 1) := by decide +kernel
theorem d_Reader_readSetting_1 : decode prog_6_method_7_code 1 = .ok (.ldc 165, 2) := by decide +kernel
theorem d_Reader_readSetting_3 : decode prog_6_method_7_code 3 = .ok (.invokevirtual 76, 3) := by decide +kernel
theorem d_Reader_readSetting_6 : decode prog_6_method_7_code 6 = .ok (.ifCond .eq 32, 3) := by decide +kernel
theorem d_Reader_readSetting_9 : decode prog_6_method_7_code 9 = .ok (.aload_n 0, 1) := by decide +kernel
theorem d_Reader_readSetting_10 : decode prog_6_method_7_code 10 = .ok (.getfield 32, 3) := by decide +kernel
theorem d_Reader_readSetting_13 : decode prog_6_method_7_code 13 = .ok (.ifCond .ne 25, 3) := by decide +kernel
theorem d_Reader_readSetting_16 : decode prog_6_method_7_code 16 = .ok (.aload_n 0, 1) := by decide +kernel
theorem d_Reader_readSetting_17 : decode prog_6_method_7_code 17 = .ok (.iconst 1, 1) := by decide +kernel
theorem d_Reader_readSetting_18 : decode prog_6_method_7_code 18 = .ok (.putfield 32, 3) := by decide +kernel
theorem d_Reader_readSetting_21 : decode prog_6_method_7_code 21 = .ok (.aload_n 0, 1) := by decide +kernel
theorem d_Reader_readSetting_22 : decode prog_6_method_7_code 22 = .ok (.getfield 12, 3) := by decide +kernel
theorem d_Reader_readSetting_25 : decode prog_6_method_7_code 25 = .ok (.aload_n 0, 1) := by decide +kernel
theorem d_Reader_readSetting_26 : decode prog_6_method_7_code 26 = .ok (.iconst 1, 1) := by decide +kernel
theorem d_Reader_readSetting_27 : decode prog_6_method_7_code 27 = .ok (.bipush 60, 2) := by decide +kernel
theorem d_Reader_readSetting_29 : decode prog_6_method_7_code 29 = .ok (.invokevirtual 84, 3) := by decide +kernel
theorem d_Reader_readSetting_32 : decode prog_6_method_7_code 32 = .ok (.putfield 167, 3) := by decide +kernel
theorem d_Reader_readSetting_35 : decode prog_6_method_7_code 35 = .ok (.goto 84, 3) := by decide +kernel
theorem d_Reader_readSetting_38 : decode prog_6_method_7_code 38 = .ok (.aload_n 0, 1) := by decide +kernel
theorem d_Reader_readSetting_39 : decode prog_6_method_7_code 39 = .ok (.ldc 169, 2) := by decide +kernel
theorem d_Reader_readSetting_41 : decode prog_6_method_7_code 41 = .ok (.invokevirtual 76, 3) := by decide +kernel
theorem d_Reader_readSetting_44 : decode prog_6_method_7_code 44 = .ok (.ifCond .eq 32, 3) := by decide +kernel
theorem d_Reader_readSetting_47 : decode prog_6_method_7_code 47 = .ok (.aload_n 0, 1) := by decide +kernel
theorem d_Reader_readSetting_48 : decode prog_6_method_7_code 48 = .ok (.getfield 36, 3) := by decide +kernel
theorem d_Reader_readSetting_51 : decode prog_6_method_7_code 51 = .ok (.ifCond .ne 25, 3) := by decide +kernel
theorem d_Reader_readSetting_54 : decode prog_6_method_7_code 54 = .ok (.aload_n 0, 1) := by decide +kernel
theorem d_Reader_readSetting_55 : decode prog_6_method_7_code 55 = .ok (.iconst 1, 1) := by decide +kernel
theorem d_Reader_readSetting_56 : decode prog_6_method_7_code 56 = .ok (.putfield 36, 3) := by decide +kernel
theorem d_Reader_readSetting_59 : decode prog_6_method_7_code 59 = .ok (.aload_n 0, 1) := by decide +kernel
theorem d_Reader_readSetting_60 : decode prog_6_method_7_code 60 = .ok (.getfield 12, 3) := by decide +kernel
theorem d_Reader_readSetting_63 : decode prog_6_method_7_code 63 = .ok (.aload_n 0, 1) := by decide +kernel
theorem d_Reader_readSetting_64 : decode prog_6_method_7_code 64 = .ok (.iconst 0, 1) := by decide +kernel
theorem d_Reader_readSetting_65 : decode prog_6_method_7_code 65 = .ok (.bipush 9, 2) := by decide +kernel
theorem d_Reader_readSetting_67 : decode prog_6_method_7_code 67 = .ok (.invokevirtual 84, 3) := by decide +kernel
theorem d_Reader_readSetting_70 : decode prog_6_method_7_code 70 = .ok (.putfield 171, 3) := by decide +kernel
theorem d_Reader_readSetting_73 : decode prog_6_method_7_code 73 = .ok (.goto 46, 3) := by decide +kernel
theorem d_Reader_readSetting_76 : decode prog_6_method_7_code 76 = .ok (.aload_n 0, 1) := by decide +kernel
theorem d_Reader_readSetting_77 : decode prog_6_method_7_code 77 = .ok (.ldc 173, 2) := by decide +kernel
theorem d_Reader_readSetting_79 : decode prog_6_method_7_code 79 = .ok (.invokevirtual 76, 3) := by decide +kernel
theorem d_Reader_readSetting_82 : decode prog_6_method_7_code 82 = .ok (.ifCond .eq 32, 3) := by decide +kernel
theorem d_Reader_readSetting_85 : decode prog_6_method_7_code 85 = .ok (.aload_n 0, 1) := by decide +kernel
theorem d_Reader_readSetting_86 : decode prog_6_method_7_code 86 = .ok (.getfield 39, 3) := by decide +kernel
theorem d_Reader_readSetting_89 : decode prog_6_method_7_code 89 = .ok (.ifCond .ne 25, 3) := by decide +kernel
theorem d_Reader_readSetting_92 : decode prog_6_method_7_code 92 = .ok (.aload_n 0, 1) := by decide +kernel
theorem d_Reader_readSetting_93 : decode prog_6_method_7_code 93 = .ok (.iconst 1, 1) := by decide +kernel
theorem d_Reader_readSetting_94 : decode prog_6_method_7_code 94 = .ok (.putfield 39, 3) := by decide +kernel
theorem d_Reader_readSetting_97 : decode prog_6_method_7_code 97 = .ok (.aload_n 0, 1) := by decide +kernel
theorem d_Reader_readSetting_98 : decode prog_6_method_7_code 98 = .ok (.getfield 12, 3) := by decide +kernel
theorem d_Reader_readSetting_101 : decode prog_6_method_7_code 101 = .ok (.aload_n 0, 1) := by decide +kernel
theorem d_Reader_readSetting_102 : decode prog_6_method_7_code 102 = .ok (.iconst 1, 1) := by decide +kernel
theorem d_Reader_readSetting_103 : decode prog_6_method_7_code 103 = .ok (.bipush 9, 2) := by decide +kernel
theorem d_Reader_readSetting_105 : decode prog_6_method_7_code 105 = .ok (.invokevirtual 84, 3) := by decide +kernel
theorem d_Reader_readSetting_108 : decode prog_6_method_7_code 108 = .ok (.putfield 175, 3) := by decide +kernel
theorem d_Reader_readSetting_111 : decode prog_6_method_7_code 111 = .ok (.goto 8, 3) := by decide +kernel
theorem d_Reader_readSetting_114 : decode prog_6_method_7_code 114 = .ok (.aload_n 0, 1) := by decide +kernel
theorem d_Reader_readSetting_115 : decode prog_6_method_7_code 115 = .ok (.iconst 0, 1) := by decide +kernel
theorem d_Reader_readSetting_116 : decode prog_6_method_7_code 116 = .ok (.invokevirtual 80, 3) := by decide +kernel
theorem d_Reader_readSetting_119 : decode prog_6_method_7_code 119 = .ok (.return_, 1) := by decide +kernel
theorem fk_Reader_167 : Cond.fieldLink "FeastBook$Reader" 167 (T_Book 10).1 (T_Book 10).2.1 (T_Book 10).2.2.1 ∈ TT := mT1 178 (by decide +kernel) (by decide +kernel)
theorem fk_Reader_171 : Cond.fieldLink "FeastBook$Reader" 171 (T_Book 11).1 (T_Book 11).2.1 (T_Book 11).2.2.1 ∈ TT := mT1 182 (by decide +kernel) (by decide +kernel)
theorem fk_Reader_175 : Cond.fieldLink "FeastBook$Reader" 175 (T_Book 12).1 (T_Book 12).2.1 (T_Book 12).2.2.1 ∈ TT := mT1 185 (by decide +kernel) (by decide +kernel)
theorem fk_Reader_32 : Cond.fieldLink "FeastBook$Reader" 32 (T_Reader 5).1 (T_Reader 5).2.1 (T_Reader 5).2.2.1 ∈ TT := mT2 9 (by decide +kernel) (by decide +kernel)
theorem fk_Reader_36 : Cond.fieldLink "FeastBook$Reader" 36 (T_Reader 6).1 (T_Reader 6).2.1 (T_Reader 6).2.2.1 ∈ TT := mT2 10 (by decide +kernel) (by decide +kernel)
theorem fk_Reader_39 : Cond.fieldLink "FeastBook$Reader" 39 (T_Reader 7).1 (T_Reader 7).2.1 (T_Reader 7).2.2.1 ∈ TT := mT2 11 (by decide +kernel) (by decide +kernel)
set_option maxHeartbeats 4000000 in
set_option maxRecDepth 100000 in
theorem c_Reader_readSetting {l : Launch} {D : va_G} {ad : Nat → Nat} {cA : Nat → ClassId} {sd sv : Nat → Nat} {h : Hp} {N : Nat} {out : Hp} (hI : Inj97 ad) (hM : M_Reader_readSetting N h = some out) : Met l y_Reader_readSetting (.code y_Reader_readSetting prog_6_method_7_code 1 none :: TT) (rmD 5) (PC D ad cA sd sv h [.ref (ad 3)]) (QV D ad cA out) 0 0 (FA ad) := by
  unfold M_Reader_readSetting at hM
  refine entM (by decide +kernel) hI (Nat.le_of_ble_eq_true rfl) ?_
  intro p e s m args below meth c C hr hlk hP ls hl
  have C : Cx p s m args c prog_6_method_7_code 1 "FeastBook$Reader" D ad cA sd sv (FA ad) := C
  have hl : lv_has ls 1 [(0, .ref (ad 3))] := hl
  have w : Wd s D ad cA (FA ad) h s.heap [] := ⟨hP, va_S.rf⟩
  refine m_aload_n C hl 0 d_Reader_readSetting_0 rfl rfl ?_
  refine m_ldcS C 15 (by decide) rfl d_Reader_readSetting_1 ?_
  obtain ⟨x2, e1, hM⟩ := bnd_some hM
  refine aftR (runV C w.1 w.2 kc_Reader sh_3 (Nat.le_of_ble_eq_true rfl) (c_Reader_isWord hI (by decide) e1) lk_Reader_76 mb_Reader_isWord rfl ⟨Nat.le_of_ble_eq_true rfl, Nat.le_of_ble_eq_true rfl⟩ ⟨Nat.zero_le _, Nat.zero_le _⟩ (Nat.le_of_ble_eq_true rfl) d_Reader_readSetting_3 hl.1 (rest := []) rfl) ?_
  refine lt_join hM (fun j7 ej hM => ?_)
  have hJ7 : j7  = some out → ∀ ls : Array Slot, lv_has ls 1 [(0, .ref (ad 3))] → W p l e (rmD 5) s m args below meth c s.heap [] 0 0 (MQ below (QV D ad cA out) args s 0 0 (FA ad)) (F0 m 38 ls []) := by
    intro  hM ls hl
    subst ej
    skip
    refine m_aload_n C hl 0 d_Reader_readSetting_38 rfl rfl ?_
    refine m_ldcS C 16 (by decide) rfl d_Reader_readSetting_39 ?_
    obtain ⟨x9, e8, hM⟩ := bnd_some hM
    refine aftR (runV C w.1 w.2 kc_Reader sh_3 (Nat.le_of_ble_eq_true rfl) (c_Reader_isWord hI (by decide) e8) lk_Reader_76 mb_Reader_isWord rfl ⟨Nat.le_of_ble_eq_true rfl, Nat.le_of_ble_eq_true rfl⟩ ⟨Nat.zero_le _, Nat.zero_le _⟩ (Nat.le_of_ble_eq_true rfl) d_Reader_readSetting_41 hl.1 (rest := []) rfl) ?_
    refine lt_join hM (fun j14 ej hM => ?_)
    have hJ14 : j14  = some out → ∀ ls : Array Slot, lv_has ls 1 [(0, .ref (ad 3))] → W p l e (rmD 5) s m args below meth c s.heap [] 0 0 (MQ below (QV D ad cA out) args s 0 0 (FA ad)) (F0 m 76 ls []) := by
      intro  hM ls hl
      subst ej
      skip
      refine m_aload_n C hl 0 d_Reader_readSetting_76 rfl rfl ?_
      refine m_ldcS C 17 (by decide) rfl d_Reader_readSetting_77 ?_
      obtain ⟨x16, e15, hM⟩ := bnd_some hM
      refine aftR (runV C w.1 w.2 kc_Reader sh_3 (Nat.le_of_ble_eq_true rfl) (c_Reader_isWord hI (by decide) e15) lk_Reader_76 mb_Reader_isWord rfl ⟨Nat.le_of_ble_eq_true rfl, Nat.le_of_ble_eq_true rfl⟩ ⟨Nat.zero_le _, Nat.zero_le _⟩ (Nat.le_of_ble_eq_true rfl) d_Reader_readSetting_79 hl.1 (rest := []) rfl) ?_
      refine m_if_eq C hM 114 d_Reader_readSetting_82 (by decide) (fun hM => ?_) (fun hM => ?_)
      · refine m_aload_n C hl 0 d_Reader_readSetting_114 rfl rfl ?_
        refine m_iconst C d_Reader_readSetting_115 ?_
        obtain ⟨h18, e17, hM⟩ := bnd_some hM
        refine aftV C w (runV C w.1 w.2 kc_Reader sh_3 (Nat.le_of_ble_eq_true rfl) (c_Reader_require hI e17) lk_Reader_80 mb_Reader_require rfl ⟨Nat.le_of_ble_eq_true rfl, Nat.le_of_ble_eq_true rfl⟩ ⟨Nat.zero_le _, Nat.zero_le _⟩ (Nat.le_of_ble_eq_true rfl) d_Reader_readSetting_116 hl.1 (rest := []) rfl) (fun H locs w => ?_)
        exact m_vretW C w hr hlk hM d_Reader_readSetting_119
      · refine m_aload_n C hl 0 d_Reader_readSetting_85 rfl rfl ?_
        refine m_geti C w.1 kc_Reader sh_3 (Nat.le_of_ble_eq_true rfl) 7 rfl (by decide) fk_Reader_39 d_Reader_readSetting_86 ?_
        refine m_if_ne C hM 114 d_Reader_readSetting_89 (by decide) (fun hM => ?_) (fun hM => ?_)
        · refine m_aload_n C hl 0 d_Reader_readSetting_114 rfl rfl ?_
          refine m_iconst C d_Reader_readSetting_115 ?_
          obtain ⟨h20, e19, hM⟩ := bnd_some hM
          refine aftV C w (runV C w.1 w.2 kc_Reader sh_3 (Nat.le_of_ble_eq_true rfl) (c_Reader_require hI e19) lk_Reader_80 mb_Reader_require rfl ⟨Nat.le_of_ble_eq_true rfl, Nat.le_of_ble_eq_true rfl⟩ ⟨Nat.zero_le _, Nat.zero_le _⟩ (Nat.le_of_ble_eq_true rfl) d_Reader_readSetting_116 hl.1 (rest := []) rfl) (fun H locs w => ?_)
          exact m_vretW C w hr hlk hM d_Reader_readSetting_119
        · refine m_aload_n C hl 0 d_Reader_readSetting_92 rfl rfl ?_
          refine m_iconst C d_Reader_readSetting_93 ?_
          refine m_putz C w kc_Reader sh_3 (Nat.le_of_ble_eq_true rfl) 7 hM rfl (by decide) rfl rfl fk_Reader_39 d_Reader_readSetting_94 (fun h21 H locs w hM => ?_)
          refine m_aload_n C hl 0 d_Reader_readSetting_97 rfl rfl ?_
          refine m_getr C w.1 kc_Reader sh_3 (Nat.le_of_ble_eq_true rfl) 1 4 rfl (by decide) fk_Reader_12 d_Reader_readSetting_98 ?_
          refine m_aload_n C hl 0 d_Reader_readSetting_101 rfl rfl ?_
          refine m_iconst C d_Reader_readSetting_102 ?_
          refine m_bipush C d_Reader_readSetting_103 (by decide) ?_
          obtain ⟨q23, e22, hM⟩ := bnd_some hM
          refine aftI C w (runV C w.1 w.2 kc_Reader sh_3 (Nat.le_of_ble_eq_true rfl) (c_Reader_readNumber hI e22) lk_Reader_84 mb_Reader_readNumber rfl ⟨Nat.le_of_ble_eq_true rfl, Nat.le_of_ble_eq_true rfl⟩ ⟨Nat.zero_le _, Nat.zero_le _⟩ (Nat.le_of_ble_eq_true rfl) d_Reader_readSetting_105 hl.1 (rest := [.ref (ad 4)]) rfl) (fun H locs w => ?_)
          refine m_puti C w kc_Book sh_4 (Nat.le_of_ble_eq_true rfl) 12 hM rfl (by decide) rfl rfl fk_Reader_175 d_Reader_readSetting_108 (fun h24 H locs w hM => ?_)
          refine m_goto C 119 d_Reader_readSetting_111 (by decide) ?_
          exact m_vretW C w hr hlk hM d_Reader_readSetting_119
    refine m_if_eq C hM 76 d_Reader_readSetting_44 (by decide) (fun hM => ?_) (fun hM => ?_)
    · exact hJ14  hM _ hl
    · refine m_aload_n C hl 0 d_Reader_readSetting_47 rfl rfl ?_
      refine m_geti C w.1 kc_Reader sh_3 (Nat.le_of_ble_eq_true rfl) 6 rfl (by decide) fk_Reader_36 d_Reader_readSetting_48 ?_
      refine m_if_ne C hM 76 d_Reader_readSetting_51 (by decide) (fun hM => ?_) (fun hM => ?_)
      · exact hJ14  hM _ hl
      · refine m_aload_n C hl 0 d_Reader_readSetting_54 rfl rfl ?_
        refine m_iconst C d_Reader_readSetting_55 ?_
        refine m_putz C w kc_Reader sh_3 (Nat.le_of_ble_eq_true rfl) 6 hM rfl (by decide) rfl rfl fk_Reader_36 d_Reader_readSetting_56 (fun h25 H locs w hM => ?_)
        refine m_aload_n C hl 0 d_Reader_readSetting_59 rfl rfl ?_
        refine m_getr C w.1 kc_Reader sh_3 (Nat.le_of_ble_eq_true rfl) 1 4 rfl (by decide) fk_Reader_12 d_Reader_readSetting_60 ?_
        refine m_aload_n C hl 0 d_Reader_readSetting_63 rfl rfl ?_
        refine m_iconst C d_Reader_readSetting_64 ?_
        refine m_bipush C d_Reader_readSetting_65 (by decide) ?_
        obtain ⟨q27, e26, hM⟩ := bnd_some hM
        refine aftI C w (runV C w.1 w.2 kc_Reader sh_3 (Nat.le_of_ble_eq_true rfl) (c_Reader_readNumber hI e26) lk_Reader_84 mb_Reader_readNumber rfl ⟨Nat.le_of_ble_eq_true rfl, Nat.le_of_ble_eq_true rfl⟩ ⟨Nat.zero_le _, Nat.zero_le _⟩ (Nat.le_of_ble_eq_true rfl) d_Reader_readSetting_67 hl.1 (rest := [.ref (ad 4)]) rfl) (fun H locs w => ?_)
        refine m_puti C w kc_Book sh_4 (Nat.le_of_ble_eq_true rfl) 11 hM rfl (by decide) rfl rfl fk_Reader_171 d_Reader_readSetting_70 (fun h28 H locs w hM => ?_)
        refine m_goto C 119 d_Reader_readSetting_73 (by decide) ?_
        exact m_vretW C w hr hlk hM d_Reader_readSetting_119
  refine m_if_eq C hM 38 d_Reader_readSetting_6 (by decide) (fun hM => ?_) (fun hM => ?_)
  · exact hJ7  hM _ hl
  · refine m_aload_n C hl 0 d_Reader_readSetting_9 rfl rfl ?_
    refine m_geti C w.1 kc_Reader sh_3 (Nat.le_of_ble_eq_true rfl) 5 rfl (by decide) fk_Reader_32 d_Reader_readSetting_10 ?_
    refine m_if_ne C hM 38 d_Reader_readSetting_13 (by decide) (fun hM => ?_) (fun hM => ?_)
    · exact hJ7  hM _ hl
    · refine m_aload_n C hl 0 d_Reader_readSetting_16 rfl rfl ?_
      refine m_iconst C d_Reader_readSetting_17 ?_
      refine m_putz C w kc_Reader sh_3 (Nat.le_of_ble_eq_true rfl) 5 hM rfl (by decide) rfl rfl fk_Reader_32 d_Reader_readSetting_18 (fun h29 H locs w hM => ?_)
      refine m_aload_n C hl 0 d_Reader_readSetting_21 rfl rfl ?_
      refine m_getr C w.1 kc_Reader sh_3 (Nat.le_of_ble_eq_true rfl) 1 4 rfl (by decide) fk_Reader_12 d_Reader_readSetting_22 ?_
      refine m_aload_n C hl 0 d_Reader_readSetting_25 rfl rfl ?_
      refine m_iconst C d_Reader_readSetting_26 ?_
      refine m_bipush C d_Reader_readSetting_27 (by decide) ?_
      obtain ⟨q31, e30, hM⟩ := bnd_some hM
      refine aftI C w (runV C w.1 w.2 kc_Reader sh_3 (Nat.le_of_ble_eq_true rfl) (c_Reader_readNumber hI e30) lk_Reader_84 mb_Reader_readNumber rfl ⟨Nat.le_of_ble_eq_true rfl, Nat.le_of_ble_eq_true rfl⟩ ⟨Nat.zero_le _, Nat.zero_le _⟩ (Nat.le_of_ble_eq_true rfl) d_Reader_readSetting_29 hl.1 (rest := [.ref (ad 4)]) rfl) (fun H locs w => ?_)
      refine m_puti C w kc_Book sh_4 (Nat.le_of_ble_eq_true rfl) 10 hM rfl (by decide) rfl rfl fk_Reader_167 d_Reader_readSetting_32 (fun h32 H locs w hM => ?_)
      refine m_goto C 119 d_Reader_readSetting_35 (by decide) ?_
      exact m_vretW C w hr hlk hM d_Reader_readSetting_119
def y_Reader_readLine : MethodName := ⟨"FeastBook$Reader", "readLine", "(I)V"⟩
theorem d_Reader_readLine_0 : decode prog_6_method_6_code 0 = .ok (.aload_n 0, 1) := by decide +kernel
theorem d_Reader_readLine_1 : decode prog_6_method_6_code 1 = .ok (.dup, 1) := by decide +kernel
theorem d_Reader_readLine_2 : decode prog_6_method_6_code 2 = .ok (.getfield 22, 3) := by decide +kernel
theorem d_Reader_readLine_5 : decode prog_6_method_6_code 5 = .ok (.iconst 1, 1) := by decide +kernel
theorem d_Reader_readLine_6 : decode prog_6_method_6_code 6 = .ok (.iadd, 1) := by decide +kernel
theorem d_Reader_readLine_7 : decode prog_6_method_6_code 7 = .ok (.putfield 22, 3) := by decide +kernel
theorem d_Reader_readLine_10 : decode prog_6_method_6_code 10 = .ok (.aload_n 0, 1) := by decide +kernel
theorem d_Reader_readLine_11 : decode prog_6_method_6_code 11 = .ok (.invokevirtual 71, 3) := by decide +kernel
theorem d_Reader_readLine_14 : decode prog_6_method_6_code 14 = .ok (.aload_n 0, 1) := by decide +kernel
theorem d_Reader_readLine_15 : decode prog_6_method_6_code 15 = .ok (.iload_n 1, 1) := by decide +kernel
theorem d_Reader_readLine_16 : decode prog_6_method_6_code 16 = .ok (.bipush 24, 2) := by decide +kernel
theorem d_Reader_readLine_18 : decode prog_6_method_6_code 18 = .ok (.if_icmp .ge 7, 3) := by decide +kernel
theorem d_Reader_readLine_21 : decode prog_6_method_6_code 21 = .ok (.iconst 1, 1) := by decide +kernel
theorem d_Reader_readLine_22 : decode prog_6_method_6_code 22 = .ok (.goto 4, 3) := by decide +kernel
theorem d_Reader_readLine_25 : decode prog_6_method_6_code 25 = .ok (.iconst 0, 1) := by decide +kernel
theorem d_Reader_readLine_26 : decode prog_6_method_6_code 26 = .ok (.invokevirtual 80, 3) := by decide +kernel
theorem d_Reader_readLine_29 : decode prog_6_method_6_code 29 = .ok (.aload_n 0, 1) := by decide +kernel
theorem d_Reader_readLine_30 : decode prog_6_method_6_code 30 = .ok (.ldc 142, 2) := by decide +kernel
theorem d_Reader_readLine_32 : decode prog_6_method_6_code 32 = .ok (.invokevirtual 76, 3) := by decide +kernel
theorem d_Reader_readLine_35 : decode prog_6_method_6_code 35 = .ok (.ifCond .eq 10, 3) := by decide +kernel
theorem d_Reader_readLine_38 : decode prog_6_method_6_code 38 = .ok (.aload_n 0, 1) := by decide +kernel
theorem d_Reader_readLine_39 : decode prog_6_method_6_code 39 = .ok (.invokevirtual 144, 3) := by decide +kernel
theorem d_Reader_readLine_42 : decode prog_6_method_6_code 42 = .ok (.goto 55, 3) := by decide +kernel
theorem d_Reader_readLine_45 : decode prog_6_method_6_code 45 = .ok (.aload_n 0, 1) := by decide +kernel
theorem d_Reader_readLine_46 : decode prog_6_method_6_code 46 = .ok (.ldc 147, 2) := by decide +kernel
theorem d_Reader_readLine_48 : decode prog_6_method_6_code 48 = .ok (.invokevirtual 76, 3) := by decide +kernel
theorem d_Reader_readLine_51 : decode prog_6_method_6_code 51 = .ok (.ifCond .eq 10, 3) := by decide +kernel
theorem d_Reader_readLine_54 : decode prog_6_method_6_code 54 = .ok (.aload_n 0, 1) := by decide +kernel
theorem d_Reader_readLine_55 : decode prog_6_method_6_code 55 = .ok (.invokevirtual 149, 3) := by decide +kernel
theorem d_Reader_readLine_58 : decode prog_6_method_6_code 58 = .ok (.goto 39, 3) := by decide +kernel
theorem d_Reader_readLine_61 : decode prog_6_method_6_code 61 = .ok (.aload_n 0, 1) := by decide +kernel
theorem d_Reader_readLine_62 : decode prog_6_method_6_code 62 = .ok (.ldc 152, 2) := by decide +kernel
theorem d_Reader_readLine_64 : decode prog_6_method_6_code 64 = .ok (.invokevirtual 76, 3) := by decide +kernel
theorem d_Reader_readLine_67 : decode prog_6_method_6_code 67 = .ok (.ifCond .eq 10, 3) := by decide +kernel
theorem d_Reader_readLine_70 : decode prog_6_method_6_code 70 = .ok (.aload_n 0, 1) := by decide +kernel
theorem d_Reader_readLine_71 : decode prog_6_method_6_code 71 = .ok (.invokevirtual 154, 3) := by decide +kernel
theorem d_Reader_readLine_74 : decode prog_6_method_6_code 74 = .ok (.goto 23, 3) := by decide +kernel
theorem d_Reader_readLine_77 : decode prog_6_method_6_code 77 = .ok (.aload_n 0, 1) := by decide +kernel
theorem d_Reader_readLine_78 : decode prog_6_method_6_code 78 = .ok (.ldc 157, 2) := by decide +kernel
theorem d_Reader_readLine_80 : decode prog_6_method_6_code 80 = .ok (.invokevirtual 76, 3) := by decide +kernel
theorem d_Reader_readLine_83 : decode prog_6_method_6_code 83 = .ok (.ifCond .eq 10, 3) := by decide +kernel
theorem d_Reader_readLine_86 : decode prog_6_method_6_code 86 = .ok (.aload_n 0, 1) := by decide +kernel
theorem d_Reader_readLine_87 : decode prog_6_method_6_code 87 = .ok (.invokevirtual 159, 3) := by decide +kernel
theorem d_Reader_readLine_90 : decode prog_6_method_6_code 90 = .ok (.goto 7, 3) := by decide +kernel
theorem d_Reader_readLine_93 : decode prog_6_method_6_code 93 = .ok (.aload_n 0, 1) := by decide +kernel
theorem d_Reader_readLine_94 : decode prog_6_method_6_code 94 = .ok (.invokevirtual 162, 3) := by decide +kernel
theorem d_Reader_readLine_97 : decode prog_6_method_6_code 97 = .ok (.return_, 1) := by decide +kernel
theorem mb_Reader_readClosed : MBv R_Reader y_Reader_readClosed prog_6_method_10_code 2 none 0 := ⟨mT3 235 (by decide +kernel) (by decide +kernel), mT3 236 (by decide +kernel) (by decide +kernel), mT1 3 (by decide +kernel) (by decide +kernel), mT3 237 (by decide +kernel) (by decide +kernel), by decide, rfl, by decide +kernel, by decide +kernel, by decide +kernel⟩
theorem mb_Reader_readFasting : MBv R_Reader y_Reader_readFasting prog_6_method_8_code 2 none 0 := ⟨mT4 0 (by decide +kernel) (by decide +kernel), mT4 1 (by decide +kernel) (by decide +kernel), mT1 3 (by decide +kernel) (by decide +kernel), mT4 2 (by decide +kernel) (by decide +kernel), by decide, rfl, by decide +kernel, by decide +kernel, by decide +kernel⟩
theorem mb_Reader_readFeast : MBv R_Reader y_Reader_readFeast prog_6_method_11_code 8 none 0 := ⟨mT3 193 (by decide +kernel) (by decide +kernel), mT3 194 (by decide +kernel) (by decide +kernel), mT1 3 (by decide +kernel) (by decide +kernel), mT3 195 (by decide +kernel) (by decide +kernel), by decide, rfl, by decide +kernel, by decide +kernel, by decide +kernel⟩
theorem mb_Reader_readSeason : MBv R_Reader y_Reader_readSeason prog_6_method_9_code 3 none 0 := ⟨mT3 226 (by decide +kernel) (by decide +kernel), mT3 227 (by decide +kernel) (by decide +kernel), mT1 3 (by decide +kernel) (by decide +kernel), mT3 228 (by decide +kernel) (by decide +kernel), by decide, rfl, by decide +kernel, by decide +kernel, by decide +kernel⟩
theorem mb_Reader_readSetting : MBv R_Reader y_Reader_readSetting prog_6_method_7_code 1 none 0 := ⟨mT4 4 (by decide +kernel) (by decide +kernel), mT4 5 (by decide +kernel) (by decide +kernel), mT1 3 (by decide +kernel) (by decide +kernel), mT4 6 (by decide +kernel) (by decide +kernel), by decide, rfl, by decide +kernel, by decide +kernel, by decide +kernel⟩
theorem lk_Reader_144 : Cond.methodLink "FeastBook$Reader" 144 y_Reader_readFeast ∈ TT := mT3 192 (by decide +kernel) (by decide +kernel)
theorem lk_Reader_149 : Cond.methodLink "FeastBook$Reader" 149 y_Reader_readSeason ∈ TT := mT3 225 (by decide +kernel) (by decide +kernel)
theorem lk_Reader_154 : Cond.methodLink "FeastBook$Reader" 154 y_Reader_readClosed ∈ TT := mT3 234 (by decide +kernel) (by decide +kernel)
theorem lk_Reader_159 : Cond.methodLink "FeastBook$Reader" 159 y_Reader_readFasting ∈ TT := mT3 239 (by decide +kernel) (by decide +kernel)
theorem lk_Reader_162 : Cond.methodLink "FeastBook$Reader" 162 y_Reader_readSetting ∈ TT := mT4 3 (by decide +kernel) (by decide +kernel)
set_option maxHeartbeats 4000000 in
set_option maxRecDepth 100000 in
theorem c_Reader_readLine {l : Launch} {D : va_G} {ad : Nat → Nat} {cA : Nat → ClassId} {sd sv : Nat → Nat} {h : Hp} {N : Nat} {a1 : Int} {out : Hp} (hI : Inj97 ad) (hM : M_Reader_readLine N h a1 = some out) : Met l y_Reader_readLine (.code y_Reader_readLine prog_6_method_6_code 2 none :: TT) (rmD 7) (PC D ad cA sd sv h [.ref (ad 3), .int (iZ a1)]) (QV D ad cA out) 0 0 (FA ad) := by
  unfold M_Reader_readLine at hM
  refine entM (by decide +kernel) hI (Nat.le_of_ble_eq_true rfl) ?_
  intro p e s m args below meth c C hr hlk hP ls hl
  have C : Cx p s m args c prog_6_method_6_code 2 "FeastBook$Reader" D ad cA sd sv (FA ad) := C
  have hl : lv_has ls 2 [(0, .ref (ad 3)), (1, .int (iZ a1))] := hl
  have w : Wd s D ad cA (FA ad) h s.heap [] := ⟨hP, va_S.rf⟩
  refine m_aload_n C hl 0 d_Reader_readLine_0 rfl rfl ?_
  refine m_dup C d_Reader_readLine_1 rfl ?_
  refine m_geti C w.1 kc_Reader sh_3 (Nat.le_of_ble_eq_true rfl) 2 rfl (by decide) fk_Reader_22 d_Reader_readLine_2 ?_
  refine m_iconst C d_Reader_readLine_5 ?_
  refine m_iadd C d_Reader_readLine_6 ?_
  refine m_puti C w kc_Reader sh_3 (Nat.le_of_ble_eq_true rfl) 2 hM rfl (by decide) rfl rfl fk_Reader_22 d_Reader_readLine_7 (fun h1 H locs w hM => ?_)
  refine m_aload_n C hl 0 d_Reader_readLine_10 rfl rfl ?_
  obtain ⟨h3, e2, hM⟩ := bnd_some hM
  refine aftV C w (runV C w.1 w.2 kc_Reader sh_3 (Nat.le_of_ble_eq_true rfl) (c_Reader_readWord hI e2) lk_Reader_71 mb_Reader_readWord rfl ⟨Nat.le_of_ble_eq_true rfl, Nat.le_of_ble_eq_true rfl⟩ ⟨Nat.zero_le _, Nat.zero_le _⟩ (Nat.le_of_ble_eq_true rfl) d_Reader_readLine_11 hl.1 (rest := []) rfl) (fun H locs w => ?_)
  refine m_aload_n C hl 0 d_Reader_readLine_14 rfl rfl ?_
  refine m_iload_n C hl 1 d_Reader_readLine_15 rfl rfl ?_
  refine m_bipush C d_Reader_readLine_16 (by decide) ?_
  refine lt_join hM (fun j4 ej hM => ?_)
  have hJ4 : ∀ (s0_4 : Int), j4 s0_4 = some out → ∀ ls : Array Slot, lv_has ls 2 [(0, .ref (ad 3)), (1, .int (iZ a1))] → W p l e (rmD 7) s m args below meth c H locs 0 0 (MQ below (QV D ad cA out) args s 0 0 (FA ad)) (F0 m 26 ls [.int (iZ s0_4), .ref (ad 3)]) := by
    intro s0_4 hM ls hl
    subst ej
    dsimp only at hM
    obtain ⟨h6, e5, hM⟩ := bnd_some hM
    refine aftV C w (runV C w.1 w.2 kc_Reader sh_3 (Nat.le_of_ble_eq_true rfl) (c_Reader_require hI e5) lk_Reader_80 mb_Reader_require rfl ⟨Nat.le_of_ble_eq_true rfl, Nat.le_of_ble_eq_true rfl⟩ ⟨Nat.zero_le _, Nat.zero_le _⟩ (Nat.le_of_ble_eq_true rfl) d_Reader_readLine_26 hl.1 (rest := []) rfl) (fun H locs w => ?_)
    refine m_aload_n C hl 0 d_Reader_readLine_29 rfl rfl ?_
    refine m_ldcS C 3 (by decide) rfl d_Reader_readLine_30 ?_
    obtain ⟨x8, e7, hM⟩ := bnd_some hM
    refine aftR (runV C w.1 w.2 kc_Reader sh_3 (Nat.le_of_ble_eq_true rfl) (c_Reader_isWord hI (by decide) e7) lk_Reader_76 mb_Reader_isWord rfl ⟨Nat.le_of_ble_eq_true rfl, Nat.le_of_ble_eq_true rfl⟩ ⟨Nat.zero_le _, Nat.zero_le _⟩ (Nat.le_of_ble_eq_true rfl) d_Reader_readLine_32 hl.1 (rest := []) rfl) ?_
    refine m_if_eq C hM 45 d_Reader_readLine_35 (by decide) (fun hM => ?_) (fun hM => ?_)
    · refine m_aload_n C hl 0 d_Reader_readLine_45 rfl rfl ?_
      refine m_ldcS C 12 (by decide) rfl d_Reader_readLine_46 ?_
      obtain ⟨x10, e9, hM⟩ := bnd_some hM
      refine aftR (runV C w.1 w.2 kc_Reader sh_3 (Nat.le_of_ble_eq_true rfl) (c_Reader_isWord hI (by decide) e9) lk_Reader_76 mb_Reader_isWord rfl ⟨Nat.le_of_ble_eq_true rfl, Nat.le_of_ble_eq_true rfl⟩ ⟨Nat.zero_le _, Nat.zero_le _⟩ (Nat.le_of_ble_eq_true rfl) d_Reader_readLine_48 hl.1 (rest := []) rfl) ?_
      refine m_if_eq C hM 61 d_Reader_readLine_51 (by decide) (fun hM => ?_) (fun hM => ?_)
      · refine m_aload_n C hl 0 d_Reader_readLine_61 rfl rfl ?_
        refine m_ldcS C 13 (by decide) rfl d_Reader_readLine_62 ?_
        obtain ⟨x12, e11, hM⟩ := bnd_some hM
        refine aftR (runV C w.1 w.2 kc_Reader sh_3 (Nat.le_of_ble_eq_true rfl) (c_Reader_isWord hI (by decide) e11) lk_Reader_76 mb_Reader_isWord rfl ⟨Nat.le_of_ble_eq_true rfl, Nat.le_of_ble_eq_true rfl⟩ ⟨Nat.zero_le _, Nat.zero_le _⟩ (Nat.le_of_ble_eq_true rfl) d_Reader_readLine_64 hl.1 (rest := []) rfl) ?_
        refine m_if_eq C hM 77 d_Reader_readLine_67 (by decide) (fun hM => ?_) (fun hM => ?_)
        · refine m_aload_n C hl 0 d_Reader_readLine_77 rfl rfl ?_
          refine m_ldcS C 14 (by decide) rfl d_Reader_readLine_78 ?_
          obtain ⟨x14, e13, hM⟩ := bnd_some hM
          refine aftR (runV C w.1 w.2 kc_Reader sh_3 (Nat.le_of_ble_eq_true rfl) (c_Reader_isWord hI (by decide) e13) lk_Reader_76 mb_Reader_isWord rfl ⟨Nat.le_of_ble_eq_true rfl, Nat.le_of_ble_eq_true rfl⟩ ⟨Nat.zero_le _, Nat.zero_le _⟩ (Nat.le_of_ble_eq_true rfl) d_Reader_readLine_80 hl.1 (rest := []) rfl) ?_
          refine m_if_eq C hM 93 d_Reader_readLine_83 (by decide) (fun hM => ?_) (fun hM => ?_)
          · refine m_aload_n C hl 0 d_Reader_readLine_93 rfl rfl ?_
            obtain ⟨h16, e15, hM⟩ := bnd_some hM
            refine aftV C w (runV C w.1 w.2 kc_Reader sh_3 (Nat.le_of_ble_eq_true rfl) (c_Reader_readSetting hI e15) lk_Reader_162 mb_Reader_readSetting rfl ⟨Nat.le_of_ble_eq_true rfl, Nat.le_of_ble_eq_true rfl⟩ ⟨Nat.zero_le _, Nat.zero_le _⟩ (Nat.le_of_ble_eq_true rfl) d_Reader_readLine_94 hl.1 (rest := []) rfl) (fun H locs w => ?_)
            exact m_vretW C w hr hlk hM d_Reader_readLine_97
          · refine m_aload_n C hl 0 d_Reader_readLine_86 rfl rfl ?_
            obtain ⟨h18, e17, hM⟩ := bnd_some hM
            refine aftV C w (runV C w.1 w.2 kc_Reader sh_3 (Nat.le_of_ble_eq_true rfl) (c_Reader_readFasting hI e17) lk_Reader_159 mb_Reader_readFasting rfl ⟨Nat.le_of_ble_eq_true rfl, Nat.le_of_ble_eq_true rfl⟩ ⟨Nat.zero_le _, Nat.zero_le _⟩ (Nat.le_of_ble_eq_true rfl) d_Reader_readLine_87 hl.1 (rest := []) rfl) (fun H locs w => ?_)
            refine m_goto C 97 d_Reader_readLine_90 (by decide) ?_
            exact m_vretW C w hr hlk hM d_Reader_readLine_97
        · refine m_aload_n C hl 0 d_Reader_readLine_70 rfl rfl ?_
          obtain ⟨h20, e19, hM⟩ := bnd_some hM
          refine aftV C w (runV C w.1 w.2 kc_Reader sh_3 (Nat.le_of_ble_eq_true rfl) (c_Reader_readClosed hI e19) lk_Reader_154 mb_Reader_readClosed rfl ⟨Nat.le_of_ble_eq_true rfl, Nat.le_of_ble_eq_true rfl⟩ ⟨Nat.zero_le _, Nat.zero_le _⟩ (Nat.le_of_ble_eq_true rfl) d_Reader_readLine_71 hl.1 (rest := []) rfl) (fun H locs w => ?_)
          refine m_goto C 97 d_Reader_readLine_74 (by decide) ?_
          exact m_vretW C w hr hlk hM d_Reader_readLine_97
      · refine m_aload_n C hl 0 d_Reader_readLine_54 rfl rfl ?_
        obtain ⟨h22, e21, hM⟩ := bnd_some hM
        refine aftV C w (runV C w.1 w.2 kc_Reader sh_3 (Nat.le_of_ble_eq_true rfl) (c_Reader_readSeason hI e21) lk_Reader_149 mb_Reader_readSeason rfl ⟨Nat.le_of_ble_eq_true rfl, Nat.le_of_ble_eq_true rfl⟩ ⟨Nat.zero_le _, Nat.zero_le _⟩ (Nat.le_of_ble_eq_true rfl) d_Reader_readLine_55 hl.1 (rest := []) rfl) (fun H locs w => ?_)
        refine m_goto C 97 d_Reader_readLine_58 (by decide) ?_
        exact m_vretW C w hr hlk hM d_Reader_readLine_97
    · refine m_aload_n C hl 0 d_Reader_readLine_38 rfl rfl ?_
      obtain ⟨h24, e23, hM⟩ := bnd_some hM
      refine aftV C w (runV C w.1 w.2 kc_Reader sh_3 (Nat.le_of_ble_eq_true rfl) (c_Reader_readFeast hI e23) lk_Reader_144 mb_Reader_readFeast rfl ⟨Nat.le_of_ble_eq_true rfl, Nat.le_of_ble_eq_true rfl⟩ ⟨Nat.zero_le _, Nat.zero_le _⟩ (Nat.le_of_ble_eq_true rfl) d_Reader_readLine_39 hl.1 (rest := []) rfl) (fun H locs w => ?_)
      refine m_goto C 97 d_Reader_readLine_42 (by decide) ?_
      exact m_vretW C w hr hlk hM d_Reader_readLine_97
  refine m_icmp_ge C hM 25 d_Reader_readLine_18 (by decide) (fun hM => ?_) (fun hM => ?_)
  · refine m_iconst C d_Reader_readLine_25 ?_
    exact hJ4 0 hM _ hl
  · refine m_iconst C d_Reader_readLine_21 ?_
    refine m_goto C 26 d_Reader_readLine_22 (by decide) ?_
    exact hJ4 1 hM _ hl
def y_Reader_read : MethodName := ⟨"FeastBook$Reader", "read", "()I"⟩
theorem d_Reader_read_0 : decode prog_6_method_2_code 0 = .ok (.aload_n 0, 1) := by decide +kernel
theorem d_Reader_read_1 : decode prog_6_method_2_code 1 = .ok (.iconst 0, 1) := by decide +kernel
theorem d_Reader_read_2 : decode prog_6_method_2_code 2 = .ok (.putfield 22, 3) := by decide +kernel
theorem d_Reader_read_5 : decode prog_6_method_2_code 5 = .ok (.aload_n 0, 1) := by decide +kernel
theorem d_Reader_read_6 : decode prog_6_method_2_code 6 = .ok (.iconst 0, 1) := by decide +kernel
theorem d_Reader_read_7 : decode prog_6_method_2_code 7 = .ok (.putfield 26, 3) := by decide +kernel
theorem d_Reader_read_10 : decode prog_6_method_2_code 10 = .ok (.aload_n 0, 1) := by decide +kernel
theorem d_Reader_read_11 : decode prog_6_method_2_code 11 = .ok (.iconst (-1), 1) := by decide +kernel
theorem d_Reader_read_12 : decode prog_6_method_2_code 12 = .ok (.putfield 29, 3) := by decide +kernel
theorem d_Reader_read_15 : decode prog_6_method_2_code 15 = .ok (.aload_n 0, 1) := by decide +kernel
theorem d_Reader_read_16 : decode prog_6_method_2_code 16 = .ok (.iconst 0, 1) := by decide +kernel
theorem d_Reader_read_17 : decode prog_6_method_2_code 17 = .ok (.putfield 32, 3) := by decide +kernel
theorem d_Reader_read_20 : decode prog_6_method_2_code 20 = .ok (.aload_n 0, 1) := by decide +kernel
theorem d_Reader_read_21 : decode prog_6_method_2_code 21 = .ok (.iconst 0, 1) := by decide +kernel
theorem d_Reader_read_22 : decode prog_6_method_2_code 22 = .ok (.putfield 36, 3) := by decide +kernel
theorem d_Reader_read_25 : decode prog_6_method_2_code 25 = .ok (.aload_n 0, 1) := by decide +kernel
theorem d_Reader_read_26 : decode prog_6_method_2_code 26 = .ok (.iconst 0, 1) := by decide +kernel
theorem d_Reader_read_27 : decode prog_6_method_2_code 27 = .ok (.putfield 39, 3) := by decide +kernel
theorem d_Reader_read_30 : decode prog_6_method_2_code 30 = .ok (.aload_n 0, 1) := by decide +kernel
theorem d_Reader_read_31 : decode prog_6_method_2_code 31 = .ok (.getfield 12, 3) := by decide +kernel
theorem d_Reader_read_34 : decode prog_6_method_2_code 34 = .ok (.invokevirtual 42, 3) := by decide +kernel
theorem d_Reader_read_37 : decode prog_6_method_2_code 37 = .ok (.aload_n 0, 1) := by decide +kernel
theorem d_Reader_read_38 : decode prog_6_method_2_code 38 = .ok (.invokevirtual 45, 3) := by decide +kernel
theorem d_Reader_read_41 : decode prog_6_method_2_code 41 = .ok (.aload_n 0, 1) := by decide +kernel
theorem d_Reader_read_42 : decode prog_6_method_2_code 42 = .ok (.invokevirtual 48, 3) := by decide +kernel
theorem d_Reader_read_45 : decode prog_6_method_2_code 45 = .ok (.iconst 0, 1) := by decide +kernel
theorem d_Reader_read_46 : decode prog_6_method_2_code 46 = .ok (.istore_n 1, 1) := by decide +kernel
theorem d_Reader_read_47 : decode prog_6_method_2_code 47 = .ok (.iload_n 1, 1) := by decide +kernel
theorem d_Reader_read_48 : decode prog_6_method_2_code 48 = .ok (.bipush 24, 2) := by decide +kernel
theorem d_Reader_read_50 : decode prog_6_method_2_code 50 = .ok (.if_icmp .gt 21, 3) := by decide +kernel
theorem d_Reader_read_53 : decode prog_6_method_2_code 53 = .ok (.aload_n 0, 1) := by decide +kernel
theorem d_Reader_read_54 : decode prog_6_method_2_code 54 = .ok (.invokevirtual 51, 3) := by decide +kernel
theorem d_Reader_read_57 : decode prog_6_method_2_code 57 = .ok (.ifCond .eq 14, 3) := by decide +kernel
theorem d_Reader_read_60 : decode prog_6_method_2_code 60 = .ok (.aload_n 0, 1) := by decide +kernel
theorem d_Reader_read_61 : decode prog_6_method_2_code 61 = .ok (.iload_n 1, 1) := by decide +kernel
theorem d_Reader_read_62 : decode prog_6_method_2_code 62 = .ok (.invokevirtual 55, 3) := by decide +kernel
theorem d_Reader_read_65 : decode prog_6_method_2_code 65 = .ok (.iinc 1 1, 3) := by decide +kernel
theorem d_Reader_read_68 : decode prog_6_method_2_code 68 = .ok (.goto (-21), 3) := by decide +kernel
theorem d_Reader_read_71 : decode prog_6_method_2_code 71 = .ok (.aload_n 0, 1) := by decide +kernel
theorem d_Reader_read_72 : decode prog_6_method_2_code 72 = .ok (.getfield 12, 3) := by decide +kernel
theorem d_Reader_read_75 : decode prog_6_method_2_code 75 = .ok (.getfield 59, 3) := by decide +kernel
theorem d_Reader_read_78 : decode prog_6_method_2_code 78 = .ok (.invokevirtual 63, 3) := by decide +kernel
theorem d_Reader_read_81 : decode prog_6_method_2_code 81 = .ok (.aload_n 0, 1) := by decide +kernel
theorem d_Reader_read_82 : decode prog_6_method_2_code 82 = .ok (.getfield 12, 3) := by decide +kernel
theorem d_Reader_read_85 : decode prog_6_method_2_code 85 = .ok (.aload_n 0, 1) := by decide +kernel
theorem d_Reader_read_86 : decode prog_6_method_2_code 86 = .ok (.getfield 29, 3) := by decide +kernel
theorem d_Reader_read_89 : decode prog_6_method_2_code 89 = .ok (.iconst (-1), 1) := by decide +kernel
theorem d_Reader_read_90 : decode prog_6_method_2_code 90 = .ok (.if_icmp .ne 7, 3) := by decide +kernel
theorem d_Reader_read_93 : decode prog_6_method_2_code 93 = .ok (.iconst 1, 1) := by decide +kernel
theorem d_Reader_read_94 : decode prog_6_method_2_code 94 = .ok (.goto 4, 3) := by decide +kernel
theorem d_Reader_read_97 : decode prog_6_method_2_code 97 = .ok (.iconst 0, 1) := by decide +kernel
theorem d_Reader_read_98 : decode prog_6_method_2_code 98 = .ok (.putfield 68, 3) := by decide +kernel
theorem d_Reader_read_101 : decode prog_6_method_2_code 101 = .ok (.aload_n 0, 1) := by decide +kernel
theorem d_Reader_read_102 : decode prog_6_method_2_code 102 = .ok (.getfield 29, 3) := by decide +kernel
theorem d_Reader_read_105 : decode prog_6_method_2_code 105 = .ok (.ireturn, 1) := by decide +kernel
theorem mb_Book_clear : MBv R_Book y_Book_clear prog_2_method_2_code 1 none 0 := ⟨mT3 79 (by decide +kernel) (by decide +kernel), mT3 80 (by decide +kernel) (by decide +kernel), mT1 4 (by decide +kernel) (by decide +kernel), mT3 81 (by decide +kernel) (by decide +kernel), by decide, rfl, by decide +kernel, by decide +kernel, by decide +kernel⟩
theorem mb_Feasts_sortByClaim : MBv R_Feasts y_Feasts_sortByClaim prog_4_method_7_code 2 none 0 := ⟨mT4 11 (by decide +kernel) (by decide +kernel), mT4 12 (by decide +kernel) (by decide +kernel), mT1 6 (by decide +kernel) (by decide +kernel), mT4 13 (by decide +kernel) (by decide +kernel), by decide, rfl, by decide +kernel, by decide +kernel, by decide +kernel⟩
theorem mb_Reader_lineComes : MBv R_Reader y_Reader_lineComes prog_6_method_5_code 1 (some .boolean) 0 := ⟨mT3 184 (by decide +kernel) (by decide +kernel), mT3 185 (by decide +kernel) (by decide +kernel), mT1 3 (by decide +kernel) (by decide +kernel), mT3 186 (by decide +kernel) (by decide +kernel), by decide, rfl, by decide +kernel, by decide +kernel, by decide +kernel⟩
theorem mb_Reader_readLine : MBv R_Reader y_Reader_readLine prog_6_method_6_code 2 none 1 := ⟨mT3 188 (by decide +kernel) (by decide +kernel), mT3 189 (by decide +kernel) (by decide +kernel), mT1 3 (by decide +kernel) (by decide +kernel), mT3 190 (by decide +kernel) (by decide +kernel), by decide, rfl, by decide +kernel, by decide +kernel, by decide +kernel⟩
theorem mb_Reader_readMoon : MBv R_Reader y_Reader_readMoon prog_6_method_4_code 1 none 0 := ⟨mT3 175 (by decide +kernel) (by decide +kernel), mT3 176 (by decide +kernel) (by decide +kernel), mT1 3 (by decide +kernel) (by decide +kernel), mT3 177 (by decide +kernel) (by decide +kernel), by decide, rfl, by decide +kernel, by decide +kernel, by decide +kernel⟩
theorem mb_Reader_readYears : MBv R_Reader y_Reader_readYears prog_6_method_3_code 2 none 0 := ⟨mT3 83 (by decide +kernel) (by decide +kernel), mT3 84 (by decide +kernel) (by decide +kernel), mT1 3 (by decide +kernel) (by decide +kernel), mT3 85 (by decide +kernel) (by decide +kernel), by decide, rfl, by decide +kernel, by decide +kernel, by decide +kernel⟩
theorem fk_Reader_68 : Cond.fieldLink "FeastBook$Reader" 68 (T_Book 0).1 (T_Book 0).2.1 (T_Book 0).2.2.1 ∈ TT := mT1 153 (by decide +kernel) (by decide +kernel)
theorem lk_Reader_42 : Cond.methodLink "FeastBook$Reader" 42 y_Book_clear ∈ TT := mT3 78 (by decide +kernel) (by decide +kernel)
theorem lk_Reader_45 : Cond.methodLink "FeastBook$Reader" 45 y_Reader_readYears ∈ TT := mT3 82 (by decide +kernel) (by decide +kernel)
theorem lk_Reader_48 : Cond.methodLink "FeastBook$Reader" 48 y_Reader_readMoon ∈ TT := mT3 174 (by decide +kernel) (by decide +kernel)
theorem lk_Reader_51 : Cond.methodLink "FeastBook$Reader" 51 y_Reader_lineComes ∈ TT := mT3 183 (by decide +kernel) (by decide +kernel)
theorem lk_Reader_55 : Cond.methodLink "FeastBook$Reader" 55 y_Reader_readLine ∈ TT := mT3 187 (by decide +kernel) (by decide +kernel)
theorem lk_Reader_63 : Cond.methodLink "FeastBook$Reader" 63 y_Feasts_sortByClaim ∈ TT := mT4 10 (by decide +kernel) (by decide +kernel)
set_option maxHeartbeats 4000000 in
set_option maxRecDepth 100000 in
theorem w_Reader_read_L47 {p : Program} {l : Launch} {e : Env} {s : State} {m : MethodId} {args : Array Value} {below : List Frame} {meth : Method} {c : Code} {D : va_G} {ad : Nat → Nat} {cA : Nat → ClassId} {sd sv : Nat → Nat} {out : (Int × Hp)} (N : Nat) (hI : Inj97 ad) (C : Cx p s m args c prog_6_method_2_code 2 "FeastBook$Reader" D ad cA sd sv (FA ad)) (hr : meth.sig.returnType = (some .int)) (hlk : meth.locks = false) : ∀ (n : Nat) (v1 : Int) (h : Hp) (H : Heap) (locs : List Loc), Wd s D ad cA (FA ad) h H locs → ∀ ls : Array Slot, lv_has ls 2 [(0, .ref (ad 3)), (1, .int (iZ v1))] → Reader_read_L47 N n v1 h = some out → W p l e (rmD 8) s m args below meth c H locs 0 0 (MQ below (QI D ad cA out) args s 0 0 (FA ad)) (F0 m 47 ls []) := by
  intro n
  induction n with
  | zero =>
    intro v1 h H locs w ls hl hM
    rw [Reader_read_L47] at hM
    cases hM
  | succ n ih =>
    intro v1 h H locs w ls hl hM
    rw [Reader_read_L47] at hM
    refine m_iload_n C hl 1 d_Reader_read_47 rfl rfl ?_
    refine m_bipush C d_Reader_read_48 (by decide) ?_
    refine lt_join hM (fun j17 ej hM => ?_)
    have hJ17 : ∀ (h_17 : Hp), j17 h_17 = some out → ∀ (H : Heap) (locs : List Loc), Wd s D ad cA (FA ad) h_17 H locs → ∀ ls : Array Slot, lv_has ls 2 [(0, .ref (ad 3)), (1, .int (iZ v1))] → W p l e (rmD 8) s m args below meth c H locs 0 0 (MQ below (QI D ad cA out) args s 0 0 (FA ad)) (F0 m 71 ls []) := by
      intro h_17 hM H locs w ls hl
      subst ej
      dsimp only at hM
      refine m_aload_n C hl 0 d_Reader_read_71 rfl rfl ?_
      refine m_getr C w.1 kc_Reader sh_3 (Nat.le_of_ble_eq_true rfl) 1 4 rfl (by decide) fk_Reader_12 d_Reader_read_72 ?_
      refine m_getr C w.1 kc_Book sh_4 (Nat.le_of_ble_eq_true rfl) 17 14 rfl (by decide) fk_Reader_59 d_Reader_read_75 ?_
      obtain ⟨h19, e18, hM⟩ := bnd_some hM
      refine aftV C w (runV C w.1 w.2 kc_Feasts sh_14 (Nat.le_of_ble_eq_true rfl) (c_Feasts_sortByClaim hI (Or.inl rfl) e18) lk_Reader_63 mb_Feasts_sortByClaim rfl ⟨Nat.le_of_ble_eq_true rfl, Nat.le_of_ble_eq_true rfl⟩ ⟨Nat.zero_le _, Nat.zero_le _⟩ (Nat.le_of_ble_eq_true rfl) d_Reader_read_78 hl.1 (rest := []) rfl) (fun H locs w => ?_)
      refine m_aload_n C hl 0 d_Reader_read_81 rfl rfl ?_
      refine m_getr C w.1 kc_Reader sh_3 (Nat.le_of_ble_eq_true rfl) 1 4 rfl (by decide) fk_Reader_12 d_Reader_read_82 ?_
      refine m_aload_n C hl 0 d_Reader_read_85 rfl rfl ?_
      refine m_geti C w.1 kc_Reader sh_3 (Nat.le_of_ble_eq_true rfl) 4 rfl (by decide) fk_Reader_29 d_Reader_read_86 ?_
      refine m_iconst C d_Reader_read_89 ?_
      refine m_icmp_ne C hM 97 d_Reader_read_90 (by decide) (fun hM => ?_) (fun hM => ?_)
      · refine m_iconst C d_Reader_read_97 ?_
        refine m_putz C w kc_Book sh_4 (Nat.le_of_ble_eq_true rfl) 0 hM rfl (by decide) rfl rfl fk_Reader_68 d_Reader_read_98 (fun h20 H locs w hM => ?_)
        refine m_aload_n C hl 0 d_Reader_read_101 rfl rfl ?_
        refine m_geti C w.1 kc_Reader sh_3 (Nat.le_of_ble_eq_true rfl) 4 rfl (by decide) fk_Reader_29 d_Reader_read_102 ?_
        exact m_iretW C w hr hlk hM d_Reader_read_105
      · refine m_iconst C d_Reader_read_93 ?_
        refine m_goto C 98 d_Reader_read_94 (by decide) ?_
        refine m_putz C w kc_Book sh_4 (Nat.le_of_ble_eq_true rfl) 0 hM rfl (by decide) rfl rfl fk_Reader_68 d_Reader_read_98 (fun h21 H locs w hM => ?_)
        refine m_aload_n C hl 0 d_Reader_read_101 rfl rfl ?_
        refine m_geti C w.1 kc_Reader sh_3 (Nat.le_of_ble_eq_true rfl) 4 rfl (by decide) fk_Reader_29 d_Reader_read_102 ?_
        exact m_iretW C w hr hlk hM d_Reader_read_105
    refine m_icmp_gt C hM 71 d_Reader_read_50 (by decide) (fun hM => ?_) (fun hM => ?_)
    · exact hJ17 h hM _ _ w _ hl
    · refine m_aload_n C hl 0 d_Reader_read_53 rfl rfl ?_
      obtain ⟨q23, e22, hM⟩ := bnd_some hM
      refine aftI C w (runV C w.1 w.2 kc_Reader sh_3 (Nat.le_of_ble_eq_true rfl) (c_Reader_lineComes hI e22) lk_Reader_51 mb_Reader_lineComes rfl ⟨Nat.le_of_ble_eq_true rfl, Nat.le_of_ble_eq_true rfl⟩ ⟨Nat.zero_le _, Nat.zero_le _⟩ (Nat.le_of_ble_eq_true rfl) d_Reader_read_54 hl.1 (rest := []) rfl) (fun H locs w => ?_)
      refine m_if_eq C hM 71 d_Reader_read_57 (by decide) (fun hM => ?_) (fun hM => ?_)
      · exact hJ17 q23.2 hM _ _ w _ hl
      · refine m_aload_n C hl 0 d_Reader_read_60 rfl rfl ?_
        refine m_iload_n C hl 1 d_Reader_read_61 rfl rfl ?_
        obtain ⟨h25, e24, hM⟩ := bnd_some hM
        refine aftV C w (runV C w.1 w.2 kc_Reader sh_3 (Nat.le_of_ble_eq_true rfl) (c_Reader_readLine hI e24) lk_Reader_55 mb_Reader_readLine rfl ⟨Nat.le_of_ble_eq_true rfl, Nat.le_of_ble_eq_true rfl⟩ ⟨Nat.zero_le _, Nat.zero_le _⟩ (Nat.le_of_ble_eq_true rfl) d_Reader_read_62 hl.1 (rest := []) rfl) (fun H locs w => ?_)
        refine m_iinc C hl 1 [(1, .int (iZ (v1 + 1))), (0, .ref (ad 3))] d_Reader_read_65 rfl (by decide) rfl (fun ls hl => ?_)
        refine m_goto C 47 d_Reader_read_68 (by decide) ?_
        exact ih (v1 + 1) h25 _ _ w _ (lv_sub hl [1, 0] rfl) hM
set_option maxHeartbeats 4000000 in
set_option maxRecDepth 100000 in
theorem c_Reader_read {l : Launch} {D : va_G} {ad : Nat → Nat} {cA : Nat → ClassId} {sd sv : Nat → Nat} {h : Hp} {N : Nat} {out : (Int × Hp)} (hI : Inj97 ad) (hM : M_Reader_read N h = some out) : Met l y_Reader_read (.code y_Reader_read prog_6_method_2_code 2 (some .int) :: TT) (rmD 8) (PC D ad cA sd sv h [.ref (ad 3)]) (QI D ad cA out) 0 0 (FA ad) := by
  unfold M_Reader_read at hM
  refine entM (by decide +kernel) hI (Nat.le_of_ble_eq_true rfl) ?_
  intro p e s m args below meth c C hr hlk hP ls hl
  have C : Cx p s m args c prog_6_method_2_code 2 "FeastBook$Reader" D ad cA sd sv (FA ad) := C
  have hl : lv_has ls 2 [(0, .ref (ad 3))] := hl
  have w : Wd s D ad cA (FA ad) h s.heap [] := ⟨hP, va_S.rf⟩
  refine m_aload_n C hl 0 d_Reader_read_0 rfl rfl ?_
  refine m_iconst C d_Reader_read_1 ?_
  refine m_puti C w kc_Reader sh_3 (Nat.le_of_ble_eq_true rfl) 2 hM rfl (by decide) rfl rfl fk_Reader_22 d_Reader_read_2 (fun h1 H locs w hM => ?_)
  refine m_aload_n C hl 0 d_Reader_read_5 rfl rfl ?_
  refine m_iconst C d_Reader_read_6 ?_
  refine m_puti C w kc_Reader sh_3 (Nat.le_of_ble_eq_true rfl) 3 hM rfl (by decide) rfl rfl fk_Reader_26 d_Reader_read_7 (fun h2 H locs w hM => ?_)
  refine m_aload_n C hl 0 d_Reader_read_10 rfl rfl ?_
  refine m_iconst C d_Reader_read_11 ?_
  refine m_puti C w kc_Reader sh_3 (Nat.le_of_ble_eq_true rfl) 4 hM rfl (by decide) rfl rfl fk_Reader_29 d_Reader_read_12 (fun h3 H locs w hM => ?_)
  refine m_aload_n C hl 0 d_Reader_read_15 rfl rfl ?_
  refine m_iconst C d_Reader_read_16 ?_
  refine m_putz C w kc_Reader sh_3 (Nat.le_of_ble_eq_true rfl) 5 hM rfl (by decide) rfl rfl fk_Reader_32 d_Reader_read_17 (fun h4 H locs w hM => ?_)
  refine m_aload_n C hl 0 d_Reader_read_20 rfl rfl ?_
  refine m_iconst C d_Reader_read_21 ?_
  refine m_putz C w kc_Reader sh_3 (Nat.le_of_ble_eq_true rfl) 6 hM rfl (by decide) rfl rfl fk_Reader_36 d_Reader_read_22 (fun h5 H locs w hM => ?_)
  refine m_aload_n C hl 0 d_Reader_read_25 rfl rfl ?_
  refine m_iconst C d_Reader_read_26 ?_
  refine m_putz C w kc_Reader sh_3 (Nat.le_of_ble_eq_true rfl) 7 hM rfl (by decide) rfl rfl fk_Reader_39 d_Reader_read_27 (fun h6 H locs w hM => ?_)
  refine m_aload_n C hl 0 d_Reader_read_30 rfl rfl ?_
  refine m_getr C w.1 kc_Reader sh_3 (Nat.le_of_ble_eq_true rfl) 1 4 rfl (by decide) fk_Reader_12 d_Reader_read_31 ?_
  obtain ⟨h8, e7, hM⟩ := bnd_some hM
  refine aftV C w (runV C w.1 w.2 kc_Book sh_4 (Nat.le_of_ble_eq_true rfl) (c_Book_clear hI (Or.inl rfl) e7) lk_Reader_42 mb_Book_clear rfl ⟨Nat.le_of_ble_eq_true rfl, Nat.le_of_ble_eq_true rfl⟩ ⟨Nat.zero_le _, Nat.zero_le _⟩ (Nat.le_of_ble_eq_true rfl) d_Reader_read_34 hl.1 (rest := []) rfl) (fun H locs w => ?_)
  refine m_aload_n C hl 0 d_Reader_read_37 rfl rfl ?_
  obtain ⟨h10, e9, hM⟩ := bnd_some hM
  refine aftV C w (runV C w.1 w.2 kc_Reader sh_3 (Nat.le_of_ble_eq_true rfl) (c_Reader_readYears hI e9) lk_Reader_45 mb_Reader_readYears rfl ⟨Nat.le_of_ble_eq_true rfl, Nat.le_of_ble_eq_true rfl⟩ ⟨Nat.zero_le _, Nat.zero_le _⟩ (Nat.le_of_ble_eq_true rfl) d_Reader_read_38 hl.1 (rest := []) rfl) (fun H locs w => ?_)
  refine m_aload_n C hl 0 d_Reader_read_41 rfl rfl ?_
  obtain ⟨h12, e11, hM⟩ := bnd_some hM
  refine aftV C w (runV C w.1 w.2 kc_Reader sh_3 (Nat.le_of_ble_eq_true rfl) (c_Reader_readMoon hI e11) lk_Reader_48 mb_Reader_readMoon rfl ⟨Nat.le_of_ble_eq_true rfl, Nat.le_of_ble_eq_true rfl⟩ ⟨Nat.zero_le _, Nat.zero_le _⟩ (Nat.le_of_ble_eq_true rfl) d_Reader_read_42 hl.1 (rest := []) rfl) (fun H locs w => ?_)
  refine m_iconst C d_Reader_read_45 ?_
  refine m_istore_n C hl [(1, .int (iZ 0)), (0, .ref (ad 3))] d_Reader_read_46 rfl (by decide) rfl (fun ls hl => ?_)
  exact w_Reader_read_L47 N hI C hr hlk  _ 0 h12 _ _ w _ (lv_sub hl [1, 0] rfl) hM
def y_FB_settledYear : MethodName := ⟨"FeastBook", "settledYear", "(I)LFeastBook$YearPlan;"⟩
theorem d_FB_settledYear_0 : decode prog_1_method_52_code 0 = .ok (.aload_n 0, 1) := by decide +kernel
theorem d_FB_settledYear_1 : decode prog_1_method_52_code 1 = .ok (.getfield 47, 3) := by decide +kernel
theorem d_FB_settledYear_4 : decode prog_1_method_52_code 4 = .ok (.aload_n 0, 1) := by decide +kernel
theorem d_FB_settledYear_5 : decode prog_1_method_52_code 5 = .ok (.getfield 28, 3) := by decide +kernel
theorem d_FB_settledYear_8 : decode prog_1_method_52_code 8 = .ok (.iload_n 1, 1) := by decide +kernel
theorem d_FB_settledYear_9 : decode prog_1_method_52_code 9 = .ok (.invokevirtual 137, 3) := by decide +kernel
theorem d_FB_settledYear_12 : decode prog_1_method_52_code 12 = .ok (.invokevirtual 398, 3) := by decide +kernel
theorem d_FB_settledYear_15 : decode prog_1_method_52_code 15 = .ok (.aload_n 0, 1) := by decide +kernel
theorem d_FB_settledYear_16 : decode prog_1_method_52_code 16 = .ok (.getfield 47, 3) := by decide +kernel
theorem d_FB_settledYear_19 : decode prog_1_method_52_code 19 = .ok (.areturn, 1) := by decide +kernel
theorem lk_FB_137 : Cond.methodLink "FeastBook" 137 y_Book_sortOf ∈ TT := mT4 158 (by decide +kernel) (by decide +kernel)
theorem lk_FB_398 : Cond.methodLink "FeastBook" 398 y_YearPlan_settle ∈ TT := mT4 159 (by decide +kernel) (by decide +kernel)
set_option maxHeartbeats 4000000 in
set_option maxRecDepth 100000 in
theorem c_FB_settledYear {l : Launch} {D : va_G} {ad : Nat → Nat} {cA : Nat → ClassId} {sd sv : Nat → Nat} {h : Hp} {N : Nat} {a1 : Int} {out : Hp} (hI : Inj97 ad) (hM : M_FB_settledYear N h a1 = some out) : Met l y_FB_settledYear (.code y_FB_settledYear prog_1_method_52_code 2 (some (.object "FeastBook$YearPlan")) :: TT) (rmD 6) (PC D ad cA sd sv h [.ref (ad 0), .int (iZ a1)]) (QN D ad cA 66 out) 0 0 (FA ad) := by
  unfold M_FB_settledYear at hM
  refine entM (by decide +kernel) hI (Nat.le_of_ble_eq_true rfl) ?_
  intro p e s m args below meth c C hr hlk hP ls hl
  have C : Cx p s m args c prog_1_method_52_code 2 "FeastBook" D ad cA sd sv (FA ad) := C
  have hl : lv_has ls 2 [(0, .ref (ad 0)), (1, .int (iZ a1))] := hl
  have w : Wd s D ad cA (FA ad) h s.heap [] := ⟨hP, va_S.rf⟩
  refine m_aload_n C hl 0 d_FB_settledYear_0 rfl rfl ?_
  refine m_getr C w.1 kc_FB sh_0 (Nat.le_of_ble_eq_true rfl) 5 66 rfl (by decide) fk_FB_47 d_FB_settledYear_1 ?_
  refine m_aload_n C hl 0 d_FB_settledYear_4 rfl rfl ?_
  refine m_getr C w.1 kc_FB sh_0 (Nat.le_of_ble_eq_true rfl) 2 23 rfl (by decide) fk_FB_28 d_FB_settledYear_5 ?_
  refine m_iload_n C hl 1 d_FB_settledYear_8 rfl rfl ?_
  obtain ⟨x2, e1, hM⟩ := bnd_some hM
  refine aftR (runV C w.1 w.2 kc_Book sh_23 (Nat.le_of_ble_eq_true rfl) (c_Book_sortOf hI (Or.inr (Or.inl rfl)) e1) lk_FB_137 mb_Book_sortOf rfl ⟨Nat.le_of_ble_eq_true rfl, Nat.le_of_ble_eq_true rfl⟩ ⟨Nat.zero_le _, Nat.zero_le _⟩ (Nat.le_of_ble_eq_true rfl) d_FB_settledYear_9 hl.1 (rest := [.ref (ad 66)]) rfl) ?_
  obtain ⟨h4, e3, hM⟩ := bnd_some hM
  refine aftV C w (runV C w.1 w.2 kc_YearPlan sh_66 (Nat.le_of_ble_eq_true rfl) (c_YearPlan_settle hI e3) lk_FB_398 mb_YearPlan_settle rfl ⟨Nat.le_of_ble_eq_true rfl, Nat.le_of_ble_eq_true rfl⟩ ⟨Nat.zero_le _, Nat.zero_le _⟩ (Nat.le_of_ble_eq_true rfl) d_FB_settledYear_12 hl.1 (rest := []) rfl) (fun H locs w => ?_)
  refine m_aload_n C hl 0 d_FB_settledYear_15 rfl rfl ?_
  refine m_getr C w.1 kc_FB sh_0 (Nat.le_of_ble_eq_true rfl) 5 66 rfl (by decide) fk_FB_47 d_FB_settledYear_16 ?_
  exact m_aretW C w hr hlk hM d_FB_settledYear_19
def y_FB_forgetResults : MethodName := ⟨"FeastBook", "forgetResults", "()V"⟩
theorem d_FB_forgetResults_0 : decode prog_1_method_54_code 0 = .ok (.aload_n 0, 1) := by decide +kernel
theorem d_FB_forgetResults_1 : decode prog_1_method_54_code 1 = .ok (.getfield 47, 3) := by decide +kernel
theorem d_FB_forgetResults_4 : decode prog_1_method_54_code 4 = .ok (.invokevirtual 401, 3) := by decide +kernel
theorem d_FB_forgetResults_7 : decode prog_1_method_54_code 7 = .ok (.aload_n 0, 1) := by decide +kernel
theorem d_FB_forgetResults_8 : decode prog_1_method_54_code 8 = .ok (.getfield 56, 3) := by decide +kernel
theorem d_FB_forgetResults_11 : decode prog_1_method_54_code 11 = .ok (.invokevirtual 407, 3) := by decide +kernel
theorem d_FB_forgetResults_14 : decode prog_1_method_54_code 14 = .ok (.return_, 1) := by decide +kernel
theorem lk_FB_407 : Cond.methodLink "FeastBook" 407 y_Round_forget ∈ TT := mT6 209 (by decide +kernel) (by decide +kernel)
set_option maxHeartbeats 4000000 in
set_option maxRecDepth 100000 in
theorem c_FB_forgetResults {l : Launch} {D : va_G} {ad : Nat → Nat} {cA : Nat → ClassId} {sd sv : Nat → Nat} {h : Hp} {out : Hp} (hI : Inj97 ad) (hM : M_FB_forgetResults h = some out) : Met l y_FB_forgetResults (.code y_FB_forgetResults prog_1_method_54_code 1 none :: TT) (rmD 1) (PC D ad cA sd sv h [.ref (ad 0)]) (QV D ad cA out) 0 0 (FA ad) := by
  unfold M_FB_forgetResults at hM
  refine entM (by decide +kernel) hI (Nat.le_of_ble_eq_true rfl) ?_
  intro p e s m args below meth c C hr hlk hP ls hl
  have C : Cx p s m args c prog_1_method_54_code 1 "FeastBook" D ad cA sd sv (FA ad) := C
  have hl : lv_has ls 1 [(0, .ref (ad 0))] := hl
  have w : Wd s D ad cA (FA ad) h s.heap [] := ⟨hP, va_S.rf⟩
  refine m_aload_n C hl 0 d_FB_forgetResults_0 rfl rfl ?_
  refine m_getr C w.1 kc_FB sh_0 (Nat.le_of_ble_eq_true rfl) 5 66 rfl (by decide) fk_FB_47 d_FB_forgetResults_1 ?_
  obtain ⟨h2, e1, hM⟩ := bnd_some hM
  refine aftV C w (runV C w.1 w.2 kc_YearPlan sh_66 (Nat.le_of_ble_eq_true rfl) (c_YearPlan_forget hI e1) lk_FB_401 mb_YearPlan_forget rfl ⟨Nat.le_of_ble_eq_true rfl, Nat.le_of_ble_eq_true rfl⟩ ⟨Nat.zero_le _, Nat.zero_le _⟩ (Nat.le_of_ble_eq_true rfl) d_FB_forgetResults_4 hl.1 (rest := []) rfl) (fun H locs w => ?_)
  refine m_aload_n C hl 0 d_FB_forgetResults_7 rfl rfl ?_
  refine m_getr C w.1 kc_FB sh_0 (Nat.le_of_ble_eq_true rfl) 6 73 rfl (by decide) fk_FB_56 d_FB_forgetResults_8 ?_
  obtain ⟨h4, e3, hM⟩ := bnd_some hM
  refine aftV C w (runV C w.1 w.2 kc_Round sh_73 (Nat.le_of_ble_eq_true rfl) (c_Round_forget hI e3) lk_FB_407 mb_Round_forget rfl ⟨Nat.le_of_ble_eq_true rfl, Nat.le_of_ble_eq_true rfl⟩ ⟨Nat.zero_le _, Nat.zero_le _⟩ (Nat.le_of_ble_eq_true rfl) d_FB_forgetResults_11 hl.1 (rest := []) rfl) (fun H locs w => ?_)
  exact m_vretW C w hr hlk hM d_FB_forgetResults_14
def y_FB_tellRank : MethodName := ⟨"FeastBook", "tellRank", "(II)V"⟩
theorem d_FB_tellRank_0 : decode prog_1_method_55_code 0 = .ok (.aload_n 0, 1) := by decide +kernel
theorem d_FB_tellRank_1 : decode prog_1_method_55_code 1 = .ok (.getfield 28, 3) := by decide +kernel
theorem d_FB_tellRank_4 : decode prog_1_method_55_code 4 = .ok (.getfield 96, 3) := by decide +kernel
theorem d_FB_tellRank_7 : decode prog_1_method_55_code 7 = .ok (.getfield 189, 3) := by decide +kernel
theorem d_FB_tellRank_10 : decode prog_1_method_55_code 10 = .ok (.iload_n 1, 1) := by decide +kernel
theorem d_FB_tellRank_11 : decode prog_1_method_55_code 11 = .ok (.iload_n 2, 1) := by decide +kernel
theorem d_FB_tellRank_12 : decode prog_1_method_55_code 12 = .ok (.iastore, 1) := by decide +kernel
theorem d_FB_tellRank_13 : decode prog_1_method_55_code 13 = .ok (.aload_n 0, 1) := by decide +kernel
theorem d_FB_tellRank_14 : decode prog_1_method_55_code 14 = .ok (.getfield 28, 3) := by decide +kernel
theorem d_FB_tellRank_17 : decode prog_1_method_55_code 17 = .ok (.getfield 96, 3) := by decide +kernel
theorem d_FB_tellRank_20 : decode prog_1_method_55_code 20 = .ok (.invokevirtual 408, 3) := by decide +kernel
theorem d_FB_tellRank_23 : decode prog_1_method_55_code 23 = .ok (.aload_n 0, 1) := by decide +kernel
theorem d_FB_tellRank_24 : decode prog_1_method_55_code 24 = .ok (.invokevirtual 411, 3) := by decide +kernel
theorem d_FB_tellRank_27 : decode prog_1_method_55_code 27 = .ok (.return_, 1) := by decide +kernel
theorem mb_FB_forgetResults : MBv R_FB y_FB_forgetResults prog_1_method_54_code 1 none 0 := ⟨mT6 207 (by decide +kernel) (by decide +kernel), mTs 7 (by decide +kernel) (by decide +kernel), mT1 1 (by decide +kernel) (by decide +kernel), mT6 208 (by decide +kernel) (by decide +kernel), by decide, rfl, by decide +kernel, by decide +kernel, by decide +kernel⟩
theorem fk_FB_189 : Cond.fieldLink "FeastBook" 189 (T_Feasts 1).1 (T_Feasts 1).2.1 (T_Feasts 1).2.2.1 ∈ TT := mT1 106 (by decide +kernel) (by decide +kernel)
theorem lk_FB_408 : Cond.methodLink "FeastBook" 408 y_Feasts_sortByClaim ∈ TT := mT6 204 (by decide +kernel) (by decide +kernel)
theorem lk_FB_411 : Cond.methodLink "FeastBook" 411 y_FB_forgetResults ∈ TT := mT6 205 (by decide +kernel) (by decide +kernel)
set_option maxHeartbeats 4000000 in
set_option maxRecDepth 100000 in
theorem c_FB_tellRank {l : Launch} {D : va_G} {ad : Nat → Nat} {cA : Nat → ClassId} {sd sv : Nat → Nat} {h : Hp} {N : Nat} {a1 a2 : Int} {out : Hp} (hI : Inj97 ad) (hM : M_FB_tellRank N h a1 a2 = some out) : Met l y_FB_tellRank (.code y_FB_tellRank prog_1_method_55_code 3 none :: TT) (rmD 3) (PC D ad cA sd sv h [.ref (ad 0), .int (iZ a1), .int (iZ a2)]) (QV D ad cA out) 0 0 (FA ad) := by
  unfold M_FB_tellRank at hM
  refine entM (by decide +kernel) hI (Nat.le_of_ble_eq_true rfl) ?_
  intro p e s m args below meth c C hr hlk hP ls hl
  have C : Cx p s m args c prog_1_method_55_code 3 "FeastBook" D ad cA sd sv (FA ad) := C
  have hl : lv_has ls 3 [(0, .ref (ad 0)), (1, .int (iZ a1)), (2, .int (iZ a2))] := hl
  have w : Wd s D ad cA (FA ad) h s.heap [] := ⟨hP, va_S.rf⟩
  refine m_aload_n C hl 0 d_FB_tellRank_0 rfl rfl ?_
  refine m_getr C w.1 kc_FB sh_0 (Nat.le_of_ble_eq_true rfl) 2 23 rfl (by decide) fk_FB_28 d_FB_tellRank_1 ?_
  refine m_getr C w.1 kc_Book sh_23 (Nat.le_of_ble_eq_true rfl) 17 33 rfl (by decide) fk_FB_96 d_FB_tellRank_4 ?_
  refine m_getr C w.1 kc_Feasts sh_33 (Nat.le_of_ble_eq_true rfl) 1 34 rfl (by decide) fk_FB_189 d_FB_tellRank_7 ?_
  refine m_iload_n C hl 1 d_FB_tellRank_10 rfl rfl ?_
  refine m_iload_n C hl 2 d_FB_tellRank_11 rfl rfl ?_
  refine m_iast C w sh_34 (Nat.le_of_ble_eq_true rfl) (Nat.le_of_ble_eq_true rfl) hM d_FB_tellRank_12 (fun h1 H locs w hM => ?_)
  refine m_aload_n C hl 0 d_FB_tellRank_13 rfl rfl ?_
  refine m_getr C w.1 kc_FB sh_0 (Nat.le_of_ble_eq_true rfl) 2 23 rfl (by decide) fk_FB_28 d_FB_tellRank_14 ?_
  refine m_getr C w.1 kc_Book sh_23 (Nat.le_of_ble_eq_true rfl) 17 33 rfl (by decide) fk_FB_96 d_FB_tellRank_17 ?_
  obtain ⟨h3, e2, hM⟩ := bnd_some hM
  refine aftV C w (runV C w.1 w.2 kc_Feasts sh_33 (Nat.le_of_ble_eq_true rfl) (c_Feasts_sortByClaim hI (Or.inr (Or.inl rfl)) e2) lk_FB_408 mb_Feasts_sortByClaim rfl ⟨Nat.le_of_ble_eq_true rfl, Nat.le_of_ble_eq_true rfl⟩ ⟨Nat.zero_le _, Nat.zero_le _⟩ (Nat.le_of_ble_eq_true rfl) d_FB_tellRank_20 hl.1 (rest := []) rfl) (fun H locs w => ?_)
  refine m_aload_n C hl 0 d_FB_tellRank_23 rfl rfl ?_
  obtain ⟨h5, e4, hM⟩ := bnd_some hM
  refine aftV C w (runV C w.1 w.2 kc_FB sh_0 (Nat.le_of_ble_eq_true rfl) (c_FB_forgetResults hI e4) lk_FB_411 mb_FB_forgetResults rfl ⟨Nat.le_of_ble_eq_true rfl, Nat.le_of_ble_eq_true rfl⟩ ⟨Nat.zero_le _, Nat.zero_le _⟩ (Nat.le_of_ble_eq_true rfl) d_FB_tellRank_24 hl.1 (rest := []) rfl) (fun H locs w => ?_)
  exact m_vretW C w hr hlk hM d_FB_tellRank_27
def y_FB_tellLaw : MethodName := ⟨"FeastBook", "tellLaw", "(II)V"⟩
theorem d_FB_tellLaw_0 : decode prog_1_method_56_code 0 = .ok (.aload_n 0, 1) := by decide +kernel
theorem d_FB_tellLaw_1 : decode prog_1_method_56_code 1 = .ok (.getfield 28, 3) := by decide +kernel
theorem d_FB_tellLaw_4 : decode prog_1_method_56_code 4 = .ok (.getfield 96, 3) := by decide +kernel
theorem d_FB_tellLaw_7 : decode prog_1_method_56_code 7 = .ok (.getfield 201, 3) := by decide +kernel
theorem d_FB_tellLaw_10 : decode prog_1_method_56_code 10 = .ok (.iload_n 1, 1) := by decide +kernel
theorem d_FB_tellLaw_11 : decode prog_1_method_56_code 11 = .ok (.iload_n 2, 1) := by decide +kernel
theorem d_FB_tellLaw_12 : decode prog_1_method_56_code 12 = .ok (.iastore, 1) := by decide +kernel
theorem d_FB_tellLaw_13 : decode prog_1_method_56_code 13 = .ok (.aload_n 0, 1) := by decide +kernel
theorem d_FB_tellLaw_14 : decode prog_1_method_56_code 14 = .ok (.invokevirtual 411, 3) := by decide +kernel
theorem d_FB_tellLaw_17 : decode prog_1_method_56_code 17 = .ok (.return_, 1) := by decide +kernel
theorem fk_FB_201 : Cond.fieldLink "FeastBook" 201 (T_Feasts 4).1 (T_Feasts 4).2.1 (T_Feasts 4).2.2.1 ∈ TT := mT1 117 (by decide +kernel) (by decide +kernel)
set_option maxHeartbeats 4000000 in
set_option maxRecDepth 100000 in
theorem c_FB_tellLaw {l : Launch} {D : va_G} {ad : Nat → Nat} {cA : Nat → ClassId} {sd sv : Nat → Nat} {h : Hp} {a1 a2 : Int} {out : Hp} (hI : Inj97 ad) (hM : M_FB_tellLaw h a1 a2 = some out) : Met l y_FB_tellLaw (.code y_FB_tellLaw prog_1_method_56_code 3 none :: TT) (rmD 2) (PC D ad cA sd sv h [.ref (ad 0), .int (iZ a1), .int (iZ a2)]) (QV D ad cA out) 0 0 (FA ad) := by
  unfold M_FB_tellLaw at hM
  refine entM (by decide +kernel) hI (Nat.le_of_ble_eq_true rfl) ?_
  intro p e s m args below meth c C hr hlk hP ls hl
  have C : Cx p s m args c prog_1_method_56_code 3 "FeastBook" D ad cA sd sv (FA ad) := C
  have hl : lv_has ls 3 [(0, .ref (ad 0)), (1, .int (iZ a1)), (2, .int (iZ a2))] := hl
  have w : Wd s D ad cA (FA ad) h s.heap [] := ⟨hP, va_S.rf⟩
  refine m_aload_n C hl 0 d_FB_tellLaw_0 rfl rfl ?_
  refine m_getr C w.1 kc_FB sh_0 (Nat.le_of_ble_eq_true rfl) 2 23 rfl (by decide) fk_FB_28 d_FB_tellLaw_1 ?_
  refine m_getr C w.1 kc_Book sh_23 (Nat.le_of_ble_eq_true rfl) 17 33 rfl (by decide) fk_FB_96 d_FB_tellLaw_4 ?_
  refine m_getr C w.1 kc_Feasts sh_33 (Nat.le_of_ble_eq_true rfl) 4 37 rfl (by decide) fk_FB_201 d_FB_tellLaw_7 ?_
  refine m_iload_n C hl 1 d_FB_tellLaw_10 rfl rfl ?_
  refine m_iload_n C hl 2 d_FB_tellLaw_11 rfl rfl ?_
  refine m_iast C w sh_37 (Nat.le_of_ble_eq_true rfl) (Nat.le_of_ble_eq_true rfl) hM d_FB_tellLaw_12 (fun h1 H locs w hM => ?_)
  refine m_aload_n C hl 0 d_FB_tellLaw_13 rfl rfl ?_
  obtain ⟨h3, e2, hM⟩ := bnd_some hM
  refine aftV C w (runV C w.1 w.2 kc_FB sh_0 (Nat.le_of_ble_eq_true rfl) (c_FB_forgetResults hI e2) lk_FB_411 mb_FB_forgetResults rfl ⟨Nat.le_of_ble_eq_true rfl, Nat.le_of_ble_eq_true rfl⟩ ⟨Nat.zero_le _, Nat.zero_le _⟩ (Nat.le_of_ble_eq_true rfl) d_FB_tellLaw_14 hl.1 (rest := []) rfl) (fun H locs w => ?_)
  exact m_vretW C w hr hlk hM d_FB_tellLaw_17
def y_FB_tellDay : MethodName := ⟨"FeastBook", "tellDay", "(III)V"⟩
theorem d_FB_tellDay_0 : decode prog_1_method_57_code 0 = .ok (.aload_n 0, 1) := by decide +kernel
theorem d_FB_tellDay_1 : decode prog_1_method_57_code 1 = .ok (.getfield 28, 3) := by decide +kernel
theorem d_FB_tellDay_4 : decode prog_1_method_57_code 4 = .ok (.getfield 96, 3) := by decide +kernel
theorem d_FB_tellDay_7 : decode prog_1_method_57_code 7 = .ok (.getfield 195, 3) := by decide +kernel
theorem d_FB_tellDay_10 : decode prog_1_method_57_code 10 = .ok (.iload_n 1, 1) := by decide +kernel
theorem d_FB_tellDay_11 : decode prog_1_method_57_code 11 = .ok (.iload_n 2, 1) := by decide +kernel
theorem d_FB_tellDay_12 : decode prog_1_method_57_code 12 = .ok (.iastore, 1) := by decide +kernel
theorem d_FB_tellDay_13 : decode prog_1_method_57_code 13 = .ok (.aload_n 0, 1) := by decide +kernel
theorem d_FB_tellDay_14 : decode prog_1_method_57_code 14 = .ok (.getfield 28, 3) := by decide +kernel
theorem d_FB_tellDay_17 : decode prog_1_method_57_code 17 = .ok (.getfield 96, 3) := by decide +kernel
theorem d_FB_tellDay_20 : decode prog_1_method_57_code 20 = .ok (.getfield 198, 3) := by decide +kernel
theorem d_FB_tellDay_23 : decode prog_1_method_57_code 23 = .ok (.iload_n 1, 1) := by decide +kernel
theorem d_FB_tellDay_24 : decode prog_1_method_57_code 24 = .ok (.iload_n 3, 1) := by decide +kernel
theorem d_FB_tellDay_25 : decode prog_1_method_57_code 25 = .ok (.iastore, 1) := by decide +kernel
theorem d_FB_tellDay_26 : decode prog_1_method_57_code 26 = .ok (.aload_n 0, 1) := by decide +kernel
theorem d_FB_tellDay_27 : decode prog_1_method_57_code 27 = .ok (.invokevirtual 411, 3) := by decide +kernel
theorem d_FB_tellDay_30 : decode prog_1_method_57_code 30 = .ok (.return_, 1) := by decide +kernel
theorem fk_FB_195 : Cond.fieldLink "FeastBook" 195 (T_Feasts 2).1 (T_Feasts 2).2.1 (T_Feasts 2).2.2.1 ∈ TT := mT1 110 (by decide +kernel) (by decide +kernel)
theorem fk_FB_198 : Cond.fieldLink "FeastBook" 198 (T_Feasts 3).1 (T_Feasts 3).2.1 (T_Feasts 3).2.2.1 ∈ TT := mT1 114 (by decide +kernel) (by decide +kernel)
set_option maxHeartbeats 4000000 in
set_option maxRecDepth 100000 in
theorem c_FB_tellDay {l : Launch} {D : va_G} {ad : Nat → Nat} {cA : Nat → ClassId} {sd sv : Nat → Nat} {h : Hp} {a1 a2 a3 : Int} {out : Hp} (hI : Inj97 ad) (hM : M_FB_tellDay h a1 a2 a3 = some out) : Met l y_FB_tellDay (.code y_FB_tellDay prog_1_method_57_code 4 none :: TT) (rmD 2) (PC D ad cA sd sv h [.ref (ad 0), .int (iZ a1), .int (iZ a2), .int (iZ a3)]) (QV D ad cA out) 0 0 (FA ad) := by
  unfold M_FB_tellDay at hM
  refine entM (by decide +kernel) hI (Nat.le_of_ble_eq_true rfl) ?_
  intro p e s m args below meth c C hr hlk hP ls hl
  have C : Cx p s m args c prog_1_method_57_code 4 "FeastBook" D ad cA sd sv (FA ad) := C
  have hl : lv_has ls 4 [(0, .ref (ad 0)), (1, .int (iZ a1)), (2, .int (iZ a2)), (3, .int (iZ a3))] := hl
  have w : Wd s D ad cA (FA ad) h s.heap [] := ⟨hP, va_S.rf⟩
  refine m_aload_n C hl 0 d_FB_tellDay_0 rfl rfl ?_
  refine m_getr C w.1 kc_FB sh_0 (Nat.le_of_ble_eq_true rfl) 2 23 rfl (by decide) fk_FB_28 d_FB_tellDay_1 ?_
  refine m_getr C w.1 kc_Book sh_23 (Nat.le_of_ble_eq_true rfl) 17 33 rfl (by decide) fk_FB_96 d_FB_tellDay_4 ?_
  refine m_getr C w.1 kc_Feasts sh_33 (Nat.le_of_ble_eq_true rfl) 2 35 rfl (by decide) fk_FB_195 d_FB_tellDay_7 ?_
  refine m_iload_n C hl 1 d_FB_tellDay_10 rfl rfl ?_
  refine m_iload_n C hl 2 d_FB_tellDay_11 rfl rfl ?_
  refine m_iast C w sh_35 (Nat.le_of_ble_eq_true rfl) (Nat.le_of_ble_eq_true rfl) hM d_FB_tellDay_12 (fun h1 H locs w hM => ?_)
  refine m_aload_n C hl 0 d_FB_tellDay_13 rfl rfl ?_
  refine m_getr C w.1 kc_FB sh_0 (Nat.le_of_ble_eq_true rfl) 2 23 rfl (by decide) fk_FB_28 d_FB_tellDay_14 ?_
  refine m_getr C w.1 kc_Book sh_23 (Nat.le_of_ble_eq_true rfl) 17 33 rfl (by decide) fk_FB_96 d_FB_tellDay_17 ?_
  refine m_getr C w.1 kc_Feasts sh_33 (Nat.le_of_ble_eq_true rfl) 3 36 rfl (by decide) fk_FB_198 d_FB_tellDay_20 ?_
  refine m_iload_n C hl 1 d_FB_tellDay_23 rfl rfl ?_
  refine m_iload_n C hl 3 d_FB_tellDay_24 rfl rfl ?_
  refine m_iast C w sh_36 (Nat.le_of_ble_eq_true rfl) (Nat.le_of_ble_eq_true rfl) hM d_FB_tellDay_25 (fun h2 H locs w hM => ?_)
  refine m_aload_n C hl 0 d_FB_tellDay_26 rfl rfl ?_
  obtain ⟨h4, e3, hM⟩ := bnd_some hM
  refine aftV C w (runV C w.1 w.2 kc_FB sh_0 (Nat.le_of_ble_eq_true rfl) (c_FB_forgetResults hI e3) lk_FB_411 mb_FB_forgetResults rfl ⟨Nat.le_of_ble_eq_true rfl, Nat.le_of_ble_eq_true rfl⟩ ⟨Nat.zero_le _, Nat.zero_le _⟩ (Nat.le_of_ble_eq_true rfl) d_FB_tellDay_27 hl.1 (rest := []) rfl) (fun H locs w => ?_)
  exact m_vretW C w hr hlk hM d_FB_tellDay_30

def y_FB_tellReach : MethodName := ⟨"FeastBook", "tellReach", "(I)V"⟩
theorem d_FB_tellReach_0 : decode prog_1_method_58_code 0 = .ok (.aload_n 0, 1) := by decide +kernel
theorem d_FB_tellReach_1 : decode prog_1_method_58_code 1 = .ok (.getfield 28, 3) := by decide +kernel
theorem d_FB_tellReach_4 : decode prog_1_method_58_code 4 = .ok (.iload_n 1, 1) := by decide +kernel
theorem d_FB_tellReach_5 : decode prog_1_method_58_code 5 = .ok (.putfield 251, 3) := by decide +kernel
theorem d_FB_tellReach_8 : decode prog_1_method_58_code 8 = .ok (.aload_n 0, 1) := by decide +kernel
theorem d_FB_tellReach_9 : decode prog_1_method_58_code 9 = .ok (.invokevirtual 411, 3) := by decide +kernel
theorem d_FB_tellReach_12 : decode prog_1_method_58_code 12 = .ok (.return_, 1) := by decide +kernel
set_option maxHeartbeats 4000000 in
set_option maxRecDepth 100000 in
theorem c_FB_tellReach {l : Launch} {D : va_G} {ad : Nat → Nat} {cA : Nat → ClassId} {sd sv : Nat → Nat} {h : Hp} {a1 : Int} {out : Hp} (hI : Inj97 ad) (hM : M_FB_tellReach h a1 = some out) : Met l y_FB_tellReach (.code y_FB_tellReach prog_1_method_58_code 2 none :: TT) (rmD 2) (PC D ad cA sd sv h [.ref (ad 0), .int (iZ a1)]) (QV D ad cA out) 0 0 (FA ad) := by
  unfold M_FB_tellReach at hM
  refine entM (by decide +kernel) hI (Nat.le_of_ble_eq_true rfl) ?_
  intro p e s m args below meth c C hr hlk hP ls hl
  have C : Cx p s m args c prog_1_method_58_code 2 "FeastBook" D ad cA sd sv (FA ad) := C
  have hl : lv_has ls 2 [(0, .ref (ad 0)), (1, .int (iZ a1))] := hl
  have w : Wd s D ad cA (FA ad) h s.heap [] := ⟨hP, va_S.rf⟩
  refine m_aload_n C hl 0 d_FB_tellReach_0 rfl rfl ?_
  refine m_getr C w.1 kc_FB sh_0 (Nat.le_of_ble_eq_true rfl) 2 23 rfl (by decide) fk_FB_28 d_FB_tellReach_1 ?_
  refine m_iload_n C hl 1 d_FB_tellReach_4 rfl rfl ?_
  refine m_puti C w kc_Book sh_23 (Nat.le_of_ble_eq_true rfl) 10 hM rfl (by decide) rfl rfl fk_FB_251 d_FB_tellReach_5 (fun h1 H locs w hM => ?_)
  refine m_aload_n C hl 0 d_FB_tellReach_8 rfl rfl ?_
  obtain ⟨h3, e2, hM⟩ := bnd_some hM
  refine aftV C w (runV C w.1 w.2 kc_FB sh_0 (Nat.le_of_ble_eq_true rfl) (c_FB_forgetResults hI e2) lk_FB_411 mb_FB_forgetResults rfl ⟨Nat.le_of_ble_eq_true rfl, Nat.le_of_ble_eq_true rfl⟩ ⟨Nat.zero_le _, Nat.zero_le _⟩ (Nat.le_of_ble_eq_true rfl) d_FB_tellReach_9 hl.1 (rest := []) rfl) (fun H locs w => ?_)
  exact m_vretW C w hr hlk hM d_FB_tellReach_12
def y_FB_takeBack : MethodName := ⟨"FeastBook", "takeBack", "(I)V"⟩
theorem d_FB_takeBack_0 : decode prog_1_method_59_code 0 = .ok (.aload_n 0, 1) := by decide +kernel
theorem d_FB_takeBack_1 : decode prog_1_method_59_code 1 = .ok (.getfield 38, 3) := by decide +kernel
theorem d_FB_takeBack_4 : decode prog_1_method_59_code 4 = .ok (.getfield 414, 3) := by decide +kernel
theorem d_FB_takeBack_7 : decode prog_1_method_59_code 7 = .ok (.iload_n 1, 1) := by decide +kernel
theorem d_FB_takeBack_8 : decode prog_1_method_59_code 8 = .ok (.iaload, 1) := by decide +kernel
theorem d_FB_takeBack_9 : decode prog_1_method_59_code 9 = .ok (.istore_n 2, 1) := by decide +kernel
theorem d_FB_takeBack_10 : decode prog_1_method_59_code 10 = .ok (.aload_n 0, 1) := by decide +kernel
theorem d_FB_takeBack_11 : decode prog_1_method_59_code 11 = .ok (.getfield 38, 3) := by decide +kernel
theorem d_FB_takeBack_14 : decode prog_1_method_59_code 14 = .ok (.getfield 416, 3) := by decide +kernel
theorem d_FB_takeBack_17 : decode prog_1_method_59_code 17 = .ok (.iload_n 1, 1) := by decide +kernel
theorem d_FB_takeBack_18 : decode prog_1_method_59_code 18 = .ok (.iaload, 1) := by decide +kernel
theorem d_FB_takeBack_19 : decode prog_1_method_59_code 19 = .ok (.istore_n 3, 1) := by decide +kernel
theorem d_FB_takeBack_20 : decode prog_1_method_59_code 20 = .ok (.aload_n 0, 1) := by decide +kernel
theorem d_FB_takeBack_21 : decode prog_1_method_59_code 21 = .ok (.getfield 38, 3) := by decide +kernel
theorem d_FB_takeBack_24 : decode prog_1_method_59_code 24 = .ok (.getfield 419, 3) := by decide +kernel
theorem d_FB_takeBack_27 : decode prog_1_method_59_code 27 = .ok (.iload_n 1, 1) := by decide +kernel
theorem d_FB_takeBack_28 : decode prog_1_method_59_code 28 = .ok (.iaload, 1) := by decide +kernel
theorem d_FB_takeBack_29 : decode prog_1_method_59_code 29 = .ok (.tableswitch 63 0 2 #[27, 36, 45], 27) := by decide +kernel
theorem d_FB_takeBack_56 : decode prog_1_method_59_code 56 = .ok (.aload_n 0, 1) := by decide +kernel
theorem d_FB_takeBack_57 : decode prog_1_method_59_code 57 = .ok (.iload_n 2, 1) := by decide +kernel
theorem d_FB_takeBack_58 : decode prog_1_method_59_code 58 = .ok (.iload_n 3, 1) := by decide +kernel
theorem d_FB_takeBack_59 : decode prog_1_method_59_code 59 = .ok (.invokevirtual 233, 3) := by decide +kernel
theorem d_FB_takeBack_62 : decode prog_1_method_59_code 62 = .ok (.goto 35, 3) := by decide +kernel
theorem d_FB_takeBack_65 : decode prog_1_method_59_code 65 = .ok (.aload_n 0, 1) := by decide +kernel
theorem d_FB_takeBack_66 : decode prog_1_method_59_code 66 = .ok (.iload_n 2, 1) := by decide +kernel
theorem d_FB_takeBack_67 : decode prog_1_method_59_code 67 = .ok (.iload_n 3, 1) := by decide +kernel
theorem d_FB_takeBack_68 : decode prog_1_method_59_code 68 = .ok (.invokevirtual 236, 3) := by decide +kernel
theorem d_FB_takeBack_71 : decode prog_1_method_59_code 71 = .ok (.goto 26, 3) := by decide +kernel
theorem d_FB_takeBack_74 : decode prog_1_method_59_code 74 = .ok (.aload_n 0, 1) := by decide +kernel
theorem d_FB_takeBack_75 : decode prog_1_method_59_code 75 = .ok (.iload_n 2, 1) := by decide +kernel
theorem d_FB_takeBack_76 : decode prog_1_method_59_code 76 = .ok (.aload_n 0, 1) := by decide +kernel
theorem d_FB_takeBack_77 : decode prog_1_method_59_code 77 = .ok (.getfield 38, 3) := by decide +kernel
theorem d_FB_takeBack_80 : decode prog_1_method_59_code 80 = .ok (.getfield 422, 3) := by decide +kernel
theorem d_FB_takeBack_83 : decode prog_1_method_59_code 83 = .ok (.iload_n 1, 1) := by decide +kernel
theorem d_FB_takeBack_84 : decode prog_1_method_59_code 84 = .ok (.iaload, 1) := by decide +kernel
theorem d_FB_takeBack_85 : decode prog_1_method_59_code 85 = .ok (.iload_n 3, 1) := by decide +kernel
theorem d_FB_takeBack_86 : decode prog_1_method_59_code 86 = .ok (.invokevirtual 245, 3) := by decide +kernel
theorem d_FB_takeBack_89 : decode prog_1_method_59_code 89 = .ok (.goto 8, 3) := by decide +kernel
theorem d_FB_takeBack_92 : decode prog_1_method_59_code 92 = .ok (.aload_n 0, 1) := by decide +kernel
theorem d_FB_takeBack_93 : decode prog_1_method_59_code 93 = .ok (.iload_n 3, 1) := by decide +kernel
theorem d_FB_takeBack_94 : decode prog_1_method_59_code 94 = .ok (.invokevirtual 254, 3) := by decide +kernel
theorem d_FB_takeBack_97 : decode prog_1_method_59_code 97 = .ok (.return_, 1) := by decide +kernel
theorem mb_FB_tellDay : MBv R_FB y_FB_tellDay prog_1_method_57_code 4 none 3 := ⟨mT6 235 (by decide +kernel) (by decide +kernel), mTs 9 (by decide +kernel) (by decide +kernel), mT1 1 (by decide +kernel) (by decide +kernel), mT6 236 (by decide +kernel) (by decide +kernel), by decide, rfl, by decide +kernel, by decide +kernel, by decide +kernel⟩
theorem mb_FB_tellLaw : MBv R_FB y_FB_tellLaw prog_1_method_56_code 3 none 2 := ⟨mT6 219 (by decide +kernel) (by decide +kernel), mTs 8 (by decide +kernel) (by decide +kernel), mT1 1 (by decide +kernel) (by decide +kernel), mT6 220 (by decide +kernel) (by decide +kernel), by decide, rfl, by decide +kernel, by decide +kernel, by decide +kernel⟩
theorem mb_FB_tellRank : MBv R_FB y_FB_tellRank prog_1_method_55_code 3 none 2 := ⟨mT6 202 (by decide +kernel) (by decide +kernel), mTs 6 (by decide +kernel) (by decide +kernel), mT1 1 (by decide +kernel) (by decide +kernel), mT6 203 (by decide +kernel) (by decide +kernel), by decide, rfl, by decide +kernel, by decide +kernel, by decide +kernel⟩
theorem mb_FB_tellReach : MBv R_FB y_FB_tellReach prog_1_method_58_code 2 none 1 := ⟨mT7 27 (by decide +kernel) (by decide +kernel), mTs 11 (by decide +kernel) (by decide +kernel), mT1 1 (by decide +kernel) (by decide +kernel), mT7 28 (by decide +kernel) (by decide +kernel), by decide, rfl, by decide +kernel, by decide +kernel, by decide +kernel⟩
theorem fk_FB_414 : Cond.fieldLink "FeastBook" 414 (T_Past 2).1 (T_Past 2).2.1 (T_Past 2).2.2.1 ∈ TT := mT2 42 (by decide +kernel) (by decide +kernel)
theorem fk_FB_416 : Cond.fieldLink "FeastBook" 416 (T_Past 4).1 (T_Past 4).2.1 (T_Past 4).2.2.1 ∈ TT := mT2 46 (by decide +kernel) (by decide +kernel)
theorem fk_FB_419 : Cond.fieldLink "FeastBook" 419 (T_Past 1).1 (T_Past 1).2.1 (T_Past 1).2.2.1 ∈ TT := mT2 40 (by decide +kernel) (by decide +kernel)
theorem fk_FB_422 : Cond.fieldLink "FeastBook" 422 (T_Past 3).1 (T_Past 3).2.1 (T_Past 3).2.2.1 ∈ TT := mT2 44 (by decide +kernel) (by decide +kernel)
theorem lk_FB_233 : Cond.methodLink "FeastBook" 233 y_FB_tellRank ∈ TT := mT6 200 (by decide +kernel) (by decide +kernel)
theorem lk_FB_236 : Cond.methodLink "FeastBook" 236 y_FB_tellLaw ∈ TT := mT6 217 (by decide +kernel) (by decide +kernel)
theorem lk_FB_245 : Cond.methodLink "FeastBook" 245 y_FB_tellDay ∈ TT := mT6 233 (by decide +kernel) (by decide +kernel)
theorem lk_FB_254 : Cond.methodLink "FeastBook" 254 y_FB_tellReach ∈ TT := mT7 25 (by decide +kernel) (by decide +kernel)
set_option maxHeartbeats 4000000 in
set_option maxRecDepth 100000 in
theorem c_FB_takeBack {l : Launch} {D : va_G} {ad : Nat → Nat} {cA : Nat → ClassId} {sd sv : Nat → Nat} {h : Hp} {N : Nat} {a1 : Int} {out : Hp} (hI : Inj97 ad) (hM : M_FB_takeBack N h a1 = some out) : Met l y_FB_takeBack (.code y_FB_takeBack prog_1_method_59_code 4 none :: TT) (rmD 4) (PC D ad cA sd sv h [.ref (ad 0), .int (iZ a1)]) (QV D ad cA out) 0 0 (FA ad) := by
  unfold M_FB_takeBack at hM
  refine entM (by decide +kernel) hI (Nat.le_of_ble_eq_true rfl) ?_
  intro p e s m args below meth c C hr hlk hP ls hl
  have C : Cx p s m args c prog_1_method_59_code 4 "FeastBook" D ad cA sd sv (FA ad) := C
  have hl : lv_has ls 4 [(0, .ref (ad 0)), (1, .int (iZ a1))] := hl
  have w : Wd s D ad cA (FA ad) h s.heap [] := ⟨hP, va_S.rf⟩
  refine m_aload_n C hl 0 d_FB_takeBack_0 rfl rfl ?_
  refine m_getr C w.1 kc_FB sh_0 (Nat.le_of_ble_eq_true rfl) 4 61 rfl (by decide) fk_FB_38 d_FB_takeBack_1 ?_
  refine m_getr C w.1 kc_Past sh_61 (Nat.le_of_ble_eq_true rfl) 2 63 rfl (by decide) fk_FB_414 d_FB_takeBack_4 ?_
  refine m_iload_n C hl 1 d_FB_takeBack_7 rfl rfl ?_
  refine m_iald C w.1 sh_63 (Nat.le_of_ble_eq_true rfl) (Nat.le_of_ble_eq_true rfl) hM d_FB_takeBack_8 (fun x1 hM => ?_)
  refine m_istore_n C hl [(2, .int (iZ x1)), (0, .ref (ad 0)), (1, .int (iZ a1))] d_FB_takeBack_9 rfl (by decide) rfl (fun ls hl => ?_)
  refine m_aload_n C hl 1 d_FB_takeBack_10 rfl rfl ?_
  refine m_getr C w.1 kc_FB sh_0 (Nat.le_of_ble_eq_true rfl) 4 61 rfl (by decide) fk_FB_38 d_FB_takeBack_11 ?_
  refine m_getr C w.1 kc_Past sh_61 (Nat.le_of_ble_eq_true rfl) 4 65 rfl (by decide) fk_FB_416 d_FB_takeBack_14 ?_
  refine m_iload_n C hl 2 d_FB_takeBack_17 rfl rfl ?_
  refine m_iald C w.1 sh_65 (Nat.le_of_ble_eq_true rfl) (Nat.le_of_ble_eq_true rfl) hM d_FB_takeBack_18 (fun x2 hM => ?_)
  refine m_istore_n C hl [(3, .int (iZ x2)), (2, .int (iZ x1)), (0, .ref (ad 0)), (1, .int (iZ a1))] d_FB_takeBack_19 rfl (by decide) rfl (fun ls hl => ?_)
  refine m_aload_n C hl 2 d_FB_takeBack_20 rfl rfl ?_
  refine m_getr C w.1 kc_FB sh_0 (Nat.le_of_ble_eq_true rfl) 4 61 rfl (by decide) fk_FB_38 d_FB_takeBack_21 ?_
  refine m_getr C w.1 kc_Past sh_61 (Nat.le_of_ble_eq_true rfl) 1 62 rfl (by decide) fk_FB_419 d_FB_takeBack_24 ?_
  refine m_iload_n C hl 3 d_FB_takeBack_27 rfl rfl ?_
  refine m_iald C w.1 sh_62 (Nat.le_of_ble_eq_true rfl) (Nat.le_of_ble_eq_true rfl) hM d_FB_takeBack_28 (fun x3 hM => ?_)
  refine m_swc 0 hM (fun ek hM => ?_) (fun hn0 hM => ?_)
  · refine lv_tableIn C.1 C.2.1 d_FB_takeBack_29 (tgt := 56) (off := 27) (by rw [ek]; decide) (by rw [ek]; decide) (by rw [ek]; rfl) (by decide) ?_
    refine m_aload_n C hl 2 d_FB_takeBack_56 rfl rfl ?_
    refine m_iload_n C hl 1 d_FB_takeBack_57 rfl rfl ?_
    refine m_iload_n C hl 0 d_FB_takeBack_58 rfl rfl ?_
    obtain ⟨h5, e4, hM⟩ := bnd_some hM
    refine aftV C w (runV C w.1 w.2 kc_FB sh_0 (Nat.le_of_ble_eq_true rfl) (c_FB_tellRank hI e4) lk_FB_233 mb_FB_tellRank rfl ⟨Nat.le_of_ble_eq_true rfl, Nat.le_of_ble_eq_true rfl⟩ ⟨Nat.zero_le _, Nat.zero_le _⟩ (Nat.le_of_ble_eq_true rfl) d_FB_takeBack_59 hl.1 (rest := []) rfl) (fun H locs w => ?_)
    refine m_goto C 97 d_FB_takeBack_62 (by decide) ?_
    exact m_vretW C w hr hlk hM d_FB_takeBack_97
  · refine m_swc 1 hM (fun ek hM => ?_) (fun hn1 hM => ?_)
    · refine lv_tableIn C.1 C.2.1 d_FB_takeBack_29 (tgt := 65) (off := 36) (by rw [ek]; decide) (by rw [ek]; decide) (by rw [ek]; rfl) (by decide) ?_
      refine m_aload_n C hl 2 d_FB_takeBack_65 rfl rfl ?_
      refine m_iload_n C hl 1 d_FB_takeBack_66 rfl rfl ?_
      refine m_iload_n C hl 0 d_FB_takeBack_67 rfl rfl ?_
      obtain ⟨h7, e6, hM⟩ := bnd_some hM
      refine aftV C w (runV C w.1 w.2 kc_FB sh_0 (Nat.le_of_ble_eq_true rfl) (c_FB_tellLaw hI e6) lk_FB_236 mb_FB_tellLaw rfl ⟨Nat.le_of_ble_eq_true rfl, Nat.le_of_ble_eq_true rfl⟩ ⟨Nat.zero_le _, Nat.zero_le _⟩ (Nat.le_of_ble_eq_true rfl) d_FB_takeBack_68 hl.1 (rest := []) rfl) (fun H locs w => ?_)
      refine m_goto C 97 d_FB_takeBack_71 (by decide) ?_
      exact m_vretW C w hr hlk hM d_FB_takeBack_97
    · refine m_swc 2 hM (fun ek hM => ?_) (fun hn2 hM => ?_)
      · refine lv_tableIn C.1 C.2.1 d_FB_takeBack_29 (tgt := 74) (off := 45) (by rw [ek]; decide) (by rw [ek]; decide) (by rw [ek]; rfl) (by decide) ?_
        refine m_aload_n C hl 2 d_FB_takeBack_74 rfl rfl ?_
        refine m_iload_n C hl 1 d_FB_takeBack_75 rfl rfl ?_
        refine m_aload_n C hl 2 d_FB_takeBack_76 rfl rfl ?_
        refine m_getr C w.1 kc_FB sh_0 (Nat.le_of_ble_eq_true rfl) 4 61 rfl (by decide) fk_FB_38 d_FB_takeBack_77 ?_
        refine m_getr C w.1 kc_Past sh_61 (Nat.le_of_ble_eq_true rfl) 3 64 rfl (by decide) fk_FB_422 d_FB_takeBack_80 ?_
        refine m_iload_n C hl 3 d_FB_takeBack_83 rfl rfl ?_
        refine m_iald C w.1 sh_64 (Nat.le_of_ble_eq_true rfl) (Nat.le_of_ble_eq_true rfl) hM d_FB_takeBack_84 (fun x8 hM => ?_)
        refine m_iload_n C hl 0 d_FB_takeBack_85 rfl rfl ?_
        obtain ⟨h10, e9, hM⟩ := bnd_some hM
        refine aftV C w (runV C w.1 w.2 kc_FB sh_0 (Nat.le_of_ble_eq_true rfl) (c_FB_tellDay hI e9) lk_FB_245 mb_FB_tellDay rfl ⟨Nat.le_of_ble_eq_true rfl, Nat.le_of_ble_eq_true rfl⟩ ⟨Nat.zero_le _, Nat.zero_le _⟩ (Nat.le_of_ble_eq_true rfl) d_FB_takeBack_86 hl.1 (rest := []) rfl) (fun H locs w => ?_)
        refine m_goto C 97 d_FB_takeBack_89 (by decide) ?_
        exact m_vretW C w hr hlk hM d_FB_takeBack_97
      · refine lv_tableOut C.1 C.2.1 d_FB_takeBack_29 (tgt := 92) ?_ (by decide) ?_
        · have g0 := lv_neT hn0 (show (iZ 0).toInt = 0 from rfl); have g1 := lv_neT hn1 (show (iZ 1).toInt = 1 from rfl); have g2 := lv_neT hn2 (show (iZ 2).toInt = 2 from rfl); omega
        · refine m_aload_n C hl 2 d_FB_takeBack_92 rfl rfl ?_
          refine m_iload_n C hl 0 d_FB_takeBack_93 rfl rfl ?_
          obtain ⟨h12, e11, hM⟩ := bnd_some hM
          refine aftV C w (runV C w.1 w.2 kc_FB sh_0 (Nat.le_of_ble_eq_true rfl) (c_FB_tellReach hI e11) lk_FB_254 mb_FB_tellReach rfl ⟨Nat.le_of_ble_eq_true rfl, Nat.le_of_ble_eq_true rfl⟩ ⟨Nat.zero_le _, Nat.zero_le _⟩ (Nat.le_of_ble_eq_true rfl) d_FB_takeBack_94 hl.1 (rest := []) rfl) (fun H locs w => ?_)
          exact m_vretW C w hr hlk hM d_FB_takeBack_97

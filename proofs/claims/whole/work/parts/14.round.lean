def y_Round_forget : MethodName := ⟨"FeastBook$Round", "forget", "()V"⟩
theorem d_Round_forget_0 : decode prog_7_method_3_code 0 = .ok (.aload_n 0, 1) := by decide +kernel
theorem d_Round_forget_1 : decode prog_7_method_3_code 1 = .ok (.iconst 0, 1) := by decide +kernel
theorem d_Round_forget_2 : decode prog_7_method_3_code 2 = .ok (.putfield 79, 3) := by decide +kernel
theorem d_Round_forget_5 : decode prog_7_method_3_code 5 = .ok (.aload_n 0, 1) := by decide +kernel
theorem d_Round_forget_6 : decode prog_7_method_3_code 6 = .ok (.iconst 0, 1) := by decide +kernel
theorem d_Round_forget_7 : decode prog_7_method_3_code 7 = .ok (.putfield 82, 3) := by decide +kernel
theorem d_Round_forget_10 : decode prog_7_method_3_code 10 = .ok (.return_, 1) := by decide +kernel
theorem fk_Round_79 : Cond.fieldLink "FeastBook$Round" 79 (T_Round 6).1 (T_Round 6).2.1 (T_Round 6).2.2.1 ∈ TT := mT2 125 (by decide +kernel) (by decide +kernel)
theorem fk_Round_82 : Cond.fieldLink "FeastBook$Round" 82 (T_Round 7).1 (T_Round 7).2.1 (T_Round 7).2.2.1 ∈ TT := mT2 126 (by decide +kernel) (by decide +kernel)
set_option maxHeartbeats 4000000 in
set_option maxRecDepth 100000 in
theorem c_Round_forget {l : Launch} {D : va_G} {ad : Nat → Nat} {cA : Nat → ClassId} {sd sv : Nat → Nat} {h : Hp} {out : Hp} (hI : Inj97 ad) (hM : M_Round_forget h = some out) : Met l y_Round_forget (.code y_Round_forget prog_7_method_3_code 1 none :: TT) (rmD 0) (PC D ad cA sd sv h [.ref (ad 73)]) (QV D ad cA out) 0 0 (FA ad) := by
  unfold M_Round_forget at hM
  refine entM (by decide +kernel) hI (Nat.le_of_ble_eq_true rfl) ?_
  intro p e s m args below meth c C hr hlk hP ls hl
  have C : Cx p s m args c prog_7_method_3_code 1 "FeastBook$Round" D ad cA sd sv (FA ad) := C
  have hl : lv_has ls 1 [(0, .ref (ad 73))] := hl
  have w : Wd s D ad cA (FA ad) h s.heap [] := ⟨hP, va_S.rf⟩
  refine m_aload_n C hl 0 d_Round_forget_0 rfl rfl ?_
  refine m_iconst C d_Round_forget_1 ?_
  refine m_putz C w kc_Round sh_73 (Nat.le_of_ble_eq_true rfl) 6 hM rfl (by decide) rfl rfl fk_Round_79 d_Round_forget_2 (fun h1 H locs w hM => ?_)
  refine m_aload_n C hl 0 d_Round_forget_5 rfl rfl ?_
  refine m_iconst C d_Round_forget_6 ?_
  refine m_putz C w kc_Round sh_73 (Nat.le_of_ble_eq_true rfl) 7 hM rfl (by decide) rfl rfl fk_Round_82 d_Round_forget_7 (fun h2 H locs w hM => ?_)
  exact m_vretW C w hr hlk hM d_Round_forget_10
def y_Round_begin : MethodName := ⟨"FeastBook$Round", "begin", "()V"⟩
theorem d_Round_begin_0 : decode prog_7_method_2_code 0 = .ok (.aload_n 0, 1) := by decide +kernel
theorem d_Round_begin_1 : decode prog_7_method_2_code 1 = .ok (.invokevirtual 54, 3) := by decide +kernel
theorem d_Round_begin_4 : decode prog_7_method_2_code 4 = .ok (.aload_n 0, 1) := by decide +kernel
theorem d_Round_begin_5 : decode prog_7_method_2_code 5 = .ok (.getfield 9, 3) := by decide +kernel
theorem d_Round_begin_8 : decode prog_7_method_2_code 8 = .ok (.iconst 0, 1) := by decide +kernel
theorem d_Round_begin_9 : decode prog_7_method_2_code 9 = .ok (.invokestatic 57, 3) := by decide +kernel
theorem d_Round_begin_12 : decode prog_7_method_2_code 12 = .ok (.aload_n 0, 1) := by decide +kernel
theorem d_Round_begin_13 : decode prog_7_method_2_code 13 = .ok (.aload_n 0, 1) := by decide +kernel
theorem d_Round_begin_14 : decode prog_7_method_2_code 14 = .ok (.getfield 39, 3) := by decide +kernel
theorem d_Round_begin_17 : decode prog_7_method_2_code 17 = .ok (.getfield 63, 3) := by decide +kernel
theorem d_Round_begin_20 : decode prog_7_method_2_code 20 = .ok (.ifCond .eq 13, 3) := by decide +kernel
theorem d_Round_begin_23 : decode prog_7_method_2_code 23 = .ok (.aload_n 0, 1) := by decide +kernel
theorem d_Round_begin_24 : decode prog_7_method_2_code 24 = .ok (.getfield 39, 3) := by decide +kernel
theorem d_Round_begin_27 : decode prog_7_method_2_code 27 = .ok (.invokevirtual 67, 3) := by decide +kernel
theorem d_Round_begin_30 : decode prog_7_method_2_code 30 = .ok (.goto 4, 3) := by decide +kernel
theorem d_Round_begin_33 : decode prog_7_method_2_code 33 = .ok (.iconst 0, 1) := by decide +kernel
theorem d_Round_begin_34 : decode prog_7_method_2_code 34 = .ok (.putfield 71, 3) := by decide +kernel
theorem d_Round_begin_37 : decode prog_7_method_2_code 37 = .ok (.aload_n 0, 1) := by decide +kernel
theorem d_Round_begin_38 : decode prog_7_method_2_code 38 = .ok (.getfield 71, 3) := by decide +kernel
theorem d_Round_begin_41 : decode prog_7_method_2_code 41 = .ok (.iconst 1, 1) := by decide +kernel
theorem d_Round_begin_42 : decode prog_7_method_2_code 42 = .ok (.isub, 1) := by decide +kernel
theorem d_Round_begin_43 : decode prog_7_method_2_code 43 = .ok (.istore_n 1, 1) := by decide +kernel
theorem d_Round_begin_44 : decode prog_7_method_2_code 44 = .ok (.iload_n 1, 1) := by decide +kernel
theorem d_Round_begin_45 : decode prog_7_method_2_code 45 = .ok (.ifCond .lt 35, 3) := by decide +kernel
theorem d_Round_begin_48 : decode prog_7_method_2_code 48 = .ok (.aload_n 0, 1) := by decide +kernel
theorem d_Round_begin_49 : decode prog_7_method_2_code 49 = .ok (.getfield 39, 3) := by decide +kernel
theorem d_Round_begin_52 : decode prog_7_method_2_code 52 = .ok (.iload_n 1, 1) := by decide +kernel
theorem d_Round_begin_53 : decode prog_7_method_2_code 53 = .ok (.invokevirtual 75, 3) := by decide +kernel
theorem d_Round_begin_56 : decode prog_7_method_2_code 56 = .ok (.istore_n 2, 1) := by decide +kernel
theorem d_Round_begin_57 : decode prog_7_method_2_code 57 = .ok (.aload_n 0, 1) := by decide +kernel
theorem d_Round_begin_58 : decode prog_7_method_2_code 58 = .ok (.getfield 9, 3) := by decide +kernel
theorem d_Round_begin_61 : decode prog_7_method_2_code 61 = .ok (.iload_n 2, 1) := by decide +kernel
theorem d_Round_begin_62 : decode prog_7_method_2_code 62 = .ok (.dup2, 1) := by decide +kernel
theorem d_Round_begin_63 : decode prog_7_method_2_code 63 = .ok (.iaload, 1) := by decide +kernel
theorem d_Round_begin_64 : decode prog_7_method_2_code 64 = .ok (.iconst 1, 1) := by decide +kernel
theorem d_Round_begin_65 : decode prog_7_method_2_code 65 = .ok (.iadd, 1) := by decide +kernel
theorem d_Round_begin_66 : decode prog_7_method_2_code 66 = .ok (.iastore, 1) := by decide +kernel
theorem d_Round_begin_67 : decode prog_7_method_2_code 67 = .ok (.aload_n 0, 1) := by decide +kernel
theorem d_Round_begin_68 : decode prog_7_method_2_code 68 = .ok (.getfield 15, 3) := by decide +kernel
theorem d_Round_begin_71 : decode prog_7_method_2_code 71 = .ok (.iload_n 2, 1) := by decide +kernel
theorem d_Round_begin_72 : decode prog_7_method_2_code 72 = .ok (.iload_n 1, 1) := by decide +kernel
theorem d_Round_begin_73 : decode prog_7_method_2_code 73 = .ok (.iastore, 1) := by decide +kernel
theorem d_Round_begin_74 : decode prog_7_method_2_code 74 = .ok (.iinc 1 (-1), 3) := by decide +kernel
theorem d_Round_begin_77 : decode prog_7_method_2_code 77 = .ok (.goto (-33), 3) := by decide +kernel
theorem d_Round_begin_80 : decode prog_7_method_2_code 80 = .ok (.return_, 1) := by decide +kernel
theorem mb_Book_sortOf : MBv R_Book y_Book_sortOf prog_2_method_12_code 3 (some .int) 1 := ⟨mT3 37 (by decide +kernel) (by decide +kernel), mT3 38 (by decide +kernel) (by decide +kernel), mT1 4 (by decide +kernel) (by decide +kernel), mT3 39 (by decide +kernel) (by decide +kernel), by decide, rfl, by decide +kernel, by decide +kernel, by decide +kernel⟩
theorem mb_Book_yearsOfCycle : MBv R_Book y_Book_yearsOfCycle prog_2_method_20_code 3 (some .int) 0 := ⟨mT3 22 (by decide +kernel) (by decide +kernel), mT3 23 (by decide +kernel) (by decide +kernel), mT1 4 (by decide +kernel) (by decide +kernel), mT3 24 (by decide +kernel) (by decide +kernel), by decide, rfl, by decide +kernel, by decide +kernel, by decide +kernel⟩
theorem mb_Round_forget : MBv R_Round y_Round_forget prog_7_method_3_code 1 none 0 := ⟨mT3 15 (by decide +kernel) (by decide +kernel), mT3 16 (by decide +kernel) (by decide +kernel), mT1 9 (by decide +kernel) (by decide +kernel), mT3 17 (by decide +kernel) (by decide +kernel), by decide, rfl, by decide +kernel, by decide +kernel, by decide +kernel⟩
theorem mb_JA_fill_IIV : MBs y_JA_fill_IIV prog_37_method_103_code 4 none 2 := ⟨mT3 19 (by decide +kernel) (by decide +kernel), mT1 22 (by decide +kernel) (by decide +kernel), mT3 20 (by decide +kernel) (by decide +kernel), by decide, by decide +kernel, by decide +kernel, by decide +kernel⟩
theorem fk_Round_15 : Cond.fieldLink "FeastBook$Round" 15 (T_Round 5).1 (T_Round 5).2.1 (T_Round 5).2.2.1 ∈ TT := mT2 124 (by decide +kernel) (by decide +kernel)
theorem fk_Round_39 : Cond.fieldLink "FeastBook$Round" 39 (T_Round 0).1 (T_Round 0).2.1 (T_Round 0).2.2.1 ∈ TT := mT2 118 (by decide +kernel) (by decide +kernel)
theorem fk_Round_63 : Cond.fieldLink "FeastBook$Round" 63 (T_Book 0).1 (T_Book 0).2.1 (T_Book 0).2.2.1 ∈ TT := mT1 152 (by decide +kernel) (by decide +kernel)
theorem fk_Round_71 : Cond.fieldLink "FeastBook$Round" 71 (T_Round 3).1 (T_Round 3).2.1 (T_Round 3).2.2.1 ∈ TT := mT2 121 (by decide +kernel) (by decide +kernel)
theorem fk_Round_9 : Cond.fieldLink "FeastBook$Round" 9 (T_Round 4).1 (T_Round 4).2.1 (T_Round 4).2.2.1 ∈ TT := mT2 123 (by decide +kernel) (by decide +kernel)
theorem lk_Round_54 : Cond.methodLink "FeastBook$Round" 54 y_Round_forget ∈ TT := mT3 14 (by decide +kernel) (by decide +kernel)
theorem lk_Round_57 : Cond.methodLink "FeastBook$Round" 57 y_JA_fill_IIV ∈ TT := mT3 18 (by decide +kernel) (by decide +kernel)
theorem lk_Round_67 : Cond.methodLink "FeastBook$Round" 67 y_Book_yearsOfCycle ∈ TT := mT3 21 (by decide +kernel) (by decide +kernel)
theorem lk_Round_75 : Cond.methodLink "FeastBook$Round" 75 y_Book_sortOf ∈ TT := mT3 36 (by decide +kernel) (by decide +kernel)
set_option maxHeartbeats 4000000 in
set_option maxRecDepth 100000 in
theorem w_Round_begin_L44 {p : Program} {l : Launch} {e : Env} {s : State} {m : MethodId} {args : Array Value} {below : List Frame} {meth : Method} {c : Code} {D : va_G} {ad : Nat → Nat} {cA : Nat → ClassId} {sd sv : Nat → Nat} {out : Hp} (N : Nat) (hI : Inj97 ad) (C : Cx p s m args c prog_7_method_2_code 3 "FeastBook$Round" D ad cA sd sv (FA ad)) (hr : meth.sig.returnType = none) (hlk : meth.locks = false) : ∀ (n : Nat) (v1 : Int) (h : Hp) (H : Heap) (locs : List Loc), Wd s D ad cA (FA ad) h H locs → ∀ ls : Array Slot, lv_has ls 3 [(0, .ref (ad 73)), (1, .int (iZ v1))] → Round_begin_L44 N n v1 h = some out → W p l e (rmD 4) s m args below meth c H locs 0 0 (MQ below (QV D ad cA out) args s 0 0 (FA ad)) (F0 m 44 ls []) := by
  intro n
  induction n with
  | zero =>
    intro v1 h H locs w ls hl hM
    rw [Round_begin_L44] at hM
    cases hM
  | succ n ih =>
    intro v1 h H locs w ls hl hM
    rw [Round_begin_L44] at hM
    refine m_iload_n C hl 1 d_Round_begin_44 rfl rfl ?_
    refine m_if_lt C hM 80 d_Round_begin_45 (by decide) (fun hM => ?_) (fun hM => ?_)
    · exact m_vretW C w hr hlk hM d_Round_begin_80
    · refine m_aload_n C hl 0 d_Round_begin_48 rfl rfl ?_
      refine m_getr C w.1 kc_Round sh_73 (Nat.le_of_ble_eq_true rfl) 0 23 rfl (by decide) fk_Round_39 d_Round_begin_49 ?_
      refine m_iload_n C hl 1 d_Round_begin_52 rfl rfl ?_
      obtain ⟨x10, e9, hM⟩ := bnd_some hM
      refine aftR (runV C w.1 w.2 kc_Book sh_23 (Nat.le_of_ble_eq_true rfl) (c_Book_sortOf hI (Or.inr (Or.inl rfl)) e9) lk_Round_75 mb_Book_sortOf rfl ⟨Nat.le_of_ble_eq_true rfl, Nat.le_of_ble_eq_true rfl⟩ ⟨Nat.zero_le _, Nat.zero_le _⟩ (Nat.le_of_ble_eq_true rfl) d_Round_begin_53 hl.1 (rest := []) rfl) ?_
      refine m_istore_n C hl [(2, .int (iZ x10)), (0, .ref (ad 73)), (1, .int (iZ v1))] d_Round_begin_56 rfl (by decide) rfl (fun ls hl => ?_)
      refine m_aload_n C hl 1 d_Round_begin_57 rfl rfl ?_
      refine m_getr C w.1 kc_Round sh_73 (Nat.le_of_ble_eq_true rfl) 4 74 rfl (by decide) fk_Round_9 d_Round_begin_58 ?_
      refine m_iload_n C hl 0 d_Round_begin_61 rfl rfl ?_
      refine m_dup2 C d_Round_begin_62 rfl rfl ?_
      refine m_iald C w.1 sh_74 (Nat.le_of_ble_eq_true rfl) (Nat.le_of_ble_eq_true rfl) hM d_Round_begin_63 (fun x11 hM => ?_)
      refine m_iconst C d_Round_begin_64 ?_
      refine m_iadd C d_Round_begin_65 ?_
      refine m_iast C w sh_74 (Nat.le_of_ble_eq_true rfl) (Nat.le_of_ble_eq_true rfl) hM d_Round_begin_66 (fun h12 H locs w hM => ?_)
      refine m_aload_n C hl 1 d_Round_begin_67 rfl rfl ?_
      refine m_getr C w.1 kc_Round sh_73 (Nat.le_of_ble_eq_true rfl) 5 75 rfl (by decide) fk_Round_15 d_Round_begin_68 ?_
      refine m_iload_n C hl 0 d_Round_begin_71 rfl rfl ?_
      refine m_iload_n C hl 2 d_Round_begin_72 rfl rfl ?_
      refine m_iast C w sh_75 (Nat.le_of_ble_eq_true rfl) (Nat.le_of_ble_eq_true rfl) hM d_Round_begin_73 (fun h13 H locs w hM => ?_)
      refine m_iinc C hl 2 [(1, .int (iZ (v1 + (-1)))), (2, .int (iZ x10)), (0, .ref (ad 73))] d_Round_begin_74 rfl (by decide) rfl (fun ls hl => ?_)
      refine m_goto C 44 d_Round_begin_77 (by decide) ?_
      exact ih (v1 + (-1)) h13 _ _ w _ (lv_sub hl [2, 0] rfl) hM
set_option maxHeartbeats 4000000 in
set_option maxRecDepth 100000 in
theorem c_Round_begin {l : Launch} {D : va_G} {ad : Nat → Nat} {cA : Nat → ClassId} {sd sv : Nat → Nat} {h : Hp} {N : Nat} {out : Hp} (hI : Inj97 ad) (hM : M_Round_begin N h = some out) : Met l y_Round_begin (.code y_Round_begin prog_7_method_2_code 3 none :: TT) (rmD 4) (PC D ad cA sd sv h [.ref (ad 73)]) (QV D ad cA out) 0 0 (FA ad) := by
  unfold M_Round_begin at hM
  refine entM (by decide +kernel) hI (Nat.le_of_ble_eq_true rfl) ?_
  intro p e s m args below meth c C hr hlk hP ls hl
  have C : Cx p s m args c prog_7_method_2_code 3 "FeastBook$Round" D ad cA sd sv (FA ad) := C
  have hl : lv_has ls 3 [(0, .ref (ad 73))] := hl
  have w : Wd s D ad cA (FA ad) h s.heap [] := ⟨hP, va_S.rf⟩
  refine m_aload_n C hl 0 d_Round_begin_0 rfl rfl ?_
  obtain ⟨h2, e1, hM⟩ := bnd_some hM
  refine aftV C w (runV C w.1 w.2 kc_Round sh_73 (Nat.le_of_ble_eq_true rfl) (c_Round_forget hI e1) lk_Round_54 mb_Round_forget rfl ⟨Nat.le_of_ble_eq_true rfl, Nat.le_of_ble_eq_true rfl⟩ ⟨Nat.zero_le _, Nat.zero_le _⟩ (Nat.le_of_ble_eq_true rfl) d_Round_begin_1 hl.1 (rest := []) rfl) (fun H locs w => ?_)
  refine m_aload_n C hl 0 d_Round_begin_4 rfl rfl ?_
  refine m_getr C w.1 kc_Round sh_73 (Nat.le_of_ble_eq_true rfl) 4 74 rfl (by decide) fk_Round_9 d_Round_begin_5 ?_
  refine m_iconst C d_Round_begin_8 ?_
  obtain ⟨h4, e3, hM⟩ := bnd_some hM
  refine aftV C w (runS C w.1 w.2 (c_JA_fill_IIV hI ⟨sh_74, (Nat.le_of_ble_eq_true rfl), (Nat.le_of_ble_eq_true rfl)⟩ e3) lk_Round_57 mb_JA_fill_IIV rfl ⟨Nat.le_of_ble_eq_true rfl, Nat.le_of_ble_eq_true rfl⟩ ⟨Nat.zero_le _, Nat.zero_le _⟩ (Nat.le_of_ble_eq_true rfl) d_Round_begin_9 hl.1 (rest := []) rfl) (fun H locs w => ?_)
  refine m_aload_n C hl 0 d_Round_begin_12 rfl rfl ?_
  refine m_aload_n C hl 0 d_Round_begin_13 rfl rfl ?_
  refine m_getr C w.1 kc_Round sh_73 (Nat.le_of_ble_eq_true rfl) 0 23 rfl (by decide) fk_Round_39 d_Round_begin_14 ?_
  refine m_geti C w.1 kc_Book sh_23 (Nat.le_of_ble_eq_true rfl) 0 rfl (by decide) fk_Round_63 d_Round_begin_17 ?_
  refine lt_join hM (fun j7 ej hM => ?_)
  have hJ7 : ∀ (s0_7 : Int), j7 s0_7 = some out → ∀ ls : Array Slot, lv_has ls 3 [(0, .ref (ad 73))] → W p l e (rmD 4) s m args below meth c H locs 0 0 (MQ below (QV D ad cA out) args s 0 0 (FA ad)) (F0 m 34 ls [.int (iZ s0_7), .ref (ad 73)]) := by
    intro s0_7 hM ls hl
    subst ej
    dsimp only at hM
    refine m_puti C w kc_Round sh_73 (Nat.le_of_ble_eq_true rfl) 3 hM rfl (by decide) rfl rfl fk_Round_71 d_Round_begin_34 (fun h8 H locs w hM => ?_)
    refine m_aload_n C hl 0 d_Round_begin_37 rfl rfl ?_
    refine m_geti C w.1 kc_Round sh_73 (Nat.le_of_ble_eq_true rfl) 3 rfl (by decide) fk_Round_71 d_Round_begin_38 ?_
    refine m_iconst C d_Round_begin_41 ?_
    refine m_isub C d_Round_begin_42 ?_
    refine m_istore_n C hl [(1, .int (iZ ((h8 73 3) - 1))), (0, .ref (ad 73))] d_Round_begin_43 rfl (by decide) rfl (fun ls hl => ?_)
    exact w_Round_begin_L44 N hI C hr hlk  _ ((h8 73 3) - 1) h8 _ _ w _ (lv_sub hl [1, 0] rfl) hM
  refine m_if_eq C hM 33 d_Round_begin_20 (by decide) (fun hM => ?_) (fun hM => ?_)
  · refine m_iconst C d_Round_begin_33 ?_
    exact hJ7 0 hM _ hl
  · refine m_aload_n C hl 0 d_Round_begin_23 rfl rfl ?_
    refine m_getr C w.1 kc_Round sh_73 (Nat.le_of_ble_eq_true rfl) 0 23 rfl (by decide) fk_Round_39 d_Round_begin_24 ?_
    obtain ⟨x15, e14, hM⟩ := bnd_some hM
    refine aftR (runV C w.1 w.2 kc_Book sh_23 (Nat.le_of_ble_eq_true rfl) (c_Book_yearsOfCycle hI (Or.inr (Or.inl rfl)) e14) lk_Round_67 mb_Book_yearsOfCycle rfl ⟨Nat.le_of_ble_eq_true rfl, Nat.le_of_ble_eq_true rfl⟩ ⟨Nat.zero_le _, Nat.zero_le _⟩ (Nat.le_of_ble_eq_true rfl) d_Round_begin_27 hl.1 (rest := [.ref (ad 73)]) rfl) ?_
    refine m_goto C 34 d_Round_begin_30 (by decide) ?_
    exact hJ7 x15 hM _ hl
def y_Round_allSettled : MethodName := ⟨"FeastBook$Round", "allSettled", "()LFeastBook$Round;"⟩
theorem d_Round_allSettled_0 : decode prog_7_method_4_code 0 = .ok (.iconst 0, 1) := by decide +kernel
theorem d_Round_allSettled_1 : decode prog_7_method_4_code 1 = .ok (.istore_n 1, 1) := by decide +kernel
theorem d_Round_allSettled_2 : decode prog_7_method_4_code 2 = .ok (.iload_n 1, 1) := by decide +kernel
theorem d_Round_allSettled_3 : decode prog_7_method_4_code 3 = .ok (.bipush 80, 2) := by decide +kernel
theorem d_Round_allSettled_5 : decode prog_7_method_4_code 5 = .ok (.if_icmp .ge 96, 3) := by decide +kernel
theorem d_Round_allSettled_8 : decode prog_7_method_4_code 8 = .ok (.aload_n 0, 1) := by decide +kernel
theorem d_Round_allSettled_9 : decode prog_7_method_4_code 9 = .ok (.getfield 79, 3) := by decide +kernel
theorem d_Round_allSettled_12 : decode prog_7_method_4_code 12 = .ok (.ifCond .ne 89, 3) := by decide +kernel
theorem d_Round_allSettled_15 : decode prog_7_method_4_code 15 = .ok (.aload_n 0, 1) := by decide +kernel
theorem d_Round_allSettled_16 : decode prog_7_method_4_code 16 = .ok (.getfield 9, 3) := by decide +kernel
theorem d_Round_allSettled_19 : decode prog_7_method_4_code 19 = .ok (.iload_n 1, 1) := by decide +kernel
theorem d_Round_allSettled_20 : decode prog_7_method_4_code 20 = .ok (.iaload, 1) := by decide +kernel
theorem d_Round_allSettled_21 : decode prog_7_method_4_code 21 = .ok (.ifCond .le 74, 3) := by decide +kernel
theorem d_Round_allSettled_24 : decode prog_7_method_4_code 24 = .ok (.aload_n 0, 1) := by decide +kernel
theorem d_Round_allSettled_25 : decode prog_7_method_4_code 25 = .ok (.getfield 50, 3) := by decide +kernel
theorem d_Round_allSettled_28 : decode prog_7_method_4_code 28 = .ok (.iload_n 1, 1) := by decide +kernel
theorem d_Round_allSettled_29 : decode prog_7_method_4_code 29 = .ok (.invokevirtual 85, 3) := by decide +kernel
theorem d_Round_allSettled_32 : decode prog_7_method_4_code 32 = .ok (.aload_n 0, 1) := by decide +kernel
theorem d_Round_allSettled_33 : decode prog_7_method_4_code 33 = .ok (.getfield 50, 3) := by decide +kernel
theorem d_Round_allSettled_36 : decode prog_7_method_4_code 36 = .ok (.getfield 91, 3) := by decide +kernel
theorem d_Round_allSettled_39 : decode prog_7_method_4_code 39 = .ok (.iconst 0, 1) := by decide +kernel
theorem d_Round_allSettled_40 : decode prog_7_method_4_code 40 = .ok (.aload_n 0, 1) := by decide +kernel
theorem d_Round_allSettled_41 : decode prog_7_method_4_code 41 = .ok (.getfield 18, 3) := by decide +kernel
theorem d_Round_allSettled_44 : decode prog_7_method_4_code 44 = .ok (.iload_n 1, 1) := by decide +kernel
theorem d_Round_allSettled_45 : decode prog_7_method_4_code 45 = .ok (.bipush 12, 2) := by decide +kernel
theorem d_Round_allSettled_47 : decode prog_7_method_4_code 47 = .ok (.imul, 1) := by decide +kernel
theorem d_Round_allSettled_48 : decode prog_7_method_4_code 48 = .ok (.bipush 12, 2) := by decide +kernel
theorem d_Round_allSettled_50 : decode prog_7_method_4_code 50 = .ok (.invokestatic 94, 3) := by decide +kernel
theorem d_Round_allSettled_53 : decode prog_7_method_4_code 53 = .ok (.aload_n 0, 1) := by decide +kernel
theorem d_Round_allSettled_54 : decode prog_7_method_4_code 54 = .ok (.getfield 50, 3) := by decide +kernel
theorem d_Round_allSettled_57 : decode prog_7_method_4_code 57 = .ok (.getfield 100, 3) := by decide +kernel
theorem d_Round_allSettled_60 : decode prog_7_method_4_code 60 = .ok (.iconst 0, 1) := by decide +kernel
theorem d_Round_allSettled_61 : decode prog_7_method_4_code 61 = .ok (.aload_n 0, 1) := by decide +kernel
theorem d_Round_allSettled_62 : decode prog_7_method_4_code 62 = .ok (.getfield 21, 3) := by decide +kernel
theorem d_Round_allSettled_65 : decode prog_7_method_4_code 65 = .ok (.iload_n 1, 1) := by decide +kernel
theorem d_Round_allSettled_66 : decode prog_7_method_4_code 66 = .ok (.bipush 12, 2) := by decide +kernel
theorem d_Round_allSettled_68 : decode prog_7_method_4_code 68 = .ok (.imul, 1) := by decide +kernel
theorem d_Round_allSettled_69 : decode prog_7_method_4_code 69 = .ok (.bipush 12, 2) := by decide +kernel
theorem d_Round_allSettled_71 : decode prog_7_method_4_code 71 = .ok (.invokestatic 94, 3) := by decide +kernel
theorem d_Round_allSettled_74 : decode prog_7_method_4_code 74 = .ok (.aload_n 0, 1) := by decide +kernel
theorem d_Round_allSettled_75 : decode prog_7_method_4_code 75 = .ok (.getfield 50, 3) := by decide +kernel
theorem d_Round_allSettled_78 : decode prog_7_method_4_code 78 = .ok (.getfield 103, 3) := by decide +kernel
theorem d_Round_allSettled_81 : decode prog_7_method_4_code 81 = .ok (.iconst 0, 1) := by decide +kernel
theorem d_Round_allSettled_82 : decode prog_7_method_4_code 82 = .ok (.aload_n 0, 1) := by decide +kernel
theorem d_Round_allSettled_83 : decode prog_7_method_4_code 83 = .ok (.getfield 24, 3) := by decide +kernel
theorem d_Round_allSettled_86 : decode prog_7_method_4_code 86 = .ok (.iload_n 1, 1) := by decide +kernel
theorem d_Round_allSettled_87 : decode prog_7_method_4_code 87 = .ok (.bipush 12, 2) := by decide +kernel
theorem d_Round_allSettled_89 : decode prog_7_method_4_code 89 = .ok (.imul, 1) := by decide +kernel
theorem d_Round_allSettled_90 : decode prog_7_method_4_code 90 = .ok (.bipush 12, 2) := by decide +kernel
theorem d_Round_allSettled_92 : decode prog_7_method_4_code 92 = .ok (.invokestatic 94, 3) := by decide +kernel
theorem d_Round_allSettled_95 : decode prog_7_method_4_code 95 = .ok (.iinc 1 1, 3) := by decide +kernel
theorem d_Round_allSettled_98 : decode prog_7_method_4_code 98 = .ok (.goto (-96), 3) := by decide +kernel
theorem d_Round_allSettled_101 : decode prog_7_method_4_code 101 = .ok (.aload_n 0, 1) := by decide +kernel
theorem d_Round_allSettled_102 : decode prog_7_method_4_code 102 = .ok (.iconst 1, 1) := by decide +kernel
theorem d_Round_allSettled_103 : decode prog_7_method_4_code 103 = .ok (.putfield 79, 3) := by decide +kernel
theorem d_Round_allSettled_106 : decode prog_7_method_4_code 106 = .ok (.aload_n 0, 1) := by decide +kernel
theorem d_Round_allSettled_107 : decode prog_7_method_4_code 107 = .ok (.areturn, 1) := by decide +kernel
theorem mb_YearPlan_settle : MBv R_YearPlan y_YearPlan_settle prog_11_method_8_code 4 none 1 := ⟨mT4 160 (by decide +kernel) (by decide +kernel), mT4 161 (by decide +kernel) (by decide +kernel), mT1 8 (by decide +kernel) (by decide +kernel), mT4 162 (by decide +kernel) (by decide +kernel), by decide, rfl, by decide +kernel, by decide +kernel, by decide +kernel⟩
theorem fk_Round_100 : Cond.fieldLink "FeastBook$Round" 100 (T_YearPlan 10).1 (T_YearPlan 10).2.1 (T_YearPlan 10).2.2.1 ∈ TT := mT2 82 (by decide +kernel) (by decide +kernel)
theorem fk_Round_103 : Cond.fieldLink "FeastBook$Round" 103 (T_YearPlan 11).1 (T_YearPlan 11).2.1 (T_YearPlan 11).2.2.1 ∈ TT := mT2 85 (by decide +kernel) (by decide +kernel)
theorem fk_Round_18 : Cond.fieldLink "FeastBook$Round" 18 (T_Round 8).1 (T_Round 8).2.1 (T_Round 8).2.2.1 ∈ TT := mT2 127 (by decide +kernel) (by decide +kernel)
theorem fk_Round_21 : Cond.fieldLink "FeastBook$Round" 21 (T_Round 9).1 (T_Round 9).2.1 (T_Round 9).2.2.1 ∈ TT := mT2 128 (by decide +kernel) (by decide +kernel)
theorem fk_Round_24 : Cond.fieldLink "FeastBook$Round" 24 (T_Round 10).1 (T_Round 10).2.1 (T_Round 10).2.2.1 ∈ TT := mT2 129 (by decide +kernel) (by decide +kernel)
theorem fk_Round_50 : Cond.fieldLink "FeastBook$Round" 50 (T_Round 2).1 (T_Round 2).2.1 (T_Round 2).2.2.1 ∈ TT := mT2 120 (by decide +kernel) (by decide +kernel)
theorem fk_Round_91 : Cond.fieldLink "FeastBook$Round" 91 (T_YearPlan 8).1 (T_YearPlan 8).2.1 (T_YearPlan 8).2.2.1 ∈ TT := mT2 78 (by decide +kernel) (by decide +kernel)
theorem lk_Round_85 : Cond.methodLink "FeastBook$Round" 85 y_YearPlan_settle ∈ TT := mT7 59 (by decide +kernel) (by decide +kernel)
theorem lk_Round_94 : Cond.methodLink "FeastBook$Round" 94 arraycopyName ∈ TT := mT7 60 (by decide +kernel) (by decide +kernel)
set_option maxHeartbeats 4000000 in
set_option maxRecDepth 100000 in
theorem w_Round_allSettled_L2 {p : Program} {l : Launch} {e : Env} {s : State} {m : MethodId} {args : Array Value} {below : List Frame} {meth : Method} {c : Code} {D : va_G} {ad : Nat → Nat} {cA : Nat → ClassId} {sd sv : Nat → Nat} {out : Hp} (N : Nat) (hI : Inj97 ad) (C : Cx p s m args c prog_7_method_4_code 2 "FeastBook$Round" D ad cA sd sv (FA ad)) (hr : meth.sig.returnType = (some (.object "FeastBook$Round"))) (hlk : meth.locks = false) : ∀ (n : Nat) (v1 : Int) (h : Hp) (H : Heap) (locs : List Loc), Wd s D ad cA (FA ad) h H locs → ∀ ls : Array Slot, lv_has ls 2 [(0, .ref (ad 73)), (1, .int (iZ v1))] → Round_allSettled_L2 N n v1 h = some out → W p l e (rmD 6) s m args below meth c H locs 0 0 (MQ below (QN D ad cA 73 out) args s 0 0 (FA ad)) (F0 m 2 ls []) := by
  intro n
  induction n with
  | zero =>
    intro v1 h H locs w ls hl hM
    rw [Round_allSettled_L2] at hM
    cases hM
  | succ n ih =>
    intro v1 h H locs w ls hl hM
    rw [Round_allSettled_L2] at hM
    refine m_iload_n C hl 1 d_Round_allSettled_2 rfl rfl ?_
    refine m_bipush C d_Round_allSettled_3 (by decide) ?_
    refine m_icmp_ge C hM 101 d_Round_allSettled_5 (by decide) (fun hM => ?_) (fun hM => ?_)
    · refine m_aload_n C hl 0 d_Round_allSettled_101 rfl rfl ?_
      refine m_iconst C d_Round_allSettled_102 ?_
      refine m_putz C w kc_Round sh_73 (Nat.le_of_ble_eq_true rfl) 6 hM rfl (by decide) rfl rfl fk_Round_79 d_Round_allSettled_103 (fun h1 H locs w hM => ?_)
      refine m_aload_n C hl 0 d_Round_allSettled_106 rfl rfl ?_
      exact m_aretW C w hr hlk hM d_Round_allSettled_107
    · refine m_aload_n C hl 0 d_Round_allSettled_8 rfl rfl ?_
      refine m_geti C w.1 kc_Round sh_73 (Nat.le_of_ble_eq_true rfl) 6 rfl (by decide) fk_Round_79 d_Round_allSettled_9 ?_
      refine m_if_ne C hM 101 d_Round_allSettled_12 (by decide) (fun hM => ?_) (fun hM => ?_)
      · refine m_aload_n C hl 0 d_Round_allSettled_101 rfl rfl ?_
        refine m_iconst C d_Round_allSettled_102 ?_
        refine m_putz C w kc_Round sh_73 (Nat.le_of_ble_eq_true rfl) 6 hM rfl (by decide) rfl rfl fk_Round_79 d_Round_allSettled_103 (fun h2 H locs w hM => ?_)
        refine m_aload_n C hl 0 d_Round_allSettled_106 rfl rfl ?_
        exact m_aretW C w hr hlk hM d_Round_allSettled_107
      · refine m_aload_n C hl 0 d_Round_allSettled_15 rfl rfl ?_
        refine m_getr C w.1 kc_Round sh_73 (Nat.le_of_ble_eq_true rfl) 4 74 rfl (by decide) fk_Round_9 d_Round_allSettled_16 ?_
        refine m_iload_n C hl 1 d_Round_allSettled_19 rfl rfl ?_
        refine m_iald C w.1 sh_74 (Nat.le_of_ble_eq_true rfl) (Nat.le_of_ble_eq_true rfl) hM d_Round_allSettled_20 (fun x3 hM => ?_)
        refine m_if_le C hM 95 d_Round_allSettled_21 (by decide) (fun hM => ?_) (fun hM => ?_)
        · refine m_iinc C hl 1 [(1, .int (iZ (v1 + 1))), (0, .ref (ad 73))] d_Round_allSettled_95 rfl (by decide) rfl (fun ls hl => ?_)
          refine m_goto C 2 d_Round_allSettled_98 (by decide) ?_
          exact ih (v1 + 1) h _ _ w _ (lv_sub hl [1, 0] rfl) hM
        · refine m_aload_n C hl 0 d_Round_allSettled_24 rfl rfl ?_
          refine m_getr C w.1 kc_Round sh_73 (Nat.le_of_ble_eq_true rfl) 2 66 rfl (by decide) fk_Round_50 d_Round_allSettled_25 ?_
          refine m_iload_n C hl 1 d_Round_allSettled_28 rfl rfl ?_
          obtain ⟨h5, e4, hM⟩ := bnd_some hM
          refine aftV C w (runV C w.1 w.2 kc_YearPlan sh_66 (Nat.le_of_ble_eq_true rfl) (c_YearPlan_settle hI e4) lk_Round_85 mb_YearPlan_settle rfl ⟨Nat.le_of_ble_eq_true rfl, Nat.le_of_ble_eq_true rfl⟩ ⟨Nat.zero_le _, Nat.zero_le _⟩ (Nat.le_of_ble_eq_true rfl) d_Round_allSettled_29 hl.1 (rest := []) rfl) (fun H locs w => ?_)
          refine m_aload_n C hl 0 d_Round_allSettled_32 rfl rfl ?_
          refine m_getr C w.1 kc_Round sh_73 (Nat.le_of_ble_eq_true rfl) 2 66 rfl (by decide) fk_Round_50 d_Round_allSettled_33 ?_
          refine m_getr C w.1 kc_YearPlan sh_66 (Nat.le_of_ble_eq_true rfl) 8 69 rfl (by decide) fk_Round_91 d_Round_allSettled_36 ?_
          refine m_iconst C d_Round_allSettled_39 ?_
          refine m_aload_n C hl 0 d_Round_allSettled_40 rfl rfl ?_
          refine m_getr C w.1 kc_Round sh_73 (Nat.le_of_ble_eq_true rfl) 8 76 rfl (by decide) fk_Round_18 d_Round_allSettled_41 ?_
          refine m_iload_n C hl 1 d_Round_allSettled_44 rfl rfl ?_
          refine m_bipush C d_Round_allSettled_45 (by decide) ?_
          refine m_imul C d_Round_allSettled_47 ?_
          refine m_bipush C d_Round_allSettled_48 (by decide) ?_
          refine m_cpy C w sh_69 (Nat.le_of_ble_eq_true rfl) sh_76 (Nat.le_of_ble_eq_true rfl) (Nat.le_of_ble_eq_true rfl) (Nat.le_of_ble_eq_true rfl) hM lk_Round_94 hl.1 (Nat.le_of_ble_eq_true rfl) (Nat.le_of_ble_eq_true rfl) d_Round_allSettled_50 (fun h6 H locs w hM => ?_)
          refine m_aload_n C hl 0 d_Round_allSettled_53 rfl rfl ?_
          refine m_getr C w.1 kc_Round sh_73 (Nat.le_of_ble_eq_true rfl) 2 66 rfl (by decide) fk_Round_50 d_Round_allSettled_54 ?_
          refine m_getr C w.1 kc_YearPlan sh_66 (Nat.le_of_ble_eq_true rfl) 10 71 rfl (by decide) fk_Round_100 d_Round_allSettled_57 ?_
          refine m_iconst C d_Round_allSettled_60 ?_
          refine m_aload_n C hl 0 d_Round_allSettled_61 rfl rfl ?_
          refine m_getr C w.1 kc_Round sh_73 (Nat.le_of_ble_eq_true rfl) 9 77 rfl (by decide) fk_Round_21 d_Round_allSettled_62 ?_
          refine m_iload_n C hl 1 d_Round_allSettled_65 rfl rfl ?_
          refine m_bipush C d_Round_allSettled_66 (by decide) ?_
          refine m_imul C d_Round_allSettled_68 ?_
          refine m_bipush C d_Round_allSettled_69 (by decide) ?_
          refine m_cpy C w sh_71 (Nat.le_of_ble_eq_true rfl) sh_77 (Nat.le_of_ble_eq_true rfl) (Nat.le_of_ble_eq_true rfl) (Nat.le_of_ble_eq_true rfl) hM lk_Round_94 hl.1 (Nat.le_of_ble_eq_true rfl) (Nat.le_of_ble_eq_true rfl) d_Round_allSettled_71 (fun h7 H locs w hM => ?_)
          refine m_aload_n C hl 0 d_Round_allSettled_74 rfl rfl ?_
          refine m_getr C w.1 kc_Round sh_73 (Nat.le_of_ble_eq_true rfl) 2 66 rfl (by decide) fk_Round_50 d_Round_allSettled_75 ?_
          refine m_getr C w.1 kc_YearPlan sh_66 (Nat.le_of_ble_eq_true rfl) 11 72 rfl (by decide) fk_Round_103 d_Round_allSettled_78 ?_
          refine m_iconst C d_Round_allSettled_81 ?_
          refine m_aload_n C hl 0 d_Round_allSettled_82 rfl rfl ?_
          refine m_getr C w.1 kc_Round sh_73 (Nat.le_of_ble_eq_true rfl) 10 78 rfl (by decide) fk_Round_24 d_Round_allSettled_83 ?_
          refine m_iload_n C hl 1 d_Round_allSettled_86 rfl rfl ?_
          refine m_bipush C d_Round_allSettled_87 (by decide) ?_
          refine m_imul C d_Round_allSettled_89 ?_
          refine m_bipush C d_Round_allSettled_90 (by decide) ?_
          refine m_cpy C w sh_72 (Nat.le_of_ble_eq_true rfl) sh_78 (Nat.le_of_ble_eq_true rfl) (Nat.le_of_ble_eq_true rfl) (Nat.le_of_ble_eq_true rfl) hM lk_Round_94 hl.1 (Nat.le_of_ble_eq_true rfl) (Nat.le_of_ble_eq_true rfl) d_Round_allSettled_92 (fun h8 H locs w hM => ?_)
          refine m_iinc C hl 1 [(1, .int (iZ (v1 + 1))), (0, .ref (ad 73))] d_Round_allSettled_95 rfl (by decide) rfl (fun ls hl => ?_)
          refine m_goto C 2 d_Round_allSettled_98 (by decide) ?_
          exact ih (v1 + 1) h8 _ _ w _ (lv_sub hl [1, 0] rfl) hM
set_option maxHeartbeats 4000000 in
set_option maxRecDepth 100000 in
theorem c_Round_allSettled {l : Launch} {D : va_G} {ad : Nat → Nat} {cA : Nat → ClassId} {sd sv : Nat → Nat} {h : Hp} {N : Nat} {out : Hp} (hI : Inj97 ad) (hM : M_Round_allSettled N h = some out) : Met l y_Round_allSettled (.code y_Round_allSettled prog_7_method_4_code 2 (some (.object "FeastBook$Round")) :: TT) (rmD 6) (PC D ad cA sd sv h [.ref (ad 73)]) (QN D ad cA 73 out) 0 0 (FA ad) := by
  unfold M_Round_allSettled at hM
  refine entM (by decide +kernel) hI (Nat.le_of_ble_eq_true rfl) ?_
  intro p e s m args below meth c C hr hlk hP ls hl
  have C : Cx p s m args c prog_7_method_4_code 2 "FeastBook$Round" D ad cA sd sv (FA ad) := C
  have hl : lv_has ls 2 [(0, .ref (ad 73))] := hl
  have w : Wd s D ad cA (FA ad) h s.heap [] := ⟨hP, va_S.rf⟩
  refine m_iconst C d_Round_allSettled_0 ?_
  refine m_istore_n C hl [(1, .int (iZ 0)), (0, .ref (ad 73))] d_Round_allSettled_1 rfl (by decide) rfl (fun ls hl => ?_)
  exact w_Round_allSettled_L2 N hI C hr hlk  _ 0 h _ _ w _ (lv_sub hl [1, 0] rfl) hM
def y_Round_earlier : MethodName := ⟨"FeastBook$Round", "earlier", "(II)I"⟩
theorem d_Round_earlier_0 : decode prog_7_method_6_code 0 = .ok (.iload_n 1, 1) := by decide +kernel
theorem d_Round_earlier_1 : decode prog_7_method_6_code 1 = .ok (.iconst (-1), 1) := by decide +kernel
theorem d_Round_earlier_2 : decode prog_7_method_6_code 2 = .ok (.if_icmp .eq 13, 3) := by decide +kernel
theorem d_Round_earlier_5 : decode prog_7_method_6_code 5 = .ok (.aload_n 0, 1) := by decide +kernel
theorem d_Round_earlier_6 : decode prog_7_method_6_code 6 = .ok (.getfield 15, 3) := by decide +kernel
theorem d_Round_earlier_9 : decode prog_7_method_6_code 9 = .ok (.iload_n 2, 1) := by decide +kernel
theorem d_Round_earlier_10 : decode prog_7_method_6_code 10 = .ok (.iaload, 1) := by decide +kernel
theorem d_Round_earlier_11 : decode prog_7_method_6_code 11 = .ok (.iload_n 1, 1) := by decide +kernel
theorem d_Round_earlier_12 : decode prog_7_method_6_code 12 = .ok (.if_icmp .ge 12, 3) := by decide +kernel
theorem d_Round_earlier_15 : decode prog_7_method_6_code 15 = .ok (.aload_n 0, 1) := by decide +kernel
theorem d_Round_earlier_16 : decode prog_7_method_6_code 16 = .ok (.getfield 15, 3) := by decide +kernel
theorem d_Round_earlier_19 : decode prog_7_method_6_code 19 = .ok (.iload_n 2, 1) := by decide +kernel
theorem d_Round_earlier_20 : decode prog_7_method_6_code 20 = .ok (.iaload, 1) := by decide +kernel
theorem d_Round_earlier_21 : decode prog_7_method_6_code 21 = .ok (.goto 4, 3) := by decide +kernel
theorem d_Round_earlier_24 : decode prog_7_method_6_code 24 = .ok (.iload_n 1, 1) := by decide +kernel
theorem d_Round_earlier_25 : decode prog_7_method_6_code 25 = .ok (.ireturn, 1) := by decide +kernel
set_option maxHeartbeats 4000000 in
set_option maxRecDepth 100000 in
theorem c_Round_earlier {l : Launch} {D : va_G} {ad : Nat → Nat} {cA : Nat → ClassId} {sd sv : Nat → Nat} {h : Hp} {a1 a2 : Int} {out : Int} (hI : Inj97 ad) (hM : M_Round_earlier h a1 a2 = some out) : Met l y_Round_earlier (.code y_Round_earlier prog_7_method_6_code 3 (some .int) :: TT) (rmD 0) (PC D ad cA sd sv h [.ref (ad 73), .int (iZ a1), .int (iZ a2)]) (QR out) 0 0 (fun _ => False) := by
  unfold M_Round_earlier at hM
  refine entM (by decide +kernel) hI (Nat.le_of_ble_eq_true rfl) ?_
  intro p e s m args below meth c C hr hlk hP ls hl
  have C : Cx p s m args c prog_7_method_6_code 3 "FeastBook$Round" D ad cA sd sv (FA ad) := C
  have hl : lv_has ls 3 [(0, .ref (ad 73)), (1, .int (iZ a1)), (2, .int (iZ a2))] := hl
  refine m_iload_n C hl 1 d_Round_earlier_0 rfl rfl ?_
  refine m_iconst C d_Round_earlier_1 ?_
  refine m_icmp_eq C hM 15 d_Round_earlier_2 (by decide) (fun hM => ?_) (fun hM => ?_)
  · refine m_aload_n C hl 0 d_Round_earlier_15 rfl rfl ?_
    refine m_getr C hP kc_Round sh_73 (Nat.le_of_ble_eq_true rfl) 5 75 rfl (by decide) fk_Round_15 d_Round_earlier_16 ?_
    refine m_iload_n C hl 2 d_Round_earlier_19 rfl rfl ?_
    refine m_iald C hP sh_75 (Nat.le_of_ble_eq_true rfl) (Nat.le_of_ble_eq_true rfl) hM d_Round_earlier_20 (fun x1 hM => ?_)
    refine m_goto C 25 d_Round_earlier_21 (by decide) ?_
    exact m_iretR C hr hlk hM d_Round_earlier_25
  · refine m_aload_n C hl 0 d_Round_earlier_5 rfl rfl ?_
    refine m_getr C hP kc_Round sh_73 (Nat.le_of_ble_eq_true rfl) 5 75 rfl (by decide) fk_Round_15 d_Round_earlier_6 ?_
    refine m_iload_n C hl 2 d_Round_earlier_9 rfl rfl ?_
    refine m_iald C hP sh_75 (Nat.le_of_ble_eq_true rfl) (Nat.le_of_ble_eq_true rfl) hM d_Round_earlier_10 (fun x2 hM => ?_)
    refine m_iload_n C hl 1 d_Round_earlier_11 rfl rfl ?_
    refine m_icmp_ge C hM 24 d_Round_earlier_12 (by decide) (fun hM => ?_) (fun hM => ?_)
    · refine m_iload_n C hl 1 d_Round_earlier_24 rfl rfl ?_
      exact m_iretR C hr hlk hM d_Round_earlier_25
    · refine m_aload_n C hl 0 d_Round_earlier_15 rfl rfl ?_
      refine m_getr C hP kc_Round sh_73 (Nat.le_of_ble_eq_true rfl) 5 75 rfl (by decide) fk_Round_15 d_Round_earlier_16 ?_
      refine m_iload_n C hl 2 d_Round_earlier_19 rfl rfl ?_
      refine m_iald C hP sh_75 (Nat.le_of_ble_eq_true rfl) (Nat.le_of_ble_eq_true rfl) hM d_Round_earlier_20 (fun x3 hM => ?_)
      refine m_goto C 25 d_Round_earlier_21 (by decide) ?_
      exact m_iretR C hr hlk hM d_Round_earlier_25
def y_Round_firstWith : MethodName := ⟨"FeastBook$Round", "firstWith", "(II)I"⟩
theorem d_Round_firstWith_0 : decode prog_7_method_8_code 0 = .ok (.iconst (-1), 1) := by decide +kernel
theorem d_Round_firstWith_1 : decode prog_7_method_8_code 1 = .ok (.istore_n 3, 1) := by decide +kernel
theorem d_Round_firstWith_2 : decode prog_7_method_8_code 2 = .ok (.iconst 0, 1) := by decide +kernel
theorem d_Round_firstWith_3 : decode prog_7_method_8_code 3 = .ok (.istore 4, 2) := by decide +kernel
theorem d_Round_firstWith_5 : decode prog_7_method_8_code 5 = .ok (.iload 4, 2) := by decide +kernel
theorem d_Round_firstWith_7 : decode prog_7_method_8_code 7 = .ok (.bipush 80, 2) := by decide +kernel
theorem d_Round_firstWith_9 : decode prog_7_method_8_code 9 = .ok (.if_icmp .ge 43, 3) := by decide +kernel
theorem d_Round_firstWith_12 : decode prog_7_method_8_code 12 = .ok (.aload_n 0, 1) := by decide +kernel
theorem d_Round_firstWith_13 : decode prog_7_method_8_code 13 = .ok (.getfield 9, 3) := by decide +kernel
theorem d_Round_firstWith_16 : decode prog_7_method_8_code 16 = .ok (.iload 4, 2) := by decide +kernel
theorem d_Round_firstWith_18 : decode prog_7_method_8_code 18 = .ok (.iaload, 1) := by decide +kernel
theorem d_Round_firstWith_19 : decode prog_7_method_8_code 19 = .ok (.ifCond .le 27, 3) := by decide +kernel
theorem d_Round_firstWith_22 : decode prog_7_method_8_code 22 = .ok (.aload_n 0, 1) := by decide +kernel
theorem d_Round_firstWith_23 : decode prog_7_method_8_code 23 = .ok (.getfield 24, 3) := by decide +kernel
theorem d_Round_firstWith_26 : decode prog_7_method_8_code 26 = .ok (.iload 4, 2) := by decide +kernel
theorem d_Round_firstWith_28 : decode prog_7_method_8_code 28 = .ok (.bipush 12, 2) := by decide +kernel
theorem d_Round_firstWith_30 : decode prog_7_method_8_code 30 = .ok (.imul, 1) := by decide +kernel
theorem d_Round_firstWith_31 : decode prog_7_method_8_code 31 = .ok (.iload_n 1, 1) := by decide +kernel
theorem d_Round_firstWith_32 : decode prog_7_method_8_code 32 = .ok (.iadd, 1) := by decide +kernel
theorem d_Round_firstWith_33 : decode prog_7_method_8_code 33 = .ok (.iaload, 1) := by decide +kernel
theorem d_Round_firstWith_34 : decode prog_7_method_8_code 34 = .ok (.iload_n 2, 1) := by decide +kernel
theorem d_Round_firstWith_35 : decode prog_7_method_8_code 35 = .ok (.if_icmp .ne 11, 3) := by decide +kernel
theorem d_Round_firstWith_38 : decode prog_7_method_8_code 38 = .ok (.aload_n 0, 1) := by decide +kernel
theorem d_Round_firstWith_39 : decode prog_7_method_8_code 39 = .ok (.iload_n 3, 1) := by decide +kernel
theorem d_Round_firstWith_40 : decode prog_7_method_8_code 40 = .ok (.iload 4, 2) := by decide +kernel
theorem d_Round_firstWith_42 : decode prog_7_method_8_code 42 = .ok (.invokevirtual 118, 3) := by decide +kernel
theorem d_Round_firstWith_45 : decode prog_7_method_8_code 45 = .ok (.istore_n 3, 1) := by decide +kernel
theorem d_Round_firstWith_46 : decode prog_7_method_8_code 46 = .ok (.iinc 4 1, 3) := by decide +kernel
theorem d_Round_firstWith_49 : decode prog_7_method_8_code 49 = .ok (.goto (-44), 3) := by decide +kernel
theorem d_Round_firstWith_52 : decode prog_7_method_8_code 52 = .ok (.iload_n 3, 1) := by decide +kernel
theorem d_Round_firstWith_53 : decode prog_7_method_8_code 53 = .ok (.ireturn, 1) := by decide +kernel
theorem mb_Round_earlier : MBv R_Round y_Round_earlier prog_7_method_6_code 3 (some .int) 2 := ⟨mT7 66 (by decide +kernel) (by decide +kernel), mT7 67 (by decide +kernel) (by decide +kernel), mT1 9 (by decide +kernel) (by decide +kernel), mT7 68 (by decide +kernel) (by decide +kernel), by decide, rfl, by decide +kernel, by decide +kernel, by decide +kernel⟩
theorem lk_Round_118 : Cond.methodLink "FeastBook$Round" 118 y_Round_earlier ∈ TT := mT7 65 (by decide +kernel) (by decide +kernel)
set_option maxHeartbeats 4000000 in
set_option maxRecDepth 100000 in
theorem w_Round_firstWith_L5 {p : Program} {l : Launch} {e : Env} {s : State} {m : MethodId} {args : Array Value} {below : List Frame} {meth : Method} {c : Code} {D : va_G} {ad : Nat → Nat} {cA : Nat → ClassId} {sd sv : Nat → Nat} {out : Int} (N : Nat) (hI : Inj97 ad) (C : Cx p s m args c prog_7_method_8_code 5 "FeastBook$Round" D ad cA sd sv (FA ad)) (hr : meth.sig.returnType = (some .int)) (hlk : meth.locks = false) (v1 v2 : Int) (h : Hp) (hP : va_P D clL (wl ad cA h) s.heap) : ∀ (n : Nat) (v3 v4 : Int), ∀ ls : Array Slot, lv_has ls 5 [(0, .ref (ad 73)), (1, .int (iZ v1)), (2, .int (iZ v2)), (3, .int (iZ v3)), (4, .int (iZ v4))] → Round_firstWith_L5 N h v1 v2 n v3 v4 = some out → W p l e (rmD 1) s m args below meth c s.heap [] 0 0 (MQ below (QR out) args s 0 0 (fun _ => False)) (F0 m 5 ls []) := by
  intro n
  induction n with
  | zero =>
    intro v3 v4 ls hl hM
    rw [Round_firstWith_L5] at hM
    cases hM
  | succ n ih =>
    intro v3 v4 ls hl hM
    rw [Round_firstWith_L5] at hM
    refine m_iload C hl 4 d_Round_firstWith_5 rfl ?_
    refine m_bipush C d_Round_firstWith_7 (by decide) ?_
    refine m_icmp_ge C hM 52 d_Round_firstWith_9 (by decide) (fun hM => ?_) (fun hM => ?_)
    · refine m_iload_n C hl 3 d_Round_firstWith_52 rfl rfl ?_
      exact m_iretR C hr hlk hM d_Round_firstWith_53
    · refine m_aload_n C hl 0 d_Round_firstWith_12 rfl rfl ?_
      refine m_getr C hP kc_Round sh_73 (Nat.le_of_ble_eq_true rfl) 4 74 rfl (by decide) fk_Round_9 d_Round_firstWith_13 ?_
      refine m_iload C hl 4 d_Round_firstWith_16 rfl ?_
      refine m_iald C hP sh_74 (Nat.le_of_ble_eq_true rfl) (Nat.le_of_ble_eq_true rfl) hM d_Round_firstWith_18 (fun x1 hM => ?_)
      refine m_if_le C hM 46 d_Round_firstWith_19 (by decide) (fun hM => ?_) (fun hM => ?_)
      · refine m_iinc C hl 4 [(4, .int (iZ (v4 + 1))), (0, .ref (ad 73)), (1, .int (iZ v1)), (2, .int (iZ v2)), (3, .int (iZ v3))] d_Round_firstWith_46 rfl (by decide) rfl (fun ls hl => ?_)
        refine m_goto C 5 d_Round_firstWith_49 (by decide) ?_
        exact ih v3 (v4 + 1) _ (lv_sub hl [1, 2, 3, 4, 0] rfl) hM
      · refine m_aload_n C hl 0 d_Round_firstWith_22 rfl rfl ?_
        refine m_getr C hP kc_Round sh_73 (Nat.le_of_ble_eq_true rfl) 10 78 rfl (by decide) fk_Round_24 d_Round_firstWith_23 ?_
        refine m_iload C hl 4 d_Round_firstWith_26 rfl ?_
        refine m_bipush C d_Round_firstWith_28 (by decide) ?_
        refine m_imul C d_Round_firstWith_30 ?_
        refine m_iload_n C hl 1 d_Round_firstWith_31 rfl rfl ?_
        refine m_iadd C d_Round_firstWith_32 ?_
        refine m_iald C hP sh_78 (Nat.le_of_ble_eq_true rfl) (Nat.le_of_ble_eq_true rfl) hM d_Round_firstWith_33 (fun x2 hM => ?_)
        refine m_iload_n C hl 2 d_Round_firstWith_34 rfl rfl ?_
        refine m_icmp_ne C hM 46 d_Round_firstWith_35 (by decide) (fun hM => ?_) (fun hM => ?_)
        · refine m_iinc C hl 4 [(4, .int (iZ (v4 + 1))), (0, .ref (ad 73)), (1, .int (iZ v1)), (2, .int (iZ v2)), (3, .int (iZ v3))] d_Round_firstWith_46 rfl (by decide) rfl (fun ls hl => ?_)
          refine m_goto C 5 d_Round_firstWith_49 (by decide) ?_
          exact ih v3 (v4 + 1) _ (lv_sub hl [1, 2, 3, 4, 0] rfl) hM
        · refine m_aload_n C hl 0 d_Round_firstWith_38 rfl rfl ?_
          refine m_iload_n C hl 3 d_Round_firstWith_39 rfl rfl ?_
          refine m_iload C hl 4 d_Round_firstWith_40 rfl ?_
          obtain ⟨x4, e3, hM⟩ := bnd_some hM
          refine aftR (runV C hP va_S.rf kc_Round sh_73 (Nat.le_of_ble_eq_true rfl) (c_Round_earlier hI e3) lk_Round_118 mb_Round_earlier rfl ⟨Nat.le_of_ble_eq_true rfl, Nat.le_of_ble_eq_true rfl⟩ ⟨Nat.zero_le _, Nat.zero_le _⟩ (Nat.le_of_ble_eq_true rfl) d_Round_firstWith_42 hl.1 (rest := []) rfl) ?_
          refine m_istore_n C hl [(3, .int (iZ x4)), (0, .ref (ad 73)), (1, .int (iZ v1)), (2, .int (iZ v2)), (4, .int (iZ v4))] d_Round_firstWith_45 rfl (by decide) rfl (fun ls hl => ?_)
          refine m_iinc C hl 4 [(4, .int (iZ (v4 + 1))), (3, .int (iZ x4)), (0, .ref (ad 73)), (1, .int (iZ v1)), (2, .int (iZ v2))] d_Round_firstWith_46 rfl (by decide) rfl (fun ls hl => ?_)
          refine m_goto C 5 d_Round_firstWith_49 (by decide) ?_
          exact ih x4 (v4 + 1) _ (lv_sub hl [2, 3, 4, 1, 0] rfl) hM
set_option maxHeartbeats 4000000 in
set_option maxRecDepth 100000 in
theorem c_Round_firstWith {l : Launch} {D : va_G} {ad : Nat → Nat} {cA : Nat → ClassId} {sd sv : Nat → Nat} {h : Hp} {N : Nat} {a1 a2 : Int} {out : Int} (hI : Inj97 ad) (hM : M_Round_firstWith N h a1 a2 = some out) : Met l y_Round_firstWith (.code y_Round_firstWith prog_7_method_8_code 5 (some .int) :: TT) (rmD 1) (PC D ad cA sd sv h [.ref (ad 73), .int (iZ a1), .int (iZ a2)]) (QR out) 0 0 (fun _ => False) := by
  unfold M_Round_firstWith at hM
  refine entM (by decide +kernel) hI (Nat.le_of_ble_eq_true rfl) ?_
  intro p e s m args below meth c C hr hlk hP ls hl
  have C : Cx p s m args c prog_7_method_8_code 5 "FeastBook$Round" D ad cA sd sv (FA ad) := C
  have hl : lv_has ls 5 [(0, .ref (ad 73)), (1, .int (iZ a1)), (2, .int (iZ a2))] := hl
  refine m_iconst C d_Round_firstWith_0 ?_
  refine m_istore_n C hl [(3, .int (iZ (-1))), (0, .ref (ad 73)), (1, .int (iZ a1)), (2, .int (iZ a2))] d_Round_firstWith_1 rfl (by decide) rfl (fun ls hl => ?_)
  refine m_iconst C d_Round_firstWith_2 ?_
  refine m_istore C hl [(4, .int (iZ 0)), (3, .int (iZ (-1))), (0, .ref (ad 73)), (1, .int (iZ a1)), (2, .int (iZ a2))] d_Round_firstWith_3 (by decide) rfl (fun ls hl => ?_)
  exact w_Round_firstWith_L5 N hI C hr hlk a1 a2 h hP _ (-1) 0 _ (lv_sub hl [2, 3, 4, 1, 0] rfl) hM
def y_Round_yearsWith : MethodName := ⟨"FeastBook$Round", "yearsWith", "(II)I"⟩
theorem d_Round_yearsWith_0 : decode prog_7_method_7_code 0 = .ok (.iconst 0, 1) := by decide +kernel
theorem d_Round_yearsWith_1 : decode prog_7_method_7_code 1 = .ok (.istore_n 3, 1) := by decide +kernel
theorem d_Round_yearsWith_2 : decode prog_7_method_7_code 2 = .ok (.iconst 0, 1) := by decide +kernel
theorem d_Round_yearsWith_3 : decode prog_7_method_7_code 3 = .ok (.istore 4, 2) := by decide +kernel
theorem d_Round_yearsWith_5 : decode prog_7_method_7_code 5 = .ok (.iload 4, 2) := by decide +kernel
theorem d_Round_yearsWith_7 : decode prog_7_method_7_code 7 = .ok (.bipush 80, 2) := by decide +kernel
theorem d_Round_yearsWith_9 : decode prog_7_method_7_code 9 = .ok (.if_icmp .ge 45, 3) := by decide +kernel
theorem d_Round_yearsWith_12 : decode prog_7_method_7_code 12 = .ok (.aload_n 0, 1) := by decide +kernel
theorem d_Round_yearsWith_13 : decode prog_7_method_7_code 13 = .ok (.getfield 9, 3) := by decide +kernel
theorem d_Round_yearsWith_16 : decode prog_7_method_7_code 16 = .ok (.iload 4, 2) := by decide +kernel
theorem d_Round_yearsWith_18 : decode prog_7_method_7_code 18 = .ok (.iaload, 1) := by decide +kernel
theorem d_Round_yearsWith_19 : decode prog_7_method_7_code 19 = .ok (.ifCond .le 29, 3) := by decide +kernel
theorem d_Round_yearsWith_22 : decode prog_7_method_7_code 22 = .ok (.aload_n 0, 1) := by decide +kernel
theorem d_Round_yearsWith_23 : decode prog_7_method_7_code 23 = .ok (.getfield 24, 3) := by decide +kernel
theorem d_Round_yearsWith_26 : decode prog_7_method_7_code 26 = .ok (.iload 4, 2) := by decide +kernel
theorem d_Round_yearsWith_28 : decode prog_7_method_7_code 28 = .ok (.bipush 12, 2) := by decide +kernel
theorem d_Round_yearsWith_30 : decode prog_7_method_7_code 30 = .ok (.imul, 1) := by decide +kernel
theorem d_Round_yearsWith_31 : decode prog_7_method_7_code 31 = .ok (.iload_n 1, 1) := by decide +kernel
theorem d_Round_yearsWith_32 : decode prog_7_method_7_code 32 = .ok (.iadd, 1) := by decide +kernel
theorem d_Round_yearsWith_33 : decode prog_7_method_7_code 33 = .ok (.iaload, 1) := by decide +kernel
theorem d_Round_yearsWith_34 : decode prog_7_method_7_code 34 = .ok (.iload_n 2, 1) := by decide +kernel
theorem d_Round_yearsWith_35 : decode prog_7_method_7_code 35 = .ok (.if_icmp .ne 13, 3) := by decide +kernel
theorem d_Round_yearsWith_38 : decode prog_7_method_7_code 38 = .ok (.iload_n 3, 1) := by decide +kernel
theorem d_Round_yearsWith_39 : decode prog_7_method_7_code 39 = .ok (.aload_n 0, 1) := by decide +kernel
theorem d_Round_yearsWith_40 : decode prog_7_method_7_code 40 = .ok (.getfield 9, 3) := by decide +kernel
theorem d_Round_yearsWith_43 : decode prog_7_method_7_code 43 = .ok (.iload 4, 2) := by decide +kernel
theorem d_Round_yearsWith_45 : decode prog_7_method_7_code 45 = .ok (.iaload, 1) := by decide +kernel
theorem d_Round_yearsWith_46 : decode prog_7_method_7_code 46 = .ok (.iadd, 1) := by decide +kernel
theorem d_Round_yearsWith_47 : decode prog_7_method_7_code 47 = .ok (.istore_n 3, 1) := by decide +kernel
theorem d_Round_yearsWith_48 : decode prog_7_method_7_code 48 = .ok (.iinc 4 1, 3) := by decide +kernel
theorem d_Round_yearsWith_51 : decode prog_7_method_7_code 51 = .ok (.goto (-46), 3) := by decide +kernel
theorem d_Round_yearsWith_54 : decode prog_7_method_7_code 54 = .ok (.iload_n 3, 1) := by decide +kernel
theorem d_Round_yearsWith_55 : decode prog_7_method_7_code 55 = .ok (.ireturn, 1) := by decide +kernel
set_option maxHeartbeats 4000000 in
set_option maxRecDepth 100000 in
theorem w_Round_yearsWith_L5 {p : Program} {l : Launch} {e : Env} {s : State} {m : MethodId} {args : Array Value} {below : List Frame} {meth : Method} {c : Code} {D : va_G} {ad : Nat → Nat} {cA : Nat → ClassId} {sd sv : Nat → Nat} {out : Int} (N : Nat) (hI : Inj97 ad) (C : Cx p s m args c prog_7_method_7_code 5 "FeastBook$Round" D ad cA sd sv (FA ad)) (hr : meth.sig.returnType = (some .int)) (hlk : meth.locks = false) (v1 v2 : Int) (h : Hp) (hP : va_P D clL (wl ad cA h) s.heap) : ∀ (n : Nat) (v3 v4 : Int), ∀ ls : Array Slot, lv_has ls 5 [(0, .ref (ad 73)), (1, .int (iZ v1)), (2, .int (iZ v2)), (3, .int (iZ v3)), (4, .int (iZ v4))] → Round_yearsWith_L5 N h v1 v2 n v3 v4 = some out → W p l e (rmD 0) s m args below meth c s.heap [] 0 0 (MQ below (QR out) args s 0 0 (fun _ => False)) (F0 m 5 ls []) := by
  intro n
  induction n with
  | zero =>
    intro v3 v4 ls hl hM
    rw [Round_yearsWith_L5] at hM
    cases hM
  | succ n ih =>
    intro v3 v4 ls hl hM
    rw [Round_yearsWith_L5] at hM
    refine m_iload C hl 4 d_Round_yearsWith_5 rfl ?_
    refine m_bipush C d_Round_yearsWith_7 (by decide) ?_
    refine m_icmp_ge C hM 54 d_Round_yearsWith_9 (by decide) (fun hM => ?_) (fun hM => ?_)
    · refine m_iload_n C hl 3 d_Round_yearsWith_54 rfl rfl ?_
      exact m_iretR C hr hlk hM d_Round_yearsWith_55
    · refine m_aload_n C hl 0 d_Round_yearsWith_12 rfl rfl ?_
      refine m_getr C hP kc_Round sh_73 (Nat.le_of_ble_eq_true rfl) 4 74 rfl (by decide) fk_Round_9 d_Round_yearsWith_13 ?_
      refine m_iload C hl 4 d_Round_yearsWith_16 rfl ?_
      refine m_iald C hP sh_74 (Nat.le_of_ble_eq_true rfl) (Nat.le_of_ble_eq_true rfl) hM d_Round_yearsWith_18 (fun x1 hM => ?_)
      refine m_if_le C hM 48 d_Round_yearsWith_19 (by decide) (fun hM => ?_) (fun hM => ?_)
      · refine m_iinc C hl 4 [(4, .int (iZ (v4 + 1))), (0, .ref (ad 73)), (1, .int (iZ v1)), (2, .int (iZ v2)), (3, .int (iZ v3))] d_Round_yearsWith_48 rfl (by decide) rfl (fun ls hl => ?_)
        refine m_goto C 5 d_Round_yearsWith_51 (by decide) ?_
        exact ih v3 (v4 + 1) _ (lv_sub hl [1, 2, 3, 4, 0] rfl) hM
      · refine m_aload_n C hl 0 d_Round_yearsWith_22 rfl rfl ?_
        refine m_getr C hP kc_Round sh_73 (Nat.le_of_ble_eq_true rfl) 10 78 rfl (by decide) fk_Round_24 d_Round_yearsWith_23 ?_
        refine m_iload C hl 4 d_Round_yearsWith_26 rfl ?_
        refine m_bipush C d_Round_yearsWith_28 (by decide) ?_
        refine m_imul C d_Round_yearsWith_30 ?_
        refine m_iload_n C hl 1 d_Round_yearsWith_31 rfl rfl ?_
        refine m_iadd C d_Round_yearsWith_32 ?_
        refine m_iald C hP sh_78 (Nat.le_of_ble_eq_true rfl) (Nat.le_of_ble_eq_true rfl) hM d_Round_yearsWith_33 (fun x2 hM => ?_)
        refine m_iload_n C hl 2 d_Round_yearsWith_34 rfl rfl ?_
        refine m_icmp_ne C hM 48 d_Round_yearsWith_35 (by decide) (fun hM => ?_) (fun hM => ?_)
        · refine m_iinc C hl 4 [(4, .int (iZ (v4 + 1))), (0, .ref (ad 73)), (1, .int (iZ v1)), (2, .int (iZ v2)), (3, .int (iZ v3))] d_Round_yearsWith_48 rfl (by decide) rfl (fun ls hl => ?_)
          refine m_goto C 5 d_Round_yearsWith_51 (by decide) ?_
          exact ih v3 (v4 + 1) _ (lv_sub hl [1, 2, 3, 4, 0] rfl) hM
        · refine m_iload_n C hl 3 d_Round_yearsWith_38 rfl rfl ?_
          refine m_aload_n C hl 0 d_Round_yearsWith_39 rfl rfl ?_
          refine m_getr C hP kc_Round sh_73 (Nat.le_of_ble_eq_true rfl) 4 74 rfl (by decide) fk_Round_9 d_Round_yearsWith_40 ?_
          refine m_iload C hl 4 d_Round_yearsWith_43 rfl ?_
          refine m_iald C hP sh_74 (Nat.le_of_ble_eq_true rfl) (Nat.le_of_ble_eq_true rfl) hM d_Round_yearsWith_45 (fun x3 hM => ?_)
          refine m_iadd C d_Round_yearsWith_46 ?_
          refine m_istore_n C hl [(3, .int (iZ (v3 + x3))), (0, .ref (ad 73)), (1, .int (iZ v1)), (2, .int (iZ v2)), (4, .int (iZ v4))] d_Round_yearsWith_47 rfl (by decide) rfl (fun ls hl => ?_)
          refine m_iinc C hl 4 [(4, .int (iZ (v4 + 1))), (3, .int (iZ (v3 + x3))), (0, .ref (ad 73)), (1, .int (iZ v1)), (2, .int (iZ v2))] d_Round_yearsWith_48 rfl (by decide) rfl (fun ls hl => ?_)
          refine m_goto C 5 d_Round_yearsWith_51 (by decide) ?_
          exact ih (v3 + x3) (v4 + 1) _ (lv_sub hl [2, 3, 4, 1, 0] rfl) hM
set_option maxHeartbeats 4000000 in
set_option maxRecDepth 100000 in
theorem c_Round_yearsWith {l : Launch} {D : va_G} {ad : Nat → Nat} {cA : Nat → ClassId} {sd sv : Nat → Nat} {h : Hp} {N : Nat} {a1 a2 : Int} {out : Int} (hI : Inj97 ad) (hM : M_Round_yearsWith N h a1 a2 = some out) : Met l y_Round_yearsWith (.code y_Round_yearsWith prog_7_method_7_code 5 (some .int) :: TT) (rmD 0) (PC D ad cA sd sv h [.ref (ad 73), .int (iZ a1), .int (iZ a2)]) (QR out) 0 0 (fun _ => False) := by
  unfold M_Round_yearsWith at hM
  refine entM (by decide +kernel) hI (Nat.le_of_ble_eq_true rfl) ?_
  intro p e s m args below meth c C hr hlk hP ls hl
  have C : Cx p s m args c prog_7_method_7_code 5 "FeastBook$Round" D ad cA sd sv (FA ad) := C
  have hl : lv_has ls 5 [(0, .ref (ad 73)), (1, .int (iZ a1)), (2, .int (iZ a2))] := hl
  refine m_iconst C d_Round_yearsWith_0 ?_
  refine m_istore_n C hl [(3, .int (iZ 0)), (0, .ref (ad 73)), (1, .int (iZ a1)), (2, .int (iZ a2))] d_Round_yearsWith_1 rfl (by decide) rfl (fun ls hl => ?_)
  refine m_iconst C d_Round_yearsWith_2 ?_
  refine m_istore C hl [(4, .int (iZ 0)), (3, .int (iZ 0)), (0, .ref (ad 73)), (1, .int (iZ a1)), (2, .int (iZ a2))] d_Round_yearsWith_3 (by decide) rfl (fun ls hl => ?_)
  exact w_Round_yearsWith_L5 N hI C hr hlk a1 a2 h hP _ 0 0 _ (lv_sub hl [2, 3, 4, 1, 0] rfl) hM
def y_Round_farthest : MethodName := ⟨"FeastBook$Round", "farthest", "(I)I"⟩
theorem d_Round_farthest_0 : decode prog_7_method_10_code 0 = .ok (.iconst 0, 1) := by decide +kernel
theorem d_Round_farthest_1 : decode prog_7_method_10_code 1 = .ok (.istore_n 2, 1) := by decide +kernel
theorem d_Round_farthest_2 : decode prog_7_method_10_code 2 = .ok (.iconst 0, 1) := by decide +kernel
theorem d_Round_farthest_3 : decode prog_7_method_10_code 3 = .ok (.istore_n 3, 1) := by decide +kernel
theorem d_Round_farthest_4 : decode prog_7_method_10_code 4 = .ok (.iload_n 3, 1) := by decide +kernel
theorem d_Round_farthest_5 : decode prog_7_method_10_code 5 = .ok (.bipush 80, 2) := by decide +kernel
theorem d_Round_farthest_7 : decode prog_7_method_10_code 7 = .ok (.if_icmp .ge 64, 3) := by decide +kernel
theorem d_Round_farthest_10 : decode prog_7_method_10_code 10 = .ok (.aload_n 0, 1) := by decide +kernel
theorem d_Round_farthest_11 : decode prog_7_method_10_code 11 = .ok (.getfield 9, 3) := by decide +kernel
theorem d_Round_farthest_14 : decode prog_7_method_10_code 14 = .ok (.iload_n 3, 1) := by decide +kernel
theorem d_Round_farthest_15 : decode prog_7_method_10_code 15 = .ok (.iaload, 1) := by decide +kernel
theorem d_Round_farthest_16 : decode prog_7_method_10_code 16 = .ok (.ifCond .le 49, 3) := by decide +kernel
theorem d_Round_farthest_19 : decode prog_7_method_10_code 19 = .ok (.iload_n 3, 1) := by decide +kernel
theorem d_Round_farthest_20 : decode prog_7_method_10_code 20 = .ok (.bipush 12, 2) := by decide +kernel
theorem d_Round_farthest_22 : decode prog_7_method_10_code 22 = .ok (.imul, 1) := by decide +kernel
theorem d_Round_farthest_23 : decode prog_7_method_10_code 23 = .ok (.iload_n 1, 1) := by decide +kernel
theorem d_Round_farthest_24 : decode prog_7_method_10_code 24 = .ok (.iadd, 1) := by decide +kernel
theorem d_Round_farthest_25 : decode prog_7_method_10_code 25 = .ok (.istore 4, 2) := by decide +kernel
theorem d_Round_farthest_27 : decode prog_7_method_10_code 27 = .ok (.aload_n 0, 1) := by decide +kernel
theorem d_Round_farthest_28 : decode prog_7_method_10_code 28 = .ok (.getfield 24, 3) := by decide +kernel
theorem d_Round_farthest_31 : decode prog_7_method_10_code 31 = .ok (.iload 4, 2) := by decide +kernel
theorem d_Round_farthest_33 : decode prog_7_method_10_code 33 = .ok (.iaload, 1) := by decide +kernel
theorem d_Round_farthest_34 : decode prog_7_method_10_code 34 = .ok (.iconst 1, 1) := by decide +kernel
theorem d_Round_farthest_35 : decode prog_7_method_10_code 35 = .ok (.if_icmp .ne 28, 3) := by decide +kernel
theorem d_Round_farthest_38 : decode prog_7_method_10_code 38 = .ok (.iload_n 2, 1) := by decide +kernel
theorem d_Round_farthest_39 : decode prog_7_method_10_code 39 = .ok (.aload_n 0, 1) := by decide +kernel
theorem d_Round_farthest_40 : decode prog_7_method_10_code 40 = .ok (.getfield 21, 3) := by decide +kernel
theorem d_Round_farthest_43 : decode prog_7_method_10_code 43 = .ok (.iload 4, 2) := by decide +kernel
theorem d_Round_farthest_45 : decode prog_7_method_10_code 45 = .ok (.iaload, 1) := by decide +kernel
theorem d_Round_farthest_46 : decode prog_7_method_10_code 46 = .ok (.aload_n 0, 1) := by decide +kernel
theorem d_Round_farthest_47 : decode prog_7_method_10_code 47 = .ok (.getfield 18, 3) := by decide +kernel
theorem d_Round_farthest_50 : decode prog_7_method_10_code 50 = .ok (.iload 4, 2) := by decide +kernel
theorem d_Round_farthest_52 : decode prog_7_method_10_code 52 = .ok (.iaload, 1) := by decide +kernel
theorem d_Round_farthest_53 : decode prog_7_method_10_code 53 = .ok (.isub, 1) := by decide +kernel
theorem d_Round_farthest_54 : decode prog_7_method_10_code 54 = .ok (.invokestatic 129, 3) := by decide +kernel
theorem d_Round_farthest_57 : decode prog_7_method_10_code 57 = .ok (.invokestatic 134, 3) := by decide +kernel
theorem d_Round_farthest_60 : decode prog_7_method_10_code 60 = .ok (.goto 4, 3) := by decide +kernel
theorem d_Round_farthest_63 : decode prog_7_method_10_code 63 = .ok (.iload_n 2, 1) := by decide +kernel
theorem d_Round_farthest_64 : decode prog_7_method_10_code 64 = .ok (.istore_n 2, 1) := by decide +kernel
theorem d_Round_farthest_65 : decode prog_7_method_10_code 65 = .ok (.iinc 3 1, 3) := by decide +kernel
theorem d_Round_farthest_68 : decode prog_7_method_10_code 68 = .ok (.goto (-64), 3) := by decide +kernel
theorem d_Round_farthest_71 : decode prog_7_method_10_code 71 = .ok (.iload_n 2, 1) := by decide +kernel
theorem d_Round_farthest_72 : decode prog_7_method_10_code 72 = .ok (.ireturn, 1) := by decide +kernel
theorem lk_Round_129 : Cond.methodLink "FeastBook$Round" 129 Lib.Math.abs.name ∈ TT := mT7 84 (by decide +kernel) (by decide +kernel)
theorem lk_Round_134 : Cond.methodLink "FeastBook$Round" 134 Lib.Math.max.name ∈ TT := mT7 87 (by decide +kernel) (by decide +kernel)
set_option maxHeartbeats 4000000 in
set_option maxRecDepth 100000 in
theorem w_Round_farthest_L4 {p : Program} {l : Launch} {e : Env} {s : State} {m : MethodId} {args : Array Value} {below : List Frame} {meth : Method} {c : Code} {D : va_G} {ad : Nat → Nat} {cA : Nat → ClassId} {sd sv : Nat → Nat} {out : Int} (N : Nat) (hI : Inj97 ad) (C : Cx p s m args c prog_7_method_10_code 5 "FeastBook$Round" D ad cA sd sv (FA ad)) (hr : meth.sig.returnType = (some .int)) (hlk : meth.locks = false) (v1 : Int) (h : Hp) (hP : va_P D clL (wl ad cA h) s.heap) : ∀ (n : Nat) (v2 v3 : Int), ∀ ls : Array Slot, lv_has ls 5 [(0, .ref (ad 73)), (1, .int (iZ v1)), (2, .int (iZ v2)), (3, .int (iZ v3))] → Round_farthest_L4 N h v1 n v2 v3 = some out → W p l e (rmD 1) s m args below meth c s.heap [] 0 0 (MQ below (QR out) args s 0 0 (fun _ => False)) (F0 m 4 ls []) := by
  intro n
  induction n with
  | zero =>
    intro v2 v3 ls hl hM
    rw [Round_farthest_L4] at hM
    cases hM
  | succ n ih =>
    intro v2 v3 ls hl hM
    rw [Round_farthest_L4] at hM
    refine m_iload_n C hl 3 d_Round_farthest_4 rfl rfl ?_
    refine m_bipush C d_Round_farthest_5 (by decide) ?_
    refine m_icmp_ge C hM 71 d_Round_farthest_7 (by decide) (fun hM => ?_) (fun hM => ?_)
    · refine m_iload_n C hl 2 d_Round_farthest_71 rfl rfl ?_
      exact m_iretR C hr hlk hM d_Round_farthest_72
    · refine m_aload_n C hl 0 d_Round_farthest_10 rfl rfl ?_
      refine m_getr C hP kc_Round sh_73 (Nat.le_of_ble_eq_true rfl) 4 74 rfl (by decide) fk_Round_9 d_Round_farthest_11 ?_
      refine m_iload_n C hl 3 d_Round_farthest_14 rfl rfl ?_
      refine m_iald C hP sh_74 (Nat.le_of_ble_eq_true rfl) (Nat.le_of_ble_eq_true rfl) hM d_Round_farthest_15 (fun x1 hM => ?_)
      refine m_if_le C hM 65 d_Round_farthest_16 (by decide) (fun hM => ?_) (fun hM => ?_)
      · refine m_iinc C hl 3 [(3, .int (iZ (v3 + 1))), (0, .ref (ad 73)), (1, .int (iZ v1)), (2, .int (iZ v2))] d_Round_farthest_65 rfl (by decide) rfl (fun ls hl => ?_)
        refine m_goto C 4 d_Round_farthest_68 (by decide) ?_
        exact ih v2 (v3 + 1) _ (lv_sub hl [1, 2, 3, 0] rfl) hM
      · refine m_iload_n C hl 3 d_Round_farthest_19 rfl rfl ?_
        refine m_bipush C d_Round_farthest_20 (by decide) ?_
        refine m_imul C d_Round_farthest_22 ?_
        refine m_iload_n C hl 1 d_Round_farthest_23 rfl rfl ?_
        refine m_iadd C d_Round_farthest_24 ?_
        refine m_istore C hl [(4, .int (iZ ((v3 * 12) + v1))), (0, .ref (ad 73)), (1, .int (iZ v1)), (2, .int (iZ v2)), (3, .int (iZ v3))] d_Round_farthest_25 (by decide) rfl (fun ls hl => ?_)
        refine m_aload_n C hl 1 d_Round_farthest_27 rfl rfl ?_
        refine m_getr C hP kc_Round sh_73 (Nat.le_of_ble_eq_true rfl) 10 78 rfl (by decide) fk_Round_24 d_Round_farthest_28 ?_
        refine m_iload C hl 0 d_Round_farthest_31 rfl ?_
        refine m_iald C hP sh_78 (Nat.le_of_ble_eq_true rfl) (Nat.le_of_ble_eq_true rfl) hM d_Round_farthest_33 (fun x2 hM => ?_)
        refine m_iconst C d_Round_farthest_34 ?_
        refine m_icmp_ne C hM 63 d_Round_farthest_35 (by decide) (fun hM => ?_) (fun hM => ?_)
        · refine m_iload_n C hl 3 d_Round_farthest_63 rfl rfl ?_
          refine m_istore_n C hl [(2, .int (iZ v2)), (4, .int (iZ ((v3 * 12) + v1))), (0, .ref (ad 73)), (1, .int (iZ v1)), (3, .int (iZ v3))] d_Round_farthest_64 rfl (by decide) rfl (fun ls hl => ?_)
          refine m_iinc C hl 4 [(3, .int (iZ (v3 + 1))), (2, .int (iZ v2)), (4, .int (iZ ((v3 * 12) + v1))), (0, .ref (ad 73)), (1, .int (iZ v1))] d_Round_farthest_65 rfl (by decide) rfl (fun ls hl => ?_)
          refine m_goto C 4 d_Round_farthest_68 (by decide) ?_
          exact ih v2 (v3 + 1) _ (lv_sub hl [3, 4, 1, 0] rfl) hM
        · refine m_iload_n C hl 3 d_Round_farthest_38 rfl rfl ?_
          refine m_aload_n C hl 1 d_Round_farthest_39 rfl rfl ?_
          refine m_getr C hP kc_Round sh_73 (Nat.le_of_ble_eq_true rfl) 9 77 rfl (by decide) fk_Round_21 d_Round_farthest_40 ?_
          refine m_iload C hl 0 d_Round_farthest_43 rfl ?_
          refine m_iald C hP sh_77 (Nat.le_of_ble_eq_true rfl) (Nat.le_of_ble_eq_true rfl) hM d_Round_farthest_45 (fun x3 hM => ?_)
          refine m_aload_n C hl 1 d_Round_farthest_46 rfl rfl ?_
          refine m_getr C hP kc_Round sh_73 (Nat.le_of_ble_eq_true rfl) 8 76 rfl (by decide) fk_Round_18 d_Round_farthest_47 ?_
          refine m_iload C hl 0 d_Round_farthest_50 rfl ?_
          refine m_iald C hP sh_76 (Nat.le_of_ble_eq_true rfl) (Nat.le_of_ble_eq_true rfl) hM d_Round_farthest_52 (fun x4 hM => ?_)
          refine m_isub C d_Round_farthest_53 ?_
          refine m_abs C lk_Round_129 hl.1 (Nat.le_of_ble_eq_true rfl) (Nat.le_of_ble_eq_true rfl) ⟨Nat.zero_le _, Nat.zero_le _⟩ d_Round_farthest_54 ?_
          refine m_max C lk_Round_134 hl.1 (Nat.le_of_ble_eq_true rfl) (Nat.le_of_ble_eq_true rfl) ⟨Nat.zero_le _, Nat.zero_le _⟩ d_Round_farthest_57 ?_
          refine m_goto C 64 d_Round_farthest_60 (by decide) ?_
          refine m_istore_n C hl [(2, .int (iZ (mxI v2 (abI (x3 - x4))))), (4, .int (iZ ((v3 * 12) + v1))), (0, .ref (ad 73)), (1, .int (iZ v1)), (3, .int (iZ v3))] d_Round_farthest_64 rfl (by decide) rfl (fun ls hl => ?_)
          refine m_iinc C hl 4 [(3, .int (iZ (v3 + 1))), (2, .int (iZ (mxI v2 (abI (x3 - x4))))), (4, .int (iZ ((v3 * 12) + v1))), (0, .ref (ad 73)), (1, .int (iZ v1))] d_Round_farthest_65 rfl (by decide) rfl (fun ls hl => ?_)
          refine m_goto C 4 d_Round_farthest_68 (by decide) ?_
          exact ih (mxI v2 (abI (x3 - x4))) (v3 + 1) _ (lv_sub hl [3, 4, 1, 0] rfl) hM
set_option maxHeartbeats 4000000 in
set_option maxRecDepth 100000 in
theorem c_Round_farthest {l : Launch} {D : va_G} {ad : Nat → Nat} {cA : Nat → ClassId} {sd sv : Nat → Nat} {h : Hp} {N : Nat} {a1 : Int} {out : Int} (hI : Inj97 ad) (hM : M_Round_farthest N h a1 = some out) : Met l y_Round_farthest (.code y_Round_farthest prog_7_method_10_code 5 (some .int) :: TT) (rmD 1) (PC D ad cA sd sv h [.ref (ad 73), .int (iZ a1)]) (QR out) 0 0 (fun _ => False) := by
  unfold M_Round_farthest at hM
  refine entM (by decide +kernel) hI (Nat.le_of_ble_eq_true rfl) ?_
  intro p e s m args below meth c C hr hlk hP ls hl
  have C : Cx p s m args c prog_7_method_10_code 5 "FeastBook$Round" D ad cA sd sv (FA ad) := C
  have hl : lv_has ls 5 [(0, .ref (ad 73)), (1, .int (iZ a1))] := hl
  refine m_iconst C d_Round_farthest_0 ?_
  refine m_istore_n C hl [(2, .int (iZ 0)), (0, .ref (ad 73)), (1, .int (iZ a1))] d_Round_farthest_1 rfl (by decide) rfl (fun ls hl => ?_)
  refine m_iconst C d_Round_farthest_2 ?_
  refine m_istore_n C hl [(3, .int (iZ 0)), (2, .int (iZ 0)), (0, .ref (ad 73)), (1, .int (iZ a1))] d_Round_farthest_3 rfl (by decide) rfl (fun ls hl => ?_)
  exact w_Round_farthest_L4 N hI C hr hlk a1 h hP _ 0 0 _ (lv_sub hl [2, 3, 1, 0] rfl) hM
def y_Round_further : MethodName := ⟨"FeastBook$Round", "further", "(IIZ)I"⟩
theorem d_Round_further_0 : decode prog_7_method_12_code 0 = .ok (.iload_n 0, 1) := by decide +kernel
theorem d_Round_further_1 : decode prog_7_method_12_code 1 = .ok (.iconst (-1), 1) := by decide +kernel
theorem d_Round_further_2 : decode prog_7_method_12_code 2 = .ok (.if_icmp .eq 8, 3) := by decide +kernel
theorem d_Round_further_5 : decode prog_7_method_12_code 5 = .ok (.iload_n 1, 1) := by decide +kernel
theorem d_Round_further_6 : decode prog_7_method_12_code 6 = .ok (.iconst (-1), 1) := by decide +kernel
theorem d_Round_further_7 : decode prog_7_method_12_code 7 = .ok (.if_icmp .ne 9, 3) := by decide +kernel
theorem d_Round_further_10 : decode prog_7_method_12_code 10 = .ok (.iload_n 0, 1) := by decide +kernel
theorem d_Round_further_11 : decode prog_7_method_12_code 11 = .ok (.iload_n 1, 1) := by decide +kernel
theorem d_Round_further_12 : decode prog_7_method_12_code 12 = .ok (.invokestatic 134, 3) := by decide +kernel
theorem d_Round_further_15 : decode prog_7_method_12_code 15 = .ok (.ireturn, 1) := by decide +kernel
theorem d_Round_further_16 : decode prog_7_method_12_code 16 = .ok (.iload_n 2, 1) := by decide +kernel
theorem d_Round_further_17 : decode prog_7_method_12_code 17 = .ok (.ifCond .eq 11, 3) := by decide +kernel
theorem d_Round_further_20 : decode prog_7_method_12_code 20 = .ok (.iload_n 0, 1) := by decide +kernel
theorem d_Round_further_21 : decode prog_7_method_12_code 21 = .ok (.iload_n 1, 1) := by decide +kernel
theorem d_Round_further_22 : decode prog_7_method_12_code 22 = .ok (.invokestatic 134, 3) := by decide +kernel
theorem d_Round_further_25 : decode prog_7_method_12_code 25 = .ok (.goto 8, 3) := by decide +kernel
theorem d_Round_further_28 : decode prog_7_method_12_code 28 = .ok (.iload_n 0, 1) := by decide +kernel
theorem d_Round_further_29 : decode prog_7_method_12_code 29 = .ok (.iload_n 1, 1) := by decide +kernel
theorem d_Round_further_30 : decode prog_7_method_12_code 30 = .ok (.invokestatic 141, 3) := by decide +kernel
theorem d_Round_further_33 : decode prog_7_method_12_code 33 = .ok (.ireturn, 1) := by decide +kernel
theorem lk_Round_141 : Cond.methodLink "FeastBook$Round" 141 Lib.Math.min.name ∈ TT := mT7 102 (by decide +kernel) (by decide +kernel)
set_option maxHeartbeats 4000000 in
set_option maxRecDepth 100000 in
theorem c_Round_further {l : Launch} {D : va_G} {ad : Nat → Nat} {cA : Nat → ClassId} {sd sv : Nat → Nat} {h : Hp} {a0 a1 a2 : Int} {out : Int} (hI : Inj97 ad) (hM : M_Round_further a0 a1 a2 = some out) : Met l y_Round_further (.code y_Round_further prog_7_method_12_code 3 (some .int) :: TT) (rmD 1) (PC D ad cA sd sv h [.int (iZ a0), .int (iZ a1), .int (iZ a2)]) (QR out) 0 0 (fun _ => False) := by
  unfold M_Round_further at hM
  refine entM (by decide +kernel) hI (Nat.le_of_ble_eq_true rfl) ?_
  intro p e s m args below meth c C hr hlk hP ls hl
  have C : Cx p s m args c prog_7_method_12_code 3 "FeastBook$Round" D ad cA sd sv (FA ad) := C
  have hl : lv_has ls 3 [(0, .int (iZ a0)), (1, .int (iZ a1)), (2, .int (iZ a2))] := hl
  refine m_iload_n C hl 0 d_Round_further_0 rfl rfl ?_
  refine m_iconst C d_Round_further_1 ?_
  refine m_icmp_eq C hM 10 d_Round_further_2 (by decide) (fun hM => ?_) (fun hM => ?_)
  · refine m_iload_n C hl 0 d_Round_further_10 rfl rfl ?_
    refine m_iload_n C hl 1 d_Round_further_11 rfl rfl ?_
    refine m_max C lk_Round_134 hl.1 (Nat.le_of_ble_eq_true rfl) (Nat.le_of_ble_eq_true rfl) ⟨Nat.zero_le _, Nat.zero_le _⟩ d_Round_further_12 ?_
    exact m_iretR C hr hlk hM d_Round_further_15
  · refine m_iload_n C hl 1 d_Round_further_5 rfl rfl ?_
    refine m_iconst C d_Round_further_6 ?_
    refine m_icmp_ne C hM 16 d_Round_further_7 (by decide) (fun hM => ?_) (fun hM => ?_)
    · refine m_iload_n C hl 2 d_Round_further_16 rfl rfl ?_
      refine m_if_eq C hM 28 d_Round_further_17 (by decide) (fun hM => ?_) (fun hM => ?_)
      · refine m_iload_n C hl 0 d_Round_further_28 rfl rfl ?_
        refine m_iload_n C hl 1 d_Round_further_29 rfl rfl ?_
        refine m_min C lk_Round_141 hl.1 (Nat.le_of_ble_eq_true rfl) (Nat.le_of_ble_eq_true rfl) ⟨Nat.zero_le _, Nat.zero_le _⟩ d_Round_further_30 ?_
        exact m_iretR C hr hlk hM d_Round_further_33
      · refine m_iload_n C hl 0 d_Round_further_20 rfl rfl ?_
        refine m_iload_n C hl 1 d_Round_further_21 rfl rfl ?_
        refine m_max C lk_Round_134 hl.1 (Nat.le_of_ble_eq_true rfl) (Nat.le_of_ble_eq_true rfl) ⟨Nat.zero_le _, Nat.zero_le _⟩ d_Round_further_22 ?_
        refine m_goto C 33 d_Round_further_25 (by decide) ?_
        exact m_iretR C hr hlk hM d_Round_further_33
    · refine m_iload_n C hl 0 d_Round_further_10 rfl rfl ?_
      refine m_iload_n C hl 1 d_Round_further_11 rfl rfl ?_
      refine m_max C lk_Round_134 hl.1 (Nat.le_of_ble_eq_true rfl) (Nat.le_of_ble_eq_true rfl) ⟨Nat.zero_le _, Nat.zero_le _⟩ d_Round_further_12 ?_
      exact m_iretR C hr hlk hM d_Round_further_15
def y_Round_outermost : MethodName := ⟨"FeastBook$Round", "outermost", "(IZ)I"⟩
theorem d_Round_outermost_0 : decode prog_7_method_11_code 0 = .ok (.iconst (-1), 1) := by decide +kernel
theorem d_Round_outermost_1 : decode prog_7_method_11_code 1 = .ok (.istore_n 3, 1) := by decide +kernel
theorem d_Round_outermost_2 : decode prog_7_method_11_code 2 = .ok (.iconst 0, 1) := by decide +kernel
theorem d_Round_outermost_3 : decode prog_7_method_11_code 3 = .ok (.istore 4, 2) := by decide +kernel
theorem d_Round_outermost_5 : decode prog_7_method_11_code 5 = .ok (.iload 4, 2) := by decide +kernel
theorem d_Round_outermost_7 : decode prog_7_method_11_code 7 = .ok (.bipush 80, 2) := by decide +kernel
theorem d_Round_outermost_9 : decode prog_7_method_11_code 9 = .ok (.if_icmp .ge 37, 3) := by decide +kernel
theorem d_Round_outermost_12 : decode prog_7_method_11_code 12 = .ok (.aload_n 0, 1) := by decide +kernel
theorem d_Round_outermost_13 : decode prog_7_method_11_code 13 = .ok (.getfield 9, 3) := by decide +kernel
theorem d_Round_outermost_16 : decode prog_7_method_11_code 16 = .ok (.iload 4, 2) := by decide +kernel
theorem d_Round_outermost_18 : decode prog_7_method_11_code 18 = .ok (.iaload, 1) := by decide +kernel
theorem d_Round_outermost_19 : decode prog_7_method_11_code 19 = .ok (.ifCond .le 21, 3) := by decide +kernel
theorem d_Round_outermost_22 : decode prog_7_method_11_code 22 = .ok (.iload_n 3, 1) := by decide +kernel
theorem d_Round_outermost_23 : decode prog_7_method_11_code 23 = .ok (.aload_n 0, 1) := by decide +kernel
theorem d_Round_outermost_24 : decode prog_7_method_11_code 24 = .ok (.getfield 21, 3) := by decide +kernel
theorem d_Round_outermost_27 : decode prog_7_method_11_code 27 = .ok (.iload 4, 2) := by decide +kernel
theorem d_Round_outermost_29 : decode prog_7_method_11_code 29 = .ok (.bipush 12, 2) := by decide +kernel
theorem d_Round_outermost_31 : decode prog_7_method_11_code 31 = .ok (.imul, 1) := by decide +kernel
theorem d_Round_outermost_32 : decode prog_7_method_11_code 32 = .ok (.iload_n 1, 1) := by decide +kernel
theorem d_Round_outermost_33 : decode prog_7_method_11_code 33 = .ok (.iadd, 1) := by decide +kernel
theorem d_Round_outermost_34 : decode prog_7_method_11_code 34 = .ok (.iaload, 1) := by decide +kernel
theorem d_Round_outermost_35 : decode prog_7_method_11_code 35 = .ok (.iload_n 2, 1) := by decide +kernel
theorem d_Round_outermost_36 : decode prog_7_method_11_code 36 = .ok (.invokestatic 137, 3) := by decide +kernel
theorem d_Round_outermost_39 : decode prog_7_method_11_code 39 = .ok (.istore_n 3, 1) := by decide +kernel
theorem d_Round_outermost_40 : decode prog_7_method_11_code 40 = .ok (.iinc 4 1, 3) := by decide +kernel
theorem d_Round_outermost_43 : decode prog_7_method_11_code 43 = .ok (.goto (-38), 3) := by decide +kernel
theorem d_Round_outermost_46 : decode prog_7_method_11_code 46 = .ok (.iload_n 3, 1) := by decide +kernel
theorem d_Round_outermost_47 : decode prog_7_method_11_code 47 = .ok (.ireturn, 1) := by decide +kernel
theorem mb_Round_further : MBs y_Round_further prog_7_method_12_code 3 (some .int) 3 := ⟨mT7 100 (by decide +kernel) (by decide +kernel), mT1 9 (by decide +kernel) (by decide +kernel), mT7 101 (by decide +kernel) (by decide +kernel), by decide, by decide +kernel, by decide +kernel, by decide +kernel⟩
theorem lk_Round_137 : Cond.methodLink "FeastBook$Round" 137 y_Round_further ∈ TT := mT7 99 (by decide +kernel) (by decide +kernel)
set_option maxHeartbeats 4000000 in
set_option maxRecDepth 100000 in
theorem w_Round_outermost_L5 {p : Program} {l : Launch} {e : Env} {s : State} {m : MethodId} {args : Array Value} {below : List Frame} {meth : Method} {c : Code} {D : va_G} {ad : Nat → Nat} {cA : Nat → ClassId} {sd sv : Nat → Nat} {out : Int} (N : Nat) (hI : Inj97 ad) (C : Cx p s m args c prog_7_method_11_code 5 "FeastBook$Round" D ad cA sd sv (FA ad)) (hr : meth.sig.returnType = (some .int)) (hlk : meth.locks = false) (v1 v2 : Int) (h : Hp) (hP : va_P D clL (wl ad cA h) s.heap) : ∀ (n : Nat) (v3 v4 : Int), ∀ ls : Array Slot, lv_has ls 5 [(0, .ref (ad 73)), (1, .int (iZ v1)), (2, .int (iZ v2)), (3, .int (iZ v3)), (4, .int (iZ v4))] → Round_outermost_L5 N h v1 v2 n v3 v4 = some out → W p l e (rmD 2) s m args below meth c s.heap [] 0 0 (MQ below (QR out) args s 0 0 (fun _ => False)) (F0 m 5 ls []) := by
  intro n
  induction n with
  | zero =>
    intro v3 v4 ls hl hM
    rw [Round_outermost_L5] at hM
    cases hM
  | succ n ih =>
    intro v3 v4 ls hl hM
    rw [Round_outermost_L5] at hM
    refine m_iload C hl 4 d_Round_outermost_5 rfl ?_
    refine m_bipush C d_Round_outermost_7 (by decide) ?_
    refine m_icmp_ge C hM 46 d_Round_outermost_9 (by decide) (fun hM => ?_) (fun hM => ?_)
    · refine m_iload_n C hl 3 d_Round_outermost_46 rfl rfl ?_
      exact m_iretR C hr hlk hM d_Round_outermost_47
    · refine m_aload_n C hl 0 d_Round_outermost_12 rfl rfl ?_
      refine m_getr C hP kc_Round sh_73 (Nat.le_of_ble_eq_true rfl) 4 74 rfl (by decide) fk_Round_9 d_Round_outermost_13 ?_
      refine m_iload C hl 4 d_Round_outermost_16 rfl ?_
      refine m_iald C hP sh_74 (Nat.le_of_ble_eq_true rfl) (Nat.le_of_ble_eq_true rfl) hM d_Round_outermost_18 (fun x1 hM => ?_)
      refine m_if_le C hM 40 d_Round_outermost_19 (by decide) (fun hM => ?_) (fun hM => ?_)
      · refine m_iinc C hl 4 [(4, .int (iZ (v4 + 1))), (0, .ref (ad 73)), (1, .int (iZ v1)), (2, .int (iZ v2)), (3, .int (iZ v3))] d_Round_outermost_40 rfl (by decide) rfl (fun ls hl => ?_)
        refine m_goto C 5 d_Round_outermost_43 (by decide) ?_
        exact ih v3 (v4 + 1) _ (lv_sub hl [1, 2, 3, 4, 0] rfl) hM
      · refine m_iload_n C hl 3 d_Round_outermost_22 rfl rfl ?_
        refine m_aload_n C hl 0 d_Round_outermost_23 rfl rfl ?_
        refine m_getr C hP kc_Round sh_73 (Nat.le_of_ble_eq_true rfl) 9 77 rfl (by decide) fk_Round_21 d_Round_outermost_24 ?_
        refine m_iload C hl 4 d_Round_outermost_27 rfl ?_
        refine m_bipush C d_Round_outermost_29 (by decide) ?_
        refine m_imul C d_Round_outermost_31 ?_
        refine m_iload_n C hl 1 d_Round_outermost_32 rfl rfl ?_
        refine m_iadd C d_Round_outermost_33 ?_
        refine m_iald C hP sh_77 (Nat.le_of_ble_eq_true rfl) (Nat.le_of_ble_eq_true rfl) hM d_Round_outermost_34 (fun x2 hM => ?_)
        refine m_iload_n C hl 2 d_Round_outermost_35 rfl rfl ?_
        obtain ⟨x4, e3, hM⟩ := bnd_some hM
        refine aftR (runS C hP va_S.rf (c_Round_further hI e3) lk_Round_137 mb_Round_further rfl ⟨Nat.le_of_ble_eq_true rfl, Nat.le_of_ble_eq_true rfl⟩ ⟨Nat.zero_le _, Nat.zero_le _⟩ (Nat.le_of_ble_eq_true rfl) d_Round_outermost_36 hl.1 (rest := []) rfl) ?_
        refine m_istore_n C hl [(3, .int (iZ x4)), (0, .ref (ad 73)), (1, .int (iZ v1)), (2, .int (iZ v2)), (4, .int (iZ v4))] d_Round_outermost_39 rfl (by decide) rfl (fun ls hl => ?_)
        refine m_iinc C hl 4 [(4, .int (iZ (v4 + 1))), (3, .int (iZ x4)), (0, .ref (ad 73)), (1, .int (iZ v1)), (2, .int (iZ v2))] d_Round_outermost_40 rfl (by decide) rfl (fun ls hl => ?_)
        refine m_goto C 5 d_Round_outermost_43 (by decide) ?_
        exact ih x4 (v4 + 1) _ (lv_sub hl [2, 3, 4, 1, 0] rfl) hM
set_option maxHeartbeats 4000000 in
set_option maxRecDepth 100000 in
theorem c_Round_outermost {l : Launch} {D : va_G} {ad : Nat → Nat} {cA : Nat → ClassId} {sd sv : Nat → Nat} {h : Hp} {N : Nat} {a1 a2 : Int} {out : Int} (hI : Inj97 ad) (hM : M_Round_outermost N h a1 a2 = some out) : Met l y_Round_outermost (.code y_Round_outermost prog_7_method_11_code 5 (some .int) :: TT) (rmD 2) (PC D ad cA sd sv h [.ref (ad 73), .int (iZ a1), .int (iZ a2)]) (QR out) 0 0 (fun _ => False) := by
  unfold M_Round_outermost at hM
  refine entM (by decide +kernel) hI (Nat.le_of_ble_eq_true rfl) ?_
  intro p e s m args below meth c C hr hlk hP ls hl
  have C : Cx p s m args c prog_7_method_11_code 5 "FeastBook$Round" D ad cA sd sv (FA ad) := C
  have hl : lv_has ls 5 [(0, .ref (ad 73)), (1, .int (iZ a1)), (2, .int (iZ a2))] := hl
  refine m_iconst C d_Round_outermost_0 ?_
  refine m_istore_n C hl [(3, .int (iZ (-1))), (0, .ref (ad 73)), (1, .int (iZ a1)), (2, .int (iZ a2))] d_Round_outermost_1 rfl (by decide) rfl (fun ls hl => ?_)
  refine m_iconst C d_Round_outermost_2 ?_
  refine m_istore C hl [(4, .int (iZ 0)), (3, .int (iZ (-1))), (0, .ref (ad 73)), (1, .int (iZ a1)), (2, .int (iZ a2))] d_Round_outermost_3 (by decide) rfl (fun ls hl => ?_)
  exact w_Round_outermost_L5 N hI C hr hlk a1 a2 h hP _ (-1) 0 _ (lv_sub hl [2, 3, 4, 1, 0] rfl) hM
def y_Round_metInPlan : MethodName := ⟨"FeastBook$Round", "metInPlan", "(I)I"⟩
theorem d_Round_metInPlan_0 : decode prog_7_method_14_code 0 = .ok (.iconst 0, 1) := by decide +kernel
theorem d_Round_metInPlan_1 : decode prog_7_method_14_code 1 = .ok (.istore_n 2, 1) := by decide +kernel
theorem d_Round_metInPlan_2 : decode prog_7_method_14_code 2 = .ok (.iconst 0, 1) := by decide +kernel
theorem d_Round_metInPlan_3 : decode prog_7_method_14_code 3 = .ok (.istore_n 3, 1) := by decide +kernel
theorem d_Round_metInPlan_4 : decode prog_7_method_14_code 4 = .ok (.iload_n 3, 1) := by decide +kernel
theorem d_Round_metInPlan_5 : decode prog_7_method_14_code 5 = .ok (.aload_n 0, 1) := by decide +kernel
theorem d_Round_metInPlan_6 : decode prog_7_method_14_code 6 = .ok (.getfield 49, 3) := by decide +kernel
theorem d_Round_metInPlan_9 : decode prog_7_method_14_code 9 = .ok (.getfield 121, 3) := by decide +kernel
theorem d_Round_metInPlan_12 : decode prog_7_method_14_code 12 = .ok (.if_icmp .ge 54, 3) := by decide +kernel
theorem d_Round_metInPlan_15 : decode prog_7_method_14_code 15 = .ok (.iload_n 3, 1) := by decide +kernel
theorem d_Round_metInPlan_16 : decode prog_7_method_14_code 16 = .ok (.iload_n 1, 1) := by decide +kernel
theorem d_Round_metInPlan_17 : decode prog_7_method_14_code 17 = .ok (.if_icmp .eq 43, 3) := by decide +kernel
theorem d_Round_metInPlan_20 : decode prog_7_method_14_code 20 = .ok (.aload_n 0, 1) := by decide +kernel
theorem d_Round_metInPlan_21 : decode prog_7_method_14_code 21 = .ok (.getfield 50, 3) := by decide +kernel
theorem d_Round_metInPlan_24 : decode prog_7_method_14_code 24 = .ok (.getfield 91, 3) := by decide +kernel
theorem d_Round_metInPlan_27 : decode prog_7_method_14_code 27 = .ok (.iload_n 1, 1) := by decide +kernel
theorem d_Round_metInPlan_28 : decode prog_7_method_14_code 28 = .ok (.iaload, 1) := by decide +kernel
theorem d_Round_metInPlan_29 : decode prog_7_method_14_code 29 = .ok (.iconst (-1), 1) := by decide +kernel
theorem d_Round_metInPlan_30 : decode prog_7_method_14_code 30 = .ok (.if_icmp .eq 30, 3) := by decide +kernel
theorem d_Round_metInPlan_33 : decode prog_7_method_14_code 33 = .ok (.aload_n 0, 1) := by decide +kernel
theorem d_Round_metInPlan_34 : decode prog_7_method_14_code 34 = .ok (.getfield 50, 3) := by decide +kernel
theorem d_Round_metInPlan_37 : decode prog_7_method_14_code 37 = .ok (.getfield 91, 3) := by decide +kernel
theorem d_Round_metInPlan_40 : decode prog_7_method_14_code 40 = .ok (.iload_n 3, 1) := by decide +kernel
theorem d_Round_metInPlan_41 : decode prog_7_method_14_code 41 = .ok (.iaload, 1) := by decide +kernel
theorem d_Round_metInPlan_42 : decode prog_7_method_14_code 42 = .ok (.aload_n 0, 1) := by decide +kernel
theorem d_Round_metInPlan_43 : decode prog_7_method_14_code 43 = .ok (.getfield 50, 3) := by decide +kernel
theorem d_Round_metInPlan_46 : decode prog_7_method_14_code 46 = .ok (.getfield 91, 3) := by decide +kernel
theorem d_Round_metInPlan_49 : decode prog_7_method_14_code 49 = .ok (.iload_n 1, 1) := by decide +kernel
theorem d_Round_metInPlan_50 : decode prog_7_method_14_code 50 = .ok (.iaload, 1) := by decide +kernel
theorem d_Round_metInPlan_51 : decode prog_7_method_14_code 51 = .ok (.if_icmp .ne 9, 3) := by decide +kernel
theorem d_Round_metInPlan_54 : decode prog_7_method_14_code 54 = .ok (.iload_n 2, 1) := by decide +kernel
theorem d_Round_metInPlan_55 : decode prog_7_method_14_code 55 = .ok (.iconst 1, 1) := by decide +kernel
theorem d_Round_metInPlan_56 : decode prog_7_method_14_code 56 = .ok (.iload_n 3, 1) := by decide +kernel
theorem d_Round_metInPlan_57 : decode prog_7_method_14_code 57 = .ok (.ishl, 1) := by decide +kernel
theorem d_Round_metInPlan_58 : decode prog_7_method_14_code 58 = .ok (.ior, 1) := by decide +kernel
theorem d_Round_metInPlan_59 : decode prog_7_method_14_code 59 = .ok (.istore_n 2, 1) := by decide +kernel
theorem d_Round_metInPlan_60 : decode prog_7_method_14_code 60 = .ok (.iinc 3 1, 3) := by decide +kernel
theorem d_Round_metInPlan_63 : decode prog_7_method_14_code 63 = .ok (.goto (-59), 3) := by decide +kernel
theorem d_Round_metInPlan_66 : decode prog_7_method_14_code 66 = .ok (.iload_n 2, 1) := by decide +kernel
theorem d_Round_metInPlan_67 : decode prog_7_method_14_code 67 = .ok (.ireturn, 1) := by decide +kernel
theorem fk_Round_121 : Cond.fieldLink "FeastBook$Round" 121 (T_Feasts 0).1 (T_Feasts 0).2.1 (T_Feasts 0).2.2.1 ∈ TT := mT1 103 (by decide +kernel) (by decide +kernel)
theorem fk_Round_49 : Cond.fieldLink "FeastBook$Round" 49 (T_Round 1).1 (T_Round 1).2.1 (T_Round 1).2.2.1 ∈ TT := mT2 119 (by decide +kernel) (by decide +kernel)
set_option maxHeartbeats 4000000 in
set_option maxRecDepth 100000 in
theorem w_Round_metInPlan_L4 {p : Program} {l : Launch} {e : Env} {s : State} {m : MethodId} {args : Array Value} {below : List Frame} {meth : Method} {c : Code} {D : va_G} {ad : Nat → Nat} {cA : Nat → ClassId} {sd sv : Nat → Nat} {out : Int} (N : Nat) (hI : Inj97 ad) (C : Cx p s m args c prog_7_method_14_code 4 "FeastBook$Round" D ad cA sd sv (FA ad)) (hr : meth.sig.returnType = (some .int)) (hlk : meth.locks = false) (v1 : Int) (h : Hp) (hP : va_P D clL (wl ad cA h) s.heap) : ∀ (n : Nat) (v2 v3 : Int), ∀ ls : Array Slot, lv_has ls 4 [(0, .ref (ad 73)), (1, .int (iZ v1)), (2, .int (iZ v2)), (3, .int (iZ v3))] → Round_metInPlan_L4 N h v1 n v2 v3 = some out → W p l e (rmD 0) s m args below meth c s.heap [] 0 0 (MQ below (QR out) args s 0 0 (fun _ => False)) (F0 m 4 ls []) := by
  intro n
  induction n with
  | zero =>
    intro v2 v3 ls hl hM
    rw [Round_metInPlan_L4] at hM
    cases hM
  | succ n ih =>
    intro v2 v3 ls hl hM
    rw [Round_metInPlan_L4] at hM
    refine m_iload_n C hl 3 d_Round_metInPlan_4 rfl rfl ?_
    refine m_aload_n C hl 0 d_Round_metInPlan_5 rfl rfl ?_
    refine m_getr C hP kc_Round sh_73 (Nat.le_of_ble_eq_true rfl) 1 33 rfl (by decide) fk_Round_49 d_Round_metInPlan_6 ?_
    refine m_geti C hP kc_Feasts sh_33 (Nat.le_of_ble_eq_true rfl) 0 rfl (by decide) fk_Round_121 d_Round_metInPlan_9 ?_
    refine m_icmp_ge C hM 66 d_Round_metInPlan_12 (by decide) (fun hM => ?_) (fun hM => ?_)
    · refine m_iload_n C hl 2 d_Round_metInPlan_66 rfl rfl ?_
      exact m_iretR C hr hlk hM d_Round_metInPlan_67
    · refine m_iload_n C hl 3 d_Round_metInPlan_15 rfl rfl ?_
      refine m_iload_n C hl 1 d_Round_metInPlan_16 rfl rfl ?_
      refine m_icmp_eq C hM 60 d_Round_metInPlan_17 (by decide) (fun hM => ?_) (fun hM => ?_)
      · refine m_iinc C hl 3 [(3, .int (iZ (v3 + 1))), (0, .ref (ad 73)), (1, .int (iZ v1)), (2, .int (iZ v2))] d_Round_metInPlan_60 rfl (by decide) rfl (fun ls hl => ?_)
        refine m_goto C 4 d_Round_metInPlan_63 (by decide) ?_
        exact ih v2 (v3 + 1) _ (lv_sub hl [1, 2, 3, 0] rfl) hM
      · refine m_aload_n C hl 0 d_Round_metInPlan_20 rfl rfl ?_
        refine m_getr C hP kc_Round sh_73 (Nat.le_of_ble_eq_true rfl) 2 66 rfl (by decide) fk_Round_50 d_Round_metInPlan_21 ?_
        refine m_getr C hP kc_YearPlan sh_66 (Nat.le_of_ble_eq_true rfl) 8 69 rfl (by decide) fk_Round_91 d_Round_metInPlan_24 ?_
        refine m_iload_n C hl 1 d_Round_metInPlan_27 rfl rfl ?_
        refine m_iald C hP sh_69 (Nat.le_of_ble_eq_true rfl) (Nat.le_of_ble_eq_true rfl) hM d_Round_metInPlan_28 (fun x1 hM => ?_)
        refine m_iconst C d_Round_metInPlan_29 ?_
        refine m_icmp_eq C hM 60 d_Round_metInPlan_30 (by decide) (fun hM => ?_) (fun hM => ?_)
        · refine m_iinc C hl 3 [(3, .int (iZ (v3 + 1))), (0, .ref (ad 73)), (1, .int (iZ v1)), (2, .int (iZ v2))] d_Round_metInPlan_60 rfl (by decide) rfl (fun ls hl => ?_)
          refine m_goto C 4 d_Round_metInPlan_63 (by decide) ?_
          exact ih v2 (v3 + 1) _ (lv_sub hl [1, 2, 3, 0] rfl) hM
        · refine m_aload_n C hl 0 d_Round_metInPlan_33 rfl rfl ?_
          refine m_getr C hP kc_Round sh_73 (Nat.le_of_ble_eq_true rfl) 2 66 rfl (by decide) fk_Round_50 d_Round_metInPlan_34 ?_
          refine m_getr C hP kc_YearPlan sh_66 (Nat.le_of_ble_eq_true rfl) 8 69 rfl (by decide) fk_Round_91 d_Round_metInPlan_37 ?_
          refine m_iload_n C hl 3 d_Round_metInPlan_40 rfl rfl ?_
          refine m_iald C hP sh_69 (Nat.le_of_ble_eq_true rfl) (Nat.le_of_ble_eq_true rfl) hM d_Round_metInPlan_41 (fun x2 hM => ?_)
          refine m_aload_n C hl 0 d_Round_metInPlan_42 rfl rfl ?_
          refine m_getr C hP kc_Round sh_73 (Nat.le_of_ble_eq_true rfl) 2 66 rfl (by decide) fk_Round_50 d_Round_metInPlan_43 ?_
          refine m_getr C hP kc_YearPlan sh_66 (Nat.le_of_ble_eq_true rfl) 8 69 rfl (by decide) fk_Round_91 d_Round_metInPlan_46 ?_
          refine m_iload_n C hl 1 d_Round_metInPlan_49 rfl rfl ?_
          refine m_iald C hP sh_69 (Nat.le_of_ble_eq_true rfl) (Nat.le_of_ble_eq_true rfl) hM d_Round_metInPlan_50 (fun x3 hM => ?_)
          refine m_icmp_ne C hM 60 d_Round_metInPlan_51 (by decide) (fun hM => ?_) (fun hM => ?_)
          · refine m_iinc C hl 3 [(3, .int (iZ (v3 + 1))), (0, .ref (ad 73)), (1, .int (iZ v1)), (2, .int (iZ v2))] d_Round_metInPlan_60 rfl (by decide) rfl (fun ls hl => ?_)
            refine m_goto C 4 d_Round_metInPlan_63 (by decide) ?_
            exact ih v2 (v3 + 1) _ (lv_sub hl [1, 2, 3, 0] rfl) hM
          · refine m_iload_n C hl 2 d_Round_metInPlan_54 rfl rfl ?_
            refine m_iconst C d_Round_metInPlan_55 ?_
            refine m_iload_n C hl 3 d_Round_metInPlan_56 rfl rfl ?_
            refine m_ishl C d_Round_metInPlan_57 ?_
            refine m_ior C d_Round_metInPlan_58 ?_
            refine m_istore_n C hl [(2, .int (iZ (orI v2 (shlI 1 v3)))), (0, .ref (ad 73)), (1, .int (iZ v1)), (3, .int (iZ v3))] d_Round_metInPlan_59 rfl (by decide) rfl (fun ls hl => ?_)
            refine m_iinc C hl 3 [(3, .int (iZ (v3 + 1))), (2, .int (iZ (orI v2 (shlI 1 v3)))), (0, .ref (ad 73)), (1, .int (iZ v1))] d_Round_metInPlan_60 rfl (by decide) rfl (fun ls hl => ?_)
            refine m_goto C 4 d_Round_metInPlan_63 (by decide) ?_
            exact ih (orI v2 (shlI 1 v3)) (v3 + 1) _ (lv_sub hl [2, 3, 1, 0] rfl) hM
set_option maxHeartbeats 4000000 in
set_option maxRecDepth 100000 in
theorem c_Round_metInPlan {l : Launch} {D : va_G} {ad : Nat → Nat} {cA : Nat → ClassId} {sd sv : Nat → Nat} {h : Hp} {N : Nat} {a1 : Int} {out : Int} (hI : Inj97 ad) (hM : M_Round_metInPlan N h a1 = some out) : Met l y_Round_metInPlan (.code y_Round_metInPlan prog_7_method_14_code 4 (some .int) :: TT) (rmD 0) (PC D ad cA sd sv h [.ref (ad 73), .int (iZ a1)]) (QR out) 0 0 (fun _ => False) := by
  unfold M_Round_metInPlan at hM
  refine entM (by decide +kernel) hI (Nat.le_of_ble_eq_true rfl) ?_
  intro p e s m args below meth c C hr hlk hP ls hl
  have C : Cx p s m args c prog_7_method_14_code 4 "FeastBook$Round" D ad cA sd sv (FA ad) := C
  have hl : lv_has ls 4 [(0, .ref (ad 73)), (1, .int (iZ a1))] := hl
  refine m_iconst C d_Round_metInPlan_0 ?_
  refine m_istore_n C hl [(2, .int (iZ 0)), (0, .ref (ad 73)), (1, .int (iZ a1))] d_Round_metInPlan_1 rfl (by decide) rfl (fun ls hl => ?_)
  refine m_iconst C d_Round_metInPlan_2 ?_
  refine m_istore_n C hl [(3, .int (iZ 0)), (2, .int (iZ 0)), (0, .ref (ad 73)), (1, .int (iZ a1))] d_Round_metInPlan_3 rfl (by decide) rfl (fun ls hl => ?_)
  exact w_Round_metInPlan_L4 N hI C hr hlk a1 h hP _ 0 0 _ (lv_sub hl [2, 3, 1, 0] rfl) hM
def y_Round_metBy : MethodName := ⟨"FeastBook$Round", "metBy", "(I)I"⟩
theorem d_Round_metBy_0 : decode prog_7_method_13_code 0 = .ok (.iconst 0, 1) := by decide +kernel
theorem d_Round_metBy_1 : decode prog_7_method_13_code 1 = .ok (.istore_n 2, 1) := by decide +kernel
theorem d_Round_metBy_2 : decode prog_7_method_13_code 2 = .ok (.iconst 0, 1) := by decide +kernel
theorem d_Round_metBy_3 : decode prog_7_method_13_code 3 = .ok (.istore_n 3, 1) := by decide +kernel
theorem d_Round_metBy_4 : decode prog_7_method_13_code 4 = .ok (.iload_n 3, 1) := by decide +kernel
theorem d_Round_metBy_5 : decode prog_7_method_13_code 5 = .ok (.bipush 80, 2) := by decide +kernel
theorem d_Round_metBy_7 : decode prog_7_method_13_code 7 = .ok (.if_icmp .ge 34, 3) := by decide +kernel
theorem d_Round_metBy_10 : decode prog_7_method_13_code 10 = .ok (.aload_n 0, 1) := by decide +kernel
theorem d_Round_metBy_11 : decode prog_7_method_13_code 11 = .ok (.getfield 9, 3) := by decide +kernel
theorem d_Round_metBy_14 : decode prog_7_method_13_code 14 = .ok (.iload_n 3, 1) := by decide +kernel
theorem d_Round_metBy_15 : decode prog_7_method_13_code 15 = .ok (.iaload, 1) := by decide +kernel
theorem d_Round_metBy_16 : decode prog_7_method_13_code 16 = .ok (.ifCond .le 19, 3) := by decide +kernel
theorem d_Round_metBy_19 : decode prog_7_method_13_code 19 = .ok (.aload_n 0, 1) := by decide +kernel
theorem d_Round_metBy_20 : decode prog_7_method_13_code 20 = .ok (.getfield 50, 3) := by decide +kernel
theorem d_Round_metBy_23 : decode prog_7_method_13_code 23 = .ok (.iload_n 3, 1) := by decide +kernel
theorem d_Round_metBy_24 : decode prog_7_method_13_code 24 = .ok (.invokevirtual 144, 3) := by decide +kernel
theorem d_Round_metBy_27 : decode prog_7_method_13_code 27 = .ok (.iload_n 2, 1) := by decide +kernel
theorem d_Round_metBy_28 : decode prog_7_method_13_code 28 = .ok (.aload_n 0, 1) := by decide +kernel
theorem d_Round_metBy_29 : decode prog_7_method_13_code 29 = .ok (.iload_n 1, 1) := by decide +kernel
theorem d_Round_metBy_30 : decode prog_7_method_13_code 30 = .ok (.invokevirtual 147, 3) := by decide +kernel
theorem d_Round_metBy_33 : decode prog_7_method_13_code 33 = .ok (.ior, 1) := by decide +kernel
theorem d_Round_metBy_34 : decode prog_7_method_13_code 34 = .ok (.istore_n 2, 1) := by decide +kernel
theorem d_Round_metBy_35 : decode prog_7_method_13_code 35 = .ok (.iinc 3 1, 3) := by decide +kernel
theorem d_Round_metBy_38 : decode prog_7_method_13_code 38 = .ok (.goto (-34), 3) := by decide +kernel
theorem d_Round_metBy_41 : decode prog_7_method_13_code 41 = .ok (.iload_n 2, 1) := by decide +kernel
theorem d_Round_metBy_42 : decode prog_7_method_13_code 42 = .ok (.ireturn, 1) := by decide +kernel
theorem mb_Round_metInPlan : MBv R_Round y_Round_metInPlan prog_7_method_14_code 4 (some .int) 1 := ⟨mT7 116 (by decide +kernel) (by decide +kernel), mT7 117 (by decide +kernel) (by decide +kernel), mT1 9 (by decide +kernel) (by decide +kernel), mT7 118 (by decide +kernel) (by decide +kernel), by decide, rfl, by decide +kernel, by decide +kernel, by decide +kernel⟩
theorem lk_Round_144 : Cond.methodLink "FeastBook$Round" 144 y_YearPlan_lay ∈ TT := mT7 114 (by decide +kernel) (by decide +kernel)
theorem lk_Round_147 : Cond.methodLink "FeastBook$Round" 147 y_Round_metInPlan ∈ TT := mT7 115 (by decide +kernel) (by decide +kernel)
set_option maxHeartbeats 4000000 in
set_option maxRecDepth 100000 in
theorem w_Round_metBy_L4 {p : Program} {l : Launch} {e : Env} {s : State} {m : MethodId} {args : Array Value} {below : List Frame} {meth : Method} {c : Code} {D : va_G} {ad : Nat → Nat} {cA : Nat → ClassId} {sd sv : Nat → Nat} {out : (Int × Hp)} (N : Nat) (hI : Inj97 ad) (C : Cx p s m args c prog_7_method_13_code 4 "FeastBook$Round" D ad cA sd sv (FA ad)) (hr : meth.sig.returnType = (some .int)) (hlk : meth.locks = false) (v1 : Int) : ∀ (n : Nat) (v2 v3 : Int) (h : Hp) (H : Heap) (locs : List Loc), Wd s D ad cA (FA ad) h H locs → ∀ ls : Array Slot, lv_has ls 4 [(0, .ref (ad 73)), (1, .int (iZ v1)), (2, .int (iZ v2)), (3, .int (iZ v3))] → Round_metBy_L4 N v1 n v2 v3 h = some out → W p l e (rmD 5) s m args below meth c H locs 0 0 (MQ below (QI D ad cA out) args s 0 0 (FA ad)) (F0 m 4 ls []) := by
  intro n
  induction n with
  | zero =>
    intro v2 v3 h H locs w ls hl hM
    rw [Round_metBy_L4] at hM
    cases hM
  | succ n ih =>
    intro v2 v3 h H locs w ls hl hM
    rw [Round_metBy_L4] at hM
    refine m_iload_n C hl 3 d_Round_metBy_4 rfl rfl ?_
    refine m_bipush C d_Round_metBy_5 (by decide) ?_
    refine m_icmp_ge C hM 41 d_Round_metBy_7 (by decide) (fun hM => ?_) (fun hM => ?_)
    · refine m_iload_n C hl 2 d_Round_metBy_41 rfl rfl ?_
      exact m_iretW C w hr hlk hM d_Round_metBy_42
    · refine m_aload_n C hl 0 d_Round_metBy_10 rfl rfl ?_
      refine m_getr C w.1 kc_Round sh_73 (Nat.le_of_ble_eq_true rfl) 4 74 rfl (by decide) fk_Round_9 d_Round_metBy_11 ?_
      refine m_iload_n C hl 3 d_Round_metBy_14 rfl rfl ?_
      refine m_iald C w.1 sh_74 (Nat.le_of_ble_eq_true rfl) (Nat.le_of_ble_eq_true rfl) hM d_Round_metBy_15 (fun x1 hM => ?_)
      refine m_if_le C hM 35 d_Round_metBy_16 (by decide) (fun hM => ?_) (fun hM => ?_)
      · refine m_iinc C hl 3 [(3, .int (iZ (v3 + 1))), (0, .ref (ad 73)), (1, .int (iZ v1)), (2, .int (iZ v2))] d_Round_metBy_35 rfl (by decide) rfl (fun ls hl => ?_)
        refine m_goto C 4 d_Round_metBy_38 (by decide) ?_
        exact ih v2 (v3 + 1) h _ _ w _ (lv_sub hl [1, 2, 3, 0] rfl) hM
      · refine m_aload_n C hl 0 d_Round_metBy_19 rfl rfl ?_
        refine m_getr C w.1 kc_Round sh_73 (Nat.le_of_ble_eq_true rfl) 2 66 rfl (by decide) fk_Round_50 d_Round_metBy_20 ?_
        refine m_iload_n C hl 3 d_Round_metBy_23 rfl rfl ?_
        obtain ⟨h3, e2, hM⟩ := bnd_some hM
        refine aftV C w (runV C w.1 w.2 kc_YearPlan sh_66 (Nat.le_of_ble_eq_true rfl) (c_YearPlan_lay hI e2) lk_Round_144 mb_YearPlan_lay rfl ⟨Nat.le_of_ble_eq_true rfl, Nat.le_of_ble_eq_true rfl⟩ ⟨Nat.zero_le _, Nat.zero_le _⟩ (Nat.le_of_ble_eq_true rfl) d_Round_metBy_24 hl.1 (rest := []) rfl) (fun H locs w => ?_)
        refine m_iload_n C hl 2 d_Round_metBy_27 rfl rfl ?_
        refine m_aload_n C hl 0 d_Round_metBy_28 rfl rfl ?_
        refine m_iload_n C hl 1 d_Round_metBy_29 rfl rfl ?_
        obtain ⟨x5, e4, hM⟩ := bnd_some hM
        refine aftR (runV C w.1 w.2 kc_Round sh_73 (Nat.le_of_ble_eq_true rfl) (c_Round_metInPlan hI e4) lk_Round_147 mb_Round_metInPlan rfl ⟨Nat.le_of_ble_eq_true rfl, Nat.le_of_ble_eq_true rfl⟩ ⟨Nat.zero_le _, Nat.zero_le _⟩ (Nat.le_of_ble_eq_true rfl) d_Round_metBy_30 hl.1 (rest := [.int (iZ v2)]) rfl) ?_
        refine m_ior C d_Round_metBy_33 ?_
        refine m_istore_n C hl [(2, .int (iZ (orI v2 x5))), (0, .ref (ad 73)), (1, .int (iZ v1)), (3, .int (iZ v3))] d_Round_metBy_34 rfl (by decide) rfl (fun ls hl => ?_)
        refine m_iinc C hl 3 [(3, .int (iZ (v3 + 1))), (2, .int (iZ (orI v2 x5))), (0, .ref (ad 73)), (1, .int (iZ v1))] d_Round_metBy_35 rfl (by decide) rfl (fun ls hl => ?_)
        refine m_goto C 4 d_Round_metBy_38 (by decide) ?_
        exact ih (orI v2 x5) (v3 + 1) h3 _ _ w _ (lv_sub hl [2, 3, 1, 0] rfl) hM
set_option maxHeartbeats 4000000 in
set_option maxRecDepth 100000 in
theorem c_Round_metBy {l : Launch} {D : va_G} {ad : Nat → Nat} {cA : Nat → ClassId} {sd sv : Nat → Nat} {h : Hp} {N : Nat} {a1 : Int} {out : (Int × Hp)} (hI : Inj97 ad) (hM : M_Round_metBy N h a1 = some out) : Met l y_Round_metBy (.code y_Round_metBy prog_7_method_13_code 4 (some .int) :: TT) (rmD 5) (PC D ad cA sd sv h [.ref (ad 73), .int (iZ a1)]) (QI D ad cA out) 0 0 (FA ad) := by
  unfold M_Round_metBy at hM
  refine entM (by decide +kernel) hI (Nat.le_of_ble_eq_true rfl) ?_
  intro p e s m args below meth c C hr hlk hP ls hl
  have C : Cx p s m args c prog_7_method_13_code 4 "FeastBook$Round" D ad cA sd sv (FA ad) := C
  have hl : lv_has ls 4 [(0, .ref (ad 73)), (1, .int (iZ a1))] := hl
  have w : Wd s D ad cA (FA ad) h s.heap [] := ⟨hP, va_S.rf⟩
  refine m_iconst C d_Round_metBy_0 ?_
  refine m_istore_n C hl [(2, .int (iZ 0)), (0, .ref (ad 73)), (1, .int (iZ a1))] d_Round_metBy_1 rfl (by decide) rfl (fun ls hl => ?_)
  refine m_iconst C d_Round_metBy_2 ?_
  refine m_istore_n C hl [(3, .int (iZ 0)), (2, .int (iZ 0)), (0, .ref (ad 73)), (1, .int (iZ a1))] d_Round_metBy_3 rfl (by decide) rfl (fun ls hl => ?_)
  exact w_Round_metBy_L4 N hI C hr hlk a1 _ 0 0 h _ _ w _ (lv_sub hl [2, 3, 1, 0] rfl) hM
def y_Round_safeRank : MethodName := ⟨"FeastBook$Round", "safeRank", "(I)I"⟩
theorem d_Round_safeRank_0 : decode prog_7_method_15_code 0 = .ok (.iconst 0, 1) := by decide +kernel
theorem d_Round_safeRank_1 : decode prog_7_method_15_code 1 = .ok (.istore_n 2, 1) := by decide +kernel
theorem d_Round_safeRank_2 : decode prog_7_method_15_code 2 = .ok (.iconst 0, 1) := by decide +kernel
theorem d_Round_safeRank_3 : decode prog_7_method_15_code 3 = .ok (.istore_n 3, 1) := by decide +kernel
theorem d_Round_safeRank_4 : decode prog_7_method_15_code 4 = .ok (.iload_n 3, 1) := by decide +kernel
theorem d_Round_safeRank_5 : decode prog_7_method_15_code 5 = .ok (.bipush 80, 2) := by decide +kernel
theorem d_Round_safeRank_7 : decode prog_7_method_15_code 7 = .ok (.if_icmp .ge 62, 3) := by decide +kernel
theorem d_Round_safeRank_10 : decode prog_7_method_15_code 10 = .ok (.aload_n 0, 1) := by decide +kernel
theorem d_Round_safeRank_11 : decode prog_7_method_15_code 11 = .ok (.getfield 9, 3) := by decide +kernel
theorem d_Round_safeRank_14 : decode prog_7_method_15_code 14 = .ok (.iload_n 3, 1) := by decide +kernel
theorem d_Round_safeRank_15 : decode prog_7_method_15_code 15 = .ok (.iaload, 1) := by decide +kernel
theorem d_Round_safeRank_16 : decode prog_7_method_15_code 16 = .ok (.ifCond .le 47, 3) := by decide +kernel
theorem d_Round_safeRank_19 : decode prog_7_method_15_code 19 = .ok (.aload_n 0, 1) := by decide +kernel
theorem d_Round_safeRank_20 : decode prog_7_method_15_code 20 = .ok (.getfield 50, 3) := by decide +kernel
theorem d_Round_safeRank_23 : decode prog_7_method_15_code 23 = .ok (.iload_n 3, 1) := by decide +kernel
theorem d_Round_safeRank_24 : decode prog_7_method_15_code 24 = .ok (.invokevirtual 144, 3) := by decide +kernel
theorem d_Round_safeRank_27 : decode prog_7_method_15_code 27 = .ok (.aload_n 0, 1) := by decide +kernel
theorem d_Round_safeRank_28 : decode prog_7_method_15_code 28 = .ok (.getfield 50, 3) := by decide +kernel
theorem d_Round_safeRank_31 : decode prog_7_method_15_code 31 = .ok (.getfield 91, 3) := by decide +kernel
theorem d_Round_safeRank_34 : decode prog_7_method_15_code 34 = .ok (.iload_n 1, 1) := by decide +kernel
theorem d_Round_safeRank_35 : decode prog_7_method_15_code 35 = .ok (.iaload, 1) := by decide +kernel
theorem d_Round_safeRank_36 : decode prog_7_method_15_code 36 = .ok (.istore 4, 2) := by decide +kernel
theorem d_Round_safeRank_38 : decode prog_7_method_15_code 38 = .ok (.iload 4, 2) := by decide +kernel
theorem d_Round_safeRank_40 : decode prog_7_method_15_code 40 = .ok (.iconst (-1), 1) := by decide +kernel
theorem d_Round_safeRank_41 : decode prog_7_method_15_code 41 = .ok (.if_icmp .ne 7, 3) := by decide +kernel
theorem d_Round_safeRank_44 : decode prog_7_method_15_code 44 = .ok (.iload_n 2, 1) := by decide +kernel
theorem d_Round_safeRank_45 : decode prog_7_method_15_code 45 = .ok (.goto 17, 3) := by decide +kernel
theorem d_Round_safeRank_48 : decode prog_7_method_15_code 48 = .ok (.iload_n 2, 1) := by decide +kernel
theorem d_Round_safeRank_49 : decode prog_7_method_15_code 49 = .ok (.aload_n 0, 1) := by decide +kernel
theorem d_Round_safeRank_50 : decode prog_7_method_15_code 50 = .ok (.getfield 50, 3) := by decide +kernel
theorem d_Round_safeRank_53 : decode prog_7_method_15_code 53 = .ok (.iload_n 1, 1) := by decide +kernel
theorem d_Round_safeRank_54 : decode prog_7_method_15_code 54 = .ok (.iload 4, 2) := by decide +kernel
theorem d_Round_safeRank_56 : decode prog_7_method_15_code 56 = .ok (.invokevirtual 150, 3) := by decide +kernel
theorem d_Round_safeRank_59 : decode prog_7_method_15_code 59 = .ok (.invokestatic 134, 3) := by decide +kernel
theorem d_Round_safeRank_62 : decode prog_7_method_15_code 62 = .ok (.istore_n 2, 1) := by decide +kernel
theorem d_Round_safeRank_63 : decode prog_7_method_15_code 63 = .ok (.iinc 3 1, 3) := by decide +kernel
theorem d_Round_safeRank_66 : decode prog_7_method_15_code 66 = .ok (.goto (-62), 3) := by decide +kernel
theorem d_Round_safeRank_69 : decode prog_7_method_15_code 69 = .ok (.iconst 1, 1) := by decide +kernel
theorem d_Round_safeRank_70 : decode prog_7_method_15_code 70 = .ok (.istore_n 3, 1) := by decide +kernel
theorem d_Round_safeRank_71 : decode prog_7_method_15_code 71 = .ok (.iload_n 3, 1) := by decide +kernel
theorem d_Round_safeRank_72 : decode prog_7_method_15_code 72 = .ok (.bipush 9, 2) := by decide +kernel
theorem d_Round_safeRank_74 : decode prog_7_method_15_code 74 = .ok (.if_icmp .gt 24, 3) := by decide +kernel
theorem d_Round_safeRank_77 : decode prog_7_method_15_code 77 = .ok (.aload_n 0, 1) := by decide +kernel
theorem d_Round_safeRank_78 : decode prog_7_method_15_code 78 = .ok (.getfield 49, 3) := by decide +kernel
theorem d_Round_safeRank_81 : decode prog_7_method_15_code 81 = .ok (.iload_n 1, 1) := by decide +kernel
theorem d_Round_safeRank_82 : decode prog_7_method_15_code 82 = .ok (.iload_n 3, 1) := by decide +kernel
theorem d_Round_safeRank_83 : decode prog_7_method_15_code 83 = .ok (.invokevirtual 153, 3) := by decide +kernel
theorem d_Round_safeRank_86 : decode prog_7_method_15_code 86 = .ok (.iload_n 2, 1) := by decide +kernel
theorem d_Round_safeRank_87 : decode prog_7_method_15_code 87 = .ok (.if_icmp .le 5, 3) := by decide +kernel
theorem d_Round_safeRank_90 : decode prog_7_method_15_code 90 = .ok (.iload_n 3, 1) := by decide +kernel
theorem d_Round_safeRank_91 : decode prog_7_method_15_code 91 = .ok (.ireturn, 1) := by decide +kernel
theorem d_Round_safeRank_92 : decode prog_7_method_15_code 92 = .ok (.iinc 3 1, 3) := by decide +kernel
theorem d_Round_safeRank_95 : decode prog_7_method_15_code 95 = .ok (.goto (-24), 3) := by decide +kernel
theorem d_Round_safeRank_98 : decode prog_7_method_15_code 98 = .ok (.iconst (-1), 1) := by decide +kernel
theorem d_Round_safeRank_99 : decode prog_7_method_15_code 99 = .ok (.ireturn, 1) := by decide +kernel
theorem mb_YearPlan_greatestOfOthers : MBv R_YearPlan y_YearPlan_greatestOfOthers prog_11_method_34_code 5 (some .int) 2 := ⟨mT7 143 (by decide +kernel) (by decide +kernel), mT7 144 (by decide +kernel) (by decide +kernel), mT1 8 (by decide +kernel) (by decide +kernel), mT7 145 (by decide +kernel) (by decide +kernel), by decide, rfl, by decide +kernel, by decide +kernel, by decide +kernel⟩
theorem lk_Round_150 : Cond.methodLink "FeastBook$Round" 150 y_YearPlan_greatestOfOthers ∈ TT := mT7 142 (by decide +kernel) (by decide +kernel)
theorem lk_Round_153 : Cond.methodLink "FeastBook$Round" 153 y_Feasts_claimWith ∈ TT := mT7 150 (by decide +kernel) (by decide +kernel)
set_option maxHeartbeats 4000000 in
set_option maxRecDepth 100000 in
theorem w_Round_safeRank_L4 {p : Program} {l : Launch} {e : Env} {s : State} {m : MethodId} {args : Array Value} {below : List Frame} {meth : Method} {c : Code} {D : va_G} {ad : Nat → Nat} {cA : Nat → ClassId} {sd sv : Nat → Nat} {out : (Int × Hp)} (N : Nat) (hI : Inj97 ad) (C : Cx p s m args c prog_7_method_15_code 5 "FeastBook$Round" D ad cA sd sv (FA ad)) (hr : meth.sig.returnType = (some .int)) (hlk : meth.locks = false) (v1 : Int) (k : Int → Int → Hp → Option (Int × Hp)) (kW : ∀ (v2 v3 : Int) (h : Hp), k v2 v3 h = some out → ∀ (H : Heap) (locs : List Loc), Wd s D ad cA (FA ad) h H locs → ∀ ls : Array Slot, lv_has ls 5 [(0, .ref (ad 73)), (1, .int (iZ v1)), (2, .int (iZ v2)), (3, .int (iZ v3))] → W p l e (rmD 5) s m args below meth c H locs 0 0 (MQ below (QI D ad cA out) args s 0 0 (FA ad)) (F0 m 69 ls [])) : ∀ (n : Nat) (v2 v3 : Int) (h : Hp) (H : Heap) (locs : List Loc), Wd s D ad cA (FA ad) h H locs → ∀ ls : Array Slot, lv_has ls 5 [(0, .ref (ad 73)), (1, .int (iZ v1)), (2, .int (iZ v2)), (3, .int (iZ v3))] → Round_safeRank_L4 N v1 k n v2 v3 h = some out → W p l e (rmD 5) s m args below meth c H locs 0 0 (MQ below (QI D ad cA out) args s 0 0 (FA ad)) (F0 m 4 ls []) := by
  intro n
  induction n with
  | zero =>
    intro v2 v3 h H locs w ls hl hM
    rw [Round_safeRank_L4] at hM
    cases hM
  | succ n ih =>
    intro v2 v3 h H locs w ls hl hM
    rw [Round_safeRank_L4] at hM
    refine m_iload_n C hl 3 d_Round_safeRank_4 rfl rfl ?_
    refine m_bipush C d_Round_safeRank_5 (by decide) ?_
    refine m_icmp_ge C hM 69 d_Round_safeRank_7 (by decide) (fun hM => ?_) (fun hM => ?_)
    · exact kW v2 v3 h hM _ _ w _ hl
    · refine m_aload_n C hl 0 d_Round_safeRank_10 rfl rfl ?_
      refine m_getr C w.1 kc_Round sh_73 (Nat.le_of_ble_eq_true rfl) 4 74 rfl (by decide) fk_Round_9 d_Round_safeRank_11 ?_
      refine m_iload_n C hl 3 d_Round_safeRank_14 rfl rfl ?_
      refine m_iald C w.1 sh_74 (Nat.le_of_ble_eq_true rfl) (Nat.le_of_ble_eq_true rfl) hM d_Round_safeRank_15 (fun x1 hM => ?_)
      refine m_if_le C hM 63 d_Round_safeRank_16 (by decide) (fun hM => ?_) (fun hM => ?_)
      · refine m_iinc C hl 3 [(3, .int (iZ (v3 + 1))), (0, .ref (ad 73)), (1, .int (iZ v1)), (2, .int (iZ v2))] d_Round_safeRank_63 rfl (by decide) rfl (fun ls hl => ?_)
        refine m_goto C 4 d_Round_safeRank_66 (by decide) ?_
        exact ih v2 (v3 + 1) h _ _ w _ (lv_sub hl [1, 2, 3, 0] rfl) hM
      · refine m_aload_n C hl 0 d_Round_safeRank_19 rfl rfl ?_
        refine m_getr C w.1 kc_Round sh_73 (Nat.le_of_ble_eq_true rfl) 2 66 rfl (by decide) fk_Round_50 d_Round_safeRank_20 ?_
        refine m_iload_n C hl 3 d_Round_safeRank_23 rfl rfl ?_
        obtain ⟨h3, e2, hM⟩ := bnd_some hM
        refine aftV C w (runV C w.1 w.2 kc_YearPlan sh_66 (Nat.le_of_ble_eq_true rfl) (c_YearPlan_lay hI e2) lk_Round_144 mb_YearPlan_lay rfl ⟨Nat.le_of_ble_eq_true rfl, Nat.le_of_ble_eq_true rfl⟩ ⟨Nat.zero_le _, Nat.zero_le _⟩ (Nat.le_of_ble_eq_true rfl) d_Round_safeRank_24 hl.1 (rest := []) rfl) (fun H locs w => ?_)
        refine m_aload_n C hl 0 d_Round_safeRank_27 rfl rfl ?_
        refine m_getr C w.1 kc_Round sh_73 (Nat.le_of_ble_eq_true rfl) 2 66 rfl (by decide) fk_Round_50 d_Round_safeRank_28 ?_
        refine m_getr C w.1 kc_YearPlan sh_66 (Nat.le_of_ble_eq_true rfl) 8 69 rfl (by decide) fk_Round_91 d_Round_safeRank_31 ?_
        refine m_iload_n C hl 1 d_Round_safeRank_34 rfl rfl ?_
        refine m_iald C w.1 sh_69 (Nat.le_of_ble_eq_true rfl) (Nat.le_of_ble_eq_true rfl) hM d_Round_safeRank_35 (fun x4 hM => ?_)
        refine m_istore C hl [(4, .int (iZ x4)), (0, .ref (ad 73)), (1, .int (iZ v1)), (2, .int (iZ v2)), (3, .int (iZ v3))] d_Round_safeRank_36 (by decide) rfl (fun ls hl => ?_)
        refine m_iload C hl 0 d_Round_safeRank_38 rfl ?_
        refine m_iconst C d_Round_safeRank_40 ?_
        refine m_icmp_ne C hM 48 d_Round_safeRank_41 (by decide) (fun hM => ?_) (fun hM => ?_)
        · refine m_iload_n C hl 3 d_Round_safeRank_48 rfl rfl ?_
          refine m_aload_n C hl 1 d_Round_safeRank_49 rfl rfl ?_
          refine m_getr C w.1 kc_Round sh_73 (Nat.le_of_ble_eq_true rfl) 2 66 rfl (by decide) fk_Round_50 d_Round_safeRank_50 ?_
          refine m_iload_n C hl 2 d_Round_safeRank_53 rfl rfl ?_
          refine m_iload C hl 0 d_Round_safeRank_54 rfl ?_
          obtain ⟨x6, e5, hM⟩ := bnd_some hM
          refine aftR (runV C w.1 w.2 kc_YearPlan sh_66 (Nat.le_of_ble_eq_true rfl) (c_YearPlan_greatestOfOthers hI e5) lk_Round_150 mb_YearPlan_greatestOfOthers rfl ⟨Nat.le_of_ble_eq_true rfl, Nat.le_of_ble_eq_true rfl⟩ ⟨Nat.zero_le _, Nat.zero_le _⟩ (Nat.le_of_ble_eq_true rfl) d_Round_safeRank_56 hl.1 (rest := [.int (iZ v2)]) rfl) ?_
          refine m_max C lk_Round_134 hl.1 (Nat.le_of_ble_eq_true rfl) (Nat.le_of_ble_eq_true rfl) ⟨Nat.zero_le _, Nat.zero_le _⟩ d_Round_safeRank_59 ?_
          refine m_istore_n C hl [(2, .int (iZ (mxI v2 x6))), (4, .int (iZ x4)), (0, .ref (ad 73)), (1, .int (iZ v1)), (3, .int (iZ v3))] d_Round_safeRank_62 rfl (by decide) rfl (fun ls hl => ?_)
          refine m_iinc C hl 4 [(3, .int (iZ (v3 + 1))), (2, .int (iZ (mxI v2 x6))), (4, .int (iZ x4)), (0, .ref (ad 73)), (1, .int (iZ v1))] d_Round_safeRank_63 rfl (by decide) rfl (fun ls hl => ?_)
          refine m_goto C 4 d_Round_safeRank_66 (by decide) ?_
          exact ih (mxI v2 x6) (v3 + 1) h3 _ _ w _ (lv_sub hl [3, 4, 1, 0] rfl) hM
        · refine m_iload_n C hl 3 d_Round_safeRank_44 rfl rfl ?_
          refine m_goto C 62 d_Round_safeRank_45 (by decide) ?_
          refine m_istore_n C hl [(2, .int (iZ v2)), (4, .int (iZ x4)), (0, .ref (ad 73)), (1, .int (iZ v1)), (3, .int (iZ v3))] d_Round_safeRank_62 rfl (by decide) rfl (fun ls hl => ?_)
          refine m_iinc C hl 4 [(3, .int (iZ (v3 + 1))), (2, .int (iZ v2)), (4, .int (iZ x4)), (0, .ref (ad 73)), (1, .int (iZ v1))] d_Round_safeRank_63 rfl (by decide) rfl (fun ls hl => ?_)
          refine m_goto C 4 d_Round_safeRank_66 (by decide) ?_
          exact ih v2 (v3 + 1) h3 _ _ w _ (lv_sub hl [3, 4, 1, 0] rfl) hM
set_option maxHeartbeats 4000000 in
set_option maxRecDepth 100000 in
theorem w_Round_safeRank_L71 {p : Program} {l : Launch} {e : Env} {s : State} {m : MethodId} {args : Array Value} {below : List Frame} {meth : Method} {c : Code} {D : va_G} {ad : Nat → Nat} {cA : Nat → ClassId} {sd sv : Nat → Nat} {out : (Int × Hp)} (N : Nat) (hI : Inj97 ad) (C : Cx p s m args c prog_7_method_15_code 5 "FeastBook$Round" D ad cA sd sv (FA ad)) (hr : meth.sig.returnType = (some .int)) (hlk : meth.locks = false) (v1 v2 : Int) (h : Hp) (H : Heap) (locs : List Loc) (w : Wd s D ad cA (FA ad) h H locs) : ∀ (n : Nat) (v3 : Int), ∀ ls : Array Slot, lv_has ls 5 [(0, .ref (ad 73)), (1, .int (iZ v1)), (2, .int (iZ v2)), (3, .int (iZ v3))] → Round_safeRank_L71 N h v1 v2 n v3 = some out → W p l e (rmD 5) s m args below meth c H locs 0 0 (MQ below (QI D ad cA out) args s 0 0 (FA ad)) (F0 m 71 ls []) := by
  intro n
  induction n with
  | zero =>
    intro v3 ls hl hM
    rw [Round_safeRank_L71] at hM
    cases hM
  | succ n ih =>
    intro v3 ls hl hM
    rw [Round_safeRank_L71] at hM
    refine m_iload_n C hl 3 d_Round_safeRank_71 rfl rfl ?_
    refine m_bipush C d_Round_safeRank_72 (by decide) ?_
    refine m_icmp_gt C hM 98 d_Round_safeRank_74 (by decide) (fun hM => ?_) (fun hM => ?_)
    · refine m_iconst C d_Round_safeRank_98 ?_
      exact m_iretW C w hr hlk hM d_Round_safeRank_99
    · refine m_aload_n C hl 0 d_Round_safeRank_77 rfl rfl ?_
      refine m_getr C w.1 kc_Round sh_73 (Nat.le_of_ble_eq_true rfl) 1 33 rfl (by decide) fk_Round_49 d_Round_safeRank_78 ?_
      refine m_iload_n C hl 1 d_Round_safeRank_81 rfl rfl ?_
      refine m_iload_n C hl 3 d_Round_safeRank_82 rfl rfl ?_
      obtain ⟨x9, e8, hM⟩ := bnd_some hM
      refine aftR (runV C w.1 w.2 kc_Feasts sh_33 (Nat.le_of_ble_eq_true rfl) (c_Feasts_claimWith hI (Or.inr (Or.inl rfl)) e8) lk_Round_153 mb_Feasts_claimWith rfl ⟨Nat.le_of_ble_eq_true rfl, Nat.le_of_ble_eq_true rfl⟩ ⟨Nat.zero_le _, Nat.zero_le _⟩ (Nat.le_of_ble_eq_true rfl) d_Round_safeRank_83 hl.1 (rest := []) rfl) ?_
      refine m_iload_n C hl 2 d_Round_safeRank_86 rfl rfl ?_
      refine m_icmp_le C hM 92 d_Round_safeRank_87 (by decide) (fun hM => ?_) (fun hM => ?_)
      · refine m_iinc C hl 3 [(3, .int (iZ (v3 + 1))), (0, .ref (ad 73)), (1, .int (iZ v1)), (2, .int (iZ v2))] d_Round_safeRank_92 rfl (by decide) rfl (fun ls hl => ?_)
        refine m_goto C 71 d_Round_safeRank_95 (by decide) ?_
        exact ih (v3 + 1) _ (lv_sub hl [1, 2, 3, 0] rfl) hM
      · refine m_iload_n C hl 3 d_Round_safeRank_90 rfl rfl ?_
        exact m_iretW C w hr hlk hM d_Round_safeRank_91
set_option maxHeartbeats 4000000 in
set_option maxRecDepth 100000 in
theorem c_Round_safeRank {l : Launch} {D : va_G} {ad : Nat → Nat} {cA : Nat → ClassId} {sd sv : Nat → Nat} {h : Hp} {N : Nat} {a1 : Int} {out : (Int × Hp)} (hI : Inj97 ad) (hM : M_Round_safeRank N h a1 = some out) : Met l y_Round_safeRank (.code y_Round_safeRank prog_7_method_15_code 5 (some .int) :: TT) (rmD 5) (PC D ad cA sd sv h [.ref (ad 73), .int (iZ a1)]) (QI D ad cA out) 0 0 (FA ad) := by
  unfold M_Round_safeRank at hM
  refine entM (by decide +kernel) hI (Nat.le_of_ble_eq_true rfl) ?_
  intro p e s m args below meth c C hr hlk hP ls hl
  have C : Cx p s m args c prog_7_method_15_code 5 "FeastBook$Round" D ad cA sd sv (FA ad) := C
  have hl : lv_has ls 5 [(0, .ref (ad 73)), (1, .int (iZ a1))] := hl
  have w : Wd s D ad cA (FA ad) h s.heap [] := ⟨hP, va_S.rf⟩
  refine m_iconst C d_Round_safeRank_0 ?_
  refine m_istore_n C hl [(2, .int (iZ 0)), (0, .ref (ad 73)), (1, .int (iZ a1))] d_Round_safeRank_1 rfl (by decide) rfl (fun ls hl => ?_)
  refine m_iconst C d_Round_safeRank_2 ?_
  refine m_istore_n C hl [(3, .int (iZ 0)), (2, .int (iZ 0)), (0, .ref (ad 73)), (1, .int (iZ a1))] d_Round_safeRank_3 rfl (by decide) rfl (fun ls hl => ?_)
  refine w_Round_safeRank_L4 N hI C hr hlk a1 _ (fun v2_7 v3_7 h_7 hM H locs w ls hl => ?_) _ 0 0 h _ _ w _ (lv_sub hl [2, 3, 1, 0] rfl) hM
  refine m_iconst C d_Round_safeRank_69 ?_
  refine m_istore_n C hl [(3, .int (iZ 1)), (0, .ref (ad 73)), (1, .int (iZ a1)), (2, .int (iZ v2_7))] d_Round_safeRank_70 rfl (by decide) rfl (fun ls hl => ?_)
  exact w_Round_safeRank_L71 N hI C hr hlk a1 v2_7 h_7 _ _ w _ 1 _ (lv_sub hl [1, 2, 3, 0] rfl) hM
def y_Round_firstOn : MethodName := ⟨"FeastBook$Round", "firstOn", "(III)I"⟩
theorem d_Round_firstOn_0 : decode prog_7_method_16_code 0 = .ok (.iload_n 3, 1) := by decide +kernel
theorem d_Round_firstOn_1 : decode prog_7_method_16_code 1 = .ok (.istore 4, 2) := by decide +kernel
theorem d_Round_firstOn_3 : decode prog_7_method_16_code 3 = .ok (.iload 4, 2) := by decide +kernel
theorem d_Round_firstOn_5 : decode prog_7_method_16_code 5 = .ok (.iload_n 3, 1) := by decide +kernel
theorem d_Round_firstOn_6 : decode prog_7_method_16_code 6 = .ok (.aload_n 0, 1) := by decide +kernel
theorem d_Round_firstOn_7 : decode prog_7_method_16_code 7 = .ok (.getfield 71, 3) := by decide +kernel
theorem d_Round_firstOn_10 : decode prog_7_method_16_code 10 = .ok (.iadd, 1) := by decide +kernel
theorem d_Round_firstOn_11 : decode prog_7_method_16_code 11 = .ok (.if_icmp .ge 73, 3) := by decide +kernel
theorem d_Round_firstOn_14 : decode prog_7_method_16_code 14 = .ok (.iload 4, 2) := by decide +kernel
theorem d_Round_firstOn_16 : decode prog_7_method_16_code 16 = .ok (.sipush 9999, 3) := by decide +kernel
theorem d_Round_firstOn_19 : decode prog_7_method_16_code 19 = .ok (.if_icmp .gt 65, 3) := by decide +kernel
theorem d_Round_firstOn_22 : decode prog_7_method_16_code 22 = .ok (.aload_n 0, 1) := by decide +kernel
theorem d_Round_firstOn_23 : decode prog_7_method_16_code 23 = .ok (.getfield 39, 3) := by decide +kernel
theorem d_Round_firstOn_26 : decode prog_7_method_16_code 26 = .ok (.iload 4, 2) := by decide +kernel
theorem d_Round_firstOn_28 : decode prog_7_method_16_code 28 = .ok (.invokevirtual 75, 3) := by decide +kernel
theorem d_Round_firstOn_31 : decode prog_7_method_16_code 31 = .ok (.istore 5, 2) := by decide +kernel
theorem d_Round_firstOn_33 : decode prog_7_method_16_code 33 = .ok (.aload_n 0, 1) := by decide +kernel
theorem d_Round_firstOn_34 : decode prog_7_method_16_code 34 = .ok (.getfield 21, 3) := by decide +kernel
theorem d_Round_firstOn_37 : decode prog_7_method_16_code 37 = .ok (.iload 5, 2) := by decide +kernel
theorem d_Round_firstOn_39 : decode prog_7_method_16_code 39 = .ok (.bipush 12, 2) := by decide +kernel
theorem d_Round_firstOn_41 : decode prog_7_method_16_code 41 = .ok (.imul, 1) := by decide +kernel
theorem d_Round_firstOn_42 : decode prog_7_method_16_code 42 = .ok (.iload_n 1, 1) := by decide +kernel
theorem d_Round_firstOn_43 : decode prog_7_method_16_code 43 = .ok (.iadd, 1) := by decide +kernel
theorem d_Round_firstOn_44 : decode prog_7_method_16_code 44 = .ok (.iaload, 1) := by decide +kernel
theorem d_Round_firstOn_45 : decode prog_7_method_16_code 45 = .ok (.istore 6, 2) := by decide +kernel
theorem d_Round_firstOn_47 : decode prog_7_method_16_code 47 = .ok (.iload 6, 2) := by decide +kernel
theorem d_Round_firstOn_49 : decode prog_7_method_16_code 49 = .ok (.iconst (-1), 1) := by decide +kernel
theorem d_Round_firstOn_50 : decode prog_7_method_16_code 50 = .ok (.if_icmp .eq 28, 3) := by decide +kernel
theorem d_Round_firstOn_53 : decode prog_7_method_16_code 53 = .ok (.aload_n 0, 1) := by decide +kernel
theorem d_Round_firstOn_54 : decode prog_7_method_16_code 54 = .ok (.getfield 39, 3) := by decide +kernel
theorem d_Round_firstOn_57 : decode prog_7_method_16_code 57 = .ok (.aload_n 0, 1) := by decide +kernel
theorem d_Round_firstOn_58 : decode prog_7_method_16_code 58 = .ok (.getfield 39, 3) := by decide +kernel
theorem d_Round_firstOn_61 : decode prog_7_method_16_code 61 = .ok (.iload 5, 2) := by decide +kernel
theorem d_Round_firstOn_63 : decode prog_7_method_16_code 63 = .ok (.invokevirtual 156, 3) := by decide +kernel
theorem d_Round_firstOn_66 : decode prog_7_method_16_code 66 = .ok (.iload 6, 2) := by decide +kernel
theorem d_Round_firstOn_68 : decode prog_7_method_16_code 68 = .ok (.invokevirtual 159, 3) := by decide +kernel
theorem d_Round_firstOn_71 : decode prog_7_method_16_code 71 = .ok (.iload_n 2, 1) := by decide +kernel
theorem d_Round_firstOn_72 : decode prog_7_method_16_code 72 = .ok (.if_icmp .ne 6, 3) := by decide +kernel
theorem d_Round_firstOn_75 : decode prog_7_method_16_code 75 = .ok (.iload 4, 2) := by decide +kernel
theorem d_Round_firstOn_77 : decode prog_7_method_16_code 77 = .ok (.ireturn, 1) := by decide +kernel
theorem d_Round_firstOn_78 : decode prog_7_method_16_code 78 = .ok (.iinc 4 1, 3) := by decide +kernel
theorem d_Round_firstOn_81 : decode prog_7_method_16_code 81 = .ok (.goto (-78), 3) := by decide +kernel
theorem d_Round_firstOn_84 : decode prog_7_method_16_code 84 = .ok (.iconst (-1), 1) := by decide +kernel
theorem d_Round_firstOn_85 : decode prog_7_method_16_code 85 = .ok (.ireturn, 1) := by decide +kernel
theorem lk_Round_156 : Cond.methodLink "FeastBook$Round" 156 y_Book_paschIn ∈ TT := mT7 162 (by decide +kernel) (by decide +kernel)
theorem lk_Round_159 : Cond.methodLink "FeastBook$Round" 159 y_Book_weekdayFrom ∈ TT := mT7 163 (by decide +kernel) (by decide +kernel)
set_option maxHeartbeats 4000000 in
set_option maxRecDepth 100000 in
theorem w_Round_firstOn_L3 {p : Program} {l : Launch} {e : Env} {s : State} {m : MethodId} {args : Array Value} {below : List Frame} {meth : Method} {c : Code} {D : va_G} {ad : Nat → Nat} {cA : Nat → ClassId} {sd sv : Nat → Nat} {out : Int} (N : Nat) (hI : Inj97 ad) (C : Cx p s m args c prog_7_method_16_code 7 "FeastBook$Round" D ad cA sd sv (FA ad)) (hr : meth.sig.returnType = (some .int)) (hlk : meth.locks = false) (v1 v2 v3 : Int) (h : Hp) (hP : va_P D clL (wl ad cA h) s.heap) : ∀ (n : Nat) (v4 : Int), ∀ ls : Array Slot, lv_has ls 7 [(0, .ref (ad 73)), (1, .int (iZ v1)), (2, .int (iZ v2)), (3, .int (iZ v3)), (4, .int (iZ v4))] → Round_firstOn_L3 N h v1 v2 v3 n v4 = some out → W p l e (rmD 4) s m args below meth c s.heap [] 0 0 (MQ below (QR out) args s 0 0 (fun _ => False)) (F0 m 3 ls []) := by
  intro n
  induction n with
  | zero =>
    intro v4 ls hl hM
    rw [Round_firstOn_L3] at hM
    cases hM
  | succ n ih =>
    intro v4 ls hl hM
    rw [Round_firstOn_L3] at hM
    refine m_iload C hl 4 d_Round_firstOn_3 rfl ?_
    refine m_iload_n C hl 3 d_Round_firstOn_5 rfl rfl ?_
    refine m_aload_n C hl 0 d_Round_firstOn_6 rfl rfl ?_
    refine m_geti C hP kc_Round sh_73 (Nat.le_of_ble_eq_true rfl) 3 rfl (by decide) fk_Round_71 d_Round_firstOn_7 ?_
    refine m_iadd C d_Round_firstOn_10 ?_
    refine m_icmp_ge C hM 84 d_Round_firstOn_11 (by decide) (fun hM => ?_) (fun hM => ?_)
    · refine m_iconst C d_Round_firstOn_84 ?_
      exact m_iretR C hr hlk hM d_Round_firstOn_85
    · refine m_iload C hl 4 d_Round_firstOn_14 rfl ?_
      refine m_sipush C d_Round_firstOn_16 (by decide) ?_
      refine m_icmp_gt C hM 84 d_Round_firstOn_19 (by decide) (fun hM => ?_) (fun hM => ?_)
      · refine m_iconst C d_Round_firstOn_84 ?_
        exact m_iretR C hr hlk hM d_Round_firstOn_85
      · refine m_aload_n C hl 0 d_Round_firstOn_22 rfl rfl ?_
        refine m_getr C hP kc_Round sh_73 (Nat.le_of_ble_eq_true rfl) 0 23 rfl (by decide) fk_Round_39 d_Round_firstOn_23 ?_
        refine m_iload C hl 4 d_Round_firstOn_26 rfl ?_
        obtain ⟨x2, e1, hM⟩ := bnd_some hM
        refine aftR (runV C hP va_S.rf kc_Book sh_23 (Nat.le_of_ble_eq_true rfl) (c_Book_sortOf hI (Or.inr (Or.inl rfl)) e1) lk_Round_75 mb_Book_sortOf rfl ⟨Nat.le_of_ble_eq_true rfl, Nat.le_of_ble_eq_true rfl⟩ ⟨Nat.zero_le _, Nat.zero_le _⟩ (Nat.le_of_ble_eq_true rfl) d_Round_firstOn_28 hl.1 (rest := []) rfl) ?_
        refine m_istore C hl [(5, .int (iZ x2)), (0, .ref (ad 73)), (1, .int (iZ v1)), (2, .int (iZ v2)), (3, .int (iZ v3)), (4, .int (iZ v4))] d_Round_firstOn_31 (by decide) rfl (fun ls hl => ?_)
        refine m_aload_n C hl 1 d_Round_firstOn_33 rfl rfl ?_
        refine m_getr C hP kc_Round sh_73 (Nat.le_of_ble_eq_true rfl) 9 77 rfl (by decide) fk_Round_21 d_Round_firstOn_34 ?_
        refine m_iload C hl 0 d_Round_firstOn_37 rfl ?_
        refine m_bipush C d_Round_firstOn_39 (by decide) ?_
        refine m_imul C d_Round_firstOn_41 ?_
        refine m_iload_n C hl 2 d_Round_firstOn_42 rfl rfl ?_
        refine m_iadd C d_Round_firstOn_43 ?_
        refine m_iald C hP sh_77 (Nat.le_of_ble_eq_true rfl) (Nat.le_of_ble_eq_true rfl) hM d_Round_firstOn_44 (fun x3 hM => ?_)
        refine m_istore C hl [(6, .int (iZ x3)), (5, .int (iZ x2)), (0, .ref (ad 73)), (1, .int (iZ v1)), (2, .int (iZ v2)), (3, .int (iZ v3)), (4, .int (iZ v4))] d_Round_firstOn_45 (by decide) rfl (fun ls hl => ?_)
        refine m_iload C hl 0 d_Round_firstOn_47 rfl ?_
        refine m_iconst C d_Round_firstOn_49 ?_
        refine m_icmp_eq C hM 78 d_Round_firstOn_50 (by decide) (fun hM => ?_) (fun hM => ?_)
        · refine m_iinc C hl 6 [(4, .int (iZ (v4 + 1))), (6, .int (iZ x3)), (5, .int (iZ x2)), (0, .ref (ad 73)), (1, .int (iZ v1)), (2, .int (iZ v2)), (3, .int (iZ v3))] d_Round_firstOn_78 rfl (by decide) rfl (fun ls hl => ?_)
          refine m_goto C 3 d_Round_firstOn_81 (by decide) ?_
          exact ih (v4 + 1) _ (lv_sub hl [3, 4, 5, 6, 0] rfl) hM
        · refine m_aload_n C hl 2 d_Round_firstOn_53 rfl rfl ?_
          refine m_getr C hP kc_Round sh_73 (Nat.le_of_ble_eq_true rfl) 0 23 rfl (by decide) fk_Round_39 d_Round_firstOn_54 ?_
          refine m_aload_n C hl 2 d_Round_firstOn_57 rfl rfl ?_
          refine m_getr C hP kc_Round sh_73 (Nat.le_of_ble_eq_true rfl) 0 23 rfl (by decide) fk_Round_39 d_Round_firstOn_58 ?_
          refine m_iload C hl 1 d_Round_firstOn_61 rfl ?_
          obtain ⟨x5, e4, hM⟩ := bnd_some hM
          refine aftR (runV C hP va_S.rf kc_Book sh_23 (Nat.le_of_ble_eq_true rfl) (c_Book_paschIn hI (Or.inr (Or.inl rfl)) e4) lk_Round_156 mb_Book_paschIn rfl ⟨Nat.le_of_ble_eq_true rfl, Nat.le_of_ble_eq_true rfl⟩ ⟨Nat.zero_le _, Nat.zero_le _⟩ (Nat.le_of_ble_eq_true rfl) d_Round_firstOn_63 hl.1 (rest := [.ref (ad 23)]) rfl) ?_
          refine m_iload C hl 0 d_Round_firstOn_66 rfl ?_
          obtain ⟨x7, e6, hM⟩ := bnd_some hM
          refine aftR (runV C hP va_S.rf kc_Book sh_23 (Nat.le_of_ble_eq_true rfl) (c_Book_weekdayFrom hI (Or.inr (Or.inl rfl)) e6) lk_Round_159 mb_Book_weekdayFrom rfl ⟨Nat.le_of_ble_eq_true rfl, Nat.le_of_ble_eq_true rfl⟩ ⟨Nat.zero_le _, Nat.zero_le _⟩ (Nat.le_of_ble_eq_true rfl) d_Round_firstOn_68 hl.1 (rest := []) rfl) ?_
          refine m_iload_n C hl 4 d_Round_firstOn_71 rfl rfl ?_
          refine m_icmp_ne C hM 78 d_Round_firstOn_72 (by decide) (fun hM => ?_) (fun hM => ?_)
          · refine m_iinc C hl 6 [(4, .int (iZ (v4 + 1))), (6, .int (iZ x3)), (5, .int (iZ x2)), (0, .ref (ad 73)), (1, .int (iZ v1)), (2, .int (iZ v2)), (3, .int (iZ v3))] d_Round_firstOn_78 rfl (by decide) rfl (fun ls hl => ?_)
            refine m_goto C 3 d_Round_firstOn_81 (by decide) ?_
            exact ih (v4 + 1) _ (lv_sub hl [3, 4, 5, 6, 0] rfl) hM
          · refine m_iload C hl 6 d_Round_firstOn_75 rfl ?_
            exact m_iretR C hr hlk hM d_Round_firstOn_77
set_option maxHeartbeats 4000000 in
set_option maxRecDepth 100000 in
theorem c_Round_firstOn {l : Launch} {D : va_G} {ad : Nat → Nat} {cA : Nat → ClassId} {sd sv : Nat → Nat} {h : Hp} {N : Nat} {a1 a2 a3 : Int} {out : Int} (hI : Inj97 ad) (hM : M_Round_firstOn N h a1 a2 a3 = some out) : Met l y_Round_firstOn (.code y_Round_firstOn prog_7_method_16_code 7 (some .int) :: TT) (rmD 4) (PC D ad cA sd sv h [.ref (ad 73), .int (iZ a1), .int (iZ a2), .int (iZ a3)]) (QR out) 0 0 (fun _ => False) := by
  unfold M_Round_firstOn at hM
  refine entM (by decide +kernel) hI (Nat.le_of_ble_eq_true rfl) ?_
  intro p e s m args below meth c C hr hlk hP ls hl
  have C : Cx p s m args c prog_7_method_16_code 7 "FeastBook$Round" D ad cA sd sv (FA ad) := C
  have hl : lv_has ls 7 [(0, .ref (ad 73)), (1, .int (iZ a1)), (2, .int (iZ a2)), (3, .int (iZ a3))] := hl
  refine m_iload_n C hl 3 d_Round_firstOn_0 rfl rfl ?_
  refine m_istore C hl [(4, .int (iZ a3)), (0, .ref (ad 73)), (1, .int (iZ a1)), (2, .int (iZ a2)), (3, .int (iZ a3))] d_Round_firstOn_1 (by decide) rfl (fun ls hl => ?_)
  exact w_Round_firstOn_L3 N hI C hr hlk a1 a2 a3 h hP _ a3 _ (lv_sub hl [1, 2, 3, 4, 0] rfl) hM
def y_Round_firstLeft : MethodName := ⟨"FeastBook$Round", "firstLeft", "()I"⟩
theorem d_Round_firstLeft_0 : decode prog_7_method_9_code 0 = .ok (.iconst (-1), 1) := by decide +kernel
theorem d_Round_firstLeft_1 : decode prog_7_method_9_code 1 = .ok (.istore_n 1, 1) := by decide +kernel
theorem d_Round_firstLeft_2 : decode prog_7_method_9_code 2 = .ok (.iconst 0, 1) := by decide +kernel
theorem d_Round_firstLeft_3 : decode prog_7_method_9_code 3 = .ok (.istore_n 2, 1) := by decide +kernel
theorem d_Round_firstLeft_4 : decode prog_7_method_9_code 4 = .ok (.iload_n 2, 1) := by decide +kernel
theorem d_Round_firstLeft_5 : decode prog_7_method_9_code 5 = .ok (.aload_n 0, 1) := by decide +kernel
theorem d_Round_firstLeft_6 : decode prog_7_method_9_code 6 = .ok (.getfield 49, 3) := by decide +kernel
theorem d_Round_firstLeft_9 : decode prog_7_method_9_code 9 = .ok (.getfield 121, 3) := by decide +kernel
theorem d_Round_firstLeft_12 : decode prog_7_method_9_code 12 = .ok (.if_icmp .ge 33, 3) := by decide +kernel
theorem d_Round_firstLeft_15 : decode prog_7_method_9_code 15 = .ok (.aload_n 0, 1) := by decide +kernel
theorem d_Round_firstLeft_16 : decode prog_7_method_9_code 16 = .ok (.iload_n 2, 1) := by decide +kernel
theorem d_Round_firstLeft_17 : decode prog_7_method_9_code 17 = .ok (.iconst 4, 1) := by decide +kernel
theorem d_Round_firstLeft_18 : decode prog_7_method_9_code 18 = .ok (.invokevirtual 126, 3) := by decide +kernel
theorem d_Round_firstLeft_21 : decode prog_7_method_9_code 21 = .ok (.istore_n 3, 1) := by decide +kernel
theorem d_Round_firstLeft_22 : decode prog_7_method_9_code 22 = .ok (.iload_n 3, 1) := by decide +kernel
theorem d_Round_firstLeft_23 : decode prog_7_method_9_code 23 = .ok (.iconst (-1), 1) := by decide +kernel
theorem d_Round_firstLeft_24 : decode prog_7_method_9_code 24 = .ok (.if_icmp .eq 15, 3) := by decide +kernel
theorem d_Round_firstLeft_27 : decode prog_7_method_9_code 27 = .ok (.iload_n 1, 1) := by decide +kernel
theorem d_Round_firstLeft_28 : decode prog_7_method_9_code 28 = .ok (.iconst (-1), 1) := by decide +kernel
theorem d_Round_firstLeft_29 : decode prog_7_method_9_code 29 = .ok (.if_icmp .eq 8, 3) := by decide +kernel
theorem d_Round_firstLeft_32 : decode prog_7_method_9_code 32 = .ok (.iload_n 3, 1) := by decide +kernel
theorem d_Round_firstLeft_33 : decode prog_7_method_9_code 33 = .ok (.iload_n 1, 1) := by decide +kernel
theorem d_Round_firstLeft_34 : decode prog_7_method_9_code 34 = .ok (.if_icmp .ge 5, 3) := by decide +kernel
theorem d_Round_firstLeft_37 : decode prog_7_method_9_code 37 = .ok (.iload_n 3, 1) := by decide +kernel
theorem d_Round_firstLeft_38 : decode prog_7_method_9_code 38 = .ok (.istore_n 1, 1) := by decide +kernel
theorem d_Round_firstLeft_39 : decode prog_7_method_9_code 39 = .ok (.iinc 2 1, 3) := by decide +kernel
theorem d_Round_firstLeft_42 : decode prog_7_method_9_code 42 = .ok (.goto (-38), 3) := by decide +kernel
theorem d_Round_firstLeft_45 : decode prog_7_method_9_code 45 = .ok (.iload_n 1, 1) := by decide +kernel
theorem d_Round_firstLeft_46 : decode prog_7_method_9_code 46 = .ok (.ireturn, 1) := by decide +kernel
theorem mb_Round_firstWith : MBv R_Round y_Round_firstWith prog_7_method_8_code 5 (some .int) 2 := ⟨mT7 62 (by decide +kernel) (by decide +kernel), mT7 63 (by decide +kernel) (by decide +kernel), mT1 9 (by decide +kernel) (by decide +kernel), mT7 64 (by decide +kernel) (by decide +kernel), by decide, rfl, by decide +kernel, by decide +kernel, by decide +kernel⟩
theorem lk_Round_126 : Cond.methodLink "FeastBook$Round" 126 y_Round_firstWith ∈ TT := mT7 175 (by decide +kernel) (by decide +kernel)
set_option maxHeartbeats 4000000 in
set_option maxRecDepth 100000 in
theorem w_Round_firstLeft_L4 {p : Program} {l : Launch} {e : Env} {s : State} {m : MethodId} {args : Array Value} {below : List Frame} {meth : Method} {c : Code} {D : va_G} {ad : Nat → Nat} {cA : Nat → ClassId} {sd sv : Nat → Nat} {out : Int} (N : Nat) (hI : Inj97 ad) (C : Cx p s m args c prog_7_method_9_code 4 "FeastBook$Round" D ad cA sd sv (FA ad)) (hr : meth.sig.returnType = (some .int)) (hlk : meth.locks = false) (h : Hp) (hP : va_P D clL (wl ad cA h) s.heap) : ∀ (n : Nat) (v1 v2 : Int), ∀ ls : Array Slot, lv_has ls 4 [(0, .ref (ad 73)), (1, .int (iZ v1)), (2, .int (iZ v2))] → Round_firstLeft_L4 N h n v1 v2 = some out → W p l e (rmD 2) s m args below meth c s.heap [] 0 0 (MQ below (QR out) args s 0 0 (fun _ => False)) (F0 m 4 ls []) := by
  intro n
  induction n with
  | zero =>
    intro v1 v2 ls hl hM
    rw [Round_firstLeft_L4] at hM
    cases hM
  | succ n ih =>
    intro v1 v2 ls hl hM
    rw [Round_firstLeft_L4] at hM
    refine m_iload_n C hl 2 d_Round_firstLeft_4 rfl rfl ?_
    refine m_aload_n C hl 0 d_Round_firstLeft_5 rfl rfl ?_
    refine m_getr C hP kc_Round sh_73 (Nat.le_of_ble_eq_true rfl) 1 33 rfl (by decide) fk_Round_49 d_Round_firstLeft_6 ?_
    refine m_geti C hP kc_Feasts sh_33 (Nat.le_of_ble_eq_true rfl) 0 rfl (by decide) fk_Round_121 d_Round_firstLeft_9 ?_
    refine m_icmp_ge C hM 45 d_Round_firstLeft_12 (by decide) (fun hM => ?_) (fun hM => ?_)
    · refine m_iload_n C hl 1 d_Round_firstLeft_45 rfl rfl ?_
      exact m_iretR C hr hlk hM d_Round_firstLeft_46
    · refine m_aload_n C hl 0 d_Round_firstLeft_15 rfl rfl ?_
      refine m_iload_n C hl 2 d_Round_firstLeft_16 rfl rfl ?_
      refine m_iconst C d_Round_firstLeft_17 ?_
      obtain ⟨x2, e1, hM⟩ := bnd_some hM
      refine aftR (runV C hP va_S.rf kc_Round sh_73 (Nat.le_of_ble_eq_true rfl) (c_Round_firstWith hI e1) lk_Round_126 mb_Round_firstWith rfl ⟨Nat.le_of_ble_eq_true rfl, Nat.le_of_ble_eq_true rfl⟩ ⟨Nat.zero_le _, Nat.zero_le _⟩ (Nat.le_of_ble_eq_true rfl) d_Round_firstLeft_18 hl.1 (rest := []) rfl) ?_
      refine m_istore_n C hl [(3, .int (iZ x2)), (0, .ref (ad 73)), (1, .int (iZ v1)), (2, .int (iZ v2))] d_Round_firstLeft_21 rfl (by decide) rfl (fun ls hl => ?_)
      refine m_iload_n C hl 0 d_Round_firstLeft_22 rfl rfl ?_
      refine m_iconst C d_Round_firstLeft_23 ?_
      refine m_icmp_eq C hM 39 d_Round_firstLeft_24 (by decide) (fun hM => ?_) (fun hM => ?_)
      · refine m_iinc C hl 3 [(2, .int (iZ (v2 + 1))), (3, .int (iZ x2)), (0, .ref (ad 73)), (1, .int (iZ v1))] d_Round_firstLeft_39 rfl (by decide) rfl (fun ls hl => ?_)
        refine m_goto C 4 d_Round_firstLeft_42 (by decide) ?_
        exact ih v1 (v2 + 1) _ (lv_sub hl [2, 3, 0] rfl) hM
      · refine m_iload_n C hl 2 d_Round_firstLeft_27 rfl rfl ?_
        refine m_iconst C d_Round_firstLeft_28 ?_
        refine m_icmp_eq C hM 37 d_Round_firstLeft_29 (by decide) (fun hM => ?_) (fun hM => ?_)
        · refine m_iload_n C hl 0 d_Round_firstLeft_37 rfl rfl ?_
          refine m_istore_n C hl [(1, .int (iZ x2)), (3, .int (iZ x2)), (0, .ref (ad 73)), (2, .int (iZ v2))] d_Round_firstLeft_38 rfl (by decide) rfl (fun ls hl => ?_)
          refine m_iinc C hl 3 [(2, .int (iZ (v2 + 1))), (1, .int (iZ x2)), (3, .int (iZ x2)), (0, .ref (ad 73))] d_Round_firstLeft_39 rfl (by decide) rfl (fun ls hl => ?_)
          refine m_goto C 4 d_Round_firstLeft_42 (by decide) ?_
          exact ih x2 (v2 + 1) _ (lv_sub hl [3, 1, 0] rfl) hM
        · refine m_iload_n C hl 0 d_Round_firstLeft_32 rfl rfl ?_
          refine m_iload_n C hl 2 d_Round_firstLeft_33 rfl rfl ?_
          refine m_icmp_ge C hM 39 d_Round_firstLeft_34 (by decide) (fun hM => ?_) (fun hM => ?_)
          · refine m_iinc C hl 3 [(2, .int (iZ (v2 + 1))), (3, .int (iZ x2)), (0, .ref (ad 73)), (1, .int (iZ v1))] d_Round_firstLeft_39 rfl (by decide) rfl (fun ls hl => ?_)
            refine m_goto C 4 d_Round_firstLeft_42 (by decide) ?_
            exact ih v1 (v2 + 1) _ (lv_sub hl [2, 3, 0] rfl) hM
          · refine m_iload_n C hl 0 d_Round_firstLeft_37 rfl rfl ?_
            refine m_istore_n C hl [(1, .int (iZ x2)), (3, .int (iZ x2)), (0, .ref (ad 73)), (2, .int (iZ v2))] d_Round_firstLeft_38 rfl (by decide) rfl (fun ls hl => ?_)
            refine m_iinc C hl 3 [(2, .int (iZ (v2 + 1))), (1, .int (iZ x2)), (3, .int (iZ x2)), (0, .ref (ad 73))] d_Round_firstLeft_39 rfl (by decide) rfl (fun ls hl => ?_)
            refine m_goto C 4 d_Round_firstLeft_42 (by decide) ?_
            exact ih x2 (v2 + 1) _ (lv_sub hl [3, 1, 0] rfl) hM
set_option maxHeartbeats 4000000 in
set_option maxRecDepth 100000 in
theorem c_Round_firstLeft {l : Launch} {D : va_G} {ad : Nat → Nat} {cA : Nat → ClassId} {sd sv : Nat → Nat} {h : Hp} {N : Nat} {out : Int} (hI : Inj97 ad) (hM : M_Round_firstLeft N h = some out) : Met l y_Round_firstLeft (.code y_Round_firstLeft prog_7_method_9_code 4 (some .int) :: TT) (rmD 2) (PC D ad cA sd sv h [.ref (ad 73)]) (QR out) 0 0 (fun _ => False) := by
  unfold M_Round_firstLeft at hM
  refine entM (by decide +kernel) hI (Nat.le_of_ble_eq_true rfl) ?_
  intro p e s m args below meth c C hr hlk hP ls hl
  have C : Cx p s m args c prog_7_method_9_code 4 "FeastBook$Round" D ad cA sd sv (FA ad) := C
  have hl : lv_has ls 4 [(0, .ref (ad 73))] := hl
  refine m_iconst C d_Round_firstLeft_0 ?_
  refine m_istore_n C hl [(1, .int (iZ (-1))), (0, .ref (ad 73))] d_Round_firstLeft_1 rfl (by decide) rfl (fun ls hl => ?_)
  refine m_iconst C d_Round_firstLeft_2 ?_
  refine m_istore_n C hl [(2, .int (iZ 0)), (1, .int (iZ (-1))), (0, .ref (ad 73))] d_Round_firstLeft_3 rfl (by decide) rfl (fun ls hl => ?_)
  exact w_Round_firstLeft_L4 N hI C hr hlk  h hP _ (-1) 0 _ (lv_sub hl [2, 1, 0] rfl) hM
def y_Round_yearsWithPasch : MethodName := ⟨"FeastBook$Round", "yearsWithPasch", "(I)I"⟩
theorem d_Round_yearsWithPasch_0 : decode prog_7_method_17_code 0 = .ok (.iconst 0, 1) := by decide +kernel
theorem d_Round_yearsWithPasch_1 : decode prog_7_method_17_code 1 = .ok (.istore_n 2, 1) := by decide +kernel
theorem d_Round_yearsWithPasch_2 : decode prog_7_method_17_code 2 = .ok (.iconst 0, 1) := by decide +kernel
theorem d_Round_yearsWithPasch_3 : decode prog_7_method_17_code 3 = .ok (.istore_n 3, 1) := by decide +kernel
theorem d_Round_yearsWithPasch_4 : decode prog_7_method_17_code 4 = .ok (.iload_n 3, 1) := by decide +kernel
theorem d_Round_yearsWithPasch_5 : decode prog_7_method_17_code 5 = .ok (.bipush 80, 2) := by decide +kernel
theorem d_Round_yearsWithPasch_7 : decode prog_7_method_17_code 7 = .ok (.if_icmp .ge 34, 3) := by decide +kernel
theorem d_Round_yearsWithPasch_10 : decode prog_7_method_17_code 10 = .ok (.iload_n 2, 1) := by decide +kernel
theorem d_Round_yearsWithPasch_11 : decode prog_7_method_17_code 11 = .ok (.aload_n 0, 1) := by decide +kernel
theorem d_Round_yearsWithPasch_12 : decode prog_7_method_17_code 12 = .ok (.getfield 39, 3) := by decide +kernel
theorem d_Round_yearsWithPasch_15 : decode prog_7_method_17_code 15 = .ok (.iload_n 3, 1) := by decide +kernel
theorem d_Round_yearsWithPasch_16 : decode prog_7_method_17_code 16 = .ok (.invokevirtual 156, 3) := by decide +kernel
theorem d_Round_yearsWithPasch_19 : decode prog_7_method_17_code 19 = .ok (.iload_n 1, 1) := by decide +kernel
theorem d_Round_yearsWithPasch_20 : decode prog_7_method_17_code 20 = .ok (.if_icmp .ne 12, 3) := by decide +kernel
theorem d_Round_yearsWithPasch_23 : decode prog_7_method_17_code 23 = .ok (.aload_n 0, 1) := by decide +kernel
theorem d_Round_yearsWithPasch_24 : decode prog_7_method_17_code 24 = .ok (.getfield 9, 3) := by decide +kernel
theorem d_Round_yearsWithPasch_27 : decode prog_7_method_17_code 27 = .ok (.iload_n 3, 1) := by decide +kernel
theorem d_Round_yearsWithPasch_28 : decode prog_7_method_17_code 28 = .ok (.iaload, 1) := by decide +kernel
theorem d_Round_yearsWithPasch_29 : decode prog_7_method_17_code 29 = .ok (.goto 4, 3) := by decide +kernel
theorem d_Round_yearsWithPasch_32 : decode prog_7_method_17_code 32 = .ok (.iconst 0, 1) := by decide +kernel
theorem d_Round_yearsWithPasch_33 : decode prog_7_method_17_code 33 = .ok (.iadd, 1) := by decide +kernel
theorem d_Round_yearsWithPasch_34 : decode prog_7_method_17_code 34 = .ok (.istore_n 2, 1) := by decide +kernel
theorem d_Round_yearsWithPasch_35 : decode prog_7_method_17_code 35 = .ok (.iinc 3 1, 3) := by decide +kernel
theorem d_Round_yearsWithPasch_38 : decode prog_7_method_17_code 38 = .ok (.goto (-34), 3) := by decide +kernel
theorem d_Round_yearsWithPasch_41 : decode prog_7_method_17_code 41 = .ok (.iload_n 2, 1) := by decide +kernel
theorem d_Round_yearsWithPasch_42 : decode prog_7_method_17_code 42 = .ok (.ireturn, 1) := by decide +kernel
set_option maxHeartbeats 4000000 in
set_option maxRecDepth 100000 in
theorem w_Round_yearsWithPasch_L4 {p : Program} {l : Launch} {e : Env} {s : State} {m : MethodId} {args : Array Value} {below : List Frame} {meth : Method} {c : Code} {D : va_G} {ad : Nat → Nat} {cA : Nat → ClassId} {sd sv : Nat → Nat} {out : Int} (N : Nat) (hI : Inj97 ad) (C : Cx p s m args c prog_7_method_17_code 4 "FeastBook$Round" D ad cA sd sv (FA ad)) (hr : meth.sig.returnType = (some .int)) (hlk : meth.locks = false) (v1 : Int) (h : Hp) (hP : va_P D clL (wl ad cA h) s.heap) : ∀ (n : Nat) (v2 v3 : Int), ∀ ls : Array Slot, lv_has ls 4 [(0, .ref (ad 73)), (1, .int (iZ v1)), (2, .int (iZ v2)), (3, .int (iZ v3))] → Round_yearsWithPasch_L4 N h v1 n v2 v3 = some out → W p l e (rmD 1) s m args below meth c s.heap [] 0 0 (MQ below (QR out) args s 0 0 (fun _ => False)) (F0 m 4 ls []) := by
  intro n
  induction n with
  | zero =>
    intro v2 v3 ls hl hM
    rw [Round_yearsWithPasch_L4] at hM
    cases hM
  | succ n ih =>
    intro v2 v3 ls hl hM
    rw [Round_yearsWithPasch_L4] at hM
    refine m_iload_n C hl 3 d_Round_yearsWithPasch_4 rfl rfl ?_
    refine m_bipush C d_Round_yearsWithPasch_5 (by decide) ?_
    refine m_icmp_ge C hM 41 d_Round_yearsWithPasch_7 (by decide) (fun hM => ?_) (fun hM => ?_)
    · refine m_iload_n C hl 2 d_Round_yearsWithPasch_41 rfl rfl ?_
      exact m_iretR C hr hlk hM d_Round_yearsWithPasch_42
    · refine m_iload_n C hl 2 d_Round_yearsWithPasch_10 rfl rfl ?_
      refine m_aload_n C hl 0 d_Round_yearsWithPasch_11 rfl rfl ?_
      refine m_getr C hP kc_Round sh_73 (Nat.le_of_ble_eq_true rfl) 0 23 rfl (by decide) fk_Round_39 d_Round_yearsWithPasch_12 ?_
      refine m_iload_n C hl 3 d_Round_yearsWithPasch_15 rfl rfl ?_
      obtain ⟨x2, e1, hM⟩ := bnd_some hM
      refine aftR (runV C hP va_S.rf kc_Book sh_23 (Nat.le_of_ble_eq_true rfl) (c_Book_paschIn hI (Or.inr (Or.inl rfl)) e1) lk_Round_156 mb_Book_paschIn rfl ⟨Nat.le_of_ble_eq_true rfl, Nat.le_of_ble_eq_true rfl⟩ ⟨Nat.zero_le _, Nat.zero_le _⟩ (Nat.le_of_ble_eq_true rfl) d_Round_yearsWithPasch_16 hl.1 (rest := [.int (iZ v2)]) rfl) ?_
      refine m_iload_n C hl 1 d_Round_yearsWithPasch_19 rfl rfl ?_
      refine m_icmp_ne C hM 32 d_Round_yearsWithPasch_20 (by decide) (fun hM => ?_) (fun hM => ?_)
      · refine m_iconst C d_Round_yearsWithPasch_32 ?_
        refine m_iadd C d_Round_yearsWithPasch_33 ?_
        refine m_istore_n C hl [(2, .int (iZ (v2 + 0))), (0, .ref (ad 73)), (1, .int (iZ v1)), (3, .int (iZ v3))] d_Round_yearsWithPasch_34 rfl (by decide) rfl (fun ls hl => ?_)
        refine m_iinc C hl 3 [(3, .int (iZ (v3 + 1))), (2, .int (iZ (v2 + 0))), (0, .ref (ad 73)), (1, .int (iZ v1))] d_Round_yearsWithPasch_35 rfl (by decide) rfl (fun ls hl => ?_)
        refine m_goto C 4 d_Round_yearsWithPasch_38 (by decide) ?_
        exact ih (v2 + 0) (v3 + 1) _ (lv_sub hl [2, 3, 1, 0] rfl) hM
      · refine m_aload_n C hl 0 d_Round_yearsWithPasch_23 rfl rfl ?_
        refine m_getr C hP kc_Round sh_73 (Nat.le_of_ble_eq_true rfl) 4 74 rfl (by decide) fk_Round_9 d_Round_yearsWithPasch_24 ?_
        refine m_iload_n C hl 3 d_Round_yearsWithPasch_27 rfl rfl ?_
        refine m_iald C hP sh_74 (Nat.le_of_ble_eq_true rfl) (Nat.le_of_ble_eq_true rfl) hM d_Round_yearsWithPasch_28 (fun x3 hM => ?_)
        refine m_goto C 33 d_Round_yearsWithPasch_29 (by decide) ?_
        refine m_iadd C d_Round_yearsWithPasch_33 ?_
        refine m_istore_n C hl [(2, .int (iZ (v2 + x3))), (0, .ref (ad 73)), (1, .int (iZ v1)), (3, .int (iZ v3))] d_Round_yearsWithPasch_34 rfl (by decide) rfl (fun ls hl => ?_)
        refine m_iinc C hl 3 [(3, .int (iZ (v3 + 1))), (2, .int (iZ (v2 + x3))), (0, .ref (ad 73)), (1, .int (iZ v1))] d_Round_yearsWithPasch_35 rfl (by decide) rfl (fun ls hl => ?_)
        refine m_goto C 4 d_Round_yearsWithPasch_38 (by decide) ?_
        exact ih (v2 + x3) (v3 + 1) _ (lv_sub hl [2, 3, 1, 0] rfl) hM
set_option maxHeartbeats 4000000 in
set_option maxRecDepth 100000 in
theorem c_Round_yearsWithPasch {l : Launch} {D : va_G} {ad : Nat → Nat} {cA : Nat → ClassId} {sd sv : Nat → Nat} {h : Hp} {N : Nat} {a1 : Int} {out : Int} (hI : Inj97 ad) (hM : M_Round_yearsWithPasch N h a1 = some out) : Met l y_Round_yearsWithPasch (.code y_Round_yearsWithPasch prog_7_method_17_code 4 (some .int) :: TT) (rmD 1) (PC D ad cA sd sv h [.ref (ad 73), .int (iZ a1)]) (QR out) 0 0 (fun _ => False) := by
  unfold M_Round_yearsWithPasch at hM
  refine entM (by decide +kernel) hI (Nat.le_of_ble_eq_true rfl) ?_
  intro p e s m args below meth c C hr hlk hP ls hl
  have C : Cx p s m args c prog_7_method_17_code 4 "FeastBook$Round" D ad cA sd sv (FA ad) := C
  have hl : lv_has ls 4 [(0, .ref (ad 73)), (1, .int (iZ a1))] := hl
  refine m_iconst C d_Round_yearsWithPasch_0 ?_
  refine m_istore_n C hl [(2, .int (iZ 0)), (0, .ref (ad 73)), (1, .int (iZ a1))] d_Round_yearsWithPasch_1 rfl (by decide) rfl (fun ls hl => ?_)
  refine m_iconst C d_Round_yearsWithPasch_2 ?_
  refine m_istore_n C hl [(3, .int (iZ 0)), (2, .int (iZ 0)), (0, .ref (ad 73)), (1, .int (iZ a1))] d_Round_yearsWithPasch_3 rfl (by decide) rfl (fun ls hl => ?_)
  exact w_Round_yearsWithPasch_L4 N hI C hr hlk a1 h hP _ 0 0 _ (lv_sub hl [2, 3, 1, 0] rfl) hM
def y_Round_howManySorts : MethodName := ⟨"FeastBook$Round", "howManySorts", "()I"⟩
theorem d_Round_howManySorts_0 : decode prog_7_method_18_code 0 = .ok (.iconst 0, 1) := by decide +kernel
theorem d_Round_howManySorts_1 : decode prog_7_method_18_code 1 = .ok (.istore_n 1, 1) := by decide +kernel
theorem d_Round_howManySorts_2 : decode prog_7_method_18_code 2 = .ok (.iconst 0, 1) := by decide +kernel
theorem d_Round_howManySorts_3 : decode prog_7_method_18_code 3 = .ok (.istore_n 2, 1) := by decide +kernel
theorem d_Round_howManySorts_4 : decode prog_7_method_18_code 4 = .ok (.iload_n 2, 1) := by decide +kernel
theorem d_Round_howManySorts_5 : decode prog_7_method_18_code 5 = .ok (.bipush 80, 2) := by decide +kernel
theorem d_Round_howManySorts_7 : decode prog_7_method_18_code 7 = .ok (.if_icmp .ge 26, 3) := by decide +kernel
theorem d_Round_howManySorts_10 : decode prog_7_method_18_code 10 = .ok (.iload_n 1, 1) := by decide +kernel
theorem d_Round_howManySorts_11 : decode prog_7_method_18_code 11 = .ok (.aload_n 0, 1) := by decide +kernel
theorem d_Round_howManySorts_12 : decode prog_7_method_18_code 12 = .ok (.getfield 9, 3) := by decide +kernel
theorem d_Round_howManySorts_15 : decode prog_7_method_18_code 15 = .ok (.iload_n 2, 1) := by decide +kernel
theorem d_Round_howManySorts_16 : decode prog_7_method_18_code 16 = .ok (.iaload, 1) := by decide +kernel
theorem d_Round_howManySorts_17 : decode prog_7_method_18_code 17 = .ok (.ifCond .le 7, 3) := by decide +kernel
theorem d_Round_howManySorts_20 : decode prog_7_method_18_code 20 = .ok (.iconst 1, 1) := by decide +kernel
theorem d_Round_howManySorts_21 : decode prog_7_method_18_code 21 = .ok (.goto 4, 3) := by decide +kernel
theorem d_Round_howManySorts_24 : decode prog_7_method_18_code 24 = .ok (.iconst 0, 1) := by decide +kernel
theorem d_Round_howManySorts_25 : decode prog_7_method_18_code 25 = .ok (.iadd, 1) := by decide +kernel
theorem d_Round_howManySorts_26 : decode prog_7_method_18_code 26 = .ok (.istore_n 1, 1) := by decide +kernel
theorem d_Round_howManySorts_27 : decode prog_7_method_18_code 27 = .ok (.iinc 2 1, 3) := by decide +kernel
theorem d_Round_howManySorts_30 : decode prog_7_method_18_code 30 = .ok (.goto (-26), 3) := by decide +kernel
theorem d_Round_howManySorts_33 : decode prog_7_method_18_code 33 = .ok (.iload_n 1, 1) := by decide +kernel
theorem d_Round_howManySorts_34 : decode prog_7_method_18_code 34 = .ok (.ireturn, 1) := by decide +kernel
set_option maxHeartbeats 4000000 in
set_option maxRecDepth 100000 in
theorem w_Round_howManySorts_L4 {p : Program} {l : Launch} {e : Env} {s : State} {m : MethodId} {args : Array Value} {below : List Frame} {meth : Method} {c : Code} {D : va_G} {ad : Nat → Nat} {cA : Nat → ClassId} {sd sv : Nat → Nat} {out : Int} (N : Nat) (hI : Inj97 ad) (C : Cx p s m args c prog_7_method_18_code 3 "FeastBook$Round" D ad cA sd sv (FA ad)) (hr : meth.sig.returnType = (some .int)) (hlk : meth.locks = false) (h : Hp) (hP : va_P D clL (wl ad cA h) s.heap) : ∀ (n : Nat) (v1 v2 : Int), ∀ ls : Array Slot, lv_has ls 3 [(0, .ref (ad 73)), (1, .int (iZ v1)), (2, .int (iZ v2))] → Round_howManySorts_L4 N h n v1 v2 = some out → W p l e (rmD 0) s m args below meth c s.heap [] 0 0 (MQ below (QR out) args s 0 0 (fun _ => False)) (F0 m 4 ls []) := by
  intro n
  induction n with
  | zero =>
    intro v1 v2 ls hl hM
    rw [Round_howManySorts_L4] at hM
    cases hM
  | succ n ih =>
    intro v1 v2 ls hl hM
    rw [Round_howManySorts_L4] at hM
    refine m_iload_n C hl 2 d_Round_howManySorts_4 rfl rfl ?_
    refine m_bipush C d_Round_howManySorts_5 (by decide) ?_
    refine m_icmp_ge C hM 33 d_Round_howManySorts_7 (by decide) (fun hM => ?_) (fun hM => ?_)
    · refine m_iload_n C hl 1 d_Round_howManySorts_33 rfl rfl ?_
      exact m_iretR C hr hlk hM d_Round_howManySorts_34
    · refine m_iload_n C hl 1 d_Round_howManySorts_10 rfl rfl ?_
      refine m_aload_n C hl 0 d_Round_howManySorts_11 rfl rfl ?_
      refine m_getr C hP kc_Round sh_73 (Nat.le_of_ble_eq_true rfl) 4 74 rfl (by decide) fk_Round_9 d_Round_howManySorts_12 ?_
      refine m_iload_n C hl 2 d_Round_howManySorts_15 rfl rfl ?_
      refine m_iald C hP sh_74 (Nat.le_of_ble_eq_true rfl) (Nat.le_of_ble_eq_true rfl) hM d_Round_howManySorts_16 (fun x1 hM => ?_)
      refine m_if_le C hM 24 d_Round_howManySorts_17 (by decide) (fun hM => ?_) (fun hM => ?_)
      · refine m_iconst C d_Round_howManySorts_24 ?_
        refine m_iadd C d_Round_howManySorts_25 ?_
        refine m_istore_n C hl [(1, .int (iZ (v1 + 0))), (0, .ref (ad 73)), (2, .int (iZ v2))] d_Round_howManySorts_26 rfl (by decide) rfl (fun ls hl => ?_)
        refine m_iinc C hl 2 [(2, .int (iZ (v2 + 1))), (1, .int (iZ (v1 + 0))), (0, .ref (ad 73))] d_Round_howManySorts_27 rfl (by decide) rfl (fun ls hl => ?_)
        refine m_goto C 4 d_Round_howManySorts_30 (by decide) ?_
        exact ih (v1 + 0) (v2 + 1) _ (lv_sub hl [2, 1, 0] rfl) hM
      · refine m_iconst C d_Round_howManySorts_20 ?_
        refine m_goto C 25 d_Round_howManySorts_21 (by decide) ?_
        refine m_iadd C d_Round_howManySorts_25 ?_
        refine m_istore_n C hl [(1, .int (iZ (v1 + 1))), (0, .ref (ad 73)), (2, .int (iZ v2))] d_Round_howManySorts_26 rfl (by decide) rfl (fun ls hl => ?_)
        refine m_iinc C hl 2 [(2, .int (iZ (v2 + 1))), (1, .int (iZ (v1 + 1))), (0, .ref (ad 73))] d_Round_howManySorts_27 rfl (by decide) rfl (fun ls hl => ?_)
        refine m_goto C 4 d_Round_howManySorts_30 (by decide) ?_
        exact ih (v1 + 1) (v2 + 1) _ (lv_sub hl [2, 1, 0] rfl) hM
set_option maxHeartbeats 4000000 in
set_option maxRecDepth 100000 in
theorem c_Round_howManySorts {l : Launch} {D : va_G} {ad : Nat → Nat} {cA : Nat → ClassId} {sd sv : Nat → Nat} {h : Hp} {N : Nat} {out : Int} (hI : Inj97 ad) (hM : M_Round_howManySorts N h = some out) : Met l y_Round_howManySorts (.code y_Round_howManySorts prog_7_method_18_code 3 (some .int) :: TT) (rmD 0) (PC D ad cA sd sv h [.ref (ad 73)]) (QR out) 0 0 (fun _ => False) := by
  unfold M_Round_howManySorts at hM
  refine entM (by decide +kernel) hI (Nat.le_of_ble_eq_true rfl) ?_
  intro p e s m args below meth c C hr hlk hP ls hl
  have C : Cx p s m args c prog_7_method_18_code 3 "FeastBook$Round" D ad cA sd sv (FA ad) := C
  have hl : lv_has ls 3 [(0, .ref (ad 73))] := hl
  refine m_iconst C d_Round_howManySorts_0 ?_
  refine m_istore_n C hl [(1, .int (iZ 0)), (0, .ref (ad 73))] d_Round_howManySorts_1 rfl (by decide) rfl (fun ls hl => ?_)
  refine m_iconst C d_Round_howManySorts_2 ?_
  refine m_istore_n C hl [(2, .int (iZ 0)), (1, .int (iZ 0)), (0, .ref (ad 73))] d_Round_howManySorts_3 rfl (by decide) rfl (fun ls hl => ?_)
  exact w_Round_howManySorts_L4 N hI C hr hlk  h hP _ 0 0 _ (lv_sub hl [2, 1, 0] rfl) hM
def y_Round_yearsYielding : MethodName := ⟨"FeastBook$Round", "yearsYielding", "(II)I"⟩
theorem d_Round_yearsYielding_0 : decode prog_7_method_19_code 0 = .ok (.iconst 0, 1) := by decide +kernel
theorem d_Round_yearsYielding_1 : decode prog_7_method_19_code 1 = .ok (.istore_n 3, 1) := by decide +kernel
theorem d_Round_yearsYielding_2 : decode prog_7_method_19_code 2 = .ok (.iconst 0, 1) := by decide +kernel
theorem d_Round_yearsYielding_3 : decode prog_7_method_19_code 3 = .ok (.istore 4, 2) := by decide +kernel
theorem d_Round_yearsYielding_5 : decode prog_7_method_19_code 5 = .ok (.iload 4, 2) := by decide +kernel
theorem d_Round_yearsYielding_7 : decode prog_7_method_19_code 7 = .ok (.bipush 80, 2) := by decide +kernel
theorem d_Round_yearsYielding_9 : decode prog_7_method_19_code 9 = .ok (.if_icmp .ge 85, 3) := by decide +kernel
theorem d_Round_yearsYielding_12 : decode prog_7_method_19_code 12 = .ok (.aload_n 0, 1) := by decide +kernel
theorem d_Round_yearsYielding_13 : decode prog_7_method_19_code 13 = .ok (.getfield 9, 3) := by decide +kernel
theorem d_Round_yearsYielding_16 : decode prog_7_method_19_code 16 = .ok (.iload 4, 2) := by decide +kernel
theorem d_Round_yearsYielding_18 : decode prog_7_method_19_code 18 = .ok (.iaload, 1) := by decide +kernel
theorem d_Round_yearsYielding_19 : decode prog_7_method_19_code 19 = .ok (.ifCond .le 69, 3) := by decide +kernel
theorem d_Round_yearsYielding_22 : decode prog_7_method_19_code 22 = .ok (.iload 4, 2) := by decide +kernel
theorem d_Round_yearsYielding_24 : decode prog_7_method_19_code 24 = .ok (.bipush 12, 2) := by decide +kernel
theorem d_Round_yearsYielding_26 : decode prog_7_method_19_code 26 = .ok (.imul, 1) := by decide +kernel
theorem d_Round_yearsYielding_27 : decode prog_7_method_19_code 27 = .ok (.istore 5, 2) := by decide +kernel
theorem d_Round_yearsYielding_29 : decode prog_7_method_19_code 29 = .ok (.aload_n 0, 1) := by decide +kernel
theorem d_Round_yearsYielding_30 : decode prog_7_method_19_code 30 = .ok (.getfield 24, 3) := by decide +kernel
theorem d_Round_yearsYielding_33 : decode prog_7_method_19_code 33 = .ok (.iload 5, 2) := by decide +kernel
theorem d_Round_yearsYielding_35 : decode prog_7_method_19_code 35 = .ok (.iload_n 2, 1) := by decide +kernel
theorem d_Round_yearsYielding_36 : decode prog_7_method_19_code 36 = .ok (.iadd, 1) := by decide +kernel
theorem d_Round_yearsYielding_37 : decode prog_7_method_19_code 37 = .ok (.iaload, 1) := by decide +kernel
theorem d_Round_yearsYielding_38 : decode prog_7_method_19_code 38 = .ok (.ifCond .ne 28, 3) := by decide +kernel
theorem d_Round_yearsYielding_41 : decode prog_7_method_19_code 41 = .ok (.aload_n 0, 1) := by decide +kernel
theorem d_Round_yearsYielding_42 : decode prog_7_method_19_code 42 = .ok (.getfield 18, 3) := by decide +kernel
theorem d_Round_yearsYielding_45 : decode prog_7_method_19_code 45 = .ok (.iload 5, 2) := by decide +kernel
theorem d_Round_yearsYielding_47 : decode prog_7_method_19_code 47 = .ok (.iload_n 2, 1) := by decide +kernel
theorem d_Round_yearsYielding_48 : decode prog_7_method_19_code 48 = .ok (.iadd, 1) := by decide +kernel
theorem d_Round_yearsYielding_49 : decode prog_7_method_19_code 49 = .ok (.iaload, 1) := by decide +kernel
theorem d_Round_yearsYielding_50 : decode prog_7_method_19_code 50 = .ok (.aload_n 0, 1) := by decide +kernel
theorem d_Round_yearsYielding_51 : decode prog_7_method_19_code 51 = .ok (.getfield 18, 3) := by decide +kernel
theorem d_Round_yearsYielding_54 : decode prog_7_method_19_code 54 = .ok (.iload 5, 2) := by decide +kernel
theorem d_Round_yearsYielding_56 : decode prog_7_method_19_code 56 = .ok (.iload_n 1, 1) := by decide +kernel
theorem d_Round_yearsYielding_57 : decode prog_7_method_19_code 57 = .ok (.iadd, 1) := by decide +kernel
theorem d_Round_yearsYielding_58 : decode prog_7_method_19_code 58 = .ok (.iaload, 1) := by decide +kernel
theorem d_Round_yearsYielding_59 : decode prog_7_method_19_code 59 = .ok (.if_icmp .ne 7, 3) := by decide +kernel
theorem d_Round_yearsYielding_62 : decode prog_7_method_19_code 62 = .ok (.iconst 1, 1) := by decide +kernel
theorem d_Round_yearsYielding_63 : decode prog_7_method_19_code 63 = .ok (.goto 4, 3) := by decide +kernel
theorem d_Round_yearsYielding_66 : decode prog_7_method_19_code 66 = .ok (.iconst 0, 1) := by decide +kernel
theorem d_Round_yearsYielding_67 : decode prog_7_method_19_code 67 = .ok (.istore 6, 2) := by decide +kernel
theorem d_Round_yearsYielding_69 : decode prog_7_method_19_code 69 = .ok (.iload_n 3, 1) := by decide +kernel
theorem d_Round_yearsYielding_70 : decode prog_7_method_19_code 70 = .ok (.iload 6, 2) := by decide +kernel
theorem d_Round_yearsYielding_72 : decode prog_7_method_19_code 72 = .ok (.ifCond .eq 13, 3) := by decide +kernel
theorem d_Round_yearsYielding_75 : decode prog_7_method_19_code 75 = .ok (.aload_n 0, 1) := by decide +kernel
theorem d_Round_yearsYielding_76 : decode prog_7_method_19_code 76 = .ok (.getfield 9, 3) := by decide +kernel
theorem d_Round_yearsYielding_79 : decode prog_7_method_19_code 79 = .ok (.iload 4, 2) := by decide +kernel
theorem d_Round_yearsYielding_81 : decode prog_7_method_19_code 81 = .ok (.iaload, 1) := by decide +kernel
theorem d_Round_yearsYielding_82 : decode prog_7_method_19_code 82 = .ok (.goto 4, 3) := by decide +kernel
theorem d_Round_yearsYielding_85 : decode prog_7_method_19_code 85 = .ok (.iconst 0, 1) := by decide +kernel
theorem d_Round_yearsYielding_86 : decode prog_7_method_19_code 86 = .ok (.iadd, 1) := by decide +kernel
theorem d_Round_yearsYielding_87 : decode prog_7_method_19_code 87 = .ok (.istore_n 3, 1) := by decide +kernel
theorem d_Round_yearsYielding_88 : decode prog_7_method_19_code 88 = .ok (.iinc 4 1, 3) := by decide +kernel
theorem d_Round_yearsYielding_91 : decode prog_7_method_19_code 91 = .ok (.goto (-86), 3) := by decide +kernel
theorem d_Round_yearsYielding_94 : decode prog_7_method_19_code 94 = .ok (.iload_n 3, 1) := by decide +kernel
theorem d_Round_yearsYielding_95 : decode prog_7_method_19_code 95 = .ok (.ireturn, 1) := by decide +kernel
set_option maxHeartbeats 4000000 in
set_option maxRecDepth 100000 in
theorem w_Round_yearsYielding_L5 {p : Program} {l : Launch} {e : Env} {s : State} {m : MethodId} {args : Array Value} {below : List Frame} {meth : Method} {c : Code} {D : va_G} {ad : Nat → Nat} {cA : Nat → ClassId} {sd sv : Nat → Nat} {out : Int} (N : Nat) (hI : Inj97 ad) (C : Cx p s m args c prog_7_method_19_code 7 "FeastBook$Round" D ad cA sd sv (FA ad)) (hr : meth.sig.returnType = (some .int)) (hlk : meth.locks = false) (v1 v2 : Int) (h : Hp) (hP : va_P D clL (wl ad cA h) s.heap) : ∀ (n : Nat) (v3 v4 : Int), ∀ ls : Array Slot, lv_has ls 7 [(0, .ref (ad 73)), (1, .int (iZ v1)), (2, .int (iZ v2)), (3, .int (iZ v3)), (4, .int (iZ v4))] → Round_yearsYielding_L5 N h v1 v2 n v3 v4 = some out → W p l e (rmD 0) s m args below meth c s.heap [] 0 0 (MQ below (QR out) args s 0 0 (fun _ => False)) (F0 m 5 ls []) := by
  intro n
  induction n with
  | zero =>
    intro v3 v4 ls hl hM
    rw [Round_yearsYielding_L5] at hM
    cases hM
  | succ n ih =>
    intro v3 v4 ls hl hM
    rw [Round_yearsYielding_L5] at hM
    refine m_iload C hl 4 d_Round_yearsYielding_5 rfl ?_
    refine m_bipush C d_Round_yearsYielding_7 (by decide) ?_
    refine m_icmp_ge C hM 94 d_Round_yearsYielding_9 (by decide) (fun hM => ?_) (fun hM => ?_)
    · refine m_iload_n C hl 3 d_Round_yearsYielding_94 rfl rfl ?_
      exact m_iretR C hr hlk hM d_Round_yearsYielding_95
    · refine m_aload_n C hl 0 d_Round_yearsYielding_12 rfl rfl ?_
      refine m_getr C hP kc_Round sh_73 (Nat.le_of_ble_eq_true rfl) 4 74 rfl (by decide) fk_Round_9 d_Round_yearsYielding_13 ?_
      refine m_iload C hl 4 d_Round_yearsYielding_16 rfl ?_
      refine m_iald C hP sh_74 (Nat.le_of_ble_eq_true rfl) (Nat.le_of_ble_eq_true rfl) hM d_Round_yearsYielding_18 (fun x1 hM => ?_)
      refine m_if_le C hM 88 d_Round_yearsYielding_19 (by decide) (fun hM => ?_) (fun hM => ?_)
      · refine m_iinc C hl 4 [(4, .int (iZ (v4 + 1))), (0, .ref (ad 73)), (1, .int (iZ v1)), (2, .int (iZ v2)), (3, .int (iZ v3))] d_Round_yearsYielding_88 rfl (by decide) rfl (fun ls hl => ?_)
        refine m_goto C 5 d_Round_yearsYielding_91 (by decide) ?_
        exact ih v3 (v4 + 1) _ (lv_sub hl [1, 2, 3, 4, 0] rfl) hM
      · refine m_iload C hl 4 d_Round_yearsYielding_22 rfl ?_
        refine m_bipush C d_Round_yearsYielding_24 (by decide) ?_
        refine m_imul C d_Round_yearsYielding_26 ?_
        refine m_istore C hl [(5, .int (iZ (v4 * 12))), (0, .ref (ad 73)), (1, .int (iZ v1)), (2, .int (iZ v2)), (3, .int (iZ v3)), (4, .int (iZ v4))] d_Round_yearsYielding_27 (by decide) rfl (fun ls hl => ?_)
        refine m_aload_n C hl 1 d_Round_yearsYielding_29 rfl rfl ?_
        refine m_getr C hP kc_Round sh_73 (Nat.le_of_ble_eq_true rfl) 10 78 rfl (by decide) fk_Round_24 d_Round_yearsYielding_30 ?_
        refine m_iload C hl 0 d_Round_yearsYielding_33 rfl ?_
        refine m_iload_n C hl 3 d_Round_yearsYielding_35 rfl rfl ?_
        refine m_iadd C d_Round_yearsYielding_36 ?_
        refine m_iald C hP sh_78 (Nat.le_of_ble_eq_true rfl) (Nat.le_of_ble_eq_true rfl) hM d_Round_yearsYielding_37 (fun x2 hM => ?_)
        refine lt_join hM (fun j5 ej hM => ?_)
        have hJ5 : ∀ (s0_5 : Int), j5 s0_5 = some out → ∀ ls : Array Slot, lv_has ls 7 [(0, .ref (ad 73)), (1, .int (iZ v1)), (2, .int (iZ v2)), (3, .int (iZ v3)), (4, .int (iZ v4)), (5, .int (iZ (v4 * 12)))] → W p l e (rmD 0) s m args below meth c s.heap [] 0 0 (MQ below (QR out) args s 0 0 (fun _ => False)) (F0 m 67 ls [.int (iZ s0_5)]) := by
          intro s0_5 hM ls hl
          subst ej
          dsimp only at hM
          refine m_istore C hl [(6, .int (iZ s0_5)), (0, .ref (ad 73)), (1, .int (iZ v1)), (2, .int (iZ v2)), (3, .int (iZ v3)), (4, .int (iZ v4)), (5, .int (iZ (v4 * 12)))] d_Round_yearsYielding_67 (by decide) rfl (fun ls hl => ?_)
          refine m_iload_n C hl 4 d_Round_yearsYielding_69 rfl rfl ?_
          refine m_iload C hl 0 d_Round_yearsYielding_70 rfl ?_
          refine m_if_eq C hM 85 d_Round_yearsYielding_72 (by decide) (fun hM => ?_) (fun hM => ?_)
          · refine m_iconst C d_Round_yearsYielding_85 ?_
            refine m_iadd C d_Round_yearsYielding_86 ?_
            refine m_istore_n C hl [(3, .int (iZ (v3 + 0))), (6, .int (iZ s0_5)), (0, .ref (ad 73)), (1, .int (iZ v1)), (2, .int (iZ v2)), (4, .int (iZ v4)), (5, .int (iZ (v4 * 12)))] d_Round_yearsYielding_87 rfl (by decide) rfl (fun ls hl => ?_)
            refine m_iinc C hl 5 [(4, .int (iZ (v4 + 1))), (3, .int (iZ (v3 + 0))), (6, .int (iZ s0_5)), (0, .ref (ad 73)), (1, .int (iZ v1)), (2, .int (iZ v2)), (5, .int (iZ (v4 * 12)))] d_Round_yearsYielding_88 rfl (by decide) rfl (fun ls hl => ?_)
            refine m_goto C 5 d_Round_yearsYielding_91 (by decide) ?_
            exact ih (v3 + 0) (v4 + 1) _ (lv_sub hl [3, 4, 5, 1, 0] rfl) hM
          · refine m_aload_n C hl 1 d_Round_yearsYielding_75 rfl rfl ?_
            refine m_getr C hP kc_Round sh_73 (Nat.le_of_ble_eq_true rfl) 4 74 rfl (by decide) fk_Round_9 d_Round_yearsYielding_76 ?_
            refine m_iload C hl 5 d_Round_yearsYielding_79 rfl ?_
            refine m_iald C hP sh_74 (Nat.le_of_ble_eq_true rfl) (Nat.le_of_ble_eq_true rfl) hM d_Round_yearsYielding_81 (fun x6 hM => ?_)
            refine m_goto C 86 d_Round_yearsYielding_82 (by decide) ?_
            refine m_iadd C d_Round_yearsYielding_86 ?_
            refine m_istore_n C hl [(3, .int (iZ (v3 + x6))), (6, .int (iZ s0_5)), (0, .ref (ad 73)), (1, .int (iZ v1)), (2, .int (iZ v2)), (4, .int (iZ v4)), (5, .int (iZ (v4 * 12)))] d_Round_yearsYielding_87 rfl (by decide) rfl (fun ls hl => ?_)
            refine m_iinc C hl 5 [(4, .int (iZ (v4 + 1))), (3, .int (iZ (v3 + x6))), (6, .int (iZ s0_5)), (0, .ref (ad 73)), (1, .int (iZ v1)), (2, .int (iZ v2)), (5, .int (iZ (v4 * 12)))] d_Round_yearsYielding_88 rfl (by decide) rfl (fun ls hl => ?_)
            refine m_goto C 5 d_Round_yearsYielding_91 (by decide) ?_
            exact ih (v3 + x6) (v4 + 1) _ (lv_sub hl [3, 4, 5, 1, 0] rfl) hM
        refine m_if_ne C hM 66 d_Round_yearsYielding_38 (by decide) (fun hM => ?_) (fun hM => ?_)
        · refine m_iconst C d_Round_yearsYielding_66 ?_
          exact hJ5 0 hM _ (lv_sub hl [1, 2, 3, 4, 5, 0] rfl)
        · refine m_aload_n C hl 1 d_Round_yearsYielding_41 rfl rfl ?_
          refine m_getr C hP kc_Round sh_73 (Nat.le_of_ble_eq_true rfl) 8 76 rfl (by decide) fk_Round_18 d_Round_yearsYielding_42 ?_
          refine m_iload C hl 0 d_Round_yearsYielding_45 rfl ?_
          refine m_iload_n C hl 3 d_Round_yearsYielding_47 rfl rfl ?_
          refine m_iadd C d_Round_yearsYielding_48 ?_
          refine m_iald C hP sh_76 (Nat.le_of_ble_eq_true rfl) (Nat.le_of_ble_eq_true rfl) hM d_Round_yearsYielding_49 (fun x7 hM => ?_)
          refine m_aload_n C hl 1 d_Round_yearsYielding_50 rfl rfl ?_
          refine m_getr C hP kc_Round sh_73 (Nat.le_of_ble_eq_true rfl) 8 76 rfl (by decide) fk_Round_18 d_Round_yearsYielding_51 ?_
          refine m_iload C hl 0 d_Round_yearsYielding_54 rfl ?_
          refine m_iload_n C hl 2 d_Round_yearsYielding_56 rfl rfl ?_
          refine m_iadd C d_Round_yearsYielding_57 ?_
          refine m_iald C hP sh_76 (Nat.le_of_ble_eq_true rfl) (Nat.le_of_ble_eq_true rfl) hM d_Round_yearsYielding_58 (fun x8 hM => ?_)
          refine m_icmp_ne C hM 66 d_Round_yearsYielding_59 (by decide) (fun hM => ?_) (fun hM => ?_)
          · refine m_iconst C d_Round_yearsYielding_66 ?_
            exact hJ5 0 hM _ (lv_sub hl [1, 2, 3, 4, 5, 0] rfl)
          · refine m_iconst C d_Round_yearsYielding_62 ?_
            refine m_goto C 67 d_Round_yearsYielding_63 (by decide) ?_
            exact hJ5 1 hM _ (lv_sub hl [1, 2, 3, 4, 5, 0] rfl)
set_option maxHeartbeats 4000000 in
set_option maxRecDepth 100000 in
theorem c_Round_yearsYielding {l : Launch} {D : va_G} {ad : Nat → Nat} {cA : Nat → ClassId} {sd sv : Nat → Nat} {h : Hp} {N : Nat} {a1 a2 : Int} {out : Int} (hI : Inj97 ad) (hM : M_Round_yearsYielding N h a1 a2 = some out) : Met l y_Round_yearsYielding (.code y_Round_yearsYielding prog_7_method_19_code 7 (some .int) :: TT) (rmD 0) (PC D ad cA sd sv h [.ref (ad 73), .int (iZ a1), .int (iZ a2)]) (QR out) 0 0 (fun _ => False) := by
  unfold M_Round_yearsYielding at hM
  refine entM (by decide +kernel) hI (Nat.le_of_ble_eq_true rfl) ?_
  intro p e s m args below meth c C hr hlk hP ls hl
  have C : Cx p s m args c prog_7_method_19_code 7 "FeastBook$Round" D ad cA sd sv (FA ad) := C
  have hl : lv_has ls 7 [(0, .ref (ad 73)), (1, .int (iZ a1)), (2, .int (iZ a2))] := hl
  refine m_iconst C d_Round_yearsYielding_0 ?_
  refine m_istore_n C hl [(3, .int (iZ 0)), (0, .ref (ad 73)), (1, .int (iZ a1)), (2, .int (iZ a2))] d_Round_yearsYielding_1 rfl (by decide) rfl (fun ls hl => ?_)
  refine m_iconst C d_Round_yearsYielding_2 ?_
  refine m_istore C hl [(4, .int (iZ 0)), (3, .int (iZ 0)), (0, .ref (ad 73)), (1, .int (iZ a1)), (2, .int (iZ a2))] d_Round_yearsYielding_3 (by decide) rfl (fun ls hl => ?_)
  exact w_Round_yearsYielding_L5 N hI C hr hlk a1 a2 h hP _ 0 0 _ (lv_sub hl [2, 3, 4, 1, 0] rfl) hM
def y_Round_allMeasured : MethodName := ⟨"FeastBook$Round", "allMeasured", "()LFeastBook$Round;"⟩
theorem d_Round_allMeasured_0 : decode prog_7_method_5_code 0 = .ok (.iconst 0, 1) := by decide +kernel
theorem d_Round_allMeasured_1 : decode prog_7_method_5_code 1 = .ok (.istore_n 1, 1) := by decide +kernel
theorem d_Round_allMeasured_2 : decode prog_7_method_5_code 2 = .ok (.iload_n 1, 1) := by decide +kernel
theorem d_Round_allMeasured_3 : decode prog_7_method_5_code 3 = .ok (.bipush 80, 2) := by decide +kernel
theorem d_Round_allMeasured_5 : decode prog_7_method_5_code 5 = .ok (.if_icmp .ge 94, 3) := by decide +kernel
theorem d_Round_allMeasured_8 : decode prog_7_method_5_code 8 = .ok (.aload_n 0, 1) := by decide +kernel
theorem d_Round_allMeasured_9 : decode prog_7_method_5_code 9 = .ok (.getfield 82, 3) := by decide +kernel
theorem d_Round_allMeasured_12 : decode prog_7_method_5_code 12 = .ok (.ifCond .ne 87, 3) := by decide +kernel
theorem d_Round_allMeasured_15 : decode prog_7_method_5_code 15 = .ok (.aload_n 0, 1) := by decide +kernel
theorem d_Round_allMeasured_16 : decode prog_7_method_5_code 16 = .ok (.getfield 9, 3) := by decide +kernel
theorem d_Round_allMeasured_19 : decode prog_7_method_5_code 19 = .ok (.iload_n 1, 1) := by decide +kernel
theorem d_Round_allMeasured_20 : decode prog_7_method_5_code 20 = .ok (.iaload, 1) := by decide +kernel
theorem d_Round_allMeasured_21 : decode prog_7_method_5_code 21 = .ok (.ifCond .le 72, 3) := by decide +kernel
theorem d_Round_allMeasured_24 : decode prog_7_method_5_code 24 = .ok (.aload_n 0, 1) := by decide +kernel
theorem d_Round_allMeasured_25 : decode prog_7_method_5_code 25 = .ok (.getfield 50, 3) := by decide +kernel
theorem d_Round_allMeasured_28 : decode prog_7_method_5_code 28 = .ok (.iload_n 1, 1) := by decide +kernel
theorem d_Round_allMeasured_29 : decode prog_7_method_5_code 29 = .ok (.invokevirtual 85, 3) := by decide +kernel
theorem d_Round_allMeasured_32 : decode prog_7_method_5_code 32 = .ok (.aload_n 0, 1) := by decide +kernel
theorem d_Round_allMeasured_33 : decode prog_7_method_5_code 33 = .ok (.getfield 27, 3) := by decide +kernel
theorem d_Round_allMeasured_36 : decode prog_7_method_5_code 36 = .ok (.iload_n 1, 1) := by decide +kernel
theorem d_Round_allMeasured_37 : decode prog_7_method_5_code 37 = .ok (.aload_n 0, 1) := by decide +kernel
theorem d_Round_allMeasured_38 : decode prog_7_method_5_code 38 = .ok (.getfield 50, 3) := by decide +kernel
theorem d_Round_allMeasured_41 : decode prog_7_method_5_code 41 = .ok (.invokevirtual 106, 3) := by decide +kernel
theorem d_Round_allMeasured_44 : decode prog_7_method_5_code 44 = .ok (.iastore, 1) := by decide +kernel
theorem d_Round_allMeasured_45 : decode prog_7_method_5_code 45 = .ok (.aload_n 0, 1) := by decide +kernel
theorem d_Round_allMeasured_46 : decode prog_7_method_5_code 46 = .ok (.getfield 30, 3) := by decide +kernel
theorem d_Round_allMeasured_49 : decode prog_7_method_5_code 49 = .ok (.iload_n 1, 1) := by decide +kernel
theorem d_Round_allMeasured_50 : decode prog_7_method_5_code 50 = .ok (.aload_n 0, 1) := by decide +kernel
theorem d_Round_allMeasured_51 : decode prog_7_method_5_code 51 = .ok (.getfield 50, 3) := by decide +kernel
theorem d_Round_allMeasured_54 : decode prog_7_method_5_code 54 = .ok (.iconst 0, 1) := by decide +kernel
theorem d_Round_allMeasured_55 : decode prog_7_method_5_code 55 = .ok (.aload_n 0, 1) := by decide +kernel
theorem d_Round_allMeasured_56 : decode prog_7_method_5_code 56 = .ok (.getfield 50, 3) := by decide +kernel
theorem d_Round_allMeasured_59 : decode prog_7_method_5_code 59 = .ok (.getfield 109, 3) := by decide +kernel
theorem d_Round_allMeasured_62 : decode prog_7_method_5_code 62 = .ok (.invokevirtual 112, 3) := by decide +kernel
theorem d_Round_allMeasured_65 : decode prog_7_method_5_code 65 = .ok (.iastore, 1) := by decide +kernel
theorem d_Round_allMeasured_66 : decode prog_7_method_5_code 66 = .ok (.aload_n 0, 1) := by decide +kernel
theorem d_Round_allMeasured_67 : decode prog_7_method_5_code 67 = .ok (.getfield 33, 3) := by decide +kernel
theorem d_Round_allMeasured_70 : decode prog_7_method_5_code 70 = .ok (.iload_n 1, 1) := by decide +kernel
theorem d_Round_allMeasured_71 : decode prog_7_method_5_code 71 = .ok (.aload_n 0, 1) := by decide +kernel
theorem d_Round_allMeasured_72 : decode prog_7_method_5_code 72 = .ok (.getfield 50, 3) := by decide +kernel
theorem d_Round_allMeasured_75 : decode prog_7_method_5_code 75 = .ok (.aload_n 0, 1) := by decide +kernel
theorem d_Round_allMeasured_76 : decode prog_7_method_5_code 76 = .ok (.getfield 50, 3) := by decide +kernel
theorem d_Round_allMeasured_79 : decode prog_7_method_5_code 79 = .ok (.getfield 109, 3) := by decide +kernel
theorem d_Round_allMeasured_82 : decode prog_7_method_5_code 82 = .ok (.aload_n 0, 1) := by decide +kernel
theorem d_Round_allMeasured_83 : decode prog_7_method_5_code 83 = .ok (.getfield 50, 3) := by decide +kernel
theorem d_Round_allMeasured_86 : decode prog_7_method_5_code 86 = .ok (.getfield 116, 3) := by decide +kernel
theorem d_Round_allMeasured_89 : decode prog_7_method_5_code 89 = .ok (.invokevirtual 112, 3) := by decide +kernel
theorem d_Round_allMeasured_92 : decode prog_7_method_5_code 92 = .ok (.iastore, 1) := by decide +kernel
theorem d_Round_allMeasured_93 : decode prog_7_method_5_code 93 = .ok (.iinc 1 1, 3) := by decide +kernel
theorem d_Round_allMeasured_96 : decode prog_7_method_5_code 96 = .ok (.goto (-94), 3) := by decide +kernel
theorem d_Round_allMeasured_99 : decode prog_7_method_5_code 99 = .ok (.aload_n 0, 1) := by decide +kernel
theorem d_Round_allMeasured_100 : decode prog_7_method_5_code 100 = .ok (.iconst 1, 1) := by decide +kernel
theorem d_Round_allMeasured_101 : decode prog_7_method_5_code 101 = .ok (.putfield 82, 3) := by decide +kernel
theorem d_Round_allMeasured_104 : decode prog_7_method_5_code 104 = .ok (.aload_n 0, 1) := by decide +kernel
theorem d_Round_allMeasured_105 : decode prog_7_method_5_code 105 = .ok (.areturn, 1) := by decide +kernel
theorem fk_Round_109 : Cond.fieldLink "FeastBook$Round" 109 (T_YearPlan 5).1 (T_YearPlan 5).2.1 (T_YearPlan 5).2.2.1 ∈ TT := mT2 71 (by decide +kernel) (by decide +kernel)
theorem fk_Round_116 : Cond.fieldLink "FeastBook$Round" 116 (T_YearPlan 4).1 (T_YearPlan 4).2.1 (T_YearPlan 4).2.2.1 ∈ TT := mT2 69 (by decide +kernel) (by decide +kernel)
theorem fk_Round_27 : Cond.fieldLink "FeastBook$Round" 27 (T_Round 11).1 (T_Round 11).2.1 (T_Round 11).2.2.1 ∈ TT := mT2 130 (by decide +kernel) (by decide +kernel)
theorem fk_Round_30 : Cond.fieldLink "FeastBook$Round" 30 (T_Round 12).1 (T_Round 12).2.1 (T_Round 12).2.2.1 ∈ TT := mT2 131 (by decide +kernel) (by decide +kernel)
theorem fk_Round_33 : Cond.fieldLink "FeastBook$Round" 33 (T_Round 13).1 (T_Round 13).2.1 (T_Round 13).2.2.1 ∈ TT := mT2 132 (by decide +kernel) (by decide +kernel)
theorem lk_Round_106 : Cond.methodLink "FeastBook$Round" 106 y_YearPlan_longestPlain ∈ TT := mT7 227 (by decide +kernel) (by decide +kernel)
theorem lk_Round_112 : Cond.methodLink "FeastBook$Round" 112 y_YearPlan_plainDays ∈ TT := mT7 228 (by decide +kernel) (by decide +kernel)
set_option maxHeartbeats 4000000 in
set_option maxRecDepth 100000 in
theorem w_Round_allMeasured_L2 {p : Program} {l : Launch} {e : Env} {s : State} {m : MethodId} {args : Array Value} {below : List Frame} {meth : Method} {c : Code} {D : va_G} {ad : Nat → Nat} {cA : Nat → ClassId} {sd sv : Nat → Nat} {out : Hp} (N : Nat) (hI : Inj97 ad) (C : Cx p s m args c prog_7_method_5_code 2 "FeastBook$Round" D ad cA sd sv (FA ad)) (hr : meth.sig.returnType = (some (.object "FeastBook$Round"))) (hlk : meth.locks = false) : ∀ (n : Nat) (v1 : Int) (h : Hp) (H : Heap) (locs : List Loc), Wd s D ad cA (FA ad) h H locs → ∀ ls : Array Slot, lv_has ls 2 [(0, .ref (ad 73)), (1, .int (iZ v1))] → Round_allMeasured_L2 N n v1 h = some out → W p l e (rmD 6) s m args below meth c H locs 0 0 (MQ below (QN D ad cA 73 out) args s 0 0 (FA ad)) (F0 m 2 ls []) := by
  intro n
  induction n with
  | zero =>
    intro v1 h H locs w ls hl hM
    rw [Round_allMeasured_L2] at hM
    cases hM
  | succ n ih =>
    intro v1 h H locs w ls hl hM
    rw [Round_allMeasured_L2] at hM
    refine m_iload_n C hl 1 d_Round_allMeasured_2 rfl rfl ?_
    refine m_bipush C d_Round_allMeasured_3 (by decide) ?_
    refine m_icmp_ge C hM 99 d_Round_allMeasured_5 (by decide) (fun hM => ?_) (fun hM => ?_)
    · refine m_aload_n C hl 0 d_Round_allMeasured_99 rfl rfl ?_
      refine m_iconst C d_Round_allMeasured_100 ?_
      refine m_putz C w kc_Round sh_73 (Nat.le_of_ble_eq_true rfl) 7 hM rfl (by decide) rfl rfl fk_Round_82 d_Round_allMeasured_101 (fun h1 H locs w hM => ?_)
      refine m_aload_n C hl 0 d_Round_allMeasured_104 rfl rfl ?_
      exact m_aretW C w hr hlk hM d_Round_allMeasured_105
    · refine m_aload_n C hl 0 d_Round_allMeasured_8 rfl rfl ?_
      refine m_geti C w.1 kc_Round sh_73 (Nat.le_of_ble_eq_true rfl) 7 rfl (by decide) fk_Round_82 d_Round_allMeasured_9 ?_
      refine m_if_ne C hM 99 d_Round_allMeasured_12 (by decide) (fun hM => ?_) (fun hM => ?_)
      · refine m_aload_n C hl 0 d_Round_allMeasured_99 rfl rfl ?_
        refine m_iconst C d_Round_allMeasured_100 ?_
        refine m_putz C w kc_Round sh_73 (Nat.le_of_ble_eq_true rfl) 7 hM rfl (by decide) rfl rfl fk_Round_82 d_Round_allMeasured_101 (fun h2 H locs w hM => ?_)
        refine m_aload_n C hl 0 d_Round_allMeasured_104 rfl rfl ?_
        exact m_aretW C w hr hlk hM d_Round_allMeasured_105
      · refine m_aload_n C hl 0 d_Round_allMeasured_15 rfl rfl ?_
        refine m_getr C w.1 kc_Round sh_73 (Nat.le_of_ble_eq_true rfl) 4 74 rfl (by decide) fk_Round_9 d_Round_allMeasured_16 ?_
        refine m_iload_n C hl 1 d_Round_allMeasured_19 rfl rfl ?_
        refine m_iald C w.1 sh_74 (Nat.le_of_ble_eq_true rfl) (Nat.le_of_ble_eq_true rfl) hM d_Round_allMeasured_20 (fun x3 hM => ?_)
        refine m_if_le C hM 93 d_Round_allMeasured_21 (by decide) (fun hM => ?_) (fun hM => ?_)
        · refine m_iinc C hl 1 [(1, .int (iZ (v1 + 1))), (0, .ref (ad 73))] d_Round_allMeasured_93 rfl (by decide) rfl (fun ls hl => ?_)
          refine m_goto C 2 d_Round_allMeasured_96 (by decide) ?_
          exact ih (v1 + 1) h _ _ w _ (lv_sub hl [1, 0] rfl) hM
        · refine m_aload_n C hl 0 d_Round_allMeasured_24 rfl rfl ?_
          refine m_getr C w.1 kc_Round sh_73 (Nat.le_of_ble_eq_true rfl) 2 66 rfl (by decide) fk_Round_50 d_Round_allMeasured_25 ?_
          refine m_iload_n C hl 1 d_Round_allMeasured_28 rfl rfl ?_
          obtain ⟨h5, e4, hM⟩ := bnd_some hM
          refine aftV C w (runV C w.1 w.2 kc_YearPlan sh_66 (Nat.le_of_ble_eq_true rfl) (c_YearPlan_settle hI e4) lk_Round_85 mb_YearPlan_settle rfl ⟨Nat.le_of_ble_eq_true rfl, Nat.le_of_ble_eq_true rfl⟩ ⟨Nat.zero_le _, Nat.zero_le _⟩ (Nat.le_of_ble_eq_true rfl) d_Round_allMeasured_29 hl.1 (rest := []) rfl) (fun H locs w => ?_)
          refine m_aload_n C hl 0 d_Round_allMeasured_32 rfl rfl ?_
          refine m_getr C w.1 kc_Round sh_73 (Nat.le_of_ble_eq_true rfl) 11 79 rfl (by decide) fk_Round_27 d_Round_allMeasured_33 ?_
          refine m_iload_n C hl 1 d_Round_allMeasured_36 rfl rfl ?_
          refine m_aload_n C hl 0 d_Round_allMeasured_37 rfl rfl ?_
          refine m_getr C w.1 kc_Round sh_73 (Nat.le_of_ble_eq_true rfl) 2 66 rfl (by decide) fk_Round_50 d_Round_allMeasured_38 ?_
          obtain ⟨x7, e6, hM⟩ := bnd_some hM
          refine aftR (runV C w.1 w.2 kc_YearPlan sh_66 (Nat.le_of_ble_eq_true rfl) (c_YearPlan_longestPlain hI e6) lk_Round_106 mb_YearPlan_longestPlain rfl ⟨Nat.le_of_ble_eq_true rfl, Nat.le_of_ble_eq_true rfl⟩ ⟨Nat.zero_le _, Nat.zero_le _⟩ (Nat.le_of_ble_eq_true rfl) d_Round_allMeasured_41 hl.1 (rest := [.int (iZ v1), .ref (ad 79)]) rfl) ?_
          refine m_iast C w sh_79 (Nat.le_of_ble_eq_true rfl) (Nat.le_of_ble_eq_true rfl) hM d_Round_allMeasured_44 (fun h8 H locs w hM => ?_)
          refine m_aload_n C hl 0 d_Round_allMeasured_45 rfl rfl ?_
          refine m_getr C w.1 kc_Round sh_73 (Nat.le_of_ble_eq_true rfl) 12 80 rfl (by decide) fk_Round_30 d_Round_allMeasured_46 ?_
          refine m_iload_n C hl 1 d_Round_allMeasured_49 rfl rfl ?_
          refine m_aload_n C hl 0 d_Round_allMeasured_50 rfl rfl ?_
          refine m_getr C w.1 kc_Round sh_73 (Nat.le_of_ble_eq_true rfl) 2 66 rfl (by decide) fk_Round_50 d_Round_allMeasured_51 ?_
          refine m_iconst C d_Round_allMeasured_54 ?_
          refine m_aload_n C hl 0 d_Round_allMeasured_55 rfl rfl ?_
          refine m_getr C w.1 kc_Round sh_73 (Nat.le_of_ble_eq_true rfl) 2 66 rfl (by decide) fk_Round_50 d_Round_allMeasured_56 ?_
          refine m_geti C w.1 kc_YearPlan sh_66 (Nat.le_of_ble_eq_true rfl) 5 rfl (by decide) fk_Round_109 d_Round_allMeasured_59 ?_
          obtain ⟨x10, e9, hM⟩ := bnd_some hM
          refine aftR (runV C w.1 w.2 kc_YearPlan sh_66 (Nat.le_of_ble_eq_true rfl) (c_YearPlan_plainDays hI e9) lk_Round_112 mb_YearPlan_plainDays rfl ⟨Nat.le_of_ble_eq_true rfl, Nat.le_of_ble_eq_true rfl⟩ ⟨Nat.zero_le _, Nat.zero_le _⟩ (Nat.le_of_ble_eq_true rfl) d_Round_allMeasured_62 hl.1 (rest := [.int (iZ v1), .ref (ad 80)]) rfl) ?_
          refine m_iast C w sh_80 (Nat.le_of_ble_eq_true rfl) (Nat.le_of_ble_eq_true rfl) hM d_Round_allMeasured_65 (fun h11 H locs w hM => ?_)
          refine m_aload_n C hl 0 d_Round_allMeasured_66 rfl rfl ?_
          refine m_getr C w.1 kc_Round sh_73 (Nat.le_of_ble_eq_true rfl) 13 81 rfl (by decide) fk_Round_33 d_Round_allMeasured_67 ?_
          refine m_iload_n C hl 1 d_Round_allMeasured_70 rfl rfl ?_
          refine m_aload_n C hl 0 d_Round_allMeasured_71 rfl rfl ?_
          refine m_getr C w.1 kc_Round sh_73 (Nat.le_of_ble_eq_true rfl) 2 66 rfl (by decide) fk_Round_50 d_Round_allMeasured_72 ?_
          refine m_aload_n C hl 0 d_Round_allMeasured_75 rfl rfl ?_
          refine m_getr C w.1 kc_Round sh_73 (Nat.le_of_ble_eq_true rfl) 2 66 rfl (by decide) fk_Round_50 d_Round_allMeasured_76 ?_
          refine m_geti C w.1 kc_YearPlan sh_66 (Nat.le_of_ble_eq_true rfl) 5 rfl (by decide) fk_Round_109 d_Round_allMeasured_79 ?_
          refine m_aload_n C hl 0 d_Round_allMeasured_82 rfl rfl ?_
          refine m_getr C w.1 kc_Round sh_73 (Nat.le_of_ble_eq_true rfl) 2 66 rfl (by decide) fk_Round_50 d_Round_allMeasured_83 ?_
          refine m_geti C w.1 kc_YearPlan sh_66 (Nat.le_of_ble_eq_true rfl) 4 rfl (by decide) fk_Round_116 d_Round_allMeasured_86 ?_
          obtain ⟨x13, e12, hM⟩ := bnd_some hM
          refine aftR (runV C w.1 w.2 kc_YearPlan sh_66 (Nat.le_of_ble_eq_true rfl) (c_YearPlan_plainDays hI e12) lk_Round_112 mb_YearPlan_plainDays rfl ⟨Nat.le_of_ble_eq_true rfl, Nat.le_of_ble_eq_true rfl⟩ ⟨Nat.zero_le _, Nat.zero_le _⟩ (Nat.le_of_ble_eq_true rfl) d_Round_allMeasured_89 hl.1 (rest := [.int (iZ v1), .ref (ad 81)]) rfl) ?_
          refine m_iast C w sh_81 (Nat.le_of_ble_eq_true rfl) (Nat.le_of_ble_eq_true rfl) hM d_Round_allMeasured_92 (fun h14 H locs w hM => ?_)
          refine m_iinc C hl 1 [(1, .int (iZ (v1 + 1))), (0, .ref (ad 73))] d_Round_allMeasured_93 rfl (by decide) rfl (fun ls hl => ?_)
          refine m_goto C 2 d_Round_allMeasured_96 (by decide) ?_
          exact ih (v1 + 1) h14 _ _ w _ (lv_sub hl [1, 0] rfl) hM
set_option maxHeartbeats 4000000 in
set_option maxRecDepth 100000 in
theorem c_Round_allMeasured {l : Launch} {D : va_G} {ad : Nat → Nat} {cA : Nat → ClassId} {sd sv : Nat → Nat} {h : Hp} {N : Nat} {out : Hp} (hI : Inj97 ad) (hM : M_Round_allMeasured N h = some out) : Met l y_Round_allMeasured (.code y_Round_allMeasured prog_7_method_5_code 2 (some (.object "FeastBook$Round")) :: TT) (rmD 6) (PC D ad cA sd sv h [.ref (ad 73)]) (QN D ad cA 73 out) 0 0 (FA ad) := by
  unfold M_Round_allMeasured at hM
  refine entM (by decide +kernel) hI (Nat.le_of_ble_eq_true rfl) ?_
  intro p e s m args below meth c C hr hlk hP ls hl
  have C : Cx p s m args c prog_7_method_5_code 2 "FeastBook$Round" D ad cA sd sv (FA ad) := C
  have hl : lv_has ls 2 [(0, .ref (ad 73))] := hl
  have w : Wd s D ad cA (FA ad) h s.heap [] := ⟨hP, va_S.rf⟩
  refine m_iconst C d_Round_allMeasured_0 ?_
  refine m_istore_n C hl [(1, .int (iZ 0)), (0, .ref (ad 73))] d_Round_allMeasured_1 rfl (by decide) rfl (fun ls hl => ?_)
  exact w_Round_allMeasured_L2 N hI C hr hlk  _ 0 h _ _ w _ (lv_sub hl [1, 0] rfl) hM
def y_Round_lessons : MethodName := ⟨"FeastBook$Round", "lessons", "(ZZ)I"⟩
theorem d_Round_lessons_0 : decode prog_7_method_20_code 0 = .ok (.iconst (-1), 1) := by decide +kernel
theorem d_Round_lessons_1 : decode prog_7_method_20_code 1 = .ok (.istore_n 3, 1) := by decide +kernel
theorem d_Round_lessons_2 : decode prog_7_method_20_code 2 = .ok (.iconst 0, 1) := by decide +kernel
theorem d_Round_lessons_3 : decode prog_7_method_20_code 3 = .ok (.istore 4, 2) := by decide +kernel
theorem d_Round_lessons_5 : decode prog_7_method_20_code 5 = .ok (.iload 4, 2) := by decide +kernel
theorem d_Round_lessons_7 : decode prog_7_method_20_code 7 = .ok (.bipush 80, 2) := by decide +kernel
theorem d_Round_lessons_9 : decode prog_7_method_20_code 9 = .ok (.if_icmp .ge 46, 3) := by decide +kernel
theorem d_Round_lessons_12 : decode prog_7_method_20_code 12 = .ok (.aload_n 0, 1) := by decide +kernel
theorem d_Round_lessons_13 : decode prog_7_method_20_code 13 = .ok (.getfield 9, 3) := by decide +kernel
theorem d_Round_lessons_16 : decode prog_7_method_20_code 16 = .ok (.iload 4, 2) := by decide +kernel
theorem d_Round_lessons_18 : decode prog_7_method_20_code 18 = .ok (.iaload, 1) := by decide +kernel
theorem d_Round_lessons_19 : decode prog_7_method_20_code 19 = .ok (.ifCond .le 30, 3) := by decide +kernel
theorem d_Round_lessons_22 : decode prog_7_method_20_code 22 = .ok (.iload_n 3, 1) := by decide +kernel
theorem d_Round_lessons_23 : decode prog_7_method_20_code 23 = .ok (.iload_n 1, 1) := by decide +kernel
theorem d_Round_lessons_24 : decode prog_7_method_20_code 24 = .ok (.ifCond .eq 13, 3) := by decide +kernel
theorem d_Round_lessons_27 : decode prog_7_method_20_code 27 = .ok (.aload_n 0, 1) := by decide +kernel
theorem d_Round_lessons_28 : decode prog_7_method_20_code 28 = .ok (.getfield 33, 3) := by decide +kernel
theorem d_Round_lessons_31 : decode prog_7_method_20_code 31 = .ok (.iload 4, 2) := by decide +kernel
theorem d_Round_lessons_33 : decode prog_7_method_20_code 33 = .ok (.iaload, 1) := by decide +kernel
theorem d_Round_lessons_34 : decode prog_7_method_20_code 34 = .ok (.goto 10, 3) := by decide +kernel
theorem d_Round_lessons_37 : decode prog_7_method_20_code 37 = .ok (.aload_n 0, 1) := by decide +kernel
theorem d_Round_lessons_38 : decode prog_7_method_20_code 38 = .ok (.getfield 30, 3) := by decide +kernel
theorem d_Round_lessons_41 : decode prog_7_method_20_code 41 = .ok (.iload 4, 2) := by decide +kernel
theorem d_Round_lessons_43 : decode prog_7_method_20_code 43 = .ok (.iaload, 1) := by decide +kernel
theorem d_Round_lessons_44 : decode prog_7_method_20_code 44 = .ok (.iload_n 2, 1) := by decide +kernel
theorem d_Round_lessons_45 : decode prog_7_method_20_code 45 = .ok (.invokestatic 137, 3) := by decide +kernel
theorem d_Round_lessons_48 : decode prog_7_method_20_code 48 = .ok (.istore_n 3, 1) := by decide +kernel
theorem d_Round_lessons_49 : decode prog_7_method_20_code 49 = .ok (.iinc 4 1, 3) := by decide +kernel
theorem d_Round_lessons_52 : decode prog_7_method_20_code 52 = .ok (.goto (-47), 3) := by decide +kernel
theorem d_Round_lessons_55 : decode prog_7_method_20_code 55 = .ok (.iload_n 3, 1) := by decide +kernel
theorem d_Round_lessons_56 : decode prog_7_method_20_code 56 = .ok (.ireturn, 1) := by decide +kernel
set_option maxHeartbeats 4000000 in
set_option maxRecDepth 100000 in
theorem w_Round_lessons_L5 {p : Program} {l : Launch} {e : Env} {s : State} {m : MethodId} {args : Array Value} {below : List Frame} {meth : Method} {c : Code} {D : va_G} {ad : Nat → Nat} {cA : Nat → ClassId} {sd sv : Nat → Nat} {out : Int} (N : Nat) (hI : Inj97 ad) (C : Cx p s m args c prog_7_method_20_code 5 "FeastBook$Round" D ad cA sd sv (FA ad)) (hr : meth.sig.returnType = (some .int)) (hlk : meth.locks = false) (v1 v2 : Int) (h : Hp) (hP : va_P D clL (wl ad cA h) s.heap) : ∀ (n : Nat) (v3 v4 : Int), ∀ ls : Array Slot, lv_has ls 5 [(0, .ref (ad 73)), (1, .int (iZ v1)), (2, .int (iZ v2)), (3, .int (iZ v3)), (4, .int (iZ v4))] → Round_lessons_L5 N h v1 v2 n v3 v4 = some out → W p l e (rmD 2) s m args below meth c s.heap [] 0 0 (MQ below (QR out) args s 0 0 (fun _ => False)) (F0 m 5 ls []) := by
  intro n
  induction n with
  | zero =>
    intro v3 v4 ls hl hM
    rw [Round_lessons_L5] at hM
    cases hM
  | succ n ih =>
    intro v3 v4 ls hl hM
    rw [Round_lessons_L5] at hM
    refine m_iload C hl 4 d_Round_lessons_5 rfl ?_
    refine m_bipush C d_Round_lessons_7 (by decide) ?_
    refine m_icmp_ge C hM 55 d_Round_lessons_9 (by decide) (fun hM => ?_) (fun hM => ?_)
    · refine m_iload_n C hl 3 d_Round_lessons_55 rfl rfl ?_
      exact m_iretR C hr hlk hM d_Round_lessons_56
    · refine m_aload_n C hl 0 d_Round_lessons_12 rfl rfl ?_
      refine m_getr C hP kc_Round sh_73 (Nat.le_of_ble_eq_true rfl) 4 74 rfl (by decide) fk_Round_9 d_Round_lessons_13 ?_
      refine m_iload C hl 4 d_Round_lessons_16 rfl ?_
      refine m_iald C hP sh_74 (Nat.le_of_ble_eq_true rfl) (Nat.le_of_ble_eq_true rfl) hM d_Round_lessons_18 (fun x1 hM => ?_)
      refine m_if_le C hM 49 d_Round_lessons_19 (by decide) (fun hM => ?_) (fun hM => ?_)
      · refine m_iinc C hl 4 [(4, .int (iZ (v4 + 1))), (0, .ref (ad 73)), (1, .int (iZ v1)), (2, .int (iZ v2)), (3, .int (iZ v3))] d_Round_lessons_49 rfl (by decide) rfl (fun ls hl => ?_)
        refine m_goto C 5 d_Round_lessons_52 (by decide) ?_
        exact ih v3 (v4 + 1) _ (lv_sub hl [1, 2, 3, 4, 0] rfl) hM
      · refine m_iload_n C hl 3 d_Round_lessons_22 rfl rfl ?_
        refine m_iload_n C hl 1 d_Round_lessons_23 rfl rfl ?_
        refine m_if_eq C hM 37 d_Round_lessons_24 (by decide) (fun hM => ?_) (fun hM => ?_)
        · refine m_aload_n C hl 0 d_Round_lessons_37 rfl rfl ?_
          refine m_getr C hP kc_Round sh_73 (Nat.le_of_ble_eq_true rfl) 12 80 rfl (by decide) fk_Round_30 d_Round_lessons_38 ?_
          refine m_iload C hl 4 d_Round_lessons_41 rfl ?_
          refine m_iald C hP sh_80 (Nat.le_of_ble_eq_true rfl) (Nat.le_of_ble_eq_true rfl) hM d_Round_lessons_43 (fun x2 hM => ?_)
          refine m_iload_n C hl 2 d_Round_lessons_44 rfl rfl ?_
          obtain ⟨x4, e3, hM⟩ := bnd_some hM
          refine aftR (runS C hP va_S.rf (c_Round_further hI e3) lk_Round_137 mb_Round_further rfl ⟨Nat.le_of_ble_eq_true rfl, Nat.le_of_ble_eq_true rfl⟩ ⟨Nat.zero_le _, Nat.zero_le _⟩ (Nat.le_of_ble_eq_true rfl) d_Round_lessons_45 hl.1 (rest := []) rfl) ?_
          refine m_istore_n C hl [(3, .int (iZ x4)), (0, .ref (ad 73)), (1, .int (iZ v1)), (2, .int (iZ v2)), (4, .int (iZ v4))] d_Round_lessons_48 rfl (by decide) rfl (fun ls hl => ?_)
          refine m_iinc C hl 4 [(4, .int (iZ (v4 + 1))), (3, .int (iZ x4)), (0, .ref (ad 73)), (1, .int (iZ v1)), (2, .int (iZ v2))] d_Round_lessons_49 rfl (by decide) rfl (fun ls hl => ?_)
          refine m_goto C 5 d_Round_lessons_52 (by decide) ?_
          exact ih x4 (v4 + 1) _ (lv_sub hl [2, 3, 4, 1, 0] rfl) hM
        · refine m_aload_n C hl 0 d_Round_lessons_27 rfl rfl ?_
          refine m_getr C hP kc_Round sh_73 (Nat.le_of_ble_eq_true rfl) 13 81 rfl (by decide) fk_Round_33 d_Round_lessons_28 ?_
          refine m_iload C hl 4 d_Round_lessons_31 rfl ?_
          refine m_iald C hP sh_81 (Nat.le_of_ble_eq_true rfl) (Nat.le_of_ble_eq_true rfl) hM d_Round_lessons_33 (fun x5 hM => ?_)
          refine m_goto C 44 d_Round_lessons_34 (by decide) ?_
          refine m_iload_n C hl 2 d_Round_lessons_44 rfl rfl ?_
          obtain ⟨x7, e6, hM⟩ := bnd_some hM
          refine aftR (runS C hP va_S.rf (c_Round_further hI e6) lk_Round_137 mb_Round_further rfl ⟨Nat.le_of_ble_eq_true rfl, Nat.le_of_ble_eq_true rfl⟩ ⟨Nat.zero_le _, Nat.zero_le _⟩ (Nat.le_of_ble_eq_true rfl) d_Round_lessons_45 hl.1 (rest := []) rfl) ?_
          refine m_istore_n C hl [(3, .int (iZ x7)), (0, .ref (ad 73)), (1, .int (iZ v1)), (2, .int (iZ v2)), (4, .int (iZ v4))] d_Round_lessons_48 rfl (by decide) rfl (fun ls hl => ?_)
          refine m_iinc C hl 4 [(4, .int (iZ (v4 + 1))), (3, .int (iZ x7)), (0, .ref (ad 73)), (1, .int (iZ v1)), (2, .int (iZ v2))] d_Round_lessons_49 rfl (by decide) rfl (fun ls hl => ?_)
          refine m_goto C 5 d_Round_lessons_52 (by decide) ?_
          exact ih x7 (v4 + 1) _ (lv_sub hl [2, 3, 4, 1, 0] rfl) hM
set_option maxHeartbeats 4000000 in
set_option maxRecDepth 100000 in
theorem c_Round_lessons {l : Launch} {D : va_G} {ad : Nat → Nat} {cA : Nat → ClassId} {sd sv : Nat → Nat} {h : Hp} {N : Nat} {a1 a2 : Int} {out : Int} (hI : Inj97 ad) (hM : M_Round_lessons N h a1 a2 = some out) : Met l y_Round_lessons (.code y_Round_lessons prog_7_method_20_code 5 (some .int) :: TT) (rmD 2) (PC D ad cA sd sv h [.ref (ad 73), .int (iZ a1), .int (iZ a2)]) (QR out) 0 0 (fun _ => False) := by
  unfold M_Round_lessons at hM
  refine entM (by decide +kernel) hI (Nat.le_of_ble_eq_true rfl) ?_
  intro p e s m args below meth c C hr hlk hP ls hl
  have C : Cx p s m args c prog_7_method_20_code 5 "FeastBook$Round" D ad cA sd sv (FA ad) := C
  have hl : lv_has ls 5 [(0, .ref (ad 73)), (1, .int (iZ a1)), (2, .int (iZ a2))] := hl
  refine m_iconst C d_Round_lessons_0 ?_
  refine m_istore_n C hl [(3, .int (iZ (-1))), (0, .ref (ad 73)), (1, .int (iZ a1)), (2, .int (iZ a2))] d_Round_lessons_1 rfl (by decide) rfl (fun ls hl => ?_)
  refine m_iconst C d_Round_lessons_2 ?_
  refine m_istore C hl [(4, .int (iZ 0)), (3, .int (iZ (-1))), (0, .ref (ad 73)), (1, .int (iZ a1)), (2, .int (iZ a2))] d_Round_lessons_3 (by decide) rfl (fun ls hl => ?_)
  exact w_Round_lessons_L5 N hI C hr hlk a1 a2 h hP _ (-1) 0 _ (lv_sub hl [2, 3, 4, 1, 0] rfl) hM
def y_Round_gap : MethodName := ⟨"FeastBook$Round", "gap", "(IZ)I"⟩
theorem d_Round_gap_0 : decode prog_7_method_21_code 0 = .ok (.iconst (-1), 1) := by decide +kernel
theorem d_Round_gap_1 : decode prog_7_method_21_code 1 = .ok (.istore_n 3, 1) := by decide +kernel
theorem d_Round_gap_2 : decode prog_7_method_21_code 2 = .ok (.aload_n 0, 1) := by decide +kernel
theorem d_Round_gap_3 : decode prog_7_method_21_code 3 = .ok (.getfield 39, 3) := by decide +kernel
theorem d_Round_gap_6 : decode prog_7_method_21_code 6 = .ok (.iconst 0, 1) := by decide +kernel
theorem d_Round_gap_7 : decode prog_7_method_21_code 7 = .ok (.invokevirtual 75, 3) := by decide +kernel
theorem d_Round_gap_10 : decode prog_7_method_21_code 10 = .ok (.istore 4, 2) := by decide +kernel
theorem d_Round_gap_12 : decode prog_7_method_21_code 12 = .ok (.iconst 0, 1) := by decide +kernel
theorem d_Round_gap_13 : decode prog_7_method_21_code 13 = .ok (.istore 5, 2) := by decide +kernel
theorem d_Round_gap_15 : decode prog_7_method_21_code 15 = .ok (.iload 5, 2) := by decide +kernel
theorem d_Round_gap_17 : decode prog_7_method_21_code 17 = .ok (.aload_n 0, 1) := by decide +kernel
theorem d_Round_gap_18 : decode prog_7_method_21_code 18 = .ok (.getfield 71, 3) := by decide +kernel
theorem d_Round_gap_21 : decode prog_7_method_21_code 21 = .ok (.if_icmp .ge 87, 3) := by decide +kernel
theorem d_Round_gap_24 : decode prog_7_method_21_code 24 = .ok (.aload_n 0, 1) := by decide +kernel
theorem d_Round_gap_25 : decode prog_7_method_21_code 25 = .ok (.getfield 39, 3) := by decide +kernel
theorem d_Round_gap_28 : decode prog_7_method_21_code 28 = .ok (.iload 5, 2) := by decide +kernel
theorem d_Round_gap_30 : decode prog_7_method_21_code 30 = .ok (.iconst 1, 1) := by decide +kernel
theorem d_Round_gap_31 : decode prog_7_method_21_code 31 = .ok (.iadd, 1) := by decide +kernel
theorem d_Round_gap_32 : decode prog_7_method_21_code 32 = .ok (.invokevirtual 75, 3) := by decide +kernel
theorem d_Round_gap_35 : decode prog_7_method_21_code 35 = .ok (.istore 6, 2) := by decide +kernel
theorem d_Round_gap_37 : decode prog_7_method_21_code 37 = .ok (.aload_n 0, 1) := by decide +kernel
theorem d_Round_gap_38 : decode prog_7_method_21_code 38 = .ok (.getfield 21, 3) := by decide +kernel
theorem d_Round_gap_41 : decode prog_7_method_21_code 41 = .ok (.iload 4, 2) := by decide +kernel
theorem d_Round_gap_43 : decode prog_7_method_21_code 43 = .ok (.bipush 12, 2) := by decide +kernel
theorem d_Round_gap_45 : decode prog_7_method_21_code 45 = .ok (.imul, 1) := by decide +kernel
theorem d_Round_gap_46 : decode prog_7_method_21_code 46 = .ok (.iload_n 1, 1) := by decide +kernel
theorem d_Round_gap_47 : decode prog_7_method_21_code 47 = .ok (.iadd, 1) := by decide +kernel
theorem d_Round_gap_48 : decode prog_7_method_21_code 48 = .ok (.iaload, 1) := by decide +kernel
theorem d_Round_gap_49 : decode prog_7_method_21_code 49 = .ok (.istore 7, 2) := by decide +kernel
theorem d_Round_gap_51 : decode prog_7_method_21_code 51 = .ok (.aload_n 0, 1) := by decide +kernel
theorem d_Round_gap_52 : decode prog_7_method_21_code 52 = .ok (.getfield 21, 3) := by decide +kernel
theorem d_Round_gap_55 : decode prog_7_method_21_code 55 = .ok (.iload 6, 2) := by decide +kernel
theorem d_Round_gap_57 : decode prog_7_method_21_code 57 = .ok (.bipush 12, 2) := by decide +kernel
theorem d_Round_gap_59 : decode prog_7_method_21_code 59 = .ok (.imul, 1) := by decide +kernel
theorem d_Round_gap_60 : decode prog_7_method_21_code 60 = .ok (.iload_n 1, 1) := by decide +kernel
theorem d_Round_gap_61 : decode prog_7_method_21_code 61 = .ok (.iadd, 1) := by decide +kernel
theorem d_Round_gap_62 : decode prog_7_method_21_code 62 = .ok (.iaload, 1) := by decide +kernel
theorem d_Round_gap_63 : decode prog_7_method_21_code 63 = .ok (.istore 8, 2) := by decide +kernel
theorem d_Round_gap_65 : decode prog_7_method_21_code 65 = .ok (.iload 7, 2) := by decide +kernel
theorem d_Round_gap_67 : decode prog_7_method_21_code 67 = .ok (.iconst (-1), 1) := by decide +kernel
theorem d_Round_gap_68 : decode prog_7_method_21_code 68 = .ok (.if_icmp .eq 30, 3) := by decide +kernel
theorem d_Round_gap_71 : decode prog_7_method_21_code 71 = .ok (.iload 8, 2) := by decide +kernel
theorem d_Round_gap_73 : decode prog_7_method_21_code 73 = .ok (.iconst (-1), 1) := by decide +kernel
theorem d_Round_gap_74 : decode prog_7_method_21_code 74 = .ok (.if_icmp .eq 24, 3) := by decide +kernel
theorem d_Round_gap_77 : decode prog_7_method_21_code 77 = .ok (.iload_n 3, 1) := by decide +kernel
theorem d_Round_gap_78 : decode prog_7_method_21_code 78 = .ok (.aload_n 0, 1) := by decide +kernel
theorem d_Round_gap_79 : decode prog_7_method_21_code 79 = .ok (.getfield 39, 3) := by decide +kernel
theorem d_Round_gap_82 : decode prog_7_method_21_code 82 = .ok (.iload 4, 2) := by decide +kernel
theorem d_Round_gap_84 : decode prog_7_method_21_code 84 = .ok (.invokevirtual 162, 3) := by decide +kernel
theorem d_Round_gap_87 : decode prog_7_method_21_code 87 = .ok (.iload 7, 2) := by decide +kernel
theorem d_Round_gap_89 : decode prog_7_method_21_code 89 = .ok (.isub, 1) := by decide +kernel
theorem d_Round_gap_90 : decode prog_7_method_21_code 90 = .ok (.iload 8, 2) := by decide +kernel
theorem d_Round_gap_92 : decode prog_7_method_21_code 92 = .ok (.iadd, 1) := by decide +kernel
theorem d_Round_gap_93 : decode prog_7_method_21_code 93 = .ok (.iload_n 2, 1) := by decide +kernel
theorem d_Round_gap_94 : decode prog_7_method_21_code 94 = .ok (.invokestatic 137, 3) := by decide +kernel
theorem d_Round_gap_97 : decode prog_7_method_21_code 97 = .ok (.istore_n 3, 1) := by decide +kernel
theorem d_Round_gap_98 : decode prog_7_method_21_code 98 = .ok (.iload 6, 2) := by decide +kernel
theorem d_Round_gap_100 : decode prog_7_method_21_code 100 = .ok (.istore 4, 2) := by decide +kernel
theorem d_Round_gap_102 : decode prog_7_method_21_code 102 = .ok (.iinc 5 1, 3) := by decide +kernel
theorem d_Round_gap_105 : decode prog_7_method_21_code 105 = .ok (.goto (-90), 3) := by decide +kernel
theorem d_Round_gap_108 : decode prog_7_method_21_code 108 = .ok (.iload_n 3, 1) := by decide +kernel
theorem d_Round_gap_109 : decode prog_7_method_21_code 109 = .ok (.ireturn, 1) := by decide +kernel
theorem lk_Round_162 : Cond.methodLink "FeastBook$Round" 162 y_Book_daysIn ∈ TT := mT8 16 (by decide +kernel) (by decide +kernel)
set_option maxHeartbeats 4000000 in
set_option maxRecDepth 100000 in
theorem w_Round_gap_L15 {p : Program} {l : Launch} {e : Env} {s : State} {m : MethodId} {args : Array Value} {below : List Frame} {meth : Method} {c : Code} {D : va_G} {ad : Nat → Nat} {cA : Nat → ClassId} {sd sv : Nat → Nat} {out : Int} (N : Nat) (hI : Inj97 ad) (C : Cx p s m args c prog_7_method_21_code 9 "FeastBook$Round" D ad cA sd sv (FA ad)) (hr : meth.sig.returnType = (some .int)) (hlk : meth.locks = false) (v1 v2 : Int) (h : Hp) (hP : va_P D clL (wl ad cA h) s.heap) : ∀ (n : Nat) (v3 v4 v5 : Int), ∀ ls : Array Slot, lv_has ls 9 [(0, .ref (ad 73)), (1, .int (iZ v1)), (2, .int (iZ v2)), (3, .int (iZ v3)), (4, .int (iZ v4)), (5, .int (iZ v5))] → Round_gap_L15 N h v1 v2 n v3 v4 v5 = some out → W p l e (rmD 4) s m args below meth c s.heap [] 0 0 (MQ below (QR out) args s 0 0 (fun _ => False)) (F0 m 15 ls []) := by
  intro n
  induction n with
  | zero =>
    intro v3 v4 v5 ls hl hM
    rw [Round_gap_L15] at hM
    cases hM
  | succ n ih =>
    intro v3 v4 v5 ls hl hM
    rw [Round_gap_L15] at hM
    refine m_iload C hl 5 d_Round_gap_15 rfl ?_
    refine m_aload_n C hl 0 d_Round_gap_17 rfl rfl ?_
    refine m_geti C hP kc_Round sh_73 (Nat.le_of_ble_eq_true rfl) 3 rfl (by decide) fk_Round_71 d_Round_gap_18 ?_
    refine m_icmp_ge C hM 108 d_Round_gap_21 (by decide) (fun hM => ?_) (fun hM => ?_)
    · refine m_iload_n C hl 3 d_Round_gap_108 rfl rfl ?_
      exact m_iretR C hr hlk hM d_Round_gap_109
    · refine m_aload_n C hl 0 d_Round_gap_24 rfl rfl ?_
      refine m_getr C hP kc_Round sh_73 (Nat.le_of_ble_eq_true rfl) 0 23 rfl (by decide) fk_Round_39 d_Round_gap_25 ?_
      refine m_iload C hl 5 d_Round_gap_28 rfl ?_
      refine m_iconst C d_Round_gap_30 ?_
      refine m_iadd C d_Round_gap_31 ?_
      obtain ⟨x4, e3, hM⟩ := bnd_some hM
      refine aftR (runV C hP va_S.rf kc_Book sh_23 (Nat.le_of_ble_eq_true rfl) (c_Book_sortOf hI (Or.inr (Or.inl rfl)) e3) lk_Round_75 mb_Book_sortOf rfl ⟨Nat.le_of_ble_eq_true rfl, Nat.le_of_ble_eq_true rfl⟩ ⟨Nat.zero_le _, Nat.zero_le _⟩ (Nat.le_of_ble_eq_true rfl) d_Round_gap_32 hl.1 (rest := []) rfl) ?_
      refine m_istore C hl [(6, .int (iZ x4)), (0, .ref (ad 73)), (1, .int (iZ v1)), (2, .int (iZ v2)), (3, .int (iZ v3)), (4, .int (iZ v4)), (5, .int (iZ v5))] d_Round_gap_35 (by decide) rfl (fun ls hl => ?_)
      refine m_aload_n C hl 1 d_Round_gap_37 rfl rfl ?_
      refine m_getr C hP kc_Round sh_73 (Nat.le_of_ble_eq_true rfl) 9 77 rfl (by decide) fk_Round_21 d_Round_gap_38 ?_
      refine m_iload C hl 5 d_Round_gap_41 rfl ?_
      refine m_bipush C d_Round_gap_43 (by decide) ?_
      refine m_imul C d_Round_gap_45 ?_
      refine m_iload_n C hl 2 d_Round_gap_46 rfl rfl ?_
      refine m_iadd C d_Round_gap_47 ?_
      refine m_iald C hP sh_77 (Nat.le_of_ble_eq_true rfl) (Nat.le_of_ble_eq_true rfl) hM d_Round_gap_48 (fun x5 hM => ?_)
      refine m_istore C hl [(7, .int (iZ x5)), (6, .int (iZ x4)), (0, .ref (ad 73)), (1, .int (iZ v1)), (2, .int (iZ v2)), (3, .int (iZ v3)), (4, .int (iZ v4)), (5, .int (iZ v5))] d_Round_gap_49 (by decide) rfl (fun ls hl => ?_)
      refine m_aload_n C hl 2 d_Round_gap_51 rfl rfl ?_
      refine m_getr C hP kc_Round sh_73 (Nat.le_of_ble_eq_true rfl) 9 77 rfl (by decide) fk_Round_21 d_Round_gap_52 ?_
      refine m_iload C hl 1 d_Round_gap_55 rfl ?_
      refine m_bipush C d_Round_gap_57 (by decide) ?_
      refine m_imul C d_Round_gap_59 ?_
      refine m_iload_n C hl 3 d_Round_gap_60 rfl rfl ?_
      refine m_iadd C d_Round_gap_61 ?_
      refine m_iald C hP sh_77 (Nat.le_of_ble_eq_true rfl) (Nat.le_of_ble_eq_true rfl) hM d_Round_gap_62 (fun x6 hM => ?_)
      refine m_istore C hl [(8, .int (iZ x6)), (7, .int (iZ x5)), (6, .int (iZ x4)), (0, .ref (ad 73)), (1, .int (iZ v1)), (2, .int (iZ v2)), (3, .int (iZ v3)), (4, .int (iZ v4)), (5, .int (iZ v5))] d_Round_gap_63 (by decide) rfl (fun ls hl => ?_)
      refine m_iload C hl 1 d_Round_gap_65 rfl ?_
      refine m_iconst C d_Round_gap_67 ?_
      refine m_icmp_eq C hM 98 d_Round_gap_68 (by decide) (fun hM => ?_) (fun hM => ?_)
      · refine m_iload C hl 2 d_Round_gap_98 rfl ?_
        refine m_istore C hl [(4, .int (iZ x4)), (8, .int (iZ x6)), (7, .int (iZ x5)), (6, .int (iZ x4)), (0, .ref (ad 73)), (1, .int (iZ v1)), (2, .int (iZ v2)), (3, .int (iZ v3)), (5, .int (iZ v5))] d_Round_gap_100 (by decide) rfl (fun ls hl => ?_)
        refine m_iinc C hl 8 [(5, .int (iZ (v5 + 1))), (4, .int (iZ x4)), (8, .int (iZ x6)), (7, .int (iZ x5)), (6, .int (iZ x4)), (0, .ref (ad 73)), (1, .int (iZ v1)), (2, .int (iZ v2)), (3, .int (iZ v3))] d_Round_gap_102 rfl (by decide) rfl (fun ls hl => ?_)
        refine m_goto C 15 d_Round_gap_105 (by decide) ?_
        exact ih v3 x4 (v5 + 1) _ (lv_sub hl [5, 6, 7, 8, 1, 0] rfl) hM
      · refine m_iload C hl 0 d_Round_gap_71 rfl ?_
        refine m_iconst C d_Round_gap_73 ?_
        refine m_icmp_eq C hM 98 d_Round_gap_74 (by decide) (fun hM => ?_) (fun hM => ?_)
        · refine m_iload C hl 2 d_Round_gap_98 rfl ?_
          refine m_istore C hl [(4, .int (iZ x4)), (8, .int (iZ x6)), (7, .int (iZ x5)), (6, .int (iZ x4)), (0, .ref (ad 73)), (1, .int (iZ v1)), (2, .int (iZ v2)), (3, .int (iZ v3)), (5, .int (iZ v5))] d_Round_gap_100 (by decide) rfl (fun ls hl => ?_)
          refine m_iinc C hl 8 [(5, .int (iZ (v5 + 1))), (4, .int (iZ x4)), (8, .int (iZ x6)), (7, .int (iZ x5)), (6, .int (iZ x4)), (0, .ref (ad 73)), (1, .int (iZ v1)), (2, .int (iZ v2)), (3, .int (iZ v3))] d_Round_gap_102 rfl (by decide) rfl (fun ls hl => ?_)
          refine m_goto C 15 d_Round_gap_105 (by decide) ?_
          exact ih v3 x4 (v5 + 1) _ (lv_sub hl [5, 6, 7, 8, 1, 0] rfl) hM
        · refine m_iload_n C hl 6 d_Round_gap_77 rfl rfl ?_
          refine m_aload_n C hl 3 d_Round_gap_78 rfl rfl ?_
          refine m_getr C hP kc_Round sh_73 (Nat.le_of_ble_eq_true rfl) 0 23 rfl (by decide) fk_Round_39 d_Round_gap_79 ?_
          refine m_iload C hl 7 d_Round_gap_82 rfl ?_
          obtain ⟨x8, e7, hM⟩ := bnd_some hM
          refine aftR (runV C hP va_S.rf kc_Book sh_23 (Nat.le_of_ble_eq_true rfl) (c_Book_daysIn hI (Or.inr (Or.inl rfl)) e7) lk_Round_162 mb_Book_daysIn rfl ⟨Nat.le_of_ble_eq_true rfl, Nat.le_of_ble_eq_true rfl⟩ ⟨Nat.zero_le _, Nat.zero_le _⟩ (Nat.le_of_ble_eq_true rfl) d_Round_gap_84 hl.1 (rest := [.int (iZ v3)]) rfl) ?_
          refine m_iload C hl 1 d_Round_gap_87 rfl ?_
          refine m_isub C d_Round_gap_89 ?_
          refine m_iload C hl 0 d_Round_gap_90 rfl ?_
          refine m_iadd C d_Round_gap_92 ?_
          refine m_iload_n C hl 5 d_Round_gap_93 rfl rfl ?_
          obtain ⟨x10, e9, hM⟩ := bnd_some hM
          refine aftR (runS C hP va_S.rf (c_Round_further hI e9) lk_Round_137 mb_Round_further rfl ⟨Nat.le_of_ble_eq_true rfl, Nat.le_of_ble_eq_true rfl⟩ ⟨Nat.zero_le _, Nat.zero_le _⟩ (Nat.le_of_ble_eq_true rfl) d_Round_gap_94 hl.1 (rest := []) rfl) ?_
          refine m_istore_n C hl [(3, .int (iZ x10)), (8, .int (iZ x6)), (7, .int (iZ x5)), (6, .int (iZ x4)), (0, .ref (ad 73)), (1, .int (iZ v1)), (2, .int (iZ v2)), (4, .int (iZ v4)), (5, .int (iZ v5))] d_Round_gap_97 rfl (by decide) rfl (fun ls hl => ?_)
          refine m_iload C hl 3 d_Round_gap_98 rfl ?_
          refine m_istore C hl [(4, .int (iZ x4)), (3, .int (iZ x10)), (8, .int (iZ x6)), (7, .int (iZ x5)), (6, .int (iZ x4)), (0, .ref (ad 73)), (1, .int (iZ v1)), (2, .int (iZ v2)), (5, .int (iZ v5))] d_Round_gap_100 (by decide) rfl (fun ls hl => ?_)
          refine m_iinc C hl 8 [(5, .int (iZ (v5 + 1))), (4, .int (iZ x4)), (3, .int (iZ x10)), (8, .int (iZ x6)), (7, .int (iZ x5)), (6, .int (iZ x4)), (0, .ref (ad 73)), (1, .int (iZ v1)), (2, .int (iZ v2))] d_Round_gap_102 rfl (by decide) rfl (fun ls hl => ?_)
          refine m_goto C 15 d_Round_gap_105 (by decide) ?_
          exact ih x10 x4 (v5 + 1) _ (lv_sub hl [6, 7, 8, 2, 1, 0] rfl) hM
set_option maxHeartbeats 4000000 in
set_option maxRecDepth 100000 in
theorem c_Round_gap {l : Launch} {D : va_G} {ad : Nat → Nat} {cA : Nat → ClassId} {sd sv : Nat → Nat} {h : Hp} {N : Nat} {a1 a2 : Int} {out : Int} (hI : Inj97 ad) (hM : M_Round_gap N h a1 a2 = some out) : Met l y_Round_gap (.code y_Round_gap prog_7_method_21_code 9 (some .int) :: TT) (rmD 4) (PC D ad cA sd sv h [.ref (ad 73), .int (iZ a1), .int (iZ a2)]) (QR out) 0 0 (fun _ => False) := by
  unfold M_Round_gap at hM
  refine entM (by decide +kernel) hI (Nat.le_of_ble_eq_true rfl) ?_
  intro p e s m args below meth c C hr hlk hP ls hl
  have C : Cx p s m args c prog_7_method_21_code 9 "FeastBook$Round" D ad cA sd sv (FA ad) := C
  have hl : lv_has ls 9 [(0, .ref (ad 73)), (1, .int (iZ a1)), (2, .int (iZ a2))] := hl
  refine m_iconst C d_Round_gap_0 ?_
  refine m_istore_n C hl [(3, .int (iZ (-1))), (0, .ref (ad 73)), (1, .int (iZ a1)), (2, .int (iZ a2))] d_Round_gap_1 rfl (by decide) rfl (fun ls hl => ?_)
  refine m_aload_n C hl 1 d_Round_gap_2 rfl rfl ?_
  refine m_getr C hP kc_Round sh_73 (Nat.le_of_ble_eq_true rfl) 0 23 rfl (by decide) fk_Round_39 d_Round_gap_3 ?_
  refine m_iconst C d_Round_gap_6 ?_
  obtain ⟨x2, e1, hM⟩ := bnd_some hM
  refine aftR (runV C hP va_S.rf kc_Book sh_23 (Nat.le_of_ble_eq_true rfl) (c_Book_sortOf hI (Or.inr (Or.inl rfl)) e1) lk_Round_75 mb_Book_sortOf rfl ⟨Nat.le_of_ble_eq_true rfl, Nat.le_of_ble_eq_true rfl⟩ ⟨Nat.zero_le _, Nat.zero_le _⟩ (Nat.le_of_ble_eq_true rfl) d_Round_gap_7 hl.1 (rest := []) rfl) ?_
  refine m_istore C hl [(4, .int (iZ x2)), (3, .int (iZ (-1))), (0, .ref (ad 73)), (1, .int (iZ a1)), (2, .int (iZ a2))] d_Round_gap_10 (by decide) rfl (fun ls hl => ?_)
  refine m_iconst C d_Round_gap_12 ?_
  refine m_istore C hl [(5, .int (iZ 0)), (4, .int (iZ x2)), (3, .int (iZ (-1))), (0, .ref (ad 73)), (1, .int (iZ a1)), (2, .int (iZ a2))] d_Round_gap_13 (by decide) rfl (fun ls hl => ?_)
  exact w_Round_gap_L15 N hI C hr hlk a1 a2 h hP _ (-1) x2 0 _ (lv_sub hl [3, 4, 5, 2, 1, 0] rfl) hM
def y_Round_isKeptBy : MethodName := ⟨"FeastBook$Round", "isKeptBy", "(II)Z"⟩
theorem d_Round_isKeptBy_0 : decode prog_7_method_25_code 0 = .ok (.aload_n 0, 1) := by decide +kernel
theorem d_Round_isKeptBy_1 : decode prog_7_method_25_code 1 = .ok (.getfield 50, 3) := by decide +kernel
theorem d_Round_isKeptBy_4 : decode prog_7_method_25_code 4 = .ok (.iload_n 1, 1) := by decide +kernel
theorem d_Round_isKeptBy_5 : decode prog_7_method_25_code 5 = .ok (.invokevirtual 176, 3) := by decide +kernel
theorem d_Round_isKeptBy_8 : decode prog_7_method_25_code 8 = .ok (.iload_n 2, 1) := by decide +kernel
theorem d_Round_isKeptBy_9 : decode prog_7_method_25_code 9 = .ok (.iadd, 1) := by decide +kernel
theorem d_Round_isKeptBy_10 : decode prog_7_method_25_code 10 = .ok (.istore_n 3, 1) := by decide +kernel
theorem d_Round_isKeptBy_11 : decode prog_7_method_25_code 11 = .ok (.aload_n 0, 1) := by decide +kernel
theorem d_Round_isKeptBy_12 : decode prog_7_method_25_code 12 = .ok (.getfield 39, 3) := by decide +kernel
theorem d_Round_isKeptBy_15 : decode prog_7_method_25_code 15 = .ok (.aload_n 0, 1) := by decide +kernel
theorem d_Round_isKeptBy_16 : decode prog_7_method_25_code 16 = .ok (.getfield 49, 3) := by decide +kernel
theorem d_Round_isKeptBy_19 : decode prog_7_method_25_code 19 = .ok (.getfield 179, 3) := by decide +kernel
theorem d_Round_isKeptBy_22 : decode prog_7_method_25_code 22 = .ok (.iload_n 1, 1) := by decide +kernel
theorem d_Round_isKeptBy_23 : decode prog_7_method_25_code 23 = .ok (.iaload, 1) := by decide +kernel
theorem d_Round_isKeptBy_24 : decode prog_7_method_25_code 24 = .ok (.aload_n 0, 1) := by decide +kernel
theorem d_Round_isKeptBy_25 : decode prog_7_method_25_code 25 = .ok (.getfield 49, 3) := by decide +kernel
theorem d_Round_isKeptBy_28 : decode prog_7_method_25_code 28 = .ok (.getfield 182, 3) := by decide +kernel
theorem d_Round_isKeptBy_31 : decode prog_7_method_25_code 31 = .ok (.iload_n 1, 1) := by decide +kernel
theorem d_Round_isKeptBy_32 : decode prog_7_method_25_code 32 = .ok (.iaload, 1) := by decide +kernel
theorem d_Round_isKeptBy_33 : decode prog_7_method_25_code 33 = .ok (.iload_n 2, 1) := by decide +kernel
theorem d_Round_isKeptBy_34 : decode prog_7_method_25_code 34 = .ok (.iadd, 1) := by decide +kernel
theorem d_Round_isKeptBy_35 : decode prog_7_method_25_code 35 = .ok (.invokevirtual 183, 3) := by decide +kernel
theorem d_Round_isKeptBy_38 : decode prog_7_method_25_code 38 = .ok (.ifCond .eq 39, 3) := by decide +kernel
theorem d_Round_isKeptBy_41 : decode prog_7_method_25_code 41 = .ok (.aload_n 0, 1) := by decide +kernel
theorem d_Round_isKeptBy_42 : decode prog_7_method_25_code 42 = .ok (.getfield 50, 3) := by decide +kernel
theorem d_Round_isKeptBy_45 : decode prog_7_method_25_code 45 = .ok (.iload_n 3, 1) := by decide +kernel
theorem d_Round_isKeptBy_46 : decode prog_7_method_25_code 46 = .ok (.invokevirtual 186, 3) := by decide +kernel
theorem d_Round_isKeptBy_49 : decode prog_7_method_25_code 49 = .ok (.ifCond .eq 28, 3) := by decide +kernel
theorem d_Round_isKeptBy_52 : decode prog_7_method_25_code 52 = .ok (.aload_n 0, 1) := by decide +kernel
theorem d_Round_isKeptBy_53 : decode prog_7_method_25_code 53 = .ok (.getfield 49, 3) := by decide +kernel
theorem d_Round_isKeptBy_56 : decode prog_7_method_25_code 56 = .ok (.getfield 190, 3) := by decide +kernel
theorem d_Round_isKeptBy_59 : decode prog_7_method_25_code 59 = .ok (.iload_n 1, 1) := by decide +kernel
theorem d_Round_isKeptBy_60 : decode prog_7_method_25_code 60 = .ok (.iaload, 1) := by decide +kernel
theorem d_Round_isKeptBy_61 : decode prog_7_method_25_code 61 = .ok (.aload_n 0, 1) := by decide +kernel
theorem d_Round_isKeptBy_62 : decode prog_7_method_25_code 62 = .ok (.getfield 50, 3) := by decide +kernel
theorem d_Round_isKeptBy_65 : decode prog_7_method_25_code 65 = .ok (.iload_n 1, 1) := by decide +kernel
theorem d_Round_isKeptBy_66 : decode prog_7_method_25_code 66 = .ok (.iload_n 3, 1) := by decide +kernel
theorem d_Round_isKeptBy_67 : decode prog_7_method_25_code 67 = .ok (.invokevirtual 150, 3) := by decide +kernel
theorem d_Round_isKeptBy_70 : decode prog_7_method_25_code 70 = .ok (.if_icmp .le 7, 3) := by decide +kernel
theorem d_Round_isKeptBy_73 : decode prog_7_method_25_code 73 = .ok (.iconst 1, 1) := by decide +kernel
theorem d_Round_isKeptBy_74 : decode prog_7_method_25_code 74 = .ok (.goto 4, 3) := by decide +kernel
theorem d_Round_isKeptBy_77 : decode prog_7_method_25_code 77 = .ok (.iconst 0, 1) := by decide +kernel
theorem d_Round_isKeptBy_78 : decode prog_7_method_25_code 78 = .ok (.ireturn, 1) := by decide +kernel
theorem mb_Book_canTell : MBv R_Book y_Book_canTell prog_2_method_5_code 3 (some .boolean) 2 := ⟨mT6 229 (by decide +kernel) (by decide +kernel), mT6 230 (by decide +kernel) (by decide +kernel), mT1 4 (by decide +kernel) (by decide +kernel), mT6 231 (by decide +kernel) (by decide +kernel), by decide, rfl, by decide +kernel, by decide +kernel, by decide +kernel⟩
theorem fk_Round_179 : Cond.fieldLink "FeastBook$Round" 179 (T_Feasts 2).1 (T_Feasts 2).2.1 (T_Feasts 2).2.2.1 ∈ TT := mT1 111 (by decide +kernel) (by decide +kernel)
theorem fk_Round_182 : Cond.fieldLink "FeastBook$Round" 182 (T_Feasts 3).1 (T_Feasts 3).2.1 (T_Feasts 3).2.2.1 ∈ TT := mT1 115 (by decide +kernel) (by decide +kernel)
theorem fk_Round_190 : Cond.fieldLink "FeastBook$Round" 190 (T_Feasts 7).1 (T_Feasts 7).2.1 (T_Feasts 7).2.2.1 ∈ TT := mT1 128 (by decide +kernel) (by decide +kernel)
theorem lk_Round_176 : Cond.methodLink "FeastBook$Round" 176 y_YearPlan_toldDay ∈ TT := mT8 36 (by decide +kernel) (by decide +kernel)
theorem lk_Round_183 : Cond.methodLink "FeastBook$Round" 183 y_Book_canTell ∈ TT := mT8 37 (by decide +kernel) (by decide +kernel)
theorem lk_Round_186 : Cond.methodLink "FeastBook$Round" 186 y_YearPlan_hasDay ∈ TT := mT8 38 (by decide +kernel) (by decide +kernel)
set_option maxHeartbeats 4000000 in
set_option maxRecDepth 100000 in
theorem c_Round_isKeptBy {l : Launch} {D : va_G} {ad : Nat → Nat} {cA : Nat → ClassId} {sd sv : Nat → Nat} {h : Hp} {N : Nat} {a1 a2 : Int} {out : Int} (hI : Inj97 ad) (hM : M_Round_isKeptBy N h a1 a2 = some out) : Met l y_Round_isKeptBy (.code y_Round_isKeptBy prog_7_method_25_code 4 (some .boolean) :: TT) (rmD 4) (PC D ad cA sd sv h [.ref (ad 73), .int (iZ a1), .int (iZ a2)]) (QR out) 0 0 (fun _ => False) := by
  unfold M_Round_isKeptBy at hM
  refine entM (by decide +kernel) hI (Nat.le_of_ble_eq_true rfl) ?_
  intro p e s m args below meth c C hr hlk hP ls hl
  have C : Cx p s m args c prog_7_method_25_code 4 "FeastBook$Round" D ad cA sd sv (FA ad) := C
  have hl : lv_has ls 4 [(0, .ref (ad 73)), (1, .int (iZ a1)), (2, .int (iZ a2))] := hl
  refine m_aload_n C hl 0 d_Round_isKeptBy_0 rfl rfl ?_
  refine m_getr C hP kc_Round sh_73 (Nat.le_of_ble_eq_true rfl) 2 66 rfl (by decide) fk_Round_50 d_Round_isKeptBy_1 ?_
  refine m_iload_n C hl 1 d_Round_isKeptBy_4 rfl rfl ?_
  obtain ⟨x2, e1, hM⟩ := bnd_some hM
  refine aftR (runV C hP va_S.rf kc_YearPlan sh_66 (Nat.le_of_ble_eq_true rfl) (c_YearPlan_toldDay hI e1) lk_Round_176 mb_YearPlan_toldDay rfl ⟨Nat.le_of_ble_eq_true rfl, Nat.le_of_ble_eq_true rfl⟩ ⟨Nat.zero_le _, Nat.zero_le _⟩ (Nat.le_of_ble_eq_true rfl) d_Round_isKeptBy_5 hl.1 (rest := []) rfl) ?_
  refine m_iload_n C hl 2 d_Round_isKeptBy_8 rfl rfl ?_
  refine m_iadd C d_Round_isKeptBy_9 ?_
  refine m_istore_n C hl [(3, .int (iZ (x2 + a2))), (0, .ref (ad 73)), (1, .int (iZ a1)), (2, .int (iZ a2))] d_Round_isKeptBy_10 rfl (by decide) rfl (fun ls hl => ?_)
  refine m_aload_n C hl 1 d_Round_isKeptBy_11 rfl rfl ?_
  refine m_getr C hP kc_Round sh_73 (Nat.le_of_ble_eq_true rfl) 0 23 rfl (by decide) fk_Round_39 d_Round_isKeptBy_12 ?_
  refine m_aload_n C hl 1 d_Round_isKeptBy_15 rfl rfl ?_
  refine m_getr C hP kc_Round sh_73 (Nat.le_of_ble_eq_true rfl) 1 33 rfl (by decide) fk_Round_49 d_Round_isKeptBy_16 ?_
  refine m_getr C hP kc_Feasts sh_33 (Nat.le_of_ble_eq_true rfl) 2 35 rfl (by decide) fk_Round_179 d_Round_isKeptBy_19 ?_
  refine m_iload_n C hl 2 d_Round_isKeptBy_22 rfl rfl ?_
  refine m_iald C hP sh_35 (Nat.le_of_ble_eq_true rfl) (Nat.le_of_ble_eq_true rfl) hM d_Round_isKeptBy_23 (fun x3 hM => ?_)
  refine m_aload_n C hl 1 d_Round_isKeptBy_24 rfl rfl ?_
  refine m_getr C hP kc_Round sh_73 (Nat.le_of_ble_eq_true rfl) 1 33 rfl (by decide) fk_Round_49 d_Round_isKeptBy_25 ?_
  refine m_getr C hP kc_Feasts sh_33 (Nat.le_of_ble_eq_true rfl) 3 36 rfl (by decide) fk_Round_182 d_Round_isKeptBy_28 ?_
  refine m_iload_n C hl 2 d_Round_isKeptBy_31 rfl rfl ?_
  refine m_iald C hP sh_36 (Nat.le_of_ble_eq_true rfl) (Nat.le_of_ble_eq_true rfl) hM d_Round_isKeptBy_32 (fun x4 hM => ?_)
  refine m_iload_n C hl 3 d_Round_isKeptBy_33 rfl rfl ?_
  refine m_iadd C d_Round_isKeptBy_34 ?_
  obtain ⟨x6, e5, hM⟩ := bnd_some hM
  refine aftR (runV C hP va_S.rf kc_Book sh_23 (Nat.le_of_ble_eq_true rfl) (c_Book_canTell hI (Or.inr (Or.inl rfl)) e5) lk_Round_183 mb_Book_canTell rfl ⟨Nat.le_of_ble_eq_true rfl, Nat.le_of_ble_eq_true rfl⟩ ⟨Nat.zero_le _, Nat.zero_le _⟩ (Nat.le_of_ble_eq_true rfl) d_Round_isKeptBy_35 hl.1 (rest := []) rfl) ?_
  refine m_if_eq C hM 77 d_Round_isKeptBy_38 (by decide) (fun hM => ?_) (fun hM => ?_)
  · refine m_iconst C d_Round_isKeptBy_77 ?_
    exact m_zretR C hr hlk hM d_Round_isKeptBy_78
  · refine m_aload_n C hl 1 d_Round_isKeptBy_41 rfl rfl ?_
    refine m_getr C hP kc_Round sh_73 (Nat.le_of_ble_eq_true rfl) 2 66 rfl (by decide) fk_Round_50 d_Round_isKeptBy_42 ?_
    refine m_iload_n C hl 0 d_Round_isKeptBy_45 rfl rfl ?_
    obtain ⟨x8, e7, hM⟩ := bnd_some hM
    refine aftR (runV C hP va_S.rf kc_YearPlan sh_66 (Nat.le_of_ble_eq_true rfl) (c_YearPlan_hasDay hI e7) lk_Round_186 mb_YearPlan_hasDay rfl ⟨Nat.le_of_ble_eq_true rfl, Nat.le_of_ble_eq_true rfl⟩ ⟨Nat.zero_le _, Nat.zero_le _⟩ (Nat.le_of_ble_eq_true rfl) d_Round_isKeptBy_46 hl.1 (rest := []) rfl) ?_
    refine m_if_eq C hM 77 d_Round_isKeptBy_49 (by decide) (fun hM => ?_) (fun hM => ?_)
    · refine m_iconst C d_Round_isKeptBy_77 ?_
      exact m_zretR C hr hlk hM d_Round_isKeptBy_78
    · refine m_aload_n C hl 1 d_Round_isKeptBy_52 rfl rfl ?_
      refine m_getr C hP kc_Round sh_73 (Nat.le_of_ble_eq_true rfl) 1 33 rfl (by decide) fk_Round_49 d_Round_isKeptBy_53 ?_
      refine m_getr C hP kc_Feasts sh_33 (Nat.le_of_ble_eq_true rfl) 7 40 rfl (by decide) fk_Round_190 d_Round_isKeptBy_56 ?_
      refine m_iload_n C hl 2 d_Round_isKeptBy_59 rfl rfl ?_
      refine m_iald C hP sh_40 (Nat.le_of_ble_eq_true rfl) (Nat.le_of_ble_eq_true rfl) hM d_Round_isKeptBy_60 (fun x9 hM => ?_)
      refine m_aload_n C hl 1 d_Round_isKeptBy_61 rfl rfl ?_
      refine m_getr C hP kc_Round sh_73 (Nat.le_of_ble_eq_true rfl) 2 66 rfl (by decide) fk_Round_50 d_Round_isKeptBy_62 ?_
      refine m_iload_n C hl 2 d_Round_isKeptBy_65 rfl rfl ?_
      refine m_iload_n C hl 0 d_Round_isKeptBy_66 rfl rfl ?_
      obtain ⟨x11, e10, hM⟩ := bnd_some hM
      refine aftR (runV C hP va_S.rf kc_YearPlan sh_66 (Nat.le_of_ble_eq_true rfl) (c_YearPlan_greatestOfOthers hI e10) lk_Round_150 mb_YearPlan_greatestOfOthers rfl ⟨Nat.le_of_ble_eq_true rfl, Nat.le_of_ble_eq_true rfl⟩ ⟨Nat.zero_le _, Nat.zero_le _⟩ (Nat.le_of_ble_eq_true rfl) d_Round_isKeptBy_67 hl.1 (rest := [.int (iZ x9)]) rfl) ?_
      refine m_icmp_le C hM 77 d_Round_isKeptBy_70 (by decide) (fun hM => ?_) (fun hM => ?_)
      · refine m_iconst C d_Round_isKeptBy_77 ?_
        exact m_zretR C hr hlk hM d_Round_isKeptBy_78
      · refine m_iconst C d_Round_isKeptBy_73 ?_
        refine m_goto C 78 d_Round_isKeptBy_74 (by decide) ?_
        exact m_zretR C hr hlk hM d_Round_isKeptBy_78
def y_Round_countKept : MethodName := ⟨"FeastBook$Round", "countKept", "(II)V"⟩
theorem d_Round_countKept_0 : decode prog_7_method_24_code 0 = .ok (.aload_n 0, 1) := by decide +kernel
theorem d_Round_countKept_1 : decode prog_7_method_24_code 1 = .ok (.getfield 36, 3) := by decide +kernel
theorem d_Round_countKept_4 : decode prog_7_method_24_code 4 = .ok (.iconst 0, 1) := by decide +kernel
theorem d_Round_countKept_5 : decode prog_7_method_24_code 5 = .ok (.invokestatic 57, 3) := by decide +kernel
theorem d_Round_countKept_8 : decode prog_7_method_24_code 8 = .ok (.iconst 0, 1) := by decide +kernel
theorem d_Round_countKept_9 : decode prog_7_method_24_code 9 = .ok (.istore_n 3, 1) := by decide +kernel
theorem d_Round_countKept_10 : decode prog_7_method_24_code 10 = .ok (.iload_n 3, 1) := by decide +kernel
theorem d_Round_countKept_11 : decode prog_7_method_24_code 11 = .ok (.bipush 80, 2) := by decide +kernel
theorem d_Round_countKept_13 : decode prog_7_method_24_code 13 = .ok (.if_icmp .ge 74, 3) := by decide +kernel
theorem d_Round_countKept_16 : decode prog_7_method_24_code 16 = .ok (.aload_n 0, 1) := by decide +kernel
theorem d_Round_countKept_17 : decode prog_7_method_24_code 17 = .ok (.getfield 9, 3) := by decide +kernel
theorem d_Round_countKept_20 : decode prog_7_method_24_code 20 = .ok (.iload_n 3, 1) := by decide +kernel
theorem d_Round_countKept_21 : decode prog_7_method_24_code 21 = .ok (.iaload, 1) := by decide +kernel
theorem d_Round_countKept_22 : decode prog_7_method_24_code 22 = .ok (.ifCond .le 59, 3) := by decide +kernel
theorem d_Round_countKept_25 : decode prog_7_method_24_code 25 = .ok (.aload_n 0, 1) := by decide +kernel
theorem d_Round_countKept_26 : decode prog_7_method_24_code 26 = .ok (.getfield 50, 3) := by decide +kernel
theorem d_Round_countKept_29 : decode prog_7_method_24_code 29 = .ok (.iload_n 3, 1) := by decide +kernel
theorem d_Round_countKept_30 : decode prog_7_method_24_code 30 = .ok (.invokevirtual 144, 3) := by decide +kernel
theorem d_Round_countKept_33 : decode prog_7_method_24_code 33 = .ok (.iload_n 2, 1) := by decide +kernel
theorem d_Round_countKept_34 : decode prog_7_method_24_code 34 = .ok (.ineg, 1) := by decide +kernel
theorem d_Round_countKept_35 : decode prog_7_method_24_code 35 = .ok (.istore 4, 2) := by decide +kernel
theorem d_Round_countKept_37 : decode prog_7_method_24_code 37 = .ok (.iload 4, 2) := by decide +kernel
theorem d_Round_countKept_39 : decode prog_7_method_24_code 39 = .ok (.iload_n 2, 1) := by decide +kernel
theorem d_Round_countKept_40 : decode prog_7_method_24_code 40 = .ok (.if_icmp .gt 41, 3) := by decide +kernel
theorem d_Round_countKept_43 : decode prog_7_method_24_code 43 = .ok (.aload_n 0, 1) := by decide +kernel
theorem d_Round_countKept_44 : decode prog_7_method_24_code 44 = .ok (.getfield 36, 3) := by decide +kernel
theorem d_Round_countKept_47 : decode prog_7_method_24_code 47 = .ok (.iload 4, 2) := by decide +kernel
theorem d_Round_countKept_49 : decode prog_7_method_24_code 49 = .ok (.iconst 5, 1) := by decide +kernel
theorem d_Round_countKept_50 : decode prog_7_method_24_code 50 = .ok (.iadd, 1) := by decide +kernel
theorem d_Round_countKept_51 : decode prog_7_method_24_code 51 = .ok (.dup2, 1) := by decide +kernel
theorem d_Round_countKept_52 : decode prog_7_method_24_code 52 = .ok (.iaload, 1) := by decide +kernel
theorem d_Round_countKept_53 : decode prog_7_method_24_code 53 = .ok (.aload_n 0, 1) := by decide +kernel
theorem d_Round_countKept_54 : decode prog_7_method_24_code 54 = .ok (.iload_n 1, 1) := by decide +kernel
theorem d_Round_countKept_55 : decode prog_7_method_24_code 55 = .ok (.iload 4, 2) := by decide +kernel
theorem d_Round_countKept_57 : decode prog_7_method_24_code 57 = .ok (.invokevirtual 172, 3) := by decide +kernel
theorem d_Round_countKept_60 : decode prog_7_method_24_code 60 = .ok (.ifCond .eq 12, 3) := by decide +kernel
theorem d_Round_countKept_63 : decode prog_7_method_24_code 63 = .ok (.aload_n 0, 1) := by decide +kernel
theorem d_Round_countKept_64 : decode prog_7_method_24_code 64 = .ok (.getfield 9, 3) := by decide +kernel
theorem d_Round_countKept_67 : decode prog_7_method_24_code 67 = .ok (.iload_n 3, 1) := by decide +kernel
theorem d_Round_countKept_68 : decode prog_7_method_24_code 68 = .ok (.iaload, 1) := by decide +kernel
theorem d_Round_countKept_69 : decode prog_7_method_24_code 69 = .ok (.goto 4, 3) := by decide +kernel
theorem d_Round_countKept_72 : decode prog_7_method_24_code 72 = .ok (.iconst 0, 1) := by decide +kernel
theorem d_Round_countKept_73 : decode prog_7_method_24_code 73 = .ok (.iadd, 1) := by decide +kernel
theorem d_Round_countKept_74 : decode prog_7_method_24_code 74 = .ok (.iastore, 1) := by decide +kernel
theorem d_Round_countKept_75 : decode prog_7_method_24_code 75 = .ok (.iinc 4 1, 3) := by decide +kernel
theorem d_Round_countKept_78 : decode prog_7_method_24_code 78 = .ok (.goto (-41), 3) := by decide +kernel
theorem d_Round_countKept_81 : decode prog_7_method_24_code 81 = .ok (.iinc 3 1, 3) := by decide +kernel
theorem d_Round_countKept_84 : decode prog_7_method_24_code 84 = .ok (.goto (-74), 3) := by decide +kernel
theorem d_Round_countKept_87 : decode prog_7_method_24_code 87 = .ok (.return_, 1) := by decide +kernel
theorem mb_Round_isKeptBy : MBv R_Round y_Round_isKeptBy prog_7_method_25_code 4 (some .boolean) 2 := ⟨mT8 33 (by decide +kernel) (by decide +kernel), mT8 34 (by decide +kernel) (by decide +kernel), mT1 9 (by decide +kernel) (by decide +kernel), mT8 35 (by decide +kernel) (by decide +kernel), by decide, rfl, by decide +kernel, by decide +kernel, by decide +kernel⟩
theorem fk_Round_36 : Cond.fieldLink "FeastBook$Round" 36 (T_Round 14).1 (T_Round 14).2.1 (T_Round 14).2.2.1 ∈ TT := mT2 133 (by decide +kernel) (by decide +kernel)
theorem lk_Round_172 : Cond.methodLink "FeastBook$Round" 172 y_Round_isKeptBy ∈ TT := mT8 32 (by decide +kernel) (by decide +kernel)
set_option maxHeartbeats 4000000 in
set_option maxRecDepth 100000 in
theorem w_Round_countKept_L37 {p : Program} {l : Launch} {e : Env} {s : State} {m : MethodId} {args : Array Value} {below : List Frame} {meth : Method} {c : Code} {D : va_G} {ad : Nat → Nat} {cA : Nat → ClassId} {sd sv : Nat → Nat} {out : Hp} (N : Nat) (hI : Inj97 ad) (C : Cx p s m args c prog_7_method_24_code 5 "FeastBook$Round" D ad cA sd sv (FA ad)) (hr : meth.sig.returnType = none) (hlk : meth.locks = false) (v1 v2 v3 : Int) (k : Int → Hp → Option Hp) (kW : ∀ (v4 : Int) (h : Hp), k v4 h = some out → ∀ (H : Heap) (locs : List Loc), Wd s D ad cA (FA ad) h H locs → ∀ ls : Array Slot, lv_has ls 5 [(0, .ref (ad 73)), (1, .int (iZ v1)), (2, .int (iZ v2)), (3, .int (iZ v3)), (4, .int (iZ v4))] → W p l e (rmD 5) s m args below meth c H locs 0 0 (MQ below (QV D ad cA out) args s 0 0 (FA ad)) (F0 m 81 ls [])) : ∀ (n : Nat) (v4 : Int) (h : Hp) (H : Heap) (locs : List Loc), Wd s D ad cA (FA ad) h H locs → ∀ ls : Array Slot, lv_has ls 5 [(0, .ref (ad 73)), (1, .int (iZ v1)), (2, .int (iZ v2)), (3, .int (iZ v3)), (4, .int (iZ v4))] → Round_countKept_L37 N v1 v2 v3 k n v4 h = some out → W p l e (rmD 5) s m args below meth c H locs 0 0 (MQ below (QV D ad cA out) args s 0 0 (FA ad)) (F0 m 37 ls []) := by
  intro n
  induction n with
  | zero =>
    intro v4 h H locs w ls hl hM
    rw [Round_countKept_L37] at hM
    cases hM
  | succ n ih =>
    intro v4 h H locs w ls hl hM
    rw [Round_countKept_L37] at hM
    refine m_iload C hl 4 d_Round_countKept_37 rfl ?_
    refine m_iload_n C hl 2 d_Round_countKept_39 rfl rfl ?_
    refine m_icmp_gt C hM 81 d_Round_countKept_40 (by decide) (fun hM => ?_) (fun hM => ?_)
    · exact kW v4 h hM _ _ w _ hl
    · refine m_aload_n C hl 0 d_Round_countKept_43 rfl rfl ?_
      refine m_getr C w.1 kc_Round sh_73 (Nat.le_of_ble_eq_true rfl) 14 82 rfl (by decide) fk_Round_36 d_Round_countKept_44 ?_
      refine m_iload C hl 4 d_Round_countKept_47 rfl ?_
      refine m_iconst C d_Round_countKept_49 ?_
      refine m_iadd C d_Round_countKept_50 ?_
      refine m_dup2 C d_Round_countKept_51 rfl rfl ?_
      refine m_iald C w.1 sh_82 (Nat.le_of_ble_eq_true rfl) (Nat.le_of_ble_eq_true rfl) hM d_Round_countKept_52 (fun x6 hM => ?_)
      refine m_aload_n C hl 0 d_Round_countKept_53 rfl rfl ?_
      refine m_iload_n C hl 1 d_Round_countKept_54 rfl rfl ?_
      refine m_iload C hl 4 d_Round_countKept_55 rfl ?_
      obtain ⟨x8, e7, hM⟩ := bnd_some hM
      refine aftR (runV C w.1 w.2 kc_Round sh_73 (Nat.le_of_ble_eq_true rfl) (c_Round_isKeptBy hI e7) lk_Round_172 mb_Round_isKeptBy rfl ⟨Nat.le_of_ble_eq_true rfl, Nat.le_of_ble_eq_true rfl⟩ ⟨Nat.zero_le _, Nat.zero_le _⟩ (Nat.le_of_ble_eq_true rfl) d_Round_countKept_57 hl.1 (rest := [.int (iZ x6), .int (iZ (v4 + 5)), .ref (ad 82)]) rfl) ?_
      refine m_if_eq C hM 72 d_Round_countKept_60 (by decide) (fun hM => ?_) (fun hM => ?_)
      · refine m_iconst C d_Round_countKept_72 ?_
        refine m_iadd C d_Round_countKept_73 ?_
        refine m_iast C w sh_82 (Nat.le_of_ble_eq_true rfl) (Nat.le_of_ble_eq_true rfl) hM d_Round_countKept_74 (fun h9 H locs w hM => ?_)
        refine m_iinc C hl 4 [(4, .int (iZ (v4 + 1))), (0, .ref (ad 73)), (1, .int (iZ v1)), (2, .int (iZ v2)), (3, .int (iZ v3))] d_Round_countKept_75 rfl (by decide) rfl (fun ls hl => ?_)
        refine m_goto C 37 d_Round_countKept_78 (by decide) ?_
        exact ih (v4 + 1) h9 _ _ w _ (lv_sub hl [1, 2, 3, 4, 0] rfl) hM
      · refine m_aload_n C hl 0 d_Round_countKept_63 rfl rfl ?_
        refine m_getr C w.1 kc_Round sh_73 (Nat.le_of_ble_eq_true rfl) 4 74 rfl (by decide) fk_Round_9 d_Round_countKept_64 ?_
        refine m_iload_n C hl 3 d_Round_countKept_67 rfl rfl ?_
        refine m_iald C w.1 sh_74 (Nat.le_of_ble_eq_true rfl) (Nat.le_of_ble_eq_true rfl) hM d_Round_countKept_68 (fun x10 hM => ?_)
        refine m_goto C 73 d_Round_countKept_69 (by decide) ?_
        refine m_iadd C d_Round_countKept_73 ?_
        refine m_iast C w sh_82 (Nat.le_of_ble_eq_true rfl) (Nat.le_of_ble_eq_true rfl) hM d_Round_countKept_74 (fun h11 H locs w hM => ?_)
        refine m_iinc C hl 4 [(4, .int (iZ (v4 + 1))), (0, .ref (ad 73)), (1, .int (iZ v1)), (2, .int (iZ v2)), (3, .int (iZ v3))] d_Round_countKept_75 rfl (by decide) rfl (fun ls hl => ?_)
        refine m_goto C 37 d_Round_countKept_78 (by decide) ?_
        exact ih (v4 + 1) h11 _ _ w _ (lv_sub hl [1, 2, 3, 4, 0] rfl) hM
set_option maxHeartbeats 4000000 in
set_option maxRecDepth 100000 in
theorem w_Round_countKept_L10 {p : Program} {l : Launch} {e : Env} {s : State} {m : MethodId} {args : Array Value} {below : List Frame} {meth : Method} {c : Code} {D : va_G} {ad : Nat → Nat} {cA : Nat → ClassId} {sd sv : Nat → Nat} {out : Hp} (N : Nat) (hI : Inj97 ad) (C : Cx p s m args c prog_7_method_24_code 5 "FeastBook$Round" D ad cA sd sv (FA ad)) (hr : meth.sig.returnType = none) (hlk : meth.locks = false) (v1 v2 : Int) : ∀ (n : Nat) (v3 : Int) (h : Hp) (H : Heap) (locs : List Loc), Wd s D ad cA (FA ad) h H locs → ∀ ls : Array Slot, lv_has ls 5 [(0, .ref (ad 73)), (1, .int (iZ v1)), (2, .int (iZ v2)), (3, .int (iZ v3))] → Round_countKept_L10 N v1 v2 n v3 h = some out → W p l e (rmD 5) s m args below meth c H locs 0 0 (MQ below (QV D ad cA out) args s 0 0 (FA ad)) (F0 m 10 ls []) := by
  intro n
  induction n with
  | zero =>
    intro v3 h H locs w ls hl hM
    rw [Round_countKept_L10] at hM
    cases hM
  | succ n ih =>
    intro v3 h H locs w ls hl hM
    rw [Round_countKept_L10] at hM
    refine m_iload_n C hl 3 d_Round_countKept_10 rfl rfl ?_
    refine m_bipush C d_Round_countKept_11 (by decide) ?_
    refine m_icmp_ge C hM 87 d_Round_countKept_13 (by decide) (fun hM => ?_) (fun hM => ?_)
    · exact m_vretW C w hr hlk hM d_Round_countKept_87
    · refine m_aload_n C hl 0 d_Round_countKept_16 rfl rfl ?_
      refine m_getr C w.1 kc_Round sh_73 (Nat.le_of_ble_eq_true rfl) 4 74 rfl (by decide) fk_Round_9 d_Round_countKept_17 ?_
      refine m_iload_n C hl 3 d_Round_countKept_20 rfl rfl ?_
      refine m_iald C w.1 sh_74 (Nat.le_of_ble_eq_true rfl) (Nat.le_of_ble_eq_true rfl) hM d_Round_countKept_21 (fun x3 hM => ?_)
      refine m_if_le C hM 81 d_Round_countKept_22 (by decide) (fun hM => ?_) (fun hM => ?_)
      · refine m_iinc C hl 3 [(3, .int (iZ (v3 + 1))), (0, .ref (ad 73)), (1, .int (iZ v1)), (2, .int (iZ v2))] d_Round_countKept_81 rfl (by decide) rfl (fun ls hl => ?_)
        refine m_goto C 10 d_Round_countKept_84 (by decide) ?_
        exact ih (v3 + 1) h _ _ w _ (lv_sub hl [1, 2, 3, 0] rfl) hM
      · refine m_aload_n C hl 0 d_Round_countKept_25 rfl rfl ?_
        refine m_getr C w.1 kc_Round sh_73 (Nat.le_of_ble_eq_true rfl) 2 66 rfl (by decide) fk_Round_50 d_Round_countKept_26 ?_
        refine m_iload_n C hl 3 d_Round_countKept_29 rfl rfl ?_
        obtain ⟨h5, e4, hM⟩ := bnd_some hM
        refine aftV C w (runV C w.1 w.2 kc_YearPlan sh_66 (Nat.le_of_ble_eq_true rfl) (c_YearPlan_lay hI e4) lk_Round_144 mb_YearPlan_lay rfl ⟨Nat.le_of_ble_eq_true rfl, Nat.le_of_ble_eq_true rfl⟩ ⟨Nat.zero_le _, Nat.zero_le _⟩ (Nat.le_of_ble_eq_true rfl) d_Round_countKept_30 hl.1 (rest := []) rfl) (fun H locs w => ?_)
        refine m_iload_n C hl 2 d_Round_countKept_33 rfl rfl ?_
        refine m_ineg C d_Round_countKept_34 ?_
        refine m_istore C hl [(4, .int (iZ (-v2))), (0, .ref (ad 73)), (1, .int (iZ v1)), (2, .int (iZ v2)), (3, .int (iZ v3))] d_Round_countKept_35 (by decide) rfl (fun ls hl => ?_)
        refine w_Round_countKept_L37 N hI C hr hlk v1 v2 v3 _ (fun v4_12 h_12 hM H locs w ls hl => ?_) _ (-v2) h5 _ _ w _ (lv_sub hl [1, 2, 3, 4, 0] rfl) hM
        refine m_iinc C hl 3 [(3, .int (iZ (v3 + 1))), (0, .ref (ad 73)), (1, .int (iZ v1)), (2, .int (iZ v2)), (4, .int (iZ v4_12))] d_Round_countKept_81 rfl (by decide) rfl (fun ls hl => ?_)
        refine m_goto C 10 d_Round_countKept_84 (by decide) ?_
        exact ih (v3 + 1) h_12 _ _ w _ (lv_sub hl [1, 2, 3, 0] rfl) hM
set_option maxHeartbeats 4000000 in
set_option maxRecDepth 100000 in
theorem c_Round_countKept {l : Launch} {D : va_G} {ad : Nat → Nat} {cA : Nat → ClassId} {sd sv : Nat → Nat} {h : Hp} {N : Nat} {a1 a2 : Int} {out : Hp} (hI : Inj97 ad) (hM : M_Round_countKept N h a1 a2 = some out) : Met l y_Round_countKept (.code y_Round_countKept prog_7_method_24_code 5 none :: TT) (rmD 5) (PC D ad cA sd sv h [.ref (ad 73), .int (iZ a1), .int (iZ a2)]) (QV D ad cA out) 0 0 (FA ad) := by
  unfold M_Round_countKept at hM
  refine entM (by decide +kernel) hI (Nat.le_of_ble_eq_true rfl) ?_
  intro p e s m args below meth c C hr hlk hP ls hl
  have C : Cx p s m args c prog_7_method_24_code 5 "FeastBook$Round" D ad cA sd sv (FA ad) := C
  have hl : lv_has ls 5 [(0, .ref (ad 73)), (1, .int (iZ a1)), (2, .int (iZ a2))] := hl
  have w : Wd s D ad cA (FA ad) h s.heap [] := ⟨hP, va_S.rf⟩
  refine m_aload_n C hl 0 d_Round_countKept_0 rfl rfl ?_
  refine m_getr C w.1 kc_Round sh_73 (Nat.le_of_ble_eq_true rfl) 14 82 rfl (by decide) fk_Round_36 d_Round_countKept_1 ?_
  refine m_iconst C d_Round_countKept_4 ?_
  obtain ⟨h2, e1, hM⟩ := bnd_some hM
  refine aftV C w (runS C w.1 w.2 (c_JA_fill_IIV hI ⟨sh_82, (Nat.le_of_ble_eq_true rfl), (Nat.le_of_ble_eq_true rfl)⟩ e1) lk_Round_57 mb_JA_fill_IIV rfl ⟨Nat.le_of_ble_eq_true rfl, Nat.le_of_ble_eq_true rfl⟩ ⟨Nat.zero_le _, Nat.zero_le _⟩ (Nat.le_of_ble_eq_true rfl) d_Round_countKept_5 hl.1 (rest := []) rfl) (fun H locs w => ?_)
  refine m_iconst C d_Round_countKept_8 ?_
  refine m_istore_n C hl [(3, .int (iZ 0)), (0, .ref (ad 73)), (1, .int (iZ a1)), (2, .int (iZ a2))] d_Round_countKept_9 rfl (by decide) rfl (fun ls hl => ?_)
  exact w_Round_countKept_L10 N hI C hr hlk a1 a2 _ 0 h2 _ _ w _ (lv_sub hl [1, 2, 3, 0] rfl) hM
def y_Round_keptByShift : MethodName := ⟨"FeastBook$Round", "keptByShift", "(I)I"⟩
theorem d_Round_keptByShift_0 : decode prog_7_method_23_code 0 = .ok (.aload_n 0, 1) := by decide +kernel
theorem d_Round_keptByShift_1 : decode prog_7_method_23_code 1 = .ok (.getfield 36, 3) := by decide +kernel
theorem d_Round_keptByShift_4 : decode prog_7_method_23_code 4 = .ok (.iload_n 1, 1) := by decide +kernel
theorem d_Round_keptByShift_5 : decode prog_7_method_23_code 5 = .ok (.iconst 5, 1) := by decide +kernel
theorem d_Round_keptByShift_6 : decode prog_7_method_23_code 6 = .ok (.iadd, 1) := by decide +kernel
theorem d_Round_keptByShift_7 : decode prog_7_method_23_code 7 = .ok (.iconst 0, 1) := by decide +kernel
theorem d_Round_keptByShift_8 : decode prog_7_method_23_code 8 = .ok (.invokestatic 134, 3) := by decide +kernel
theorem d_Round_keptByShift_11 : decode prog_7_method_23_code 11 = .ok (.bipush 10, 2) := by decide +kernel
theorem d_Round_keptByShift_13 : decode prog_7_method_23_code 13 = .ok (.invokestatic 141, 3) := by decide +kernel
theorem d_Round_keptByShift_16 : decode prog_7_method_23_code 16 = .ok (.iaload, 1) := by decide +kernel
theorem d_Round_keptByShift_17 : decode prog_7_method_23_code 17 = .ok (.ireturn, 1) := by decide +kernel
set_option maxHeartbeats 4000000 in
set_option maxRecDepth 100000 in
theorem c_Round_keptByShift {l : Launch} {D : va_G} {ad : Nat → Nat} {cA : Nat → ClassId} {sd sv : Nat → Nat} {h : Hp} {a1 : Int} {out : Int} (hI : Inj97 ad) (hM : M_Round_keptByShift h a1 = some out) : Met l y_Round_keptByShift (.code y_Round_keptByShift prog_7_method_23_code 2 (some .int) :: TT) (rmD 1) (PC D ad cA sd sv h [.ref (ad 73), .int (iZ a1)]) (QR out) 0 0 (fun _ => False) := by
  unfold M_Round_keptByShift at hM
  refine entM (by decide +kernel) hI (Nat.le_of_ble_eq_true rfl) ?_
  intro p e s m args below meth c C hr hlk hP ls hl
  have C : Cx p s m args c prog_7_method_23_code 2 "FeastBook$Round" D ad cA sd sv (FA ad) := C
  have hl : lv_has ls 2 [(0, .ref (ad 73)), (1, .int (iZ a1))] := hl
  refine m_aload_n C hl 0 d_Round_keptByShift_0 rfl rfl ?_
  refine m_getr C hP kc_Round sh_73 (Nat.le_of_ble_eq_true rfl) 14 82 rfl (by decide) fk_Round_36 d_Round_keptByShift_1 ?_
  refine m_iload_n C hl 1 d_Round_keptByShift_4 rfl rfl ?_
  refine m_iconst C d_Round_keptByShift_5 ?_
  refine m_iadd C d_Round_keptByShift_6 ?_
  refine m_iconst C d_Round_keptByShift_7 ?_
  refine m_max C lk_Round_134 hl.1 (Nat.le_of_ble_eq_true rfl) (Nat.le_of_ble_eq_true rfl) ⟨Nat.zero_le _, Nat.zero_le _⟩ d_Round_keptByShift_8 ?_
  refine m_bipush C d_Round_keptByShift_11 (by decide) ?_
  refine m_min C lk_Round_141 hl.1 (Nat.le_of_ble_eq_true rfl) (Nat.le_of_ble_eq_true rfl) ⟨Nat.zero_le _, Nat.zero_le _⟩ d_Round_keptByShift_13 ?_
  refine m_iald C hP sh_82 (Nat.le_of_ble_eq_true rfl) (Nat.le_of_ble_eq_true rfl) hM d_Round_keptByShift_16 (fun x1 hM => ?_)
  exact m_iretR C hr hlk hM d_Round_keptByShift_17
def y_Round_bestShift : MethodName := ⟨"FeastBook$Round", "bestShift", "(II)I"⟩
theorem d_Round_bestShift_0 : decode prog_7_method_22_code 0 = .ok (.aload_n 0, 1) := by decide +kernel
theorem d_Round_bestShift_1 : decode prog_7_method_22_code 1 = .ok (.iload_n 1, 1) := by decide +kernel
theorem d_Round_bestShift_2 : decode prog_7_method_22_code 2 = .ok (.iload_n 2, 1) := by decide +kernel
theorem d_Round_bestShift_3 : decode prog_7_method_22_code 3 = .ok (.invokevirtual 165, 3) := by decide +kernel
theorem d_Round_bestShift_6 : decode prog_7_method_22_code 6 = .ok (.iconst 0, 1) := by decide +kernel
theorem d_Round_bestShift_7 : decode prog_7_method_22_code 7 = .ok (.istore_n 3, 1) := by decide +kernel
theorem d_Round_bestShift_8 : decode prog_7_method_22_code 8 = .ok (.iconst 1, 1) := by decide +kernel
theorem d_Round_bestShift_9 : decode prog_7_method_22_code 9 = .ok (.istore 4, 2) := by decide +kernel
theorem d_Round_bestShift_11 : decode prog_7_method_22_code 11 = .ok (.iload 4, 2) := by decide +kernel
theorem d_Round_bestShift_13 : decode prog_7_method_22_code 13 = .ok (.iload_n 2, 1) := by decide +kernel
theorem d_Round_bestShift_14 : decode prog_7_method_22_code 14 = .ok (.if_icmp .gt 53, 3) := by decide +kernel
theorem d_Round_bestShift_17 : decode prog_7_method_22_code 17 = .ok (.aload_n 0, 1) := by decide +kernel
theorem d_Round_bestShift_18 : decode prog_7_method_22_code 18 = .ok (.iload 4, 2) := by decide +kernel
theorem d_Round_bestShift_20 : decode prog_7_method_22_code 20 = .ok (.ineg, 1) := by decide +kernel
theorem d_Round_bestShift_21 : decode prog_7_method_22_code 21 = .ok (.invokevirtual 169, 3) := by decide +kernel
theorem d_Round_bestShift_24 : decode prog_7_method_22_code 24 = .ok (.aload_n 0, 1) := by decide +kernel
theorem d_Round_bestShift_25 : decode prog_7_method_22_code 25 = .ok (.iload_n 3, 1) := by decide +kernel
theorem d_Round_bestShift_26 : decode prog_7_method_22_code 26 = .ok (.invokevirtual 169, 3) := by decide +kernel
theorem d_Round_bestShift_29 : decode prog_7_method_22_code 29 = .ok (.if_icmp .le 9, 3) := by decide +kernel
theorem d_Round_bestShift_32 : decode prog_7_method_22_code 32 = .ok (.iload 4, 2) := by decide +kernel
theorem d_Round_bestShift_34 : decode prog_7_method_22_code 34 = .ok (.ineg, 1) := by decide +kernel
theorem d_Round_bestShift_35 : decode prog_7_method_22_code 35 = .ok (.goto 4, 3) := by decide +kernel
theorem d_Round_bestShift_38 : decode prog_7_method_22_code 38 = .ok (.iload_n 3, 1) := by decide +kernel
theorem d_Round_bestShift_39 : decode prog_7_method_22_code 39 = .ok (.istore_n 3, 1) := by decide +kernel
theorem d_Round_bestShift_40 : decode prog_7_method_22_code 40 = .ok (.aload_n 0, 1) := by decide +kernel
theorem d_Round_bestShift_41 : decode prog_7_method_22_code 41 = .ok (.iload 4, 2) := by decide +kernel
theorem d_Round_bestShift_43 : decode prog_7_method_22_code 43 = .ok (.invokevirtual 169, 3) := by decide +kernel
theorem d_Round_bestShift_46 : decode prog_7_method_22_code 46 = .ok (.aload_n 0, 1) := by decide +kernel
theorem d_Round_bestShift_47 : decode prog_7_method_22_code 47 = .ok (.iload_n 3, 1) := by decide +kernel
theorem d_Round_bestShift_48 : decode prog_7_method_22_code 48 = .ok (.invokevirtual 169, 3) := by decide +kernel
theorem d_Round_bestShift_51 : decode prog_7_method_22_code 51 = .ok (.if_icmp .le 8, 3) := by decide +kernel
theorem d_Round_bestShift_54 : decode prog_7_method_22_code 54 = .ok (.iload 4, 2) := by decide +kernel
theorem d_Round_bestShift_56 : decode prog_7_method_22_code 56 = .ok (.goto 4, 3) := by decide +kernel
theorem d_Round_bestShift_59 : decode prog_7_method_22_code 59 = .ok (.iload_n 3, 1) := by decide +kernel
theorem d_Round_bestShift_60 : decode prog_7_method_22_code 60 = .ok (.istore_n 3, 1) := by decide +kernel
theorem d_Round_bestShift_61 : decode prog_7_method_22_code 61 = .ok (.iinc 4 1, 3) := by decide +kernel
theorem d_Round_bestShift_64 : decode prog_7_method_22_code 64 = .ok (.goto (-53), 3) := by decide +kernel
theorem d_Round_bestShift_67 : decode prog_7_method_22_code 67 = .ok (.iload_n 3, 1) := by decide +kernel
theorem d_Round_bestShift_68 : decode prog_7_method_22_code 68 = .ok (.ireturn, 1) := by decide +kernel
theorem mb_Round_countKept : MBv R_Round y_Round_countKept prog_7_method_24_code 5 none 2 := ⟨mT8 29 (by decide +kernel) (by decide +kernel), mT8 30 (by decide +kernel) (by decide +kernel), mT1 9 (by decide +kernel) (by decide +kernel), mT8 31 (by decide +kernel) (by decide +kernel), by decide, rfl, by decide +kernel, by decide +kernel, by decide +kernel⟩
theorem mb_Round_keptByShift : MBv R_Round y_Round_keptByShift prog_7_method_23_code 2 (some .int) 1 := ⟨mT8 40 (by decide +kernel) (by decide +kernel), mT8 41 (by decide +kernel) (by decide +kernel), mT1 9 (by decide +kernel) (by decide +kernel), mT8 42 (by decide +kernel) (by decide +kernel), by decide, rfl, by decide +kernel, by decide +kernel, by decide +kernel⟩
theorem lk_Round_165 : Cond.methodLink "FeastBook$Round" 165 y_Round_countKept ∈ TT := mT8 28 (by decide +kernel) (by decide +kernel)
theorem lk_Round_169 : Cond.methodLink "FeastBook$Round" 169 y_Round_keptByShift ∈ TT := mT8 39 (by decide +kernel) (by decide +kernel)
set_option maxHeartbeats 4000000 in
set_option maxRecDepth 100000 in
theorem w_Round_bestShift_L11 {p : Program} {l : Launch} {e : Env} {s : State} {m : MethodId} {args : Array Value} {below : List Frame} {meth : Method} {c : Code} {D : va_G} {ad : Nat → Nat} {cA : Nat → ClassId} {sd sv : Nat → Nat} {out : (Int × Hp)} (N : Nat) (hI : Inj97 ad) (C : Cx p s m args c prog_7_method_22_code 5 "FeastBook$Round" D ad cA sd sv (FA ad)) (hr : meth.sig.returnType = (some .int)) (hlk : meth.locks = false) (v1 v2 : Int) (h : Hp) (H : Heap) (locs : List Loc) (w : Wd s D ad cA (FA ad) h H locs) : ∀ (n : Nat) (v3 v4 : Int), ∀ ls : Array Slot, lv_has ls 5 [(0, .ref (ad 73)), (1, .int (iZ v1)), (2, .int (iZ v2)), (3, .int (iZ v3)), (4, .int (iZ v4))] → Round_bestShift_L11 N h v2 n v3 v4 = some out → W p l e (rmD 6) s m args below meth c H locs 0 0 (MQ below (QI D ad cA out) args s 0 0 (FA ad)) (F0 m 11 ls []) := by
  intro n
  induction n with
  | zero =>
    intro v3 v4 ls hl hM
    rw [Round_bestShift_L11] at hM
    cases hM
  | succ n ih =>
    intro v3 v4 ls hl hM
    rw [Round_bestShift_L11] at hM
    refine m_iload C hl 4 d_Round_bestShift_11 rfl ?_
    refine m_iload_n C hl 2 d_Round_bestShift_13 rfl rfl ?_
    refine m_icmp_gt C hM 67 d_Round_bestShift_14 (by decide) (fun hM => ?_) (fun hM => ?_)
    · refine m_iload_n C hl 3 d_Round_bestShift_67 rfl rfl ?_
      exact m_iretW C w hr hlk hM d_Round_bestShift_68
    · refine m_aload_n C hl 0 d_Round_bestShift_17 rfl rfl ?_
      refine m_iload C hl 4 d_Round_bestShift_18 rfl ?_
      refine m_ineg C d_Round_bestShift_20 ?_
      obtain ⟨x4, e3, hM⟩ := bnd_some hM
      refine aftR (runV C w.1 w.2 kc_Round sh_73 (Nat.le_of_ble_eq_true rfl) (c_Round_keptByShift hI e3) lk_Round_169 mb_Round_keptByShift rfl ⟨Nat.le_of_ble_eq_true rfl, Nat.le_of_ble_eq_true rfl⟩ ⟨Nat.zero_le _, Nat.zero_le _⟩ (Nat.le_of_ble_eq_true rfl) d_Round_bestShift_21 hl.1 (rest := []) rfl) ?_
      refine m_aload_n C hl 0 d_Round_bestShift_24 rfl rfl ?_
      refine m_iload_n C hl 3 d_Round_bestShift_25 rfl rfl ?_
      obtain ⟨x6, e5, hM⟩ := bnd_some hM
      refine aftR (runV C w.1 w.2 kc_Round sh_73 (Nat.le_of_ble_eq_true rfl) (c_Round_keptByShift hI e5) lk_Round_169 mb_Round_keptByShift rfl ⟨Nat.le_of_ble_eq_true rfl, Nat.le_of_ble_eq_true rfl⟩ ⟨Nat.zero_le _, Nat.zero_le _⟩ (Nat.le_of_ble_eq_true rfl) d_Round_bestShift_26 hl.1 (rest := [.int (iZ x4)]) rfl) ?_
      refine lt_join hM (fun j7 ej hM => ?_)
      have hJ7 : ∀ (s0_7 : Int), j7 s0_7 = some out → ∀ ls : Array Slot, lv_has ls 5 [(0, .ref (ad 73)), (1, .int (iZ v1)), (2, .int (iZ v2)), (3, .int (iZ v3)), (4, .int (iZ v4))] → W p l e (rmD 6) s m args below meth c H locs 0 0 (MQ below (QI D ad cA out) args s 0 0 (FA ad)) (F0 m 39 ls [.int (iZ s0_7)]) := by
        intro s0_7 hM ls hl
        subst ej
        dsimp only at hM
        refine m_istore_n C hl [(3, .int (iZ s0_7)), (0, .ref (ad 73)), (1, .int (iZ v1)), (2, .int (iZ v2)), (4, .int (iZ v4))] d_Round_bestShift_39 rfl (by decide) rfl (fun ls hl => ?_)
        refine m_aload_n C hl 1 d_Round_bestShift_40 rfl rfl ?_
        refine m_iload C hl 4 d_Round_bestShift_41 rfl ?_
        obtain ⟨x9, e8, hM⟩ := bnd_some hM
        refine aftR (runV C w.1 w.2 kc_Round sh_73 (Nat.le_of_ble_eq_true rfl) (c_Round_keptByShift hI e8) lk_Round_169 mb_Round_keptByShift rfl ⟨Nat.le_of_ble_eq_true rfl, Nat.le_of_ble_eq_true rfl⟩ ⟨Nat.zero_le _, Nat.zero_le _⟩ (Nat.le_of_ble_eq_true rfl) d_Round_bestShift_43 hl.1 (rest := []) rfl) ?_
        refine m_aload_n C hl 1 d_Round_bestShift_46 rfl rfl ?_
        refine m_iload_n C hl 0 d_Round_bestShift_47 rfl rfl ?_
        obtain ⟨x11, e10, hM⟩ := bnd_some hM
        refine aftR (runV C w.1 w.2 kc_Round sh_73 (Nat.le_of_ble_eq_true rfl) (c_Round_keptByShift hI e10) lk_Round_169 mb_Round_keptByShift rfl ⟨Nat.le_of_ble_eq_true rfl, Nat.le_of_ble_eq_true rfl⟩ ⟨Nat.zero_le _, Nat.zero_le _⟩ (Nat.le_of_ble_eq_true rfl) d_Round_bestShift_48 hl.1 (rest := [.int (iZ x9)]) rfl) ?_
        refine m_icmp_le C hM 59 d_Round_bestShift_51 (by decide) (fun hM => ?_) (fun hM => ?_)
        · refine m_iload_n C hl 0 d_Round_bestShift_59 rfl rfl ?_
          refine m_istore_n C hl [(3, .int (iZ s0_7)), (0, .ref (ad 73)), (1, .int (iZ v1)), (2, .int (iZ v2)), (4, .int (iZ v4))] d_Round_bestShift_60 rfl (by decide) rfl (fun ls hl => ?_)
          refine m_iinc C hl 4 [(4, .int (iZ (v4 + 1))), (3, .int (iZ s0_7)), (0, .ref (ad 73)), (1, .int (iZ v1)), (2, .int (iZ v2))] d_Round_bestShift_61 rfl (by decide) rfl (fun ls hl => ?_)
          refine m_goto C 11 d_Round_bestShift_64 (by decide) ?_
          exact ih s0_7 (v4 + 1) _ (lv_sub hl [2, 3, 4, 1, 0] rfl) hM
        · refine m_iload C hl 4 d_Round_bestShift_54 rfl ?_
          refine m_goto C 60 d_Round_bestShift_56 (by decide) ?_
          refine m_istore_n C hl [(3, .int (iZ v4)), (0, .ref (ad 73)), (1, .int (iZ v1)), (2, .int (iZ v2)), (4, .int (iZ v4))] d_Round_bestShift_60 rfl (by decide) rfl (fun ls hl => ?_)
          refine m_iinc C hl 4 [(4, .int (iZ (v4 + 1))), (3, .int (iZ v4)), (0, .ref (ad 73)), (1, .int (iZ v1)), (2, .int (iZ v2))] d_Round_bestShift_61 rfl (by decide) rfl (fun ls hl => ?_)
          refine m_goto C 11 d_Round_bestShift_64 (by decide) ?_
          exact ih v4 (v4 + 1) _ (lv_sub hl [2, 3, 4, 1, 0] rfl) hM
      refine m_icmp_le C hM 38 d_Round_bestShift_29 (by decide) (fun hM => ?_) (fun hM => ?_)
      · refine m_iload_n C hl 3 d_Round_bestShift_38 rfl rfl ?_
        exact hJ7 v3 hM _ hl
      · refine m_iload C hl 4 d_Round_bestShift_32 rfl ?_
        refine m_ineg C d_Round_bestShift_34 ?_
        refine m_goto C 39 d_Round_bestShift_35 (by decide) ?_
        exact hJ7 (-v4) hM _ hl
set_option maxHeartbeats 4000000 in
set_option maxRecDepth 100000 in
theorem c_Round_bestShift {l : Launch} {D : va_G} {ad : Nat → Nat} {cA : Nat → ClassId} {sd sv : Nat → Nat} {h : Hp} {N : Nat} {a1 a2 : Int} {out : (Int × Hp)} (hI : Inj97 ad) (hM : M_Round_bestShift N h a1 a2 = some out) : Met l y_Round_bestShift (.code y_Round_bestShift prog_7_method_22_code 5 (some .int) :: TT) (rmD 6) (PC D ad cA sd sv h [.ref (ad 73), .int (iZ a1), .int (iZ a2)]) (QI D ad cA out) 0 0 (FA ad) := by
  unfold M_Round_bestShift at hM
  refine entM (by decide +kernel) hI (Nat.le_of_ble_eq_true rfl) ?_
  intro p e s m args below meth c C hr hlk hP ls hl
  have C : Cx p s m args c prog_7_method_22_code 5 "FeastBook$Round" D ad cA sd sv (FA ad) := C
  have hl : lv_has ls 5 [(0, .ref (ad 73)), (1, .int (iZ a1)), (2, .int (iZ a2))] := hl
  have w : Wd s D ad cA (FA ad) h s.heap [] := ⟨hP, va_S.rf⟩
  refine m_aload_n C hl 0 d_Round_bestShift_0 rfl rfl ?_
  refine m_iload_n C hl 1 d_Round_bestShift_1 rfl rfl ?_
  refine m_iload_n C hl 2 d_Round_bestShift_2 rfl rfl ?_
  obtain ⟨h2, e1, hM⟩ := bnd_some hM
  refine aftV C w (runV C w.1 w.2 kc_Round sh_73 (Nat.le_of_ble_eq_true rfl) (c_Round_countKept hI e1) lk_Round_165 mb_Round_countKept rfl ⟨Nat.le_of_ble_eq_true rfl, Nat.le_of_ble_eq_true rfl⟩ ⟨Nat.zero_le _, Nat.zero_le _⟩ (Nat.le_of_ble_eq_true rfl) d_Round_bestShift_3 hl.1 (rest := []) rfl) (fun H locs w => ?_)
  refine m_iconst C d_Round_bestShift_6 ?_
  refine m_istore_n C hl [(3, .int (iZ 0)), (0, .ref (ad 73)), (1, .int (iZ a1)), (2, .int (iZ a2))] d_Round_bestShift_7 rfl (by decide) rfl (fun ls hl => ?_)
  refine m_iconst C d_Round_bestShift_8 ?_
  refine m_istore C hl [(4, .int (iZ 1)), (3, .int (iZ 0)), (0, .ref (ad 73)), (1, .int (iZ a1)), (2, .int (iZ a2))] d_Round_bestShift_9 (by decide) rfl (fun ls hl => ?_)
  exact w_Round_bestShift_L11 N hI C hr hlk a1 a2 h2 _ _ w _ 0 1 _ (lv_sub hl [2, 3, 4, 1, 0] rfl) hM
def y_Round_worstRival : MethodName := ⟨"FeastBook$Round", "worstRival", "(I)I"⟩
theorem d_Round_worstRival_0 : decode prog_7_method_26_code 0 = .ok (.iconst (-1), 1) := by decide +kernel
theorem d_Round_worstRival_1 : decode prog_7_method_26_code 1 = .ok (.istore_n 2, 1) := by decide +kernel
theorem d_Round_worstRival_2 : decode prog_7_method_26_code 2 = .ok (.iconst 0, 1) := by decide +kernel
theorem d_Round_worstRival_3 : decode prog_7_method_26_code 3 = .ok (.istore_n 3, 1) := by decide +kernel
theorem d_Round_worstRival_4 : decode prog_7_method_26_code 4 = .ok (.iconst 0, 1) := by decide +kernel
theorem d_Round_worstRival_5 : decode prog_7_method_26_code 5 = .ok (.istore 4, 2) := by decide +kernel
theorem d_Round_worstRival_7 : decode prog_7_method_26_code 7 = .ok (.iload 4, 2) := by decide +kernel
theorem d_Round_worstRival_9 : decode prog_7_method_26_code 9 = .ok (.aload_n 0, 1) := by decide +kernel
theorem d_Round_worstRival_10 : decode prog_7_method_26_code 10 = .ok (.getfield 49, 3) := by decide +kernel
theorem d_Round_worstRival_13 : decode prog_7_method_26_code 13 = .ok (.getfield 121, 3) := by decide +kernel
theorem d_Round_worstRival_16 : decode prog_7_method_26_code 16 = .ok (.if_icmp .ge 40, 3) := by decide +kernel
theorem d_Round_worstRival_19 : decode prog_7_method_26_code 19 = .ok (.iload 4, 2) := by decide +kernel
theorem d_Round_worstRival_21 : decode prog_7_method_26_code 21 = .ok (.iload_n 1, 1) := by decide +kernel
theorem d_Round_worstRival_22 : decode prog_7_method_26_code 22 = .ok (.if_icmp .ne 7, 3) := by decide +kernel
theorem d_Round_worstRival_25 : decode prog_7_method_26_code 25 = .ok (.iconst 0, 1) := by decide +kernel
theorem d_Round_worstRival_26 : decode prog_7_method_26_code 26 = .ok (.goto 10, 3) := by decide +kernel
theorem d_Round_worstRival_29 : decode prog_7_method_26_code 29 = .ok (.aload_n 0, 1) := by decide +kernel
theorem d_Round_worstRival_30 : decode prog_7_method_26_code 30 = .ok (.iload_n 1, 1) := by decide +kernel
theorem d_Round_worstRival_31 : decode prog_7_method_26_code 31 = .ok (.iload 4, 2) := by decide +kernel
theorem d_Round_worstRival_33 : decode prog_7_method_26_code 33 = .ok (.invokevirtual 193, 3) := by decide +kernel
theorem d_Round_worstRival_36 : decode prog_7_method_26_code 36 = .ok (.istore 5, 2) := by decide +kernel
theorem d_Round_worstRival_38 : decode prog_7_method_26_code 38 = .ok (.iload 5, 2) := by decide +kernel
theorem d_Round_worstRival_40 : decode prog_7_method_26_code 40 = .ok (.iload_n 3, 1) := by decide +kernel
theorem d_Round_worstRival_41 : decode prog_7_method_26_code 41 = .ok (.if_icmp .le 9, 3) := by decide +kernel
theorem d_Round_worstRival_44 : decode prog_7_method_26_code 44 = .ok (.iload 5, 2) := by decide +kernel
theorem d_Round_worstRival_46 : decode prog_7_method_26_code 46 = .ok (.istore_n 3, 1) := by decide +kernel
theorem d_Round_worstRival_47 : decode prog_7_method_26_code 47 = .ok (.iload 4, 2) := by decide +kernel
theorem d_Round_worstRival_49 : decode prog_7_method_26_code 49 = .ok (.istore_n 2, 1) := by decide +kernel
theorem d_Round_worstRival_50 : decode prog_7_method_26_code 50 = .ok (.iinc 4 1, 3) := by decide +kernel
theorem d_Round_worstRival_53 : decode prog_7_method_26_code 53 = .ok (.goto (-46), 3) := by decide +kernel
theorem d_Round_worstRival_56 : decode prog_7_method_26_code 56 = .ok (.iload_n 2, 1) := by decide +kernel
theorem d_Round_worstRival_57 : decode prog_7_method_26_code 57 = .ok (.ireturn, 1) := by decide +kernel
theorem mb_Round_yearsYielding : MBv R_Round y_Round_yearsYielding prog_7_method_19_code 7 (some .int) 2 := ⟨mT7 213 (by decide +kernel) (by decide +kernel), mT7 214 (by decide +kernel) (by decide +kernel), mT1 9 (by decide +kernel) (by decide +kernel), mT7 215 (by decide +kernel) (by decide +kernel), by decide, rfl, by decide +kernel, by decide +kernel, by decide +kernel⟩
theorem lk_Round_193 : Cond.methodLink "FeastBook$Round" 193 y_Round_yearsYielding ∈ TT := mT8 55 (by decide +kernel) (by decide +kernel)
set_option maxHeartbeats 4000000 in
set_option maxRecDepth 100000 in
theorem w_Round_worstRival_L7 {p : Program} {l : Launch} {e : Env} {s : State} {m : MethodId} {args : Array Value} {below : List Frame} {meth : Method} {c : Code} {D : va_G} {ad : Nat → Nat} {cA : Nat → ClassId} {sd sv : Nat → Nat} {out : Int} (N : Nat) (hI : Inj97 ad) (C : Cx p s m args c prog_7_method_26_code 6 "FeastBook$Round" D ad cA sd sv (FA ad)) (hr : meth.sig.returnType = (some .int)) (hlk : meth.locks = false) (v1 : Int) (h : Hp) (hP : va_P D clL (wl ad cA h) s.heap) : ∀ (n : Nat) (v2 v3 v4 : Int), ∀ ls : Array Slot, lv_has ls 6 [(0, .ref (ad 73)), (1, .int (iZ v1)), (2, .int (iZ v2)), (3, .int (iZ v3)), (4, .int (iZ v4))] → Round_worstRival_L7 N h v1 n v2 v3 v4 = some out → W p l e (rmD 1) s m args below meth c s.heap [] 0 0 (MQ below (QR out) args s 0 0 (fun _ => False)) (F0 m 7 ls []) := by
  intro n
  induction n with
  | zero =>
    intro v2 v3 v4 ls hl hM
    rw [Round_worstRival_L7] at hM
    cases hM
  | succ n ih =>
    intro v2 v3 v4 ls hl hM
    rw [Round_worstRival_L7] at hM
    refine m_iload C hl 4 d_Round_worstRival_7 rfl ?_
    refine m_aload_n C hl 0 d_Round_worstRival_9 rfl rfl ?_
    refine m_getr C hP kc_Round sh_73 (Nat.le_of_ble_eq_true rfl) 1 33 rfl (by decide) fk_Round_49 d_Round_worstRival_10 ?_
    refine m_geti C hP kc_Feasts sh_33 (Nat.le_of_ble_eq_true rfl) 0 rfl (by decide) fk_Round_121 d_Round_worstRival_13 ?_
    refine m_icmp_ge C hM 56 d_Round_worstRival_16 (by decide) (fun hM => ?_) (fun hM => ?_)
    · refine m_iload_n C hl 2 d_Round_worstRival_56 rfl rfl ?_
      exact m_iretR C hr hlk hM d_Round_worstRival_57
    · refine m_iload C hl 4 d_Round_worstRival_19 rfl ?_
      refine m_iload_n C hl 1 d_Round_worstRival_21 rfl rfl ?_
      refine m_icmp_ne C hM 29 d_Round_worstRival_22 (by decide) (fun hM => ?_) (fun hM => ?_)
      · refine m_aload_n C hl 0 d_Round_worstRival_29 rfl rfl ?_
        refine m_iload_n C hl 1 d_Round_worstRival_30 rfl rfl ?_
        refine m_iload C hl 4 d_Round_worstRival_31 rfl ?_
        obtain ⟨x2, e1, hM⟩ := bnd_some hM
        refine aftR (runV C hP va_S.rf kc_Round sh_73 (Nat.le_of_ble_eq_true rfl) (c_Round_yearsYielding hI e1) lk_Round_193 mb_Round_yearsYielding rfl ⟨Nat.le_of_ble_eq_true rfl, Nat.le_of_ble_eq_true rfl⟩ ⟨Nat.zero_le _, Nat.zero_le _⟩ (Nat.le_of_ble_eq_true rfl) d_Round_worstRival_33 hl.1 (rest := []) rfl) ?_
        refine m_istore C hl [(5, .int (iZ x2)), (0, .ref (ad 73)), (1, .int (iZ v1)), (2, .int (iZ v2)), (3, .int (iZ v3)), (4, .int (iZ v4))] d_Round_worstRival_36 (by decide) rfl (fun ls hl => ?_)
        refine m_iload C hl 0 d_Round_worstRival_38 rfl ?_
        refine m_iload_n C hl 4 d_Round_worstRival_40 rfl rfl ?_
        refine m_icmp_le C hM 50 d_Round_worstRival_41 (by decide) (fun hM => ?_) (fun hM => ?_)
        · refine m_iinc C hl 5 [(4, .int (iZ (v4 + 1))), (5, .int (iZ x2)), (0, .ref (ad 73)), (1, .int (iZ v1)), (2, .int (iZ v2)), (3, .int (iZ v3))] d_Round_worstRival_50 rfl (by decide) rfl (fun ls hl => ?_)
          refine m_goto C 7 d_Round_worstRival_53 (by decide) ?_
          exact ih v2 v3 (v4 + 1) _ (lv_sub hl [2, 3, 4, 5, 0] rfl) hM
        · refine m_iload C hl 0 d_Round_worstRival_44 rfl ?_
          refine m_istore_n C hl [(3, .int (iZ x2)), (5, .int (iZ x2)), (0, .ref (ad 73)), (1, .int (iZ v1)), (2, .int (iZ v2)), (4, .int (iZ v4))] d_Round_worstRival_46 rfl (by decide) rfl (fun ls hl => ?_)
          refine m_iload C hl 5 d_Round_worstRival_47 rfl ?_
          refine m_istore_n C hl [(2, .int (iZ v4)), (3, .int (iZ x2)), (5, .int (iZ x2)), (0, .ref (ad 73)), (1, .int (iZ v1)), (4, .int (iZ v4))] d_Round_worstRival_49 rfl (by decide) rfl (fun ls hl => ?_)
          refine m_iinc C hl 5 [(4, .int (iZ (v4 + 1))), (2, .int (iZ v4)), (3, .int (iZ x2)), (5, .int (iZ x2)), (0, .ref (ad 73)), (1, .int (iZ v1))] d_Round_worstRival_50 rfl (by decide) rfl (fun ls hl => ?_)
          refine m_goto C 7 d_Round_worstRival_53 (by decide) ?_
          exact ih v4 x2 (v4 + 1) _ (lv_sub hl [4, 5, 1, 2, 0] rfl) hM
      · refine m_iconst C d_Round_worstRival_25 ?_
        refine m_goto C 36 d_Round_worstRival_26 (by decide) ?_
        refine m_istore C hl [(5, .int (iZ 0)), (0, .ref (ad 73)), (1, .int (iZ v1)), (2, .int (iZ v2)), (3, .int (iZ v3)), (4, .int (iZ v4))] d_Round_worstRival_36 (by decide) rfl (fun ls hl => ?_)
        refine m_iload C hl 0 d_Round_worstRival_38 rfl ?_
        refine m_iload_n C hl 4 d_Round_worstRival_40 rfl rfl ?_
        refine m_icmp_le C hM 50 d_Round_worstRival_41 (by decide) (fun hM => ?_) (fun hM => ?_)
        · refine m_iinc C hl 5 [(4, .int (iZ (v4 + 1))), (5, .int (iZ 0)), (0, .ref (ad 73)), (1, .int (iZ v1)), (2, .int (iZ v2)), (3, .int (iZ v3))] d_Round_worstRival_50 rfl (by decide) rfl (fun ls hl => ?_)
          refine m_goto C 7 d_Round_worstRival_53 (by decide) ?_
          exact ih v2 v3 (v4 + 1) _ (lv_sub hl [2, 3, 4, 5, 0] rfl) hM
        · refine m_iload C hl 0 d_Round_worstRival_44 rfl ?_
          refine m_istore_n C hl [(3, .int (iZ 0)), (5, .int (iZ 0)), (0, .ref (ad 73)), (1, .int (iZ v1)), (2, .int (iZ v2)), (4, .int (iZ v4))] d_Round_worstRival_46 rfl (by decide) rfl (fun ls hl => ?_)
          refine m_iload C hl 5 d_Round_worstRival_47 rfl ?_
          refine m_istore_n C hl [(2, .int (iZ v4)), (3, .int (iZ 0)), (5, .int (iZ 0)), (0, .ref (ad 73)), (1, .int (iZ v1)), (4, .int (iZ v4))] d_Round_worstRival_49 rfl (by decide) rfl (fun ls hl => ?_)
          refine m_iinc C hl 5 [(4, .int (iZ (v4 + 1))), (2, .int (iZ v4)), (3, .int (iZ 0)), (5, .int (iZ 0)), (0, .ref (ad 73)), (1, .int (iZ v1))] d_Round_worstRival_50 rfl (by decide) rfl (fun ls hl => ?_)
          refine m_goto C 7 d_Round_worstRival_53 (by decide) ?_
          exact ih v4 0 (v4 + 1) _ (lv_sub hl [4, 5, 1, 2, 0] rfl) hM
set_option maxHeartbeats 4000000 in
set_option maxRecDepth 100000 in
theorem c_Round_worstRival {l : Launch} {D : va_G} {ad : Nat → Nat} {cA : Nat → ClassId} {sd sv : Nat → Nat} {h : Hp} {N : Nat} {a1 : Int} {out : Int} (hI : Inj97 ad) (hM : M_Round_worstRival N h a1 = some out) : Met l y_Round_worstRival (.code y_Round_worstRival prog_7_method_26_code 6 (some .int) :: TT) (rmD 1) (PC D ad cA sd sv h [.ref (ad 73), .int (iZ a1)]) (QR out) 0 0 (fun _ => False) := by
  unfold M_Round_worstRival at hM
  refine entM (by decide +kernel) hI (Nat.le_of_ble_eq_true rfl) ?_
  intro p e s m args below meth c C hr hlk hP ls hl
  have C : Cx p s m args c prog_7_method_26_code 6 "FeastBook$Round" D ad cA sd sv (FA ad) := C
  have hl : lv_has ls 6 [(0, .ref (ad 73)), (1, .int (iZ a1))] := hl
  refine m_iconst C d_Round_worstRival_0 ?_
  refine m_istore_n C hl [(2, .int (iZ (-1))), (0, .ref (ad 73)), (1, .int (iZ a1))] d_Round_worstRival_1 rfl (by decide) rfl (fun ls hl => ?_)
  refine m_iconst C d_Round_worstRival_2 ?_
  refine m_istore_n C hl [(3, .int (iZ 0)), (2, .int (iZ (-1))), (0, .ref (ad 73)), (1, .int (iZ a1))] d_Round_worstRival_3 rfl (by decide) rfl (fun ls hl => ?_)
  refine m_iconst C d_Round_worstRival_4 ?_
  refine m_istore C hl [(4, .int (iZ 0)), (3, .int (iZ 0)), (2, .int (iZ (-1))), (0, .ref (ad 73)), (1, .int (iZ a1))] d_Round_worstRival_5 (by decide) rfl (fun ls hl => ?_)
  exact w_Round_worstRival_L7 N hI C hr hlk a1 h hP _ (-1) 0 0 _ (lv_sub hl [3, 4, 2, 1, 0] rfl) hM
def y_Round_firstRunOf : MethodName := ⟨"FeastBook$Round", "firstRunOf", "(I)I"⟩
theorem d_Round_firstRunOf_0 : decode prog_7_method_27_code 0 = .ok (.iconst (-1), 1) := by decide +kernel
theorem d_Round_firstRunOf_1 : decode prog_7_method_27_code 1 = .ok (.istore_n 2, 1) := by decide +kernel
theorem d_Round_firstRunOf_2 : decode prog_7_method_27_code 2 = .ok (.iconst 0, 1) := by decide +kernel
theorem d_Round_firstRunOf_3 : decode prog_7_method_27_code 3 = .ok (.istore_n 3, 1) := by decide +kernel
theorem d_Round_firstRunOf_4 : decode prog_7_method_27_code 4 = .ok (.iload_n 3, 1) := by decide +kernel
theorem d_Round_firstRunOf_5 : decode prog_7_method_27_code 5 = .ok (.bipush 80, 2) := by decide +kernel
theorem d_Round_firstRunOf_7 : decode prog_7_method_27_code 7 = .ok (.if_icmp .ge 39, 3) := by decide +kernel
theorem d_Round_firstRunOf_10 : decode prog_7_method_27_code 10 = .ok (.aload_n 0, 1) := by decide +kernel
theorem d_Round_firstRunOf_11 : decode prog_7_method_27_code 11 = .ok (.getfield 9, 3) := by decide +kernel
theorem d_Round_firstRunOf_14 : decode prog_7_method_27_code 14 = .ok (.iload_n 3, 1) := by decide +kernel
theorem d_Round_firstRunOf_15 : decode prog_7_method_27_code 15 = .ok (.iaload, 1) := by decide +kernel
theorem d_Round_firstRunOf_16 : decode prog_7_method_27_code 16 = .ok (.ifCond .le 24, 3) := by decide +kernel
theorem d_Round_firstRunOf_19 : decode prog_7_method_27_code 19 = .ok (.aload_n 0, 1) := by decide +kernel
theorem d_Round_firstRunOf_20 : decode prog_7_method_27_code 20 = .ok (.getfield 27, 3) := by decide +kernel
theorem d_Round_firstRunOf_23 : decode prog_7_method_27_code 23 = .ok (.iload_n 3, 1) := by decide +kernel
theorem d_Round_firstRunOf_24 : decode prog_7_method_27_code 24 = .ok (.iaload, 1) := by decide +kernel
theorem d_Round_firstRunOf_25 : decode prog_7_method_27_code 25 = .ok (.iload_n 1, 1) := by decide +kernel
theorem d_Round_firstRunOf_26 : decode prog_7_method_27_code 26 = .ok (.if_icmp .lt 12, 3) := by decide +kernel
theorem d_Round_firstRunOf_29 : decode prog_7_method_27_code 29 = .ok (.aload_n 0, 1) := by decide +kernel
theorem d_Round_firstRunOf_30 : decode prog_7_method_27_code 30 = .ok (.iload_n 2, 1) := by decide +kernel
theorem d_Round_firstRunOf_31 : decode prog_7_method_27_code 31 = .ok (.iload_n 3, 1) := by decide +kernel
theorem d_Round_firstRunOf_32 : decode prog_7_method_27_code 32 = .ok (.invokevirtual 118, 3) := by decide +kernel
theorem d_Round_firstRunOf_35 : decode prog_7_method_27_code 35 = .ok (.goto 4, 3) := by decide +kernel
theorem d_Round_firstRunOf_38 : decode prog_7_method_27_code 38 = .ok (.iload_n 2, 1) := by decide +kernel
theorem d_Round_firstRunOf_39 : decode prog_7_method_27_code 39 = .ok (.istore_n 2, 1) := by decide +kernel
theorem d_Round_firstRunOf_40 : decode prog_7_method_27_code 40 = .ok (.iinc 3 1, 3) := by decide +kernel
theorem d_Round_firstRunOf_43 : decode prog_7_method_27_code 43 = .ok (.goto (-39), 3) := by decide +kernel
theorem d_Round_firstRunOf_46 : decode prog_7_method_27_code 46 = .ok (.iload_n 2, 1) := by decide +kernel
theorem d_Round_firstRunOf_47 : decode prog_7_method_27_code 47 = .ok (.ireturn, 1) := by decide +kernel
set_option maxHeartbeats 4000000 in
set_option maxRecDepth 100000 in
theorem w_Round_firstRunOf_L4 {p : Program} {l : Launch} {e : Env} {s : State} {m : MethodId} {args : Array Value} {below : List Frame} {meth : Method} {c : Code} {D : va_G} {ad : Nat → Nat} {cA : Nat → ClassId} {sd sv : Nat → Nat} {out : Int} (N : Nat) (hI : Inj97 ad) (C : Cx p s m args c prog_7_method_27_code 4 "FeastBook$Round" D ad cA sd sv (FA ad)) (hr : meth.sig.returnType = (some .int)) (hlk : meth.locks = false) (v1 : Int) (h : Hp) (hP : va_P D clL (wl ad cA h) s.heap) : ∀ (n : Nat) (v2 v3 : Int), ∀ ls : Array Slot, lv_has ls 4 [(0, .ref (ad 73)), (1, .int (iZ v1)), (2, .int (iZ v2)), (3, .int (iZ v3))] → Round_firstRunOf_L4 N h v1 n v2 v3 = some out → W p l e (rmD 1) s m args below meth c s.heap [] 0 0 (MQ below (QR out) args s 0 0 (fun _ => False)) (F0 m 4 ls []) := by
  intro n
  induction n with
  | zero =>
    intro v2 v3 ls hl hM
    rw [Round_firstRunOf_L4] at hM
    cases hM
  | succ n ih =>
    intro v2 v3 ls hl hM
    rw [Round_firstRunOf_L4] at hM
    refine m_iload_n C hl 3 d_Round_firstRunOf_4 rfl rfl ?_
    refine m_bipush C d_Round_firstRunOf_5 (by decide) ?_
    refine m_icmp_ge C hM 46 d_Round_firstRunOf_7 (by decide) (fun hM => ?_) (fun hM => ?_)
    · refine m_iload_n C hl 2 d_Round_firstRunOf_46 rfl rfl ?_
      exact m_iretR C hr hlk hM d_Round_firstRunOf_47
    · refine m_aload_n C hl 0 d_Round_firstRunOf_10 rfl rfl ?_
      refine m_getr C hP kc_Round sh_73 (Nat.le_of_ble_eq_true rfl) 4 74 rfl (by decide) fk_Round_9 d_Round_firstRunOf_11 ?_
      refine m_iload_n C hl 3 d_Round_firstRunOf_14 rfl rfl ?_
      refine m_iald C hP sh_74 (Nat.le_of_ble_eq_true rfl) (Nat.le_of_ble_eq_true rfl) hM d_Round_firstRunOf_15 (fun x1 hM => ?_)
      refine m_if_le C hM 40 d_Round_firstRunOf_16 (by decide) (fun hM => ?_) (fun hM => ?_)
      · refine m_iinc C hl 3 [(3, .int (iZ (v3 + 1))), (0, .ref (ad 73)), (1, .int (iZ v1)), (2, .int (iZ v2))] d_Round_firstRunOf_40 rfl (by decide) rfl (fun ls hl => ?_)
        refine m_goto C 4 d_Round_firstRunOf_43 (by decide) ?_
        exact ih v2 (v3 + 1) _ (lv_sub hl [1, 2, 3, 0] rfl) hM
      · refine m_aload_n C hl 0 d_Round_firstRunOf_19 rfl rfl ?_
        refine m_getr C hP kc_Round sh_73 (Nat.le_of_ble_eq_true rfl) 11 79 rfl (by decide) fk_Round_27 d_Round_firstRunOf_20 ?_
        refine m_iload_n C hl 3 d_Round_firstRunOf_23 rfl rfl ?_
        refine m_iald C hP sh_79 (Nat.le_of_ble_eq_true rfl) (Nat.le_of_ble_eq_true rfl) hM d_Round_firstRunOf_24 (fun x2 hM => ?_)
        refine m_iload_n C hl 1 d_Round_firstRunOf_25 rfl rfl ?_
        refine m_icmp_lt C hM 38 d_Round_firstRunOf_26 (by decide) (fun hM => ?_) (fun hM => ?_)
        · refine m_iload_n C hl 2 d_Round_firstRunOf_38 rfl rfl ?_
          refine m_istore_n C hl [(2, .int (iZ v2)), (0, .ref (ad 73)), (1, .int (iZ v1)), (3, .int (iZ v3))] d_Round_firstRunOf_39 rfl (by decide) rfl (fun ls hl => ?_)
          refine m_iinc C hl 3 [(3, .int (iZ (v3 + 1))), (2, .int (iZ v2)), (0, .ref (ad 73)), (1, .int (iZ v1))] d_Round_firstRunOf_40 rfl (by decide) rfl (fun ls hl => ?_)
          refine m_goto C 4 d_Round_firstRunOf_43 (by decide) ?_
          exact ih v2 (v3 + 1) _ (lv_sub hl [2, 3, 1, 0] rfl) hM
        · refine m_aload_n C hl 0 d_Round_firstRunOf_29 rfl rfl ?_
          refine m_iload_n C hl 2 d_Round_firstRunOf_30 rfl rfl ?_
          refine m_iload_n C hl 3 d_Round_firstRunOf_31 rfl rfl ?_
          obtain ⟨x4, e3, hM⟩ := bnd_some hM
          refine aftR (runV C hP va_S.rf kc_Round sh_73 (Nat.le_of_ble_eq_true rfl) (c_Round_earlier hI e3) lk_Round_118 mb_Round_earlier rfl ⟨Nat.le_of_ble_eq_true rfl, Nat.le_of_ble_eq_true rfl⟩ ⟨Nat.zero_le _, Nat.zero_le _⟩ (Nat.le_of_ble_eq_true rfl) d_Round_firstRunOf_32 hl.1 (rest := []) rfl) ?_
          refine m_goto C 39 d_Round_firstRunOf_35 (by decide) ?_
          refine m_istore_n C hl [(2, .int (iZ x4)), (0, .ref (ad 73)), (1, .int (iZ v1)), (3, .int (iZ v3))] d_Round_firstRunOf_39 rfl (by decide) rfl (fun ls hl => ?_)
          refine m_iinc C hl 3 [(3, .int (iZ (v3 + 1))), (2, .int (iZ x4)), (0, .ref (ad 73)), (1, .int (iZ v1))] d_Round_firstRunOf_40 rfl (by decide) rfl (fun ls hl => ?_)
          refine m_goto C 4 d_Round_firstRunOf_43 (by decide) ?_
          exact ih x4 (v3 + 1) _ (lv_sub hl [2, 3, 1, 0] rfl) hM
set_option maxHeartbeats 4000000 in
set_option maxRecDepth 100000 in
theorem c_Round_firstRunOf {l : Launch} {D : va_G} {ad : Nat → Nat} {cA : Nat → ClassId} {sd sv : Nat → Nat} {h : Hp} {N : Nat} {a1 : Int} {out : Int} (hI : Inj97 ad) (hM : M_Round_firstRunOf N h a1 = some out) : Met l y_Round_firstRunOf (.code y_Round_firstRunOf prog_7_method_27_code 4 (some .int) :: TT) (rmD 1) (PC D ad cA sd sv h [.ref (ad 73), .int (iZ a1)]) (QR out) 0 0 (fun _ => False) := by
  unfold M_Round_firstRunOf at hM
  refine entM (by decide +kernel) hI (Nat.le_of_ble_eq_true rfl) ?_
  intro p e s m args below meth c C hr hlk hP ls hl
  have C : Cx p s m args c prog_7_method_27_code 4 "FeastBook$Round" D ad cA sd sv (FA ad) := C
  have hl : lv_has ls 4 [(0, .ref (ad 73)), (1, .int (iZ a1))] := hl
  refine m_iconst C d_Round_firstRunOf_0 ?_
  refine m_istore_n C hl [(2, .int (iZ (-1))), (0, .ref (ad 73)), (1, .int (iZ a1))] d_Round_firstRunOf_1 rfl (by decide) rfl (fun ls hl => ?_)
  refine m_iconst C d_Round_firstRunOf_2 ?_
  refine m_istore_n C hl [(3, .int (iZ 0)), (2, .int (iZ (-1))), (0, .ref (ad 73)), (1, .int (iZ a1))] d_Round_firstRunOf_3 rfl (by decide) rfl (fun ls hl => ?_)
  exact w_Round_firstRunOf_L4 N hI C hr hlk a1 h hP _ (-1) 0 _ (lv_sub hl [2, 3, 1, 0] rfl) hM
def y_Round_mostKept : MethodName := ⟨"FeastBook$Round", "mostKept", "()I"⟩
theorem d_Round_mostKept_0 : decode prog_7_method_28_code 0 = .ok (.iconst (-1), 1) := by decide +kernel
theorem d_Round_mostKept_1 : decode prog_7_method_28_code 1 = .ok (.istore_n 1, 1) := by decide +kernel
theorem d_Round_mostKept_2 : decode prog_7_method_28_code 2 = .ok (.iconst (-1), 1) := by decide +kernel
theorem d_Round_mostKept_3 : decode prog_7_method_28_code 3 = .ok (.istore_n 2, 1) := by decide +kernel
theorem d_Round_mostKept_4 : decode prog_7_method_28_code 4 = .ok (.iconst 0, 1) := by decide +kernel
theorem d_Round_mostKept_5 : decode prog_7_method_28_code 5 = .ok (.istore_n 3, 1) := by decide +kernel
theorem d_Round_mostKept_6 : decode prog_7_method_28_code 6 = .ok (.iload_n 3, 1) := by decide +kernel
theorem d_Round_mostKept_7 : decode prog_7_method_28_code 7 = .ok (.aload_n 0, 1) := by decide +kernel
theorem d_Round_mostKept_8 : decode prog_7_method_28_code 8 = .ok (.getfield 49, 3) := by decide +kernel
theorem d_Round_mostKept_11 : decode prog_7_method_28_code 11 = .ok (.getfield 121, 3) := by decide +kernel
theorem d_Round_mostKept_14 : decode prog_7_method_28_code 14 = .ok (.if_icmp .ge 28, 3) := by decide +kernel
theorem d_Round_mostKept_17 : decode prog_7_method_28_code 17 = .ok (.aload_n 0, 1) := by decide +kernel
theorem d_Round_mostKept_18 : decode prog_7_method_28_code 18 = .ok (.iload_n 3, 1) := by decide +kernel
theorem d_Round_mostKept_19 : decode prog_7_method_28_code 19 = .ok (.iconst 0, 1) := by decide +kernel
theorem d_Round_mostKept_20 : decode prog_7_method_28_code 20 = .ok (.invokevirtual 196, 3) := by decide +kernel
theorem d_Round_mostKept_23 : decode prog_7_method_28_code 23 = .ok (.istore 4, 2) := by decide +kernel
theorem d_Round_mostKept_25 : decode prog_7_method_28_code 25 = .ok (.iload 4, 2) := by decide +kernel
theorem d_Round_mostKept_27 : decode prog_7_method_28_code 27 = .ok (.iload_n 2, 1) := by decide +kernel
theorem d_Round_mostKept_28 : decode prog_7_method_28_code 28 = .ok (.if_icmp .le 8, 3) := by decide +kernel
theorem d_Round_mostKept_31 : decode prog_7_method_28_code 31 = .ok (.iload 4, 2) := by decide +kernel
theorem d_Round_mostKept_33 : decode prog_7_method_28_code 33 = .ok (.istore_n 2, 1) := by decide +kernel
theorem d_Round_mostKept_34 : decode prog_7_method_28_code 34 = .ok (.iload_n 3, 1) := by decide +kernel
theorem d_Round_mostKept_35 : decode prog_7_method_28_code 35 = .ok (.istore_n 1, 1) := by decide +kernel
theorem d_Round_mostKept_36 : decode prog_7_method_28_code 36 = .ok (.iinc 3 1, 3) := by decide +kernel
theorem d_Round_mostKept_39 : decode prog_7_method_28_code 39 = .ok (.goto (-33), 3) := by decide +kernel
theorem d_Round_mostKept_42 : decode prog_7_method_28_code 42 = .ok (.iload_n 1, 1) := by decide +kernel
theorem d_Round_mostKept_43 : decode prog_7_method_28_code 43 = .ok (.ireturn, 1) := by decide +kernel
theorem mb_Round_yearsWith : MBv R_Round y_Round_yearsWith prog_7_method_7_code 5 (some .int) 2 := ⟨mT7 70 (by decide +kernel) (by decide +kernel), mT7 71 (by decide +kernel) (by decide +kernel), mT1 9 (by decide +kernel) (by decide +kernel), mT7 72 (by decide +kernel) (by decide +kernel), by decide, rfl, by decide +kernel, by decide +kernel, by decide +kernel⟩
theorem lk_Round_196 : Cond.methodLink "FeastBook$Round" 196 y_Round_yearsWith ∈ TT := mT8 89 (by decide +kernel) (by decide +kernel)
set_option maxHeartbeats 4000000 in
set_option maxRecDepth 100000 in
theorem w_Round_mostKept_L6 {p : Program} {l : Launch} {e : Env} {s : State} {m : MethodId} {args : Array Value} {below : List Frame} {meth : Method} {c : Code} {D : va_G} {ad : Nat → Nat} {cA : Nat → ClassId} {sd sv : Nat → Nat} {out : Int} (N : Nat) (hI : Inj97 ad) (C : Cx p s m args c prog_7_method_28_code 5 "FeastBook$Round" D ad cA sd sv (FA ad)) (hr : meth.sig.returnType = (some .int)) (hlk : meth.locks = false) (h : Hp) (hP : va_P D clL (wl ad cA h) s.heap) : ∀ (n : Nat) (v1 v2 v3 : Int), ∀ ls : Array Slot, lv_has ls 5 [(0, .ref (ad 73)), (1, .int (iZ v1)), (2, .int (iZ v2)), (3, .int (iZ v3))] → Round_mostKept_L6 N h n v1 v2 v3 = some out → W p l e (rmD 1) s m args below meth c s.heap [] 0 0 (MQ below (QR out) args s 0 0 (fun _ => False)) (F0 m 6 ls []) := by
  intro n
  induction n with
  | zero =>
    intro v1 v2 v3 ls hl hM
    rw [Round_mostKept_L6] at hM
    cases hM
  | succ n ih =>
    intro v1 v2 v3 ls hl hM
    rw [Round_mostKept_L6] at hM
    refine m_iload_n C hl 3 d_Round_mostKept_6 rfl rfl ?_
    refine m_aload_n C hl 0 d_Round_mostKept_7 rfl rfl ?_
    refine m_getr C hP kc_Round sh_73 (Nat.le_of_ble_eq_true rfl) 1 33 rfl (by decide) fk_Round_49 d_Round_mostKept_8 ?_
    refine m_geti C hP kc_Feasts sh_33 (Nat.le_of_ble_eq_true rfl) 0 rfl (by decide) fk_Round_121 d_Round_mostKept_11 ?_
    refine m_icmp_ge C hM 42 d_Round_mostKept_14 (by decide) (fun hM => ?_) (fun hM => ?_)
    · refine m_iload_n C hl 1 d_Round_mostKept_42 rfl rfl ?_
      exact m_iretR C hr hlk hM d_Round_mostKept_43
    · refine m_aload_n C hl 0 d_Round_mostKept_17 rfl rfl ?_
      refine m_iload_n C hl 3 d_Round_mostKept_18 rfl rfl ?_
      refine m_iconst C d_Round_mostKept_19 ?_
      obtain ⟨x2, e1, hM⟩ := bnd_some hM
      refine aftR (runV C hP va_S.rf kc_Round sh_73 (Nat.le_of_ble_eq_true rfl) (c_Round_yearsWith hI e1) lk_Round_196 mb_Round_yearsWith rfl ⟨Nat.le_of_ble_eq_true rfl, Nat.le_of_ble_eq_true rfl⟩ ⟨Nat.zero_le _, Nat.zero_le _⟩ (Nat.le_of_ble_eq_true rfl) d_Round_mostKept_20 hl.1 (rest := []) rfl) ?_
      refine m_istore C hl [(4, .int (iZ x2)), (0, .ref (ad 73)), (1, .int (iZ v1)), (2, .int (iZ v2)), (3, .int (iZ v3))] d_Round_mostKept_23 (by decide) rfl (fun ls hl => ?_)
      refine m_iload C hl 0 d_Round_mostKept_25 rfl ?_
      refine m_iload_n C hl 3 d_Round_mostKept_27 rfl rfl ?_
      refine m_icmp_le C hM 36 d_Round_mostKept_28 (by decide) (fun hM => ?_) (fun hM => ?_)
      · refine m_iinc C hl 4 [(3, .int (iZ (v3 + 1))), (4, .int (iZ x2)), (0, .ref (ad 73)), (1, .int (iZ v1)), (2, .int (iZ v2))] d_Round_mostKept_36 rfl (by decide) rfl (fun ls hl => ?_)
        refine m_goto C 6 d_Round_mostKept_39 (by decide) ?_
        exact ih v1 v2 (v3 + 1) _ (lv_sub hl [2, 3, 4, 0] rfl) hM
      · refine m_iload C hl 0 d_Round_mostKept_31 rfl ?_
        refine m_istore_n C hl [(2, .int (iZ x2)), (4, .int (iZ x2)), (0, .ref (ad 73)), (1, .int (iZ v1)), (3, .int (iZ v3))] d_Round_mostKept_33 rfl (by decide) rfl (fun ls hl => ?_)
        refine m_iload_n C hl 4 d_Round_mostKept_34 rfl rfl ?_
        refine m_istore_n C hl [(1, .int (iZ v3)), (2, .int (iZ x2)), (4, .int (iZ x2)), (0, .ref (ad 73)), (3, .int (iZ v3))] d_Round_mostKept_35 rfl (by decide) rfl (fun ls hl => ?_)
        refine m_iinc C hl 4 [(3, .int (iZ (v3 + 1))), (1, .int (iZ v3)), (2, .int (iZ x2)), (4, .int (iZ x2)), (0, .ref (ad 73))] d_Round_mostKept_36 rfl (by decide) rfl (fun ls hl => ?_)
        refine m_goto C 6 d_Round_mostKept_39 (by decide) ?_
        exact ih v3 x2 (v3 + 1) _ (lv_sub hl [4, 1, 2, 0] rfl) hM
set_option maxHeartbeats 4000000 in
set_option maxRecDepth 100000 in
theorem c_Round_mostKept {l : Launch} {D : va_G} {ad : Nat → Nat} {cA : Nat → ClassId} {sd sv : Nat → Nat} {h : Hp} {N : Nat} {out : Int} (hI : Inj97 ad) (hM : M_Round_mostKept N h = some out) : Met l y_Round_mostKept (.code y_Round_mostKept prog_7_method_28_code 5 (some .int) :: TT) (rmD 1) (PC D ad cA sd sv h [.ref (ad 73)]) (QR out) 0 0 (fun _ => False) := by
  unfold M_Round_mostKept at hM
  refine entM (by decide +kernel) hI (Nat.le_of_ble_eq_true rfl) ?_
  intro p e s m args below meth c C hr hlk hP ls hl
  have C : Cx p s m args c prog_7_method_28_code 5 "FeastBook$Round" D ad cA sd sv (FA ad) := C
  have hl : lv_has ls 5 [(0, .ref (ad 73))] := hl
  refine m_iconst C d_Round_mostKept_0 ?_
  refine m_istore_n C hl [(1, .int (iZ (-1))), (0, .ref (ad 73))] d_Round_mostKept_1 rfl (by decide) rfl (fun ls hl => ?_)
  refine m_iconst C d_Round_mostKept_2 ?_
  refine m_istore_n C hl [(2, .int (iZ (-1))), (1, .int (iZ (-1))), (0, .ref (ad 73))] d_Round_mostKept_3 rfl (by decide) rfl (fun ls hl => ?_)
  refine m_iconst C d_Round_mostKept_4 ?_
  refine m_istore_n C hl [(3, .int (iZ 0)), (2, .int (iZ (-1))), (1, .int (iZ (-1))), (0, .ref (ad 73))] d_Round_mostKept_5 rfl (by decide) rfl (fun ls hl => ?_)
  exact w_Round_mostKept_L6 N hI C hr hlk  h hP _ (-1) (-1) 0 _ (lv_sub hl [3, 2, 1, 0] rfl) hM

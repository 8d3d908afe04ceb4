def y_Md_beats0 : MethodName := ⟨"FeastBookModel", "beats0", "(II)Z"⟩
theorem d_Md_beats0_0 : decode prog_13_method_22_code 0 = .ok (.aload_n 0, 1) := by decide +kernel
theorem d_Md_beats0_1 : decode prog_13_method_22_code 1 = .ok (.iload_n 1, 1) := by decide +kernel
theorem d_Md_beats0_2 : decode prog_13_method_22_code 2 = .ok (.iconst 0, 1) := by decide +kernel
theorem d_Md_beats0_3 : decode prog_13_method_22_code 3 = .ok (.invokevirtual 90, 3) := by decide +kernel
theorem d_Md_beats0_6 : decode prog_13_method_22_code 6 = .ok (.aload_n 0, 1) := by decide +kernel
theorem d_Md_beats0_7 : decode prog_13_method_22_code 7 = .ok (.iload_n 2, 1) := by decide +kernel
theorem d_Md_beats0_8 : decode prog_13_method_22_code 8 = .ok (.iconst 0, 1) := by decide +kernel
theorem d_Md_beats0_9 : decode prog_13_method_22_code 9 = .ok (.invokevirtual 90, 3) := by decide +kernel
theorem d_Md_beats0_12 : decode prog_13_method_22_code 12 = .ok (.if_icmp .eq 24, 3) := by decide +kernel
theorem d_Md_beats0_15 : decode prog_13_method_22_code 15 = .ok (.aload_n 0, 1) := by decide +kernel
theorem d_Md_beats0_16 : decode prog_13_method_22_code 16 = .ok (.iload_n 1, 1) := by decide +kernel
theorem d_Md_beats0_17 : decode prog_13_method_22_code 17 = .ok (.iconst 0, 1) := by decide +kernel
theorem d_Md_beats0_18 : decode prog_13_method_22_code 18 = .ok (.invokevirtual 90, 3) := by decide +kernel
theorem d_Md_beats0_21 : decode prog_13_method_22_code 21 = .ok (.aload_n 0, 1) := by decide +kernel
theorem d_Md_beats0_22 : decode prog_13_method_22_code 22 = .ok (.iload_n 2, 1) := by decide +kernel
theorem d_Md_beats0_23 : decode prog_13_method_22_code 23 = .ok (.iconst 0, 1) := by decide +kernel
theorem d_Md_beats0_24 : decode prog_13_method_22_code 24 = .ok (.invokevirtual 90, 3) := by decide +kernel
theorem d_Md_beats0_27 : decode prog_13_method_22_code 27 = .ok (.if_icmp .le 7, 3) := by decide +kernel
theorem d_Md_beats0_30 : decode prog_13_method_22_code 30 = .ok (.iconst 1, 1) := by decide +kernel
theorem d_Md_beats0_31 : decode prog_13_method_22_code 31 = .ok (.goto 4, 3) := by decide +kernel
theorem d_Md_beats0_34 : decode prog_13_method_22_code 34 = .ok (.iconst 0, 1) := by decide +kernel
theorem d_Md_beats0_35 : decode prog_13_method_22_code 35 = .ok (.ireturn, 1) := by decide +kernel
theorem d_Md_beats0_36 : decode prog_13_method_22_code 36 = .ok (.aload_n 0, 1) := by decide +kernel
theorem d_Md_beats0_37 : decode prog_13_method_22_code 37 = .ok (.iload_n 1, 1) := by decide +kernel
theorem d_Md_beats0_38 : decode prog_13_method_22_code 38 = .ok (.iload_n 2, 1) := by decide +kernel
theorem d_Md_beats0_39 : decode prog_13_method_22_code 39 = .ok (.invokevirtual 93, 3) := by decide +kernel
theorem d_Md_beats0_42 : decode prog_13_method_22_code 42 = .ok (.ireturn, 1) := by decide +kernel
theorem mb_Md_isAhead : MBv R_Md y_Md_isAhead prog_13_method_21_code 3 (some .boolean) 2 := ⟨mT9 108 (by decide +kernel) (by decide +kernel), mTs 44 (by decide +kernel) (by decide +kernel), mT1 10 (by decide +kernel) (by decide +kernel), mT9 109 (by decide +kernel) (by decide +kernel), by decide, rfl, by decide +kernel, by decide +kernel, by decide +kernel⟩
theorem lk_Md_93 : Cond.methodLink "FeastBookModel" 93 y_Md_isAhead ∈ TT := mT9 106 (by decide +kernel) (by decide +kernel)
set_option maxHeartbeats 4000000 in
set_option maxRecDepth 100000 in
theorem c_Md_beats0 {l : Launch} {D : va_G} {ad : Nat → Nat} {cA : Nat → ClassId} {sd sv : Nat → Nat} {h : Hp} {a1 a2 : Int} {out : Int} (hI : Inj97 ad) (hM : M_Md_beats0 h a1 a2 = some out) : Met l y_Md_beats0 (.code y_Md_beats0 prog_13_method_22_code 3 (some .boolean) :: TT) (rmD 2) (PC D ad cA sd sv h [.ref (ad 83), .int (iZ a1), .int (iZ a2)]) (QR out) 0 0 (fun _ => False) := by
  unfold M_Md_beats0 at hM
  refine entM (by decide +kernel) hI (Nat.le_of_ble_eq_true rfl) ?_
  intro p e s m args below meth c C hr hlk hP ls hl
  have C : Cx p s m args c prog_13_method_22_code 3 "FeastBookModel" D ad cA sd sv (FA ad) := C
  have hl : lv_has ls 3 [(0, .ref (ad 83)), (1, .int (iZ a1)), (2, .int (iZ a2))] := hl
  refine m_aload_n C hl 0 d_Md_beats0_0 rfl rfl ?_
  refine m_iload_n C hl 1 d_Md_beats0_1 rfl rfl ?_
  refine m_iconst C d_Md_beats0_2 ?_
  obtain ⟨x2, e1, hM⟩ := bnd_some hM
  refine aftR (runV C hP va_S.rf kc_Md sh_83 (Nat.le_of_ble_eq_true rfl) (c_Md_of0 hI e1) lk_Md_90 mb_Md_of0 rfl ⟨Nat.le_of_ble_eq_true rfl, Nat.le_of_ble_eq_true rfl⟩ ⟨Nat.zero_le _, Nat.zero_le _⟩ (Nat.le_of_ble_eq_true rfl) d_Md_beats0_3 hl.1 (rest := []) rfl) ?_
  refine m_aload_n C hl 0 d_Md_beats0_6 rfl rfl ?_
  refine m_iload_n C hl 2 d_Md_beats0_7 rfl rfl ?_
  refine m_iconst C d_Md_beats0_8 ?_
  obtain ⟨x4, e3, hM⟩ := bnd_some hM
  refine aftR (runV C hP va_S.rf kc_Md sh_83 (Nat.le_of_ble_eq_true rfl) (c_Md_of0 hI e3) lk_Md_90 mb_Md_of0 rfl ⟨Nat.le_of_ble_eq_true rfl, Nat.le_of_ble_eq_true rfl⟩ ⟨Nat.zero_le _, Nat.zero_le _⟩ (Nat.le_of_ble_eq_true rfl) d_Md_beats0_9 hl.1 (rest := [.int (iZ x2)]) rfl) ?_
  refine m_icmp_eq C hM 36 d_Md_beats0_12 (by decide) (fun hM => ?_) (fun hM => ?_)
  · refine m_aload_n C hl 0 d_Md_beats0_36 rfl rfl ?_
    refine m_iload_n C hl 1 d_Md_beats0_37 rfl rfl ?_
    refine m_iload_n C hl 2 d_Md_beats0_38 rfl rfl ?_
    obtain ⟨x6, e5, hM⟩ := bnd_some hM
    refine aftR (runV C hP va_S.rf kc_Md sh_83 (Nat.le_of_ble_eq_true rfl) (c_Md_isAhead hI e5) lk_Md_93 mb_Md_isAhead rfl ⟨Nat.le_of_ble_eq_true rfl, Nat.le_of_ble_eq_true rfl⟩ ⟨Nat.zero_le _, Nat.zero_le _⟩ (Nat.le_of_ble_eq_true rfl) d_Md_beats0_39 hl.1 (rest := []) rfl) ?_
    exact m_zretR C hr hlk hM d_Md_beats0_42
  · refine m_aload_n C hl 0 d_Md_beats0_15 rfl rfl ?_
    refine m_iload_n C hl 1 d_Md_beats0_16 rfl rfl ?_
    refine m_iconst C d_Md_beats0_17 ?_
    obtain ⟨x8, e7, hM⟩ := bnd_some hM
    refine aftR (runV C hP va_S.rf kc_Md sh_83 (Nat.le_of_ble_eq_true rfl) (c_Md_of0 hI e7) lk_Md_90 mb_Md_of0 rfl ⟨Nat.le_of_ble_eq_true rfl, Nat.le_of_ble_eq_true rfl⟩ ⟨Nat.zero_le _, Nat.zero_le _⟩ (Nat.le_of_ble_eq_true rfl) d_Md_beats0_18 hl.1 (rest := []) rfl) ?_
    refine m_aload_n C hl 0 d_Md_beats0_21 rfl rfl ?_
    refine m_iload_n C hl 2 d_Md_beats0_22 rfl rfl ?_
    refine m_iconst C d_Md_beats0_23 ?_
    obtain ⟨x10, e9, hM⟩ := bnd_some hM
    refine aftR (runV C hP va_S.rf kc_Md sh_83 (Nat.le_of_ble_eq_true rfl) (c_Md_of0 hI e9) lk_Md_90 mb_Md_of0 rfl ⟨Nat.le_of_ble_eq_true rfl, Nat.le_of_ble_eq_true rfl⟩ ⟨Nat.zero_le _, Nat.zero_le _⟩ (Nat.le_of_ble_eq_true rfl) d_Md_beats0_24 hl.1 (rest := [.int (iZ x8)]) rfl) ?_
    refine m_icmp_le C hM 34 d_Md_beats0_27 (by decide) (fun hM => ?_) (fun hM => ?_)
    · refine m_iconst C d_Md_beats0_34 ?_
      exact m_zretR C hr hlk hM d_Md_beats0_35
    · refine m_iconst C d_Md_beats0_30 ?_
      refine m_goto C 35 d_Md_beats0_31 (by decide) ?_
      exact m_zretR C hr hlk hM d_Md_beats0_35
def y_Md_laysRow : MethodName := ⟨"FeastBookModel", "laysRow", "()V"⟩
theorem d_Md_laysRow_0 : decode prog_13_method_23_code 0 = .ok (.iconst 0, 1) := by decide +kernel
theorem d_Md_laysRow_1 : decode prog_13_method_23_code 1 = .ok (.istore_n 1, 1) := by decide +kernel
theorem d_Md_laysRow_2 : decode prog_13_method_23_code 2 = .ok (.iload_n 1, 1) := by decide +kernel
theorem d_Md_laysRow_3 : decode prog_13_method_23_code 3 = .ok (.aload_n 0, 1) := by decide +kernel
theorem d_Md_laysRow_4 : decode prog_13_method_23_code 4 = .ok (.getfield 7, 3) := by decide +kernel
theorem d_Md_laysRow_7 : decode prog_13_method_23_code 7 = .ok (.bipush 42, 2) := by decide +kernel
theorem d_Md_laysRow_9 : decode prog_13_method_23_code 9 = .ok (.iaload, 1) := by decide +kernel
theorem d_Md_laysRow_10 : decode prog_13_method_23_code 10 = .ok (.if_icmp .ge 58, 3) := by decide +kernel
theorem d_Md_laysRow_13 : decode prog_13_method_23_code 13 = .ok (.iload_n 1, 1) := by decide +kernel
theorem d_Md_laysRow_14 : decode prog_13_method_23_code 14 = .ok (.istore_n 2, 1) := by decide +kernel
theorem d_Md_laysRow_15 : decode prog_13_method_23_code 15 = .ok (.iload_n 2, 1) := by decide +kernel
theorem d_Md_laysRow_16 : decode prog_13_method_23_code 16 = .ok (.ifCond .le 39, 3) := by decide +kernel
theorem d_Md_laysRow_19 : decode prog_13_method_23_code 19 = .ok (.aload_n 0, 1) := by decide +kernel
theorem d_Md_laysRow_20 : decode prog_13_method_23_code 20 = .ok (.iload_n 1, 1) := by decide +kernel
theorem d_Md_laysRow_21 : decode prog_13_method_23_code 21 = .ok (.aload_n 0, 1) := by decide +kernel
theorem d_Md_laysRow_22 : decode prog_13_method_23_code 22 = .ok (.getfield 44, 3) := by decide +kernel
theorem d_Md_laysRow_25 : decode prog_13_method_23_code 25 = .ok (.iload_n 2, 1) := by decide +kernel
theorem d_Md_laysRow_26 : decode prog_13_method_23_code 26 = .ok (.iconst 1, 1) := by decide +kernel
theorem d_Md_laysRow_27 : decode prog_13_method_23_code 27 = .ok (.isub, 1) := by decide +kernel
theorem d_Md_laysRow_28 : decode prog_13_method_23_code 28 = .ok (.iaload, 1) := by decide +kernel
theorem d_Md_laysRow_29 : decode prog_13_method_23_code 29 = .ok (.invokevirtual 97, 3) := by decide +kernel
theorem d_Md_laysRow_32 : decode prog_13_method_23_code 32 = .ok (.ifCond .eq 23, 3) := by decide +kernel
theorem d_Md_laysRow_35 : decode prog_13_method_23_code 35 = .ok (.aload_n 0, 1) := by decide +kernel
theorem d_Md_laysRow_36 : decode prog_13_method_23_code 36 = .ok (.getfield 44, 3) := by decide +kernel
theorem d_Md_laysRow_39 : decode prog_13_method_23_code 39 = .ok (.iload_n 2, 1) := by decide +kernel
theorem d_Md_laysRow_40 : decode prog_13_method_23_code 40 = .ok (.aload_n 0, 1) := by decide +kernel
theorem d_Md_laysRow_41 : decode prog_13_method_23_code 41 = .ok (.getfield 44, 3) := by decide +kernel
theorem d_Md_laysRow_44 : decode prog_13_method_23_code 44 = .ok (.iload_n 2, 1) := by decide +kernel
theorem d_Md_laysRow_45 : decode prog_13_method_23_code 45 = .ok (.iconst 1, 1) := by decide +kernel
theorem d_Md_laysRow_46 : decode prog_13_method_23_code 46 = .ok (.isub, 1) := by decide +kernel
theorem d_Md_laysRow_47 : decode prog_13_method_23_code 47 = .ok (.iaload, 1) := by decide +kernel
theorem d_Md_laysRow_48 : decode prog_13_method_23_code 48 = .ok (.iastore, 1) := by decide +kernel
theorem d_Md_laysRow_49 : decode prog_13_method_23_code 49 = .ok (.iinc 2 (-1), 3) := by decide +kernel
theorem d_Md_laysRow_52 : decode prog_13_method_23_code 52 = .ok (.goto (-37), 3) := by decide +kernel
theorem d_Md_laysRow_55 : decode prog_13_method_23_code 55 = .ok (.aload_n 0, 1) := by decide +kernel
theorem d_Md_laysRow_56 : decode prog_13_method_23_code 56 = .ok (.getfield 44, 3) := by decide +kernel
theorem d_Md_laysRow_59 : decode prog_13_method_23_code 59 = .ok (.iload_n 2, 1) := by decide +kernel
theorem d_Md_laysRow_60 : decode prog_13_method_23_code 60 = .ok (.iload_n 1, 1) := by decide +kernel
theorem d_Md_laysRow_61 : decode prog_13_method_23_code 61 = .ok (.iastore, 1) := by decide +kernel
theorem d_Md_laysRow_62 : decode prog_13_method_23_code 62 = .ok (.iinc 1 1, 3) := by decide +kernel
theorem d_Md_laysRow_65 : decode prog_13_method_23_code 65 = .ok (.goto (-63), 3) := by decide +kernel
theorem d_Md_laysRow_68 : decode prog_13_method_23_code 68 = .ok (.return_, 1) := by decide +kernel
theorem mb_Md_beats0 : MBv R_Md y_Md_beats0 prog_13_method_22_code 3 (some .boolean) 2 := ⟨mT9 104 (by decide +kernel) (by decide +kernel), mTs 43 (by decide +kernel) (by decide +kernel), mT1 10 (by decide +kernel) (by decide +kernel), mT9 105 (by decide +kernel) (by decide +kernel), by decide, rfl, by decide +kernel, by decide +kernel, by decide +kernel⟩
theorem fk_Md_44 : Cond.fieldLink "FeastBookModel" 44 (T_Md 21).1 (T_Md 21).2.1 (T_Md 21).2.2.1 ∈ TT := mT8 117 (by decide +kernel) (by decide +kernel)
theorem lk_Md_97 : Cond.methodLink "FeastBookModel" 97 y_Md_beats0 ∈ TT := mT9 102 (by decide +kernel) (by decide +kernel)
set_option maxHeartbeats 4000000 in
set_option maxRecDepth 100000 in
theorem w_Md_laysRow_L15 {p : Program} {l : Launch} {e : Env} {s : State} {m : MethodId} {args : Array Value} {below : List Frame} {meth : Method} {c : Code} {D : va_G} {ad : Nat → Nat} {cA : Nat → ClassId} {sd sv : Nat → Nat} {out : Hp} (N : Nat) (hI : Inj97 ad) (C : Cx p s m args c prog_13_method_23_code 3 "FeastBookModel" D ad cA sd sv (FA ad)) (hr : meth.sig.returnType = none) (hlk : meth.locks = false) (v1 : Int) (k : Int → Hp → Option Hp) (kW : ∀ (v2 : Int) (h : Hp), k v2 h = some out → ∀ (H : Heap) (locs : List Loc), Wd s D ad cA (FA ad) h H locs → ∀ ls : Array Slot, lv_has ls 3 [(0, .ref (ad 83)), (1, .int (iZ v1)), (2, .int (iZ v2))] → W p l e (rmD 3) s m args below meth c H locs 0 0 (MQ below (QV D ad cA out) args s 0 0 (FA ad)) (F0 m 55 ls [])) : ∀ (n : Nat) (v2 : Int) (h : Hp) (H : Heap) (locs : List Loc), Wd s D ad cA (FA ad) h H locs → ∀ ls : Array Slot, lv_has ls 3 [(0, .ref (ad 83)), (1, .int (iZ v1)), (2, .int (iZ v2))] → Md_laysRow_L15 N v1 k n v2 h = some out → W p l e (rmD 3) s m args below meth c H locs 0 0 (MQ below (QV D ad cA out) args s 0 0 (FA ad)) (F0 m 15 ls []) := by
  intro n
  induction n with
  | zero =>
    intro v2 h H locs w ls hl hM
    rw [Md_laysRow_L15] at hM
    cases hM
  | succ n ih =>
    intro v2 h H locs w ls hl hM
    rw [Md_laysRow_L15] at hM
    refine m_iload_n C hl 2 d_Md_laysRow_15 rfl rfl ?_
    refine m_if_le C hM 55 d_Md_laysRow_16 (by decide) (fun hM => ?_) (fun hM => ?_)
    · exact kW v2 h hM _ _ w _ hl
    · refine m_aload_n C hl 0 d_Md_laysRow_19 rfl rfl ?_
      refine m_iload_n C hl 1 d_Md_laysRow_20 rfl rfl ?_
      refine m_aload_n C hl 0 d_Md_laysRow_21 rfl rfl ?_
      refine m_getr C w.1 kc_Md sh_83 (Nat.le_of_ble_eq_true rfl) 21 94 rfl (by decide) fk_Md_44 d_Md_laysRow_22 ?_
      refine m_iload_n C hl 2 d_Md_laysRow_25 rfl rfl ?_
      refine m_iconst C d_Md_laysRow_26 ?_
      refine m_isub C d_Md_laysRow_27 ?_
      refine m_iald C w.1 sh_94 (Nat.le_of_ble_eq_true rfl) (Nat.le_of_ble_eq_true rfl) hM d_Md_laysRow_28 (fun x2 hM => ?_)
      obtain ⟨x4, e3, hM⟩ := bnd_some hM
      refine aftR (runV C w.1 w.2 kc_Md sh_83 (Nat.le_of_ble_eq_true rfl) (c_Md_beats0 hI e3) lk_Md_97 mb_Md_beats0 rfl ⟨Nat.le_of_ble_eq_true rfl, Nat.le_of_ble_eq_true rfl⟩ ⟨Nat.zero_le _, Nat.zero_le _⟩ (Nat.le_of_ble_eq_true rfl) d_Md_laysRow_29 hl.1 (rest := []) rfl) ?_
      refine m_if_eq C hM 55 d_Md_laysRow_32 (by decide) (fun hM => ?_) (fun hM => ?_)
      · exact kW v2 h hM _ _ w _ hl
      · refine m_aload_n C hl 0 d_Md_laysRow_35 rfl rfl ?_
        refine m_getr C w.1 kc_Md sh_83 (Nat.le_of_ble_eq_true rfl) 21 94 rfl (by decide) fk_Md_44 d_Md_laysRow_36 ?_
        refine m_iload_n C hl 2 d_Md_laysRow_39 rfl rfl ?_
        refine m_aload_n C hl 0 d_Md_laysRow_40 rfl rfl ?_
        refine m_getr C w.1 kc_Md sh_83 (Nat.le_of_ble_eq_true rfl) 21 94 rfl (by decide) fk_Md_44 d_Md_laysRow_41 ?_
        refine m_iload_n C hl 2 d_Md_laysRow_44 rfl rfl ?_
        refine m_iconst C d_Md_laysRow_45 ?_
        refine m_isub C d_Md_laysRow_46 ?_
        refine m_iald C w.1 sh_94 (Nat.le_of_ble_eq_true rfl) (Nat.le_of_ble_eq_true rfl) hM d_Md_laysRow_47 (fun x5 hM => ?_)
        refine m_iast C w sh_94 (Nat.le_of_ble_eq_true rfl) (Nat.le_of_ble_eq_true rfl) hM d_Md_laysRow_48 (fun h6 H locs w hM => ?_)
        refine m_iinc C hl 2 [(2, .int (iZ (v2 + (-1)))), (0, .ref (ad 83)), (1, .int (iZ v1))] d_Md_laysRow_49 rfl (by decide) rfl (fun ls hl => ?_)
        refine m_goto C 15 d_Md_laysRow_52 (by decide) ?_
        exact ih (v2 + (-1)) h6 _ _ w _ (lv_sub hl [1, 2, 0] rfl) hM
set_option maxHeartbeats 4000000 in
set_option maxRecDepth 100000 in
theorem w_Md_laysRow_L2 {p : Program} {l : Launch} {e : Env} {s : State} {m : MethodId} {args : Array Value} {below : List Frame} {meth : Method} {c : Code} {D : va_G} {ad : Nat → Nat} {cA : Nat → ClassId} {sd sv : Nat → Nat} {out : Hp} (N : Nat) (hI : Inj97 ad) (C : Cx p s m args c prog_13_method_23_code 3 "FeastBookModel" D ad cA sd sv (FA ad)) (hr : meth.sig.returnType = none) (hlk : meth.locks = false) : ∀ (n : Nat) (v1 : Int) (h : Hp) (H : Heap) (locs : List Loc), Wd s D ad cA (FA ad) h H locs → ∀ ls : Array Slot, lv_has ls 3 [(0, .ref (ad 83)), (1, .int (iZ v1))] → Md_laysRow_L2 N n v1 h = some out → W p l e (rmD 3) s m args below meth c H locs 0 0 (MQ below (QV D ad cA out) args s 0 0 (FA ad)) (F0 m 2 ls []) := by
  intro n
  induction n with
  | zero =>
    intro v1 h H locs w ls hl hM
    rw [Md_laysRow_L2] at hM
    cases hM
  | succ n ih =>
    intro v1 h H locs w ls hl hM
    rw [Md_laysRow_L2] at hM
    refine m_iload_n C hl 1 d_Md_laysRow_2 rfl rfl ?_
    refine m_aload_n C hl 0 d_Md_laysRow_3 rfl rfl ?_
    refine m_getr C w.1 kc_Md sh_83 (Nat.le_of_ble_eq_true rfl) 1 84 rfl (by decide) fk_Md_7 d_Md_laysRow_4 ?_
    refine m_bipush C d_Md_laysRow_7 (by decide) ?_
    refine m_iald C w.1 sh_84 (Nat.le_of_ble_eq_true rfl) (Nat.le_of_ble_eq_true rfl) hM d_Md_laysRow_9 (fun x1 hM => ?_)
    refine m_icmp_ge C hM 68 d_Md_laysRow_10 (by decide) (fun hM => ?_) (fun hM => ?_)
    · exact m_vretW C w hr hlk hM d_Md_laysRow_68
    · refine m_iload_n C hl 1 d_Md_laysRow_13 rfl rfl ?_
      refine m_istore_n C hl [(2, .int (iZ v1)), (0, .ref (ad 83)), (1, .int (iZ v1))] d_Md_laysRow_14 rfl (by decide) rfl (fun ls hl => ?_)
      refine w_Md_laysRow_L15 N hI C hr hlk v1 _ (fun v2_7 h_7 hM H locs w ls hl => ?_) _ v1 h _ _ w _ (lv_sub hl [1, 2, 0] rfl) hM
      refine m_aload_n C hl 0 d_Md_laysRow_55 rfl rfl ?_
      refine m_getr C w.1 kc_Md sh_83 (Nat.le_of_ble_eq_true rfl) 21 94 rfl (by decide) fk_Md_44 d_Md_laysRow_56 ?_
      refine m_iload_n C hl 2 d_Md_laysRow_59 rfl rfl ?_
      refine m_iload_n C hl 1 d_Md_laysRow_60 rfl rfl ?_
      refine m_iast C w sh_94 (Nat.le_of_ble_eq_true rfl) (Nat.le_of_ble_eq_true rfl) hM d_Md_laysRow_61 (fun h8 H locs w hM => ?_)
      refine m_iinc C hl 1 [(1, .int (iZ (v1 + 1))), (0, .ref (ad 83)), (2, .int (iZ v2_7))] d_Md_laysRow_62 rfl (by decide) rfl (fun ls hl => ?_)
      refine m_goto C 2 d_Md_laysRow_65 (by decide) ?_
      exact ih (v1 + 1) h8 _ _ w _ (lv_sub hl [1, 0] rfl) hM
set_option maxHeartbeats 4000000 in
set_option maxRecDepth 100000 in
theorem c_Md_laysRow {l : Launch} {D : va_G} {ad : Nat → Nat} {cA : Nat → ClassId} {sd sv : Nat → Nat} {h : Hp} {N : Nat} {out : Hp} (hI : Inj97 ad) (hM : M_Md_laysRow N h = some out) : Met l y_Md_laysRow (.code y_Md_laysRow prog_13_method_23_code 3 none :: TT) (rmD 3) (PC D ad cA sd sv h [.ref (ad 83)]) (QV D ad cA out) 0 0 (FA ad) := by
  unfold M_Md_laysRow at hM
  refine entM (by decide +kernel) hI (Nat.le_of_ble_eq_true rfl) ?_
  intro p e s m args below meth c C hr hlk hP ls hl
  have C : Cx p s m args c prog_13_method_23_code 3 "FeastBookModel" D ad cA sd sv (FA ad) := C
  have hl : lv_has ls 3 [(0, .ref (ad 83))] := hl
  have w : Wd s D ad cA (FA ad) h s.heap [] := ⟨hP, va_S.rf⟩
  refine m_iconst C d_Md_laysRow_0 ?_
  refine m_istore_n C hl [(1, .int (iZ 0)), (0, .ref (ad 83))] d_Md_laysRow_1 rfl (by decide) rfl (fun ls hl => ?_)
  exact w_Md_laysRow_L2 N hI C hr hlk  _ 0 h _ _ w _ (lv_sub hl [1, 0] rfl) hM
def y_Md_isSunday : MethodName := ⟨"FeastBookModel", "isSunday", "(I)Z"⟩
theorem d_Md_isSunday_0 : decode prog_13_method_18_code 0 = .ok (.aload_n 0, 1) := by decide +kernel
theorem d_Md_isSunday_1 : decode prog_13_method_18_code 1 = .ok (.getfield 84, 3) := by decide +kernel
theorem d_Md_isSunday_4 : decode prog_13_method_18_code 4 = .ok (.iload_n 1, 1) := by decide +kernel
theorem d_Md_isSunday_5 : decode prog_13_method_18_code 5 = .ok (.iadd, 1) := by decide +kernel
theorem d_Md_isSunday_6 : decode prog_13_method_18_code 6 = .ok (.aload_n 0, 1) := by decide +kernel
theorem d_Md_isSunday_7 : decode prog_13_method_18_code 7 = .ok (.getfield 7, 3) := by decide +kernel
theorem d_Md_isSunday_10 : decode prog_13_method_18_code 10 = .ok (.iconst 0, 1) := by decide +kernel
theorem d_Md_isSunday_11 : decode prog_13_method_18_code 11 = .ok (.iaload, 1) := by decide +kernel
theorem d_Md_isSunday_12 : decode prog_13_method_18_code 12 = .ok (.irem, 1) := by decide +kernel
theorem d_Md_isSunday_13 : decode prog_13_method_18_code 13 = .ok (.ifCond .ne 7, 3) := by decide +kernel
theorem d_Md_isSunday_16 : decode prog_13_method_18_code 16 = .ok (.iconst 1, 1) := by decide +kernel
theorem d_Md_isSunday_17 : decode prog_13_method_18_code 17 = .ok (.goto 4, 3) := by decide +kernel
theorem d_Md_isSunday_20 : decode prog_13_method_18_code 20 = .ok (.iconst 0, 1) := by decide +kernel
theorem d_Md_isSunday_21 : decode prog_13_method_18_code 21 = .ok (.ireturn, 1) := by decide +kernel
theorem fk_Md_84 : Cond.fieldLink "FeastBookModel" 84 (T_Md 14).1 (T_Md 14).2.1 (T_Md 14).2.2.1 ∈ TT := mT8 110 (by decide +kernel) (by decide +kernel)
set_option maxHeartbeats 4000000 in
set_option maxRecDepth 100000 in
theorem c_Md_isSunday {l : Launch} {D : va_G} {ad : Nat → Nat} {cA : Nat → ClassId} {sd sv : Nat → Nat} {h : Hp} {a1 : Int} {out : Int} (hI : Inj97 ad) (hM : M_Md_isSunday h a1 = some out) : Met l y_Md_isSunday (.code y_Md_isSunday prog_13_method_18_code 2 (some .boolean) :: TT) (rmD 0) (PC D ad cA sd sv h [.ref (ad 83), .int (iZ a1)]) (QR out) 0 0 (fun _ => False) := by
  unfold M_Md_isSunday at hM
  refine entM (by decide +kernel) hI (Nat.le_of_ble_eq_true rfl) ?_
  intro p e s m args below meth c C hr hlk hP ls hl
  have C : Cx p s m args c prog_13_method_18_code 2 "FeastBookModel" D ad cA sd sv (FA ad) := C
  have hl : lv_has ls 2 [(0, .ref (ad 83)), (1, .int (iZ a1))] := hl
  refine m_aload_n C hl 0 d_Md_isSunday_0 rfl rfl ?_
  refine m_geti C hP kc_Md sh_83 (Nat.le_of_ble_eq_true rfl) 14 rfl (by decide) fk_Md_84 d_Md_isSunday_1 ?_
  refine m_iload_n C hl 1 d_Md_isSunday_4 rfl rfl ?_
  refine m_iadd C d_Md_isSunday_5 ?_
  refine m_aload_n C hl 0 d_Md_isSunday_6 rfl rfl ?_
  refine m_getr C hP kc_Md sh_83 (Nat.le_of_ble_eq_true rfl) 1 84 rfl (by decide) fk_Md_7 d_Md_isSunday_7 ?_
  refine m_iconst C d_Md_isSunday_10 ?_
  refine m_iald C hP sh_84 (Nat.le_of_ble_eq_true rfl) (Nat.le_of_ble_eq_true rfl) hM d_Md_isSunday_11 (fun x1 hM => ?_)
  refine m_irem C hM d_Md_isSunday_12 (fun x2 hM => ?_)
  refine m_if_ne C hM 20 d_Md_isSunday_13 (by decide) (fun hM => ?_) (fun hM => ?_)
  · refine m_iconst C d_Md_isSunday_20 ?_
    exact m_zretR C hr hlk hM d_Md_isSunday_21
  · refine m_iconst C d_Md_isSunday_16 ?_
    refine m_goto C 21 d_Md_isSunday_17 (by decide) ?_
    exact m_zretR C hr hlk hM d_Md_isSunday_21
def y_Md_sundayRank : MethodName := ⟨"FeastBookModel", "sundayRank", "(I)I"⟩
theorem d_Md_sundayRank_0 : decode prog_13_method_20_code 0 = .ok (.aload_n 0, 1) := by decide +kernel
theorem d_Md_sundayRank_1 : decode prog_13_method_20_code 1 = .ok (.getfield 7, 3) := by decide +kernel
theorem d_Md_sundayRank_4 : decode prog_13_method_20_code 4 = .ok (.bipush 19, 2) := by decide +kernel
theorem d_Md_sundayRank_6 : decode prog_13_method_20_code 6 = .ok (.iaload, 1) := by decide +kernel
theorem d_Md_sundayRank_7 : decode prog_13_method_20_code 7 = .ok (.istore_n 2, 1) := by decide +kernel
theorem d_Md_sundayRank_8 : decode prog_13_method_20_code 8 = .ok (.iconst 0, 1) := by decide +kernel
theorem d_Md_sundayRank_9 : decode prog_13_method_20_code 9 = .ok (.istore_n 3, 1) := by decide +kernel
theorem d_Md_sundayRank_10 : decode prog_13_method_20_code 10 = .ok (.iload_n 3, 1) := by decide +kernel
theorem d_Md_sundayRank_11 : decode prog_13_method_20_code 11 = .ok (.aload_n 0, 1) := by decide +kernel
theorem d_Md_sundayRank_12 : decode prog_13_method_20_code 12 = .ok (.getfield 7, 3) := by decide +kernel
theorem d_Md_sundayRank_15 : decode prog_13_method_20_code 15 = .ok (.bipush 20, 2) := by decide +kernel
theorem d_Md_sundayRank_17 : decode prog_13_method_20_code 17 = .ok (.iaload, 1) := by decide +kernel
theorem d_Md_sundayRank_18 : decode prog_13_method_20_code 18 = .ok (.if_icmp .ge 59, 3) := by decide +kernel
theorem d_Md_sundayRank_21 : decode prog_13_method_20_code 21 = .ok (.iload_n 1, 1) := by decide +kernel
theorem d_Md_sundayRank_22 : decode prog_13_method_20_code 22 = .ok (.aload_n 0, 1) := by decide +kernel
theorem d_Md_sundayRank_23 : decode prog_13_method_20_code 23 = .ok (.getfield 87, 3) := by decide +kernel
theorem d_Md_sundayRank_26 : decode prog_13_method_20_code 26 = .ok (.isub, 1) := by decide +kernel
theorem d_Md_sundayRank_27 : decode prog_13_method_20_code 27 = .ok (.aload_n 0, 1) := by decide +kernel
theorem d_Md_sundayRank_28 : decode prog_13_method_20_code 28 = .ok (.getfield 7, 3) := by decide +kernel
theorem d_Md_sundayRank_31 : decode prog_13_method_20_code 31 = .ok (.bipush 21, 2) := by decide +kernel
theorem d_Md_sundayRank_33 : decode prog_13_method_20_code 33 = .ok (.iconst 3, 1) := by decide +kernel
theorem d_Md_sundayRank_34 : decode prog_13_method_20_code 34 = .ok (.iload_n 3, 1) := by decide +kernel
theorem d_Md_sundayRank_35 : decode prog_13_method_20_code 35 = .ok (.imul, 1) := by decide +kernel
theorem d_Md_sundayRank_36 : decode prog_13_method_20_code 36 = .ok (.iadd, 1) := by decide +kernel
theorem d_Md_sundayRank_37 : decode prog_13_method_20_code 37 = .ok (.iaload, 1) := by decide +kernel
theorem d_Md_sundayRank_38 : decode prog_13_method_20_code 38 = .ok (.aload_n 0, 1) := by decide +kernel
theorem d_Md_sundayRank_39 : decode prog_13_method_20_code 39 = .ok (.getfield 7, 3) := by decide +kernel
theorem d_Md_sundayRank_42 : decode prog_13_method_20_code 42 = .ok (.bipush 21, 2) := by decide +kernel
theorem d_Md_sundayRank_44 : decode prog_13_method_20_code 44 = .ok (.iconst 3, 1) := by decide +kernel
theorem d_Md_sundayRank_45 : decode prog_13_method_20_code 45 = .ok (.iload_n 3, 1) := by decide +kernel
theorem d_Md_sundayRank_46 : decode prog_13_method_20_code 46 = .ok (.imul, 1) := by decide +kernel
theorem d_Md_sundayRank_47 : decode prog_13_method_20_code 47 = .ok (.iadd, 1) := by decide +kernel
theorem d_Md_sundayRank_48 : decode prog_13_method_20_code 48 = .ok (.iconst 1, 1) := by decide +kernel
theorem d_Md_sundayRank_49 : decode prog_13_method_20_code 49 = .ok (.iadd, 1) := by decide +kernel
theorem d_Md_sundayRank_50 : decode prog_13_method_20_code 50 = .ok (.iaload, 1) := by decide +kernel
theorem d_Md_sundayRank_51 : decode prog_13_method_20_code 51 = .ok (.invokestatic 54, 3) := by decide +kernel
theorem d_Md_sundayRank_54 : decode prog_13_method_20_code 54 = .ok (.ifCond .eq 17, 3) := by decide +kernel
theorem d_Md_sundayRank_57 : decode prog_13_method_20_code 57 = .ok (.aload_n 0, 1) := by decide +kernel
theorem d_Md_sundayRank_58 : decode prog_13_method_20_code 58 = .ok (.getfield 7, 3) := by decide +kernel
theorem d_Md_sundayRank_61 : decode prog_13_method_20_code 61 = .ok (.bipush 21, 2) := by decide +kernel
theorem d_Md_sundayRank_63 : decode prog_13_method_20_code 63 = .ok (.iconst 3, 1) := by decide +kernel
theorem d_Md_sundayRank_64 : decode prog_13_method_20_code 64 = .ok (.iload_n 3, 1) := by decide +kernel
theorem d_Md_sundayRank_65 : decode prog_13_method_20_code 65 = .ok (.imul, 1) := by decide +kernel
theorem d_Md_sundayRank_66 : decode prog_13_method_20_code 66 = .ok (.iadd, 1) := by decide +kernel
theorem d_Md_sundayRank_67 : decode prog_13_method_20_code 67 = .ok (.iconst 2, 1) := by decide +kernel
theorem d_Md_sundayRank_68 : decode prog_13_method_20_code 68 = .ok (.iadd, 1) := by decide +kernel
theorem d_Md_sundayRank_69 : decode prog_13_method_20_code 69 = .ok (.iaload, 1) := by decide +kernel
theorem d_Md_sundayRank_70 : decode prog_13_method_20_code 70 = .ok (.istore_n 2, 1) := by decide +kernel
theorem d_Md_sundayRank_71 : decode prog_13_method_20_code 71 = .ok (.iinc 3 1, 3) := by decide +kernel
theorem d_Md_sundayRank_74 : decode prog_13_method_20_code 74 = .ok (.goto (-64), 3) := by decide +kernel
theorem d_Md_sundayRank_77 : decode prog_13_method_20_code 77 = .ok (.iload_n 2, 1) := by decide +kernel
theorem d_Md_sundayRank_78 : decode prog_13_method_20_code 78 = .ok (.ireturn, 1) := by decide +kernel
set_option maxHeartbeats 4000000 in
set_option maxRecDepth 100000 in
theorem w_Md_sundayRank_L10 {p : Program} {l : Launch} {e : Env} {s : State} {m : MethodId} {args : Array Value} {below : List Frame} {meth : Method} {c : Code} {D : va_G} {ad : Nat → Nat} {cA : Nat → ClassId} {sd sv : Nat → Nat} {out : Int} (N : Nat) (hI : Inj97 ad) (C : Cx p s m args c prog_13_method_20_code 4 "FeastBookModel" D ad cA sd sv (FA ad)) (hr : meth.sig.returnType = (some .int)) (hlk : meth.locks = false) (v1 : Int) (h : Hp) (hP : va_P D clL (wl ad cA h) s.heap) : ∀ (n : Nat) (v2 v3 : Int), ∀ ls : Array Slot, lv_has ls 4 [(0, .ref (ad 83)), (1, .int (iZ v1)), (2, .int (iZ v2)), (3, .int (iZ v3))] → Md_sundayRank_L10 N h v1 n v2 v3 = some out → W p l e (rmD 1) s m args below meth c s.heap [] 0 0 (MQ below (QR out) args s 0 0 (fun _ => False)) (F0 m 10 ls []) := by
  intro n
  induction n with
  | zero =>
    intro v2 v3 ls hl hM
    rw [Md_sundayRank_L10] at hM
    cases hM
  | succ n ih =>
    intro v2 v3 ls hl hM
    rw [Md_sundayRank_L10] at hM
    refine m_iload_n C hl 3 d_Md_sundayRank_10 rfl rfl ?_
    refine m_aload_n C hl 0 d_Md_sundayRank_11 rfl rfl ?_
    refine m_getr C hP kc_Md sh_83 (Nat.le_of_ble_eq_true rfl) 1 84 rfl (by decide) fk_Md_7 d_Md_sundayRank_12 ?_
    refine m_bipush C d_Md_sundayRank_15 (by decide) ?_
    refine m_iald C hP sh_84 (Nat.le_of_ble_eq_true rfl) (Nat.le_of_ble_eq_true rfl) hM d_Md_sundayRank_17 (fun x2 hM => ?_)
    refine m_icmp_ge C hM 77 d_Md_sundayRank_18 (by decide) (fun hM => ?_) (fun hM => ?_)
    · refine m_iload_n C hl 2 d_Md_sundayRank_77 rfl rfl ?_
      exact m_iretR C hr hlk hM d_Md_sundayRank_78
    · refine m_iload_n C hl 1 d_Md_sundayRank_21 rfl rfl ?_
      refine m_aload_n C hl 0 d_Md_sundayRank_22 rfl rfl ?_
      refine m_geti C hP kc_Md sh_83 (Nat.le_of_ble_eq_true rfl) 15 rfl (by decide) fk_Md_87 d_Md_sundayRank_23 ?_
      refine m_isub C d_Md_sundayRank_26 ?_
      refine m_aload_n C hl 0 d_Md_sundayRank_27 rfl rfl ?_
      refine m_getr C hP kc_Md sh_83 (Nat.le_of_ble_eq_true rfl) 1 84 rfl (by decide) fk_Md_7 d_Md_sundayRank_28 ?_
      refine m_bipush C d_Md_sundayRank_31 (by decide) ?_
      refine m_iconst C d_Md_sundayRank_33 ?_
      refine m_iload_n C hl 3 d_Md_sundayRank_34 rfl rfl ?_
      refine m_imul C d_Md_sundayRank_35 ?_
      refine m_iadd C d_Md_sundayRank_36 ?_
      refine m_iald C hP sh_84 (Nat.le_of_ble_eq_true rfl) (Nat.le_of_ble_eq_true rfl) hM d_Md_sundayRank_37 (fun x3 hM => ?_)
      refine m_aload_n C hl 0 d_Md_sundayRank_38 rfl rfl ?_
      refine m_getr C hP kc_Md sh_83 (Nat.le_of_ble_eq_true rfl) 1 84 rfl (by decide) fk_Md_7 d_Md_sundayRank_39 ?_
      refine m_bipush C d_Md_sundayRank_42 (by decide) ?_
      refine m_iconst C d_Md_sundayRank_44 ?_
      refine m_iload_n C hl 3 d_Md_sundayRank_45 rfl rfl ?_
      refine m_imul C d_Md_sundayRank_46 ?_
      refine m_iadd C d_Md_sundayRank_47 ?_
      refine m_iconst C d_Md_sundayRank_48 ?_
      refine m_iadd C d_Md_sundayRank_49 ?_
      refine m_iald C hP sh_84 (Nat.le_of_ble_eq_true rfl) (Nat.le_of_ble_eq_true rfl) hM d_Md_sundayRank_50 (fun x4 hM => ?_)
      obtain ⟨x6, e5, hM⟩ := bnd_some hM
      refine aftR (runS C hP va_S.rf (c_Md_isIn hI e5) lk_Md_54 mb_Md_isIn rfl ⟨Nat.le_of_ble_eq_true rfl, Nat.le_of_ble_eq_true rfl⟩ ⟨Nat.zero_le _, Nat.zero_le _⟩ (Nat.le_of_ble_eq_true rfl) d_Md_sundayRank_51 hl.1 (rest := []) rfl) ?_
      refine m_if_eq C hM 71 d_Md_sundayRank_54 (by decide) (fun hM => ?_) (fun hM => ?_)
      · refine m_iinc C hl 3 [(3, .int (iZ (v3 + 1))), (0, .ref (ad 83)), (1, .int (iZ v1)), (2, .int (iZ v2))] d_Md_sundayRank_71 rfl (by decide) rfl (fun ls hl => ?_)
        refine m_goto C 10 d_Md_sundayRank_74 (by decide) ?_
        exact ih v2 (v3 + 1) _ (lv_sub hl [1, 2, 3, 0] rfl) hM
      · refine m_aload_n C hl 0 d_Md_sundayRank_57 rfl rfl ?_
        refine m_getr C hP kc_Md sh_83 (Nat.le_of_ble_eq_true rfl) 1 84 rfl (by decide) fk_Md_7 d_Md_sundayRank_58 ?_
        refine m_bipush C d_Md_sundayRank_61 (by decide) ?_
        refine m_iconst C d_Md_sundayRank_63 ?_
        refine m_iload_n C hl 3 d_Md_sundayRank_64 rfl rfl ?_
        refine m_imul C d_Md_sundayRank_65 ?_
        refine m_iadd C d_Md_sundayRank_66 ?_
        refine m_iconst C d_Md_sundayRank_67 ?_
        refine m_iadd C d_Md_sundayRank_68 ?_
        refine m_iald C hP sh_84 (Nat.le_of_ble_eq_true rfl) (Nat.le_of_ble_eq_true rfl) hM d_Md_sundayRank_69 (fun x7 hM => ?_)
        refine m_istore_n C hl [(2, .int (iZ x7)), (0, .ref (ad 83)), (1, .int (iZ v1)), (3, .int (iZ v3))] d_Md_sundayRank_70 rfl (by decide) rfl (fun ls hl => ?_)
        refine m_iinc C hl 3 [(3, .int (iZ (v3 + 1))), (2, .int (iZ x7)), (0, .ref (ad 83)), (1, .int (iZ v1))] d_Md_sundayRank_71 rfl (by decide) rfl (fun ls hl => ?_)
        refine m_goto C 10 d_Md_sundayRank_74 (by decide) ?_
        exact ih x7 (v3 + 1) _ (lv_sub hl [2, 3, 1, 0] rfl) hM
set_option maxHeartbeats 4000000 in
set_option maxRecDepth 100000 in
theorem c_Md_sundayRank {l : Launch} {D : va_G} {ad : Nat → Nat} {cA : Nat → ClassId} {sd sv : Nat → Nat} {h : Hp} {N : Nat} {a1 : Int} {out : Int} (hI : Inj97 ad) (hM : M_Md_sundayRank N h a1 = some out) : Met l y_Md_sundayRank (.code y_Md_sundayRank prog_13_method_20_code 4 (some .int) :: TT) (rmD 1) (PC D ad cA sd sv h [.ref (ad 83), .int (iZ a1)]) (QR out) 0 0 (fun _ => False) := by
  unfold M_Md_sundayRank at hM
  refine entM (by decide +kernel) hI (Nat.le_of_ble_eq_true rfl) ?_
  intro p e s m args below meth c C hr hlk hP ls hl
  have C : Cx p s m args c prog_13_method_20_code 4 "FeastBookModel" D ad cA sd sv (FA ad) := C
  have hl : lv_has ls 4 [(0, .ref (ad 83)), (1, .int (iZ a1))] := hl
  refine m_aload_n C hl 0 d_Md_sundayRank_0 rfl rfl ?_
  refine m_getr C hP kc_Md sh_83 (Nat.le_of_ble_eq_true rfl) 1 84 rfl (by decide) fk_Md_7 d_Md_sundayRank_1 ?_
  refine m_bipush C d_Md_sundayRank_4 (by decide) ?_
  refine m_iald C hP sh_84 (Nat.le_of_ble_eq_true rfl) (Nat.le_of_ble_eq_true rfl) hM d_Md_sundayRank_6 (fun x1 hM => ?_)
  refine m_istore_n C hl [(2, .int (iZ x1)), (0, .ref (ad 83)), (1, .int (iZ a1))] d_Md_sundayRank_7 rfl (by decide) rfl (fun ls hl => ?_)
  refine m_iconst C d_Md_sundayRank_8 ?_
  refine m_istore_n C hl [(3, .int (iZ 0)), (2, .int (iZ x1)), (0, .ref (ad 83)), (1, .int (iZ a1))] d_Md_sundayRank_9 rfl (by decide) rfl (fun ls hl => ?_)
  exact w_Md_sundayRank_L10 N hI C hr hlk a1 h hP _ x1 0 _ (lv_sub hl [2, 3, 1, 0] rfl) hM
def y_Md_claims : MethodName := ⟨"FeastBookModel", "claims", "(III)V"⟩
theorem d_Md_claims_0 : decode prog_13_method_25_code 0 = .ok (.iload_n 1, 1) := by decide +kernel
theorem d_Md_claims_1 : decode prog_13_method_25_code 1 = .ok (.aload_n 0, 1) := by decide +kernel
theorem d_Md_claims_2 : decode prog_13_method_25_code 2 = .ok (.getfield 103, 3) := by decide +kernel
theorem d_Md_claims_5 : decode prog_13_method_25_code 5 = .ok (.if_icmp .eq 19, 3) := by decide +kernel
theorem d_Md_claims_8 : decode prog_13_method_25_code 8 = .ok (.iload_n 1, 1) := by decide +kernel
theorem d_Md_claims_9 : decode prog_13_method_25_code 9 = .ok (.aload_n 0, 1) := by decide +kernel
theorem d_Md_claims_10 : decode prog_13_method_25_code 10 = .ok (.getfield 103, 3) := by decide +kernel
theorem d_Md_claims_13 : decode prog_13_method_25_code 13 = .ok (.if_icmp .le 7, 3) := by decide +kernel
theorem d_Md_claims_16 : decode prog_13_method_25_code 16 = .ok (.iconst 1, 1) := by decide +kernel
theorem d_Md_claims_17 : decode prog_13_method_25_code 17 = .ok (.goto 56, 3) := by decide +kernel
theorem d_Md_claims_20 : decode prog_13_method_25_code 20 = .ok (.iconst 0, 1) := by decide +kernel
theorem d_Md_claims_21 : decode prog_13_method_25_code 21 = .ok (.goto 52, 3) := by decide +kernel
theorem d_Md_claims_24 : decode prog_13_method_25_code 24 = .ok (.iload_n 2, 1) := by decide +kernel
theorem d_Md_claims_25 : decode prog_13_method_25_code 25 = .ok (.aload_n 0, 1) := by decide +kernel
theorem d_Md_claims_26 : decode prog_13_method_25_code 26 = .ok (.getfield 106, 3) := by decide +kernel
theorem d_Md_claims_29 : decode prog_13_method_25_code 29 = .ok (.if_icmp .eq 19, 3) := by decide +kernel
theorem d_Md_claims_32 : decode prog_13_method_25_code 32 = .ok (.iload_n 2, 1) := by decide +kernel
theorem d_Md_claims_33 : decode prog_13_method_25_code 33 = .ok (.aload_n 0, 1) := by decide +kernel
theorem d_Md_claims_34 : decode prog_13_method_25_code 34 = .ok (.getfield 106, 3) := by decide +kernel
theorem d_Md_claims_37 : decode prog_13_method_25_code 37 = .ok (.if_icmp .le 7, 3) := by decide +kernel
theorem d_Md_claims_40 : decode prog_13_method_25_code 40 = .ok (.iconst 1, 1) := by decide +kernel
theorem d_Md_claims_41 : decode prog_13_method_25_code 41 = .ok (.goto 32, 3) := by decide +kernel
theorem d_Md_claims_44 : decode prog_13_method_25_code 44 = .ok (.iconst 0, 1) := by decide +kernel
theorem d_Md_claims_45 : decode prog_13_method_25_code 45 = .ok (.goto 28, 3) := by decide +kernel
theorem d_Md_claims_48 : decode prog_13_method_25_code 48 = .ok (.aload_n 0, 1) := by decide +kernel
theorem d_Md_claims_49 : decode prog_13_method_25_code 49 = .ok (.getfield 109, 3) := by decide +kernel
theorem d_Md_claims_52 : decode prog_13_method_25_code 52 = .ok (.iconst (-1), 1) := by decide +kernel
theorem d_Md_claims_53 : decode prog_13_method_25_code 53 = .ok (.if_icmp .eq 19, 3) := by decide +kernel
theorem d_Md_claims_56 : decode prog_13_method_25_code 56 = .ok (.aload_n 0, 1) := by decide +kernel
theorem d_Md_claims_57 : decode prog_13_method_25_code 57 = .ok (.iload_n 3, 1) := by decide +kernel
theorem d_Md_claims_58 : decode prog_13_method_25_code 58 = .ok (.aload_n 0, 1) := by decide +kernel
theorem d_Md_claims_59 : decode prog_13_method_25_code 59 = .ok (.getfield 109, 3) := by decide +kernel
theorem d_Md_claims_62 : decode prog_13_method_25_code 62 = .ok (.invokevirtual 93, 3) := by decide +kernel
theorem d_Md_claims_65 : decode prog_13_method_25_code 65 = .ok (.ifCond .eq 7, 3) := by decide +kernel
theorem d_Md_claims_68 : decode prog_13_method_25_code 68 = .ok (.iconst 1, 1) := by decide +kernel
theorem d_Md_claims_69 : decode prog_13_method_25_code 69 = .ok (.goto 4, 3) := by decide +kernel
theorem d_Md_claims_72 : decode prog_13_method_25_code 72 = .ok (.iconst 0, 1) := by decide +kernel
theorem d_Md_claims_73 : decode prog_13_method_25_code 73 = .ok (.istore 4, 2) := by decide +kernel
theorem d_Md_claims_75 : decode prog_13_method_25_code 75 = .ok (.iload 4, 2) := by decide +kernel
theorem d_Md_claims_77 : decode prog_13_method_25_code 77 = .ok (.ifCond .ne 4, 3) := by decide +kernel
theorem d_Md_claims_80 : decode prog_13_method_25_code 80 = .ok (.return_, 1) := by decide +kernel
theorem d_Md_claims_81 : decode prog_13_method_25_code 81 = .ok (.aload_n 0, 1) := by decide +kernel
theorem d_Md_claims_82 : decode prog_13_method_25_code 82 = .ok (.iload_n 1, 1) := by decide +kernel
theorem d_Md_claims_83 : decode prog_13_method_25_code 83 = .ok (.putfield 103, 3) := by decide +kernel
theorem d_Md_claims_86 : decode prog_13_method_25_code 86 = .ok (.aload_n 0, 1) := by decide +kernel
theorem d_Md_claims_87 : decode prog_13_method_25_code 87 = .ok (.iload_n 2, 1) := by decide +kernel
theorem d_Md_claims_88 : decode prog_13_method_25_code 88 = .ok (.putfield 106, 3) := by decide +kernel
theorem d_Md_claims_91 : decode prog_13_method_25_code 91 = .ok (.aload_n 0, 1) := by decide +kernel
theorem d_Md_claims_92 : decode prog_13_method_25_code 92 = .ok (.iload_n 3, 1) := by decide +kernel
theorem d_Md_claims_93 : decode prog_13_method_25_code 93 = .ok (.putfield 109, 3) := by decide +kernel
theorem d_Md_claims_96 : decode prog_13_method_25_code 96 = .ok (.return_, 1) := by decide +kernel
theorem fk_Md_103 : Cond.fieldLink "FeastBookModel" 103 (T_Md 22).1 (T_Md 22).2.1 (T_Md 22).2.2.1 ∈ TT := mT8 118 (by decide +kernel) (by decide +kernel)
theorem fk_Md_106 : Cond.fieldLink "FeastBookModel" 106 (T_Md 23).1 (T_Md 23).2.1 (T_Md 23).2.2.1 ∈ TT := mT8 119 (by decide +kernel) (by decide +kernel)
theorem fk_Md_109 : Cond.fieldLink "FeastBookModel" 109 (T_Md 24).1 (T_Md 24).2.1 (T_Md 24).2.2.1 ∈ TT := mT8 120 (by decide +kernel) (by decide +kernel)
set_option maxHeartbeats 4000000 in
set_option maxRecDepth 100000 in
theorem c_Md_claims {l : Launch} {D : va_G} {ad : Nat → Nat} {cA : Nat → ClassId} {sd sv : Nat → Nat} {h : Hp} {a1 a2 a3 : Int} {out : Hp} (hI : Inj97 ad) (hM : M_Md_claims h a1 a2 a3 = some out) : Met l y_Md_claims (.code y_Md_claims prog_13_method_25_code 5 none :: TT) (rmD 2) (PC D ad cA sd sv h [.ref (ad 83), .int (iZ a1), .int (iZ a2), .int (iZ a3)]) (QV D ad cA out) 0 0 (FA ad) := by
  unfold M_Md_claims at hM
  refine entM (by decide +kernel) hI (Nat.le_of_ble_eq_true rfl) ?_
  intro p e s m args below meth c C hr hlk hP ls hl
  have C : Cx p s m args c prog_13_method_25_code 5 "FeastBookModel" D ad cA sd sv (FA ad) := C
  have hl : lv_has ls 5 [(0, .ref (ad 83)), (1, .int (iZ a1)), (2, .int (iZ a2)), (3, .int (iZ a3))] := hl
  have w : Wd s D ad cA (FA ad) h s.heap [] := ⟨hP, va_S.rf⟩
  refine m_iload_n C hl 1 d_Md_claims_0 rfl rfl ?_
  refine m_aload_n C hl 0 d_Md_claims_1 rfl rfl ?_
  refine m_geti C w.1 kc_Md sh_83 (Nat.le_of_ble_eq_true rfl) 22 rfl (by decide) fk_Md_103 d_Md_claims_2 ?_
  refine lt_join hM (fun j3 ej hM => ?_)
  have hJ3 : ∀ (s0_3 : Int), j3 s0_3 = some out → ∀ ls : Array Slot, lv_has ls 5 [(0, .ref (ad 83)), (1, .int (iZ a1)), (2, .int (iZ a2)), (3, .int (iZ a3))] → W p l e (rmD 2) s m args below meth c s.heap [] 0 0 (MQ below (QV D ad cA out) args s 0 0 (FA ad)) (F0 m 73 ls [.int (iZ s0_3)]) := by
    intro s0_3 hM ls hl
    subst ej
    dsimp only at hM
    refine m_istore C hl [(4, .int (iZ s0_3)), (0, .ref (ad 83)), (1, .int (iZ a1)), (2, .int (iZ a2)), (3, .int (iZ a3))] d_Md_claims_73 (by decide) rfl (fun ls hl => ?_)
    refine m_iload C hl 0 d_Md_claims_75 rfl ?_
    refine m_if_ne C hM 81 d_Md_claims_77 (by decide) (fun hM => ?_) (fun hM => ?_)
    · refine m_aload_n C hl 1 d_Md_claims_81 rfl rfl ?_
      refine m_iload_n C hl 2 d_Md_claims_82 rfl rfl ?_
      refine m_puti C w kc_Md sh_83 (Nat.le_of_ble_eq_true rfl) 22 hM rfl (by decide) rfl rfl fk_Md_103 d_Md_claims_83 (fun h4 H locs w hM => ?_)
      refine m_aload_n C hl 1 d_Md_claims_86 rfl rfl ?_
      refine m_iload_n C hl 3 d_Md_claims_87 rfl rfl ?_
      refine m_puti C w kc_Md sh_83 (Nat.le_of_ble_eq_true rfl) 23 hM rfl (by decide) rfl rfl fk_Md_106 d_Md_claims_88 (fun h5 H locs w hM => ?_)
      refine m_aload_n C hl 1 d_Md_claims_91 rfl rfl ?_
      refine m_iload_n C hl 4 d_Md_claims_92 rfl rfl ?_
      refine m_puti C w kc_Md sh_83 (Nat.le_of_ble_eq_true rfl) 24 hM rfl (by decide) rfl rfl fk_Md_109 d_Md_claims_93 (fun h6 H locs w hM => ?_)
      exact m_vretW C w hr hlk hM d_Md_claims_96
    · exact m_vretW C w hr hlk hM d_Md_claims_80
  refine m_icmp_eq C hM 24 d_Md_claims_5 (by decide) (fun hM => ?_) (fun hM => ?_)
  · refine m_iload_n C hl 2 d_Md_claims_24 rfl rfl ?_
    refine m_aload_n C hl 0 d_Md_claims_25 rfl rfl ?_
    refine m_geti C w.1 kc_Md sh_83 (Nat.le_of_ble_eq_true rfl) 23 rfl (by decide) fk_Md_106 d_Md_claims_26 ?_
    refine m_icmp_eq C hM 48 d_Md_claims_29 (by decide) (fun hM => ?_) (fun hM => ?_)
    · refine m_aload_n C hl 0 d_Md_claims_48 rfl rfl ?_
      refine m_geti C w.1 kc_Md sh_83 (Nat.le_of_ble_eq_true rfl) 24 rfl (by decide) fk_Md_109 d_Md_claims_49 ?_
      refine m_iconst C d_Md_claims_52 ?_
      refine m_icmp_eq C hM 72 d_Md_claims_53 (by decide) (fun hM => ?_) (fun hM => ?_)
      · refine m_iconst C d_Md_claims_72 ?_
        exact hJ3 0 hM _ hl
      · refine m_aload_n C hl 0 d_Md_claims_56 rfl rfl ?_
        refine m_iload_n C hl 3 d_Md_claims_57 rfl rfl ?_
        refine m_aload_n C hl 0 d_Md_claims_58 rfl rfl ?_
        refine m_geti C w.1 kc_Md sh_83 (Nat.le_of_ble_eq_true rfl) 24 rfl (by decide) fk_Md_109 d_Md_claims_59 ?_
        obtain ⟨x8, e7, hM⟩ := bnd_some hM
        refine aftR (runV C w.1 w.2 kc_Md sh_83 (Nat.le_of_ble_eq_true rfl) (c_Md_isAhead hI e7) lk_Md_93 mb_Md_isAhead rfl ⟨Nat.le_of_ble_eq_true rfl, Nat.le_of_ble_eq_true rfl⟩ ⟨Nat.zero_le _, Nat.zero_le _⟩ (Nat.le_of_ble_eq_true rfl) d_Md_claims_62 hl.1 (rest := []) rfl) ?_
        refine m_if_eq C hM 72 d_Md_claims_65 (by decide) (fun hM => ?_) (fun hM => ?_)
        · refine m_iconst C d_Md_claims_72 ?_
          exact hJ3 0 hM _ hl
        · refine m_iconst C d_Md_claims_68 ?_
          refine m_goto C 73 d_Md_claims_69 (by decide) ?_
          exact hJ3 1 hM _ hl
    · refine m_iload_n C hl 2 d_Md_claims_32 rfl rfl ?_
      refine m_aload_n C hl 0 d_Md_claims_33 rfl rfl ?_
      refine m_geti C w.1 kc_Md sh_83 (Nat.le_of_ble_eq_true rfl) 23 rfl (by decide) fk_Md_106 d_Md_claims_34 ?_
      refine m_icmp_le C hM 44 d_Md_claims_37 (by decide) (fun hM => ?_) (fun hM => ?_)
      · refine m_iconst C d_Md_claims_44 ?_
        refine m_goto C 73 d_Md_claims_45 (by decide) ?_
        exact hJ3 0 hM _ hl
      · refine m_iconst C d_Md_claims_40 ?_
        refine m_goto C 73 d_Md_claims_41 (by decide) ?_
        exact hJ3 1 hM _ hl
  · refine m_iload_n C hl 1 d_Md_claims_8 rfl rfl ?_
    refine m_aload_n C hl 0 d_Md_claims_9 rfl rfl ?_
    refine m_geti C w.1 kc_Md sh_83 (Nat.le_of_ble_eq_true rfl) 22 rfl (by decide) fk_Md_103 d_Md_claims_10 ?_
    refine m_icmp_le C hM 20 d_Md_claims_13 (by decide) (fun hM => ?_) (fun hM => ?_)
    · refine m_iconst C d_Md_claims_20 ?_
      refine m_goto C 73 d_Md_claims_21 (by decide) ?_
      exact hJ3 0 hM _ hl
    · refine m_iconst C d_Md_claims_16 ?_
      refine m_goto C 73 d_Md_claims_17 (by decide) ?_
      exact hJ3 1 hM _ hl
def y_Md_vigilOf : MethodName := ⟨"FeastBookModel", "vigilOf", "(I)I"⟩
theorem d_Md_vigilOf_0 : decode prog_13_method_24_code 0 = .ok (.aload_n 0, 1) := by decide +kernel
theorem d_Md_vigilOf_1 : decode prog_13_method_24_code 1 = .ok (.getfield 29, 3) := by decide +kernel
theorem d_Md_vigilOf_4 : decode prog_13_method_24_code 4 = .ok (.iload_n 1, 1) := by decide +kernel
theorem d_Md_vigilOf_5 : decode prog_13_method_24_code 5 = .ok (.iaload, 1) := by decide +kernel
theorem d_Md_vigilOf_6 : decode prog_13_method_24_code 6 = .ok (.iconst (-1), 1) := by decide +kernel
theorem d_Md_vigilOf_7 : decode prog_13_method_24_code 7 = .ok (.if_icmp .eq 12, 3) := by decide +kernel
theorem d_Md_vigilOf_10 : decode prog_13_method_24_code 10 = .ok (.aload_n 0, 1) := by decide +kernel
theorem d_Md_vigilOf_11 : decode prog_13_method_24_code 11 = .ok (.iload_n 1, 1) := by decide +kernel
theorem d_Md_vigilOf_12 : decode prog_13_method_24_code 12 = .ok (.iconst 5, 1) := by decide +kernel
theorem d_Md_vigilOf_13 : decode prog_13_method_24_code 13 = .ok (.invokevirtual 90, 3) := by decide +kernel
theorem d_Md_vigilOf_16 : decode prog_13_method_24_code 16 = .ok (.ifCond .ne 5, 3) := by decide +kernel
theorem d_Md_vigilOf_19 : decode prog_13_method_24_code 19 = .ok (.iconst (-1), 1) := by decide +kernel
theorem d_Md_vigilOf_20 : decode prog_13_method_24_code 20 = .ok (.ireturn, 1) := by decide +kernel
theorem d_Md_vigilOf_21 : decode prog_13_method_24_code 21 = .ok (.aload_n 0, 1) := by decide +kernel
theorem d_Md_vigilOf_22 : decode prog_13_method_24_code 22 = .ok (.getfield 29, 3) := by decide +kernel
theorem d_Md_vigilOf_25 : decode prog_13_method_24_code 25 = .ok (.iload_n 1, 1) := by decide +kernel
theorem d_Md_vigilOf_26 : decode prog_13_method_24_code 26 = .ok (.iaload, 1) := by decide +kernel
theorem d_Md_vigilOf_27 : decode prog_13_method_24_code 27 = .ok (.iconst 1, 1) := by decide +kernel
theorem d_Md_vigilOf_28 : decode prog_13_method_24_code 28 = .ok (.isub, 1) := by decide +kernel
theorem d_Md_vigilOf_29 : decode prog_13_method_24_code 29 = .ok (.istore_n 2, 1) := by decide +kernel
theorem d_Md_vigilOf_30 : decode prog_13_method_24_code 30 = .ok (.iload_n 2, 1) := by decide +kernel
theorem d_Md_vigilOf_31 : decode prog_13_method_24_code 31 = .ok (.ifCond .lt 14, 3) := by decide +kernel
theorem d_Md_vigilOf_34 : decode prog_13_method_24_code 34 = .ok (.aload_n 0, 1) := by decide +kernel
theorem d_Md_vigilOf_35 : decode prog_13_method_24_code 35 = .ok (.iload_n 2, 1) := by decide +kernel
theorem d_Md_vigilOf_36 : decode prog_13_method_24_code 36 = .ok (.invokevirtual 100, 3) := by decide +kernel
theorem d_Md_vigilOf_39 : decode prog_13_method_24_code 39 = .ok (.ifCond .eq 6, 3) := by decide +kernel
theorem d_Md_vigilOf_42 : decode prog_13_method_24_code 42 = .ok (.iinc 2 (-1), 3) := by decide +kernel
theorem d_Md_vigilOf_45 : decode prog_13_method_24_code 45 = .ok (.iload_n 2, 1) := by decide +kernel
theorem d_Md_vigilOf_46 : decode prog_13_method_24_code 46 = .ok (.ifCond .ge 7, 3) := by decide +kernel
theorem d_Md_vigilOf_49 : decode prog_13_method_24_code 49 = .ok (.iconst (-1), 1) := by decide +kernel
theorem d_Md_vigilOf_50 : decode prog_13_method_24_code 50 = .ok (.goto 4, 3) := by decide +kernel
theorem d_Md_vigilOf_53 : decode prog_13_method_24_code 53 = .ok (.iload_n 2, 1) := by decide +kernel
theorem d_Md_vigilOf_54 : decode prog_13_method_24_code 54 = .ok (.ireturn, 1) := by decide +kernel
theorem mb_Md_isSunday : MBv R_Md y_Md_isSunday prog_13_method_18_code 2 (some .boolean) 1 := ⟨mT9 120 (by decide +kernel) (by decide +kernel), mTs 47 (by decide +kernel) (by decide +kernel), mT1 10 (by decide +kernel) (by decide +kernel), mT9 121 (by decide +kernel) (by decide +kernel), by decide, rfl, by decide +kernel, by decide +kernel, by decide +kernel⟩
theorem fk_Md_29 : Cond.fieldLink "FeastBookModel" 29 (T_Md 16).1 (T_Md 16).2.1 (T_Md 16).2.2.1 ∈ TT := mT8 112 (by decide +kernel) (by decide +kernel)
theorem lk_Md_100 : Cond.methodLink "FeastBookModel" 100 y_Md_isSunday ∈ TT := mT9 118 (by decide +kernel) (by decide +kernel)
set_option maxHeartbeats 4000000 in
set_option maxRecDepth 100000 in
theorem c_Md_vigilOf {l : Launch} {D : va_G} {ad : Nat → Nat} {cA : Nat → ClassId} {sd sv : Nat → Nat} {h : Hp} {a1 : Int} {out : Int} (hI : Inj97 ad) (hM : M_Md_vigilOf h a1 = some out) : Met l y_Md_vigilOf (.code y_Md_vigilOf prog_13_method_24_code 3 (some .int) :: TT) (rmD 1) (PC D ad cA sd sv h [.ref (ad 83), .int (iZ a1)]) (QR out) 0 0 (fun _ => False) := by
  unfold M_Md_vigilOf at hM
  refine entM (by decide +kernel) hI (Nat.le_of_ble_eq_true rfl) ?_
  intro p e s m args below meth c C hr hlk hP ls hl
  have C : Cx p s m args c prog_13_method_24_code 3 "FeastBookModel" D ad cA sd sv (FA ad) := C
  have hl : lv_has ls 3 [(0, .ref (ad 83)), (1, .int (iZ a1))] := hl
  refine m_aload_n C hl 0 d_Md_vigilOf_0 rfl rfl ?_
  refine m_getr C hP kc_Md sh_83 (Nat.le_of_ble_eq_true rfl) 16 89 rfl (by decide) fk_Md_29 d_Md_vigilOf_1 ?_
  refine m_iload_n C hl 1 d_Md_vigilOf_4 rfl rfl ?_
  refine m_iald C hP sh_89 (Nat.le_of_ble_eq_true rfl) (Nat.le_of_ble_eq_true rfl) hM d_Md_vigilOf_5 (fun x1 hM => ?_)
  refine m_iconst C d_Md_vigilOf_6 ?_
  refine m_icmp_eq C hM 19 d_Md_vigilOf_7 (by decide) (fun hM => ?_) (fun hM => ?_)
  · refine m_iconst C d_Md_vigilOf_19 ?_
    exact m_iretR C hr hlk hM d_Md_vigilOf_20
  · refine m_aload_n C hl 0 d_Md_vigilOf_10 rfl rfl ?_
    refine m_iload_n C hl 1 d_Md_vigilOf_11 rfl rfl ?_
    refine m_iconst C d_Md_vigilOf_12 ?_
    obtain ⟨x3, e2, hM⟩ := bnd_some hM
    refine aftR (runV C hP va_S.rf kc_Md sh_83 (Nat.le_of_ble_eq_true rfl) (c_Md_of0 hI e2) lk_Md_90 mb_Md_of0 rfl ⟨Nat.le_of_ble_eq_true rfl, Nat.le_of_ble_eq_true rfl⟩ ⟨Nat.zero_le _, Nat.zero_le _⟩ (Nat.le_of_ble_eq_true rfl) d_Md_vigilOf_13 hl.1 (rest := []) rfl) ?_
    refine m_if_ne C hM 21 d_Md_vigilOf_16 (by decide) (fun hM => ?_) (fun hM => ?_)
    · refine m_aload_n C hl 0 d_Md_vigilOf_21 rfl rfl ?_
      refine m_getr C hP kc_Md sh_83 (Nat.le_of_ble_eq_true rfl) 16 89 rfl (by decide) fk_Md_29 d_Md_vigilOf_22 ?_
      refine m_iload_n C hl 1 d_Md_vigilOf_25 rfl rfl ?_
      refine m_iald C hP sh_89 (Nat.le_of_ble_eq_true rfl) (Nat.le_of_ble_eq_true rfl) hM d_Md_vigilOf_26 (fun x4 hM => ?_)
      refine m_iconst C d_Md_vigilOf_27 ?_
      refine m_isub C d_Md_vigilOf_28 ?_
      refine m_istore_n C hl [(2, .int (iZ (x4 - 1))), (0, .ref (ad 83)), (1, .int (iZ a1))] d_Md_vigilOf_29 rfl (by decide) rfl (fun ls hl => ?_)
      refine m_iload_n C hl 0 d_Md_vigilOf_30 rfl rfl ?_
      refine m_if_lt C hM 45 d_Md_vigilOf_31 (by decide) (fun hM => ?_) (fun hM => ?_)
      · refine m_iload_n C hl 0 d_Md_vigilOf_45 rfl rfl ?_
        refine m_if_ge C hM 53 d_Md_vigilOf_46 (by decide) (fun hM => ?_) (fun hM => ?_)
        · refine m_iload_n C hl 0 d_Md_vigilOf_53 rfl rfl ?_
          exact m_iretR C hr hlk hM d_Md_vigilOf_54
        · refine m_iconst C d_Md_vigilOf_49 ?_
          refine m_goto C 54 d_Md_vigilOf_50 (by decide) ?_
          exact m_iretR C hr hlk hM d_Md_vigilOf_54
      · refine m_aload_n C hl 1 d_Md_vigilOf_34 rfl rfl ?_
        refine m_iload_n C hl 0 d_Md_vigilOf_35 rfl rfl ?_
        obtain ⟨x6, e5, hM⟩ := bnd_some hM
        refine aftR (runV C hP va_S.rf kc_Md sh_83 (Nat.le_of_ble_eq_true rfl) (c_Md_isSunday hI e5) lk_Md_100 mb_Md_isSunday rfl ⟨Nat.le_of_ble_eq_true rfl, Nat.le_of_ble_eq_true rfl⟩ ⟨Nat.zero_le _, Nat.zero_le _⟩ (Nat.le_of_ble_eq_true rfl) d_Md_vigilOf_36 hl.1 (rest := []) rfl) ?_
        refine m_if_eq C hM 45 d_Md_vigilOf_39 (by decide) (fun hM => ?_) (fun hM => ?_)
        · refine m_iload_n C hl 0 d_Md_vigilOf_45 rfl rfl ?_
          refine m_if_ge C hM 53 d_Md_vigilOf_46 (by decide) (fun hM => ?_) (fun hM => ?_)
          · refine m_iload_n C hl 0 d_Md_vigilOf_53 rfl rfl ?_
            exact m_iretR C hr hlk hM d_Md_vigilOf_54
          · refine m_iconst C d_Md_vigilOf_49 ?_
            refine m_goto C 54 d_Md_vigilOf_50 (by decide) ?_
            exact m_iretR C hr hlk hM d_Md_vigilOf_54
        · refine m_iinc C hl 0 [(2, .int (iZ ((x4 - 1) + (-1)))), (0, .ref (ad 83)), (1, .int (iZ a1))] d_Md_vigilOf_42 rfl (by decide) rfl (fun ls hl => ?_)
          refine m_iload_n C hl 0 d_Md_vigilOf_45 rfl rfl ?_
          refine m_if_ge C hM 53 d_Md_vigilOf_46 (by decide) (fun hM => ?_) (fun hM => ?_)
          · refine m_iload_n C hl 0 d_Md_vigilOf_53 rfl rfl ?_
            exact m_iretR C hr hlk hM d_Md_vigilOf_54
          · refine m_iconst C d_Md_vigilOf_49 ?_
            refine m_goto C 54 d_Md_vigilOf_50 (by decide) ?_
            exact m_iretR C hr hlk hM d_Md_vigilOf_54
    · refine m_iconst C d_Md_vigilOf_19 ?_
      exact m_iretR C hr hlk hM d_Md_vigilOf_20
def y_Md_laysBase : MethodName := ⟨"FeastBookModel", "laysBase", "(I)V"⟩
theorem d_Md_laysBase_0 : decode prog_13_method_26_code 0 = .ok (.aload_n 0, 1) := by decide +kernel
theorem d_Md_laysBase_1 : decode prog_13_method_26_code 1 = .ok (.iconst 0, 1) := by decide +kernel
theorem d_Md_laysBase_2 : decode prog_13_method_26_code 2 = .ok (.putfield 103, 3) := by decide +kernel
theorem d_Md_laysBase_5 : decode prog_13_method_26_code 5 = .ok (.aload_n 0, 1) := by decide +kernel
theorem d_Md_laysBase_6 : decode prog_13_method_26_code 6 = .ok (.iconst 0, 1) := by decide +kernel
theorem d_Md_laysBase_7 : decode prog_13_method_26_code 7 = .ok (.putfield 106, 3) := by decide +kernel
theorem d_Md_laysBase_10 : decode prog_13_method_26_code 10 = .ok (.aload_n 0, 1) := by decide +kernel
theorem d_Md_laysBase_11 : decode prog_13_method_26_code 11 = .ok (.iconst (-1), 1) := by decide +kernel
theorem d_Md_laysBase_12 : decode prog_13_method_26_code 12 = .ok (.putfield 109, 3) := by decide +kernel
theorem d_Md_laysBase_15 : decode prog_13_method_26_code 15 = .ok (.aload_n 0, 1) := by decide +kernel
theorem d_Md_laysBase_16 : decode prog_13_method_26_code 16 = .ok (.iload_n 1, 1) := by decide +kernel
theorem d_Md_laysBase_17 : decode prog_13_method_26_code 17 = .ok (.invokevirtual 100, 3) := by decide +kernel
theorem d_Md_laysBase_20 : decode prog_13_method_26_code 20 = .ok (.ifCond .eq 14, 3) := by decide +kernel
theorem d_Md_laysBase_23 : decode prog_13_method_26_code 23 = .ok (.aload_n 0, 1) := by decide +kernel
theorem d_Md_laysBase_24 : decode prog_13_method_26_code 24 = .ok (.aload_n 0, 1) := by decide +kernel
theorem d_Md_laysBase_25 : decode prog_13_method_26_code 25 = .ok (.iload_n 1, 1) := by decide +kernel
theorem d_Md_laysBase_26 : decode prog_13_method_26_code 26 = .ok (.invokevirtual 112, 3) := by decide +kernel
theorem d_Md_laysBase_29 : decode prog_13_method_26_code 29 = .ok (.iconst 3, 1) := by decide +kernel
theorem d_Md_laysBase_30 : decode prog_13_method_26_code 30 = .ok (.iconst (-1), 1) := by decide +kernel
theorem d_Md_laysBase_31 : decode prog_13_method_26_code 31 = .ok (.invokevirtual 115, 3) := by decide +kernel
theorem d_Md_laysBase_34 : decode prog_13_method_26_code 34 = .ok (.iconst 0, 1) := by decide +kernel
theorem d_Md_laysBase_35 : decode prog_13_method_26_code 35 = .ok (.istore_n 2, 1) := by decide +kernel
theorem d_Md_laysBase_36 : decode prog_13_method_26_code 36 = .ok (.iload_n 2, 1) := by decide +kernel
theorem d_Md_laysBase_37 : decode prog_13_method_26_code 37 = .ok (.aload_n 0, 1) := by decide +kernel
theorem d_Md_laysBase_38 : decode prog_13_method_26_code 38 = .ok (.getfield 7, 3) := by decide +kernel
theorem d_Md_laysBase_41 : decode prog_13_method_26_code 41 = .ok (.bipush 42, 2) := by decide +kernel
theorem d_Md_laysBase_43 : decode prog_13_method_26_code 43 = .ok (.iaload, 1) := by decide +kernel
theorem d_Md_laysBase_44 : decode prog_13_method_26_code 44 = .ok (.if_icmp .ge 87, 3) := by decide +kernel
theorem d_Md_laysBase_47 : decode prog_13_method_26_code 47 = .ok (.aload_n 0, 1) := by decide +kernel
theorem d_Md_laysBase_48 : decode prog_13_method_26_code 48 = .ok (.getfield 29, 3) := by decide +kernel
theorem d_Md_laysBase_51 : decode prog_13_method_26_code 51 = .ok (.iload_n 2, 1) := by decide +kernel
theorem d_Md_laysBase_52 : decode prog_13_method_26_code 52 = .ok (.iaload, 1) := by decide +kernel
theorem d_Md_laysBase_53 : decode prog_13_method_26_code 53 = .ok (.iconst (-1), 1) := by decide +kernel
theorem d_Md_laysBase_54 : decode prog_13_method_26_code 54 = .ok (.if_icmp .ne 6, 3) := by decide +kernel
theorem d_Md_laysBase_57 : decode prog_13_method_26_code 57 = .ok (.goto 68, 3) := by decide +kernel
theorem d_Md_laysBase_60 : decode prog_13_method_26_code 60 = .ok (.aload_n 0, 1) := by decide +kernel
theorem d_Md_laysBase_61 : decode prog_13_method_26_code 61 = .ok (.iload_n 2, 1) := by decide +kernel
theorem d_Md_laysBase_62 : decode prog_13_method_26_code 62 = .ok (.invokevirtual 119, 3) := by decide +kernel
theorem d_Md_laysBase_65 : decode prog_13_method_26_code 65 = .ok (.iload_n 1, 1) := by decide +kernel
theorem d_Md_laysBase_66 : decode prog_13_method_26_code 66 = .ok (.if_icmp .ne 15, 3) := by decide +kernel
theorem d_Md_laysBase_69 : decode prog_13_method_26_code 69 = .ok (.aload_n 0, 1) := by decide +kernel
theorem d_Md_laysBase_70 : decode prog_13_method_26_code 70 = .ok (.aload_n 0, 1) := by decide +kernel
theorem d_Md_laysBase_71 : decode prog_13_method_26_code 71 = .ok (.iload_n 2, 1) := by decide +kernel
theorem d_Md_laysBase_72 : decode prog_13_method_26_code 72 = .ok (.iconst 5, 1) := by decide +kernel
theorem d_Md_laysBase_73 : decode prog_13_method_26_code 73 = .ok (.invokevirtual 90, 3) := by decide +kernel
theorem d_Md_laysBase_76 : decode prog_13_method_26_code 76 = .ok (.iconst 1, 1) := by decide +kernel
theorem d_Md_laysBase_77 : decode prog_13_method_26_code 77 = .ok (.iload_n 2, 1) := by decide +kernel
theorem d_Md_laysBase_78 : decode prog_13_method_26_code 78 = .ok (.invokevirtual 115, 3) := by decide +kernel
theorem d_Md_laysBase_81 : decode prog_13_method_26_code 81 = .ok (.aload_n 0, 1) := by decide +kernel
theorem d_Md_laysBase_82 : decode prog_13_method_26_code 82 = .ok (.iload_n 2, 1) := by decide +kernel
theorem d_Md_laysBase_83 : decode prog_13_method_26_code 83 = .ok (.bipush 6, 2) := by decide +kernel
theorem d_Md_laysBase_85 : decode prog_13_method_26_code 85 = .ok (.invokevirtual 90, 3) := by decide +kernel
theorem d_Md_laysBase_88 : decode prog_13_method_26_code 88 = .ok (.ifCond .le 37, 3) := by decide +kernel
theorem d_Md_laysBase_91 : decode prog_13_method_26_code 91 = .ok (.iload_n 1, 1) := by decide +kernel
theorem d_Md_laysBase_92 : decode prog_13_method_26_code 92 = .ok (.aload_n 0, 1) := by decide +kernel
theorem d_Md_laysBase_93 : decode prog_13_method_26_code 93 = .ok (.getfield 29, 3) := by decide +kernel
theorem d_Md_laysBase_96 : decode prog_13_method_26_code 96 = .ok (.iload_n 2, 1) := by decide +kernel
theorem d_Md_laysBase_97 : decode prog_13_method_26_code 97 = .ok (.iaload, 1) := by decide +kernel
theorem d_Md_laysBase_98 : decode prog_13_method_26_code 98 = .ok (.isub, 1) := by decide +kernel
theorem d_Md_laysBase_99 : decode prog_13_method_26_code 99 = .ok (.iconst 1, 1) := by decide +kernel
theorem d_Md_laysBase_100 : decode prog_13_method_26_code 100 = .ok (.aload_n 0, 1) := by decide +kernel
theorem d_Md_laysBase_101 : decode prog_13_method_26_code 101 = .ok (.getfield 7, 3) := by decide +kernel
theorem d_Md_laysBase_104 : decode prog_13_method_26_code 104 = .ok (.iconst 0, 1) := by decide +kernel
theorem d_Md_laysBase_105 : decode prog_13_method_26_code 105 = .ok (.iaload, 1) := by decide +kernel
theorem d_Md_laysBase_106 : decode prog_13_method_26_code 106 = .ok (.invokestatic 54, 3) := by decide +kernel
theorem d_Md_laysBase_109 : decode prog_13_method_26_code 109 = .ok (.ifCond .eq 16, 3) := by decide +kernel
theorem d_Md_laysBase_112 : decode prog_13_method_26_code 112 = .ok (.aload_n 0, 1) := by decide +kernel
theorem d_Md_laysBase_113 : decode prog_13_method_26_code 113 = .ok (.aload_n 0, 1) := by decide +kernel
theorem d_Md_laysBase_114 : decode prog_13_method_26_code 114 = .ok (.iload_n 2, 1) := by decide +kernel
theorem d_Md_laysBase_115 : decode prog_13_method_26_code 115 = .ok (.bipush 6, 2) := by decide +kernel
theorem d_Md_laysBase_117 : decode prog_13_method_26_code 117 = .ok (.invokevirtual 90, 3) := by decide +kernel
theorem d_Md_laysBase_120 : decode prog_13_method_26_code 120 = .ok (.iconst 2, 1) := by decide +kernel
theorem d_Md_laysBase_121 : decode prog_13_method_26_code 121 = .ok (.iload_n 2, 1) := by decide +kernel
theorem d_Md_laysBase_122 : decode prog_13_method_26_code 122 = .ok (.invokevirtual 115, 3) := by decide +kernel
theorem d_Md_laysBase_125 : decode prog_13_method_26_code 125 = .ok (.iinc 2 1, 3) := by decide +kernel
theorem d_Md_laysBase_128 : decode prog_13_method_26_code 128 = .ok (.goto (-92), 3) := by decide +kernel
theorem d_Md_laysBase_131 : decode prog_13_method_26_code 131 = .ok (.return_, 1) := by decide +kernel
theorem mb_Md_claims : MBv R_Md y_Md_claims prog_13_method_25_code 5 none 3 := ⟨mT9 128 (by decide +kernel) (by decide +kernel), mTs 49 (by decide +kernel) (by decide +kernel), mT1 10 (by decide +kernel) (by decide +kernel), mT9 129 (by decide +kernel) (by decide +kernel), by decide, rfl, by decide +kernel, by decide +kernel, by decide +kernel⟩
theorem mb_Md_sundayRank : MBv R_Md y_Md_sundayRank prog_13_method_20_code 4 (some .int) 1 := ⟨mT9 124 (by decide +kernel) (by decide +kernel), mTs 48 (by decide +kernel) (by decide +kernel), mT1 10 (by decide +kernel) (by decide +kernel), mT9 125 (by decide +kernel) (by decide +kernel), by decide, rfl, by decide +kernel, by decide +kernel, by decide +kernel⟩
theorem mb_Md_vigilOf : MBv R_Md y_Md_vigilOf prog_13_method_24_code 3 (some .int) 1 := ⟨mT9 132 (by decide +kernel) (by decide +kernel), mTs 50 (by decide +kernel) (by decide +kernel), mT1 10 (by decide +kernel) (by decide +kernel), mT9 133 (by decide +kernel) (by decide +kernel), by decide, rfl, by decide +kernel, by decide +kernel, by decide +kernel⟩
theorem lk_Md_112 : Cond.methodLink "FeastBookModel" 112 y_Md_sundayRank ∈ TT := mT9 122 (by decide +kernel) (by decide +kernel)
theorem lk_Md_115 : Cond.methodLink "FeastBookModel" 115 y_Md_claims ∈ TT := mT9 126 (by decide +kernel) (by decide +kernel)
theorem lk_Md_119 : Cond.methodLink "FeastBookModel" 119 y_Md_vigilOf ∈ TT := mT9 130 (by decide +kernel) (by decide +kernel)
set_option maxHeartbeats 4000000 in
set_option maxRecDepth 100000 in
theorem w_Md_laysBase_L36 {p : Program} {l : Launch} {e : Env} {s : State} {m : MethodId} {args : Array Value} {below : List Frame} {meth : Method} {c : Code} {D : va_G} {ad : Nat → Nat} {cA : Nat → ClassId} {sd sv : Nat → Nat} {out : Hp} (N : Nat) (hI : Inj97 ad) (C : Cx p s m args c prog_13_method_26_code 3 "FeastBookModel" D ad cA sd sv (FA ad)) (hr : meth.sig.returnType = none) (hlk : meth.locks = false) (v1 : Int) : ∀ (n : Nat) (v2 : Int) (h : Hp) (H : Heap) (locs : List Loc), Wd s D ad cA (FA ad) h H locs → ∀ ls : Array Slot, lv_has ls 3 [(0, .ref (ad 83)), (1, .int (iZ v1)), (2, .int (iZ v2))] → Md_laysBase_L36 N v1 n v2 h = some out → W p l e (rmD 3) s m args below meth c H locs 0 0 (MQ below (QV D ad cA out) args s 0 0 (FA ad)) (F0 m 36 ls []) := by
  intro n
  induction n with
  | zero =>
    intro v2 h H locs w ls hl hM
    rw [Md_laysBase_L36] at hM
    cases hM
  | succ n ih =>
    intro v2 h H locs w ls hl hM
    rw [Md_laysBase_L36] at hM
    refine m_iload_n C hl 2 d_Md_laysBase_36 rfl rfl ?_
    refine m_aload_n C hl 0 d_Md_laysBase_37 rfl rfl ?_
    refine m_getr C w.1 kc_Md sh_83 (Nat.le_of_ble_eq_true rfl) 1 84 rfl (by decide) fk_Md_7 d_Md_laysBase_38 ?_
    refine m_bipush C d_Md_laysBase_41 (by decide) ?_
    refine m_iald C w.1 sh_84 (Nat.le_of_ble_eq_true rfl) (Nat.le_of_ble_eq_true rfl) hM d_Md_laysBase_43 (fun x11 hM => ?_)
    refine m_icmp_ge C hM 131 d_Md_laysBase_44 (by decide) (fun hM => ?_) (fun hM => ?_)
    · exact m_vretW C w hr hlk hM d_Md_laysBase_131
    · refine m_aload_n C hl 0 d_Md_laysBase_47 rfl rfl ?_
      refine m_getr C w.1 kc_Md sh_83 (Nat.le_of_ble_eq_true rfl) 16 89 rfl (by decide) fk_Md_29 d_Md_laysBase_48 ?_
      refine m_iload_n C hl 2 d_Md_laysBase_51 rfl rfl ?_
      refine m_iald C w.1 sh_89 (Nat.le_of_ble_eq_true rfl) (Nat.le_of_ble_eq_true rfl) hM d_Md_laysBase_52 (fun x12 hM => ?_)
      refine m_iconst C d_Md_laysBase_53 ?_
      refine m_icmp_ne C hM 60 d_Md_laysBase_54 (by decide) (fun hM => ?_) (fun hM => ?_)
      · refine m_aload_n C hl 0 d_Md_laysBase_60 rfl rfl ?_
        refine m_iload_n C hl 2 d_Md_laysBase_61 rfl rfl ?_
        obtain ⟨x14, e13, hM⟩ := bnd_some hM
        refine aftR (runV C w.1 w.2 kc_Md sh_83 (Nat.le_of_ble_eq_true rfl) (c_Md_vigilOf hI e13) lk_Md_119 mb_Md_vigilOf rfl ⟨Nat.le_of_ble_eq_true rfl, Nat.le_of_ble_eq_true rfl⟩ ⟨Nat.zero_le _, Nat.zero_le _⟩ (Nat.le_of_ble_eq_true rfl) d_Md_laysBase_62 hl.1 (rest := []) rfl) ?_
        refine m_iload_n C hl 1 d_Md_laysBase_65 rfl rfl ?_
        refine lt_join hM (fun j19 ej hM => ?_)
        have hJ19 : ∀ (h_19 : Hp), j19 h_19 = some out → ∀ (H : Heap) (locs : List Loc), Wd s D ad cA (FA ad) h_19 H locs → ∀ ls : Array Slot, lv_has ls 3 [(0, .ref (ad 83)), (1, .int (iZ v1)), (2, .int (iZ v2))] → W p l e (rmD 3) s m args below meth c H locs 0 0 (MQ below (QV D ad cA out) args s 0 0 (FA ad)) (F0 m 81 ls []) := by
          intro h_19 hM H locs w ls hl
          subst ej
          dsimp only at hM
          refine m_aload_n C hl 0 d_Md_laysBase_81 rfl rfl ?_
          refine m_iload_n C hl 2 d_Md_laysBase_82 rfl rfl ?_
          refine m_bipush C d_Md_laysBase_83 (by decide) ?_
          obtain ⟨x21, e20, hM⟩ := bnd_some hM
          refine aftR (runV C w.1 w.2 kc_Md sh_83 (Nat.le_of_ble_eq_true rfl) (c_Md_of0 hI e20) lk_Md_90 mb_Md_of0 rfl ⟨Nat.le_of_ble_eq_true rfl, Nat.le_of_ble_eq_true rfl⟩ ⟨Nat.zero_le _, Nat.zero_le _⟩ (Nat.le_of_ble_eq_true rfl) d_Md_laysBase_85 hl.1 (rest := []) rfl) ?_
          refine m_if_le C hM 125 d_Md_laysBase_88 (by decide) (fun hM => ?_) (fun hM => ?_)
          · refine m_iinc C hl 2 [(2, .int (iZ (v2 + 1))), (0, .ref (ad 83)), (1, .int (iZ v1))] d_Md_laysBase_125 rfl (by decide) rfl (fun ls hl => ?_)
            refine m_goto C 36 d_Md_laysBase_128 (by decide) ?_
            exact ih (v2 + 1) h_19 _ _ w _ (lv_sub hl [1, 2, 0] rfl) hM
          · refine m_iload_n C hl 1 d_Md_laysBase_91 rfl rfl ?_
            refine m_aload_n C hl 0 d_Md_laysBase_92 rfl rfl ?_
            refine m_getr C w.1 kc_Md sh_83 (Nat.le_of_ble_eq_true rfl) 16 89 rfl (by decide) fk_Md_29 d_Md_laysBase_93 ?_
            refine m_iload_n C hl 2 d_Md_laysBase_96 rfl rfl ?_
            refine m_iald C w.1 sh_89 (Nat.le_of_ble_eq_true rfl) (Nat.le_of_ble_eq_true rfl) hM d_Md_laysBase_97 (fun x22 hM => ?_)
            refine m_isub C d_Md_laysBase_98 ?_
            refine m_iconst C d_Md_laysBase_99 ?_
            refine m_aload_n C hl 0 d_Md_laysBase_100 rfl rfl ?_
            refine m_getr C w.1 kc_Md sh_83 (Nat.le_of_ble_eq_true rfl) 1 84 rfl (by decide) fk_Md_7 d_Md_laysBase_101 ?_
            refine m_iconst C d_Md_laysBase_104 ?_
            refine m_iald C w.1 sh_84 (Nat.le_of_ble_eq_true rfl) (Nat.le_of_ble_eq_true rfl) hM d_Md_laysBase_105 (fun x23 hM => ?_)
            obtain ⟨x25, e24, hM⟩ := bnd_some hM
            refine aftR (runS C w.1 w.2 (c_Md_isIn hI e24) lk_Md_54 mb_Md_isIn rfl ⟨Nat.le_of_ble_eq_true rfl, Nat.le_of_ble_eq_true rfl⟩ ⟨Nat.zero_le _, Nat.zero_le _⟩ (Nat.le_of_ble_eq_true rfl) d_Md_laysBase_106 hl.1 (rest := []) rfl) ?_
            refine m_if_eq C hM 125 d_Md_laysBase_109 (by decide) (fun hM => ?_) (fun hM => ?_)
            · refine m_iinc C hl 2 [(2, .int (iZ (v2 + 1))), (0, .ref (ad 83)), (1, .int (iZ v1))] d_Md_laysBase_125 rfl (by decide) rfl (fun ls hl => ?_)
              refine m_goto C 36 d_Md_laysBase_128 (by decide) ?_
              exact ih (v2 + 1) h_19 _ _ w _ (lv_sub hl [1, 2, 0] rfl) hM
            · refine m_aload_n C hl 0 d_Md_laysBase_112 rfl rfl ?_
              refine m_aload_n C hl 0 d_Md_laysBase_113 rfl rfl ?_
              refine m_iload_n C hl 2 d_Md_laysBase_114 rfl rfl ?_
              refine m_bipush C d_Md_laysBase_115 (by decide) ?_
              obtain ⟨x27, e26, hM⟩ := bnd_some hM
              refine aftR (runV C w.1 w.2 kc_Md sh_83 (Nat.le_of_ble_eq_true rfl) (c_Md_of0 hI e26) lk_Md_90 mb_Md_of0 rfl ⟨Nat.le_of_ble_eq_true rfl, Nat.le_of_ble_eq_true rfl⟩ ⟨Nat.zero_le _, Nat.zero_le _⟩ (Nat.le_of_ble_eq_true rfl) d_Md_laysBase_117 hl.1 (rest := [.ref (ad 83)]) rfl) ?_
              refine m_iconst C d_Md_laysBase_120 ?_
              refine m_iload_n C hl 2 d_Md_laysBase_121 rfl rfl ?_
              obtain ⟨h29, e28, hM⟩ := bnd_some hM
              refine aftV C w (runV C w.1 w.2 kc_Md sh_83 (Nat.le_of_ble_eq_true rfl) (c_Md_claims hI e28) lk_Md_115 mb_Md_claims rfl ⟨Nat.le_of_ble_eq_true rfl, Nat.le_of_ble_eq_true rfl⟩ ⟨Nat.zero_le _, Nat.zero_le _⟩ (Nat.le_of_ble_eq_true rfl) d_Md_laysBase_122 hl.1 (rest := []) rfl) (fun H locs w => ?_)
              refine m_iinc C hl 2 [(2, .int (iZ (v2 + 1))), (0, .ref (ad 83)), (1, .int (iZ v1))] d_Md_laysBase_125 rfl (by decide) rfl (fun ls hl => ?_)
              refine m_goto C 36 d_Md_laysBase_128 (by decide) ?_
              exact ih (v2 + 1) h29 _ _ w _ (lv_sub hl [1, 2, 0] rfl) hM
        refine m_icmp_ne C hM 81 d_Md_laysBase_66 (by decide) (fun hM => ?_) (fun hM => ?_)
        · exact hJ19 h hM _ _ w _ hl
        · refine m_aload_n C hl 0 d_Md_laysBase_69 rfl rfl ?_
          refine m_aload_n C hl 0 d_Md_laysBase_70 rfl rfl ?_
          refine m_iload_n C hl 2 d_Md_laysBase_71 rfl rfl ?_
          refine m_iconst C d_Md_laysBase_72 ?_
          obtain ⟨x31, e30, hM⟩ := bnd_some hM
          refine aftR (runV C w.1 w.2 kc_Md sh_83 (Nat.le_of_ble_eq_true rfl) (c_Md_of0 hI e30) lk_Md_90 mb_Md_of0 rfl ⟨Nat.le_of_ble_eq_true rfl, Nat.le_of_ble_eq_true rfl⟩ ⟨Nat.zero_le _, Nat.zero_le _⟩ (Nat.le_of_ble_eq_true rfl) d_Md_laysBase_73 hl.1 (rest := [.ref (ad 83)]) rfl) ?_
          refine m_iconst C d_Md_laysBase_76 ?_
          refine m_iload_n C hl 2 d_Md_laysBase_77 rfl rfl ?_
          obtain ⟨h33, e32, hM⟩ := bnd_some hM
          refine aftV C w (runV C w.1 w.2 kc_Md sh_83 (Nat.le_of_ble_eq_true rfl) (c_Md_claims hI e32) lk_Md_115 mb_Md_claims rfl ⟨Nat.le_of_ble_eq_true rfl, Nat.le_of_ble_eq_true rfl⟩ ⟨Nat.zero_le _, Nat.zero_le _⟩ (Nat.le_of_ble_eq_true rfl) d_Md_laysBase_78 hl.1 (rest := []) rfl) (fun H locs w => ?_)
          exact hJ19 h33 hM _ _ w _ hl
      · refine m_goto C 125 d_Md_laysBase_57 (by decide) ?_
        refine m_iinc C hl 2 [(2, .int (iZ (v2 + 1))), (0, .ref (ad 83)), (1, .int (iZ v1))] d_Md_laysBase_125 rfl (by decide) rfl (fun ls hl => ?_)
        refine m_goto C 36 d_Md_laysBase_128 (by decide) ?_
        exact ih (v2 + 1) h _ _ w _ (lv_sub hl [1, 2, 0] rfl) hM
set_option maxHeartbeats 4000000 in
set_option maxRecDepth 100000 in
theorem c_Md_laysBase {l : Launch} {D : va_G} {ad : Nat → Nat} {cA : Nat → ClassId} {sd sv : Nat → Nat} {h : Hp} {N : Nat} {a1 : Int} {out : Hp} (hI : Inj97 ad) (hM : M_Md_laysBase N h a1 = some out) : Met l y_Md_laysBase (.code y_Md_laysBase prog_13_method_26_code 3 none :: TT) (rmD 3) (PC D ad cA sd sv h [.ref (ad 83), .int (iZ a1)]) (QV D ad cA out) 0 0 (FA ad) := by
  unfold M_Md_laysBase at hM
  refine entM (by decide +kernel) hI (Nat.le_of_ble_eq_true rfl) ?_
  intro p e s m args below meth c C hr hlk hP ls hl
  have C : Cx p s m args c prog_13_method_26_code 3 "FeastBookModel" D ad cA sd sv (FA ad) := C
  have hl : lv_has ls 3 [(0, .ref (ad 83)), (1, .int (iZ a1))] := hl
  have w : Wd s D ad cA (FA ad) h s.heap [] := ⟨hP, va_S.rf⟩
  refine m_aload_n C hl 0 d_Md_laysBase_0 rfl rfl ?_
  refine m_iconst C d_Md_laysBase_1 ?_
  refine m_puti C w kc_Md sh_83 (Nat.le_of_ble_eq_true rfl) 22 hM rfl (by decide) rfl rfl fk_Md_103 d_Md_laysBase_2 (fun h1 H locs w hM => ?_)
  refine m_aload_n C hl 0 d_Md_laysBase_5 rfl rfl ?_
  refine m_iconst C d_Md_laysBase_6 ?_
  refine m_puti C w kc_Md sh_83 (Nat.le_of_ble_eq_true rfl) 23 hM rfl (by decide) rfl rfl fk_Md_106 d_Md_laysBase_7 (fun h2 H locs w hM => ?_)
  refine m_aload_n C hl 0 d_Md_laysBase_10 rfl rfl ?_
  refine m_iconst C d_Md_laysBase_11 ?_
  refine m_puti C w kc_Md sh_83 (Nat.le_of_ble_eq_true rfl) 24 hM rfl (by decide) rfl rfl fk_Md_109 d_Md_laysBase_12 (fun h3 H locs w hM => ?_)
  refine m_aload_n C hl 0 d_Md_laysBase_15 rfl rfl ?_
  refine m_iload_n C hl 1 d_Md_laysBase_16 rfl rfl ?_
  obtain ⟨x5, e4, hM⟩ := bnd_some hM
  refine aftR (runV C w.1 w.2 kc_Md sh_83 (Nat.le_of_ble_eq_true rfl) (c_Md_isSunday hI e4) lk_Md_100 mb_Md_isSunday rfl ⟨Nat.le_of_ble_eq_true rfl, Nat.le_of_ble_eq_true rfl⟩ ⟨Nat.zero_le _, Nat.zero_le _⟩ (Nat.le_of_ble_eq_true rfl) d_Md_laysBase_17 hl.1 (rest := []) rfl) ?_
  refine lt_join hM (fun j10 ej hM => ?_)
  have hJ10 : ∀ (h_10 : Hp), j10 h_10 = some out → ∀ (H : Heap) (locs : List Loc), Wd s D ad cA (FA ad) h_10 H locs → ∀ ls : Array Slot, lv_has ls 3 [(0, .ref (ad 83)), (1, .int (iZ a1))] → W p l e (rmD 3) s m args below meth c H locs 0 0 (MQ below (QV D ad cA out) args s 0 0 (FA ad)) (F0 m 34 ls []) := by
    intro h_10 hM H locs w ls hl
    subst ej
    dsimp only at hM
    refine m_iconst C d_Md_laysBase_34 ?_
    refine m_istore_n C hl [(2, .int (iZ 0)), (0, .ref (ad 83)), (1, .int (iZ a1))] d_Md_laysBase_35 rfl (by decide) rfl (fun ls hl => ?_)
    exact w_Md_laysBase_L36 N hI C hr hlk a1 _ 0 h_10 _ _ w _ (lv_sub hl [1, 2, 0] rfl) hM
  refine m_if_eq C hM 34 d_Md_laysBase_20 (by decide) (fun hM => ?_) (fun hM => ?_)
  · exact hJ10 h3 hM _ _ w _ hl
  · refine m_aload_n C hl 0 d_Md_laysBase_23 rfl rfl ?_
    refine m_aload_n C hl 0 d_Md_laysBase_24 rfl rfl ?_
    refine m_iload_n C hl 1 d_Md_laysBase_25 rfl rfl ?_
    obtain ⟨x35, e34, hM⟩ := bnd_some hM
    refine aftR (runV C w.1 w.2 kc_Md sh_83 (Nat.le_of_ble_eq_true rfl) (c_Md_sundayRank hI e34) lk_Md_112 mb_Md_sundayRank rfl ⟨Nat.le_of_ble_eq_true rfl, Nat.le_of_ble_eq_true rfl⟩ ⟨Nat.zero_le _, Nat.zero_le _⟩ (Nat.le_of_ble_eq_true rfl) d_Md_laysBase_26 hl.1 (rest := [.ref (ad 83)]) rfl) ?_
    refine m_iconst C d_Md_laysBase_29 ?_
    refine m_iconst C d_Md_laysBase_30 ?_
    obtain ⟨h37, e36, hM⟩ := bnd_some hM
    refine aftV C w (runV C w.1 w.2 kc_Md sh_83 (Nat.le_of_ble_eq_true rfl) (c_Md_claims hI e36) lk_Md_115 mb_Md_claims rfl ⟨Nat.le_of_ble_eq_true rfl, Nat.le_of_ble_eq_true rfl⟩ ⟨Nat.zero_le _, Nat.zero_le _⟩ (Nat.le_of_ble_eq_true rfl) d_Md_laysBase_31 hl.1 (rest := []) rfl) (fun H locs w => ?_)
    exact hJ10 h37 hM _ _ w _ hl
def y_Md_keeps : MethodName := ⟨"FeastBookModel", "keeps", "(I)V"⟩
theorem d_Md_keeps_0 : decode prog_13_method_31_code 0 = .ok (.aload_n 0, 1) := by decide +kernel
theorem d_Md_keeps_1 : decode prog_13_method_31_code 1 = .ok (.getfield 32, 3) := by decide +kernel
theorem d_Md_keeps_4 : decode prog_13_method_31_code 4 = .ok (.iload_n 1, 1) := by decide +kernel
theorem d_Md_keeps_5 : decode prog_13_method_31_code 5 = .ok (.iconst (-1), 1) := by decide +kernel
theorem d_Md_keeps_6 : decode prog_13_method_31_code 6 = .ok (.iastore, 1) := by decide +kernel
theorem d_Md_keeps_7 : decode prog_13_method_31_code 7 = .ok (.aload_n 0, 1) := by decide +kernel
theorem d_Md_keeps_8 : decode prog_13_method_31_code 8 = .ok (.getfield 35, 3) := by decide +kernel
theorem d_Md_keeps_11 : decode prog_13_method_31_code 11 = .ok (.iload_n 1, 1) := by decide +kernel
theorem d_Md_keeps_12 : decode prog_13_method_31_code 12 = .ok (.aload_n 0, 1) := by decide +kernel
theorem d_Md_keeps_13 : decode prog_13_method_31_code 13 = .ok (.getfield 29, 3) := by decide +kernel
theorem d_Md_keeps_16 : decode prog_13_method_31_code 16 = .ok (.iload_n 1, 1) := by decide +kernel
theorem d_Md_keeps_17 : decode prog_13_method_31_code 17 = .ok (.iaload, 1) := by decide +kernel
theorem d_Md_keeps_18 : decode prog_13_method_31_code 18 = .ok (.iconst (-1), 1) := by decide +kernel
theorem d_Md_keeps_19 : decode prog_13_method_31_code 19 = .ok (.if_icmp .ne 7, 3) := by decide +kernel
theorem d_Md_keeps_22 : decode prog_13_method_31_code 22 = .ok (.iconst 5, 1) := by decide +kernel
theorem d_Md_keeps_23 : decode prog_13_method_31_code 23 = .ok (.goto 4, 3) := by decide +kernel
theorem d_Md_keeps_26 : decode prog_13_method_31_code 26 = .ok (.iconst (-1), 1) := by decide +kernel
theorem d_Md_keeps_27 : decode prog_13_method_31_code 27 = .ok (.iastore, 1) := by decide +kernel
theorem d_Md_keeps_28 : decode prog_13_method_31_code 28 = .ok (.aload_n 0, 1) := by decide +kernel
theorem d_Md_keeps_29 : decode prog_13_method_31_code 29 = .ok (.getfield 29, 3) := by decide +kernel
theorem d_Md_keeps_32 : decode prog_13_method_31_code 32 = .ok (.iload_n 1, 1) := by decide +kernel
theorem d_Md_keeps_33 : decode prog_13_method_31_code 33 = .ok (.iaload, 1) := by decide +kernel
theorem d_Md_keeps_34 : decode prog_13_method_31_code 34 = .ok (.iconst (-1), 1) := by decide +kernel
theorem d_Md_keeps_35 : decode prog_13_method_31_code 35 = .ok (.if_icmp .eq 18, 3) := by decide +kernel
theorem d_Md_keeps_38 : decode prog_13_method_31_code 38 = .ok (.aload_n 0, 1) := by decide +kernel
theorem d_Md_keeps_39 : decode prog_13_method_31_code 39 = .ok (.getfield 38, 3) := by decide +kernel
theorem d_Md_keeps_42 : decode prog_13_method_31_code 42 = .ok (.aload_n 0, 1) := by decide +kernel
theorem d_Md_keeps_43 : decode prog_13_method_31_code 43 = .ok (.getfield 29, 3) := by decide +kernel
theorem d_Md_keeps_46 : decode prog_13_method_31_code 46 = .ok (.iload_n 1, 1) := by decide +kernel
theorem d_Md_keeps_47 : decode prog_13_method_31_code 47 = .ok (.iaload, 1) := by decide +kernel
theorem d_Md_keeps_48 : decode prog_13_method_31_code 48 = .ok (.iaload, 1) := by decide +kernel
theorem d_Md_keeps_49 : decode prog_13_method_31_code 49 = .ok (.iconst (-1), 1) := by decide +kernel
theorem d_Md_keeps_50 : decode prog_13_method_31_code 50 = .ok (.if_icmp .eq 4, 3) := by decide +kernel
theorem d_Md_keeps_53 : decode prog_13_method_31_code 53 = .ok (.return_, 1) := by decide +kernel
theorem d_Md_keeps_54 : decode prog_13_method_31_code 54 = .ok (.aload_n 0, 1) := by decide +kernel
theorem d_Md_keeps_55 : decode prog_13_method_31_code 55 = .ok (.aload_n 0, 1) := by decide +kernel
theorem d_Md_keeps_56 : decode prog_13_method_31_code 56 = .ok (.getfield 29, 3) := by decide +kernel
theorem d_Md_keeps_59 : decode prog_13_method_31_code 59 = .ok (.iload_n 1, 1) := by decide +kernel
theorem d_Md_keeps_60 : decode prog_13_method_31_code 60 = .ok (.iaload, 1) := by decide +kernel
theorem d_Md_keeps_61 : decode prog_13_method_31_code 61 = .ok (.invokevirtual 128, 3) := by decide +kernel
theorem d_Md_keeps_64 : decode prog_13_method_31_code 64 = .ok (.aload_n 0, 1) := by decide +kernel
theorem d_Md_keeps_65 : decode prog_13_method_31_code 65 = .ok (.iload_n 1, 1) := by decide +kernel
theorem d_Md_keeps_66 : decode prog_13_method_31_code 66 = .ok (.iconst 0, 1) := by decide +kernel
theorem d_Md_keeps_67 : decode prog_13_method_31_code 67 = .ok (.invokevirtual 90, 3) := by decide +kernel
theorem d_Md_keeps_70 : decode prog_13_method_31_code 70 = .ok (.aload_n 0, 1) := by decide +kernel
theorem d_Md_keeps_71 : decode prog_13_method_31_code 71 = .ok (.getfield 103, 3) := by decide +kernel
theorem d_Md_keeps_74 : decode prog_13_method_31_code 74 = .ok (.if_icmp .ge 4, 3) := by decide +kernel
theorem d_Md_keeps_77 : decode prog_13_method_31_code 77 = .ok (.return_, 1) := by decide +kernel
theorem d_Md_keeps_78 : decode prog_13_method_31_code 78 = .ok (.aload_n 0, 1) := by decide +kernel
theorem d_Md_keeps_79 : decode prog_13_method_31_code 79 = .ok (.getfield 35, 3) := by decide +kernel
theorem d_Md_keeps_82 : decode prog_13_method_31_code 82 = .ok (.iload_n 1, 1) := by decide +kernel
theorem d_Md_keeps_83 : decode prog_13_method_31_code 83 = .ok (.iconst 0, 1) := by decide +kernel
theorem d_Md_keeps_84 : decode prog_13_method_31_code 84 = .ok (.iastore, 1) := by decide +kernel
theorem d_Md_keeps_85 : decode prog_13_method_31_code 85 = .ok (.aload_n 0, 1) := by decide +kernel
theorem d_Md_keeps_86 : decode prog_13_method_31_code 86 = .ok (.getfield 32, 3) := by decide +kernel
theorem d_Md_keeps_89 : decode prog_13_method_31_code 89 = .ok (.iload_n 1, 1) := by decide +kernel
theorem d_Md_keeps_90 : decode prog_13_method_31_code 90 = .ok (.aload_n 0, 1) := by decide +kernel
theorem d_Md_keeps_91 : decode prog_13_method_31_code 91 = .ok (.getfield 29, 3) := by decide +kernel
theorem d_Md_keeps_94 : decode prog_13_method_31_code 94 = .ok (.iload_n 1, 1) := by decide +kernel
theorem d_Md_keeps_95 : decode prog_13_method_31_code 95 = .ok (.iaload, 1) := by decide +kernel
theorem d_Md_keeps_96 : decode prog_13_method_31_code 96 = .ok (.iastore, 1) := by decide +kernel
theorem d_Md_keeps_97 : decode prog_13_method_31_code 97 = .ok (.aload_n 0, 1) := by decide +kernel
theorem d_Md_keeps_98 : decode prog_13_method_31_code 98 = .ok (.getfield 38, 3) := by decide +kernel
theorem d_Md_keeps_101 : decode prog_13_method_31_code 101 = .ok (.aload_n 0, 1) := by decide +kernel
theorem d_Md_keeps_102 : decode prog_13_method_31_code 102 = .ok (.getfield 29, 3) := by decide +kernel
theorem d_Md_keeps_105 : decode prog_13_method_31_code 105 = .ok (.iload_n 1, 1) := by decide +kernel
theorem d_Md_keeps_106 : decode prog_13_method_31_code 106 = .ok (.iaload, 1) := by decide +kernel
theorem d_Md_keeps_107 : decode prog_13_method_31_code 107 = .ok (.iload_n 1, 1) := by decide +kernel
theorem d_Md_keeps_108 : decode prog_13_method_31_code 108 = .ok (.iastore, 1) := by decide +kernel
theorem d_Md_keeps_109 : decode prog_13_method_31_code 109 = .ok (.return_, 1) := by decide +kernel
theorem mb_Md_laysBase : MBv R_Md y_Md_laysBase prog_13_method_26_code 3 none 1 := ⟨mT9 116 (by decide +kernel) (by decide +kernel), mTs 46 (by decide +kernel) (by decide +kernel), mT1 10 (by decide +kernel) (by decide +kernel), mT9 117 (by decide +kernel) (by decide +kernel), by decide, rfl, by decide +kernel, by decide +kernel, by decide +kernel⟩
theorem fk_Md_32 : Cond.fieldLink "FeastBookModel" 32 (T_Md 17).1 (T_Md 17).2.1 (T_Md 17).2.2.1 ∈ TT := mT8 113 (by decide +kernel) (by decide +kernel)
theorem fk_Md_35 : Cond.fieldLink "FeastBookModel" 35 (T_Md 18).1 (T_Md 18).2.1 (T_Md 18).2.2.1 ∈ TT := mT8 114 (by decide +kernel) (by decide +kernel)
theorem fk_Md_38 : Cond.fieldLink "FeastBookModel" 38 (T_Md 19).1 (T_Md 19).2.1 (T_Md 19).2.2.1 ∈ TT := mT8 115 (by decide +kernel) (by decide +kernel)
theorem lk_Md_128 : Cond.methodLink "FeastBookModel" 128 y_Md_laysBase ∈ TT := mT9 114 (by decide +kernel) (by decide +kernel)
set_option maxHeartbeats 4000000 in
set_option maxRecDepth 100000 in
theorem c_Md_keeps {l : Launch} {D : va_G} {ad : Nat → Nat} {cA : Nat → ClassId} {sd sv : Nat → Nat} {h : Hp} {N : Nat} {a1 : Int} {out : Hp} (hI : Inj97 ad) (hM : M_Md_keeps N h a1 = some out) : Met l y_Md_keeps (.code y_Md_keeps prog_13_method_31_code 2 none :: TT) (rmD 4) (PC D ad cA sd sv h [.ref (ad 83), .int (iZ a1)]) (QV D ad cA out) 0 0 (FA ad) := by
  unfold M_Md_keeps at hM
  refine entM (by decide +kernel) hI (Nat.le_of_ble_eq_true rfl) ?_
  intro p e s m args below meth c C hr hlk hP ls hl
  have C : Cx p s m args c prog_13_method_31_code 2 "FeastBookModel" D ad cA sd sv (FA ad) := C
  have hl : lv_has ls 2 [(0, .ref (ad 83)), (1, .int (iZ a1))] := hl
  have w : Wd s D ad cA (FA ad) h s.heap [] := ⟨hP, va_S.rf⟩
  refine m_aload_n C hl 0 d_Md_keeps_0 rfl rfl ?_
  refine m_getr C w.1 kc_Md sh_83 (Nat.le_of_ble_eq_true rfl) 17 90 rfl (by decide) fk_Md_32 d_Md_keeps_1 ?_
  refine m_iload_n C hl 1 d_Md_keeps_4 rfl rfl ?_
  refine m_iconst C d_Md_keeps_5 ?_
  refine m_iast C w sh_90 (Nat.le_of_ble_eq_true rfl) (Nat.le_of_ble_eq_true rfl) hM d_Md_keeps_6 (fun h1 H locs w hM => ?_)
  refine m_aload_n C hl 0 d_Md_keeps_7 rfl rfl ?_
  refine m_getr C w.1 kc_Md sh_83 (Nat.le_of_ble_eq_true rfl) 18 91 rfl (by decide) fk_Md_35 d_Md_keeps_8 ?_
  refine m_iload_n C hl 1 d_Md_keeps_11 rfl rfl ?_
  refine m_aload_n C hl 0 d_Md_keeps_12 rfl rfl ?_
  refine m_getr C w.1 kc_Md sh_83 (Nat.le_of_ble_eq_true rfl) 16 89 rfl (by decide) fk_Md_29 d_Md_keeps_13 ?_
  refine m_iload_n C hl 1 d_Md_keeps_16 rfl rfl ?_
  refine m_iald C w.1 sh_89 (Nat.le_of_ble_eq_true rfl) (Nat.le_of_ble_eq_true rfl) hM d_Md_keeps_17 (fun x2 hM => ?_)
  refine m_iconst C d_Md_keeps_18 ?_
  refine lt_join hM (fun j3 ej hM => ?_)
  have hJ3 : ∀ (s0_3 : Int), j3 s0_3 = some out → ∀ ls : Array Slot, lv_has ls 2 [(0, .ref (ad 83)), (1, .int (iZ a1))] → W p l e (rmD 4) s m args below meth c H locs 0 0 (MQ below (QV D ad cA out) args s 0 0 (FA ad)) (F0 m 27 ls [.int (iZ s0_3), .int (iZ a1), .ref (ad 91)]) := by
    intro s0_3 hM ls hl
    subst ej
    dsimp only at hM
    refine m_iast C w sh_91 (Nat.le_of_ble_eq_true rfl) (Nat.le_of_ble_eq_true rfl) hM d_Md_keeps_27 (fun h4 H locs w hM => ?_)
    refine m_aload_n C hl 0 d_Md_keeps_28 rfl rfl ?_
    refine m_getr C w.1 kc_Md sh_83 (Nat.le_of_ble_eq_true rfl) 16 89 rfl (by decide) fk_Md_29 d_Md_keeps_29 ?_
    refine m_iload_n C hl 1 d_Md_keeps_32 rfl rfl ?_
    refine m_iald C w.1 sh_89 (Nat.le_of_ble_eq_true rfl) (Nat.le_of_ble_eq_true rfl) hM d_Md_keeps_33 (fun x5 hM => ?_)
    refine m_iconst C d_Md_keeps_34 ?_
    refine m_icmp_eq C hM 53 d_Md_keeps_35 (by decide) (fun hM => ?_) (fun hM => ?_)
    · exact m_vretW C w hr hlk hM d_Md_keeps_53
    · refine m_aload_n C hl 0 d_Md_keeps_38 rfl rfl ?_
      refine m_getr C w.1 kc_Md sh_83 (Nat.le_of_ble_eq_true rfl) 19 92 rfl (by decide) fk_Md_38 d_Md_keeps_39 ?_
      refine m_aload_n C hl 0 d_Md_keeps_42 rfl rfl ?_
      refine m_getr C w.1 kc_Md sh_83 (Nat.le_of_ble_eq_true rfl) 16 89 rfl (by decide) fk_Md_29 d_Md_keeps_43 ?_
      refine m_iload_n C hl 1 d_Md_keeps_46 rfl rfl ?_
      refine m_iald C w.1 sh_89 (Nat.le_of_ble_eq_true rfl) (Nat.le_of_ble_eq_true rfl) hM d_Md_keeps_47 (fun x6 hM => ?_)
      refine m_iald C w.1 sh_92 (Nat.le_of_ble_eq_true rfl) (Nat.le_of_ble_eq_true rfl) hM d_Md_keeps_48 (fun x7 hM => ?_)
      refine m_iconst C d_Md_keeps_49 ?_
      refine m_icmp_eq C hM 54 d_Md_keeps_50 (by decide) (fun hM => ?_) (fun hM => ?_)
      · refine m_aload_n C hl 0 d_Md_keeps_54 rfl rfl ?_
        refine m_aload_n C hl 0 d_Md_keeps_55 rfl rfl ?_
        refine m_getr C w.1 kc_Md sh_83 (Nat.le_of_ble_eq_true rfl) 16 89 rfl (by decide) fk_Md_29 d_Md_keeps_56 ?_
        refine m_iload_n C hl 1 d_Md_keeps_59 rfl rfl ?_
        refine m_iald C w.1 sh_89 (Nat.le_of_ble_eq_true rfl) (Nat.le_of_ble_eq_true rfl) hM d_Md_keeps_60 (fun x8 hM => ?_)
        obtain ⟨h10, e9, hM⟩ := bnd_some hM
        refine aftV C w (runV C w.1 w.2 kc_Md sh_83 (Nat.le_of_ble_eq_true rfl) (c_Md_laysBase hI e9) lk_Md_128 mb_Md_laysBase rfl ⟨Nat.le_of_ble_eq_true rfl, Nat.le_of_ble_eq_true rfl⟩ ⟨Nat.zero_le _, Nat.zero_le _⟩ (Nat.le_of_ble_eq_true rfl) d_Md_keeps_61 hl.1 (rest := []) rfl) (fun H locs w => ?_)
        refine m_aload_n C hl 0 d_Md_keeps_64 rfl rfl ?_
        refine m_iload_n C hl 1 d_Md_keeps_65 rfl rfl ?_
        refine m_iconst C d_Md_keeps_66 ?_
        obtain ⟨x12, e11, hM⟩ := bnd_some hM
        refine aftR (runV C w.1 w.2 kc_Md sh_83 (Nat.le_of_ble_eq_true rfl) (c_Md_of0 hI e11) lk_Md_90 mb_Md_of0 rfl ⟨Nat.le_of_ble_eq_true rfl, Nat.le_of_ble_eq_true rfl⟩ ⟨Nat.zero_le _, Nat.zero_le _⟩ (Nat.le_of_ble_eq_true rfl) d_Md_keeps_67 hl.1 (rest := []) rfl) ?_
        refine m_aload_n C hl 0 d_Md_keeps_70 rfl rfl ?_
        refine m_geti C w.1 kc_Md sh_83 (Nat.le_of_ble_eq_true rfl) 22 rfl (by decide) fk_Md_103 d_Md_keeps_71 ?_
        refine m_icmp_ge C hM 78 d_Md_keeps_74 (by decide) (fun hM => ?_) (fun hM => ?_)
        · refine m_aload_n C hl 0 d_Md_keeps_78 rfl rfl ?_
          refine m_getr C w.1 kc_Md sh_83 (Nat.le_of_ble_eq_true rfl) 18 91 rfl (by decide) fk_Md_35 d_Md_keeps_79 ?_
          refine m_iload_n C hl 1 d_Md_keeps_82 rfl rfl ?_
          refine m_iconst C d_Md_keeps_83 ?_
          refine m_iast C w sh_91 (Nat.le_of_ble_eq_true rfl) (Nat.le_of_ble_eq_true rfl) hM d_Md_keeps_84 (fun h13 H locs w hM => ?_)
          refine m_aload_n C hl 0 d_Md_keeps_85 rfl rfl ?_
          refine m_getr C w.1 kc_Md sh_83 (Nat.le_of_ble_eq_true rfl) 17 90 rfl (by decide) fk_Md_32 d_Md_keeps_86 ?_
          refine m_iload_n C hl 1 d_Md_keeps_89 rfl rfl ?_
          refine m_aload_n C hl 0 d_Md_keeps_90 rfl rfl ?_
          refine m_getr C w.1 kc_Md sh_83 (Nat.le_of_ble_eq_true rfl) 16 89 rfl (by decide) fk_Md_29 d_Md_keeps_91 ?_
          refine m_iload_n C hl 1 d_Md_keeps_94 rfl rfl ?_
          refine m_iald C w.1 sh_89 (Nat.le_of_ble_eq_true rfl) (Nat.le_of_ble_eq_true rfl) hM d_Md_keeps_95 (fun x14 hM => ?_)
          refine m_iast C w sh_90 (Nat.le_of_ble_eq_true rfl) (Nat.le_of_ble_eq_true rfl) hM d_Md_keeps_96 (fun h15 H locs w hM => ?_)
          refine m_aload_n C hl 0 d_Md_keeps_97 rfl rfl ?_
          refine m_getr C w.1 kc_Md sh_83 (Nat.le_of_ble_eq_true rfl) 19 92 rfl (by decide) fk_Md_38 d_Md_keeps_98 ?_
          refine m_aload_n C hl 0 d_Md_keeps_101 rfl rfl ?_
          refine m_getr C w.1 kc_Md sh_83 (Nat.le_of_ble_eq_true rfl) 16 89 rfl (by decide) fk_Md_29 d_Md_keeps_102 ?_
          refine m_iload_n C hl 1 d_Md_keeps_105 rfl rfl ?_
          refine m_iald C w.1 sh_89 (Nat.le_of_ble_eq_true rfl) (Nat.le_of_ble_eq_true rfl) hM d_Md_keeps_106 (fun x16 hM => ?_)
          refine m_iload_n C hl 1 d_Md_keeps_107 rfl rfl ?_
          refine m_iast C w sh_92 (Nat.le_of_ble_eq_true rfl) (Nat.le_of_ble_eq_true rfl) hM d_Md_keeps_108 (fun h17 H locs w hM => ?_)
          exact m_vretW C w hr hlk hM d_Md_keeps_109
        · exact m_vretW C w hr hlk hM d_Md_keeps_77
      · exact m_vretW C w hr hlk hM d_Md_keeps_53
  refine m_icmp_ne C hM 26 d_Md_keeps_19 (by decide) (fun hM => ?_) (fun hM => ?_)
  · refine m_iconst C d_Md_keeps_26 ?_
    exact hJ3 (-1) hM _ hl
  · refine m_iconst C d_Md_keeps_22 ?_
    refine m_goto C 27 d_Md_keeps_23 (by decide) ?_
    exact hJ3 5 hM _ hl
def y_Md_isClosed : MethodName := ⟨"FeastBookModel", "isClosed", "(I)Z"⟩
theorem d_Md_isClosed_0 : decode prog_13_method_19_code 0 = .ok (.iconst 0, 1) := by decide +kernel
theorem d_Md_isClosed_1 : decode prog_13_method_19_code 1 = .ok (.istore_n 2, 1) := by decide +kernel
theorem d_Md_isClosed_2 : decode prog_13_method_19_code 2 = .ok (.iload_n 2, 1) := by decide +kernel
theorem d_Md_isClosed_3 : decode prog_13_method_19_code 3 = .ok (.aload_n 0, 1) := by decide +kernel
theorem d_Md_isClosed_4 : decode prog_13_method_19_code 4 = .ok (.getfield 7, 3) := by decide +kernel
theorem d_Md_isClosed_7 : decode prog_13_method_19_code 7 = .ok (.bipush 33, 2) := by decide +kernel
theorem d_Md_isClosed_9 : decode prog_13_method_19_code 9 = .ok (.iaload, 1) := by decide +kernel
theorem d_Md_isClosed_10 : decode prog_13_method_19_code 10 = .ok (.if_icmp .ge 47, 3) := by decide +kernel
theorem d_Md_isClosed_13 : decode prog_13_method_19_code 13 = .ok (.iload_n 1, 1) := by decide +kernel
theorem d_Md_isClosed_14 : decode prog_13_method_19_code 14 = .ok (.aload_n 0, 1) := by decide +kernel
theorem d_Md_isClosed_15 : decode prog_13_method_19_code 15 = .ok (.getfield 87, 3) := by decide +kernel
theorem d_Md_isClosed_18 : decode prog_13_method_19_code 18 = .ok (.isub, 1) := by decide +kernel
theorem d_Md_isClosed_19 : decode prog_13_method_19_code 19 = .ok (.aload_n 0, 1) := by decide +kernel
theorem d_Md_isClosed_20 : decode prog_13_method_19_code 20 = .ok (.getfield 7, 3) := by decide +kernel
theorem d_Md_isClosed_23 : decode prog_13_method_19_code 23 = .ok (.bipush 34, 2) := by decide +kernel
theorem d_Md_isClosed_25 : decode prog_13_method_19_code 25 = .ok (.iconst 2, 1) := by decide +kernel
theorem d_Md_isClosed_26 : decode prog_13_method_19_code 26 = .ok (.iload_n 2, 1) := by decide +kernel
theorem d_Md_isClosed_27 : decode prog_13_method_19_code 27 = .ok (.imul, 1) := by decide +kernel
theorem d_Md_isClosed_28 : decode prog_13_method_19_code 28 = .ok (.iadd, 1) := by decide +kernel
theorem d_Md_isClosed_29 : decode prog_13_method_19_code 29 = .ok (.iaload, 1) := by decide +kernel
theorem d_Md_isClosed_30 : decode prog_13_method_19_code 30 = .ok (.aload_n 0, 1) := by decide +kernel
theorem d_Md_isClosed_31 : decode prog_13_method_19_code 31 = .ok (.getfield 7, 3) := by decide +kernel
theorem d_Md_isClosed_34 : decode prog_13_method_19_code 34 = .ok (.bipush 34, 2) := by decide +kernel
theorem d_Md_isClosed_36 : decode prog_13_method_19_code 36 = .ok (.iconst 2, 1) := by decide +kernel
theorem d_Md_isClosed_37 : decode prog_13_method_19_code 37 = .ok (.iload_n 2, 1) := by decide +kernel
theorem d_Md_isClosed_38 : decode prog_13_method_19_code 38 = .ok (.imul, 1) := by decide +kernel
theorem d_Md_isClosed_39 : decode prog_13_method_19_code 39 = .ok (.iadd, 1) := by decide +kernel
theorem d_Md_isClosed_40 : decode prog_13_method_19_code 40 = .ok (.iconst 1, 1) := by decide +kernel
theorem d_Md_isClosed_41 : decode prog_13_method_19_code 41 = .ok (.iadd, 1) := by decide +kernel
theorem d_Md_isClosed_42 : decode prog_13_method_19_code 42 = .ok (.iaload, 1) := by decide +kernel
theorem d_Md_isClosed_43 : decode prog_13_method_19_code 43 = .ok (.invokestatic 54, 3) := by decide +kernel
theorem d_Md_isClosed_46 : decode prog_13_method_19_code 46 = .ok (.ifCond .eq 5, 3) := by decide +kernel
theorem d_Md_isClosed_49 : decode prog_13_method_19_code 49 = .ok (.iconst 1, 1) := by decide +kernel
theorem d_Md_isClosed_50 : decode prog_13_method_19_code 50 = .ok (.ireturn, 1) := by decide +kernel
theorem d_Md_isClosed_51 : decode prog_13_method_19_code 51 = .ok (.iinc 2 1, 3) := by decide +kernel
theorem d_Md_isClosed_54 : decode prog_13_method_19_code 54 = .ok (.goto (-52), 3) := by decide +kernel
theorem d_Md_isClosed_57 : decode prog_13_method_19_code 57 = .ok (.iconst 0, 1) := by decide +kernel
theorem d_Md_isClosed_58 : decode prog_13_method_19_code 58 = .ok (.ireturn, 1) := by decide +kernel
set_option maxHeartbeats 4000000 in
set_option maxRecDepth 100000 in
theorem w_Md_isClosed_L2 {p : Program} {l : Launch} {e : Env} {s : State} {m : MethodId} {args : Array Value} {below : List Frame} {meth : Method} {c : Code} {D : va_G} {ad : Nat → Nat} {cA : Nat → ClassId} {sd sv : Nat → Nat} {out : Int} (N : Nat) (hI : Inj97 ad) (C : Cx p s m args c prog_13_method_19_code 3 "FeastBookModel" D ad cA sd sv (FA ad)) (hr : meth.sig.returnType = (some .boolean)) (hlk : meth.locks = false) (v1 : Int) (h : Hp) (hP : va_P D clL (wl ad cA h) s.heap) : ∀ (n : Nat) (v2 : Int), ∀ ls : Array Slot, lv_has ls 3 [(0, .ref (ad 83)), (1, .int (iZ v1)), (2, .int (iZ v2))] → Md_isClosed_L2 N h v1 n v2 = some out → W p l e (rmD 1) s m args below meth c s.heap [] 0 0 (MQ below (QR out) args s 0 0 (fun _ => False)) (F0 m 2 ls []) := by
  intro n
  induction n with
  | zero =>
    intro v2 ls hl hM
    rw [Md_isClosed_L2] at hM
    cases hM
  | succ n ih =>
    intro v2 ls hl hM
    rw [Md_isClosed_L2] at hM
    refine m_iload_n C hl 2 d_Md_isClosed_2 rfl rfl ?_
    refine m_aload_n C hl 0 d_Md_isClosed_3 rfl rfl ?_
    refine m_getr C hP kc_Md sh_83 (Nat.le_of_ble_eq_true rfl) 1 84 rfl (by decide) fk_Md_7 d_Md_isClosed_4 ?_
    refine m_bipush C d_Md_isClosed_7 (by decide) ?_
    refine m_iald C hP sh_84 (Nat.le_of_ble_eq_true rfl) (Nat.le_of_ble_eq_true rfl) hM d_Md_isClosed_9 (fun x1 hM => ?_)
    refine m_icmp_ge C hM 57 d_Md_isClosed_10 (by decide) (fun hM => ?_) (fun hM => ?_)
    · refine m_iconst C d_Md_isClosed_57 ?_
      exact m_zretR C hr hlk hM d_Md_isClosed_58
    · refine m_iload_n C hl 1 d_Md_isClosed_13 rfl rfl ?_
      refine m_aload_n C hl 0 d_Md_isClosed_14 rfl rfl ?_
      refine m_geti C hP kc_Md sh_83 (Nat.le_of_ble_eq_true rfl) 15 rfl (by decide) fk_Md_87 d_Md_isClosed_15 ?_
      refine m_isub C d_Md_isClosed_18 ?_
      refine m_aload_n C hl 0 d_Md_isClosed_19 rfl rfl ?_
      refine m_getr C hP kc_Md sh_83 (Nat.le_of_ble_eq_true rfl) 1 84 rfl (by decide) fk_Md_7 d_Md_isClosed_20 ?_
      refine m_bipush C d_Md_isClosed_23 (by decide) ?_
      refine m_iconst C d_Md_isClosed_25 ?_
      refine m_iload_n C hl 2 d_Md_isClosed_26 rfl rfl ?_
      refine m_imul C d_Md_isClosed_27 ?_
      refine m_iadd C d_Md_isClosed_28 ?_
      refine m_iald C hP sh_84 (Nat.le_of_ble_eq_true rfl) (Nat.le_of_ble_eq_true rfl) hM d_Md_isClosed_29 (fun x2 hM => ?_)
      refine m_aload_n C hl 0 d_Md_isClosed_30 rfl rfl ?_
      refine m_getr C hP kc_Md sh_83 (Nat.le_of_ble_eq_true rfl) 1 84 rfl (by decide) fk_Md_7 d_Md_isClosed_31 ?_
      refine m_bipush C d_Md_isClosed_34 (by decide) ?_
      refine m_iconst C d_Md_isClosed_36 ?_
      refine m_iload_n C hl 2 d_Md_isClosed_37 rfl rfl ?_
      refine m_imul C d_Md_isClosed_38 ?_
      refine m_iadd C d_Md_isClosed_39 ?_
      refine m_iconst C d_Md_isClosed_40 ?_
      refine m_iadd C d_Md_isClosed_41 ?_
      refine m_iald C hP sh_84 (Nat.le_of_ble_eq_true rfl) (Nat.le_of_ble_eq_true rfl) hM d_Md_isClosed_42 (fun x3 hM => ?_)
      obtain ⟨x5, e4, hM⟩ := bnd_some hM
      refine aftR (runS C hP va_S.rf (c_Md_isIn hI e4) lk_Md_54 mb_Md_isIn rfl ⟨Nat.le_of_ble_eq_true rfl, Nat.le_of_ble_eq_true rfl⟩ ⟨Nat.zero_le _, Nat.zero_le _⟩ (Nat.le_of_ble_eq_true rfl) d_Md_isClosed_43 hl.1 (rest := []) rfl) ?_
      refine m_if_eq C hM 51 d_Md_isClosed_46 (by decide) (fun hM => ?_) (fun hM => ?_)
      · refine m_iinc C hl 2 [(2, .int (iZ (v2 + 1))), (0, .ref (ad 83)), (1, .int (iZ v1))] d_Md_isClosed_51 rfl (by decide) rfl (fun ls hl => ?_)
        refine m_goto C 2 d_Md_isClosed_54 (by decide) ?_
        exact ih (v2 + 1) _ (lv_sub hl [1, 2, 0] rfl) hM
      · refine m_iconst C d_Md_isClosed_49 ?_
        exact m_zretR C hr hlk hM d_Md_isClosed_50
set_option maxHeartbeats 4000000 in
set_option maxRecDepth 100000 in
theorem c_Md_isClosed {l : Launch} {D : va_G} {ad : Nat → Nat} {cA : Nat → ClassId} {sd sv : Nat → Nat} {h : Hp} {N : Nat} {a1 : Int} {out : Int} (hI : Inj97 ad) (hM : M_Md_isClosed N h a1 = some out) : Met l y_Md_isClosed (.code y_Md_isClosed prog_13_method_19_code 3 (some .boolean) :: TT) (rmD 1) (PC D ad cA sd sv h [.ref (ad 83), .int (iZ a1)]) (QR out) 0 0 (fun _ => False) := by
  unfold M_Md_isClosed at hM
  refine entM (by decide +kernel) hI (Nat.le_of_ble_eq_true rfl) ?_
  intro p e s m args below meth c C hr hlk hP ls hl
  have C : Cx p s m args c prog_13_method_19_code 3 "FeastBookModel" D ad cA sd sv (FA ad) := C
  have hl : lv_has ls 3 [(0, .ref (ad 83)), (1, .int (iZ a1))] := hl
  refine m_iconst C d_Md_isClosed_0 ?_
  refine m_istore_n C hl [(2, .int (iZ 0)), (0, .ref (ad 83)), (1, .int (iZ a1))] d_Md_isClosed_1 rfl (by decide) rfl (fun ls hl => ?_)
  exact w_Md_isClosed_L2 N hI C hr hlk a1 h hP _ 0 _ (lv_sub hl [1, 2, 0] rfl) hM
def y_Md_canMove : MethodName := ⟨"FeastBookModel", "canMove", "(II)Z"⟩
theorem d_Md_canMove_0 : decode prog_13_method_28_code 0 = .ok (.iload_n 2, 1) := by decide +kernel
theorem d_Md_canMove_1 : decode prog_13_method_28_code 1 = .ok (.iconst 0, 1) := by decide +kernel
theorem d_Md_canMove_2 : decode prog_13_method_28_code 2 = .ok (.aload_n 0, 1) := by decide +kernel
theorem d_Md_canMove_3 : decode prog_13_method_28_code 3 = .ok (.getfield 122, 3) := by decide +kernel
theorem d_Md_canMove_6 : decode prog_13_method_28_code 6 = .ok (.iconst 1, 1) := by decide +kernel
theorem d_Md_canMove_7 : decode prog_13_method_28_code 7 = .ok (.isub, 1) := by decide +kernel
theorem d_Md_canMove_8 : decode prog_13_method_28_code 8 = .ok (.invokestatic 54, 3) := by decide +kernel
theorem d_Md_canMove_11 : decode prog_13_method_28_code 11 = .ok (.ifCond .eq 21, 3) := by decide +kernel
theorem d_Md_canMove_14 : decode prog_13_method_28_code 14 = .ok (.aload_n 0, 1) := by decide +kernel
theorem d_Md_canMove_15 : decode prog_13_method_28_code 15 = .ok (.iload_n 2, 1) := by decide +kernel
theorem d_Md_canMove_16 : decode prog_13_method_28_code 16 = .ok (.invokevirtual 125, 3) := by decide +kernel
theorem d_Md_canMove_19 : decode prog_13_method_28_code 19 = .ok (.ifCond .ne 13, 3) := by decide +kernel
theorem d_Md_canMove_22 : decode prog_13_method_28_code 22 = .ok (.aload_n 0, 1) := by decide +kernel
theorem d_Md_canMove_23 : decode prog_13_method_28_code 23 = .ok (.getfield 38, 3) := by decide +kernel
theorem d_Md_canMove_26 : decode prog_13_method_28_code 26 = .ok (.iload_n 2, 1) := by decide +kernel
theorem d_Md_canMove_27 : decode prog_13_method_28_code 27 = .ok (.iaload, 1) := by decide +kernel
theorem d_Md_canMove_28 : decode prog_13_method_28_code 28 = .ok (.iconst (-1), 1) := by decide +kernel
theorem d_Md_canMove_29 : decode prog_13_method_28_code 29 = .ok (.if_icmp .eq 5, 3) := by decide +kernel
theorem d_Md_canMove_32 : decode prog_13_method_28_code 32 = .ok (.iconst 0, 1) := by decide +kernel
theorem d_Md_canMove_33 : decode prog_13_method_28_code 33 = .ok (.ireturn, 1) := by decide +kernel
theorem d_Md_canMove_34 : decode prog_13_method_28_code 34 = .ok (.aload_n 0, 1) := by decide +kernel
theorem d_Md_canMove_35 : decode prog_13_method_28_code 35 = .ok (.iload_n 2, 1) := by decide +kernel
theorem d_Md_canMove_36 : decode prog_13_method_28_code 36 = .ok (.invokevirtual 128, 3) := by decide +kernel
theorem d_Md_canMove_39 : decode prog_13_method_28_code 39 = .ok (.aload_n 0, 1) := by decide +kernel
theorem d_Md_canMove_40 : decode prog_13_method_28_code 40 = .ok (.getfield 103, 3) := by decide +kernel
theorem d_Md_canMove_43 : decode prog_13_method_28_code 43 = .ok (.aload_n 0, 1) := by decide +kernel
theorem d_Md_canMove_44 : decode prog_13_method_28_code 44 = .ok (.iload_n 1, 1) := by decide +kernel
theorem d_Md_canMove_45 : decode prog_13_method_28_code 45 = .ok (.iconst 0, 1) := by decide +kernel
theorem d_Md_canMove_46 : decode prog_13_method_28_code 46 = .ok (.invokevirtual 90, 3) := by decide +kernel
theorem d_Md_canMove_49 : decode prog_13_method_28_code 49 = .ok (.if_icmp .ge 7, 3) := by decide +kernel
theorem d_Md_canMove_52 : decode prog_13_method_28_code 52 = .ok (.iconst 1, 1) := by decide +kernel
theorem d_Md_canMove_53 : decode prog_13_method_28_code 53 = .ok (.goto 4, 3) := by decide +kernel
theorem d_Md_canMove_56 : decode prog_13_method_28_code 56 = .ok (.iconst 0, 1) := by decide +kernel
theorem d_Md_canMove_57 : decode prog_13_method_28_code 57 = .ok (.ireturn, 1) := by decide +kernel
theorem mb_Md_isClosed : MBv R_Md y_Md_isClosed prog_13_method_19_code 3 (some .boolean) 1 := ⟨mT9 148 (by decide +kernel) (by decide +kernel), mTs 54 (by decide +kernel) (by decide +kernel), mT1 10 (by decide +kernel) (by decide +kernel), mT9 149 (by decide +kernel) (by decide +kernel), by decide, rfl, by decide +kernel, by decide +kernel, by decide +kernel⟩
theorem lk_Md_125 : Cond.methodLink "FeastBookModel" 125 y_Md_isClosed ∈ TT := mT9 146 (by decide +kernel) (by decide +kernel)
set_option maxHeartbeats 4000000 in
set_option maxRecDepth 100000 in
theorem c_Md_canMove {l : Launch} {D : va_G} {ad : Nat → Nat} {cA : Nat → ClassId} {sd sv : Nat → Nat} {h : Hp} {N : Nat} {a1 a2 : Int} {out : (Int × Hp)} (hI : Inj97 ad) (hM : M_Md_canMove N h a1 a2 = some out) : Met l y_Md_canMove (.code y_Md_canMove prog_13_method_28_code 3 (some .boolean) :: TT) (rmD 4) (PC D ad cA sd sv h [.ref (ad 83), .int (iZ a1), .int (iZ a2)]) (QI D ad cA out) 0 0 (FA ad) := by
  unfold M_Md_canMove at hM
  refine entM (by decide +kernel) hI (Nat.le_of_ble_eq_true rfl) ?_
  intro p e s m args below meth c C hr hlk hP ls hl
  have C : Cx p s m args c prog_13_method_28_code 3 "FeastBookModel" D ad cA sd sv (FA ad) := C
  have hl : lv_has ls 3 [(0, .ref (ad 83)), (1, .int (iZ a1)), (2, .int (iZ a2))] := hl
  have w : Wd s D ad cA (FA ad) h s.heap [] := ⟨hP, va_S.rf⟩
  refine m_iload_n C hl 2 d_Md_canMove_0 rfl rfl ?_
  refine m_iconst C d_Md_canMove_1 ?_
  refine m_aload_n C hl 0 d_Md_canMove_2 rfl rfl ?_
  refine m_geti C w.1 kc_Md sh_83 (Nat.le_of_ble_eq_true rfl) 13 rfl (by decide) fk_Md_122 d_Md_canMove_3 ?_
  refine m_iconst C d_Md_canMove_6 ?_
  refine m_isub C d_Md_canMove_7 ?_
  obtain ⟨x2, e1, hM⟩ := bnd_some hM
  refine aftR (runS C w.1 w.2 (c_Md_isIn hI e1) lk_Md_54 mb_Md_isIn rfl ⟨Nat.le_of_ble_eq_true rfl, Nat.le_of_ble_eq_true rfl⟩ ⟨Nat.zero_le _, Nat.zero_le _⟩ (Nat.le_of_ble_eq_true rfl) d_Md_canMove_8 hl.1 (rest := []) rfl) ?_
  refine m_if_eq C hM 32 d_Md_canMove_11 (by decide) (fun hM => ?_) (fun hM => ?_)
  · refine m_iconst C d_Md_canMove_32 ?_
    exact m_zretW C w hr hlk hM d_Md_canMove_33
  · refine m_aload_n C hl 0 d_Md_canMove_14 rfl rfl ?_
    refine m_iload_n C hl 2 d_Md_canMove_15 rfl rfl ?_
    obtain ⟨x4, e3, hM⟩ := bnd_some hM
    refine aftR (runV C w.1 w.2 kc_Md sh_83 (Nat.le_of_ble_eq_true rfl) (c_Md_isClosed hI e3) lk_Md_125 mb_Md_isClosed rfl ⟨Nat.le_of_ble_eq_true rfl, Nat.le_of_ble_eq_true rfl⟩ ⟨Nat.zero_le _, Nat.zero_le _⟩ (Nat.le_of_ble_eq_true rfl) d_Md_canMove_16 hl.1 (rest := []) rfl) ?_
    refine m_if_ne C hM 32 d_Md_canMove_19 (by decide) (fun hM => ?_) (fun hM => ?_)
    · refine m_iconst C d_Md_canMove_32 ?_
      exact m_zretW C w hr hlk hM d_Md_canMove_33
    · refine m_aload_n C hl 0 d_Md_canMove_22 rfl rfl ?_
      refine m_getr C w.1 kc_Md sh_83 (Nat.le_of_ble_eq_true rfl) 19 92 rfl (by decide) fk_Md_38 d_Md_canMove_23 ?_
      refine m_iload_n C hl 2 d_Md_canMove_26 rfl rfl ?_
      refine m_iald C w.1 sh_92 (Nat.le_of_ble_eq_true rfl) (Nat.le_of_ble_eq_true rfl) hM d_Md_canMove_27 (fun x5 hM => ?_)
      refine m_iconst C d_Md_canMove_28 ?_
      refine m_icmp_eq C hM 34 d_Md_canMove_29 (by decide) (fun hM => ?_) (fun hM => ?_)
      · refine m_aload_n C hl 0 d_Md_canMove_34 rfl rfl ?_
        refine m_iload_n C hl 2 d_Md_canMove_35 rfl rfl ?_
        obtain ⟨h7, e6, hM⟩ := bnd_some hM
        refine aftV C w (runV C w.1 w.2 kc_Md sh_83 (Nat.le_of_ble_eq_true rfl) (c_Md_laysBase hI e6) lk_Md_128 mb_Md_laysBase rfl ⟨Nat.le_of_ble_eq_true rfl, Nat.le_of_ble_eq_true rfl⟩ ⟨Nat.zero_le _, Nat.zero_le _⟩ (Nat.le_of_ble_eq_true rfl) d_Md_canMove_36 hl.1 (rest := []) rfl) (fun H locs w => ?_)
        refine m_aload_n C hl 0 d_Md_canMove_39 rfl rfl ?_
        refine m_geti C w.1 kc_Md sh_83 (Nat.le_of_ble_eq_true rfl) 22 rfl (by decide) fk_Md_103 d_Md_canMove_40 ?_
        refine m_aload_n C hl 0 d_Md_canMove_43 rfl rfl ?_
        refine m_iload_n C hl 1 d_Md_canMove_44 rfl rfl ?_
        refine m_iconst C d_Md_canMove_45 ?_
        obtain ⟨x9, e8, hM⟩ := bnd_some hM
        refine aftR (runV C w.1 w.2 kc_Md sh_83 (Nat.le_of_ble_eq_true rfl) (c_Md_of0 hI e8) lk_Md_90 mb_Md_of0 rfl ⟨Nat.le_of_ble_eq_true rfl, Nat.le_of_ble_eq_true rfl⟩ ⟨Nat.zero_le _, Nat.zero_le _⟩ (Nat.le_of_ble_eq_true rfl) d_Md_canMove_46 hl.1 (rest := [.int (iZ (h7 83 22))]) rfl) ?_
        refine m_icmp_ge C hM 56 d_Md_canMove_49 (by decide) (fun hM => ?_) (fun hM => ?_)
        · refine m_iconst C d_Md_canMove_56 ?_
          exact m_zretW C w hr hlk hM d_Md_canMove_57
        · refine m_iconst C d_Md_canMove_52 ?_
          refine m_goto C 57 d_Md_canMove_53 (by decide) ?_
          exact m_zretW C w hr hlk hM d_Md_canMove_57
      · refine m_iconst C d_Md_canMove_32 ?_
        exact m_zretW C w hr hlk hM d_Md_canMove_33
def y_Md_moves : MethodName := ⟨"FeastBookModel", "moves", "(II)V"⟩
theorem d_Md_moves_0 : decode prog_13_method_29_code 0 = .ok (.aload_n 0, 1) := by decide +kernel
theorem d_Md_moves_1 : decode prog_13_method_29_code 1 = .ok (.getfield 35, 3) := by decide +kernel
theorem d_Md_moves_4 : decode prog_13_method_29_code 4 = .ok (.iload_n 1, 1) := by decide +kernel
theorem d_Md_moves_5 : decode prog_13_method_29_code 5 = .ok (.iconst 4, 1) := by decide +kernel
theorem d_Md_moves_6 : decode prog_13_method_29_code 6 = .ok (.iastore, 1) := by decide +kernel
theorem d_Md_moves_7 : decode prog_13_method_29_code 7 = .ok (.iconst 1, 1) := by decide +kernel
theorem d_Md_moves_8 : decode prog_13_method_29_code 8 = .ok (.istore_n 3, 1) := by decide +kernel
theorem d_Md_moves_9 : decode prog_13_method_29_code 9 = .ok (.iload_n 3, 1) := by decide +kernel
theorem d_Md_moves_10 : decode prog_13_method_29_code 10 = .ok (.aload_n 0, 1) := by decide +kernel
theorem d_Md_moves_11 : decode prog_13_method_29_code 11 = .ok (.getfield 7, 3) := by decide +kernel
theorem d_Md_moves_14 : decode prog_13_method_29_code 14 = .ok (.bipush 16, 2) := by decide +kernel
theorem d_Md_moves_16 : decode prog_13_method_29_code 16 = .ok (.iaload, 1) := by decide +kernel
theorem d_Md_moves_17 : decode prog_13_method_29_code 17 = .ok (.if_icmp .gt 58, 3) := by decide +kernel
theorem d_Md_moves_20 : decode prog_13_method_29_code 20 = .ok (.aload_n 0, 1) := by decide +kernel
theorem d_Md_moves_21 : decode prog_13_method_29_code 21 = .ok (.getfield 29, 3) := by decide +kernel
theorem d_Md_moves_24 : decode prog_13_method_29_code 24 = .ok (.iload_n 1, 1) := by decide +kernel
theorem d_Md_moves_25 : decode prog_13_method_29_code 25 = .ok (.iaload, 1) := by decide +kernel
theorem d_Md_moves_26 : decode prog_13_method_29_code 26 = .ok (.iload_n 2, 1) := by decide +kernel
theorem d_Md_moves_27 : decode prog_13_method_29_code 27 = .ok (.iload_n 3, 1) := by decide +kernel
theorem d_Md_moves_28 : decode prog_13_method_29_code 28 = .ok (.imul, 1) := by decide +kernel
theorem d_Md_moves_29 : decode prog_13_method_29_code 29 = .ok (.iadd, 1) := by decide +kernel
theorem d_Md_moves_30 : decode prog_13_method_29_code 30 = .ok (.istore 4, 2) := by decide +kernel
theorem d_Md_moves_32 : decode prog_13_method_29_code 32 = .ok (.aload_n 0, 1) := by decide +kernel
theorem d_Md_moves_33 : decode prog_13_method_29_code 33 = .ok (.iload_n 1, 1) := by decide +kernel
theorem d_Md_moves_34 : decode prog_13_method_29_code 34 = .ok (.iload 4, 2) := by decide +kernel
theorem d_Md_moves_36 : decode prog_13_method_29_code 36 = .ok (.invokevirtual 132, 3) := by decide +kernel
theorem d_Md_moves_39 : decode prog_13_method_29_code 39 = .ok (.ifCond .ne 6, 3) := by decide +kernel
theorem d_Md_moves_42 : decode prog_13_method_29_code 42 = .ok (.goto 27, 3) := by decide +kernel
theorem d_Md_moves_45 : decode prog_13_method_29_code 45 = .ok (.aload_n 0, 1) := by decide +kernel
theorem d_Md_moves_46 : decode prog_13_method_29_code 46 = .ok (.getfield 35, 3) := by decide +kernel
theorem d_Md_moves_49 : decode prog_13_method_29_code 49 = .ok (.iload_n 1, 1) := by decide +kernel
theorem d_Md_moves_50 : decode prog_13_method_29_code 50 = .ok (.iconst 1, 1) := by decide +kernel
theorem d_Md_moves_51 : decode prog_13_method_29_code 51 = .ok (.iastore, 1) := by decide +kernel
theorem d_Md_moves_52 : decode prog_13_method_29_code 52 = .ok (.aload_n 0, 1) := by decide +kernel
theorem d_Md_moves_53 : decode prog_13_method_29_code 53 = .ok (.getfield 32, 3) := by decide +kernel
theorem d_Md_moves_56 : decode prog_13_method_29_code 56 = .ok (.iload_n 1, 1) := by decide +kernel
theorem d_Md_moves_57 : decode prog_13_method_29_code 57 = .ok (.iload 4, 2) := by decide +kernel
theorem d_Md_moves_59 : decode prog_13_method_29_code 59 = .ok (.iastore, 1) := by decide +kernel
theorem d_Md_moves_60 : decode prog_13_method_29_code 60 = .ok (.aload_n 0, 1) := by decide +kernel
theorem d_Md_moves_61 : decode prog_13_method_29_code 61 = .ok (.getfield 38, 3) := by decide +kernel
theorem d_Md_moves_64 : decode prog_13_method_29_code 64 = .ok (.iload 4, 2) := by decide +kernel
theorem d_Md_moves_66 : decode prog_13_method_29_code 66 = .ok (.iload_n 1, 1) := by decide +kernel
theorem d_Md_moves_67 : decode prog_13_method_29_code 67 = .ok (.iastore, 1) := by decide +kernel
theorem d_Md_moves_68 : decode prog_13_method_29_code 68 = .ok (.return_, 1) := by decide +kernel
theorem d_Md_moves_69 : decode prog_13_method_29_code 69 = .ok (.iinc 3 1, 3) := by decide +kernel
theorem d_Md_moves_72 : decode prog_13_method_29_code 72 = .ok (.goto (-63), 3) := by decide +kernel
theorem d_Md_moves_75 : decode prog_13_method_29_code 75 = .ok (.return_, 1) := by decide +kernel
theorem mb_Md_canMove : MBv R_Md y_Md_canMove prog_13_method_28_code 3 (some .boolean) 2 := ⟨mT9 144 (by decide +kernel) (by decide +kernel), mTs 53 (by decide +kernel) (by decide +kernel), mT1 10 (by decide +kernel) (by decide +kernel), mT9 145 (by decide +kernel) (by decide +kernel), by decide, rfl, by decide +kernel, by decide +kernel, by decide +kernel⟩
theorem lk_Md_132 : Cond.methodLink "FeastBookModel" 132 y_Md_canMove ∈ TT := mT9 142 (by decide +kernel) (by decide +kernel)
set_option maxHeartbeats 4000000 in
set_option maxRecDepth 100000 in
theorem w_Md_moves_L9 {p : Program} {l : Launch} {e : Env} {s : State} {m : MethodId} {args : Array Value} {below : List Frame} {meth : Method} {c : Code} {D : va_G} {ad : Nat → Nat} {cA : Nat → ClassId} {sd sv : Nat → Nat} {out : Hp} (N : Nat) (hI : Inj97 ad) (C : Cx p s m args c prog_13_method_29_code 5 "FeastBookModel" D ad cA sd sv (FA ad)) (hr : meth.sig.returnType = none) (hlk : meth.locks = false) (v1 v2 : Int) : ∀ (n : Nat) (v3 : Int) (h : Hp) (H : Heap) (locs : List Loc), Wd s D ad cA (FA ad) h H locs → ∀ ls : Array Slot, lv_has ls 5 [(0, .ref (ad 83)), (1, .int (iZ v1)), (2, .int (iZ v2)), (3, .int (iZ v3))] → Md_moves_L9 N v1 v2 n v3 h = some out → W p l e (rmD 5) s m args below meth c H locs 0 0 (MQ below (QV D ad cA out) args s 0 0 (FA ad)) (F0 m 9 ls []) := by
  intro n
  induction n with
  | zero =>
    intro v3 h H locs w ls hl hM
    rw [Md_moves_L9] at hM
    cases hM
  | succ n ih =>
    intro v3 h H locs w ls hl hM
    rw [Md_moves_L9] at hM
    refine m_iload_n C hl 3 d_Md_moves_9 rfl rfl ?_
    refine m_aload_n C hl 0 d_Md_moves_10 rfl rfl ?_
    refine m_getr C w.1 kc_Md sh_83 (Nat.le_of_ble_eq_true rfl) 1 84 rfl (by decide) fk_Md_7 d_Md_moves_11 ?_
    refine m_bipush C d_Md_moves_14 (by decide) ?_
    refine m_iald C w.1 sh_84 (Nat.le_of_ble_eq_true rfl) (Nat.le_of_ble_eq_true rfl) hM d_Md_moves_16 (fun x2 hM => ?_)
    refine m_icmp_gt C hM 75 d_Md_moves_17 (by decide) (fun hM => ?_) (fun hM => ?_)
    · exact m_vretW C w hr hlk hM d_Md_moves_75
    · refine m_aload_n C hl 0 d_Md_moves_20 rfl rfl ?_
      refine m_getr C w.1 kc_Md sh_83 (Nat.le_of_ble_eq_true rfl) 16 89 rfl (by decide) fk_Md_29 d_Md_moves_21 ?_
      refine m_iload_n C hl 1 d_Md_moves_24 rfl rfl ?_
      refine m_iald C w.1 sh_89 (Nat.le_of_ble_eq_true rfl) (Nat.le_of_ble_eq_true rfl) hM d_Md_moves_25 (fun x3 hM => ?_)
      refine m_iload_n C hl 2 d_Md_moves_26 rfl rfl ?_
      refine m_iload_n C hl 3 d_Md_moves_27 rfl rfl ?_
      refine m_imul C d_Md_moves_28 ?_
      refine m_iadd C d_Md_moves_29 ?_
      refine m_istore C hl [(4, .int (iZ (x3 + (v2 * v3)))), (0, .ref (ad 83)), (1, .int (iZ v1)), (2, .int (iZ v2)), (3, .int (iZ v3))] d_Md_moves_30 (by decide) rfl (fun ls hl => ?_)
      refine m_aload_n C hl 1 d_Md_moves_32 rfl rfl ?_
      refine m_iload_n C hl 2 d_Md_moves_33 rfl rfl ?_
      refine m_iload C hl 0 d_Md_moves_34 rfl ?_
      obtain ⟨q5, e4, hM⟩ := bnd_some hM
      refine aftI C w (runV C w.1 w.2 kc_Md sh_83 (Nat.le_of_ble_eq_true rfl) (c_Md_canMove hI e4) lk_Md_132 mb_Md_canMove rfl ⟨Nat.le_of_ble_eq_true rfl, Nat.le_of_ble_eq_true rfl⟩ ⟨Nat.zero_le _, Nat.zero_le _⟩ (Nat.le_of_ble_eq_true rfl) d_Md_moves_36 hl.1 (rest := []) rfl) (fun H locs w => ?_)
      refine m_if_ne C hM 45 d_Md_moves_39 (by decide) (fun hM => ?_) (fun hM => ?_)
      · refine m_aload_n C hl 1 d_Md_moves_45 rfl rfl ?_
        refine m_getr C w.1 kc_Md sh_83 (Nat.le_of_ble_eq_true rfl) 18 91 rfl (by decide) fk_Md_35 d_Md_moves_46 ?_
        refine m_iload_n C hl 2 d_Md_moves_49 rfl rfl ?_
        refine m_iconst C d_Md_moves_50 ?_
        refine m_iast C w sh_91 (Nat.le_of_ble_eq_true rfl) (Nat.le_of_ble_eq_true rfl) hM d_Md_moves_51 (fun h6 H locs w hM => ?_)
        refine m_aload_n C hl 1 d_Md_moves_52 rfl rfl ?_
        refine m_getr C w.1 kc_Md sh_83 (Nat.le_of_ble_eq_true rfl) 17 90 rfl (by decide) fk_Md_32 d_Md_moves_53 ?_
        refine m_iload_n C hl 2 d_Md_moves_56 rfl rfl ?_
        refine m_iload C hl 0 d_Md_moves_57 rfl ?_
        refine m_iast C w sh_90 (Nat.le_of_ble_eq_true rfl) (Nat.le_of_ble_eq_true rfl) hM d_Md_moves_59 (fun h7 H locs w hM => ?_)
        refine m_aload_n C hl 1 d_Md_moves_60 rfl rfl ?_
        refine m_getr C w.1 kc_Md sh_83 (Nat.le_of_ble_eq_true rfl) 19 92 rfl (by decide) fk_Md_38 d_Md_moves_61 ?_
        refine m_iload C hl 0 d_Md_moves_64 rfl ?_
        refine m_iload_n C hl 2 d_Md_moves_66 rfl rfl ?_
        refine m_iast C w sh_92 (Nat.le_of_ble_eq_true rfl) (Nat.le_of_ble_eq_true rfl) hM d_Md_moves_67 (fun h8 H locs w hM => ?_)
        exact m_vretW C w hr hlk hM d_Md_moves_68
      · refine m_goto C 69 d_Md_moves_42 (by decide) ?_
        refine m_iinc C hl 4 [(3, .int (iZ (v3 + 1))), (4, .int (iZ (x3 + (v2 * v3)))), (0, .ref (ad 83)), (1, .int (iZ v1)), (2, .int (iZ v2))] d_Md_moves_69 rfl (by decide) rfl (fun ls hl => ?_)
        refine m_goto C 9 d_Md_moves_72 (by decide) ?_
        exact ih (v3 + 1) q5.2 _ _ w _ (lv_sub hl [2, 3, 4, 0] rfl) hM
set_option maxHeartbeats 4000000 in
set_option maxRecDepth 100000 in
theorem c_Md_moves {l : Launch} {D : va_G} {ad : Nat → Nat} {cA : Nat → ClassId} {sd sv : Nat → Nat} {h : Hp} {N : Nat} {a1 a2 : Int} {out : Hp} (hI : Inj97 ad) (hM : M_Md_moves N h a1 a2 = some out) : Met l y_Md_moves (.code y_Md_moves prog_13_method_29_code 5 none :: TT) (rmD 5) (PC D ad cA sd sv h [.ref (ad 83), .int (iZ a1), .int (iZ a2)]) (QV D ad cA out) 0 0 (FA ad) := by
  unfold M_Md_moves at hM
  refine entM (by decide +kernel) hI (Nat.le_of_ble_eq_true rfl) ?_
  intro p e s m args below meth c C hr hlk hP ls hl
  have C : Cx p s m args c prog_13_method_29_code 5 "FeastBookModel" D ad cA sd sv (FA ad) := C
  have hl : lv_has ls 5 [(0, .ref (ad 83)), (1, .int (iZ a1)), (2, .int (iZ a2))] := hl
  have w : Wd s D ad cA (FA ad) h s.heap [] := ⟨hP, va_S.rf⟩
  refine m_aload_n C hl 0 d_Md_moves_0 rfl rfl ?_
  refine m_getr C w.1 kc_Md sh_83 (Nat.le_of_ble_eq_true rfl) 18 91 rfl (by decide) fk_Md_35 d_Md_moves_1 ?_
  refine m_iload_n C hl 1 d_Md_moves_4 rfl rfl ?_
  refine m_iconst C d_Md_moves_5 ?_
  refine m_iast C w sh_91 (Nat.le_of_ble_eq_true rfl) (Nat.le_of_ble_eq_true rfl) hM d_Md_moves_6 (fun h1 H locs w hM => ?_)
  refine m_iconst C d_Md_moves_7 ?_
  refine m_istore_n C hl [(3, .int (iZ 1)), (0, .ref (ad 83)), (1, .int (iZ a1)), (2, .int (iZ a2))] d_Md_moves_8 rfl (by decide) rfl (fun ls hl => ?_)
  exact w_Md_moves_L9 N hI C hr hlk a1 a2 _ 1 h1 _ _ w _ (lv_sub hl [1, 2, 3, 0] rfl) hM
def y_Md_yieldsBy : MethodName := ⟨"FeastBookModel", "yieldsBy", "(I)V"⟩
theorem d_Md_yieldsBy_0 : decode prog_13_method_30_code 0 = .ok (.aload_n 0, 1) := by decide +kernel
theorem d_Md_yieldsBy_1 : decode prog_13_method_30_code 1 = .ok (.iload_n 1, 1) := by decide +kernel
theorem d_Md_yieldsBy_2 : decode prog_13_method_30_code 2 = .ok (.iconst 4, 1) := by decide +kernel
theorem d_Md_yieldsBy_3 : decode prog_13_method_30_code 3 = .ok (.invokevirtual 90, 3) := by decide +kernel
theorem d_Md_yieldsBy_6 : decode prog_13_method_30_code 6 = .ok (.tableswitch 96 0 2 #[26, 33, 40], 26) := by decide +kernel
theorem d_Md_yieldsBy_32 : decode prog_13_method_30_code 32 = .ok (.aload_n 0, 1) := by decide +kernel
theorem d_Md_yieldsBy_33 : decode prog_13_method_30_code 33 = .ok (.iload_n 1, 1) := by decide +kernel
theorem d_Md_yieldsBy_34 : decode prog_13_method_30_code 34 = .ok (.iconst 1, 1) := by decide +kernel
theorem d_Md_yieldsBy_35 : decode prog_13_method_30_code 35 = .ok (.invokevirtual 135, 3) := by decide +kernel
theorem d_Md_yieldsBy_38 : decode prog_13_method_30_code 38 = .ok (.return_, 1) := by decide +kernel
theorem d_Md_yieldsBy_39 : decode prog_13_method_30_code 39 = .ok (.aload_n 0, 1) := by decide +kernel
theorem d_Md_yieldsBy_40 : decode prog_13_method_30_code 40 = .ok (.iload_n 1, 1) := by decide +kernel
theorem d_Md_yieldsBy_41 : decode prog_13_method_30_code 41 = .ok (.iconst (-1), 1) := by decide +kernel
theorem d_Md_yieldsBy_42 : decode prog_13_method_30_code 42 = .ok (.invokevirtual 135, 3) := by decide +kernel
theorem d_Md_yieldsBy_45 : decode prog_13_method_30_code 45 = .ok (.return_, 1) := by decide +kernel
theorem d_Md_yieldsBy_46 : decode prog_13_method_30_code 46 = .ok (.aload_n 0, 1) := by decide +kernel
theorem d_Md_yieldsBy_47 : decode prog_13_method_30_code 47 = .ok (.getfield 35, 3) := by decide +kernel
theorem d_Md_yieldsBy_50 : decode prog_13_method_30_code 50 = .ok (.iload_n 1, 1) := by decide +kernel
theorem d_Md_yieldsBy_51 : decode prog_13_method_30_code 51 = .ok (.aload_n 0, 1) := by decide +kernel
theorem d_Md_yieldsBy_52 : decode prog_13_method_30_code 52 = .ok (.getfield 41, 3) := by decide +kernel
theorem d_Md_yieldsBy_55 : decode prog_13_method_30_code 55 = .ok (.aload_n 0, 1) := by decide +kernel
theorem d_Md_yieldsBy_56 : decode prog_13_method_30_code 56 = .ok (.getfield 29, 3) := by decide +kernel
theorem d_Md_yieldsBy_59 : decode prog_13_method_30_code 59 = .ok (.iload_n 1, 1) := by decide +kernel
theorem d_Md_yieldsBy_60 : decode prog_13_method_30_code 60 = .ok (.iaload, 1) := by decide +kernel
theorem d_Md_yieldsBy_61 : decode prog_13_method_30_code 61 = .ok (.iaload, 1) := by decide +kernel
theorem d_Md_yieldsBy_62 : decode prog_13_method_30_code 62 = .ok (.iconst 2, 1) := by decide +kernel
theorem d_Md_yieldsBy_63 : decode prog_13_method_30_code 63 = .ok (.if_icmp .ne 7, 3) := by decide +kernel
theorem d_Md_yieldsBy_66 : decode prog_13_method_30_code 66 = .ok (.iconst 3, 1) := by decide +kernel
theorem d_Md_yieldsBy_67 : decode prog_13_method_30_code 67 = .ok (.goto 4, 3) := by decide +kernel
theorem d_Md_yieldsBy_70 : decode prog_13_method_30_code 70 = .ok (.iconst 2, 1) := by decide +kernel
theorem d_Md_yieldsBy_71 : decode prog_13_method_30_code 71 = .ok (.iastore, 1) := by decide +kernel
theorem d_Md_yieldsBy_72 : decode prog_13_method_30_code 72 = .ok (.aload_n 0, 1) := by decide +kernel
theorem d_Md_yieldsBy_73 : decode prog_13_method_30_code 73 = .ok (.getfield 41, 3) := by decide +kernel
theorem d_Md_yieldsBy_76 : decode prog_13_method_30_code 76 = .ok (.aload_n 0, 1) := by decide +kernel
theorem d_Md_yieldsBy_77 : decode prog_13_method_30_code 77 = .ok (.getfield 29, 3) := by decide +kernel
theorem d_Md_yieldsBy_80 : decode prog_13_method_30_code 80 = .ok (.iload_n 1, 1) := by decide +kernel
theorem d_Md_yieldsBy_81 : decode prog_13_method_30_code 81 = .ok (.iaload, 1) := by decide +kernel
theorem d_Md_yieldsBy_82 : decode prog_13_method_30_code 82 = .ok (.dup2, 1) := by decide +kernel
theorem d_Md_yieldsBy_83 : decode prog_13_method_30_code 83 = .ok (.iaload, 1) := by decide +kernel
theorem d_Md_yieldsBy_84 : decode prog_13_method_30_code 84 = .ok (.aload_n 0, 1) := by decide +kernel
theorem d_Md_yieldsBy_85 : decode prog_13_method_30_code 85 = .ok (.getfield 35, 3) := by decide +kernel
theorem d_Md_yieldsBy_88 : decode prog_13_method_30_code 88 = .ok (.iload_n 1, 1) := by decide +kernel
theorem d_Md_yieldsBy_89 : decode prog_13_method_30_code 89 = .ok (.iaload, 1) := by decide +kernel
theorem d_Md_yieldsBy_90 : decode prog_13_method_30_code 90 = .ok (.iconst 2, 1) := by decide +kernel
theorem d_Md_yieldsBy_91 : decode prog_13_method_30_code 91 = .ok (.if_icmp .ne 7, 3) := by decide +kernel
theorem d_Md_yieldsBy_94 : decode prog_13_method_30_code 94 = .ok (.iconst 1, 1) := by decide +kernel
theorem d_Md_yieldsBy_95 : decode prog_13_method_30_code 95 = .ok (.goto 4, 3) := by decide +kernel
theorem d_Md_yieldsBy_98 : decode prog_13_method_30_code 98 = .ok (.iconst 0, 1) := by decide +kernel
theorem d_Md_yieldsBy_99 : decode prog_13_method_30_code 99 = .ok (.iadd, 1) := by decide +kernel
theorem d_Md_yieldsBy_100 : decode prog_13_method_30_code 100 = .ok (.iastore, 1) := by decide +kernel
theorem d_Md_yieldsBy_101 : decode prog_13_method_30_code 101 = .ok (.return_, 1) := by decide +kernel
theorem d_Md_yieldsBy_102 : decode prog_13_method_30_code 102 = .ok (.aload_n 0, 1) := by decide +kernel
theorem d_Md_yieldsBy_103 : decode prog_13_method_30_code 103 = .ok (.getfield 35, 3) := by decide +kernel
theorem d_Md_yieldsBy_106 : decode prog_13_method_30_code 106 = .ok (.iload_n 1, 1) := by decide +kernel
theorem d_Md_yieldsBy_107 : decode prog_13_method_30_code 107 = .ok (.iconst 3, 1) := by decide +kernel
theorem d_Md_yieldsBy_108 : decode prog_13_method_30_code 108 = .ok (.iastore, 1) := by decide +kernel
theorem d_Md_yieldsBy_109 : decode prog_13_method_30_code 109 = .ok (.return_, 1) := by decide +kernel
theorem mb_Md_moves : MBv R_Md y_Md_moves prog_13_method_29_code 5 none 2 := ⟨mT9 140 (by decide +kernel) (by decide +kernel), mTs 52 (by decide +kernel) (by decide +kernel), mT1 10 (by decide +kernel) (by decide +kernel), mT9 141 (by decide +kernel) (by decide +kernel), by decide, rfl, by decide +kernel, by decide +kernel, by decide +kernel⟩
theorem fk_Md_41 : Cond.fieldLink "FeastBookModel" 41 (T_Md 20).1 (T_Md 20).2.1 (T_Md 20).2.2.1 ∈ TT := mT8 116 (by decide +kernel) (by decide +kernel)
theorem lk_Md_135 : Cond.methodLink "FeastBookModel" 135 y_Md_moves ∈ TT := mT9 138 (by decide +kernel) (by decide +kernel)
set_option maxHeartbeats 4000000 in
set_option maxRecDepth 100000 in
theorem c_Md_yieldsBy {l : Launch} {D : va_G} {ad : Nat → Nat} {cA : Nat → ClassId} {sd sv : Nat → Nat} {h : Hp} {N : Nat} {a1 : Int} {out : Hp} (hI : Inj97 ad) (hM : M_Md_yieldsBy N h a1 = some out) : Met l y_Md_yieldsBy (.code y_Md_yieldsBy prog_13_method_30_code 2 none :: TT) (rmD 6) (PC D ad cA sd sv h [.ref (ad 83), .int (iZ a1)]) (QV D ad cA out) 0 0 (FA ad) := by
  unfold M_Md_yieldsBy at hM
  refine entM (by decide +kernel) hI (Nat.le_of_ble_eq_true rfl) ?_
  intro p e s m args below meth c C hr hlk hP ls hl
  have C : Cx p s m args c prog_13_method_30_code 2 "FeastBookModel" D ad cA sd sv (FA ad) := C
  have hl : lv_has ls 2 [(0, .ref (ad 83)), (1, .int (iZ a1))] := hl
  have w : Wd s D ad cA (FA ad) h s.heap [] := ⟨hP, va_S.rf⟩
  refine m_aload_n C hl 0 d_Md_yieldsBy_0 rfl rfl ?_
  refine m_iload_n C hl 1 d_Md_yieldsBy_1 rfl rfl ?_
  refine m_iconst C d_Md_yieldsBy_2 ?_
  obtain ⟨x2, e1, hM⟩ := bnd_some hM
  refine aftR (runV C w.1 w.2 kc_Md sh_83 (Nat.le_of_ble_eq_true rfl) (c_Md_of0 hI e1) lk_Md_90 mb_Md_of0 rfl ⟨Nat.le_of_ble_eq_true rfl, Nat.le_of_ble_eq_true rfl⟩ ⟨Nat.zero_le _, Nat.zero_le _⟩ (Nat.le_of_ble_eq_true rfl) d_Md_yieldsBy_3 hl.1 (rest := []) rfl) ?_
  refine m_swc 0 hM (fun ek hM => ?_) (fun hn0 hM => ?_)
  · refine lv_tableIn C.1 C.2.1 d_Md_yieldsBy_6 (tgt := 32) (off := 26) (by rw [ek]; decide) (by rw [ek]; decide) (by rw [ek]; rfl) (by decide) ?_
    refine m_aload_n C hl 0 d_Md_yieldsBy_32 rfl rfl ?_
    refine m_iload_n C hl 1 d_Md_yieldsBy_33 rfl rfl ?_
    refine m_iconst C d_Md_yieldsBy_34 ?_
    obtain ⟨h4, e3, hM⟩ := bnd_some hM
    refine aftV C w (runV C w.1 w.2 kc_Md sh_83 (Nat.le_of_ble_eq_true rfl) (c_Md_moves hI e3) lk_Md_135 mb_Md_moves rfl ⟨Nat.le_of_ble_eq_true rfl, Nat.le_of_ble_eq_true rfl⟩ ⟨Nat.zero_le _, Nat.zero_le _⟩ (Nat.le_of_ble_eq_true rfl) d_Md_yieldsBy_35 hl.1 (rest := []) rfl) (fun H locs w => ?_)
    exact m_vretW C w hr hlk hM d_Md_yieldsBy_38
  · refine m_swc 1 hM (fun ek hM => ?_) (fun hn1 hM => ?_)
    · refine lv_tableIn C.1 C.2.1 d_Md_yieldsBy_6 (tgt := 39) (off := 33) (by rw [ek]; decide) (by rw [ek]; decide) (by rw [ek]; rfl) (by decide) ?_
      refine m_aload_n C hl 0 d_Md_yieldsBy_39 rfl rfl ?_
      refine m_iload_n C hl 1 d_Md_yieldsBy_40 rfl rfl ?_
      refine m_iconst C d_Md_yieldsBy_41 ?_
      obtain ⟨h6, e5, hM⟩ := bnd_some hM
      refine aftV C w (runV C w.1 w.2 kc_Md sh_83 (Nat.le_of_ble_eq_true rfl) (c_Md_moves hI e5) lk_Md_135 mb_Md_moves rfl ⟨Nat.le_of_ble_eq_true rfl, Nat.le_of_ble_eq_true rfl⟩ ⟨Nat.zero_le _, Nat.zero_le _⟩ (Nat.le_of_ble_eq_true rfl) d_Md_yieldsBy_42 hl.1 (rest := []) rfl) (fun H locs w => ?_)
      exact m_vretW C w hr hlk hM d_Md_yieldsBy_45
    · refine m_swc 2 hM (fun ek hM => ?_) (fun hn2 hM => ?_)
      · refine lv_tableIn C.1 C.2.1 d_Md_yieldsBy_6 (tgt := 46) (off := 40) (by rw [ek]; decide) (by rw [ek]; decide) (by rw [ek]; rfl) (by decide) ?_
        refine m_aload_n C hl 0 d_Md_yieldsBy_46 rfl rfl ?_
        refine m_getr C w.1 kc_Md sh_83 (Nat.le_of_ble_eq_true rfl) 18 91 rfl (by decide) fk_Md_35 d_Md_yieldsBy_47 ?_
        refine m_iload_n C hl 1 d_Md_yieldsBy_50 rfl rfl ?_
        refine m_aload_n C hl 0 d_Md_yieldsBy_51 rfl rfl ?_
        refine m_getr C w.1 kc_Md sh_83 (Nat.le_of_ble_eq_true rfl) 20 93 rfl (by decide) fk_Md_41 d_Md_yieldsBy_52 ?_
        refine m_aload_n C hl 0 d_Md_yieldsBy_55 rfl rfl ?_
        refine m_getr C w.1 kc_Md sh_83 (Nat.le_of_ble_eq_true rfl) 16 89 rfl (by decide) fk_Md_29 d_Md_yieldsBy_56 ?_
        refine m_iload_n C hl 1 d_Md_yieldsBy_59 rfl rfl ?_
        refine m_iald C w.1 sh_89 (Nat.le_of_ble_eq_true rfl) (Nat.le_of_ble_eq_true rfl) hM d_Md_yieldsBy_60 (fun x7 hM => ?_)
        refine m_iald C w.1 sh_93 (Nat.le_of_ble_eq_true rfl) (Nat.le_of_ble_eq_true rfl) hM d_Md_yieldsBy_61 (fun x8 hM => ?_)
        refine m_iconst C d_Md_yieldsBy_62 ?_
        refine lt_join hM (fun j9 ej hM => ?_)
        have hJ9 : ∀ (s0_9 : Int), j9 s0_9 = some out → ∀ ls : Array Slot, lv_has ls 2 [(0, .ref (ad 83)), (1, .int (iZ a1))] → W p l e (rmD 6) s m args below meth c s.heap [] 0 0 (MQ below (QV D ad cA out) args s 0 0 (FA ad)) (F0 m 71 ls [.int (iZ s0_9), .int (iZ a1), .ref (ad 91)]) := by
          intro s0_9 hM ls hl
          subst ej
          dsimp only at hM
          refine m_iast C w sh_91 (Nat.le_of_ble_eq_true rfl) (Nat.le_of_ble_eq_true rfl) hM d_Md_yieldsBy_71 (fun h10 H locs w hM => ?_)
          refine m_aload_n C hl 0 d_Md_yieldsBy_72 rfl rfl ?_
          refine m_getr C w.1 kc_Md sh_83 (Nat.le_of_ble_eq_true rfl) 20 93 rfl (by decide) fk_Md_41 d_Md_yieldsBy_73 ?_
          refine m_aload_n C hl 0 d_Md_yieldsBy_76 rfl rfl ?_
          refine m_getr C w.1 kc_Md sh_83 (Nat.le_of_ble_eq_true rfl) 16 89 rfl (by decide) fk_Md_29 d_Md_yieldsBy_77 ?_
          refine m_iload_n C hl 1 d_Md_yieldsBy_80 rfl rfl ?_
          refine m_iald C w.1 sh_89 (Nat.le_of_ble_eq_true rfl) (Nat.le_of_ble_eq_true rfl) hM d_Md_yieldsBy_81 (fun x11 hM => ?_)
          refine m_dup2 C d_Md_yieldsBy_82 rfl rfl ?_
          refine m_iald C w.1 sh_93 (Nat.le_of_ble_eq_true rfl) (Nat.le_of_ble_eq_true rfl) hM d_Md_yieldsBy_83 (fun x12 hM => ?_)
          refine m_aload_n C hl 0 d_Md_yieldsBy_84 rfl rfl ?_
          refine m_getr C w.1 kc_Md sh_83 (Nat.le_of_ble_eq_true rfl) 18 91 rfl (by decide) fk_Md_35 d_Md_yieldsBy_85 ?_
          refine m_iload_n C hl 1 d_Md_yieldsBy_88 rfl rfl ?_
          refine m_iald C w.1 sh_91 (Nat.le_of_ble_eq_true rfl) (Nat.le_of_ble_eq_true rfl) hM d_Md_yieldsBy_89 (fun x13 hM => ?_)
          refine m_iconst C d_Md_yieldsBy_90 ?_
          refine m_icmp_ne C hM 98 d_Md_yieldsBy_91 (by decide) (fun hM => ?_) (fun hM => ?_)
          · refine m_iconst C d_Md_yieldsBy_98 ?_
            refine m_iadd C d_Md_yieldsBy_99 ?_
            refine m_iast C w sh_93 (Nat.le_of_ble_eq_true rfl) (Nat.le_of_ble_eq_true rfl) hM d_Md_yieldsBy_100 (fun h14 H locs w hM => ?_)
            exact m_vretW C w hr hlk hM d_Md_yieldsBy_101
          · refine m_iconst C d_Md_yieldsBy_94 ?_
            refine m_goto C 99 d_Md_yieldsBy_95 (by decide) ?_
            refine m_iadd C d_Md_yieldsBy_99 ?_
            refine m_iast C w sh_93 (Nat.le_of_ble_eq_true rfl) (Nat.le_of_ble_eq_true rfl) hM d_Md_yieldsBy_100 (fun h15 H locs w hM => ?_)
            exact m_vretW C w hr hlk hM d_Md_yieldsBy_101
        refine m_icmp_ne C hM 70 d_Md_yieldsBy_63 (by decide) (fun hM => ?_) (fun hM => ?_)
        · refine m_iconst C d_Md_yieldsBy_70 ?_
          exact hJ9 2 hM _ hl
        · refine m_iconst C d_Md_yieldsBy_66 ?_
          refine m_goto C 71 d_Md_yieldsBy_67 (by decide) ?_
          exact hJ9 3 hM _ hl
      · refine lv_tableOut C.1 C.2.1 d_Md_yieldsBy_6 (tgt := 102) ?_ (by decide) ?_
        · have g0 := lv_neT hn0 (show (iZ 0).toInt = 0 from rfl); have g1 := lv_neT hn1 (show (iZ 1).toInt = 1 from rfl); have g2 := lv_neT hn2 (show (iZ 2).toInt = 2 from rfl); omega
        · refine m_aload_n C hl 0 d_Md_yieldsBy_102 rfl rfl ?_
          refine m_getr C w.1 kc_Md sh_83 (Nat.le_of_ble_eq_true rfl) 18 91 rfl (by decide) fk_Md_35 d_Md_yieldsBy_103 ?_
          refine m_iload_n C hl 1 d_Md_yieldsBy_106 rfl rfl ?_
          refine m_iconst C d_Md_yieldsBy_107 ?_
          refine m_iast C w sh_91 (Nat.le_of_ble_eq_true rfl) (Nat.le_of_ble_eq_true rfl) hM d_Md_yieldsBy_108 (fun h16 H locs w hM => ?_)
          exact m_vretW C w hr hlk hM d_Md_yieldsBy_109
def y_Md_resolves : MethodName := ⟨"FeastBookModel", "resolves", "(I)V"⟩
theorem d_Md_resolves_0 : decode prog_13_method_32_code 0 = .ok (.aload_n 0, 1) := by decide +kernel
theorem d_Md_resolves_1 : decode prog_13_method_32_code 1 = .ok (.aload_n 0, 1) := by decide +kernel
theorem d_Md_resolves_2 : decode prog_13_method_32_code 2 = .ok (.iload_n 1, 1) := by decide +kernel
theorem d_Md_resolves_3 : decode prog_13_method_32_code 3 = .ok (.invokevirtual 139, 3) := by decide +kernel
theorem d_Md_resolves_6 : decode prog_13_method_32_code 6 = .ok (.putfield 122, 3) := by decide +kernel
theorem d_Md_resolves_9 : decode prog_13_method_32_code 9 = .ok (.aload_n 0, 1) := by decide +kernel
theorem d_Md_resolves_10 : decode prog_13_method_32_code 10 = .ok (.aload_n 0, 1) := by decide +kernel
theorem d_Md_resolves_11 : decode prog_13_method_32_code 11 = .ok (.iload_n 1, 1) := by decide +kernel
theorem d_Md_resolves_12 : decode prog_13_method_32_code 12 = .ok (.invokevirtual 74, 3) := by decide +kernel
theorem d_Md_resolves_15 : decode prog_13_method_32_code 15 = .ok (.putfield 84, 3) := by decide +kernel
theorem d_Md_resolves_18 : decode prog_13_method_32_code 18 = .ok (.aload_n 0, 1) := by decide +kernel
theorem d_Md_resolves_19 : decode prog_13_method_32_code 19 = .ok (.aload_n 0, 1) := by decide +kernel
theorem d_Md_resolves_20 : decode prog_13_method_32_code 20 = .ok (.iload_n 1, 1) := by decide +kernel
theorem d_Md_resolves_21 : decode prog_13_method_32_code 21 = .ok (.invokevirtual 142, 3) := by decide +kernel
theorem d_Md_resolves_24 : decode prog_13_method_32_code 24 = .ok (.putfield 87, 3) := by decide +kernel
theorem d_Md_resolves_27 : decode prog_13_method_32_code 27 = .ok (.iconst 0, 1) := by decide +kernel
theorem d_Md_resolves_28 : decode prog_13_method_32_code 28 = .ok (.istore_n 2, 1) := by decide +kernel
theorem d_Md_resolves_29 : decode prog_13_method_32_code 29 = .ok (.iload_n 2, 1) := by decide +kernel
theorem d_Md_resolves_30 : decode prog_13_method_32_code 30 = .ok (.aload_n 0, 1) := by decide +kernel
theorem d_Md_resolves_31 : decode prog_13_method_32_code 31 = .ok (.getfield 122, 3) := by decide +kernel
theorem d_Md_resolves_34 : decode prog_13_method_32_code 34 = .ok (.if_icmp .ge 23, 3) := by decide +kernel
theorem d_Md_resolves_37 : decode prog_13_method_32_code 37 = .ok (.aload_n 0, 1) := by decide +kernel
theorem d_Md_resolves_38 : decode prog_13_method_32_code 38 = .ok (.getfield 38, 3) := by decide +kernel
theorem d_Md_resolves_41 : decode prog_13_method_32_code 41 = .ok (.iload_n 2, 1) := by decide +kernel
theorem d_Md_resolves_42 : decode prog_13_method_32_code 42 = .ok (.iconst (-1), 1) := by decide +kernel
theorem d_Md_resolves_43 : decode prog_13_method_32_code 43 = .ok (.iastore, 1) := by decide +kernel
theorem d_Md_resolves_44 : decode prog_13_method_32_code 44 = .ok (.aload_n 0, 1) := by decide +kernel
theorem d_Md_resolves_45 : decode prog_13_method_32_code 45 = .ok (.getfield 41, 3) := by decide +kernel
theorem d_Md_resolves_48 : decode prog_13_method_32_code 48 = .ok (.iload_n 2, 1) := by decide +kernel
theorem d_Md_resolves_49 : decode prog_13_method_32_code 49 = .ok (.iconst 0, 1) := by decide +kernel
theorem d_Md_resolves_50 : decode prog_13_method_32_code 50 = .ok (.iastore, 1) := by decide +kernel
theorem d_Md_resolves_51 : decode prog_13_method_32_code 51 = .ok (.iinc 2 1, 3) := by decide +kernel
theorem d_Md_resolves_54 : decode prog_13_method_32_code 54 = .ok (.goto (-25), 3) := by decide +kernel
theorem d_Md_resolves_57 : decode prog_13_method_32_code 57 = .ok (.iconst 0, 1) := by decide +kernel
theorem d_Md_resolves_58 : decode prog_13_method_32_code 58 = .ok (.istore_n 2, 1) := by decide +kernel
theorem d_Md_resolves_59 : decode prog_13_method_32_code 59 = .ok (.iload_n 2, 1) := by decide +kernel
theorem d_Md_resolves_60 : decode prog_13_method_32_code 60 = .ok (.aload_n 0, 1) := by decide +kernel
theorem d_Md_resolves_61 : decode prog_13_method_32_code 61 = .ok (.getfield 7, 3) := by decide +kernel
theorem d_Md_resolves_64 : decode prog_13_method_32_code 64 = .ok (.bipush 42, 2) := by decide +kernel
theorem d_Md_resolves_66 : decode prog_13_method_32_code 66 = .ok (.iaload, 1) := by decide +kernel
theorem d_Md_resolves_67 : decode prog_13_method_32_code 67 = .ok (.if_icmp .ge 21, 3) := by decide +kernel
theorem d_Md_resolves_70 : decode prog_13_method_32_code 70 = .ok (.aload_n 0, 1) := by decide +kernel
theorem d_Md_resolves_71 : decode prog_13_method_32_code 71 = .ok (.getfield 29, 3) := by decide +kernel
theorem d_Md_resolves_74 : decode prog_13_method_32_code 74 = .ok (.iload_n 2, 1) := by decide +kernel
theorem d_Md_resolves_75 : decode prog_13_method_32_code 75 = .ok (.aload_n 0, 1) := by decide +kernel
theorem d_Md_resolves_76 : decode prog_13_method_32_code 76 = .ok (.iload_n 2, 1) := by decide +kernel
theorem d_Md_resolves_77 : decode prog_13_method_32_code 77 = .ok (.iload_n 1, 1) := by decide +kernel
theorem d_Md_resolves_78 : decode prog_13_method_32_code 78 = .ok (.invokevirtual 145, 3) := by decide +kernel
theorem d_Md_resolves_81 : decode prog_13_method_32_code 81 = .ok (.iastore, 1) := by decide +kernel
theorem d_Md_resolves_82 : decode prog_13_method_32_code 82 = .ok (.iinc 2 1, 3) := by decide +kernel
theorem d_Md_resolves_85 : decode prog_13_method_32_code 85 = .ok (.goto (-26), 3) := by decide +kernel
theorem d_Md_resolves_88 : decode prog_13_method_32_code 88 = .ok (.aload_n 0, 1) := by decide +kernel
theorem d_Md_resolves_89 : decode prog_13_method_32_code 89 = .ok (.invokevirtual 148, 3) := by decide +kernel
theorem d_Md_resolves_92 : decode prog_13_method_32_code 92 = .ok (.iconst 0, 1) := by decide +kernel
theorem d_Md_resolves_93 : decode prog_13_method_32_code 93 = .ok (.istore_n 2, 1) := by decide +kernel
theorem d_Md_resolves_94 : decode prog_13_method_32_code 94 = .ok (.iload_n 2, 1) := by decide +kernel
theorem d_Md_resolves_95 : decode prog_13_method_32_code 95 = .ok (.aload_n 0, 1) := by decide +kernel
theorem d_Md_resolves_96 : decode prog_13_method_32_code 96 = .ok (.getfield 7, 3) := by decide +kernel
theorem d_Md_resolves_99 : decode prog_13_method_32_code 99 = .ok (.bipush 42, 2) := by decide +kernel
theorem d_Md_resolves_101 : decode prog_13_method_32_code 101 = .ok (.iaload, 1) := by decide +kernel
theorem d_Md_resolves_102 : decode prog_13_method_32_code 102 = .ok (.if_icmp .ge 19, 3) := by decide +kernel
theorem d_Md_resolves_105 : decode prog_13_method_32_code 105 = .ok (.aload_n 0, 1) := by decide +kernel
theorem d_Md_resolves_106 : decode prog_13_method_32_code 106 = .ok (.aload_n 0, 1) := by decide +kernel
theorem d_Md_resolves_107 : decode prog_13_method_32_code 107 = .ok (.getfield 44, 3) := by decide +kernel
theorem d_Md_resolves_110 : decode prog_13_method_32_code 110 = .ok (.iload_n 2, 1) := by decide +kernel
theorem d_Md_resolves_111 : decode prog_13_method_32_code 111 = .ok (.iaload, 1) := by decide +kernel
theorem d_Md_resolves_112 : decode prog_13_method_32_code 112 = .ok (.invokevirtual 151, 3) := by decide +kernel
theorem d_Md_resolves_115 : decode prog_13_method_32_code 115 = .ok (.iinc 2 1, 3) := by decide +kernel
theorem d_Md_resolves_118 : decode prog_13_method_32_code 118 = .ok (.goto (-24), 3) := by decide +kernel
theorem d_Md_resolves_121 : decode prog_13_method_32_code 121 = .ok (.iconst 0, 1) := by decide +kernel
theorem d_Md_resolves_122 : decode prog_13_method_32_code 122 = .ok (.istore_n 2, 1) := by decide +kernel
theorem d_Md_resolves_123 : decode prog_13_method_32_code 123 = .ok (.iload_n 2, 1) := by decide +kernel
theorem d_Md_resolves_124 : decode prog_13_method_32_code 124 = .ok (.aload_n 0, 1) := by decide +kernel
theorem d_Md_resolves_125 : decode prog_13_method_32_code 125 = .ok (.getfield 7, 3) := by decide +kernel
theorem d_Md_resolves_128 : decode prog_13_method_32_code 128 = .ok (.bipush 42, 2) := by decide +kernel
theorem d_Md_resolves_130 : decode prog_13_method_32_code 130 = .ok (.iaload, 1) := by decide +kernel
theorem d_Md_resolves_131 : decode prog_13_method_32_code 131 = .ok (.if_icmp .ge 34, 3) := by decide +kernel
theorem d_Md_resolves_134 : decode prog_13_method_32_code 134 = .ok (.aload_n 0, 1) := by decide +kernel
theorem d_Md_resolves_135 : decode prog_13_method_32_code 135 = .ok (.getfield 35, 3) := by decide +kernel
theorem d_Md_resolves_138 : decode prog_13_method_32_code 138 = .ok (.aload_n 0, 1) := by decide +kernel
theorem d_Md_resolves_139 : decode prog_13_method_32_code 139 = .ok (.getfield 44, 3) := by decide +kernel
theorem d_Md_resolves_142 : decode prog_13_method_32_code 142 = .ok (.iload_n 2, 1) := by decide +kernel
theorem d_Md_resolves_143 : decode prog_13_method_32_code 143 = .ok (.iaload, 1) := by decide +kernel
theorem d_Md_resolves_144 : decode prog_13_method_32_code 144 = .ok (.iaload, 1) := by decide +kernel
theorem d_Md_resolves_145 : decode prog_13_method_32_code 145 = .ok (.iconst (-1), 1) := by decide +kernel
theorem d_Md_resolves_146 : decode prog_13_method_32_code 146 = .ok (.if_icmp .ne 13, 3) := by decide +kernel
theorem d_Md_resolves_149 : decode prog_13_method_32_code 149 = .ok (.aload_n 0, 1) := by decide +kernel
theorem d_Md_resolves_150 : decode prog_13_method_32_code 150 = .ok (.aload_n 0, 1) := by decide +kernel
theorem d_Md_resolves_151 : decode prog_13_method_32_code 151 = .ok (.getfield 44, 3) := by decide +kernel
theorem d_Md_resolves_154 : decode prog_13_method_32_code 154 = .ok (.iload_n 2, 1) := by decide +kernel
theorem d_Md_resolves_155 : decode prog_13_method_32_code 155 = .ok (.iaload, 1) := by decide +kernel
theorem d_Md_resolves_156 : decode prog_13_method_32_code 156 = .ok (.invokevirtual 154, 3) := by decide +kernel
theorem d_Md_resolves_159 : decode prog_13_method_32_code 159 = .ok (.iinc 2 1, 3) := by decide +kernel
theorem d_Md_resolves_162 : decode prog_13_method_32_code 162 = .ok (.goto (-39), 3) := by decide +kernel
theorem d_Md_resolves_165 : decode prog_13_method_32_code 165 = .ok (.return_, 1) := by decide +kernel
theorem mb_Md_keeps : MBv R_Md y_Md_keeps prog_13_method_31_code 2 none 1 := ⟨mT9 112 (by decide +kernel) (by decide +kernel), mTs 45 (by decide +kernel) (by decide +kernel), mT1 10 (by decide +kernel) (by decide +kernel), mT9 113 (by decide +kernel) (by decide +kernel), by decide, rfl, by decide +kernel, by decide +kernel, by decide +kernel⟩
theorem mb_Md_laysRow : MBv R_Md y_Md_laysRow prog_13_method_23_code 3 none 0 := ⟨mT9 100 (by decide +kernel) (by decide +kernel), mTs 42 (by decide +kernel) (by decide +kernel), mT1 10 (by decide +kernel) (by decide +kernel), mT9 101 (by decide +kernel) (by decide +kernel), by decide, rfl, by decide +kernel, by decide +kernel, by decide +kernel⟩
theorem mb_Md_lengthOf : MBv R_Md y_Md_lengthOf prog_13_method_11_code 2 (some .int) 1 := ⟨mT9 64 (by decide +kernel) (by decide +kernel), mTs 33 (by decide +kernel) (by decide +kernel), mT1 10 (by decide +kernel) (by decide +kernel), mT9 65 (by decide +kernel) (by decide +kernel), by decide, rfl, by decide +kernel, by decide +kernel, by decide +kernel⟩
theorem mb_Md_paschOf : MBv R_Md y_Md_paschOf prog_13_method_14_code 3 (some .int) 1 := ⟨mT9 76 (by decide +kernel) (by decide +kernel), mTs 36 (by decide +kernel) (by decide +kernel), mT1 10 (by decide +kernel) (by decide +kernel), mT9 77 (by decide +kernel) (by decide +kernel), by decide, rfl, by decide +kernel, by decide +kernel, by decide +kernel⟩
theorem mb_Md_toldDay : MBv R_Md y_Md_toldDay prog_13_method_27_code 4 (some .int) 2 := ⟨mT9 84 (by decide +kernel) (by decide +kernel), mTs 38 (by decide +kernel) (by decide +kernel), mT1 10 (by decide +kernel) (by decide +kernel), mT9 85 (by decide +kernel) (by decide +kernel), by decide, rfl, by decide +kernel, by decide +kernel, by decide +kernel⟩
theorem mb_Md_yieldsBy : MBv R_Md y_Md_yieldsBy prog_13_method_30_code 2 none 1 := ⟨mT9 136 (by decide +kernel) (by decide +kernel), mTs 51 (by decide +kernel) (by decide +kernel), mT1 10 (by decide +kernel) (by decide +kernel), mT9 137 (by decide +kernel) (by decide +kernel), by decide, rfl, by decide +kernel, by decide +kernel, by decide +kernel⟩
theorem lk_Md_139 : Cond.methodLink "FeastBookModel" 139 y_Md_lengthOf ∈ TT := mT9 62 (by decide +kernel) (by decide +kernel)
theorem lk_Md_142 : Cond.methodLink "FeastBookModel" 142 y_Md_paschOf ∈ TT := mT9 74 (by decide +kernel) (by decide +kernel)
theorem lk_Md_145 : Cond.methodLink "FeastBookModel" 145 y_Md_toldDay ∈ TT := mT9 82 (by decide +kernel) (by decide +kernel)
theorem lk_Md_148 : Cond.methodLink "FeastBookModel" 148 y_Md_laysRow ∈ TT := mT9 98 (by decide +kernel) (by decide +kernel)
theorem lk_Md_151 : Cond.methodLink "FeastBookModel" 151 y_Md_keeps ∈ TT := mT9 110 (by decide +kernel) (by decide +kernel)
theorem lk_Md_154 : Cond.methodLink "FeastBookModel" 154 y_Md_yieldsBy ∈ TT := mT9 134 (by decide +kernel) (by decide +kernel)
set_option maxHeartbeats 4000000 in
set_option maxRecDepth 100000 in
theorem w_Md_resolves_L29 {p : Program} {l : Launch} {e : Env} {s : State} {m : MethodId} {args : Array Value} {below : List Frame} {meth : Method} {c : Code} {D : va_G} {ad : Nat → Nat} {cA : Nat → ClassId} {sd sv : Nat → Nat} {out : Hp} (N : Nat) (hI : Inj97 ad) (C : Cx p s m args c prog_13_method_32_code 3 "FeastBookModel" D ad cA sd sv (FA ad)) (hr : meth.sig.returnType = none) (hlk : meth.locks = false) (v1 : Int) (k : Int → Hp → Option Hp) (kW : ∀ (v2 : Int) (h : Hp), k v2 h = some out → ∀ (H : Heap) (locs : List Loc), Wd s D ad cA (FA ad) h H locs → ∀ ls : Array Slot, lv_has ls 3 [(0, .ref (ad 83)), (1, .int (iZ v1)), (2, .int (iZ v2))] → W p l e (rmD 7) s m args below meth c H locs 0 0 (MQ below (QV D ad cA out) args s 0 0 (FA ad)) (F0 m 57 ls [])) : ∀ (n : Nat) (v2 : Int) (h : Hp) (H : Heap) (locs : List Loc), Wd s D ad cA (FA ad) h H locs → ∀ ls : Array Slot, lv_has ls 3 [(0, .ref (ad 83)), (1, .int (iZ v1)), (2, .int (iZ v2))] → Md_resolves_L29 N k n v2 h = some out → W p l e (rmD 7) s m args below meth c H locs 0 0 (MQ below (QV D ad cA out) args s 0 0 (FA ad)) (F0 m 29 ls []) := by
  intro n
  induction n with
  | zero =>
    intro v2 h H locs w ls hl hM
    rw [Md_resolves_L29] at hM
    cases hM
  | succ n ih =>
    intro v2 h H locs w ls hl hM
    rw [Md_resolves_L29] at hM
    refine m_iload_n C hl 2 d_Md_resolves_29 rfl rfl ?_
    refine m_aload_n C hl 0 d_Md_resolves_30 rfl rfl ?_
    refine m_geti C w.1 kc_Md sh_83 (Nat.le_of_ble_eq_true rfl) 13 rfl (by decide) fk_Md_122 d_Md_resolves_31 ?_
    refine m_icmp_ge C hM 57 d_Md_resolves_34 (by decide) (fun hM => ?_) (fun hM => ?_)
    · exact kW v2 h hM _ _ w _ hl
    · refine m_aload_n C hl 0 d_Md_resolves_37 rfl rfl ?_
      refine m_getr C w.1 kc_Md sh_83 (Nat.le_of_ble_eq_true rfl) 19 92 rfl (by decide) fk_Md_38 d_Md_resolves_38 ?_
      refine m_iload_n C hl 2 d_Md_resolves_41 rfl rfl ?_
      refine m_iconst C d_Md_resolves_42 ?_
      refine m_iast C w sh_92 (Nat.le_of_ble_eq_true rfl) (Nat.le_of_ble_eq_true rfl) hM d_Md_resolves_43 (fun h10 H locs w hM => ?_)
      refine m_aload_n C hl 0 d_Md_resolves_44 rfl rfl ?_
      refine m_getr C w.1 kc_Md sh_83 (Nat.le_of_ble_eq_true rfl) 20 93 rfl (by decide) fk_Md_41 d_Md_resolves_45 ?_
      refine m_iload_n C hl 2 d_Md_resolves_48 rfl rfl ?_
      refine m_iconst C d_Md_resolves_49 ?_
      refine m_iast C w sh_93 (Nat.le_of_ble_eq_true rfl) (Nat.le_of_ble_eq_true rfl) hM d_Md_resolves_50 (fun h11 H locs w hM => ?_)
      refine m_iinc C hl 2 [(2, .int (iZ (v2 + 1))), (0, .ref (ad 83)), (1, .int (iZ v1))] d_Md_resolves_51 rfl (by decide) rfl (fun ls hl => ?_)
      refine m_goto C 29 d_Md_resolves_54 (by decide) ?_
      exact ih (v2 + 1) h11 _ _ w _ (lv_sub hl [1, 2, 0] rfl) hM
set_option maxHeartbeats 4000000 in
set_option maxRecDepth 100000 in
theorem w_Md_resolves_L59 {p : Program} {l : Launch} {e : Env} {s : State} {m : MethodId} {args : Array Value} {below : List Frame} {meth : Method} {c : Code} {D : va_G} {ad : Nat → Nat} {cA : Nat → ClassId} {sd sv : Nat → Nat} {out : Hp} (N : Nat) (hI : Inj97 ad) (C : Cx p s m args c prog_13_method_32_code 3 "FeastBookModel" D ad cA sd sv (FA ad)) (hr : meth.sig.returnType = none) (hlk : meth.locks = false) (v1 : Int) (k : Int → Hp → Option Hp) (kW : ∀ (v2 : Int) (h : Hp), k v2 h = some out → ∀ (H : Heap) (locs : List Loc), Wd s D ad cA (FA ad) h H locs → ∀ ls : Array Slot, lv_has ls 3 [(0, .ref (ad 83)), (1, .int (iZ v1)), (2, .int (iZ v2))] → W p l e (rmD 7) s m args below meth c H locs 0 0 (MQ below (QV D ad cA out) args s 0 0 (FA ad)) (F0 m 88 ls [])) : ∀ (n : Nat) (v2 : Int) (h : Hp) (H : Heap) (locs : List Loc), Wd s D ad cA (FA ad) h H locs → ∀ ls : Array Slot, lv_has ls 3 [(0, .ref (ad 83)), (1, .int (iZ v1)), (2, .int (iZ v2))] → Md_resolves_L59 N v1 k n v2 h = some out → W p l e (rmD 7) s m args below meth c H locs 0 0 (MQ below (QV D ad cA out) args s 0 0 (FA ad)) (F0 m 59 ls []) := by
  intro n
  induction n with
  | zero =>
    intro v2 h H locs w ls hl hM
    rw [Md_resolves_L59] at hM
    cases hM
  | succ n ih =>
    intro v2 h H locs w ls hl hM
    rw [Md_resolves_L59] at hM
    refine m_iload_n C hl 2 d_Md_resolves_59 rfl rfl ?_
    refine m_aload_n C hl 0 d_Md_resolves_60 rfl rfl ?_
    refine m_getr C w.1 kc_Md sh_83 (Nat.le_of_ble_eq_true rfl) 1 84 rfl (by decide) fk_Md_7 d_Md_resolves_61 ?_
    refine m_bipush C d_Md_resolves_64 (by decide) ?_
    refine m_iald C w.1 sh_84 (Nat.le_of_ble_eq_true rfl) (Nat.le_of_ble_eq_true rfl) hM d_Md_resolves_66 (fun x13 hM => ?_)
    refine m_icmp_ge C hM 88 d_Md_resolves_67 (by decide) (fun hM => ?_) (fun hM => ?_)
    · exact kW v2 h hM _ _ w _ hl
    · refine m_aload_n C hl 0 d_Md_resolves_70 rfl rfl ?_
      refine m_getr C w.1 kc_Md sh_83 (Nat.le_of_ble_eq_true rfl) 16 89 rfl (by decide) fk_Md_29 d_Md_resolves_71 ?_
      refine m_iload_n C hl 2 d_Md_resolves_74 rfl rfl ?_
      refine m_aload_n C hl 0 d_Md_resolves_75 rfl rfl ?_
      refine m_iload_n C hl 2 d_Md_resolves_76 rfl rfl ?_
      refine m_iload_n C hl 1 d_Md_resolves_77 rfl rfl ?_
      obtain ⟨x15, e14, hM⟩ := bnd_some hM
      refine aftR (runV C w.1 w.2 kc_Md sh_83 (Nat.le_of_ble_eq_true rfl) (c_Md_toldDay hI e14) lk_Md_145 mb_Md_toldDay rfl ⟨Nat.le_of_ble_eq_true rfl, Nat.le_of_ble_eq_true rfl⟩ ⟨Nat.zero_le _, Nat.zero_le _⟩ (Nat.le_of_ble_eq_true rfl) d_Md_resolves_78 hl.1 (rest := [.int (iZ v2), .ref (ad 89)]) rfl) ?_
      refine m_iast C w sh_89 (Nat.le_of_ble_eq_true rfl) (Nat.le_of_ble_eq_true rfl) hM d_Md_resolves_81 (fun h16 H locs w hM => ?_)
      refine m_iinc C hl 2 [(2, .int (iZ (v2 + 1))), (0, .ref (ad 83)), (1, .int (iZ v1))] d_Md_resolves_82 rfl (by decide) rfl (fun ls hl => ?_)
      refine m_goto C 59 d_Md_resolves_85 (by decide) ?_
      exact ih (v2 + 1) h16 _ _ w _ (lv_sub hl [1, 2, 0] rfl) hM
set_option maxHeartbeats 4000000 in
set_option maxRecDepth 100000 in
theorem w_Md_resolves_L94 {p : Program} {l : Launch} {e : Env} {s : State} {m : MethodId} {args : Array Value} {below : List Frame} {meth : Method} {c : Code} {D : va_G} {ad : Nat → Nat} {cA : Nat → ClassId} {sd sv : Nat → Nat} {out : Hp} (N : Nat) (hI : Inj97 ad) (C : Cx p s m args c prog_13_method_32_code 3 "FeastBookModel" D ad cA sd sv (FA ad)) (hr : meth.sig.returnType = none) (hlk : meth.locks = false) (v1 : Int) (k : Int → Hp → Option Hp) (kW : ∀ (v2 : Int) (h : Hp), k v2 h = some out → ∀ (H : Heap) (locs : List Loc), Wd s D ad cA (FA ad) h H locs → ∀ ls : Array Slot, lv_has ls 3 [(0, .ref (ad 83)), (1, .int (iZ v1)), (2, .int (iZ v2))] → W p l e (rmD 7) s m args below meth c H locs 0 0 (MQ below (QV D ad cA out) args s 0 0 (FA ad)) (F0 m 121 ls [])) : ∀ (n : Nat) (v2 : Int) (h : Hp) (H : Heap) (locs : List Loc), Wd s D ad cA (FA ad) h H locs → ∀ ls : Array Slot, lv_has ls 3 [(0, .ref (ad 83)), (1, .int (iZ v1)), (2, .int (iZ v2))] → Md_resolves_L94 N k n v2 h = some out → W p l e (rmD 7) s m args below meth c H locs 0 0 (MQ below (QV D ad cA out) args s 0 0 (FA ad)) (F0 m 94 ls []) := by
  intro n
  induction n with
  | zero =>
    intro v2 h H locs w ls hl hM
    rw [Md_resolves_L94] at hM
    cases hM
  | succ n ih =>
    intro v2 h H locs w ls hl hM
    rw [Md_resolves_L94] at hM
    refine m_iload_n C hl 2 d_Md_resolves_94 rfl rfl ?_
    refine m_aload_n C hl 0 d_Md_resolves_95 rfl rfl ?_
    refine m_getr C w.1 kc_Md sh_83 (Nat.le_of_ble_eq_true rfl) 1 84 rfl (by decide) fk_Md_7 d_Md_resolves_96 ?_
    refine m_bipush C d_Md_resolves_99 (by decide) ?_
    refine m_iald C w.1 sh_84 (Nat.le_of_ble_eq_true rfl) (Nat.le_of_ble_eq_true rfl) hM d_Md_resolves_101 (fun x20 hM => ?_)
    refine m_icmp_ge C hM 121 d_Md_resolves_102 (by decide) (fun hM => ?_) (fun hM => ?_)
    · exact kW v2 h hM _ _ w _ hl
    · refine m_aload_n C hl 0 d_Md_resolves_105 rfl rfl ?_
      refine m_aload_n C hl 0 d_Md_resolves_106 rfl rfl ?_
      refine m_getr C w.1 kc_Md sh_83 (Nat.le_of_ble_eq_true rfl) 21 94 rfl (by decide) fk_Md_44 d_Md_resolves_107 ?_
      refine m_iload_n C hl 2 d_Md_resolves_110 rfl rfl ?_
      refine m_iald C w.1 sh_94 (Nat.le_of_ble_eq_true rfl) (Nat.le_of_ble_eq_true rfl) hM d_Md_resolves_111 (fun x21 hM => ?_)
      obtain ⟨h23, e22, hM⟩ := bnd_some hM
      refine aftV C w (runV C w.1 w.2 kc_Md sh_83 (Nat.le_of_ble_eq_true rfl) (c_Md_keeps hI e22) lk_Md_151 mb_Md_keeps rfl ⟨Nat.le_of_ble_eq_true rfl, Nat.le_of_ble_eq_true rfl⟩ ⟨Nat.zero_le _, Nat.zero_le _⟩ (Nat.le_of_ble_eq_true rfl) d_Md_resolves_112 hl.1 (rest := []) rfl) (fun H locs w => ?_)
      refine m_iinc C hl 2 [(2, .int (iZ (v2 + 1))), (0, .ref (ad 83)), (1, .int (iZ v1))] d_Md_resolves_115 rfl (by decide) rfl (fun ls hl => ?_)
      refine m_goto C 94 d_Md_resolves_118 (by decide) ?_
      exact ih (v2 + 1) h23 _ _ w _ (lv_sub hl [1, 2, 0] rfl) hM
set_option maxHeartbeats 4000000 in
set_option maxRecDepth 100000 in
theorem w_Md_resolves_L123 {p : Program} {l : Launch} {e : Env} {s : State} {m : MethodId} {args : Array Value} {below : List Frame} {meth : Method} {c : Code} {D : va_G} {ad : Nat → Nat} {cA : Nat → ClassId} {sd sv : Nat → Nat} {out : Hp} (N : Nat) (hI : Inj97 ad) (C : Cx p s m args c prog_13_method_32_code 3 "FeastBookModel" D ad cA sd sv (FA ad)) (hr : meth.sig.returnType = none) (hlk : meth.locks = false) (v1 : Int) : ∀ (n : Nat) (v2 : Int) (h : Hp) (H : Heap) (locs : List Loc), Wd s D ad cA (FA ad) h H locs → ∀ ls : Array Slot, lv_has ls 3 [(0, .ref (ad 83)), (1, .int (iZ v1)), (2, .int (iZ v2))] → Md_resolves_L123 N n v2 h = some out → W p l e (rmD 7) s m args below meth c H locs 0 0 (MQ below (QV D ad cA out) args s 0 0 (FA ad)) (F0 m 123 ls []) := by
  intro n
  induction n with
  | zero =>
    intro v2 h H locs w ls hl hM
    rw [Md_resolves_L123] at hM
    cases hM
  | succ n ih =>
    intro v2 h H locs w ls hl hM
    rw [Md_resolves_L123] at hM
    refine m_iload_n C hl 2 d_Md_resolves_123 rfl rfl ?_
    refine m_aload_n C hl 0 d_Md_resolves_124 rfl rfl ?_
    refine m_getr C w.1 kc_Md sh_83 (Nat.le_of_ble_eq_true rfl) 1 84 rfl (by decide) fk_Md_7 d_Md_resolves_125 ?_
    refine m_bipush C d_Md_resolves_128 (by decide) ?_
    refine m_iald C w.1 sh_84 (Nat.le_of_ble_eq_true rfl) (Nat.le_of_ble_eq_true rfl) hM d_Md_resolves_130 (fun x25 hM => ?_)
    refine m_icmp_ge C hM 165 d_Md_resolves_131 (by decide) (fun hM => ?_) (fun hM => ?_)
    · exact m_vretW C w hr hlk hM d_Md_resolves_165
    · refine m_aload_n C hl 0 d_Md_resolves_134 rfl rfl ?_
      refine m_getr C w.1 kc_Md sh_83 (Nat.le_of_ble_eq_true rfl) 18 91 rfl (by decide) fk_Md_35 d_Md_resolves_135 ?_
      refine m_aload_n C hl 0 d_Md_resolves_138 rfl rfl ?_
      refine m_getr C w.1 kc_Md sh_83 (Nat.le_of_ble_eq_true rfl) 21 94 rfl (by decide) fk_Md_44 d_Md_resolves_139 ?_
      refine m_iload_n C hl 2 d_Md_resolves_142 rfl rfl ?_
      refine m_iald C w.1 sh_94 (Nat.le_of_ble_eq_true rfl) (Nat.le_of_ble_eq_true rfl) hM d_Md_resolves_143 (fun x26 hM => ?_)
      refine m_iald C w.1 sh_91 (Nat.le_of_ble_eq_true rfl) (Nat.le_of_ble_eq_true rfl) hM d_Md_resolves_144 (fun x27 hM => ?_)
      refine m_iconst C d_Md_resolves_145 ?_
      refine m_icmp_ne C hM 159 d_Md_resolves_146 (by decide) (fun hM => ?_) (fun hM => ?_)
      · refine m_iinc C hl 2 [(2, .int (iZ (v2 + 1))), (0, .ref (ad 83)), (1, .int (iZ v1))] d_Md_resolves_159 rfl (by decide) rfl (fun ls hl => ?_)
        refine m_goto C 123 d_Md_resolves_162 (by decide) ?_
        exact ih (v2 + 1) h _ _ w _ (lv_sub hl [1, 2, 0] rfl) hM
      · refine m_aload_n C hl 0 d_Md_resolves_149 rfl rfl ?_
        refine m_aload_n C hl 0 d_Md_resolves_150 rfl rfl ?_
        refine m_getr C w.1 kc_Md sh_83 (Nat.le_of_ble_eq_true rfl) 21 94 rfl (by decide) fk_Md_44 d_Md_resolves_151 ?_
        refine m_iload_n C hl 2 d_Md_resolves_154 rfl rfl ?_
        refine m_iald C w.1 sh_94 (Nat.le_of_ble_eq_true rfl) (Nat.le_of_ble_eq_true rfl) hM d_Md_resolves_155 (fun x28 hM => ?_)
        obtain ⟨h30, e29, hM⟩ := bnd_some hM
        refine aftV C w (runV C w.1 w.2 kc_Md sh_83 (Nat.le_of_ble_eq_true rfl) (c_Md_yieldsBy hI e29) lk_Md_154 mb_Md_yieldsBy rfl ⟨Nat.le_of_ble_eq_true rfl, Nat.le_of_ble_eq_true rfl⟩ ⟨Nat.zero_le _, Nat.zero_le _⟩ (Nat.le_of_ble_eq_true rfl) d_Md_resolves_156 hl.1 (rest := []) rfl) (fun H locs w => ?_)
        refine m_iinc C hl 2 [(2, .int (iZ (v2 + 1))), (0, .ref (ad 83)), (1, .int (iZ v1))] d_Md_resolves_159 rfl (by decide) rfl (fun ls hl => ?_)
        refine m_goto C 123 d_Md_resolves_162 (by decide) ?_
        exact ih (v2 + 1) h30 _ _ w _ (lv_sub hl [1, 2, 0] rfl) hM
set_option maxHeartbeats 4000000 in
set_option maxRecDepth 100000 in
theorem c_Md_resolves {l : Launch} {D : va_G} {ad : Nat → Nat} {cA : Nat → ClassId} {sd sv : Nat → Nat} {h : Hp} {N : Nat} {a1 : Int} {out : Hp} (hI : Inj97 ad) (hM : M_Md_resolves N h a1 = some out) : Met l y_Md_resolves (.code y_Md_resolves prog_13_method_32_code 3 none :: TT) (rmD 7) (PC D ad cA sd sv h [.ref (ad 83), .int (iZ a1)]) (QV D ad cA out) 0 0 (FA ad) := by
  unfold M_Md_resolves at hM
  refine entM (by decide +kernel) hI (Nat.le_of_ble_eq_true rfl) ?_
  intro p e s m args below meth c C hr hlk hP ls hl
  have C : Cx p s m args c prog_13_method_32_code 3 "FeastBookModel" D ad cA sd sv (FA ad) := C
  have hl : lv_has ls 3 [(0, .ref (ad 83)), (1, .int (iZ a1))] := hl
  have w : Wd s D ad cA (FA ad) h s.heap [] := ⟨hP, va_S.rf⟩
  refine m_aload_n C hl 0 d_Md_resolves_0 rfl rfl ?_
  refine m_aload_n C hl 0 d_Md_resolves_1 rfl rfl ?_
  refine m_iload_n C hl 1 d_Md_resolves_2 rfl rfl ?_
  obtain ⟨x2, e1, hM⟩ := bnd_some hM
  refine aftR (runV C w.1 w.2 kc_Md sh_83 (Nat.le_of_ble_eq_true rfl) (c_Md_lengthOf hI e1) lk_Md_139 mb_Md_lengthOf rfl ⟨Nat.le_of_ble_eq_true rfl, Nat.le_of_ble_eq_true rfl⟩ ⟨Nat.zero_le _, Nat.zero_le _⟩ (Nat.le_of_ble_eq_true rfl) d_Md_resolves_3 hl.1 (rest := [.ref (ad 83)]) rfl) ?_
  refine m_puti C w kc_Md sh_83 (Nat.le_of_ble_eq_true rfl) 13 hM rfl (by decide) rfl rfl fk_Md_122 d_Md_resolves_6 (fun h3 H locs w hM => ?_)
  refine m_aload_n C hl 0 d_Md_resolves_9 rfl rfl ?_
  refine m_aload_n C hl 0 d_Md_resolves_10 rfl rfl ?_
  refine m_iload_n C hl 1 d_Md_resolves_11 rfl rfl ?_
  obtain ⟨x5, e4, hM⟩ := bnd_some hM
  refine aftR (runV C w.1 w.2 kc_Md sh_83 (Nat.le_of_ble_eq_true rfl) (c_Md_weekdayOf hI e4) lk_Md_74 mb_Md_weekdayOf rfl ⟨Nat.le_of_ble_eq_true rfl, Nat.le_of_ble_eq_true rfl⟩ ⟨Nat.zero_le _, Nat.zero_le _⟩ (Nat.le_of_ble_eq_true rfl) d_Md_resolves_12 hl.1 (rest := [.ref (ad 83)]) rfl) ?_
  refine m_puti C w kc_Md sh_83 (Nat.le_of_ble_eq_true rfl) 14 hM rfl (by decide) rfl rfl fk_Md_84 d_Md_resolves_15 (fun h6 H locs w hM => ?_)
  refine m_aload_n C hl 0 d_Md_resolves_18 rfl rfl ?_
  refine m_aload_n C hl 0 d_Md_resolves_19 rfl rfl ?_
  refine m_iload_n C hl 1 d_Md_resolves_20 rfl rfl ?_
  obtain ⟨x8, e7, hM⟩ := bnd_some hM
  refine aftR (runV C w.1 w.2 kc_Md sh_83 (Nat.le_of_ble_eq_true rfl) (c_Md_paschOf hI e7) lk_Md_142 mb_Md_paschOf rfl ⟨Nat.le_of_ble_eq_true rfl, Nat.le_of_ble_eq_true rfl⟩ ⟨Nat.zero_le _, Nat.zero_le _⟩ (Nat.le_of_ble_eq_true rfl) d_Md_resolves_21 hl.1 (rest := [.ref (ad 83)]) rfl) ?_
  refine m_puti C w kc_Md sh_83 (Nat.le_of_ble_eq_true rfl) 15 hM rfl (by decide) rfl rfl fk_Md_87 d_Md_resolves_24 (fun h9 H locs w hM => ?_)
  refine m_iconst C d_Md_resolves_27 ?_
  refine m_istore_n C hl [(2, .int (iZ 0)), (0, .ref (ad 83)), (1, .int (iZ a1))] d_Md_resolves_28 rfl (by decide) rfl (fun ls hl => ?_)
  refine w_Md_resolves_L29 N hI C hr hlk a1 _ (fun v2_12 h_12 hM H locs w ls hl => ?_) _ 0 h9 _ _ w _ (lv_sub hl [1, 2, 0] rfl) hM
  refine m_iconst C d_Md_resolves_57 ?_
  refine m_istore_n C hl [(2, .int (iZ 0)), (0, .ref (ad 83)), (1, .int (iZ a1))] d_Md_resolves_58 rfl (by decide) rfl (fun ls hl => ?_)
  refine w_Md_resolves_L59 N hI C hr hlk a1 _ (fun v2_17 h_17 hM H locs w ls hl => ?_) _ 0 h_12 _ _ w _ (lv_sub hl [1, 2, 0] rfl) hM
  refine m_aload_n C hl 0 d_Md_resolves_88 rfl rfl ?_
  obtain ⟨h19, e18, hM⟩ := bnd_some hM
  refine aftV C w (runV C w.1 w.2 kc_Md sh_83 (Nat.le_of_ble_eq_true rfl) (c_Md_laysRow hI e18) lk_Md_148 mb_Md_laysRow rfl ⟨Nat.le_of_ble_eq_true rfl, Nat.le_of_ble_eq_true rfl⟩ ⟨Nat.zero_le _, Nat.zero_le _⟩ (Nat.le_of_ble_eq_true rfl) d_Md_resolves_89 hl.1 (rest := []) rfl) (fun H locs w => ?_)
  refine m_iconst C d_Md_resolves_92 ?_
  refine m_istore_n C hl [(2, .int (iZ 0)), (0, .ref (ad 83)), (1, .int (iZ a1))] d_Md_resolves_93 rfl (by decide) rfl (fun ls hl => ?_)
  refine w_Md_resolves_L94 N hI C hr hlk a1 _ (fun v2_24 h_24 hM H locs w ls hl => ?_) _ 0 h19 _ _ w _ (lv_sub hl [1, 2, 0] rfl) hM
  refine m_iconst C d_Md_resolves_121 ?_
  refine m_istore_n C hl [(2, .int (iZ 0)), (0, .ref (ad 83)), (1, .int (iZ a1))] d_Md_resolves_122 rfl (by decide) rfl (fun ls hl => ?_)
  exact w_Md_resolves_L123 N hI C hr hlk a1 _ 0 h_24 _ _ w _ (lv_sub hl [1, 2, 0] rfl) hM
def y_Md_isPlain : MethodName := ⟨"FeastBookModel", "isPlain", "(I)Z"⟩
theorem d_Md_isPlain_0 : decode prog_13_method_33_code 0 = .ok (.aload_n 0, 1) := by decide +kernel
theorem d_Md_isPlain_1 : decode prog_13_method_33_code 1 = .ok (.getfield 38, 3) := by decide +kernel
theorem d_Md_isPlain_4 : decode prog_13_method_33_code 4 = .ok (.iload_n 1, 1) := by decide +kernel
theorem d_Md_isPlain_5 : decode prog_13_method_33_code 5 = .ok (.iaload, 1) := by decide +kernel
theorem d_Md_isPlain_6 : decode prog_13_method_33_code 6 = .ok (.iconst (-1), 1) := by decide +kernel
theorem d_Md_isPlain_7 : decode prog_13_method_33_code 7 = .ok (.if_icmp .eq 5, 3) := by decide +kernel
theorem d_Md_isPlain_10 : decode prog_13_method_33_code 10 = .ok (.iconst 0, 1) := by decide +kernel
theorem d_Md_isPlain_11 : decode prog_13_method_33_code 11 = .ok (.ireturn, 1) := by decide +kernel
theorem d_Md_isPlain_12 : decode prog_13_method_33_code 12 = .ok (.aload_n 0, 1) := by decide +kernel
theorem d_Md_isPlain_13 : decode prog_13_method_33_code 13 = .ok (.iload_n 1, 1) := by decide +kernel
theorem d_Md_isPlain_14 : decode prog_13_method_33_code 14 = .ok (.invokevirtual 128, 3) := by decide +kernel
theorem d_Md_isPlain_17 : decode prog_13_method_33_code 17 = .ok (.aload_n 0, 1) := by decide +kernel
theorem d_Md_isPlain_18 : decode prog_13_method_33_code 18 = .ok (.getfield 106, 3) := by decide +kernel
theorem d_Md_isPlain_21 : decode prog_13_method_33_code 21 = .ok (.ifCond .ne 7, 3) := by decide +kernel
theorem d_Md_isPlain_24 : decode prog_13_method_33_code 24 = .ok (.iconst 1, 1) := by decide +kernel
theorem d_Md_isPlain_25 : decode prog_13_method_33_code 25 = .ok (.goto 4, 3) := by decide +kernel
theorem d_Md_isPlain_28 : decode prog_13_method_33_code 28 = .ok (.iconst 0, 1) := by decide +kernel
theorem d_Md_isPlain_29 : decode prog_13_method_33_code 29 = .ok (.ireturn, 1) := by decide +kernel
set_option maxHeartbeats 4000000 in
set_option maxRecDepth 100000 in
theorem c_Md_isPlain {l : Launch} {D : va_G} {ad : Nat → Nat} {cA : Nat → ClassId} {sd sv : Nat → Nat} {h : Hp} {N : Nat} {a1 : Int} {out : (Int × Hp)} (hI : Inj97 ad) (hM : M_Md_isPlain N h a1 = some out) : Met l y_Md_isPlain (.code y_Md_isPlain prog_13_method_33_code 2 (some .boolean) :: TT) (rmD 4) (PC D ad cA sd sv h [.ref (ad 83), .int (iZ a1)]) (QI D ad cA out) 0 0 (FA ad) := by
  unfold M_Md_isPlain at hM
  refine entM (by decide +kernel) hI (Nat.le_of_ble_eq_true rfl) ?_
  intro p e s m args below meth c C hr hlk hP ls hl
  have C : Cx p s m args c prog_13_method_33_code 2 "FeastBookModel" D ad cA sd sv (FA ad) := C
  have hl : lv_has ls 2 [(0, .ref (ad 83)), (1, .int (iZ a1))] := hl
  have w : Wd s D ad cA (FA ad) h s.heap [] := ⟨hP, va_S.rf⟩
  refine m_aload_n C hl 0 d_Md_isPlain_0 rfl rfl ?_
  refine m_getr C w.1 kc_Md sh_83 (Nat.le_of_ble_eq_true rfl) 19 92 rfl (by decide) fk_Md_38 d_Md_isPlain_1 ?_
  refine m_iload_n C hl 1 d_Md_isPlain_4 rfl rfl ?_
  refine m_iald C w.1 sh_92 (Nat.le_of_ble_eq_true rfl) (Nat.le_of_ble_eq_true rfl) hM d_Md_isPlain_5 (fun x1 hM => ?_)
  refine m_iconst C d_Md_isPlain_6 ?_
  refine m_icmp_eq C hM 12 d_Md_isPlain_7 (by decide) (fun hM => ?_) (fun hM => ?_)
  · refine m_aload_n C hl 0 d_Md_isPlain_12 rfl rfl ?_
    refine m_iload_n C hl 1 d_Md_isPlain_13 rfl rfl ?_
    obtain ⟨h3, e2, hM⟩ := bnd_some hM
    refine aftV C w (runV C w.1 w.2 kc_Md sh_83 (Nat.le_of_ble_eq_true rfl) (c_Md_laysBase hI e2) lk_Md_128 mb_Md_laysBase rfl ⟨Nat.le_of_ble_eq_true rfl, Nat.le_of_ble_eq_true rfl⟩ ⟨Nat.zero_le _, Nat.zero_le _⟩ (Nat.le_of_ble_eq_true rfl) d_Md_isPlain_14 hl.1 (rest := []) rfl) (fun H locs w => ?_)
    refine m_aload_n C hl 0 d_Md_isPlain_17 rfl rfl ?_
    refine m_geti C w.1 kc_Md sh_83 (Nat.le_of_ble_eq_true rfl) 23 rfl (by decide) fk_Md_106 d_Md_isPlain_18 ?_
    refine m_if_ne C hM 28 d_Md_isPlain_21 (by decide) (fun hM => ?_) (fun hM => ?_)
    · refine m_iconst C d_Md_isPlain_28 ?_
      exact m_zretW C w hr hlk hM d_Md_isPlain_29
    · refine m_iconst C d_Md_isPlain_24 ?_
      refine m_goto C 29 d_Md_isPlain_25 (by decide) ?_
      exact m_zretW C w hr hlk hM d_Md_isPlain_29
  · refine m_iconst C d_Md_isPlain_10 ?_
    exact m_zretW C w hr hlk hM d_Md_isPlain_11
def y_Md_free : MethodName := ⟨"FeastBookModel", "free", "()I"⟩
theorem d_Md_free_0 : decode prog_13_method_57_code 0 = .ok (.iconst 0, 1) := by decide +kernel
theorem d_Md_free_1 : decode prog_13_method_57_code 1 = .ok (.istore_n 1, 1) := by decide +kernel
theorem d_Md_free_2 : decode prog_13_method_57_code 2 = .ok (.iconst 0, 1) := by decide +kernel
theorem d_Md_free_3 : decode prog_13_method_57_code 3 = .ok (.istore_n 2, 1) := by decide +kernel
theorem d_Md_free_4 : decode prog_13_method_57_code 4 = .ok (.iload_n 2, 1) := by decide +kernel
theorem d_Md_free_5 : decode prog_13_method_57_code 5 = .ok (.aload_n 0, 1) := by decide +kernel
theorem d_Md_free_6 : decode prog_13_method_57_code 6 = .ok (.getfield 122, 3) := by decide +kernel
theorem d_Md_free_9 : decode prog_13_method_57_code 9 = .ok (.if_icmp .ge 25, 3) := by decide +kernel
theorem d_Md_free_12 : decode prog_13_method_57_code 12 = .ok (.iload_n 1, 1) := by decide +kernel
theorem d_Md_free_13 : decode prog_13_method_57_code 13 = .ok (.aload_n 0, 1) := by decide +kernel
theorem d_Md_free_14 : decode prog_13_method_57_code 14 = .ok (.iload_n 2, 1) := by decide +kernel
theorem d_Md_free_15 : decode prog_13_method_57_code 15 = .ok (.invokevirtual 271, 3) := by decide +kernel
theorem d_Md_free_18 : decode prog_13_method_57_code 18 = .ok (.ifCond .eq 7, 3) := by decide +kernel
theorem d_Md_free_21 : decode prog_13_method_57_code 21 = .ok (.iconst 1, 1) := by decide +kernel
theorem d_Md_free_22 : decode prog_13_method_57_code 22 = .ok (.goto 4, 3) := by decide +kernel
theorem d_Md_free_25 : decode prog_13_method_57_code 25 = .ok (.iconst 0, 1) := by decide +kernel
theorem d_Md_free_26 : decode prog_13_method_57_code 26 = .ok (.iadd, 1) := by decide +kernel
theorem d_Md_free_27 : decode prog_13_method_57_code 27 = .ok (.istore_n 1, 1) := by decide +kernel
theorem d_Md_free_28 : decode prog_13_method_57_code 28 = .ok (.iinc 2 1, 3) := by decide +kernel
theorem d_Md_free_31 : decode prog_13_method_57_code 31 = .ok (.goto (-27), 3) := by decide +kernel
theorem d_Md_free_34 : decode prog_13_method_57_code 34 = .ok (.iload_n 1, 1) := by decide +kernel
theorem d_Md_free_35 : decode prog_13_method_57_code 35 = .ok (.ireturn, 1) := by decide +kernel
theorem mb_Md_isPlain : MBv R_Md y_Md_isPlain prog_13_method_33_code 2 (some .boolean) 1 := ⟨mT9 156 (by decide +kernel) (by decide +kernel), mTs 56 (by decide +kernel) (by decide +kernel), mT1 10 (by decide +kernel) (by decide +kernel), mT9 157 (by decide +kernel) (by decide +kernel), by decide, rfl, by decide +kernel, by decide +kernel, by decide +kernel⟩
theorem lk_Md_271 : Cond.methodLink "FeastBookModel" 271 y_Md_isPlain ∈ TT := mT9 154 (by decide +kernel) (by decide +kernel)
set_option maxHeartbeats 4000000 in
set_option maxRecDepth 100000 in
theorem w_Md_free_L4 {p : Program} {l : Launch} {e : Env} {s : State} {m : MethodId} {args : Array Value} {below : List Frame} {meth : Method} {c : Code} {D : va_G} {ad : Nat → Nat} {cA : Nat → ClassId} {sd sv : Nat → Nat} {out : (Int × Hp)} (N : Nat) (hI : Inj97 ad) (C : Cx p s m args c prog_13_method_57_code 3 "FeastBookModel" D ad cA sd sv (FA ad)) (hr : meth.sig.returnType = (some .int)) (hlk : meth.locks = false) : ∀ (n : Nat) (v1 v2 : Int) (h : Hp) (H : Heap) (locs : List Loc), Wd s D ad cA (FA ad) h H locs → ∀ ls : Array Slot, lv_has ls 3 [(0, .ref (ad 83)), (1, .int (iZ v1)), (2, .int (iZ v2))] → Md_free_L4 N n v1 v2 h = some out → W p l e (rmD 5) s m args below meth c H locs 0 0 (MQ below (QI D ad cA out) args s 0 0 (FA ad)) (F0 m 4 ls []) := by
  intro n
  induction n with
  | zero =>
    intro v1 v2 h H locs w ls hl hM
    rw [Md_free_L4] at hM
    cases hM
  | succ n ih =>
    intro v1 v2 h H locs w ls hl hM
    rw [Md_free_L4] at hM
    refine m_iload_n C hl 2 d_Md_free_4 rfl rfl ?_
    refine m_aload_n C hl 0 d_Md_free_5 rfl rfl ?_
    refine m_geti C w.1 kc_Md sh_83 (Nat.le_of_ble_eq_true rfl) 13 rfl (by decide) fk_Md_122 d_Md_free_6 ?_
    refine m_icmp_ge C hM 34 d_Md_free_9 (by decide) (fun hM => ?_) (fun hM => ?_)
    · refine m_iload_n C hl 1 d_Md_free_34 rfl rfl ?_
      exact m_iretW C w hr hlk hM d_Md_free_35
    · refine m_iload_n C hl 1 d_Md_free_12 rfl rfl ?_
      refine m_aload_n C hl 0 d_Md_free_13 rfl rfl ?_
      refine m_iload_n C hl 2 d_Md_free_14 rfl rfl ?_
      obtain ⟨q2, e1, hM⟩ := bnd_some hM
      refine aftI C w (runV C w.1 w.2 kc_Md sh_83 (Nat.le_of_ble_eq_true rfl) (c_Md_isPlain hI e1) lk_Md_271 mb_Md_isPlain rfl ⟨Nat.le_of_ble_eq_true rfl, Nat.le_of_ble_eq_true rfl⟩ ⟨Nat.zero_le _, Nat.zero_le _⟩ (Nat.le_of_ble_eq_true rfl) d_Md_free_15 hl.1 (rest := [.int (iZ v1)]) rfl) (fun H locs w => ?_)
      refine m_if_eq C hM 25 d_Md_free_18 (by decide) (fun hM => ?_) (fun hM => ?_)
      · refine m_iconst C d_Md_free_25 ?_
        refine m_iadd C d_Md_free_26 ?_
        refine m_istore_n C hl [(1, .int (iZ (v1 + 0))), (0, .ref (ad 83)), (2, .int (iZ v2))] d_Md_free_27 rfl (by decide) rfl (fun ls hl => ?_)
        refine m_iinc C hl 2 [(2, .int (iZ (v2 + 1))), (1, .int (iZ (v1 + 0))), (0, .ref (ad 83))] d_Md_free_28 rfl (by decide) rfl (fun ls hl => ?_)
        refine m_goto C 4 d_Md_free_31 (by decide) ?_
        exact ih (v1 + 0) (v2 + 1) q2.2 _ _ w _ (lv_sub hl [2, 1, 0] rfl) hM
      · refine m_iconst C d_Md_free_21 ?_
        refine m_goto C 26 d_Md_free_22 (by decide) ?_
        refine m_iadd C d_Md_free_26 ?_
        refine m_istore_n C hl [(1, .int (iZ (v1 + 1))), (0, .ref (ad 83)), (2, .int (iZ v2))] d_Md_free_27 rfl (by decide) rfl (fun ls hl => ?_)
        refine m_iinc C hl 2 [(2, .int (iZ (v2 + 1))), (1, .int (iZ (v1 + 1))), (0, .ref (ad 83))] d_Md_free_28 rfl (by decide) rfl (fun ls hl => ?_)
        refine m_goto C 4 d_Md_free_31 (by decide) ?_
        exact ih (v1 + 1) (v2 + 1) q2.2 _ _ w _ (lv_sub hl [2, 1, 0] rfl) hM
set_option maxHeartbeats 4000000 in
set_option maxRecDepth 100000 in
theorem c_Md_free {l : Launch} {D : va_G} {ad : Nat → Nat} {cA : Nat → ClassId} {sd sv : Nat → Nat} {h : Hp} {N : Nat} {out : (Int × Hp)} (hI : Inj97 ad) (hM : M_Md_free N h = some out) : Met l y_Md_free (.code y_Md_free prog_13_method_57_code 3 (some .int) :: TT) (rmD 5) (PC D ad cA sd sv h [.ref (ad 83)]) (QI D ad cA out) 0 0 (FA ad) := by
  unfold M_Md_free at hM
  refine entM (by decide +kernel) hI (Nat.le_of_ble_eq_true rfl) ?_
  intro p e s m args below meth c C hr hlk hP ls hl
  have C : Cx p s m args c prog_13_method_57_code 3 "FeastBookModel" D ad cA sd sv (FA ad) := C
  have hl : lv_has ls 3 [(0, .ref (ad 83))] := hl
  have w : Wd s D ad cA (FA ad) h s.heap [] := ⟨hP, va_S.rf⟩
  refine m_iconst C d_Md_free_0 ?_
  refine m_istore_n C hl [(1, .int (iZ 0)), (0, .ref (ad 83))] d_Md_free_1 rfl (by decide) rfl (fun ls hl => ?_)
  refine m_iconst C d_Md_free_2 ?_
  refine m_istore_n C hl [(2, .int (iZ 0)), (1, .int (iZ 0)), (0, .ref (ad 83))] d_Md_free_3 rfl (by decide) rfl (fun ls hl => ?_)
  exact w_Md_free_L4 N hI C hr hlk  _ 0 0 h _ _ w _ (lv_sub hl [2, 1, 0] rfl) hM
def y_Md_hasVigil : MethodName := ⟨"FeastBookModel", "hasVigil", "(I)Z"⟩
theorem d_Md_hasVigil_0 : decode prog_13_method_35_code 0 = .ok (.iconst 0, 1) := by decide +kernel
theorem d_Md_hasVigil_1 : decode prog_13_method_35_code 1 = .ok (.istore_n 2, 1) := by decide +kernel
theorem d_Md_hasVigil_2 : decode prog_13_method_35_code 2 = .ok (.iload_n 2, 1) := by decide +kernel
theorem d_Md_hasVigil_3 : decode prog_13_method_35_code 3 = .ok (.aload_n 0, 1) := by decide +kernel
theorem d_Md_hasVigil_4 : decode prog_13_method_35_code 4 = .ok (.getfield 7, 3) := by decide +kernel
theorem d_Md_hasVigil_7 : decode prog_13_method_35_code 7 = .ok (.bipush 42, 2) := by decide +kernel
theorem d_Md_hasVigil_9 : decode prog_13_method_35_code 9 = .ok (.iaload, 1) := by decide +kernel
theorem d_Md_hasVigil_10 : decode prog_13_method_35_code 10 = .ok (.if_icmp .ge 29, 3) := by decide +kernel
theorem d_Md_hasVigil_13 : decode prog_13_method_35_code 13 = .ok (.aload_n 0, 1) := by decide +kernel
theorem d_Md_hasVigil_14 : decode prog_13_method_35_code 14 = .ok (.getfield 35, 3) := by decide +kernel
theorem d_Md_hasVigil_17 : decode prog_13_method_35_code 17 = .ok (.iload_n 2, 1) := by decide +kernel
theorem d_Md_hasVigil_18 : decode prog_13_method_35_code 18 = .ok (.iaload, 1) := by decide +kernel
theorem d_Md_hasVigil_19 : decode prog_13_method_35_code 19 = .ok (.ifCond .ne 14, 3) := by decide +kernel
theorem d_Md_hasVigil_22 : decode prog_13_method_35_code 22 = .ok (.aload_n 0, 1) := by decide +kernel
theorem d_Md_hasVigil_23 : decode prog_13_method_35_code 23 = .ok (.iload_n 2, 1) := by decide +kernel
theorem d_Md_hasVigil_24 : decode prog_13_method_35_code 24 = .ok (.invokevirtual 119, 3) := by decide +kernel
theorem d_Md_hasVigil_27 : decode prog_13_method_35_code 27 = .ok (.iload_n 1, 1) := by decide +kernel
theorem d_Md_hasVigil_28 : decode prog_13_method_35_code 28 = .ok (.if_icmp .ne 5, 3) := by decide +kernel
theorem d_Md_hasVigil_31 : decode prog_13_method_35_code 31 = .ok (.iconst 1, 1) := by decide +kernel
theorem d_Md_hasVigil_32 : decode prog_13_method_35_code 32 = .ok (.ireturn, 1) := by decide +kernel
theorem d_Md_hasVigil_33 : decode prog_13_method_35_code 33 = .ok (.iinc 2 1, 3) := by decide +kernel
theorem d_Md_hasVigil_36 : decode prog_13_method_35_code 36 = .ok (.goto (-34), 3) := by decide +kernel
theorem d_Md_hasVigil_39 : decode prog_13_method_35_code 39 = .ok (.iconst 0, 1) := by decide +kernel
theorem d_Md_hasVigil_40 : decode prog_13_method_35_code 40 = .ok (.ireturn, 1) := by decide +kernel
set_option maxHeartbeats 4000000 in
set_option maxRecDepth 100000 in
theorem w_Md_hasVigil_L2 {p : Program} {l : Launch} {e : Env} {s : State} {m : MethodId} {args : Array Value} {below : List Frame} {meth : Method} {c : Code} {D : va_G} {ad : Nat → Nat} {cA : Nat → ClassId} {sd sv : Nat → Nat} {out : Int} (N : Nat) (hI : Inj97 ad) (C : Cx p s m args c prog_13_method_35_code 3 "FeastBookModel" D ad cA sd sv (FA ad)) (hr : meth.sig.returnType = (some .boolean)) (hlk : meth.locks = false) (v1 : Int) (h : Hp) (hP : va_P D clL (wl ad cA h) s.heap) : ∀ (n : Nat) (v2 : Int), ∀ ls : Array Slot, lv_has ls 3 [(0, .ref (ad 83)), (1, .int (iZ v1)), (2, .int (iZ v2))] → Md_hasVigil_L2 N h v1 n v2 = some out → W p l e (rmD 2) s m args below meth c s.heap [] 0 0 (MQ below (QR out) args s 0 0 (fun _ => False)) (F0 m 2 ls []) := by
  intro n
  induction n with
  | zero =>
    intro v2 ls hl hM
    rw [Md_hasVigil_L2] at hM
    cases hM
  | succ n ih =>
    intro v2 ls hl hM
    rw [Md_hasVigil_L2] at hM
    refine m_iload_n C hl 2 d_Md_hasVigil_2 rfl rfl ?_
    refine m_aload_n C hl 0 d_Md_hasVigil_3 rfl rfl ?_
    refine m_getr C hP kc_Md sh_83 (Nat.le_of_ble_eq_true rfl) 1 84 rfl (by decide) fk_Md_7 d_Md_hasVigil_4 ?_
    refine m_bipush C d_Md_hasVigil_7 (by decide) ?_
    refine m_iald C hP sh_84 (Nat.le_of_ble_eq_true rfl) (Nat.le_of_ble_eq_true rfl) hM d_Md_hasVigil_9 (fun x1 hM => ?_)
    refine m_icmp_ge C hM 39 d_Md_hasVigil_10 (by decide) (fun hM => ?_) (fun hM => ?_)
    · refine m_iconst C d_Md_hasVigil_39 ?_
      exact m_zretR C hr hlk hM d_Md_hasVigil_40
    · refine m_aload_n C hl 0 d_Md_hasVigil_13 rfl rfl ?_
      refine m_getr C hP kc_Md sh_83 (Nat.le_of_ble_eq_true rfl) 18 91 rfl (by decide) fk_Md_35 d_Md_hasVigil_14 ?_
      refine m_iload_n C hl 2 d_Md_hasVigil_17 rfl rfl ?_
      refine m_iald C hP sh_91 (Nat.le_of_ble_eq_true rfl) (Nat.le_of_ble_eq_true rfl) hM d_Md_hasVigil_18 (fun x2 hM => ?_)
      refine m_if_ne C hM 33 d_Md_hasVigil_19 (by decide) (fun hM => ?_) (fun hM => ?_)
      · refine m_iinc C hl 2 [(2, .int (iZ (v2 + 1))), (0, .ref (ad 83)), (1, .int (iZ v1))] d_Md_hasVigil_33 rfl (by decide) rfl (fun ls hl => ?_)
        refine m_goto C 2 d_Md_hasVigil_36 (by decide) ?_
        exact ih (v2 + 1) _ (lv_sub hl [1, 2, 0] rfl) hM
      · refine m_aload_n C hl 0 d_Md_hasVigil_22 rfl rfl ?_
        refine m_iload_n C hl 2 d_Md_hasVigil_23 rfl rfl ?_
        obtain ⟨x4, e3, hM⟩ := bnd_some hM
        refine aftR (runV C hP va_S.rf kc_Md sh_83 (Nat.le_of_ble_eq_true rfl) (c_Md_vigilOf hI e3) lk_Md_119 mb_Md_vigilOf rfl ⟨Nat.le_of_ble_eq_true rfl, Nat.le_of_ble_eq_true rfl⟩ ⟨Nat.zero_le _, Nat.zero_le _⟩ (Nat.le_of_ble_eq_true rfl) d_Md_hasVigil_24 hl.1 (rest := []) rfl) ?_
        refine m_iload_n C hl 1 d_Md_hasVigil_27 rfl rfl ?_
        refine m_icmp_ne C hM 33 d_Md_hasVigil_28 (by decide) (fun hM => ?_) (fun hM => ?_)
        · refine m_iinc C hl 2 [(2, .int (iZ (v2 + 1))), (0, .ref (ad 83)), (1, .int (iZ v1))] d_Md_hasVigil_33 rfl (by decide) rfl (fun ls hl => ?_)
          refine m_goto C 2 d_Md_hasVigil_36 (by decide) ?_
          exact ih (v2 + 1) _ (lv_sub hl [1, 2, 0] rfl) hM
        · refine m_iconst C d_Md_hasVigil_31 ?_
          exact m_zretR C hr hlk hM d_Md_hasVigil_32
set_option maxHeartbeats 4000000 in
set_option maxRecDepth 100000 in
theorem c_Md_hasVigil {l : Launch} {D : va_G} {ad : Nat → Nat} {cA : Nat → ClassId} {sd sv : Nat → Nat} {h : Hp} {N : Nat} {a1 : Int} {out : Int} (hI : Inj97 ad) (hM : M_Md_hasVigil N h a1 = some out) : Met l y_Md_hasVigil (.code y_Md_hasVigil prog_13_method_35_code 3 (some .boolean) :: TT) (rmD 2) (PC D ad cA sd sv h [.ref (ad 83), .int (iZ a1)]) (QR out) 0 0 (fun _ => False) := by
  unfold M_Md_hasVigil at hM
  refine entM (by decide +kernel) hI (Nat.le_of_ble_eq_true rfl) ?_
  intro p e s m args below meth c C hr hlk hP ls hl
  have C : Cx p s m args c prog_13_method_35_code 3 "FeastBookModel" D ad cA sd sv (FA ad) := C
  have hl : lv_has ls 3 [(0, .ref (ad 83)), (1, .int (iZ a1))] := hl
  refine m_iconst C d_Md_hasVigil_0 ?_
  refine m_istore_n C hl [(2, .int (iZ 0)), (0, .ref (ad 83)), (1, .int (iZ a1))] d_Md_hasVigil_1 rfl (by decide) rfl (fun ls hl => ?_)
  exact w_Md_hasVigil_L2 N hI C hr hlk a1 h hP _ 0 _ (lv_sub hl [1, 2, 0] rfl) hM
def y_Md_isFast : MethodName := ⟨"FeastBookModel", "isFast", "(I)Z"⟩
theorem d_Md_isFast_0 : decode prog_13_method_36_code 0 = .ok (.aload_n 0, 1) := by decide +kernel
theorem d_Md_isFast_1 : decode prog_13_method_36_code 1 = .ok (.getfield 38, 3) := by decide +kernel
theorem d_Md_isFast_4 : decode prog_13_method_36_code 4 = .ok (.iload_n 1, 1) := by decide +kernel
theorem d_Md_isFast_5 : decode prog_13_method_36_code 5 = .ok (.iaload, 1) := by decide +kernel
theorem d_Md_isFast_6 : decode prog_13_method_36_code 6 = .ok (.iconst (-1), 1) := by decide +kernel
theorem d_Md_isFast_7 : decode prog_13_method_36_code 7 = .ok (.if_icmp .eq 26, 3) := by decide +kernel
theorem d_Md_isFast_10 : decode prog_13_method_36_code 10 = .ok (.aload_n 0, 1) := by decide +kernel
theorem d_Md_isFast_11 : decode prog_13_method_36_code 11 = .ok (.aload_n 0, 1) := by decide +kernel
theorem d_Md_isFast_12 : decode prog_13_method_36_code 12 = .ok (.getfield 38, 3) := by decide +kernel
theorem d_Md_isFast_15 : decode prog_13_method_36_code 15 = .ok (.iload_n 1, 1) := by decide +kernel
theorem d_Md_isFast_16 : decode prog_13_method_36_code 16 = .ok (.iaload, 1) := by decide +kernel
theorem d_Md_isFast_17 : decode prog_13_method_36_code 17 = .ok (.iconst 0, 1) := by decide +kernel
theorem d_Md_isFast_18 : decode prog_13_method_36_code 18 = .ok (.invokevirtual 90, 3) := by decide +kernel
theorem d_Md_isFast_21 : decode prog_13_method_36_code 21 = .ok (.aload_n 0, 1) := by decide +kernel
theorem d_Md_isFast_22 : decode prog_13_method_36_code 22 = .ok (.getfield 7, 3) := by decide +kernel
theorem d_Md_isFast_25 : decode prog_13_method_36_code 25 = .ok (.bipush 18, 2) := by decide +kernel
theorem d_Md_isFast_27 : decode prog_13_method_36_code 27 = .ok (.iaload, 1) := by decide +kernel
theorem d_Md_isFast_28 : decode prog_13_method_36_code 28 = .ok (.if_icmp .lt 5, 3) := by decide +kernel
theorem d_Md_isFast_31 : decode prog_13_method_36_code 31 = .ok (.iconst 0, 1) := by decide +kernel
theorem d_Md_isFast_32 : decode prog_13_method_36_code 32 = .ok (.ireturn, 1) := by decide +kernel
theorem d_Md_isFast_33 : decode prog_13_method_36_code 33 = .ok (.aload_n 0, 1) := by decide +kernel
theorem d_Md_isFast_34 : decode prog_13_method_36_code 34 = .ok (.getfield 84, 3) := by decide +kernel
theorem d_Md_isFast_37 : decode prog_13_method_36_code 37 = .ok (.iload_n 1, 1) := by decide +kernel
theorem d_Md_isFast_38 : decode prog_13_method_36_code 38 = .ok (.iadd, 1) := by decide +kernel
theorem d_Md_isFast_39 : decode prog_13_method_36_code 39 = .ok (.aload_n 0, 1) := by decide +kernel
theorem d_Md_isFast_40 : decode prog_13_method_36_code 40 = .ok (.getfield 7, 3) := by decide +kernel
theorem d_Md_isFast_43 : decode prog_13_method_36_code 43 = .ok (.iconst 0, 1) := by decide +kernel
theorem d_Md_isFast_44 : decode prog_13_method_36_code 44 = .ok (.iaload, 1) := by decide +kernel
theorem d_Md_isFast_45 : decode prog_13_method_36_code 45 = .ok (.irem, 1) := by decide +kernel
theorem d_Md_isFast_46 : decode prog_13_method_36_code 46 = .ok (.istore_n 2, 1) := by decide +kernel
theorem d_Md_isFast_47 : decode prog_13_method_36_code 47 = .ok (.iload_n 2, 1) := by decide +kernel
theorem d_Md_isFast_48 : decode prog_13_method_36_code 48 = .ok (.ifCond .eq 18, 3) := by decide +kernel
theorem d_Md_isFast_51 : decode prog_13_method_36_code 51 = .ok (.aload_n 0, 1) := by decide +kernel
theorem d_Md_isFast_52 : decode prog_13_method_36_code 52 = .ok (.getfield 7, 3) := by decide +kernel
theorem d_Md_isFast_55 : decode prog_13_method_36_code 55 = .ok (.bipush 17, 2) := by decide +kernel
theorem d_Md_isFast_57 : decode prog_13_method_36_code 57 = .ok (.iaload, 1) := by decide +kernel
theorem d_Md_isFast_58 : decode prog_13_method_36_code 58 = .ok (.iload_n 2, 1) := by decide +kernel
theorem d_Md_isFast_59 : decode prog_13_method_36_code 59 = .ok (.ishr, 1) := by decide +kernel
theorem d_Md_isFast_60 : decode prog_13_method_36_code 60 = .ok (.iconst 1, 1) := by decide +kernel
theorem d_Md_isFast_61 : decode prog_13_method_36_code 61 = .ok (.iand, 1) := by decide +kernel
theorem d_Md_isFast_62 : decode prog_13_method_36_code 62 = .ok (.iconst 1, 1) := by decide +kernel
theorem d_Md_isFast_63 : decode prog_13_method_36_code 63 = .ok (.if_icmp .eq 11, 3) := by decide +kernel
theorem d_Md_isFast_66 : decode prog_13_method_36_code 66 = .ok (.aload_n 0, 1) := by decide +kernel
theorem d_Md_isFast_67 : decode prog_13_method_36_code 67 = .ok (.iload_n 1, 1) := by decide +kernel
theorem d_Md_isFast_68 : decode prog_13_method_36_code 68 = .ok (.invokevirtual 157, 3) := by decide +kernel
theorem d_Md_isFast_71 : decode prog_13_method_36_code 71 = .ok (.ifCond .eq 7, 3) := by decide +kernel
theorem d_Md_isFast_74 : decode prog_13_method_36_code 74 = .ok (.iconst 1, 1) := by decide +kernel
theorem d_Md_isFast_75 : decode prog_13_method_36_code 75 = .ok (.goto 4, 3) := by decide +kernel
theorem d_Md_isFast_78 : decode prog_13_method_36_code 78 = .ok (.iconst 0, 1) := by decide +kernel
theorem d_Md_isFast_79 : decode prog_13_method_36_code 79 = .ok (.ireturn, 1) := by decide +kernel
theorem mb_Md_hasVigil : MBv R_Md y_Md_hasVigil prog_13_method_35_code 3 (some .boolean) 1 := ⟨mT9 168 (by decide +kernel) (by decide +kernel), mTs 59 (by decide +kernel) (by decide +kernel), mT1 10 (by decide +kernel) (by decide +kernel), mT9 169 (by decide +kernel) (by decide +kernel), by decide, rfl, by decide +kernel, by decide +kernel, by decide +kernel⟩
theorem lk_Md_157 : Cond.methodLink "FeastBookModel" 157 y_Md_hasVigil ∈ TT := mT9 166 (by decide +kernel) (by decide +kernel)
set_option maxHeartbeats 4000000 in
set_option maxRecDepth 100000 in
theorem c_Md_isFast {l : Launch} {D : va_G} {ad : Nat → Nat} {cA : Nat → ClassId} {sd sv : Nat → Nat} {h : Hp} {N : Nat} {a1 : Int} {out : Int} (hI : Inj97 ad) (hM : M_Md_isFast N h a1 = some out) : Met l y_Md_isFast (.code y_Md_isFast prog_13_method_36_code 3 (some .boolean) :: TT) (rmD 3) (PC D ad cA sd sv h [.ref (ad 83), .int (iZ a1)]) (QR out) 0 0 (fun _ => False) := by
  unfold M_Md_isFast at hM
  refine entM (by decide +kernel) hI (Nat.le_of_ble_eq_true rfl) ?_
  intro p e s m args below meth c C hr hlk hP ls hl
  have C : Cx p s m args c prog_13_method_36_code 3 "FeastBookModel" D ad cA sd sv (FA ad) := C
  have hl : lv_has ls 3 [(0, .ref (ad 83)), (1, .int (iZ a1))] := hl
  refine m_aload_n C hl 0 d_Md_isFast_0 rfl rfl ?_
  refine m_getr C hP kc_Md sh_83 (Nat.le_of_ble_eq_true rfl) 19 92 rfl (by decide) fk_Md_38 d_Md_isFast_1 ?_
  refine m_iload_n C hl 1 d_Md_isFast_4 rfl rfl ?_
  refine m_iald C hP sh_92 (Nat.le_of_ble_eq_true rfl) (Nat.le_of_ble_eq_true rfl) hM d_Md_isFast_5 (fun x1 hM => ?_)
  refine m_iconst C d_Md_isFast_6 ?_
  refine lt_join hM (fun j6 ej hM => ?_)
  have hJ6 : j6  = some out → ∀ ls : Array Slot, lv_has ls 3 [(0, .ref (ad 83)), (1, .int (iZ a1))] → W p l e (rmD 3) s m args below meth c s.heap [] 0 0 (MQ below (QR out) args s 0 0 (fun _ => False)) (F0 m 33 ls []) := by
    intro  hM ls hl
    subst ej
    skip
    refine m_aload_n C hl 0 d_Md_isFast_33 rfl rfl ?_
    refine m_geti C hP kc_Md sh_83 (Nat.le_of_ble_eq_true rfl) 14 rfl (by decide) fk_Md_84 d_Md_isFast_34 ?_
    refine m_iload_n C hl 1 d_Md_isFast_37 rfl rfl ?_
    refine m_iadd C d_Md_isFast_38 ?_
    refine m_aload_n C hl 0 d_Md_isFast_39 rfl rfl ?_
    refine m_getr C hP kc_Md sh_83 (Nat.le_of_ble_eq_true rfl) 1 84 rfl (by decide) fk_Md_7 d_Md_isFast_40 ?_
    refine m_iconst C d_Md_isFast_43 ?_
    refine m_iald C hP sh_84 (Nat.le_of_ble_eq_true rfl) (Nat.le_of_ble_eq_true rfl) hM d_Md_isFast_44 (fun x7 hM => ?_)
    refine m_irem C hM d_Md_isFast_45 (fun x8 hM => ?_)
    refine m_istore_n C hl [(2, .int (iZ x8)), (0, .ref (ad 83)), (1, .int (iZ a1))] d_Md_isFast_46 rfl (by decide) rfl (fun ls hl => ?_)
    refine m_iload_n C hl 0 d_Md_isFast_47 rfl rfl ?_
    refine m_if_eq C hM 66 d_Md_isFast_48 (by decide) (fun hM => ?_) (fun hM => ?_)
    · refine m_aload_n C hl 1 d_Md_isFast_66 rfl rfl ?_
      refine m_iload_n C hl 2 d_Md_isFast_67 rfl rfl ?_
      obtain ⟨x10, e9, hM⟩ := bnd_some hM
      refine aftR (runV C hP va_S.rf kc_Md sh_83 (Nat.le_of_ble_eq_true rfl) (c_Md_hasVigil hI e9) lk_Md_157 mb_Md_hasVigil rfl ⟨Nat.le_of_ble_eq_true rfl, Nat.le_of_ble_eq_true rfl⟩ ⟨Nat.zero_le _, Nat.zero_le _⟩ (Nat.le_of_ble_eq_true rfl) d_Md_isFast_68 hl.1 (rest := []) rfl) ?_
      refine m_if_eq C hM 78 d_Md_isFast_71 (by decide) (fun hM => ?_) (fun hM => ?_)
      · refine m_iconst C d_Md_isFast_78 ?_
        exact m_zretR C hr hlk hM d_Md_isFast_79
      · refine m_iconst C d_Md_isFast_74 ?_
        refine m_goto C 79 d_Md_isFast_75 (by decide) ?_
        exact m_zretR C hr hlk hM d_Md_isFast_79
    · refine m_aload_n C hl 1 d_Md_isFast_51 rfl rfl ?_
      refine m_getr C hP kc_Md sh_83 (Nat.le_of_ble_eq_true rfl) 1 84 rfl (by decide) fk_Md_7 d_Md_isFast_52 ?_
      refine m_bipush C d_Md_isFast_55 (by decide) ?_
      refine m_iald C hP sh_84 (Nat.le_of_ble_eq_true rfl) (Nat.le_of_ble_eq_true rfl) hM d_Md_isFast_57 (fun x11 hM => ?_)
      refine m_iload_n C hl 0 d_Md_isFast_58 rfl rfl ?_
      refine m_ishr C d_Md_isFast_59 ?_
      refine m_iconst C d_Md_isFast_60 ?_
      refine m_iand C d_Md_isFast_61 ?_
      refine m_iconst C d_Md_isFast_62 ?_
      refine m_icmp_eq C hM 74 d_Md_isFast_63 (by decide) (fun hM => ?_) (fun hM => ?_)
      · refine m_iconst C d_Md_isFast_74 ?_
        refine m_goto C 79 d_Md_isFast_75 (by decide) ?_
        exact m_zretR C hr hlk hM d_Md_isFast_79
      · refine m_aload_n C hl 1 d_Md_isFast_66 rfl rfl ?_
        refine m_iload_n C hl 2 d_Md_isFast_67 rfl rfl ?_
        obtain ⟨x13, e12, hM⟩ := bnd_some hM
        refine aftR (runV C hP va_S.rf kc_Md sh_83 (Nat.le_of_ble_eq_true rfl) (c_Md_hasVigil hI e12) lk_Md_157 mb_Md_hasVigil rfl ⟨Nat.le_of_ble_eq_true rfl, Nat.le_of_ble_eq_true rfl⟩ ⟨Nat.zero_le _, Nat.zero_le _⟩ (Nat.le_of_ble_eq_true rfl) d_Md_isFast_68 hl.1 (rest := []) rfl) ?_
        refine m_if_eq C hM 78 d_Md_isFast_71 (by decide) (fun hM => ?_) (fun hM => ?_)
        · refine m_iconst C d_Md_isFast_78 ?_
          exact m_zretR C hr hlk hM d_Md_isFast_79
        · refine m_iconst C d_Md_isFast_74 ?_
          refine m_goto C 79 d_Md_isFast_75 (by decide) ?_
          exact m_zretR C hr hlk hM d_Md_isFast_79
  refine m_icmp_eq C hM 33 d_Md_isFast_7 (by decide) (fun hM => ?_) (fun hM => ?_)
  · exact hJ6  hM _ hl
  · refine m_aload_n C hl 0 d_Md_isFast_10 rfl rfl ?_
    refine m_aload_n C hl 0 d_Md_isFast_11 rfl rfl ?_
    refine m_getr C hP kc_Md sh_83 (Nat.le_of_ble_eq_true rfl) 19 92 rfl (by decide) fk_Md_38 d_Md_isFast_12 ?_
    refine m_iload_n C hl 1 d_Md_isFast_15 rfl rfl ?_
    refine m_iald C hP sh_92 (Nat.le_of_ble_eq_true rfl) (Nat.le_of_ble_eq_true rfl) hM d_Md_isFast_16 (fun x14 hM => ?_)
    refine m_iconst C d_Md_isFast_17 ?_
    obtain ⟨x16, e15, hM⟩ := bnd_some hM
    refine aftR (runV C hP va_S.rf kc_Md sh_83 (Nat.le_of_ble_eq_true rfl) (c_Md_of0 hI e15) lk_Md_90 mb_Md_of0 rfl ⟨Nat.le_of_ble_eq_true rfl, Nat.le_of_ble_eq_true rfl⟩ ⟨Nat.zero_le _, Nat.zero_le _⟩ (Nat.le_of_ble_eq_true rfl) d_Md_isFast_18 hl.1 (rest := []) rfl) ?_
    refine m_aload_n C hl 0 d_Md_isFast_21 rfl rfl ?_
    refine m_getr C hP kc_Md sh_83 (Nat.le_of_ble_eq_true rfl) 1 84 rfl (by decide) fk_Md_7 d_Md_isFast_22 ?_
    refine m_bipush C d_Md_isFast_25 (by decide) ?_
    refine m_iald C hP sh_84 (Nat.le_of_ble_eq_true rfl) (Nat.le_of_ble_eq_true rfl) hM d_Md_isFast_27 (fun x17 hM => ?_)
    refine m_icmp_lt C hM 33 d_Md_isFast_28 (by decide) (fun hM => ?_) (fun hM => ?_)
    · exact hJ6  hM _ hl
    · refine m_iconst C d_Md_isFast_31 ?_
      exact m_zretR C hr hlk hM d_Md_isFast_32
def y_Md_run : MethodName := ⟨"FeastBookModel", "run", "(Z)I"⟩
theorem d_Md_run_0 : decode prog_13_method_58_code 0 = .ok (.iconst 0, 1) := by decide +kernel
theorem d_Md_run_1 : decode prog_13_method_58_code 1 = .ok (.istore_n 2, 1) := by decide +kernel
theorem d_Md_run_2 : decode prog_13_method_58_code 2 = .ok (.iconst 0, 1) := by decide +kernel
theorem d_Md_run_3 : decode prog_13_method_58_code 3 = .ok (.istore_n 3, 1) := by decide +kernel
theorem d_Md_run_4 : decode prog_13_method_58_code 4 = .ok (.iconst 0, 1) := by decide +kernel
theorem d_Md_run_5 : decode prog_13_method_58_code 5 = .ok (.istore 4, 2) := by decide +kernel
theorem d_Md_run_7 : decode prog_13_method_58_code 7 = .ok (.iload 4, 2) := by decide +kernel
theorem d_Md_run_9 : decode prog_13_method_58_code 9 = .ok (.aload_n 0, 1) := by decide +kernel
theorem d_Md_run_10 : decode prog_13_method_58_code 10 = .ok (.getfield 122, 3) := by decide +kernel
theorem d_Md_run_13 : decode prog_13_method_58_code 13 = .ok (.if_icmp .ge 50, 3) := by decide +kernel
theorem d_Md_run_16 : decode prog_13_method_58_code 16 = .ok (.iload_n 1, 1) := by decide +kernel
theorem d_Md_run_17 : decode prog_13_method_58_code 17 = .ok (.ifCond .eq 12, 3) := by decide +kernel
theorem d_Md_run_20 : decode prog_13_method_58_code 20 = .ok (.aload_n 0, 1) := by decide +kernel
theorem d_Md_run_21 : decode prog_13_method_58_code 21 = .ok (.iload 4, 2) := by decide +kernel
theorem d_Md_run_23 : decode prog_13_method_58_code 23 = .ok (.invokevirtual 274, 3) := by decide +kernel
theorem d_Md_run_26 : decode prog_13_method_58_code 26 = .ok (.goto 9, 3) := by decide +kernel
theorem d_Md_run_29 : decode prog_13_method_58_code 29 = .ok (.aload_n 0, 1) := by decide +kernel
theorem d_Md_run_30 : decode prog_13_method_58_code 30 = .ok (.iload 4, 2) := by decide +kernel
theorem d_Md_run_32 : decode prog_13_method_58_code 32 = .ok (.invokevirtual 271, 3) := by decide +kernel
theorem d_Md_run_35 : decode prog_13_method_58_code 35 = .ok (.istore 5, 2) := by decide +kernel
theorem d_Md_run_37 : decode prog_13_method_58_code 37 = .ok (.iload 5, 2) := by decide +kernel
theorem d_Md_run_39 : decode prog_13_method_58_code 39 = .ok (.ifCond .eq 9, 3) := by decide +kernel
theorem d_Md_run_42 : decode prog_13_method_58_code 42 = .ok (.iload_n 3, 1) := by decide +kernel
theorem d_Md_run_43 : decode prog_13_method_58_code 43 = .ok (.iconst 1, 1) := by decide +kernel
theorem d_Md_run_44 : decode prog_13_method_58_code 44 = .ok (.iadd, 1) := by decide +kernel
theorem d_Md_run_45 : decode prog_13_method_58_code 45 = .ok (.goto 4, 3) := by decide +kernel
theorem d_Md_run_48 : decode prog_13_method_58_code 48 = .ok (.iconst 0, 1) := by decide +kernel
theorem d_Md_run_49 : decode prog_13_method_58_code 49 = .ok (.istore_n 3, 1) := by decide +kernel
theorem d_Md_run_50 : decode prog_13_method_58_code 50 = .ok (.iload_n 3, 1) := by decide +kernel
theorem d_Md_run_51 : decode prog_13_method_58_code 51 = .ok (.iload_n 2, 1) := by decide +kernel
theorem d_Md_run_52 : decode prog_13_method_58_code 52 = .ok (.if_icmp .le 5, 3) := by decide +kernel
theorem d_Md_run_55 : decode prog_13_method_58_code 55 = .ok (.iload_n 3, 1) := by decide +kernel
theorem d_Md_run_56 : decode prog_13_method_58_code 56 = .ok (.istore_n 2, 1) := by decide +kernel
theorem d_Md_run_57 : decode prog_13_method_58_code 57 = .ok (.iinc 4 1, 3) := by decide +kernel
theorem d_Md_run_60 : decode prog_13_method_58_code 60 = .ok (.goto (-53), 3) := by decide +kernel
theorem d_Md_run_63 : decode prog_13_method_58_code 63 = .ok (.iload_n 2, 1) := by decide +kernel
theorem d_Md_run_64 : decode prog_13_method_58_code 64 = .ok (.ireturn, 1) := by decide +kernel
theorem mb_Md_isFast : MBv R_Md y_Md_isFast prog_13_method_36_code 3 (some .boolean) 1 := ⟨mT9 164 (by decide +kernel) (by decide +kernel), mTs 58 (by decide +kernel) (by decide +kernel), mT1 10 (by decide +kernel) (by decide +kernel), mT9 165 (by decide +kernel) (by decide +kernel), by decide, rfl, by decide +kernel, by decide +kernel, by decide +kernel⟩
theorem lk_Md_274 : Cond.methodLink "FeastBookModel" 274 y_Md_isFast ∈ TT := mT9 162 (by decide +kernel) (by decide +kernel)
set_option maxHeartbeats 4000000 in
set_option maxRecDepth 100000 in
theorem w_Md_run_L7 {p : Program} {l : Launch} {e : Env} {s : State} {m : MethodId} {args : Array Value} {below : List Frame} {meth : Method} {c : Code} {D : va_G} {ad : Nat → Nat} {cA : Nat → ClassId} {sd sv : Nat → Nat} {out : (Int × Hp)} (N : Nat) (hI : Inj97 ad) (C : Cx p s m args c prog_13_method_58_code 6 "FeastBookModel" D ad cA sd sv (FA ad)) (hr : meth.sig.returnType = (some .int)) (hlk : meth.locks = false) (v1 : Int) : ∀ (n : Nat) (v2 v3 v4 : Int) (h : Hp) (H : Heap) (locs : List Loc), Wd s D ad cA (FA ad) h H locs → ∀ ls : Array Slot, lv_has ls 6 [(0, .ref (ad 83)), (1, .int (iZ v1)), (2, .int (iZ v2)), (3, .int (iZ v3)), (4, .int (iZ v4))] → Md_run_L7 N v1 n v2 v3 v4 h = some out → W p l e (rmD 5) s m args below meth c H locs 0 0 (MQ below (QI D ad cA out) args s 0 0 (FA ad)) (F0 m 7 ls []) := by
  intro n
  induction n with
  | zero =>
    intro v2 v3 v4 h H locs w ls hl hM
    rw [Md_run_L7] at hM
    cases hM
  | succ n ih =>
    intro v2 v3 v4 h H locs w ls hl hM
    rw [Md_run_L7] at hM
    refine m_iload C hl 4 d_Md_run_7 rfl ?_
    refine m_aload_n C hl 0 d_Md_run_9 rfl rfl ?_
    refine m_geti C w.1 kc_Md sh_83 (Nat.le_of_ble_eq_true rfl) 13 rfl (by decide) fk_Md_122 d_Md_run_10 ?_
    refine m_icmp_ge C hM 63 d_Md_run_13 (by decide) (fun hM => ?_) (fun hM => ?_)
    · refine m_iload_n C hl 2 d_Md_run_63 rfl rfl ?_
      exact m_iretW C w hr hlk hM d_Md_run_64
    · refine m_iload_n C hl 1 d_Md_run_16 rfl rfl ?_
      refine lt_join hM (fun j5 ej hM => ?_)
      have hJ5 : ∀ (s0_5 : Int) (h_5 : Hp), j5 s0_5 h_5 = some out → ∀ (H : Heap) (locs : List Loc), Wd s D ad cA (FA ad) h_5 H locs → ∀ ls : Array Slot, lv_has ls 6 [(0, .ref (ad 83)), (1, .int (iZ v1)), (2, .int (iZ v2)), (3, .int (iZ v3)), (4, .int (iZ v4))] → W p l e (rmD 5) s m args below meth c H locs 0 0 (MQ below (QI D ad cA out) args s 0 0 (FA ad)) (F0 m 35 ls [.int (iZ s0_5)]) := by
        intro s0_5 h_5 hM H locs w ls hl
        subst ej
        dsimp only at hM
        refine m_istore C hl [(5, .int (iZ s0_5)), (0, .ref (ad 83)), (1, .int (iZ v1)), (2, .int (iZ v2)), (3, .int (iZ v3)), (4, .int (iZ v4))] d_Md_run_35 (by decide) rfl (fun ls hl => ?_)
        refine m_iload C hl 0 d_Md_run_37 rfl ?_
        refine m_if_eq C hM 48 d_Md_run_39 (by decide) (fun hM => ?_) (fun hM => ?_)
        · refine m_iconst C d_Md_run_48 ?_
          refine m_istore_n C hl [(3, .int (iZ 0)), (5, .int (iZ s0_5)), (0, .ref (ad 83)), (1, .int (iZ v1)), (2, .int (iZ v2)), (4, .int (iZ v4))] d_Md_run_49 rfl (by decide) rfl (fun ls hl => ?_)
          refine m_iload_n C hl 0 d_Md_run_50 rfl rfl ?_
          refine m_iload_n C hl 4 d_Md_run_51 rfl rfl ?_
          refine m_icmp_le C hM 57 d_Md_run_52 (by decide) (fun hM => ?_) (fun hM => ?_)
          · refine m_iinc C hl 5 [(4, .int (iZ (v4 + 1))), (3, .int (iZ 0)), (5, .int (iZ s0_5)), (0, .ref (ad 83)), (1, .int (iZ v1)), (2, .int (iZ v2))] d_Md_run_57 rfl (by decide) rfl (fun ls hl => ?_)
            refine m_goto C 7 d_Md_run_60 (by decide) ?_
            exact ih v2 0 (v4 + 1) h_5 _ _ w _ (lv_sub hl [3, 4, 5, 1, 0] rfl) hM
          · refine m_iload_n C hl 0 d_Md_run_55 rfl rfl ?_
            refine m_istore_n C hl [(2, .int (iZ 0)), (3, .int (iZ 0)), (5, .int (iZ s0_5)), (0, .ref (ad 83)), (1, .int (iZ v1)), (4, .int (iZ v4))] d_Md_run_56 rfl (by decide) rfl (fun ls hl => ?_)
            refine m_iinc C hl 5 [(4, .int (iZ (v4 + 1))), (2, .int (iZ 0)), (3, .int (iZ 0)), (5, .int (iZ s0_5)), (0, .ref (ad 83)), (1, .int (iZ v1))] d_Md_run_57 rfl (by decide) rfl (fun ls hl => ?_)
            refine m_goto C 7 d_Md_run_60 (by decide) ?_
            exact ih 0 0 (v4 + 1) h_5 _ _ w _ (lv_sub hl [4, 5, 1, 2, 0] rfl) hM
        · refine m_iload_n C hl 4 d_Md_run_42 rfl rfl ?_
          refine m_iconst C d_Md_run_43 ?_
          refine m_iadd C d_Md_run_44 ?_
          refine m_goto C 49 d_Md_run_45 (by decide) ?_
          refine m_istore_n C hl [(3, .int (iZ (v3 + 1))), (5, .int (iZ s0_5)), (0, .ref (ad 83)), (1, .int (iZ v1)), (2, .int (iZ v2)), (4, .int (iZ v4))] d_Md_run_49 rfl (by decide) rfl (fun ls hl => ?_)
          refine m_iload_n C hl 0 d_Md_run_50 rfl rfl ?_
          refine m_iload_n C hl 4 d_Md_run_51 rfl rfl ?_
          refine m_icmp_le C hM 57 d_Md_run_52 (by decide) (fun hM => ?_) (fun hM => ?_)
          · refine m_iinc C hl 5 [(4, .int (iZ (v4 + 1))), (3, .int (iZ (v3 + 1))), (5, .int (iZ s0_5)), (0, .ref (ad 83)), (1, .int (iZ v1)), (2, .int (iZ v2))] d_Md_run_57 rfl (by decide) rfl (fun ls hl => ?_)
            refine m_goto C 7 d_Md_run_60 (by decide) ?_
            exact ih v2 (v3 + 1) (v4 + 1) h_5 _ _ w _ (lv_sub hl [3, 4, 5, 1, 0] rfl) hM
          · refine m_iload_n C hl 0 d_Md_run_55 rfl rfl ?_
            refine m_istore_n C hl [(2, .int (iZ (v3 + 1))), (3, .int (iZ (v3 + 1))), (5, .int (iZ s0_5)), (0, .ref (ad 83)), (1, .int (iZ v1)), (4, .int (iZ v4))] d_Md_run_56 rfl (by decide) rfl (fun ls hl => ?_)
            refine m_iinc C hl 5 [(4, .int (iZ (v4 + 1))), (2, .int (iZ (v3 + 1))), (3, .int (iZ (v3 + 1))), (5, .int (iZ s0_5)), (0, .ref (ad 83)), (1, .int (iZ v1))] d_Md_run_57 rfl (by decide) rfl (fun ls hl => ?_)
            refine m_goto C 7 d_Md_run_60 (by decide) ?_
            exact ih (v3 + 1) (v3 + 1) (v4 + 1) h_5 _ _ w _ (lv_sub hl [4, 5, 1, 2, 0] rfl) hM
      refine m_if_eq C hM 29 d_Md_run_17 (by decide) (fun hM => ?_) (fun hM => ?_)
      · refine m_aload_n C hl 0 d_Md_run_29 rfl rfl ?_
        refine m_iload C hl 4 d_Md_run_30 rfl ?_
        obtain ⟨q7, e6, hM⟩ := bnd_some hM
        refine aftI C w (runV C w.1 w.2 kc_Md sh_83 (Nat.le_of_ble_eq_true rfl) (c_Md_isPlain hI e6) lk_Md_271 mb_Md_isPlain rfl ⟨Nat.le_of_ble_eq_true rfl, Nat.le_of_ble_eq_true rfl⟩ ⟨Nat.zero_le _, Nat.zero_le _⟩ (Nat.le_of_ble_eq_true rfl) d_Md_run_32 hl.1 (rest := []) rfl) (fun H locs w => ?_)
        exact hJ5 q7.1 q7.2 hM _ _ w _ hl
      · refine m_aload_n C hl 0 d_Md_run_20 rfl rfl ?_
        refine m_iload C hl 4 d_Md_run_21 rfl ?_
        obtain ⟨x9, e8, hM⟩ := bnd_some hM
        refine aftR (runV C w.1 w.2 kc_Md sh_83 (Nat.le_of_ble_eq_true rfl) (c_Md_isFast hI e8) lk_Md_274 mb_Md_isFast rfl ⟨Nat.le_of_ble_eq_true rfl, Nat.le_of_ble_eq_true rfl⟩ ⟨Nat.zero_le _, Nat.zero_le _⟩ (Nat.le_of_ble_eq_true rfl) d_Md_run_23 hl.1 (rest := []) rfl) ?_
        refine m_goto C 35 d_Md_run_26 (by decide) ?_
        exact hJ5 x9 h hM _ _ w _ hl
set_option maxHeartbeats 4000000 in
set_option maxRecDepth 100000 in
theorem c_Md_run {l : Launch} {D : va_G} {ad : Nat → Nat} {cA : Nat → ClassId} {sd sv : Nat → Nat} {h : Hp} {N : Nat} {a1 : Int} {out : (Int × Hp)} (hI : Inj97 ad) (hM : M_Md_run N h a1 = some out) : Met l y_Md_run (.code y_Md_run prog_13_method_58_code 6 (some .int) :: TT) (rmD 5) (PC D ad cA sd sv h [.ref (ad 83), .int (iZ a1)]) (QI D ad cA out) 0 0 (FA ad) := by
  unfold M_Md_run at hM
  refine entM (by decide +kernel) hI (Nat.le_of_ble_eq_true rfl) ?_
  intro p e s m args below meth c C hr hlk hP ls hl
  have C : Cx p s m args c prog_13_method_58_code 6 "FeastBookModel" D ad cA sd sv (FA ad) := C
  have hl : lv_has ls 6 [(0, .ref (ad 83)), (1, .int (iZ a1))] := hl
  have w : Wd s D ad cA (FA ad) h s.heap [] := ⟨hP, va_S.rf⟩
  refine m_iconst C d_Md_run_0 ?_
  refine m_istore_n C hl [(2, .int (iZ 0)), (0, .ref (ad 83)), (1, .int (iZ a1))] d_Md_run_1 rfl (by decide) rfl (fun ls hl => ?_)
  refine m_iconst C d_Md_run_2 ?_
  refine m_istore_n C hl [(3, .int (iZ 0)), (2, .int (iZ 0)), (0, .ref (ad 83)), (1, .int (iZ a1))] d_Md_run_3 rfl (by decide) rfl (fun ls hl => ?_)
  refine m_iconst C d_Md_run_4 ?_
  refine m_istore C hl [(4, .int (iZ 0)), (3, .int (iZ 0)), (2, .int (iZ 0)), (0, .ref (ad 83)), (1, .int (iZ a1))] d_Md_run_5 (by decide) rfl (fun ls hl => ?_)
  exact w_Md_run_L7 N hI C hr hlk a1 _ 0 0 0 h _ _ w _ (lv_sub hl [3, 4, 2, 1, 0] rfl) hM
def y_Md_fastDays : MethodName := ⟨"FeastBookModel", "fastDays", "()I"⟩
theorem d_Md_fastDays_0 : decode prog_13_method_59_code 0 = .ok (.iconst 0, 1) := by decide +kernel
theorem d_Md_fastDays_1 : decode prog_13_method_59_code 1 = .ok (.istore_n 1, 1) := by decide +kernel
theorem d_Md_fastDays_2 : decode prog_13_method_59_code 2 = .ok (.iconst 0, 1) := by decide +kernel
theorem d_Md_fastDays_3 : decode prog_13_method_59_code 3 = .ok (.istore_n 2, 1) := by decide +kernel
theorem d_Md_fastDays_4 : decode prog_13_method_59_code 4 = .ok (.iload_n 2, 1) := by decide +kernel
theorem d_Md_fastDays_5 : decode prog_13_method_59_code 5 = .ok (.aload_n 0, 1) := by decide +kernel
theorem d_Md_fastDays_6 : decode prog_13_method_59_code 6 = .ok (.getfield 122, 3) := by decide +kernel
theorem d_Md_fastDays_9 : decode prog_13_method_59_code 9 = .ok (.if_icmp .ge 25, 3) := by decide +kernel
theorem d_Md_fastDays_12 : decode prog_13_method_59_code 12 = .ok (.iload_n 1, 1) := by decide +kernel
theorem d_Md_fastDays_13 : decode prog_13_method_59_code 13 = .ok (.aload_n 0, 1) := by decide +kernel
theorem d_Md_fastDays_14 : decode prog_13_method_59_code 14 = .ok (.iload_n 2, 1) := by decide +kernel
theorem d_Md_fastDays_15 : decode prog_13_method_59_code 15 = .ok (.invokevirtual 274, 3) := by decide +kernel
theorem d_Md_fastDays_18 : decode prog_13_method_59_code 18 = .ok (.ifCond .eq 7, 3) := by decide +kernel
theorem d_Md_fastDays_21 : decode prog_13_method_59_code 21 = .ok (.iconst 1, 1) := by decide +kernel
theorem d_Md_fastDays_22 : decode prog_13_method_59_code 22 = .ok (.goto 4, 3) := by decide +kernel
theorem d_Md_fastDays_25 : decode prog_13_method_59_code 25 = .ok (.iconst 0, 1) := by decide +kernel
theorem d_Md_fastDays_26 : decode prog_13_method_59_code 26 = .ok (.iadd, 1) := by decide +kernel
theorem d_Md_fastDays_27 : decode prog_13_method_59_code 27 = .ok (.istore_n 1, 1) := by decide +kernel
theorem d_Md_fastDays_28 : decode prog_13_method_59_code 28 = .ok (.iinc 2 1, 3) := by decide +kernel
theorem d_Md_fastDays_31 : decode prog_13_method_59_code 31 = .ok (.goto (-27), 3) := by decide +kernel
theorem d_Md_fastDays_34 : decode prog_13_method_59_code 34 = .ok (.iload_n 1, 1) := by decide +kernel
theorem d_Md_fastDays_35 : decode prog_13_method_59_code 35 = .ok (.ireturn, 1) := by decide +kernel
set_option maxHeartbeats 4000000 in
set_option maxRecDepth 100000 in
theorem w_Md_fastDays_L4 {p : Program} {l : Launch} {e : Env} {s : State} {m : MethodId} {args : Array Value} {below : List Frame} {meth : Method} {c : Code} {D : va_G} {ad : Nat → Nat} {cA : Nat → ClassId} {sd sv : Nat → Nat} {out : Int} (N : Nat) (hI : Inj97 ad) (C : Cx p s m args c prog_13_method_59_code 3 "FeastBookModel" D ad cA sd sv (FA ad)) (hr : meth.sig.returnType = (some .int)) (hlk : meth.locks = false) (h : Hp) (hP : va_P D clL (wl ad cA h) s.heap) : ∀ (n : Nat) (v1 v2 : Int), ∀ ls : Array Slot, lv_has ls 3 [(0, .ref (ad 83)), (1, .int (iZ v1)), (2, .int (iZ v2))] → Md_fastDays_L4 N h n v1 v2 = some out → W p l e (rmD 4) s m args below meth c s.heap [] 0 0 (MQ below (QR out) args s 0 0 (fun _ => False)) (F0 m 4 ls []) := by
  intro n
  induction n with
  | zero =>
    intro v1 v2 ls hl hM
    rw [Md_fastDays_L4] at hM
    cases hM
  | succ n ih =>
    intro v1 v2 ls hl hM
    rw [Md_fastDays_L4] at hM
    refine m_iload_n C hl 2 d_Md_fastDays_4 rfl rfl ?_
    refine m_aload_n C hl 0 d_Md_fastDays_5 rfl rfl ?_
    refine m_geti C hP kc_Md sh_83 (Nat.le_of_ble_eq_true rfl) 13 rfl (by decide) fk_Md_122 d_Md_fastDays_6 ?_
    refine m_icmp_ge C hM 34 d_Md_fastDays_9 (by decide) (fun hM => ?_) (fun hM => ?_)
    · refine m_iload_n C hl 1 d_Md_fastDays_34 rfl rfl ?_
      exact m_iretR C hr hlk hM d_Md_fastDays_35
    · refine m_iload_n C hl 1 d_Md_fastDays_12 rfl rfl ?_
      refine m_aload_n C hl 0 d_Md_fastDays_13 rfl rfl ?_
      refine m_iload_n C hl 2 d_Md_fastDays_14 rfl rfl ?_
      obtain ⟨x2, e1, hM⟩ := bnd_some hM
      refine aftR (runV C hP va_S.rf kc_Md sh_83 (Nat.le_of_ble_eq_true rfl) (c_Md_isFast hI e1) lk_Md_274 mb_Md_isFast rfl ⟨Nat.le_of_ble_eq_true rfl, Nat.le_of_ble_eq_true rfl⟩ ⟨Nat.zero_le _, Nat.zero_le _⟩ (Nat.le_of_ble_eq_true rfl) d_Md_fastDays_15 hl.1 (rest := [.int (iZ v1)]) rfl) ?_
      refine m_if_eq C hM 25 d_Md_fastDays_18 (by decide) (fun hM => ?_) (fun hM => ?_)
      · refine m_iconst C d_Md_fastDays_25 ?_
        refine m_iadd C d_Md_fastDays_26 ?_
        refine m_istore_n C hl [(1, .int (iZ (v1 + 0))), (0, .ref (ad 83)), (2, .int (iZ v2))] d_Md_fastDays_27 rfl (by decide) rfl (fun ls hl => ?_)
        refine m_iinc C hl 2 [(2, .int (iZ (v2 + 1))), (1, .int (iZ (v1 + 0))), (0, .ref (ad 83))] d_Md_fastDays_28 rfl (by decide) rfl (fun ls hl => ?_)
        refine m_goto C 4 d_Md_fastDays_31 (by decide) ?_
        exact ih (v1 + 0) (v2 + 1) _ (lv_sub hl [2, 1, 0] rfl) hM
      · refine m_iconst C d_Md_fastDays_21 ?_
        refine m_goto C 26 d_Md_fastDays_22 (by decide) ?_
        refine m_iadd C d_Md_fastDays_26 ?_
        refine m_istore_n C hl [(1, .int (iZ (v1 + 1))), (0, .ref (ad 83)), (2, .int (iZ v2))] d_Md_fastDays_27 rfl (by decide) rfl (fun ls hl => ?_)
        refine m_iinc C hl 2 [(2, .int (iZ (v2 + 1))), (1, .int (iZ (v1 + 1))), (0, .ref (ad 83))] d_Md_fastDays_28 rfl (by decide) rfl (fun ls hl => ?_)
        refine m_goto C 4 d_Md_fastDays_31 (by decide) ?_
        exact ih (v1 + 1) (v2 + 1) _ (lv_sub hl [2, 1, 0] rfl) hM
set_option maxHeartbeats 4000000 in
set_option maxRecDepth 100000 in
theorem c_Md_fastDays {l : Launch} {D : va_G} {ad : Nat → Nat} {cA : Nat → ClassId} {sd sv : Nat → Nat} {h : Hp} {N : Nat} {out : Int} (hI : Inj97 ad) (hM : M_Md_fastDays N h = some out) : Met l y_Md_fastDays (.code y_Md_fastDays prog_13_method_59_code 3 (some .int) :: TT) (rmD 4) (PC D ad cA sd sv h [.ref (ad 83)]) (QR out) 0 0 (fun _ => False) := by
  unfold M_Md_fastDays at hM
  refine entM (by decide +kernel) hI (Nat.le_of_ble_eq_true rfl) ?_
  intro p e s m args below meth c C hr hlk hP ls hl
  have C : Cx p s m args c prog_13_method_59_code 3 "FeastBookModel" D ad cA sd sv (FA ad) := C
  have hl : lv_has ls 3 [(0, .ref (ad 83))] := hl
  refine m_iconst C d_Md_fastDays_0 ?_
  refine m_istore_n C hl [(1, .int (iZ 0)), (0, .ref (ad 83))] d_Md_fastDays_1 rfl (by decide) rfl (fun ls hl => ?_)
  refine m_iconst C d_Md_fastDays_2 ?_
  refine m_istore_n C hl [(2, .int (iZ 0)), (1, .int (iZ 0)), (0, .ref (ad 83))] d_Md_fastDays_3 rfl (by decide) rfl (fun ls hl => ?_)
  exact w_Md_fastDays_L4 N hI C hr hlk  h hP _ 0 0 _ (lv_sub hl [2, 1, 0] rfl) hM
def y_Md_meetings : MethodName := ⟨"FeastBookModel", "meetings", "()I"⟩
theorem d_Md_meetings_0 : decode prog_13_method_60_code 0 = .ok (.iconst 0, 1) := by decide +kernel
theorem d_Md_meetings_1 : decode prog_13_method_60_code 1 = .ok (.istore_n 1, 1) := by decide +kernel
theorem d_Md_meetings_2 : decode prog_13_method_60_code 2 = .ok (.iconst 0, 1) := by decide +kernel
theorem d_Md_meetings_3 : decode prog_13_method_60_code 3 = .ok (.istore_n 2, 1) := by decide +kernel
theorem d_Md_meetings_4 : decode prog_13_method_60_code 4 = .ok (.iload_n 2, 1) := by decide +kernel
theorem d_Md_meetings_5 : decode prog_13_method_60_code 5 = .ok (.aload_n 0, 1) := by decide +kernel
theorem d_Md_meetings_6 : decode prog_13_method_60_code 6 = .ok (.getfield 122, 3) := by decide +kernel
theorem d_Md_meetings_9 : decode prog_13_method_60_code 9 = .ok (.if_icmp .ge 64, 3) := by decide +kernel
theorem d_Md_meetings_12 : decode prog_13_method_60_code 12 = .ok (.iconst 0, 1) := by decide +kernel
theorem d_Md_meetings_13 : decode prog_13_method_60_code 13 = .ok (.istore_n 3, 1) := by decide +kernel
theorem d_Md_meetings_14 : decode prog_13_method_60_code 14 = .ok (.iconst 0, 1) := by decide +kernel
theorem d_Md_meetings_15 : decode prog_13_method_60_code 15 = .ok (.istore 4, 2) := by decide +kernel
theorem d_Md_meetings_17 : decode prog_13_method_60_code 17 = .ok (.iload 4, 2) := by decide +kernel
theorem d_Md_meetings_19 : decode prog_13_method_60_code 19 = .ok (.aload_n 0, 1) := by decide +kernel
theorem d_Md_meetings_20 : decode prog_13_method_60_code 20 = .ok (.getfield 7, 3) := by decide +kernel
theorem d_Md_meetings_23 : decode prog_13_method_60_code 23 = .ok (.bipush 42, 2) := by decide +kernel
theorem d_Md_meetings_25 : decode prog_13_method_60_code 25 = .ok (.iaload, 1) := by decide +kernel
theorem d_Md_meetings_26 : decode prog_13_method_60_code 26 = .ok (.if_icmp .ge 28, 3) := by decide +kernel
theorem d_Md_meetings_29 : decode prog_13_method_60_code 29 = .ok (.iload_n 3, 1) := by decide +kernel
theorem d_Md_meetings_30 : decode prog_13_method_60_code 30 = .ok (.aload_n 0, 1) := by decide +kernel
theorem d_Md_meetings_31 : decode prog_13_method_60_code 31 = .ok (.getfield 29, 3) := by decide +kernel
theorem d_Md_meetings_34 : decode prog_13_method_60_code 34 = .ok (.iload 4, 2) := by decide +kernel
theorem d_Md_meetings_36 : decode prog_13_method_60_code 36 = .ok (.iaload, 1) := by decide +kernel
theorem d_Md_meetings_37 : decode prog_13_method_60_code 37 = .ok (.iload_n 2, 1) := by decide +kernel
theorem d_Md_meetings_38 : decode prog_13_method_60_code 38 = .ok (.if_icmp .ne 7, 3) := by decide +kernel
theorem d_Md_meetings_41 : decode prog_13_method_60_code 41 = .ok (.iconst 1, 1) := by decide +kernel
theorem d_Md_meetings_42 : decode prog_13_method_60_code 42 = .ok (.goto 4, 3) := by decide +kernel
theorem d_Md_meetings_45 : decode prog_13_method_60_code 45 = .ok (.iconst 0, 1) := by decide +kernel
theorem d_Md_meetings_46 : decode prog_13_method_60_code 46 = .ok (.iadd, 1) := by decide +kernel
theorem d_Md_meetings_47 : decode prog_13_method_60_code 47 = .ok (.istore_n 3, 1) := by decide +kernel
theorem d_Md_meetings_48 : decode prog_13_method_60_code 48 = .ok (.iinc 4 1, 3) := by decide +kernel
theorem d_Md_meetings_51 : decode prog_13_method_60_code 51 = .ok (.goto (-34), 3) := by decide +kernel
theorem d_Md_meetings_54 : decode prog_13_method_60_code 54 = .ok (.iload_n 1, 1) := by decide +kernel
theorem d_Md_meetings_55 : decode prog_13_method_60_code 55 = .ok (.iload_n 3, 1) := by decide +kernel
theorem d_Md_meetings_56 : decode prog_13_method_60_code 56 = .ok (.iconst 1, 1) := by decide +kernel
theorem d_Md_meetings_57 : decode prog_13_method_60_code 57 = .ok (.if_icmp .le 7, 3) := by decide +kernel
theorem d_Md_meetings_60 : decode prog_13_method_60_code 60 = .ok (.iconst 1, 1) := by decide +kernel
theorem d_Md_meetings_61 : decode prog_13_method_60_code 61 = .ok (.goto 4, 3) := by decide +kernel
theorem d_Md_meetings_64 : decode prog_13_method_60_code 64 = .ok (.iconst 0, 1) := by decide +kernel
theorem d_Md_meetings_65 : decode prog_13_method_60_code 65 = .ok (.iadd, 1) := by decide +kernel
theorem d_Md_meetings_66 : decode prog_13_method_60_code 66 = .ok (.istore_n 1, 1) := by decide +kernel
theorem d_Md_meetings_67 : decode prog_13_method_60_code 67 = .ok (.iinc 2 1, 3) := by decide +kernel
theorem d_Md_meetings_70 : decode prog_13_method_60_code 70 = .ok (.goto (-66), 3) := by decide +kernel
theorem d_Md_meetings_73 : decode prog_13_method_60_code 73 = .ok (.iload_n 1, 1) := by decide +kernel
theorem d_Md_meetings_74 : decode prog_13_method_60_code 74 = .ok (.ireturn, 1) := by decide +kernel
set_option maxHeartbeats 4000000 in
set_option maxRecDepth 100000 in
theorem w_Md_meetings_L17 {p : Program} {l : Launch} {e : Env} {s : State} {m : MethodId} {args : Array Value} {below : List Frame} {meth : Method} {c : Code} {D : va_G} {ad : Nat → Nat} {cA : Nat → ClassId} {sd sv : Nat → Nat} {out : Int} (N : Nat) (hI : Inj97 ad) (C : Cx p s m args c prog_13_method_60_code 5 "FeastBookModel" D ad cA sd sv (FA ad)) (hr : meth.sig.returnType = (some .int)) (hlk : meth.locks = false) (v1 v2 : Int) (h : Hp) (hP : va_P D clL (wl ad cA h) s.heap) (k : Int → Int → Option Int) (kW : ∀ (v3 v4 : Int) , k v3 v4 = some out → ∀ ls : Array Slot, lv_has ls 5 [(0, .ref (ad 83)), (1, .int (iZ v1)), (2, .int (iZ v2)), (3, .int (iZ v3)), (4, .int (iZ v4))] → W p l e (rmD 0) s m args below meth c s.heap [] 0 0 (MQ below (QR out) args s 0 0 (fun _ => False)) (F0 m 54 ls [])) : ∀ (n : Nat) (v3 v4 : Int), ∀ ls : Array Slot, lv_has ls 5 [(0, .ref (ad 83)), (1, .int (iZ v1)), (2, .int (iZ v2)), (3, .int (iZ v3)), (4, .int (iZ v4))] → Md_meetings_L17 N h v2 k n v3 v4 = some out → W p l e (rmD 0) s m args below meth c s.heap [] 0 0 (MQ below (QR out) args s 0 0 (fun _ => False)) (F0 m 17 ls []) := by
  intro n
  induction n with
  | zero =>
    intro v3 v4 ls hl hM
    rw [Md_meetings_L17] at hM
    cases hM
  | succ n ih =>
    intro v3 v4 ls hl hM
    rw [Md_meetings_L17] at hM
    refine m_iload C hl 4 d_Md_meetings_17 rfl ?_
    refine m_aload_n C hl 0 d_Md_meetings_19 rfl rfl ?_
    refine m_getr C hP kc_Md sh_83 (Nat.le_of_ble_eq_true rfl) 1 84 rfl (by decide) fk_Md_7 d_Md_meetings_20 ?_
    refine m_bipush C d_Md_meetings_23 (by decide) ?_
    refine m_iald C hP sh_84 (Nat.le_of_ble_eq_true rfl) (Nat.le_of_ble_eq_true rfl) hM d_Md_meetings_25 (fun x1 hM => ?_)
    refine m_icmp_ge C hM 54 d_Md_meetings_26 (by decide) (fun hM => ?_) (fun hM => ?_)
    · exact kW v3 v4 hM _ hl
    · refine m_iload_n C hl 3 d_Md_meetings_29 rfl rfl ?_
      refine m_aload_n C hl 0 d_Md_meetings_30 rfl rfl ?_
      refine m_getr C hP kc_Md sh_83 (Nat.le_of_ble_eq_true rfl) 16 89 rfl (by decide) fk_Md_29 d_Md_meetings_31 ?_
      refine m_iload C hl 4 d_Md_meetings_34 rfl ?_
      refine m_iald C hP sh_89 (Nat.le_of_ble_eq_true rfl) (Nat.le_of_ble_eq_true rfl) hM d_Md_meetings_36 (fun x2 hM => ?_)
      refine m_iload_n C hl 2 d_Md_meetings_37 rfl rfl ?_
      refine m_icmp_ne C hM 45 d_Md_meetings_38 (by decide) (fun hM => ?_) (fun hM => ?_)
      · refine m_iconst C d_Md_meetings_45 ?_
        refine m_iadd C d_Md_meetings_46 ?_
        refine m_istore_n C hl [(3, .int (iZ (v3 + 0))), (0, .ref (ad 83)), (1, .int (iZ v1)), (2, .int (iZ v2)), (4, .int (iZ v4))] d_Md_meetings_47 rfl (by decide) rfl (fun ls hl => ?_)
        refine m_iinc C hl 4 [(4, .int (iZ (v4 + 1))), (3, .int (iZ (v3 + 0))), (0, .ref (ad 83)), (1, .int (iZ v1)), (2, .int (iZ v2))] d_Md_meetings_48 rfl (by decide) rfl (fun ls hl => ?_)
        refine m_goto C 17 d_Md_meetings_51 (by decide) ?_
        exact ih (v3 + 0) (v4 + 1) _ (lv_sub hl [2, 3, 4, 1, 0] rfl) hM
      · refine m_iconst C d_Md_meetings_41 ?_
        refine m_goto C 46 d_Md_meetings_42 (by decide) ?_
        refine m_iadd C d_Md_meetings_46 ?_
        refine m_istore_n C hl [(3, .int (iZ (v3 + 1))), (0, .ref (ad 83)), (1, .int (iZ v1)), (2, .int (iZ v2)), (4, .int (iZ v4))] d_Md_meetings_47 rfl (by decide) rfl (fun ls hl => ?_)
        refine m_iinc C hl 4 [(4, .int (iZ (v4 + 1))), (3, .int (iZ (v3 + 1))), (0, .ref (ad 83)), (1, .int (iZ v1)), (2, .int (iZ v2))] d_Md_meetings_48 rfl (by decide) rfl (fun ls hl => ?_)
        refine m_goto C 17 d_Md_meetings_51 (by decide) ?_
        exact ih (v3 + 1) (v4 + 1) _ (lv_sub hl [2, 3, 4, 1, 0] rfl) hM
set_option maxHeartbeats 4000000 in
set_option maxRecDepth 100000 in
theorem w_Md_meetings_L4 {p : Program} {l : Launch} {e : Env} {s : State} {m : MethodId} {args : Array Value} {below : List Frame} {meth : Method} {c : Code} {D : va_G} {ad : Nat → Nat} {cA : Nat → ClassId} {sd sv : Nat → Nat} {out : Int} (N : Nat) (hI : Inj97 ad) (C : Cx p s m args c prog_13_method_60_code 5 "FeastBookModel" D ad cA sd sv (FA ad)) (hr : meth.sig.returnType = (some .int)) (hlk : meth.locks = false) (h : Hp) (hP : va_P D clL (wl ad cA h) s.heap) : ∀ (n : Nat) (v1 v2 : Int), ∀ ls : Array Slot, lv_has ls 5 [(0, .ref (ad 83)), (1, .int (iZ v1)), (2, .int (iZ v2))] → Md_meetings_L4 N h n v1 v2 = some out → W p l e (rmD 0) s m args below meth c s.heap [] 0 0 (MQ below (QR out) args s 0 0 (fun _ => False)) (F0 m 4 ls []) := by
  intro n
  induction n with
  | zero =>
    intro v1 v2 ls hl hM
    rw [Md_meetings_L4] at hM
    cases hM
  | succ n ih =>
    intro v1 v2 ls hl hM
    rw [Md_meetings_L4] at hM
    refine m_iload_n C hl 2 d_Md_meetings_4 rfl rfl ?_
    refine m_aload_n C hl 0 d_Md_meetings_5 rfl rfl ?_
    refine m_geti C hP kc_Md sh_83 (Nat.le_of_ble_eq_true rfl) 13 rfl (by decide) fk_Md_122 d_Md_meetings_6 ?_
    refine m_icmp_ge C hM 73 d_Md_meetings_9 (by decide) (fun hM => ?_) (fun hM => ?_)
    · refine m_iload_n C hl 1 d_Md_meetings_73 rfl rfl ?_
      exact m_iretR C hr hlk hM d_Md_meetings_74
    · refine m_iconst C d_Md_meetings_12 ?_
      refine m_istore_n C hl [(3, .int (iZ 0)), (0, .ref (ad 83)), (1, .int (iZ v1)), (2, .int (iZ v2))] d_Md_meetings_13 rfl (by decide) rfl (fun ls hl => ?_)
      refine m_iconst C d_Md_meetings_14 ?_
      refine m_istore C hl [(4, .int (iZ 0)), (3, .int (iZ 0)), (0, .ref (ad 83)), (1, .int (iZ v1)), (2, .int (iZ v2))] d_Md_meetings_15 (by decide) rfl (fun ls hl => ?_)
      refine w_Md_meetings_L17 N hI C hr hlk v1 v2 h hP _ (fun v3_3 v4_3 hM ls hl => ?_) _ 0 0 _ (lv_sub hl [2, 3, 4, 1, 0] rfl) hM
      refine m_iload_n C hl 1 d_Md_meetings_54 rfl rfl ?_
      refine m_iload_n C hl 3 d_Md_meetings_55 rfl rfl ?_
      refine m_iconst C d_Md_meetings_56 ?_
      refine m_icmp_le C hM 64 d_Md_meetings_57 (by decide) (fun hM => ?_) (fun hM => ?_)
      · refine m_iconst C d_Md_meetings_64 ?_
        refine m_iadd C d_Md_meetings_65 ?_
        refine m_istore_n C hl [(1, .int (iZ (v1 + 0))), (0, .ref (ad 83)), (2, .int (iZ v2)), (3, .int (iZ v3_3)), (4, .int (iZ v4_3))] d_Md_meetings_66 rfl (by decide) rfl (fun ls hl => ?_)
        refine m_iinc C hl 2 [(2, .int (iZ (v2 + 1))), (1, .int (iZ (v1 + 0))), (0, .ref (ad 83)), (3, .int (iZ v3_3)), (4, .int (iZ v4_3))] d_Md_meetings_67 rfl (by decide) rfl (fun ls hl => ?_)
        refine m_goto C 4 d_Md_meetings_70 (by decide) ?_
        exact ih (v1 + 0) (v2 + 1) _ (lv_sub hl [2, 1, 0] rfl) hM
      · refine m_iconst C d_Md_meetings_60 ?_
        refine m_goto C 65 d_Md_meetings_61 (by decide) ?_
        refine m_iadd C d_Md_meetings_65 ?_
        refine m_istore_n C hl [(1, .int (iZ (v1 + 1))), (0, .ref (ad 83)), (2, .int (iZ v2)), (3, .int (iZ v3_3)), (4, .int (iZ v4_3))] d_Md_meetings_66 rfl (by decide) rfl (fun ls hl => ?_)
        refine m_iinc C hl 2 [(2, .int (iZ (v2 + 1))), (1, .int (iZ (v1 + 1))), (0, .ref (ad 83)), (3, .int (iZ v3_3)), (4, .int (iZ v4_3))] d_Md_meetings_67 rfl (by decide) rfl (fun ls hl => ?_)
        refine m_goto C 4 d_Md_meetings_70 (by decide) ?_
        exact ih (v1 + 1) (v2 + 1) _ (lv_sub hl [2, 1, 0] rfl) hM
set_option maxHeartbeats 4000000 in
set_option maxRecDepth 100000 in
theorem c_Md_meetings {l : Launch} {D : va_G} {ad : Nat → Nat} {cA : Nat → ClassId} {sd sv : Nat → Nat} {h : Hp} {N : Nat} {out : Int} (hI : Inj97 ad) (hM : M_Md_meetings N h = some out) : Met l y_Md_meetings (.code y_Md_meetings prog_13_method_60_code 5 (some .int) :: TT) (rmD 0) (PC D ad cA sd sv h [.ref (ad 83)]) (QR out) 0 0 (fun _ => False) := by
  unfold M_Md_meetings at hM
  refine entM (by decide +kernel) hI (Nat.le_of_ble_eq_true rfl) ?_
  intro p e s m args below meth c C hr hlk hP ls hl
  have C : Cx p s m args c prog_13_method_60_code 5 "FeastBookModel" D ad cA sd sv (FA ad) := C
  have hl : lv_has ls 5 [(0, .ref (ad 83))] := hl
  refine m_iconst C d_Md_meetings_0 ?_
  refine m_istore_n C hl [(1, .int (iZ 0)), (0, .ref (ad 83))] d_Md_meetings_1 rfl (by decide) rfl (fun ls hl => ?_)
  refine m_iconst C d_Md_meetings_2 ?_
  refine m_istore_n C hl [(2, .int (iZ 0)), (1, .int (iZ 0)), (0, .ref (ad 83))] d_Md_meetings_3 rfl (by decide) rfl (fun ls hl => ?_)
  exact w_Md_meetings_L4 N hI C hr hlk  h hP _ 0 0 _ (lv_sub hl [2, 1, 0] rfl) hM
def y_Md_weightOf : MethodName := ⟨"FeastBookModel", "weightOf", "(I)I"⟩
theorem d_Md_weightOf_0 : decode prog_13_method_34_code 0 = .ok (.aload_n 0, 1) := by decide +kernel
theorem d_Md_weightOf_1 : decode prog_13_method_34_code 1 = .ok (.getfield 38, 3) := by decide +kernel
theorem d_Md_weightOf_4 : decode prog_13_method_34_code 4 = .ok (.iload_n 1, 1) := by decide +kernel
theorem d_Md_weightOf_5 : decode prog_13_method_34_code 5 = .ok (.iaload, 1) := by decide +kernel
theorem d_Md_weightOf_6 : decode prog_13_method_34_code 6 = .ok (.iconst (-1), 1) := by decide +kernel
theorem d_Md_weightOf_7 : decode prog_13_method_34_code 7 = .ok (.if_icmp .eq 15, 3) := by decide +kernel
theorem d_Md_weightOf_10 : decode prog_13_method_34_code 10 = .ok (.aload_n 0, 1) := by decide +kernel
theorem d_Md_weightOf_11 : decode prog_13_method_34_code 11 = .ok (.aload_n 0, 1) := by decide +kernel
theorem d_Md_weightOf_12 : decode prog_13_method_34_code 12 = .ok (.getfield 38, 3) := by decide +kernel
theorem d_Md_weightOf_15 : decode prog_13_method_34_code 15 = .ok (.iload_n 1, 1) := by decide +kernel
theorem d_Md_weightOf_16 : decode prog_13_method_34_code 16 = .ok (.iaload, 1) := by decide +kernel
theorem d_Md_weightOf_17 : decode prog_13_method_34_code 17 = .ok (.iconst 0, 1) := by decide +kernel
theorem d_Md_weightOf_18 : decode prog_13_method_34_code 18 = .ok (.invokevirtual 90, 3) := by decide +kernel
theorem d_Md_weightOf_21 : decode prog_13_method_34_code 21 = .ok (.ireturn, 1) := by decide +kernel
theorem d_Md_weightOf_22 : decode prog_13_method_34_code 22 = .ok (.aload_n 0, 1) := by decide +kernel
theorem d_Md_weightOf_23 : decode prog_13_method_34_code 23 = .ok (.iload_n 1, 1) := by decide +kernel
theorem d_Md_weightOf_24 : decode prog_13_method_34_code 24 = .ok (.invokevirtual 128, 3) := by decide +kernel
theorem d_Md_weightOf_27 : decode prog_13_method_34_code 27 = .ok (.aload_n 0, 1) := by decide +kernel
theorem d_Md_weightOf_28 : decode prog_13_method_34_code 28 = .ok (.getfield 103, 3) := by decide +kernel
theorem d_Md_weightOf_31 : decode prog_13_method_34_code 31 = .ok (.ireturn, 1) := by decide +kernel
set_option maxHeartbeats 4000000 in
set_option maxRecDepth 100000 in
theorem c_Md_weightOf {l : Launch} {D : va_G} {ad : Nat → Nat} {cA : Nat → ClassId} {sd sv : Nat → Nat} {h : Hp} {N : Nat} {a1 : Int} {out : (Int × Hp)} (hI : Inj97 ad) (hM : M_Md_weightOf N h a1 = some out) : Met l y_Md_weightOf (.code y_Md_weightOf prog_13_method_34_code 2 (some .int) :: TT) (rmD 4) (PC D ad cA sd sv h [.ref (ad 83), .int (iZ a1)]) (QI D ad cA out) 0 0 (FA ad) := by
  unfold M_Md_weightOf at hM
  refine entM (by decide +kernel) hI (Nat.le_of_ble_eq_true rfl) ?_
  intro p e s m args below meth c C hr hlk hP ls hl
  have C : Cx p s m args c prog_13_method_34_code 2 "FeastBookModel" D ad cA sd sv (FA ad) := C
  have hl : lv_has ls 2 [(0, .ref (ad 83)), (1, .int (iZ a1))] := hl
  have w : Wd s D ad cA (FA ad) h s.heap [] := ⟨hP, va_S.rf⟩
  refine m_aload_n C hl 0 d_Md_weightOf_0 rfl rfl ?_
  refine m_getr C w.1 kc_Md sh_83 (Nat.le_of_ble_eq_true rfl) 19 92 rfl (by decide) fk_Md_38 d_Md_weightOf_1 ?_
  refine m_iload_n C hl 1 d_Md_weightOf_4 rfl rfl ?_
  refine m_iald C w.1 sh_92 (Nat.le_of_ble_eq_true rfl) (Nat.le_of_ble_eq_true rfl) hM d_Md_weightOf_5 (fun x1 hM => ?_)
  refine m_iconst C d_Md_weightOf_6 ?_
  refine m_icmp_eq C hM 22 d_Md_weightOf_7 (by decide) (fun hM => ?_) (fun hM => ?_)
  · refine m_aload_n C hl 0 d_Md_weightOf_22 rfl rfl ?_
    refine m_iload_n C hl 1 d_Md_weightOf_23 rfl rfl ?_
    obtain ⟨h3, e2, hM⟩ := bnd_some hM
    refine aftV C w (runV C w.1 w.2 kc_Md sh_83 (Nat.le_of_ble_eq_true rfl) (c_Md_laysBase hI e2) lk_Md_128 mb_Md_laysBase rfl ⟨Nat.le_of_ble_eq_true rfl, Nat.le_of_ble_eq_true rfl⟩ ⟨Nat.zero_le _, Nat.zero_le _⟩ (Nat.le_of_ble_eq_true rfl) d_Md_weightOf_24 hl.1 (rest := []) rfl) (fun H locs w => ?_)
    refine m_aload_n C hl 0 d_Md_weightOf_27 rfl rfl ?_
    refine m_geti C w.1 kc_Md sh_83 (Nat.le_of_ble_eq_true rfl) 22 rfl (by decide) fk_Md_103 d_Md_weightOf_28 ?_
    exact m_iretW C w hr hlk hM d_Md_weightOf_31
  · refine m_aload_n C hl 0 d_Md_weightOf_10 rfl rfl ?_
    refine m_aload_n C hl 0 d_Md_weightOf_11 rfl rfl ?_
    refine m_getr C w.1 kc_Md sh_83 (Nat.le_of_ble_eq_true rfl) 19 92 rfl (by decide) fk_Md_38 d_Md_weightOf_12 ?_
    refine m_iload_n C hl 1 d_Md_weightOf_15 rfl rfl ?_
    refine m_iald C w.1 sh_92 (Nat.le_of_ble_eq_true rfl) (Nat.le_of_ble_eq_true rfl) hM d_Md_weightOf_16 (fun x4 hM => ?_)
    refine m_iconst C d_Md_weightOf_17 ?_
    obtain ⟨x6, e5, hM⟩ := bnd_some hM
    refine aftR (runV C w.1 w.2 kc_Md sh_83 (Nat.le_of_ble_eq_true rfl) (c_Md_of0 hI e5) lk_Md_90 mb_Md_of0 rfl ⟨Nat.le_of_ble_eq_true rfl, Nat.le_of_ble_eq_true rfl⟩ ⟨Nat.zero_le _, Nat.zero_le _⟩ (Nat.le_of_ble_eq_true rfl) d_Md_weightOf_18 hl.1 (rest := []) rfl) ?_
    exact m_iretW C w hr hlk hM d_Md_weightOf_21
def y_Md_weight : MethodName := ⟨"FeastBookModel", "weight", "(II)I"⟩
theorem d_Md_weight_0 : decode prog_13_method_61_code 0 = .ok (.iconst 0, 1) := by decide +kernel
theorem d_Md_weight_1 : decode prog_13_method_61_code 1 = .ok (.istore_n 3, 1) := by decide +kernel
theorem d_Md_weight_2 : decode prog_13_method_61_code 2 = .ok (.iload_n 1, 1) := by decide +kernel
theorem d_Md_weight_3 : decode prog_13_method_61_code 3 = .ok (.istore 4, 2) := by decide +kernel
theorem d_Md_weight_5 : decode prog_13_method_61_code 5 = .ok (.iload 4, 2) := by decide +kernel
theorem d_Md_weight_7 : decode prog_13_method_61_code 7 = .ok (.iload_n 1, 1) := by decide +kernel
theorem d_Md_weight_8 : decode prog_13_method_61_code 8 = .ok (.iload_n 2, 1) := by decide +kernel
theorem d_Md_weight_9 : decode prog_13_method_61_code 9 = .ok (.iadd, 1) := by decide +kernel
theorem d_Md_weight_10 : decode prog_13_method_61_code 10 = .ok (.if_icmp .ge 18, 3) := by decide +kernel
theorem d_Md_weight_13 : decode prog_13_method_61_code 13 = .ok (.iload_n 3, 1) := by decide +kernel
theorem d_Md_weight_14 : decode prog_13_method_61_code 14 = .ok (.aload_n 0, 1) := by decide +kernel
theorem d_Md_weight_15 : decode prog_13_method_61_code 15 = .ok (.iload 4, 2) := by decide +kernel
theorem d_Md_weight_17 : decode prog_13_method_61_code 17 = .ok (.invokevirtual 277, 3) := by decide +kernel
theorem d_Md_weight_20 : decode prog_13_method_61_code 20 = .ok (.iadd, 1) := by decide +kernel
theorem d_Md_weight_21 : decode prog_13_method_61_code 21 = .ok (.istore_n 3, 1) := by decide +kernel
theorem d_Md_weight_22 : decode prog_13_method_61_code 22 = .ok (.iinc 4 1, 3) := by decide +kernel
theorem d_Md_weight_25 : decode prog_13_method_61_code 25 = .ok (.goto (-20), 3) := by decide +kernel
theorem d_Md_weight_28 : decode prog_13_method_61_code 28 = .ok (.iload_n 3, 1) := by decide +kernel
theorem d_Md_weight_29 : decode prog_13_method_61_code 29 = .ok (.ireturn, 1) := by decide +kernel
theorem mb_Md_weightOf : MBv R_Md y_Md_weightOf prog_13_method_34_code 2 (some .int) 1 := ⟨mT9 184 (by decide +kernel) (by decide +kernel), mTs 63 (by decide +kernel) (by decide +kernel), mT1 10 (by decide +kernel) (by decide +kernel), mT9 185 (by decide +kernel) (by decide +kernel), by decide, rfl, by decide +kernel, by decide +kernel, by decide +kernel⟩
theorem lk_Md_277 : Cond.methodLink "FeastBookModel" 277 y_Md_weightOf ∈ TT := mT9 182 (by decide +kernel) (by decide +kernel)
set_option maxHeartbeats 4000000 in
set_option maxRecDepth 100000 in
theorem w_Md_weight_L5 {p : Program} {l : Launch} {e : Env} {s : State} {m : MethodId} {args : Array Value} {below : List Frame} {meth : Method} {c : Code} {D : va_G} {ad : Nat → Nat} {cA : Nat → ClassId} {sd sv : Nat → Nat} {out : (Int × Hp)} (N : Nat) (hI : Inj97 ad) (C : Cx p s m args c prog_13_method_61_code 5 "FeastBookModel" D ad cA sd sv (FA ad)) (hr : meth.sig.returnType = (some .int)) (hlk : meth.locks = false) (v1 v2 : Int) : ∀ (n : Nat) (v3 v4 : Int) (h : Hp) (H : Heap) (locs : List Loc), Wd s D ad cA (FA ad) h H locs → ∀ ls : Array Slot, lv_has ls 5 [(0, .ref (ad 83)), (1, .int (iZ v1)), (2, .int (iZ v2)), (3, .int (iZ v3)), (4, .int (iZ v4))] → Md_weight_L5 N v1 v2 n v3 v4 h = some out → W p l e (rmD 5) s m args below meth c H locs 0 0 (MQ below (QI D ad cA out) args s 0 0 (FA ad)) (F0 m 5 ls []) := by
  intro n
  induction n with
  | zero =>
    intro v3 v4 h H locs w ls hl hM
    rw [Md_weight_L5] at hM
    cases hM
  | succ n ih =>
    intro v3 v4 h H locs w ls hl hM
    rw [Md_weight_L5] at hM
    refine m_iload C hl 4 d_Md_weight_5 rfl ?_
    refine m_iload_n C hl 1 d_Md_weight_7 rfl rfl ?_
    refine m_iload_n C hl 2 d_Md_weight_8 rfl rfl ?_
    refine m_iadd C d_Md_weight_9 ?_
    refine m_icmp_ge C hM 28 d_Md_weight_10 (by decide) (fun hM => ?_) (fun hM => ?_)
    · refine m_iload_n C hl 3 d_Md_weight_28 rfl rfl ?_
      exact m_iretW C w hr hlk hM d_Md_weight_29
    · refine m_iload_n C hl 3 d_Md_weight_13 rfl rfl ?_
      refine m_aload_n C hl 0 d_Md_weight_14 rfl rfl ?_
      refine m_iload C hl 4 d_Md_weight_15 rfl ?_
      obtain ⟨q2, e1, hM⟩ := bnd_some hM
      refine aftI C w (runV C w.1 w.2 kc_Md sh_83 (Nat.le_of_ble_eq_true rfl) (c_Md_weightOf hI e1) lk_Md_277 mb_Md_weightOf rfl ⟨Nat.le_of_ble_eq_true rfl, Nat.le_of_ble_eq_true rfl⟩ ⟨Nat.zero_le _, Nat.zero_le _⟩ (Nat.le_of_ble_eq_true rfl) d_Md_weight_17 hl.1 (rest := [.int (iZ v3)]) rfl) (fun H locs w => ?_)
      refine m_iadd C d_Md_weight_20 ?_
      refine m_istore_n C hl [(3, .int (iZ (v3 + q2.1))), (0, .ref (ad 83)), (1, .int (iZ v1)), (2, .int (iZ v2)), (4, .int (iZ v4))] d_Md_weight_21 rfl (by decide) rfl (fun ls hl => ?_)
      refine m_iinc C hl 4 [(4, .int (iZ (v4 + 1))), (3, .int (iZ (v3 + q2.1))), (0, .ref (ad 83)), (1, .int (iZ v1)), (2, .int (iZ v2))] d_Md_weight_22 rfl (by decide) rfl (fun ls hl => ?_)
      refine m_goto C 5 d_Md_weight_25 (by decide) ?_
      exact ih (v3 + q2.1) (v4 + 1) q2.2 _ _ w _ (lv_sub hl [2, 3, 4, 1, 0] rfl) hM
set_option maxHeartbeats 4000000 in
set_option maxRecDepth 100000 in
theorem c_Md_weight {l : Launch} {D : va_G} {ad : Nat → Nat} {cA : Nat → ClassId} {sd sv : Nat → Nat} {h : Hp} {N : Nat} {a1 a2 : Int} {out : (Int × Hp)} (hI : Inj97 ad) (hM : M_Md_weight N h a1 a2 = some out) : Met l y_Md_weight (.code y_Md_weight prog_13_method_61_code 5 (some .int) :: TT) (rmD 5) (PC D ad cA sd sv h [.ref (ad 83), .int (iZ a1), .int (iZ a2)]) (QI D ad cA out) 0 0 (FA ad) := by
  unfold M_Md_weight at hM
  refine entM (by decide +kernel) hI (Nat.le_of_ble_eq_true rfl) ?_
  intro p e s m args below meth c C hr hlk hP ls hl
  have C : Cx p s m args c prog_13_method_61_code 5 "FeastBookModel" D ad cA sd sv (FA ad) := C
  have hl : lv_has ls 5 [(0, .ref (ad 83)), (1, .int (iZ a1)), (2, .int (iZ a2))] := hl
  have w : Wd s D ad cA (FA ad) h s.heap [] := ⟨hP, va_S.rf⟩
  refine m_iconst C d_Md_weight_0 ?_
  refine m_istore_n C hl [(3, .int (iZ 0)), (0, .ref (ad 83)), (1, .int (iZ a1)), (2, .int (iZ a2))] d_Md_weight_1 rfl (by decide) rfl (fun ls hl => ?_)
  refine m_iload_n C hl 2 d_Md_weight_2 rfl rfl ?_
  refine m_istore C hl [(4, .int (iZ a1)), (3, .int (iZ 0)), (0, .ref (ad 83)), (1, .int (iZ a1)), (2, .int (iZ a2))] d_Md_weight_3 (by decide) rfl (fun ls hl => ?_)
  exact w_Md_weight_L5 N hI C hr hlk a1 a2 _ 0 a1 h _ _ w _ (lv_sub hl [2, 3, 4, 1, 0] rfl) hM
def y_Md_year : MethodName := ⟨"FeastBookModel", "year", "(II)I"⟩
theorem d_Md_year_0 : decode prog_13_method_62_code 0 = .ok (.aload_n 0, 1) := by decide +kernel
theorem d_Md_year_1 : decode prog_13_method_62_code 1 = .ok (.aload_n 0, 1) := by decide +kernel
theorem d_Md_year_2 : decode prog_13_method_62_code 2 = .ok (.iload_n 1, 1) := by decide +kernel
theorem d_Md_year_3 : decode prog_13_method_62_code 3 = .ok (.invokevirtual 280, 3) := by decide +kernel
theorem d_Md_year_6 : decode prog_13_method_62_code 6 = .ok (.ifCond .ne 7, 3) := by decide +kernel
theorem d_Md_year_9 : decode prog_13_method_62_code 9 = .ok (.iconst 1, 1) := by decide +kernel
theorem d_Md_year_10 : decode prog_13_method_62_code 10 = .ok (.goto 18, 3) := by decide +kernel
theorem d_Md_year_13 : decode prog_13_method_62_code 13 = .ok (.iload_n 2, 1) := by decide +kernel
theorem d_Md_year_14 : decode prog_13_method_62_code 14 = .ok (.iconst 0, 1) := by decide +kernel
theorem d_Md_year_15 : decode prog_13_method_62_code 15 = .ok (.bipush 10, 2) := by decide +kernel
theorem d_Md_year_17 : decode prog_13_method_62_code 17 = .ok (.invokestatic 54, 3) := by decide +kernel
theorem d_Md_year_20 : decode prog_13_method_62_code 20 = .ok (.ifCond .ne 7, 3) := by decide +kernel
theorem d_Md_year_23 : decode prog_13_method_62_code 23 = .ok (.iconst 2, 1) := by decide +kernel
theorem d_Md_year_24 : decode prog_13_method_62_code 24 = .ok (.goto 4, 3) := by decide +kernel
theorem d_Md_year_27 : decode prog_13_method_62_code 27 = .ok (.iconst 0, 1) := by decide +kernel
theorem d_Md_year_28 : decode prog_13_method_62_code 28 = .ok (.putfield 51, 3) := by decide +kernel
theorem d_Md_year_31 : decode prog_13_method_62_code 31 = .ok (.aload_n 0, 1) := by decide +kernel
theorem d_Md_year_32 : decode prog_13_method_62_code 32 = .ok (.getfield 51, 3) := by decide +kernel
theorem d_Md_year_35 : decode prog_13_method_62_code 35 = .ok (.ifCond .le 5, 3) := by decide +kernel
theorem d_Md_year_38 : decode prog_13_method_62_code 38 = .ok (.iconst 0, 1) := by decide +kernel
theorem d_Md_year_39 : decode prog_13_method_62_code 39 = .ok (.ireturn, 1) := by decide +kernel
theorem d_Md_year_40 : decode prog_13_method_62_code 40 = .ok (.aload_n 0, 1) := by decide +kernel
theorem d_Md_year_41 : decode prog_13_method_62_code 41 = .ok (.iload_n 1, 1) := by decide +kernel
theorem d_Md_year_42 : decode prog_13_method_62_code 42 = .ok (.invokevirtual 283, 3) := by decide +kernel
theorem d_Md_year_45 : decode prog_13_method_62_code 45 = .ok (.iload_n 2, 1) := by decide +kernel
theorem d_Md_year_46 : decode prog_13_method_62_code 46 = .ok (.tableswitch 116 0 9 #[54, 59, 64, 70, 75, 80, 86, 100, 105, 111], 54) := by decide +kernel
theorem d_Md_year_100 : decode prog_13_method_62_code 100 = .ok (.aload_n 0, 1) := by decide +kernel
theorem d_Md_year_101 : decode prog_13_method_62_code 101 = .ok (.getfield 122, 3) := by decide +kernel
theorem d_Md_year_104 : decode prog_13_method_62_code 104 = .ok (.ireturn, 1) := by decide +kernel
theorem d_Md_year_105 : decode prog_13_method_62_code 105 = .ok (.aload_n 0, 1) := by decide +kernel
theorem d_Md_year_106 : decode prog_13_method_62_code 106 = .ok (.getfield 84, 3) := by decide +kernel
theorem d_Md_year_109 : decode prog_13_method_62_code 109 = .ok (.ireturn, 1) := by decide +kernel
theorem d_Md_year_110 : decode prog_13_method_62_code 110 = .ok (.aload_n 0, 1) := by decide +kernel
theorem d_Md_year_111 : decode prog_13_method_62_code 111 = .ok (.iload_n 1, 1) := by decide +kernel
theorem d_Md_year_112 : decode prog_13_method_62_code 112 = .ok (.invokevirtual 70, 3) := by decide +kernel
theorem d_Md_year_115 : decode prog_13_method_62_code 115 = .ok (.ireturn, 1) := by decide +kernel
theorem d_Md_year_116 : decode prog_13_method_62_code 116 = .ok (.aload_n 0, 1) := by decide +kernel
theorem d_Md_year_117 : decode prog_13_method_62_code 117 = .ok (.getfield 87, 3) := by decide +kernel
theorem d_Md_year_120 : decode prog_13_method_62_code 120 = .ok (.ireturn, 1) := by decide +kernel
theorem d_Md_year_121 : decode prog_13_method_62_code 121 = .ok (.aload_n 0, 1) := by decide +kernel
theorem d_Md_year_122 : decode prog_13_method_62_code 122 = .ok (.invokevirtual 286, 3) := by decide +kernel
theorem d_Md_year_125 : decode prog_13_method_62_code 125 = .ok (.ireturn, 1) := by decide +kernel
theorem d_Md_year_126 : decode prog_13_method_62_code 126 = .ok (.aload_n 0, 1) := by decide +kernel
theorem d_Md_year_127 : decode prog_13_method_62_code 127 = .ok (.iconst 0, 1) := by decide +kernel
theorem d_Md_year_128 : decode prog_13_method_62_code 128 = .ok (.invokevirtual 289, 3) := by decide +kernel
theorem d_Md_year_131 : decode prog_13_method_62_code 131 = .ok (.ireturn, 1) := by decide +kernel
theorem d_Md_year_132 : decode prog_13_method_62_code 132 = .ok (.aload_n 0, 1) := by decide +kernel
theorem d_Md_year_133 : decode prog_13_method_62_code 133 = .ok (.iload_n 1, 1) := by decide +kernel
theorem d_Md_year_134 : decode prog_13_method_62_code 134 = .ok (.invokevirtual 66, 3) := by decide +kernel
theorem d_Md_year_137 : decode prog_13_method_62_code 137 = .ok (.ifCond .eq 7, 3) := by decide +kernel
theorem d_Md_year_140 : decode prog_13_method_62_code 140 = .ok (.iconst 1, 1) := by decide +kernel
theorem d_Md_year_141 : decode prog_13_method_62_code 141 = .ok (.goto 4, 3) := by decide +kernel
theorem d_Md_year_144 : decode prog_13_method_62_code 144 = .ok (.iconst 0, 1) := by decide +kernel
theorem d_Md_year_145 : decode prog_13_method_62_code 145 = .ok (.ireturn, 1) := by decide +kernel
theorem d_Md_year_146 : decode prog_13_method_62_code 146 = .ok (.aload_n 0, 1) := by decide +kernel
theorem d_Md_year_147 : decode prog_13_method_62_code 147 = .ok (.invokevirtual 293, 3) := by decide +kernel
theorem d_Md_year_150 : decode prog_13_method_62_code 150 = .ok (.ireturn, 1) := by decide +kernel
theorem d_Md_year_151 : decode prog_13_method_62_code 151 = .ok (.aload_n 0, 1) := by decide +kernel
theorem d_Md_year_152 : decode prog_13_method_62_code 152 = .ok (.iconst 1, 1) := by decide +kernel
theorem d_Md_year_153 : decode prog_13_method_62_code 153 = .ok (.invokevirtual 289, 3) := by decide +kernel
theorem d_Md_year_156 : decode prog_13_method_62_code 156 = .ok (.ireturn, 1) := by decide +kernel
theorem d_Md_year_157 : decode prog_13_method_62_code 157 = .ok (.aload_n 0, 1) := by decide +kernel
theorem d_Md_year_158 : decode prog_13_method_62_code 158 = .ok (.invokevirtual 296, 3) := by decide +kernel
theorem d_Md_year_161 : decode prog_13_method_62_code 161 = .ok (.ireturn, 1) := by decide +kernel
theorem d_Md_year_162 : decode prog_13_method_62_code 162 = .ok (.aload_n 0, 1) := by decide +kernel
theorem d_Md_year_163 : decode prog_13_method_62_code 163 = .ok (.iconst 0, 1) := by decide +kernel
theorem d_Md_year_164 : decode prog_13_method_62_code 164 = .ok (.aload_n 0, 1) := by decide +kernel
theorem d_Md_year_165 : decode prog_13_method_62_code 165 = .ok (.getfield 122, 3) := by decide +kernel
theorem d_Md_year_168 : decode prog_13_method_62_code 168 = .ok (.invokevirtual 299, 3) := by decide +kernel
theorem d_Md_year_171 : decode prog_13_method_62_code 171 = .ok (.ireturn, 1) := by decide +kernel
theorem mb_Md_fastDays : MBv R_Md y_Md_fastDays prog_13_method_59_code 3 (some .int) 0 := ⟨mT9 172 (by decide +kernel) (by decide +kernel), mTs 60 (by decide +kernel) (by decide +kernel), mT1 10 (by decide +kernel) (by decide +kernel), mT9 173 (by decide +kernel) (by decide +kernel), by decide, rfl, by decide +kernel, by decide +kernel, by decide +kernel⟩
theorem mb_Md_free : MBv R_Md y_Md_free prog_13_method_57_code 3 (some .int) 0 := ⟨mT9 152 (by decide +kernel) (by decide +kernel), mTs 55 (by decide +kernel) (by decide +kernel), mT1 10 (by decide +kernel) (by decide +kernel), mT9 153 (by decide +kernel) (by decide +kernel), by decide, rfl, by decide +kernel, by decide +kernel, by decide +kernel⟩
theorem mb_Md_isYear : MBv R_Md y_Md_isYear prog_13_method_7_code 2 (some .boolean) 1 := ⟨mT9 52 (by decide +kernel) (by decide +kernel), mTs 30 (by decide +kernel) (by decide +kernel), mT1 10 (by decide +kernel) (by decide +kernel), mT9 53 (by decide +kernel) (by decide +kernel), by decide, rfl, by decide +kernel, by decide +kernel, by decide +kernel⟩
theorem mb_Md_meetings : MBv R_Md y_Md_meetings prog_13_method_60_code 5 (some .int) 0 := ⟨mT9 176 (by decide +kernel) (by decide +kernel), mTs 61 (by decide +kernel) (by decide +kernel), mT1 10 (by decide +kernel) (by decide +kernel), mT9 177 (by decide +kernel) (by decide +kernel), by decide, rfl, by decide +kernel, by decide +kernel, by decide +kernel⟩
theorem mb_Md_resolves : MBv R_Md y_Md_resolves prog_13_method_32_code 3 none 1 := ⟨mT9 60 (by decide +kernel) (by decide +kernel), mTs 32 (by decide +kernel) (by decide +kernel), mT1 10 (by decide +kernel) (by decide +kernel), mT9 61 (by decide +kernel) (by decide +kernel), by decide, rfl, by decide +kernel, by decide +kernel, by decide +kernel⟩
theorem mb_Md_run : MBv R_Md y_Md_run prog_13_method_58_code 6 (some .int) 1 := ⟨mT9 160 (by decide +kernel) (by decide +kernel), mTs 57 (by decide +kernel) (by decide +kernel), mT1 10 (by decide +kernel) (by decide +kernel), mT9 161 (by decide +kernel) (by decide +kernel), by decide, rfl, by decide +kernel, by decide +kernel, by decide +kernel⟩
theorem mb_Md_weight : MBv R_Md y_Md_weight prog_13_method_61_code 5 (some .int) 2 := ⟨mT9 180 (by decide +kernel) (by decide +kernel), mTs 62 (by decide +kernel) (by decide +kernel), mT1 10 (by decide +kernel) (by decide +kernel), mT9 181 (by decide +kernel) (by decide +kernel), by decide, rfl, by decide +kernel, by decide +kernel, by decide +kernel⟩
theorem lk_Md_280 : Cond.methodLink "FeastBookModel" 280 y_Md_isYear ∈ TT := mT9 50 (by decide +kernel) (by decide +kernel)
theorem lk_Md_283 : Cond.methodLink "FeastBookModel" 283 y_Md_resolves ∈ TT := mT9 58 (by decide +kernel) (by decide +kernel)
theorem lk_Md_286 : Cond.methodLink "FeastBookModel" 286 y_Md_free ∈ TT := mT9 150 (by decide +kernel) (by decide +kernel)
theorem lk_Md_289 : Cond.methodLink "FeastBookModel" 289 y_Md_run ∈ TT := mT9 158 (by decide +kernel) (by decide +kernel)
theorem lk_Md_293 : Cond.methodLink "FeastBookModel" 293 y_Md_fastDays ∈ TT := mT9 170 (by decide +kernel) (by decide +kernel)
theorem lk_Md_296 : Cond.methodLink "FeastBookModel" 296 y_Md_meetings ∈ TT := mT9 174 (by decide +kernel) (by decide +kernel)
theorem lk_Md_299 : Cond.methodLink "FeastBookModel" 299 y_Md_weight ∈ TT := mT9 178 (by decide +kernel) (by decide +kernel)
set_option maxHeartbeats 4000000 in
set_option maxRecDepth 100000 in
theorem c_Md_year {l : Launch} {D : va_G} {ad : Nat → Nat} {cA : Nat → ClassId} {sd sv : Nat → Nat} {h : Hp} {N : Nat} {a1 a2 : Int} {out : (Int × Hp)} (hI : Inj97 ad) (hM : M_Md_year N h a1 a2 = some out) : Met l y_Md_year (.code y_Md_year prog_13_method_62_code 3 (some .int) :: TT) (rmD 8) (PC D ad cA sd sv h [.ref (ad 83), .int (iZ a1), .int (iZ a2)]) (QI D ad cA out) 0 0 (FA ad) := by
  unfold M_Md_year at hM
  refine entM (by decide +kernel) hI (Nat.le_of_ble_eq_true rfl) ?_
  intro p e s m args below meth c C hr hlk hP ls hl
  have C : Cx p s m args c prog_13_method_62_code 3 "FeastBookModel" D ad cA sd sv (FA ad) := C
  have hl : lv_has ls 3 [(0, .ref (ad 83)), (1, .int (iZ a1)), (2, .int (iZ a2))] := hl
  have w : Wd s D ad cA (FA ad) h s.heap [] := ⟨hP, va_S.rf⟩
  refine m_aload_n C hl 0 d_Md_year_0 rfl rfl ?_
  refine m_aload_n C hl 0 d_Md_year_1 rfl rfl ?_
  refine m_iload_n C hl 1 d_Md_year_2 rfl rfl ?_
  obtain ⟨x2, e1, hM⟩ := bnd_some hM
  refine aftR (runV C w.1 w.2 kc_Md sh_83 (Nat.le_of_ble_eq_true rfl) (c_Md_isYear hI e1) lk_Md_280 mb_Md_isYear rfl ⟨Nat.le_of_ble_eq_true rfl, Nat.le_of_ble_eq_true rfl⟩ ⟨Nat.zero_le _, Nat.zero_le _⟩ (Nat.le_of_ble_eq_true rfl) d_Md_year_3 hl.1 (rest := [.ref (ad 83)]) rfl) ?_
  refine lt_join hM (fun j5 ej hM => ?_)
  have hJ5 : ∀ (s0_5 : Int), j5 s0_5 = some out → ∀ ls : Array Slot, lv_has ls 3 [(0, .ref (ad 83)), (1, .int (iZ a1)), (2, .int (iZ a2))] → W p l e (rmD 8) s m args below meth c s.heap [] 0 0 (MQ below (QI D ad cA out) args s 0 0 (FA ad)) (F0 m 28 ls [.int (iZ s0_5), .ref (ad 83)]) := by
    intro s0_5 hM ls hl
    subst ej
    dsimp only at hM
    refine m_puti C w kc_Md sh_83 (Nat.le_of_ble_eq_true rfl) 0 hM rfl (by decide) rfl rfl fk_Md_51 d_Md_year_28 (fun h6 H locs w hM => ?_)
    refine m_aload_n C hl 0 d_Md_year_31 rfl rfl ?_
    refine m_geti C w.1 kc_Md sh_83 (Nat.le_of_ble_eq_true rfl) 0 rfl (by decide) fk_Md_51 d_Md_year_32 ?_
    refine m_if_le C hM 40 d_Md_year_35 (by decide) (fun hM => ?_) (fun hM => ?_)
    · refine m_aload_n C hl 0 d_Md_year_40 rfl rfl ?_
      refine m_iload_n C hl 1 d_Md_year_41 rfl rfl ?_
      obtain ⟨h8, e7, hM⟩ := bnd_some hM
      refine aftV C w (runV C w.1 w.2 kc_Md sh_83 (Nat.le_of_ble_eq_true rfl) (c_Md_resolves hI e7) lk_Md_283 mb_Md_resolves rfl ⟨Nat.le_of_ble_eq_true rfl, Nat.le_of_ble_eq_true rfl⟩ ⟨Nat.zero_le _, Nat.zero_le _⟩ (Nat.le_of_ble_eq_true rfl) d_Md_year_42 hl.1 (rest := []) rfl) (fun H locs w => ?_)
      refine m_iload_n C hl 2 d_Md_year_45 rfl rfl ?_
      refine m_swc 0 hM (fun ek hM => ?_) (fun hn0 hM => ?_)
      · refine lv_tableIn C.1 C.2.1 d_Md_year_46 (tgt := 100) (off := 54) (by rw [ek]; decide) (by rw [ek]; decide) (by rw [ek]; rfl) (by decide) ?_
        refine m_aload_n C hl 0 d_Md_year_100 rfl rfl ?_
        refine m_geti C w.1 kc_Md sh_83 (Nat.le_of_ble_eq_true rfl) 13 rfl (by decide) fk_Md_122 d_Md_year_101 ?_
        exact m_iretW C w hr hlk hM d_Md_year_104
      · refine m_swc 1 hM (fun ek hM => ?_) (fun hn1 hM => ?_)
        · refine lv_tableIn C.1 C.2.1 d_Md_year_46 (tgt := 105) (off := 59) (by rw [ek]; decide) (by rw [ek]; decide) (by rw [ek]; rfl) (by decide) ?_
          refine m_aload_n C hl 0 d_Md_year_105 rfl rfl ?_
          refine m_geti C w.1 kc_Md sh_83 (Nat.le_of_ble_eq_true rfl) 14 rfl (by decide) fk_Md_84 d_Md_year_106 ?_
          exact m_iretW C w hr hlk hM d_Md_year_109
        · refine m_swc 2 hM (fun ek hM => ?_) (fun hn2 hM => ?_)
          · refine lv_tableIn C.1 C.2.1 d_Md_year_46 (tgt := 110) (off := 64) (by rw [ek]; decide) (by rw [ek]; decide) (by rw [ek]; rfl) (by decide) ?_
            refine m_aload_n C hl 0 d_Md_year_110 rfl rfl ?_
            refine m_iload_n C hl 1 d_Md_year_111 rfl rfl ?_
            obtain ⟨x10, e9, hM⟩ := bnd_some hM
            refine aftR (runV C w.1 w.2 kc_Md sh_83 (Nat.le_of_ble_eq_true rfl) (c_Md_fullOf hI e9) lk_Md_70 mb_Md_fullOf rfl ⟨Nat.le_of_ble_eq_true rfl, Nat.le_of_ble_eq_true rfl⟩ ⟨Nat.zero_le _, Nat.zero_le _⟩ (Nat.le_of_ble_eq_true rfl) d_Md_year_112 hl.1 (rest := []) rfl) ?_
            exact m_iretW C w hr hlk hM d_Md_year_115
          · refine m_swc 3 hM (fun ek hM => ?_) (fun hn3 hM => ?_)
            · refine lv_tableIn C.1 C.2.1 d_Md_year_46 (tgt := 116) (off := 70) (by rw [ek]; decide) (by rw [ek]; decide) (by rw [ek]; rfl) (by decide) ?_
              refine m_aload_n C hl 0 d_Md_year_116 rfl rfl ?_
              refine m_geti C w.1 kc_Md sh_83 (Nat.le_of_ble_eq_true rfl) 15 rfl (by decide) fk_Md_87 d_Md_year_117 ?_
              exact m_iretW C w hr hlk hM d_Md_year_120
            · refine m_swc 4 hM (fun ek hM => ?_) (fun hn4 hM => ?_)
              · refine lv_tableIn C.1 C.2.1 d_Md_year_46 (tgt := 121) (off := 75) (by rw [ek]; decide) (by rw [ek]; decide) (by rw [ek]; rfl) (by decide) ?_
                refine m_aload_n C hl 0 d_Md_year_121 rfl rfl ?_
                obtain ⟨q12, e11, hM⟩ := bnd_some hM
                refine aftI C w (runV C w.1 w.2 kc_Md sh_83 (Nat.le_of_ble_eq_true rfl) (c_Md_free hI e11) lk_Md_286 mb_Md_free rfl ⟨Nat.le_of_ble_eq_true rfl, Nat.le_of_ble_eq_true rfl⟩ ⟨Nat.zero_le _, Nat.zero_le _⟩ (Nat.le_of_ble_eq_true rfl) d_Md_year_122 hl.1 (rest := []) rfl) (fun H locs w => ?_)
                exact m_iretW C w hr hlk hM d_Md_year_125
              · refine m_swc 5 hM (fun ek hM => ?_) (fun hn5 hM => ?_)
                · refine lv_tableIn C.1 C.2.1 d_Md_year_46 (tgt := 126) (off := 80) (by rw [ek]; decide) (by rw [ek]; decide) (by rw [ek]; rfl) (by decide) ?_
                  refine m_aload_n C hl 0 d_Md_year_126 rfl rfl ?_
                  refine m_iconst C d_Md_year_127 ?_
                  obtain ⟨q14, e13, hM⟩ := bnd_some hM
                  refine aftI C w (runV C w.1 w.2 kc_Md sh_83 (Nat.le_of_ble_eq_true rfl) (c_Md_run hI e13) lk_Md_289 mb_Md_run rfl ⟨Nat.le_of_ble_eq_true rfl, Nat.le_of_ble_eq_true rfl⟩ ⟨Nat.zero_le _, Nat.zero_le _⟩ (Nat.le_of_ble_eq_true rfl) d_Md_year_128 hl.1 (rest := []) rfl) (fun H locs w => ?_)
                  exact m_iretW C w hr hlk hM d_Md_year_131
                · refine m_swc 6 hM (fun ek hM => ?_) (fun hn6 hM => ?_)
                  · refine lv_tableIn C.1 C.2.1 d_Md_year_46 (tgt := 132) (off := 86) (by rw [ek]; decide) (by rw [ek]; decide) (by rw [ek]; rfl) (by decide) ?_
                    refine m_aload_n C hl 0 d_Md_year_132 rfl rfl ?_
                    refine m_iload_n C hl 1 d_Md_year_133 rfl rfl ?_
                    obtain ⟨x16, e15, hM⟩ := bnd_some hM
                    refine aftR (runV C w.1 w.2 kc_Md sh_83 (Nat.le_of_ble_eq_true rfl) (c_Md_isLong hI e15) lk_Md_66 mb_Md_isLong rfl ⟨Nat.le_of_ble_eq_true rfl, Nat.le_of_ble_eq_true rfl⟩ ⟨Nat.zero_le _, Nat.zero_le _⟩ (Nat.le_of_ble_eq_true rfl) d_Md_year_134 hl.1 (rest := []) rfl) ?_
                    refine m_if_eq C hM 144 d_Md_year_137 (by decide) (fun hM => ?_) (fun hM => ?_)
                    · refine m_iconst C d_Md_year_144 ?_
                      exact m_iretW C w hr hlk hM d_Md_year_145
                    · refine m_iconst C d_Md_year_140 ?_
                      refine m_goto C 145 d_Md_year_141 (by decide) ?_
                      exact m_iretW C w hr hlk hM d_Md_year_145
                  · refine m_swc 7 hM (fun ek hM => ?_) (fun hn7 hM => ?_)
                    · refine lv_tableIn C.1 C.2.1 d_Md_year_46 (tgt := 146) (off := 100) (by rw [ek]; decide) (by rw [ek]; decide) (by rw [ek]; rfl) (by decide) ?_
                      refine m_aload_n C hl 0 d_Md_year_146 rfl rfl ?_
                      obtain ⟨x18, e17, hM⟩ := bnd_some hM
                      refine aftR (runV C w.1 w.2 kc_Md sh_83 (Nat.le_of_ble_eq_true rfl) (c_Md_fastDays hI e17) lk_Md_293 mb_Md_fastDays rfl ⟨Nat.le_of_ble_eq_true rfl, Nat.le_of_ble_eq_true rfl⟩ ⟨Nat.zero_le _, Nat.zero_le _⟩ (Nat.le_of_ble_eq_true rfl) d_Md_year_147 hl.1 (rest := []) rfl) ?_
                      exact m_iretW C w hr hlk hM d_Md_year_150
                    · refine m_swc 8 hM (fun ek hM => ?_) (fun hn8 hM => ?_)
                      · refine lv_tableIn C.1 C.2.1 d_Md_year_46 (tgt := 151) (off := 105) (by rw [ek]; decide) (by rw [ek]; decide) (by rw [ek]; rfl) (by decide) ?_
                        refine m_aload_n C hl 0 d_Md_year_151 rfl rfl ?_
                        refine m_iconst C d_Md_year_152 ?_
                        obtain ⟨q20, e19, hM⟩ := bnd_some hM
                        refine aftI C w (runV C w.1 w.2 kc_Md sh_83 (Nat.le_of_ble_eq_true rfl) (c_Md_run hI e19) lk_Md_289 mb_Md_run rfl ⟨Nat.le_of_ble_eq_true rfl, Nat.le_of_ble_eq_true rfl⟩ ⟨Nat.zero_le _, Nat.zero_le _⟩ (Nat.le_of_ble_eq_true rfl) d_Md_year_153 hl.1 (rest := []) rfl) (fun H locs w => ?_)
                        exact m_iretW C w hr hlk hM d_Md_year_156
                      · refine m_swc 9 hM (fun ek hM => ?_) (fun hn9 hM => ?_)
                        · refine lv_tableIn C.1 C.2.1 d_Md_year_46 (tgt := 157) (off := 111) (by rw [ek]; decide) (by rw [ek]; decide) (by rw [ek]; rfl) (by decide) ?_
                          refine m_aload_n C hl 0 d_Md_year_157 rfl rfl ?_
                          obtain ⟨x22, e21, hM⟩ := bnd_some hM
                          refine aftR (runV C w.1 w.2 kc_Md sh_83 (Nat.le_of_ble_eq_true rfl) (c_Md_meetings hI e21) lk_Md_296 mb_Md_meetings rfl ⟨Nat.le_of_ble_eq_true rfl, Nat.le_of_ble_eq_true rfl⟩ ⟨Nat.zero_le _, Nat.zero_le _⟩ (Nat.le_of_ble_eq_true rfl) d_Md_year_158 hl.1 (rest := []) rfl) ?_
                          exact m_iretW C w hr hlk hM d_Md_year_161
                        · refine lv_tableOut C.1 C.2.1 d_Md_year_46 (tgt := 162) ?_ (by decide) ?_
                          · have g0 := lv_neT hn0 (show (iZ 0).toInt = 0 from rfl); have g1 := lv_neT hn1 (show (iZ 1).toInt = 1 from rfl); have g2 := lv_neT hn2 (show (iZ 2).toInt = 2 from rfl); have g3 := lv_neT hn3 (show (iZ 3).toInt = 3 from rfl); have g4 := lv_neT hn4 (show (iZ 4).toInt = 4 from rfl); have g5 := lv_neT hn5 (show (iZ 5).toInt = 5 from rfl); have g6 := lv_neT hn6 (show (iZ 6).toInt = 6 from rfl); have g7 := lv_neT hn7 (show (iZ 7).toInt = 7 from rfl); have g8 := lv_neT hn8 (show (iZ 8).toInt = 8 from rfl); have g9 := lv_neT hn9 (show (iZ 9).toInt = 9 from rfl); omega
                          · refine m_aload_n C hl 0 d_Md_year_162 rfl rfl ?_
                            refine m_iconst C d_Md_year_163 ?_
                            refine m_aload_n C hl 0 d_Md_year_164 rfl rfl ?_
                            refine m_geti C w.1 kc_Md sh_83 (Nat.le_of_ble_eq_true rfl) 13 rfl (by decide) fk_Md_122 d_Md_year_165 ?_
                            obtain ⟨q24, e23, hM⟩ := bnd_some hM
                            refine aftI C w (runV C w.1 w.2 kc_Md sh_83 (Nat.le_of_ble_eq_true rfl) (c_Md_weight hI e23) lk_Md_299 mb_Md_weight rfl ⟨Nat.le_of_ble_eq_true rfl, Nat.le_of_ble_eq_true rfl⟩ ⟨Nat.zero_le _, Nat.zero_le _⟩ (Nat.le_of_ble_eq_true rfl) d_Md_year_168 hl.1 (rest := []) rfl) (fun H locs w => ?_)
                            exact m_iretW C w hr hlk hM d_Md_year_171
    · refine m_iconst C d_Md_year_38 ?_
      exact m_iretW C w hr hlk hM d_Md_year_39
  refine m_if_ne C hM 13 d_Md_year_6 (by decide) (fun hM => ?_) (fun hM => ?_)
  · refine m_iload_n C hl 2 d_Md_year_13 rfl rfl ?_
    refine m_iconst C d_Md_year_14 ?_
    refine m_bipush C d_Md_year_15 (by decide) ?_
    obtain ⟨x26, e25, hM⟩ := bnd_some hM
    refine aftR (runS C w.1 w.2 (c_Md_isIn hI e25) lk_Md_54 mb_Md_isIn rfl ⟨Nat.le_of_ble_eq_true rfl, Nat.le_of_ble_eq_true rfl⟩ ⟨Nat.zero_le _, Nat.zero_le _⟩ (Nat.le_of_ble_eq_true rfl) d_Md_year_17 hl.1 (rest := [.ref (ad 83)]) rfl) ?_
    refine m_if_ne C hM 27 d_Md_year_20 (by decide) (fun hM => ?_) (fun hM => ?_)
    · refine m_iconst C d_Md_year_27 ?_
      exact hJ5 0 hM _ hl
    · refine m_iconst C d_Md_year_23 ?_
      refine m_goto C 28 d_Md_year_24 (by decide) ?_
      exact hJ5 2 hM _ hl
  · refine m_iconst C d_Md_year_9 ?_
    refine m_goto C 28 d_Md_year_10 (by decide) ?_
    exact hJ5 1 hM _ hl
def y_Md_isDay : MethodName := ⟨"FeastBookModel", "isDay", "(II)Z"⟩
theorem d_Md_isDay_0 : decode prog_13_method_63_code 0 = .ok (.aload_n 0, 1) := by decide +kernel
theorem d_Md_isDay_1 : decode prog_13_method_63_code 1 = .ok (.iload_n 1, 1) := by decide +kernel
theorem d_Md_isDay_2 : decode prog_13_method_63_code 2 = .ok (.invokevirtual 280, 3) := by decide +kernel
theorem d_Md_isDay_5 : decode prog_13_method_63_code 5 = .ok (.ifCond .eq 18, 3) := by decide +kernel
theorem d_Md_isDay_8 : decode prog_13_method_63_code 8 = .ok (.iload_n 2, 1) := by decide +kernel
theorem d_Md_isDay_9 : decode prog_13_method_63_code 9 = .ok (.iconst 0, 1) := by decide +kernel
theorem d_Md_isDay_10 : decode prog_13_method_63_code 10 = .ok (.aload_n 0, 1) := by decide +kernel
theorem d_Md_isDay_11 : decode prog_13_method_63_code 11 = .ok (.iload_n 1, 1) := by decide +kernel
theorem d_Md_isDay_12 : decode prog_13_method_63_code 12 = .ok (.invokevirtual 139, 3) := by decide +kernel
theorem d_Md_isDay_15 : decode prog_13_method_63_code 15 = .ok (.iconst 1, 1) := by decide +kernel
theorem d_Md_isDay_16 : decode prog_13_method_63_code 16 = .ok (.isub, 1) := by decide +kernel
theorem d_Md_isDay_17 : decode prog_13_method_63_code 17 = .ok (.invokestatic 54, 3) := by decide +kernel
theorem d_Md_isDay_20 : decode prog_13_method_63_code 20 = .ok (.ifCond .ne 5, 3) := by decide +kernel
theorem d_Md_isDay_23 : decode prog_13_method_63_code 23 = .ok (.iconst 0, 1) := by decide +kernel
theorem d_Md_isDay_24 : decode prog_13_method_63_code 24 = .ok (.ireturn, 1) := by decide +kernel
theorem d_Md_isDay_25 : decode prog_13_method_63_code 25 = .ok (.aload_n 0, 1) := by decide +kernel
theorem d_Md_isDay_26 : decode prog_13_method_63_code 26 = .ok (.iload_n 1, 1) := by decide +kernel
theorem d_Md_isDay_27 : decode prog_13_method_63_code 27 = .ok (.invokevirtual 283, 3) := by decide +kernel
theorem d_Md_isDay_30 : decode prog_13_method_63_code 30 = .ok (.iconst 1, 1) := by decide +kernel
theorem d_Md_isDay_31 : decode prog_13_method_63_code 31 = .ok (.ireturn, 1) := by decide +kernel
set_option maxHeartbeats 4000000 in
set_option maxRecDepth 100000 in
theorem c_Md_isDay {l : Launch} {D : va_G} {ad : Nat → Nat} {cA : Nat → ClassId} {sd sv : Nat → Nat} {h : Hp} {N : Nat} {a1 a2 : Int} {out : (Int × Hp)} (hI : Inj97 ad) (hM : M_Md_isDay N h a1 a2 = some out) : Met l y_Md_isDay (.code y_Md_isDay prog_13_method_63_code 3 (some .boolean) :: TT) (rmD 8) (PC D ad cA sd sv h [.ref (ad 83), .int (iZ a1), .int (iZ a2)]) (QI D ad cA out) 0 0 (FA ad) := by
  unfold M_Md_isDay at hM
  refine entM (by decide +kernel) hI (Nat.le_of_ble_eq_true rfl) ?_
  intro p e s m args below meth c C hr hlk hP ls hl
  have C : Cx p s m args c prog_13_method_63_code 3 "FeastBookModel" D ad cA sd sv (FA ad) := C
  have hl : lv_has ls 3 [(0, .ref (ad 83)), (1, .int (iZ a1)), (2, .int (iZ a2))] := hl
  have w : Wd s D ad cA (FA ad) h s.heap [] := ⟨hP, va_S.rf⟩
  refine m_aload_n C hl 0 d_Md_isDay_0 rfl rfl ?_
  refine m_iload_n C hl 1 d_Md_isDay_1 rfl rfl ?_
  obtain ⟨x2, e1, hM⟩ := bnd_some hM
  refine aftR (runV C w.1 w.2 kc_Md sh_83 (Nat.le_of_ble_eq_true rfl) (c_Md_isYear hI e1) lk_Md_280 mb_Md_isYear rfl ⟨Nat.le_of_ble_eq_true rfl, Nat.le_of_ble_eq_true rfl⟩ ⟨Nat.zero_le _, Nat.zero_le _⟩ (Nat.le_of_ble_eq_true rfl) d_Md_isDay_2 hl.1 (rest := []) rfl) ?_
  refine m_if_eq C hM 23 d_Md_isDay_5 (by decide) (fun hM => ?_) (fun hM => ?_)
  · refine m_iconst C d_Md_isDay_23 ?_
    exact m_zretW C w hr hlk hM d_Md_isDay_24
  · refine m_iload_n C hl 2 d_Md_isDay_8 rfl rfl ?_
    refine m_iconst C d_Md_isDay_9 ?_
    refine m_aload_n C hl 0 d_Md_isDay_10 rfl rfl ?_
    refine m_iload_n C hl 1 d_Md_isDay_11 rfl rfl ?_
    obtain ⟨x4, e3, hM⟩ := bnd_some hM
    refine aftR (runV C w.1 w.2 kc_Md sh_83 (Nat.le_of_ble_eq_true rfl) (c_Md_lengthOf hI e3) lk_Md_139 mb_Md_lengthOf rfl ⟨Nat.le_of_ble_eq_true rfl, Nat.le_of_ble_eq_true rfl⟩ ⟨Nat.zero_le _, Nat.zero_le _⟩ (Nat.le_of_ble_eq_true rfl) d_Md_isDay_12 hl.1 (rest := [.int (iZ 0), .int (iZ a2)]) rfl) ?_
    refine m_iconst C d_Md_isDay_15 ?_
    refine m_isub C d_Md_isDay_16 ?_
    obtain ⟨x6, e5, hM⟩ := bnd_some hM
    refine aftR (runS C w.1 w.2 (c_Md_isIn hI e5) lk_Md_54 mb_Md_isIn rfl ⟨Nat.le_of_ble_eq_true rfl, Nat.le_of_ble_eq_true rfl⟩ ⟨Nat.zero_le _, Nat.zero_le _⟩ (Nat.le_of_ble_eq_true rfl) d_Md_isDay_17 hl.1 (rest := []) rfl) ?_
    refine m_if_ne C hM 25 d_Md_isDay_20 (by decide) (fun hM => ?_) (fun hM => ?_)
    · refine m_aload_n C hl 0 d_Md_isDay_25 rfl rfl ?_
      refine m_iload_n C hl 1 d_Md_isDay_26 rfl rfl ?_
      obtain ⟨h8, e7, hM⟩ := bnd_some hM
      refine aftV C w (runV C w.1 w.2 kc_Md sh_83 (Nat.le_of_ble_eq_true rfl) (c_Md_resolves hI e7) lk_Md_283 mb_Md_resolves rfl ⟨Nat.le_of_ble_eq_true rfl, Nat.le_of_ble_eq_true rfl⟩ ⟨Nat.zero_le _, Nat.zero_le _⟩ (Nat.le_of_ble_eq_true rfl) d_Md_isDay_27 hl.1 (rest := []) rfl) (fun H locs w => ?_)
      refine m_iconst C d_Md_isDay_30 ?_
      exact m_zretW C w hr hlk hM d_Md_isDay_31
    · refine m_iconst C d_Md_isDay_23 ?_
      exact m_zretW C w hr hlk hM d_Md_isDay_24
def y_Md_monthOf : MethodName := ⟨"FeastBookModel", "monthOf", "(II)I"⟩
theorem d_Md_monthOf_0 : decode prog_13_method_17_code 0 = .ok (.iconst 0, 1) := by decide +kernel
theorem d_Md_monthOf_1 : decode prog_13_method_17_code 1 = .ok (.istore_n 3, 1) := by decide +kernel
theorem d_Md_monthOf_2 : decode prog_13_method_17_code 2 = .ok (.iload_n 2, 1) := by decide +kernel
theorem d_Md_monthOf_3 : decode prog_13_method_17_code 3 = .ok (.aload_n 0, 1) := by decide +kernel
theorem d_Md_monthOf_4 : decode prog_13_method_17_code 4 = .ok (.iload_n 1, 1) := by decide +kernel
theorem d_Md_monthOf_5 : decode prog_13_method_17_code 5 = .ok (.iload_n 3, 1) := by decide +kernel
theorem d_Md_monthOf_6 : decode prog_13_method_17_code 6 = .ok (.iconst 1, 1) := by decide +kernel
theorem d_Md_monthOf_7 : decode prog_13_method_17_code 7 = .ok (.iadd, 1) := by decide +kernel
theorem d_Md_monthOf_8 : decode prog_13_method_17_code 8 = .ok (.invokevirtual 81, 3) := by decide +kernel
theorem d_Md_monthOf_11 : decode prog_13_method_17_code 11 = .ok (.if_icmp .lt 9, 3) := by decide +kernel
theorem d_Md_monthOf_14 : decode prog_13_method_17_code 14 = .ok (.iinc 3 1, 3) := by decide +kernel
theorem d_Md_monthOf_17 : decode prog_13_method_17_code 17 = .ok (.goto (-15), 3) := by decide +kernel
theorem d_Md_monthOf_20 : decode prog_13_method_17_code 20 = .ok (.iload_n 3, 1) := by decide +kernel
theorem d_Md_monthOf_21 : decode prog_13_method_17_code 21 = .ok (.ireturn, 1) := by decide +kernel
set_option maxHeartbeats 4000000 in
set_option maxRecDepth 100000 in
theorem w_Md_monthOf_L2 {p : Program} {l : Launch} {e : Env} {s : State} {m : MethodId} {args : Array Value} {below : List Frame} {meth : Method} {c : Code} {D : va_G} {ad : Nat → Nat} {cA : Nat → ClassId} {sd sv : Nat → Nat} {out : Int} (N : Nat) (hI : Inj97 ad) (C : Cx p s m args c prog_13_method_17_code 4 "FeastBookModel" D ad cA sd sv (FA ad)) (hr : meth.sig.returnType = (some .int)) (hlk : meth.locks = false) (v1 v2 : Int) (h : Hp) (hP : va_P D clL (wl ad cA h) s.heap) : ∀ (n : Nat) (v3 : Int), ∀ ls : Array Slot, lv_has ls 4 [(0, .ref (ad 83)), (1, .int (iZ v1)), (2, .int (iZ v2)), (3, .int (iZ v3))] → Md_monthOf_L2 N h v1 v2 n v3 = some out → W p l e (rmD 3) s m args below meth c s.heap [] 0 0 (MQ below (QR out) args s 0 0 (fun _ => False)) (F0 m 2 ls []) := by
  intro n
  induction n with
  | zero =>
    intro v3 ls hl hM
    rw [Md_monthOf_L2] at hM
    cases hM
  | succ n ih =>
    intro v3 ls hl hM
    rw [Md_monthOf_L2] at hM
    refine m_iload_n C hl 2 d_Md_monthOf_2 rfl rfl ?_
    refine m_aload_n C hl 0 d_Md_monthOf_3 rfl rfl ?_
    refine m_iload_n C hl 1 d_Md_monthOf_4 rfl rfl ?_
    refine m_iload_n C hl 3 d_Md_monthOf_5 rfl rfl ?_
    refine m_iconst C d_Md_monthOf_6 ?_
    refine m_iadd C d_Md_monthOf_7 ?_
    obtain ⟨x2, e1, hM⟩ := bnd_some hM
    refine aftR (runV C hP va_S.rf kc_Md sh_83 (Nat.le_of_ble_eq_true rfl) (c_Md_firstOf hI e1) lk_Md_81 mb_Md_firstOf rfl ⟨Nat.le_of_ble_eq_true rfl, Nat.le_of_ble_eq_true rfl⟩ ⟨Nat.zero_le _, Nat.zero_le _⟩ (Nat.le_of_ble_eq_true rfl) d_Md_monthOf_8 hl.1 (rest := [.int (iZ v2)]) rfl) ?_
    refine m_icmp_lt C hM 20 d_Md_monthOf_11 (by decide) (fun hM => ?_) (fun hM => ?_)
    · refine m_iload_n C hl 3 d_Md_monthOf_20 rfl rfl ?_
      exact m_iretR C hr hlk hM d_Md_monthOf_21
    · refine m_iinc C hl 3 [(3, .int (iZ (v3 + 1))), (0, .ref (ad 83)), (1, .int (iZ v1)), (2, .int (iZ v2))] d_Md_monthOf_14 rfl (by decide) rfl (fun ls hl => ?_)
      refine m_goto C 2 d_Md_monthOf_17 (by decide) ?_
      exact ih (v3 + 1) _ (lv_sub hl [1, 2, 3, 0] rfl) hM
set_option maxHeartbeats 4000000 in
set_option maxRecDepth 100000 in
theorem c_Md_monthOf {l : Launch} {D : va_G} {ad : Nat → Nat} {cA : Nat → ClassId} {sd sv : Nat → Nat} {h : Hp} {N : Nat} {a1 a2 : Int} {out : Int} (hI : Inj97 ad) (hM : M_Md_monthOf N h a1 a2 = some out) : Met l y_Md_monthOf (.code y_Md_monthOf prog_13_method_17_code 4 (some .int) :: TT) (rmD 3) (PC D ad cA sd sv h [.ref (ad 83), .int (iZ a1), .int (iZ a2)]) (QR out) 0 0 (fun _ => False) := by
  unfold M_Md_monthOf at hM
  refine entM (by decide +kernel) hI (Nat.le_of_ble_eq_true rfl) ?_
  intro p e s m args below meth c C hr hlk hP ls hl
  have C : Cx p s m args c prog_13_method_17_code 4 "FeastBookModel" D ad cA sd sv (FA ad) := C
  have hl : lv_has ls 4 [(0, .ref (ad 83)), (1, .int (iZ a1)), (2, .int (iZ a2))] := hl
  refine m_iconst C d_Md_monthOf_0 ?_
  refine m_istore_n C hl [(3, .int (iZ 0)), (0, .ref (ad 83)), (1, .int (iZ a1)), (2, .int (iZ a2))] d_Md_monthOf_1 rfl (by decide) rfl (fun ls hl => ?_)
  exact w_Md_monthOf_L2 N hI C hr hlk a1 a2 h hP _ 0 _ (lv_sub hl [1, 2, 3, 0] rfl) hM
def y_Md_day : MethodName := ⟨"FeastBookModel", "day", "(III)I"⟩
theorem d_Md_day_0 : decode prog_13_method_64_code 0 = .ok (.aload_n 0, 1) := by decide +kernel
theorem d_Md_day_1 : decode prog_13_method_64_code 1 = .ok (.aload_n 0, 1) := by decide +kernel
theorem d_Md_day_2 : decode prog_13_method_64_code 2 = .ok (.iload_n 1, 1) := by decide +kernel
theorem d_Md_day_3 : decode prog_13_method_64_code 3 = .ok (.iload_n 2, 1) := by decide +kernel
theorem d_Md_day_4 : decode prog_13_method_64_code 4 = .ok (.invokevirtual 302, 3) := by decide +kernel
theorem d_Md_day_7 : decode prog_13_method_64_code 7 = .ok (.ifCond .ne 7, 3) := by decide +kernel
theorem d_Md_day_10 : decode prog_13_method_64_code 10 = .ok (.iconst 1, 1) := by decide +kernel
theorem d_Md_day_11 : decode prog_13_method_64_code 11 = .ok (.goto 17, 3) := by decide +kernel
theorem d_Md_day_14 : decode prog_13_method_64_code 14 = .ok (.iload_n 3, 1) := by decide +kernel
theorem d_Md_day_15 : decode prog_13_method_64_code 15 = .ok (.iconst 0, 1) := by decide +kernel
theorem d_Md_day_16 : decode prog_13_method_64_code 16 = .ok (.iconst 3, 1) := by decide +kernel
theorem d_Md_day_17 : decode prog_13_method_64_code 17 = .ok (.invokestatic 54, 3) := by decide +kernel
theorem d_Md_day_20 : decode prog_13_method_64_code 20 = .ok (.ifCond .ne 7, 3) := by decide +kernel
theorem d_Md_day_23 : decode prog_13_method_64_code 23 = .ok (.iconst 2, 1) := by decide +kernel
theorem d_Md_day_24 : decode prog_13_method_64_code 24 = .ok (.goto 4, 3) := by decide +kernel
theorem d_Md_day_27 : decode prog_13_method_64_code 27 = .ok (.iconst 0, 1) := by decide +kernel
theorem d_Md_day_28 : decode prog_13_method_64_code 28 = .ok (.putfield 51, 3) := by decide +kernel
theorem d_Md_day_31 : decode prog_13_method_64_code 31 = .ok (.aload_n 0, 1) := by decide +kernel
theorem d_Md_day_32 : decode prog_13_method_64_code 32 = .ok (.getfield 51, 3) := by decide +kernel
theorem d_Md_day_35 : decode prog_13_method_64_code 35 = .ok (.ifCond .le 5, 3) := by decide +kernel
theorem d_Md_day_38 : decode prog_13_method_64_code 38 = .ok (.iconst 0, 1) := by decide +kernel
theorem d_Md_day_39 : decode prog_13_method_64_code 39 = .ok (.ireturn, 1) := by decide +kernel
theorem d_Md_day_40 : decode prog_13_method_64_code 40 = .ok (.iload_n 3, 1) := by decide +kernel
theorem d_Md_day_41 : decode prog_13_method_64_code 41 = .ok (.tableswitch 62 0 2 #[27, 34, 48], 27) := by decide +kernel
theorem d_Md_day_68 : decode prog_13_method_64_code 68 = .ok (.aload_n 0, 1) := by decide +kernel
theorem d_Md_day_69 : decode prog_13_method_64_code 69 = .ok (.iload_n 1, 1) := by decide +kernel
theorem d_Md_day_70 : decode prog_13_method_64_code 70 = .ok (.iload_n 2, 1) := by decide +kernel
theorem d_Md_day_71 : decode prog_13_method_64_code 71 = .ok (.invokevirtual 305, 3) := by decide +kernel
theorem d_Md_day_74 : decode prog_13_method_64_code 74 = .ok (.ireturn, 1) := by decide +kernel
theorem d_Md_day_75 : decode prog_13_method_64_code 75 = .ok (.iload_n 2, 1) := by decide +kernel
theorem d_Md_day_76 : decode prog_13_method_64_code 76 = .ok (.aload_n 0, 1) := by decide +kernel
theorem d_Md_day_77 : decode prog_13_method_64_code 77 = .ok (.iload_n 1, 1) := by decide +kernel
theorem d_Md_day_78 : decode prog_13_method_64_code 78 = .ok (.aload_n 0, 1) := by decide +kernel
theorem d_Md_day_79 : decode prog_13_method_64_code 79 = .ok (.iload_n 1, 1) := by decide +kernel
theorem d_Md_day_80 : decode prog_13_method_64_code 80 = .ok (.iload_n 2, 1) := by decide +kernel
theorem d_Md_day_81 : decode prog_13_method_64_code 81 = .ok (.invokevirtual 305, 3) := by decide +kernel
theorem d_Md_day_84 : decode prog_13_method_64_code 84 = .ok (.invokevirtual 81, 3) := by decide +kernel
theorem d_Md_day_87 : decode prog_13_method_64_code 87 = .ok (.isub, 1) := by decide +kernel
theorem d_Md_day_88 : decode prog_13_method_64_code 88 = .ok (.ireturn, 1) := by decide +kernel
theorem d_Md_day_89 : decode prog_13_method_64_code 89 = .ok (.aload_n 0, 1) := by decide +kernel
theorem d_Md_day_90 : decode prog_13_method_64_code 90 = .ok (.getfield 84, 3) := by decide +kernel
theorem d_Md_day_93 : decode prog_13_method_64_code 93 = .ok (.iload_n 2, 1) := by decide +kernel
theorem d_Md_day_94 : decode prog_13_method_64_code 94 = .ok (.iadd, 1) := by decide +kernel
theorem d_Md_day_95 : decode prog_13_method_64_code 95 = .ok (.aload_n 0, 1) := by decide +kernel
theorem d_Md_day_96 : decode prog_13_method_64_code 96 = .ok (.getfield 7, 3) := by decide +kernel
theorem d_Md_day_99 : decode prog_13_method_64_code 99 = .ok (.iconst 0, 1) := by decide +kernel
theorem d_Md_day_100 : decode prog_13_method_64_code 100 = .ok (.iaload, 1) := by decide +kernel
theorem d_Md_day_101 : decode prog_13_method_64_code 101 = .ok (.irem, 1) := by decide +kernel
theorem d_Md_day_102 : decode prog_13_method_64_code 102 = .ok (.ireturn, 1) := by decide +kernel
theorem d_Md_day_103 : decode prog_13_method_64_code 103 = .ok (.aload_n 0, 1) := by decide +kernel
theorem d_Md_day_104 : decode prog_13_method_64_code 104 = .ok (.iload_n 2, 1) := by decide +kernel
theorem d_Md_day_105 : decode prog_13_method_64_code 105 = .ok (.invokevirtual 125, 3) := by decide +kernel
theorem d_Md_day_108 : decode prog_13_method_64_code 108 = .ok (.ifCond .eq 7, 3) := by decide +kernel
theorem d_Md_day_111 : decode prog_13_method_64_code 111 = .ok (.iconst 1, 1) := by decide +kernel
theorem d_Md_day_112 : decode prog_13_method_64_code 112 = .ok (.goto 4, 3) := by decide +kernel
theorem d_Md_day_115 : decode prog_13_method_64_code 115 = .ok (.iconst 0, 1) := by decide +kernel
theorem d_Md_day_116 : decode prog_13_method_64_code 116 = .ok (.ireturn, 1) := by decide +kernel
theorem mb_Md_isDay : MBv R_Md y_Md_isDay prog_13_method_63_code 3 (some .boolean) 2 := ⟨mT9 192 (by decide +kernel) (by decide +kernel), mTs 64 (by decide +kernel) (by decide +kernel), mT1 10 (by decide +kernel) (by decide +kernel), mT9 193 (by decide +kernel) (by decide +kernel), by decide, rfl, by decide +kernel, by decide +kernel, by decide +kernel⟩
theorem mb_Md_monthOf : MBv R_Md y_Md_monthOf prog_13_method_17_code 4 (some .int) 2 := ⟨mT9 196 (by decide +kernel) (by decide +kernel), mTs 65 (by decide +kernel) (by decide +kernel), mT1 10 (by decide +kernel) (by decide +kernel), mT9 197 (by decide +kernel) (by decide +kernel), by decide, rfl, by decide +kernel, by decide +kernel, by decide +kernel⟩
theorem lk_Md_302 : Cond.methodLink "FeastBookModel" 302 y_Md_isDay ∈ TT := mT9 190 (by decide +kernel) (by decide +kernel)
theorem lk_Md_305 : Cond.methodLink "FeastBookModel" 305 y_Md_monthOf ∈ TT := mT9 194 (by decide +kernel) (by decide +kernel)
set_option maxHeartbeats 4000000 in
set_option maxRecDepth 100000 in
theorem c_Md_day {l : Launch} {D : va_G} {ad : Nat → Nat} {cA : Nat → ClassId} {sd sv : Nat → Nat} {h : Hp} {N : Nat} {a1 a2 a3 : Int} {out : (Int × Hp)} (hI : Inj97 ad) (hM : M_Md_day N h a1 a2 a3 = some out) : Met l y_Md_day (.code y_Md_day prog_13_method_64_code 4 (some .int) :: TT) (rmD 9) (PC D ad cA sd sv h [.ref (ad 83), .int (iZ a1), .int (iZ a2), .int (iZ a3)]) (QI D ad cA out) 0 0 (FA ad) := by
  unfold M_Md_day at hM
  refine entM (by decide +kernel) hI (Nat.le_of_ble_eq_true rfl) ?_
  intro p e s m args below meth c C hr hlk hP ls hl
  have C : Cx p s m args c prog_13_method_64_code 4 "FeastBookModel" D ad cA sd sv (FA ad) := C
  have hl : lv_has ls 4 [(0, .ref (ad 83)), (1, .int (iZ a1)), (2, .int (iZ a2)), (3, .int (iZ a3))] := hl
  have w : Wd s D ad cA (FA ad) h s.heap [] := ⟨hP, va_S.rf⟩
  refine m_aload_n C hl 0 d_Md_day_0 rfl rfl ?_
  refine m_aload_n C hl 0 d_Md_day_1 rfl rfl ?_
  refine m_iload_n C hl 1 d_Md_day_2 rfl rfl ?_
  refine m_iload_n C hl 2 d_Md_day_3 rfl rfl ?_
  obtain ⟨q2, e1, hM⟩ := bnd_some hM
  refine aftI C w (runV C w.1 w.2 kc_Md sh_83 (Nat.le_of_ble_eq_true rfl) (c_Md_isDay hI e1) lk_Md_302 mb_Md_isDay rfl ⟨Nat.le_of_ble_eq_true rfl, Nat.le_of_ble_eq_true rfl⟩ ⟨Nat.zero_le _, Nat.zero_le _⟩ (Nat.le_of_ble_eq_true rfl) d_Md_day_4 hl.1 (rest := [.ref (ad 83)]) rfl) (fun H locs w => ?_)
  refine lt_join hM (fun j5 ej hM => ?_)
  have hJ5 : ∀ (s0_5 : Int), j5 s0_5 = some out → ∀ ls : Array Slot, lv_has ls 4 [(0, .ref (ad 83)), (1, .int (iZ a1)), (2, .int (iZ a2)), (3, .int (iZ a3))] → W p l e (rmD 9) s m args below meth c H locs 0 0 (MQ below (QI D ad cA out) args s 0 0 (FA ad)) (F0 m 28 ls [.int (iZ s0_5), .ref (ad 83)]) := by
    intro s0_5 hM ls hl
    subst ej
    dsimp only at hM
    refine m_puti C w kc_Md sh_83 (Nat.le_of_ble_eq_true rfl) 0 hM rfl (by decide) rfl rfl fk_Md_51 d_Md_day_28 (fun h6 H locs w hM => ?_)
    refine m_aload_n C hl 0 d_Md_day_31 rfl rfl ?_
    refine m_geti C w.1 kc_Md sh_83 (Nat.le_of_ble_eq_true rfl) 0 rfl (by decide) fk_Md_51 d_Md_day_32 ?_
    refine m_if_le C hM 40 d_Md_day_35 (by decide) (fun hM => ?_) (fun hM => ?_)
    · refine m_iload_n C hl 3 d_Md_day_40 rfl rfl ?_
      refine m_swc 0 hM (fun ek hM => ?_) (fun hn0 hM => ?_)
      · refine lv_tableIn C.1 C.2.1 d_Md_day_41 (tgt := 68) (off := 27) (by rw [ek]; decide) (by rw [ek]; decide) (by rw [ek]; rfl) (by decide) ?_
        refine m_aload_n C hl 0 d_Md_day_68 rfl rfl ?_
        refine m_iload_n C hl 1 d_Md_day_69 rfl rfl ?_
        refine m_iload_n C hl 2 d_Md_day_70 rfl rfl ?_
        obtain ⟨x8, e7, hM⟩ := bnd_some hM
        refine aftR (runV C w.1 w.2 kc_Md sh_83 (Nat.le_of_ble_eq_true rfl) (c_Md_monthOf hI e7) lk_Md_305 mb_Md_monthOf rfl ⟨Nat.le_of_ble_eq_true rfl, Nat.le_of_ble_eq_true rfl⟩ ⟨Nat.zero_le _, Nat.zero_le _⟩ (Nat.le_of_ble_eq_true rfl) d_Md_day_71 hl.1 (rest := []) rfl) ?_
        exact m_iretW C w hr hlk hM d_Md_day_74
      · refine m_swc 1 hM (fun ek hM => ?_) (fun hn1 hM => ?_)
        · refine lv_tableIn C.1 C.2.1 d_Md_day_41 (tgt := 75) (off := 34) (by rw [ek]; decide) (by rw [ek]; decide) (by rw [ek]; rfl) (by decide) ?_
          refine m_iload_n C hl 2 d_Md_day_75 rfl rfl ?_
          refine m_aload_n C hl 0 d_Md_day_76 rfl rfl ?_
          refine m_iload_n C hl 1 d_Md_day_77 rfl rfl ?_
          refine m_aload_n C hl 0 d_Md_day_78 rfl rfl ?_
          refine m_iload_n C hl 1 d_Md_day_79 rfl rfl ?_
          refine m_iload_n C hl 2 d_Md_day_80 rfl rfl ?_
          obtain ⟨x10, e9, hM⟩ := bnd_some hM
          refine aftR (runV C w.1 w.2 kc_Md sh_83 (Nat.le_of_ble_eq_true rfl) (c_Md_monthOf hI e9) lk_Md_305 mb_Md_monthOf rfl ⟨Nat.le_of_ble_eq_true rfl, Nat.le_of_ble_eq_true rfl⟩ ⟨Nat.zero_le _, Nat.zero_le _⟩ (Nat.le_of_ble_eq_true rfl) d_Md_day_81 hl.1 (rest := [.int (iZ a1), .ref (ad 83), .int (iZ a2)]) rfl) ?_
          obtain ⟨x12, e11, hM⟩ := bnd_some hM
          refine aftR (runV C w.1 w.2 kc_Md sh_83 (Nat.le_of_ble_eq_true rfl) (c_Md_firstOf hI e11) lk_Md_81 mb_Md_firstOf rfl ⟨Nat.le_of_ble_eq_true rfl, Nat.le_of_ble_eq_true rfl⟩ ⟨Nat.zero_le _, Nat.zero_le _⟩ (Nat.le_of_ble_eq_true rfl) d_Md_day_84 hl.1 (rest := [.int (iZ a2)]) rfl) ?_
          refine m_isub C d_Md_day_87 ?_
          exact m_iretW C w hr hlk hM d_Md_day_88
        · refine m_swc 2 hM (fun ek hM => ?_) (fun hn2 hM => ?_)
          · refine lv_tableIn C.1 C.2.1 d_Md_day_41 (tgt := 89) (off := 48) (by rw [ek]; decide) (by rw [ek]; decide) (by rw [ek]; rfl) (by decide) ?_
            refine m_aload_n C hl 0 d_Md_day_89 rfl rfl ?_
            refine m_geti C w.1 kc_Md sh_83 (Nat.le_of_ble_eq_true rfl) 14 rfl (by decide) fk_Md_84 d_Md_day_90 ?_
            refine m_iload_n C hl 2 d_Md_day_93 rfl rfl ?_
            refine m_iadd C d_Md_day_94 ?_
            refine m_aload_n C hl 0 d_Md_day_95 rfl rfl ?_
            refine m_getr C w.1 kc_Md sh_83 (Nat.le_of_ble_eq_true rfl) 1 84 rfl (by decide) fk_Md_7 d_Md_day_96 ?_
            refine m_iconst C d_Md_day_99 ?_
            refine m_iald C w.1 sh_84 (Nat.le_of_ble_eq_true rfl) (Nat.le_of_ble_eq_true rfl) hM d_Md_day_100 (fun x13 hM => ?_)
            refine m_irem C hM d_Md_day_101 (fun x14 hM => ?_)
            exact m_iretW C w hr hlk hM d_Md_day_102
          · refine lv_tableOut C.1 C.2.1 d_Md_day_41 (tgt := 103) ?_ (by decide) ?_
            · have g0 := lv_neT hn0 (show (iZ 0).toInt = 0 from rfl); have g1 := lv_neT hn1 (show (iZ 1).toInt = 1 from rfl); have g2 := lv_neT hn2 (show (iZ 2).toInt = 2 from rfl); omega
            · refine m_aload_n C hl 0 d_Md_day_103 rfl rfl ?_
              refine m_iload_n C hl 2 d_Md_day_104 rfl rfl ?_
              obtain ⟨x16, e15, hM⟩ := bnd_some hM
              refine aftR (runV C w.1 w.2 kc_Md sh_83 (Nat.le_of_ble_eq_true rfl) (c_Md_isClosed hI e15) lk_Md_125 mb_Md_isClosed rfl ⟨Nat.le_of_ble_eq_true rfl, Nat.le_of_ble_eq_true rfl⟩ ⟨Nat.zero_le _, Nat.zero_le _⟩ (Nat.le_of_ble_eq_true rfl) d_Md_day_105 hl.1 (rest := []) rfl) ?_
              refine m_if_eq C hM 115 d_Md_day_108 (by decide) (fun hM => ?_) (fun hM => ?_)
              · refine m_iconst C d_Md_day_115 ?_
                exact m_iretW C w hr hlk hM d_Md_day_116
              · refine m_iconst C d_Md_day_111 ?_
                refine m_goto C 116 d_Md_day_112 (by decide) ?_
                exact m_iretW C w hr hlk hM d_Md_day_116
    · refine m_iconst C d_Md_day_38 ?_
      exact m_iretW C w hr hlk hM d_Md_day_39
  refine m_if_ne C hM 14 d_Md_day_7 (by decide) (fun hM => ?_) (fun hM => ?_)
  · refine m_iload_n C hl 3 d_Md_day_14 rfl rfl ?_
    refine m_iconst C d_Md_day_15 ?_
    refine m_iconst C d_Md_day_16 ?_
    obtain ⟨x18, e17, hM⟩ := bnd_some hM
    refine aftR (runS C w.1 w.2 (c_Md_isIn hI e17) lk_Md_54 mb_Md_isIn rfl ⟨Nat.le_of_ble_eq_true rfl, Nat.le_of_ble_eq_true rfl⟩ ⟨Nat.zero_le _, Nat.zero_le _⟩ (Nat.le_of_ble_eq_true rfl) d_Md_day_17 hl.1 (rest := [.ref (ad 83)]) rfl) ?_
    refine m_if_ne C hM 27 d_Md_day_20 (by decide) (fun hM => ?_) (fun hM => ?_)
    · refine m_iconst C d_Md_day_27 ?_
      exact hJ5 0 hM _ hl
    · refine m_iconst C d_Md_day_23 ?_
      refine m_goto C 28 d_Md_day_24 (by decide) ?_
      exact hJ5 2 hM _ hl
  · refine m_iconst C d_Md_day_10 ?_
    refine m_goto C 28 d_Md_day_11 (by decide) ?_
    exact hJ5 1 hM _ hl
def y_Md_baseOf : MethodName := ⟨"FeastBookModel", "baseOf", "(II)I"⟩
theorem d_Md_baseOf_0 : decode prog_13_method_65_code 0 = .ok (.aload_n 0, 1) := by decide +kernel
theorem d_Md_baseOf_1 : decode prog_13_method_65_code 1 = .ok (.iload_n 1, 1) := by decide +kernel
theorem d_Md_baseOf_2 : decode prog_13_method_65_code 2 = .ok (.invokevirtual 128, 3) := by decide +kernel
theorem d_Md_baseOf_5 : decode prog_13_method_65_code 5 = .ok (.iload_n 2, 1) := by decide +kernel
theorem d_Md_baseOf_6 : decode prog_13_method_65_code 6 = .ok (.lookupswitch 36 #[(0, 26), (1, 31)], 26) := by decide +kernel
theorem d_Md_baseOf_32 : decode prog_13_method_65_code 32 = .ok (.aload_n 0, 1) := by decide +kernel
theorem d_Md_baseOf_33 : decode prog_13_method_65_code 33 = .ok (.getfield 106, 3) := by decide +kernel
theorem d_Md_baseOf_36 : decode prog_13_method_65_code 36 = .ok (.ireturn, 1) := by decide +kernel
theorem d_Md_baseOf_37 : decode prog_13_method_65_code 37 = .ok (.aload_n 0, 1) := by decide +kernel
theorem d_Md_baseOf_38 : decode prog_13_method_65_code 38 = .ok (.getfield 103, 3) := by decide +kernel
theorem d_Md_baseOf_41 : decode prog_13_method_65_code 41 = .ok (.ireturn, 1) := by decide +kernel
theorem d_Md_baseOf_42 : decode prog_13_method_65_code 42 = .ok (.aload_n 0, 1) := by decide +kernel
theorem d_Md_baseOf_43 : decode prog_13_method_65_code 43 = .ok (.getfield 109, 3) := by decide +kernel
theorem d_Md_baseOf_46 : decode prog_13_method_65_code 46 = .ok (.ireturn, 1) := by decide +kernel
set_option maxHeartbeats 4000000 in
set_option maxRecDepth 100000 in
theorem c_Md_baseOf {l : Launch} {D : va_G} {ad : Nat → Nat} {cA : Nat → ClassId} {sd sv : Nat → Nat} {h : Hp} {N : Nat} {a1 a2 : Int} {out : (Int × Hp)} (hI : Inj97 ad) (hM : M_Md_baseOf N h a1 a2 = some out) : Met l y_Md_baseOf (.code y_Md_baseOf prog_13_method_65_code 3 (some .int) :: TT) (rmD 4) (PC D ad cA sd sv h [.ref (ad 83), .int (iZ a1), .int (iZ a2)]) (QI D ad cA out) 0 0 (FA ad) := by
  unfold M_Md_baseOf at hM
  refine entM (by decide +kernel) hI (Nat.le_of_ble_eq_true rfl) ?_
  intro p e s m args below meth c C hr hlk hP ls hl
  have C : Cx p s m args c prog_13_method_65_code 3 "FeastBookModel" D ad cA sd sv (FA ad) := C
  have hl : lv_has ls 3 [(0, .ref (ad 83)), (1, .int (iZ a1)), (2, .int (iZ a2))] := hl
  have w : Wd s D ad cA (FA ad) h s.heap [] := ⟨hP, va_S.rf⟩
  refine m_aload_n C hl 0 d_Md_baseOf_0 rfl rfl ?_
  refine m_iload_n C hl 1 d_Md_baseOf_1 rfl rfl ?_
  obtain ⟨h2, e1, hM⟩ := bnd_some hM
  refine aftV C w (runV C w.1 w.2 kc_Md sh_83 (Nat.le_of_ble_eq_true rfl) (c_Md_laysBase hI e1) lk_Md_128 mb_Md_laysBase rfl ⟨Nat.le_of_ble_eq_true rfl, Nat.le_of_ble_eq_true rfl⟩ ⟨Nat.zero_le _, Nat.zero_le _⟩ (Nat.le_of_ble_eq_true rfl) d_Md_baseOf_2 hl.1 (rest := []) rfl) (fun H locs w => ?_)
  refine m_iload_n C hl 2 d_Md_baseOf_5 rfl rfl ?_
  refine m_swc 0 hM (fun ek hM => ?_) (fun hn0 hM => ?_)
  · refine lv_lookup C.1 C.2.1 d_Md_baseOf_6 (tgt := 32) (off := 26) (by decide) (by rw [ek]; rfl) (by decide) ?_
    refine m_aload_n C hl 0 d_Md_baseOf_32 rfl rfl ?_
    refine m_geti C w.1 kc_Md sh_83 (Nat.le_of_ble_eq_true rfl) 23 rfl (by decide) fk_Md_106 d_Md_baseOf_33 ?_
    exact m_iretW C w hr hlk hM d_Md_baseOf_36
  · refine m_swc 1 hM (fun ek hM => ?_) (fun hn1 hM => ?_)
    · refine lv_lookup C.1 C.2.1 d_Md_baseOf_6 (tgt := 37) (off := 31) (by decide) (by rw [ek]; rfl) (by decide) ?_
      refine m_aload_n C hl 0 d_Md_baseOf_37 rfl rfl ?_
      refine m_geti C w.1 kc_Md sh_83 (Nat.le_of_ble_eq_true rfl) 22 rfl (by decide) fk_Md_103 d_Md_baseOf_38 ?_
      exact m_iretW C w hr hlk hM d_Md_baseOf_41
    · refine lv_lookup C.1 C.2.1 d_Md_baseOf_6 (tgt := 42) (off := 36) (by decide) ?_ (by decide) ?_
      · rw [lv_osw hn0 (show (iZ 0).toInt = 0 from rfl), lv_osw hn1 (show (iZ 1).toInt = 1 from rfl)]; rfl
      · refine m_aload_n C hl 0 d_Md_baseOf_42 rfl rfl ?_
        refine m_geti C w.1 kc_Md sh_83 (Nat.le_of_ble_eq_true rfl) 24 rfl (by decide) fk_Md_109 d_Md_baseOf_43 ?_
        exact m_iretW C w hr hlk hM d_Md_baseOf_46
def y_Md_office : MethodName := ⟨"FeastBookModel", "office", "(III)I"⟩
theorem d_Md_office_0 : decode prog_13_method_66_code 0 = .ok (.aload_n 0, 1) := by decide +kernel
theorem d_Md_office_1 : decode prog_13_method_66_code 1 = .ok (.aload_n 0, 1) := by decide +kernel
theorem d_Md_office_2 : decode prog_13_method_66_code 2 = .ok (.iload_n 1, 1) := by decide +kernel
theorem d_Md_office_3 : decode prog_13_method_66_code 3 = .ok (.iload_n 2, 1) := by decide +kernel
theorem d_Md_office_4 : decode prog_13_method_66_code 4 = .ok (.invokevirtual 302, 3) := by decide +kernel
theorem d_Md_office_7 : decode prog_13_method_66_code 7 = .ok (.ifCond .ne 7, 3) := by decide +kernel
theorem d_Md_office_10 : decode prog_13_method_66_code 10 = .ok (.iconst 1, 1) := by decide +kernel
theorem d_Md_office_11 : decode prog_13_method_66_code 11 = .ok (.goto 17, 3) := by decide +kernel
theorem d_Md_office_14 : decode prog_13_method_66_code 14 = .ok (.iload_n 3, 1) := by decide +kernel
theorem d_Md_office_15 : decode prog_13_method_66_code 15 = .ok (.iconst 0, 1) := by decide +kernel
theorem d_Md_office_16 : decode prog_13_method_66_code 16 = .ok (.iconst 2, 1) := by decide +kernel
theorem d_Md_office_17 : decode prog_13_method_66_code 17 = .ok (.invokestatic 54, 3) := by decide +kernel
theorem d_Md_office_20 : decode prog_13_method_66_code 20 = .ok (.ifCond .ne 7, 3) := by decide +kernel
theorem d_Md_office_23 : decode prog_13_method_66_code 23 = .ok (.iconst 2, 1) := by decide +kernel
theorem d_Md_office_24 : decode prog_13_method_66_code 24 = .ok (.goto 4, 3) := by decide +kernel
theorem d_Md_office_27 : decode prog_13_method_66_code 27 = .ok (.iconst 0, 1) := by decide +kernel
theorem d_Md_office_28 : decode prog_13_method_66_code 28 = .ok (.putfield 51, 3) := by decide +kernel
theorem d_Md_office_31 : decode prog_13_method_66_code 31 = .ok (.aload_n 0, 1) := by decide +kernel
theorem d_Md_office_32 : decode prog_13_method_66_code 32 = .ok (.getfield 51, 3) := by decide +kernel
theorem d_Md_office_35 : decode prog_13_method_66_code 35 = .ok (.ifCond .le 5, 3) := by decide +kernel
theorem d_Md_office_38 : decode prog_13_method_66_code 38 = .ok (.iconst 0, 1) := by decide +kernel
theorem d_Md_office_39 : decode prog_13_method_66_code 39 = .ok (.ireturn, 1) := by decide +kernel
theorem d_Md_office_40 : decode prog_13_method_66_code 40 = .ok (.aload_n 0, 1) := by decide +kernel
theorem d_Md_office_41 : decode prog_13_method_66_code 41 = .ok (.getfield 38, 3) := by decide +kernel
theorem d_Md_office_44 : decode prog_13_method_66_code 44 = .ok (.iload_n 2, 1) := by decide +kernel
theorem d_Md_office_45 : decode prog_13_method_66_code 45 = .ok (.iaload, 1) := by decide +kernel
theorem d_Md_office_46 : decode prog_13_method_66_code 46 = .ok (.iconst (-1), 1) := by decide +kernel
theorem d_Md_office_47 : decode prog_13_method_66_code 47 = .ok (.if_icmp .ne 10, 3) := by decide +kernel
theorem d_Md_office_50 : decode prog_13_method_66_code 50 = .ok (.aload_n 0, 1) := by decide +kernel
theorem d_Md_office_51 : decode prog_13_method_66_code 51 = .ok (.iload_n 2, 1) := by decide +kernel
theorem d_Md_office_52 : decode prog_13_method_66_code 52 = .ok (.iload_n 3, 1) := by decide +kernel
theorem d_Md_office_53 : decode prog_13_method_66_code 53 = .ok (.invokevirtual 308, 3) := by decide +kernel
theorem d_Md_office_56 : decode prog_13_method_66_code 56 = .ok (.ireturn, 1) := by decide +kernel
theorem d_Md_office_57 : decode prog_13_method_66_code 57 = .ok (.iload_n 3, 1) := by decide +kernel
theorem d_Md_office_58 : decode prog_13_method_66_code 58 = .ok (.lookupswitch 40 #[(0, 26), (1, 28)], 26) := by decide +kernel
theorem d_Md_office_84 : decode prog_13_method_66_code 84 = .ok (.iconst 4, 1) := by decide +kernel
theorem d_Md_office_85 : decode prog_13_method_66_code 85 = .ok (.ireturn, 1) := by decide +kernel
theorem d_Md_office_86 : decode prog_13_method_66_code 86 = .ok (.aload_n 0, 1) := by decide +kernel
theorem d_Md_office_87 : decode prog_13_method_66_code 87 = .ok (.aload_n 0, 1) := by decide +kernel
theorem d_Md_office_88 : decode prog_13_method_66_code 88 = .ok (.getfield 38, 3) := by decide +kernel
theorem d_Md_office_91 : decode prog_13_method_66_code 91 = .ok (.iload_n 2, 1) := by decide +kernel
theorem d_Md_office_92 : decode prog_13_method_66_code 92 = .ok (.iaload, 1) := by decide +kernel
theorem d_Md_office_93 : decode prog_13_method_66_code 93 = .ok (.iconst 0, 1) := by decide +kernel
theorem d_Md_office_94 : decode prog_13_method_66_code 94 = .ok (.invokevirtual 90, 3) := by decide +kernel
theorem d_Md_office_97 : decode prog_13_method_66_code 97 = .ok (.ireturn, 1) := by decide +kernel
theorem d_Md_office_98 : decode prog_13_method_66_code 98 = .ok (.aload_n 0, 1) := by decide +kernel
theorem d_Md_office_99 : decode prog_13_method_66_code 99 = .ok (.getfield 38, 3) := by decide +kernel
theorem d_Md_office_102 : decode prog_13_method_66_code 102 = .ok (.iload_n 2, 1) := by decide +kernel
theorem d_Md_office_103 : decode prog_13_method_66_code 103 = .ok (.iaload, 1) := by decide +kernel
theorem d_Md_office_104 : decode prog_13_method_66_code 104 = .ok (.ireturn, 1) := by decide +kernel
theorem mb_Md_baseOf : MBv R_Md y_Md_baseOf prog_13_method_65_code 3 (some .int) 2 := ⟨mT9 204 (by decide +kernel) (by decide +kernel), mTs 66 (by decide +kernel) (by decide +kernel), mT1 10 (by decide +kernel) (by decide +kernel), mT9 205 (by decide +kernel) (by decide +kernel), by decide, rfl, by decide +kernel, by decide +kernel, by decide +kernel⟩
theorem lk_Md_308 : Cond.methodLink "FeastBookModel" 308 y_Md_baseOf ∈ TT := mT9 202 (by decide +kernel) (by decide +kernel)
set_option maxHeartbeats 4000000 in
set_option maxRecDepth 100000 in
theorem c_Md_office {l : Launch} {D : va_G} {ad : Nat → Nat} {cA : Nat → ClassId} {sd sv : Nat → Nat} {h : Hp} {N : Nat} {a1 a2 a3 : Int} {out : (Int × Hp)} (hI : Inj97 ad) (hM : M_Md_office N h a1 a2 a3 = some out) : Met l y_Md_office (.code y_Md_office prog_13_method_66_code 4 (some .int) :: TT) (rmD 9) (PC D ad cA sd sv h [.ref (ad 83), .int (iZ a1), .int (iZ a2), .int (iZ a3)]) (QI D ad cA out) 0 0 (FA ad) := by
  unfold M_Md_office at hM
  refine entM (by decide +kernel) hI (Nat.le_of_ble_eq_true rfl) ?_
  intro p e s m args below meth c C hr hlk hP ls hl
  have C : Cx p s m args c prog_13_method_66_code 4 "FeastBookModel" D ad cA sd sv (FA ad) := C
  have hl : lv_has ls 4 [(0, .ref (ad 83)), (1, .int (iZ a1)), (2, .int (iZ a2)), (3, .int (iZ a3))] := hl
  have w : Wd s D ad cA (FA ad) h s.heap [] := ⟨hP, va_S.rf⟩
  refine m_aload_n C hl 0 d_Md_office_0 rfl rfl ?_
  refine m_aload_n C hl 0 d_Md_office_1 rfl rfl ?_
  refine m_iload_n C hl 1 d_Md_office_2 rfl rfl ?_
  refine m_iload_n C hl 2 d_Md_office_3 rfl rfl ?_
  obtain ⟨q2, e1, hM⟩ := bnd_some hM
  refine aftI C w (runV C w.1 w.2 kc_Md sh_83 (Nat.le_of_ble_eq_true rfl) (c_Md_isDay hI e1) lk_Md_302 mb_Md_isDay rfl ⟨Nat.le_of_ble_eq_true rfl, Nat.le_of_ble_eq_true rfl⟩ ⟨Nat.zero_le _, Nat.zero_le _⟩ (Nat.le_of_ble_eq_true rfl) d_Md_office_4 hl.1 (rest := [.ref (ad 83)]) rfl) (fun H locs w => ?_)
  refine lt_join hM (fun j5 ej hM => ?_)
  have hJ5 : ∀ (s0_5 : Int), j5 s0_5 = some out → ∀ ls : Array Slot, lv_has ls 4 [(0, .ref (ad 83)), (1, .int (iZ a1)), (2, .int (iZ a2)), (3, .int (iZ a3))] → W p l e (rmD 9) s m args below meth c H locs 0 0 (MQ below (QI D ad cA out) args s 0 0 (FA ad)) (F0 m 28 ls [.int (iZ s0_5), .ref (ad 83)]) := by
    intro s0_5 hM ls hl
    subst ej
    dsimp only at hM
    refine m_puti C w kc_Md sh_83 (Nat.le_of_ble_eq_true rfl) 0 hM rfl (by decide) rfl rfl fk_Md_51 d_Md_office_28 (fun h6 H locs w hM => ?_)
    refine m_aload_n C hl 0 d_Md_office_31 rfl rfl ?_
    refine m_geti C w.1 kc_Md sh_83 (Nat.le_of_ble_eq_true rfl) 0 rfl (by decide) fk_Md_51 d_Md_office_32 ?_
    refine m_if_le C hM 40 d_Md_office_35 (by decide) (fun hM => ?_) (fun hM => ?_)
    · refine m_aload_n C hl 0 d_Md_office_40 rfl rfl ?_
      refine m_getr C w.1 kc_Md sh_83 (Nat.le_of_ble_eq_true rfl) 19 92 rfl (by decide) fk_Md_38 d_Md_office_41 ?_
      refine m_iload_n C hl 2 d_Md_office_44 rfl rfl ?_
      refine m_iald C w.1 sh_92 (Nat.le_of_ble_eq_true rfl) (Nat.le_of_ble_eq_true rfl) hM d_Md_office_45 (fun x7 hM => ?_)
      refine m_iconst C d_Md_office_46 ?_
      refine m_icmp_ne C hM 57 d_Md_office_47 (by decide) (fun hM => ?_) (fun hM => ?_)
      · refine m_iload_n C hl 3 d_Md_office_57 rfl rfl ?_
        refine m_swc 0 hM (fun ek hM => ?_) (fun hn0 hM => ?_)
        · refine lv_lookup C.1 C.2.1 d_Md_office_58 (tgt := 84) (off := 26) (by decide) (by rw [ek]; rfl) (by decide) ?_
          refine m_iconst C d_Md_office_84 ?_
          exact m_iretW C w hr hlk hM d_Md_office_85
        · refine m_swc 1 hM (fun ek hM => ?_) (fun hn1 hM => ?_)
          · refine lv_lookup C.1 C.2.1 d_Md_office_58 (tgt := 86) (off := 28) (by decide) (by rw [ek]; rfl) (by decide) ?_
            refine m_aload_n C hl 0 d_Md_office_86 rfl rfl ?_
            refine m_aload_n C hl 0 d_Md_office_87 rfl rfl ?_
            refine m_getr C w.1 kc_Md sh_83 (Nat.le_of_ble_eq_true rfl) 19 92 rfl (by decide) fk_Md_38 d_Md_office_88 ?_
            refine m_iload_n C hl 2 d_Md_office_91 rfl rfl ?_
            refine m_iald C w.1 sh_92 (Nat.le_of_ble_eq_true rfl) (Nat.le_of_ble_eq_true rfl) hM d_Md_office_92 (fun x8 hM => ?_)
            refine m_iconst C d_Md_office_93 ?_
            obtain ⟨x10, e9, hM⟩ := bnd_some hM
            refine aftR (runV C w.1 w.2 kc_Md sh_83 (Nat.le_of_ble_eq_true rfl) (c_Md_of0 hI e9) lk_Md_90 mb_Md_of0 rfl ⟨Nat.le_of_ble_eq_true rfl, Nat.le_of_ble_eq_true rfl⟩ ⟨Nat.zero_le _, Nat.zero_le _⟩ (Nat.le_of_ble_eq_true rfl) d_Md_office_94 hl.1 (rest := []) rfl) ?_
            exact m_iretW C w hr hlk hM d_Md_office_97
          · refine lv_lookup C.1 C.2.1 d_Md_office_58 (tgt := 98) (off := 40) (by decide) ?_ (by decide) ?_
            · rw [lv_osw hn0 (show (iZ 0).toInt = 0 from rfl), lv_osw hn1 (show (iZ 1).toInt = 1 from rfl)]; rfl
            · refine m_aload_n C hl 0 d_Md_office_98 rfl rfl ?_
              refine m_getr C w.1 kc_Md sh_83 (Nat.le_of_ble_eq_true rfl) 19 92 rfl (by decide) fk_Md_38 d_Md_office_99 ?_
              refine m_iload_n C hl 2 d_Md_office_102 rfl rfl ?_
              refine m_iald C w.1 sh_92 (Nat.le_of_ble_eq_true rfl) (Nat.le_of_ble_eq_true rfl) hM d_Md_office_103 (fun x11 hM => ?_)
              exact m_iretW C w hr hlk hM d_Md_office_104
      · refine m_aload_n C hl 0 d_Md_office_50 rfl rfl ?_
        refine m_iload_n C hl 2 d_Md_office_51 rfl rfl ?_
        refine m_iload_n C hl 3 d_Md_office_52 rfl rfl ?_
        obtain ⟨q13, e12, hM⟩ := bnd_some hM
        refine aftI C w (runV C w.1 w.2 kc_Md sh_83 (Nat.le_of_ble_eq_true rfl) (c_Md_baseOf hI e12) lk_Md_308 mb_Md_baseOf rfl ⟨Nat.le_of_ble_eq_true rfl, Nat.le_of_ble_eq_true rfl⟩ ⟨Nat.zero_le _, Nat.zero_le _⟩ (Nat.le_of_ble_eq_true rfl) d_Md_office_53 hl.1 (rest := []) rfl) (fun H locs w => ?_)
        exact m_iretW C w hr hlk hM d_Md_office_56
    · refine m_iconst C d_Md_office_38 ?_
      exact m_iretW C w hr hlk hM d_Md_office_39
  refine m_if_ne C hM 14 d_Md_office_7 (by decide) (fun hM => ?_) (fun hM => ?_)
  · refine m_iload_n C hl 3 d_Md_office_14 rfl rfl ?_
    refine m_iconst C d_Md_office_15 ?_
    refine m_iconst C d_Md_office_16 ?_
    obtain ⟨x15, e14, hM⟩ := bnd_some hM
    refine aftR (runS C w.1 w.2 (c_Md_isIn hI e14) lk_Md_54 mb_Md_isIn rfl ⟨Nat.le_of_ble_eq_true rfl, Nat.le_of_ble_eq_true rfl⟩ ⟨Nat.zero_le _, Nat.zero_le _⟩ (Nat.le_of_ble_eq_true rfl) d_Md_office_17 hl.1 (rest := [.ref (ad 83)]) rfl) ?_
    refine m_if_ne C hM 27 d_Md_office_20 (by decide) (fun hM => ?_) (fun hM => ?_)
    · refine m_iconst C d_Md_office_27 ?_
      exact hJ5 0 hM _ hl
    · refine m_iconst C d_Md_office_23 ?_
      refine m_goto C 28 d_Md_office_24 (by decide) ?_
      exact hJ5 2 hM _ hl
  · refine m_iconst C d_Md_office_10 ?_
    refine m_goto C 28 d_Md_office_11 (by decide) ?_
    exact hJ5 1 hM _ hl
def y_Md_base : MethodName := ⟨"FeastBookModel", "base", "(III)I"⟩
theorem d_Md_base_0 : decode prog_13_method_67_code 0 = .ok (.aload_n 0, 1) := by decide +kernel
theorem d_Md_base_1 : decode prog_13_method_67_code 1 = .ok (.aload_n 0, 1) := by decide +kernel
theorem d_Md_base_2 : decode prog_13_method_67_code 2 = .ok (.iload_n 1, 1) := by decide +kernel
theorem d_Md_base_3 : decode prog_13_method_67_code 3 = .ok (.iload_n 2, 1) := by decide +kernel
theorem d_Md_base_4 : decode prog_13_method_67_code 4 = .ok (.invokevirtual 302, 3) := by decide +kernel
theorem d_Md_base_7 : decode prog_13_method_67_code 7 = .ok (.ifCond .ne 7, 3) := by decide +kernel
theorem d_Md_base_10 : decode prog_13_method_67_code 10 = .ok (.iconst 1, 1) := by decide +kernel
theorem d_Md_base_11 : decode prog_13_method_67_code 11 = .ok (.goto 17, 3) := by decide +kernel
theorem d_Md_base_14 : decode prog_13_method_67_code 14 = .ok (.iload_n 3, 1) := by decide +kernel
theorem d_Md_base_15 : decode prog_13_method_67_code 15 = .ok (.iconst 0, 1) := by decide +kernel
theorem d_Md_base_16 : decode prog_13_method_67_code 16 = .ok (.iconst 2, 1) := by decide +kernel
theorem d_Md_base_17 : decode prog_13_method_67_code 17 = .ok (.invokestatic 54, 3) := by decide +kernel
theorem d_Md_base_20 : decode prog_13_method_67_code 20 = .ok (.ifCond .ne 7, 3) := by decide +kernel
theorem d_Md_base_23 : decode prog_13_method_67_code 23 = .ok (.iconst 2, 1) := by decide +kernel
theorem d_Md_base_24 : decode prog_13_method_67_code 24 = .ok (.goto 4, 3) := by decide +kernel
theorem d_Md_base_27 : decode prog_13_method_67_code 27 = .ok (.iconst 0, 1) := by decide +kernel
theorem d_Md_base_28 : decode prog_13_method_67_code 28 = .ok (.putfield 51, 3) := by decide +kernel
theorem d_Md_base_31 : decode prog_13_method_67_code 31 = .ok (.aload_n 0, 1) := by decide +kernel
theorem d_Md_base_32 : decode prog_13_method_67_code 32 = .ok (.getfield 51, 3) := by decide +kernel
theorem d_Md_base_35 : decode prog_13_method_67_code 35 = .ok (.ifCond .le 7, 3) := by decide +kernel
theorem d_Md_base_38 : decode prog_13_method_67_code 38 = .ok (.iconst 0, 1) := by decide +kernel
theorem d_Md_base_39 : decode prog_13_method_67_code 39 = .ok (.goto 9, 3) := by decide +kernel
theorem d_Md_base_42 : decode prog_13_method_67_code 42 = .ok (.aload_n 0, 1) := by decide +kernel
theorem d_Md_base_43 : decode prog_13_method_67_code 43 = .ok (.iload_n 2, 1) := by decide +kernel
theorem d_Md_base_44 : decode prog_13_method_67_code 44 = .ok (.iload_n 3, 1) := by decide +kernel
theorem d_Md_base_45 : decode prog_13_method_67_code 45 = .ok (.invokevirtual 308, 3) := by decide +kernel
theorem d_Md_base_48 : decode prog_13_method_67_code 48 = .ok (.ireturn, 1) := by decide +kernel
set_option maxHeartbeats 4000000 in
set_option maxRecDepth 100000 in
theorem c_Md_base {l : Launch} {D : va_G} {ad : Nat → Nat} {cA : Nat → ClassId} {sd sv : Nat → Nat} {h : Hp} {N : Nat} {a1 a2 a3 : Int} {out : (Int × Hp)} (hI : Inj97 ad) (hM : M_Md_base N h a1 a2 a3 = some out) : Met l y_Md_base (.code y_Md_base prog_13_method_67_code 4 (some .int) :: TT) (rmD 9) (PC D ad cA sd sv h [.ref (ad 83), .int (iZ a1), .int (iZ a2), .int (iZ a3)]) (QI D ad cA out) 0 0 (FA ad) := by
  unfold M_Md_base at hM
  refine entM (by decide +kernel) hI (Nat.le_of_ble_eq_true rfl) ?_
  intro p e s m args below meth c C hr hlk hP ls hl
  have C : Cx p s m args c prog_13_method_67_code 4 "FeastBookModel" D ad cA sd sv (FA ad) := C
  have hl : lv_has ls 4 [(0, .ref (ad 83)), (1, .int (iZ a1)), (2, .int (iZ a2)), (3, .int (iZ a3))] := hl
  have w : Wd s D ad cA (FA ad) h s.heap [] := ⟨hP, va_S.rf⟩
  refine m_aload_n C hl 0 d_Md_base_0 rfl rfl ?_
  refine m_aload_n C hl 0 d_Md_base_1 rfl rfl ?_
  refine m_iload_n C hl 1 d_Md_base_2 rfl rfl ?_
  refine m_iload_n C hl 2 d_Md_base_3 rfl rfl ?_
  obtain ⟨q2, e1, hM⟩ := bnd_some hM
  refine aftI C w (runV C w.1 w.2 kc_Md sh_83 (Nat.le_of_ble_eq_true rfl) (c_Md_isDay hI e1) lk_Md_302 mb_Md_isDay rfl ⟨Nat.le_of_ble_eq_true rfl, Nat.le_of_ble_eq_true rfl⟩ ⟨Nat.zero_le _, Nat.zero_le _⟩ (Nat.le_of_ble_eq_true rfl) d_Md_base_4 hl.1 (rest := [.ref (ad 83)]) rfl) (fun H locs w => ?_)
  refine m_if_ne C hM 14 d_Md_base_7 (by decide) (fun hM => ?_) (fun hM => ?_)
  · refine m_iload_n C hl 3 d_Md_base_14 rfl rfl ?_
    refine m_iconst C d_Md_base_15 ?_
    refine m_iconst C d_Md_base_16 ?_
    obtain ⟨x4, e3, hM⟩ := bnd_some hM
    refine aftR (runS C w.1 w.2 (c_Md_isIn hI e3) lk_Md_54 mb_Md_isIn rfl ⟨Nat.le_of_ble_eq_true rfl, Nat.le_of_ble_eq_true rfl⟩ ⟨Nat.zero_le _, Nat.zero_le _⟩ (Nat.le_of_ble_eq_true rfl) d_Md_base_17 hl.1 (rest := [.ref (ad 83)]) rfl) ?_
    refine m_if_ne C hM 27 d_Md_base_20 (by decide) (fun hM => ?_) (fun hM => ?_)
    · refine m_iconst C d_Md_base_27 ?_
      refine m_puti C w kc_Md sh_83 (Nat.le_of_ble_eq_true rfl) 0 hM rfl (by decide) rfl rfl fk_Md_51 d_Md_base_28 (fun h5 H locs w hM => ?_)
      refine m_aload_n C hl 0 d_Md_base_31 rfl rfl ?_
      refine m_geti C w.1 kc_Md sh_83 (Nat.le_of_ble_eq_true rfl) 0 rfl (by decide) fk_Md_51 d_Md_base_32 ?_
      refine m_if_le C hM 42 d_Md_base_35 (by decide) (fun hM => ?_) (fun hM => ?_)
      · refine m_aload_n C hl 0 d_Md_base_42 rfl rfl ?_
        refine m_iload_n C hl 2 d_Md_base_43 rfl rfl ?_
        refine m_iload_n C hl 3 d_Md_base_44 rfl rfl ?_
        obtain ⟨q7, e6, hM⟩ := bnd_some hM
        refine aftI C w (runV C w.1 w.2 kc_Md sh_83 (Nat.le_of_ble_eq_true rfl) (c_Md_baseOf hI e6) lk_Md_308 mb_Md_baseOf rfl ⟨Nat.le_of_ble_eq_true rfl, Nat.le_of_ble_eq_true rfl⟩ ⟨Nat.zero_le _, Nat.zero_le _⟩ (Nat.le_of_ble_eq_true rfl) d_Md_base_45 hl.1 (rest := []) rfl) (fun H locs w => ?_)
        exact m_iretW C w hr hlk hM d_Md_base_48
      · refine m_iconst C d_Md_base_38 ?_
        refine m_goto C 48 d_Md_base_39 (by decide) ?_
        exact m_iretW C w hr hlk hM d_Md_base_48
    · refine m_iconst C d_Md_base_23 ?_
      refine m_goto C 28 d_Md_base_24 (by decide) ?_
      refine m_puti C w kc_Md sh_83 (Nat.le_of_ble_eq_true rfl) 0 hM rfl (by decide) rfl rfl fk_Md_51 d_Md_base_28 (fun h8 H locs w hM => ?_)
      refine m_aload_n C hl 0 d_Md_base_31 rfl rfl ?_
      refine m_geti C w.1 kc_Md sh_83 (Nat.le_of_ble_eq_true rfl) 0 rfl (by decide) fk_Md_51 d_Md_base_32 ?_
      refine m_if_le C hM 42 d_Md_base_35 (by decide) (fun hM => ?_) (fun hM => ?_)
      · refine m_aload_n C hl 0 d_Md_base_42 rfl rfl ?_
        refine m_iload_n C hl 2 d_Md_base_43 rfl rfl ?_
        refine m_iload_n C hl 3 d_Md_base_44 rfl rfl ?_
        obtain ⟨q10, e9, hM⟩ := bnd_some hM
        refine aftI C w (runV C w.1 w.2 kc_Md sh_83 (Nat.le_of_ble_eq_true rfl) (c_Md_baseOf hI e9) lk_Md_308 mb_Md_baseOf rfl ⟨Nat.le_of_ble_eq_true rfl, Nat.le_of_ble_eq_true rfl⟩ ⟨Nat.zero_le _, Nat.zero_le _⟩ (Nat.le_of_ble_eq_true rfl) d_Md_base_45 hl.1 (rest := []) rfl) (fun H locs w => ?_)
        exact m_iretW C w hr hlk hM d_Md_base_48
      · refine m_iconst C d_Md_base_38 ?_
        refine m_goto C 48 d_Md_base_39 (by decide) ?_
        exact m_iretW C w hr hlk hM d_Md_base_48
  · refine m_iconst C d_Md_base_10 ?_
    refine m_goto C 28 d_Md_base_11 (by decide) ?_
    refine m_puti C w kc_Md sh_83 (Nat.le_of_ble_eq_true rfl) 0 hM rfl (by decide) rfl rfl fk_Md_51 d_Md_base_28 (fun h11 H locs w hM => ?_)
    refine m_aload_n C hl 0 d_Md_base_31 rfl rfl ?_
    refine m_geti C w.1 kc_Md sh_83 (Nat.le_of_ble_eq_true rfl) 0 rfl (by decide) fk_Md_51 d_Md_base_32 ?_
    refine m_if_le C hM 42 d_Md_base_35 (by decide) (fun hM => ?_) (fun hM => ?_)
    · refine m_aload_n C hl 0 d_Md_base_42 rfl rfl ?_
      refine m_iload_n C hl 2 d_Md_base_43 rfl rfl ?_
      refine m_iload_n C hl 3 d_Md_base_44 rfl rfl ?_
      obtain ⟨q13, e12, hM⟩ := bnd_some hM
      refine aftI C w (runV C w.1 w.2 kc_Md sh_83 (Nat.le_of_ble_eq_true rfl) (c_Md_baseOf hI e12) lk_Md_308 mb_Md_baseOf rfl ⟨Nat.le_of_ble_eq_true rfl, Nat.le_of_ble_eq_true rfl⟩ ⟨Nat.zero_le _, Nat.zero_le _⟩ (Nat.le_of_ble_eq_true rfl) d_Md_base_45 hl.1 (rest := []) rfl) (fun H locs w => ?_)
      exact m_iretW C w hr hlk hM d_Md_base_48
    · refine m_iconst C d_Md_base_38 ?_
      refine m_goto C 48 d_Md_base_39 (by decide) ?_
      exact m_iretW C w hr hlk hM d_Md_base_48
def y_Md_fast : MethodName := ⟨"FeastBookModel", "fast", "(II)Z"⟩
theorem d_Md_fast_0 : decode prog_13_method_68_code 0 = .ok (.aload_n 0, 1) := by decide +kernel
theorem d_Md_fast_1 : decode prog_13_method_68_code 1 = .ok (.aload_n 0, 1) := by decide +kernel
theorem d_Md_fast_2 : decode prog_13_method_68_code 2 = .ok (.iload_n 1, 1) := by decide +kernel
theorem d_Md_fast_3 : decode prog_13_method_68_code 3 = .ok (.iload_n 2, 1) := by decide +kernel
theorem d_Md_fast_4 : decode prog_13_method_68_code 4 = .ok (.invokevirtual 302, 3) := by decide +kernel
theorem d_Md_fast_7 : decode prog_13_method_68_code 7 = .ok (.ifCond .eq 7, 3) := by decide +kernel
theorem d_Md_fast_10 : decode prog_13_method_68_code 10 = .ok (.iconst 0, 1) := by decide +kernel
theorem d_Md_fast_11 : decode prog_13_method_68_code 11 = .ok (.goto 4, 3) := by decide +kernel
theorem d_Md_fast_14 : decode prog_13_method_68_code 14 = .ok (.iconst 1, 1) := by decide +kernel
theorem d_Md_fast_15 : decode prog_13_method_68_code 15 = .ok (.putfield 51, 3) := by decide +kernel
theorem d_Md_fast_18 : decode prog_13_method_68_code 18 = .ok (.aload_n 0, 1) := by decide +kernel
theorem d_Md_fast_19 : decode prog_13_method_68_code 19 = .ok (.getfield 51, 3) := by decide +kernel
theorem d_Md_fast_22 : decode prog_13_method_68_code 22 = .ok (.ifCond .ne 15, 3) := by decide +kernel
theorem d_Md_fast_25 : decode prog_13_method_68_code 25 = .ok (.aload_n 0, 1) := by decide +kernel
theorem d_Md_fast_26 : decode prog_13_method_68_code 26 = .ok (.iload_n 2, 1) := by decide +kernel
theorem d_Md_fast_27 : decode prog_13_method_68_code 27 = .ok (.invokevirtual 274, 3) := by decide +kernel
theorem d_Md_fast_30 : decode prog_13_method_68_code 30 = .ok (.ifCond .eq 7, 3) := by decide +kernel
theorem d_Md_fast_33 : decode prog_13_method_68_code 33 = .ok (.iconst 1, 1) := by decide +kernel
theorem d_Md_fast_34 : decode prog_13_method_68_code 34 = .ok (.goto 4, 3) := by decide +kernel
theorem d_Md_fast_37 : decode prog_13_method_68_code 37 = .ok (.iconst 0, 1) := by decide +kernel
theorem d_Md_fast_38 : decode prog_13_method_68_code 38 = .ok (.ireturn, 1) := by decide +kernel
set_option maxHeartbeats 4000000 in
set_option maxRecDepth 100000 in
theorem c_Md_fast {l : Launch} {D : va_G} {ad : Nat → Nat} {cA : Nat → ClassId} {sd sv : Nat → Nat} {h : Hp} {N : Nat} {a1 a2 : Int} {out : (Int × Hp)} (hI : Inj97 ad) (hM : M_Md_fast N h a1 a2 = some out) : Met l y_Md_fast (.code y_Md_fast prog_13_method_68_code 3 (some .boolean) :: TT) (rmD 9) (PC D ad cA sd sv h [.ref (ad 83), .int (iZ a1), .int (iZ a2)]) (QI D ad cA out) 0 0 (FA ad) := by
  unfold M_Md_fast at hM
  refine entM (by decide +kernel) hI (Nat.le_of_ble_eq_true rfl) ?_
  intro p e s m args below meth c C hr hlk hP ls hl
  have C : Cx p s m args c prog_13_method_68_code 3 "FeastBookModel" D ad cA sd sv (FA ad) := C
  have hl : lv_has ls 3 [(0, .ref (ad 83)), (1, .int (iZ a1)), (2, .int (iZ a2))] := hl
  have w : Wd s D ad cA (FA ad) h s.heap [] := ⟨hP, va_S.rf⟩
  refine m_aload_n C hl 0 d_Md_fast_0 rfl rfl ?_
  refine m_aload_n C hl 0 d_Md_fast_1 rfl rfl ?_
  refine m_iload_n C hl 1 d_Md_fast_2 rfl rfl ?_
  refine m_iload_n C hl 2 d_Md_fast_3 rfl rfl ?_
  obtain ⟨q2, e1, hM⟩ := bnd_some hM
  refine aftI C w (runV C w.1 w.2 kc_Md sh_83 (Nat.le_of_ble_eq_true rfl) (c_Md_isDay hI e1) lk_Md_302 mb_Md_isDay rfl ⟨Nat.le_of_ble_eq_true rfl, Nat.le_of_ble_eq_true rfl⟩ ⟨Nat.zero_le _, Nat.zero_le _⟩ (Nat.le_of_ble_eq_true rfl) d_Md_fast_4 hl.1 (rest := [.ref (ad 83)]) rfl) (fun H locs w => ?_)
  refine m_if_eq C hM 14 d_Md_fast_7 (by decide) (fun hM => ?_) (fun hM => ?_)
  · refine m_iconst C d_Md_fast_14 ?_
    refine m_puti C w kc_Md sh_83 (Nat.le_of_ble_eq_true rfl) 0 hM rfl (by decide) rfl rfl fk_Md_51 d_Md_fast_15 (fun h3 H locs w hM => ?_)
    refine m_aload_n C hl 0 d_Md_fast_18 rfl rfl ?_
    refine m_geti C w.1 kc_Md sh_83 (Nat.le_of_ble_eq_true rfl) 0 rfl (by decide) fk_Md_51 d_Md_fast_19 ?_
    refine m_if_ne C hM 37 d_Md_fast_22 (by decide) (fun hM => ?_) (fun hM => ?_)
    · refine m_iconst C d_Md_fast_37 ?_
      exact m_zretW C w hr hlk hM d_Md_fast_38
    · refine m_aload_n C hl 0 d_Md_fast_25 rfl rfl ?_
      refine m_iload_n C hl 2 d_Md_fast_26 rfl rfl ?_
      obtain ⟨x5, e4, hM⟩ := bnd_some hM
      refine aftR (runV C w.1 w.2 kc_Md sh_83 (Nat.le_of_ble_eq_true rfl) (c_Md_isFast hI e4) lk_Md_274 mb_Md_isFast rfl ⟨Nat.le_of_ble_eq_true rfl, Nat.le_of_ble_eq_true rfl⟩ ⟨Nat.zero_le _, Nat.zero_le _⟩ (Nat.le_of_ble_eq_true rfl) d_Md_fast_27 hl.1 (rest := []) rfl) ?_
      refine m_if_eq C hM 37 d_Md_fast_30 (by decide) (fun hM => ?_) (fun hM => ?_)
      · refine m_iconst C d_Md_fast_37 ?_
        exact m_zretW C w hr hlk hM d_Md_fast_38
      · refine m_iconst C d_Md_fast_33 ?_
        refine m_goto C 38 d_Md_fast_34 (by decide) ?_
        exact m_zretW C w hr hlk hM d_Md_fast_38
  · refine m_iconst C d_Md_fast_10 ?_
    refine m_goto C 15 d_Md_fast_11 (by decide) ?_
    refine m_puti C w kc_Md sh_83 (Nat.le_of_ble_eq_true rfl) 0 hM rfl (by decide) rfl rfl fk_Md_51 d_Md_fast_15 (fun h6 H locs w hM => ?_)
    refine m_aload_n C hl 0 d_Md_fast_18 rfl rfl ?_
    refine m_geti C w.1 kc_Md sh_83 (Nat.le_of_ble_eq_true rfl) 0 rfl (by decide) fk_Md_51 d_Md_fast_19 ?_
    refine m_if_ne C hM 37 d_Md_fast_22 (by decide) (fun hM => ?_) (fun hM => ?_)
    · refine m_iconst C d_Md_fast_37 ?_
      exact m_zretW C w hr hlk hM d_Md_fast_38
    · refine m_aload_n C hl 0 d_Md_fast_25 rfl rfl ?_
      refine m_iload_n C hl 2 d_Md_fast_26 rfl rfl ?_
      obtain ⟨x8, e7, hM⟩ := bnd_some hM
      refine aftR (runV C w.1 w.2 kc_Md sh_83 (Nat.le_of_ble_eq_true rfl) (c_Md_isFast hI e7) lk_Md_274 mb_Md_isFast rfl ⟨Nat.le_of_ble_eq_true rfl, Nat.le_of_ble_eq_true rfl⟩ ⟨Nat.zero_le _, Nat.zero_le _⟩ (Nat.le_of_ble_eq_true rfl) d_Md_fast_27 hl.1 (rest := []) rfl) ?_
      refine m_if_eq C hM 37 d_Md_fast_30 (by decide) (fun hM => ?_) (fun hM => ?_)
      · refine m_iconst C d_Md_fast_37 ?_
        exact m_zretW C w hr hlk hM d_Md_fast_38
      · refine m_iconst C d_Md_fast_33 ?_
        refine m_goto C 38 d_Md_fast_34 (by decide) ?_
        exact m_zretW C w hr hlk hM d_Md_fast_38
def y_Md_lesson : MethodName := ⟨"FeastBookModel", "lesson", "(II)I"⟩
theorem d_Md_lesson_0 : decode prog_13_method_69_code 0 = .ok (.aload_n 0, 1) := by decide +kernel
theorem d_Md_lesson_1 : decode prog_13_method_69_code 1 = .ok (.aload_n 0, 1) := by decide +kernel
theorem d_Md_lesson_2 : decode prog_13_method_69_code 2 = .ok (.iload_n 1, 1) := by decide +kernel
theorem d_Md_lesson_3 : decode prog_13_method_69_code 3 = .ok (.iload_n 2, 1) := by decide +kernel
theorem d_Md_lesson_4 : decode prog_13_method_69_code 4 = .ok (.invokevirtual 302, 3) := by decide +kernel
theorem d_Md_lesson_7 : decode prog_13_method_69_code 7 = .ok (.ifCond .eq 7, 3) := by decide +kernel
theorem d_Md_lesson_10 : decode prog_13_method_69_code 10 = .ok (.iconst 0, 1) := by decide +kernel
theorem d_Md_lesson_11 : decode prog_13_method_69_code 11 = .ok (.goto 4, 3) := by decide +kernel
theorem d_Md_lesson_14 : decode prog_13_method_69_code 14 = .ok (.iconst 1, 1) := by decide +kernel
theorem d_Md_lesson_15 : decode prog_13_method_69_code 15 = .ok (.putfield 51, 3) := by decide +kernel
theorem d_Md_lesson_18 : decode prog_13_method_69_code 18 = .ok (.aload_n 0, 1) := by decide +kernel
theorem d_Md_lesson_19 : decode prog_13_method_69_code 19 = .ok (.getfield 51, 3) := by decide +kernel
theorem d_Md_lesson_22 : decode prog_13_method_69_code 22 = .ok (.ifCond .le 5, 3) := by decide +kernel
theorem d_Md_lesson_25 : decode prog_13_method_69_code 25 = .ok (.iconst 0, 1) := by decide +kernel
theorem d_Md_lesson_26 : decode prog_13_method_69_code 26 = .ok (.ireturn, 1) := by decide +kernel
theorem d_Md_lesson_27 : decode prog_13_method_69_code 27 = .ok (.aload_n 0, 1) := by decide +kernel
theorem d_Md_lesson_28 : decode prog_13_method_69_code 28 = .ok (.iload_n 2, 1) := by decide +kernel
theorem d_Md_lesson_29 : decode prog_13_method_69_code 29 = .ok (.invokevirtual 271, 3) := by decide +kernel
theorem d_Md_lesson_32 : decode prog_13_method_69_code 32 = .ok (.ifCond .ne 5, 3) := by decide +kernel
theorem d_Md_lesson_35 : decode prog_13_method_69_code 35 = .ok (.iconst (-1), 1) := by decide +kernel
theorem d_Md_lesson_36 : decode prog_13_method_69_code 36 = .ok (.ireturn, 1) := by decide +kernel
theorem d_Md_lesson_37 : decode prog_13_method_69_code 37 = .ok (.iconst 0, 1) := by decide +kernel
theorem d_Md_lesson_38 : decode prog_13_method_69_code 38 = .ok (.istore_n 3, 1) := by decide +kernel
theorem d_Md_lesson_39 : decode prog_13_method_69_code 39 = .ok (.iload_n 2, 1) := by decide +kernel
theorem d_Md_lesson_40 : decode prog_13_method_69_code 40 = .ok (.aload_n 0, 1) := by decide +kernel
theorem d_Md_lesson_41 : decode prog_13_method_69_code 41 = .ok (.getfield 87, 3) := by decide +kernel
theorem d_Md_lesson_44 : decode prog_13_method_69_code 44 = .ok (.if_icmp .lt 10, 3) := by decide +kernel
theorem d_Md_lesson_47 : decode prog_13_method_69_code 47 = .ok (.aload_n 0, 1) := by decide +kernel
theorem d_Md_lesson_48 : decode prog_13_method_69_code 48 = .ok (.getfield 87, 3) := by decide +kernel
theorem d_Md_lesson_51 : decode prog_13_method_69_code 51 = .ok (.goto 4, 3) := by decide +kernel
theorem d_Md_lesson_54 : decode prog_13_method_69_code 54 = .ok (.iconst 0, 1) := by decide +kernel
theorem d_Md_lesson_55 : decode prog_13_method_69_code 55 = .ok (.istore 4, 2) := by decide +kernel
theorem d_Md_lesson_57 : decode prog_13_method_69_code 57 = .ok (.iload 4, 2) := by decide +kernel
theorem d_Md_lesson_59 : decode prog_13_method_69_code 59 = .ok (.iload_n 2, 1) := by decide +kernel
theorem d_Md_lesson_60 : decode prog_13_method_69_code 60 = .ok (.if_icmp .ge 26, 3) := by decide +kernel
theorem d_Md_lesson_63 : decode prog_13_method_69_code 63 = .ok (.iload_n 3, 1) := by decide +kernel
theorem d_Md_lesson_64 : decode prog_13_method_69_code 64 = .ok (.aload_n 0, 1) := by decide +kernel
theorem d_Md_lesson_65 : decode prog_13_method_69_code 65 = .ok (.iload 4, 2) := by decide +kernel
theorem d_Md_lesson_67 : decode prog_13_method_69_code 67 = .ok (.invokevirtual 271, 3) := by decide +kernel
theorem d_Md_lesson_70 : decode prog_13_method_69_code 70 = .ok (.ifCond .eq 7, 3) := by decide +kernel
theorem d_Md_lesson_73 : decode prog_13_method_69_code 73 = .ok (.iconst 1, 1) := by decide +kernel
theorem d_Md_lesson_74 : decode prog_13_method_69_code 74 = .ok (.goto 4, 3) := by decide +kernel
theorem d_Md_lesson_77 : decode prog_13_method_69_code 77 = .ok (.iconst 0, 1) := by decide +kernel
theorem d_Md_lesson_78 : decode prog_13_method_69_code 78 = .ok (.iadd, 1) := by decide +kernel
theorem d_Md_lesson_79 : decode prog_13_method_69_code 79 = .ok (.istore_n 3, 1) := by decide +kernel
theorem d_Md_lesson_80 : decode prog_13_method_69_code 80 = .ok (.iinc 4 1, 3) := by decide +kernel
theorem d_Md_lesson_83 : decode prog_13_method_69_code 83 = .ok (.goto (-26), 3) := by decide +kernel
theorem d_Md_lesson_86 : decode prog_13_method_69_code 86 = .ok (.iload_n 3, 1) := by decide +kernel
theorem d_Md_lesson_87 : decode prog_13_method_69_code 87 = .ok (.ireturn, 1) := by decide +kernel
set_option maxHeartbeats 4000000 in
set_option maxRecDepth 100000 in
theorem w_Md_lesson_L57 {p : Program} {l : Launch} {e : Env} {s : State} {m : MethodId} {args : Array Value} {below : List Frame} {meth : Method} {c : Code} {D : va_G} {ad : Nat → Nat} {cA : Nat → ClassId} {sd sv : Nat → Nat} {out : (Int × Hp)} (N : Nat) (hI : Inj97 ad) (C : Cx p s m args c prog_13_method_69_code 5 "FeastBookModel" D ad cA sd sv (FA ad)) (hr : meth.sig.returnType = (some .int)) (hlk : meth.locks = false) (v1 v2 : Int) : ∀ (n : Nat) (v3 v4 : Int) (h : Hp) (H : Heap) (locs : List Loc), Wd s D ad cA (FA ad) h H locs → ∀ ls : Array Slot, lv_has ls 5 [(0, .ref (ad 83)), (1, .int (iZ v1)), (2, .int (iZ v2)), (3, .int (iZ v3)), (4, .int (iZ v4))] → Md_lesson_L57 N v2 n v3 v4 h = some out → W p l e (rmD 9) s m args below meth c H locs 0 0 (MQ below (QI D ad cA out) args s 0 0 (FA ad)) (F0 m 57 ls []) := by
  intro n
  induction n with
  | zero =>
    intro v3 v4 h H locs w ls hl hM
    rw [Md_lesson_L57] at hM
    cases hM
  | succ n ih =>
    intro v3 v4 h H locs w ls hl hM
    rw [Md_lesson_L57] at hM
    refine m_iload C hl 4 d_Md_lesson_57 rfl ?_
    refine m_iload_n C hl 2 d_Md_lesson_59 rfl rfl ?_
    refine m_icmp_ge C hM 86 d_Md_lesson_60 (by decide) (fun hM => ?_) (fun hM => ?_)
    · refine m_iload_n C hl 3 d_Md_lesson_86 rfl rfl ?_
      exact m_iretW C w hr hlk hM d_Md_lesson_87
    · refine m_iload_n C hl 3 d_Md_lesson_63 rfl rfl ?_
      refine m_aload_n C hl 0 d_Md_lesson_64 rfl rfl ?_
      refine m_iload C hl 4 d_Md_lesson_65 rfl ?_
      obtain ⟨q9, e8, hM⟩ := bnd_some hM
      refine aftI C w (runV C w.1 w.2 kc_Md sh_83 (Nat.le_of_ble_eq_true rfl) (c_Md_isPlain hI e8) lk_Md_271 mb_Md_isPlain rfl ⟨Nat.le_of_ble_eq_true rfl, Nat.le_of_ble_eq_true rfl⟩ ⟨Nat.zero_le _, Nat.zero_le _⟩ (Nat.le_of_ble_eq_true rfl) d_Md_lesson_67 hl.1 (rest := [.int (iZ v3)]) rfl) (fun H locs w => ?_)
      refine m_if_eq C hM 77 d_Md_lesson_70 (by decide) (fun hM => ?_) (fun hM => ?_)
      · refine m_iconst C d_Md_lesson_77 ?_
        refine m_iadd C d_Md_lesson_78 ?_
        refine m_istore_n C hl [(3, .int (iZ (v3 + 0))), (0, .ref (ad 83)), (1, .int (iZ v1)), (2, .int (iZ v2)), (4, .int (iZ v4))] d_Md_lesson_79 rfl (by decide) rfl (fun ls hl => ?_)
        refine m_iinc C hl 4 [(4, .int (iZ (v4 + 1))), (3, .int (iZ (v3 + 0))), (0, .ref (ad 83)), (1, .int (iZ v1)), (2, .int (iZ v2))] d_Md_lesson_80 rfl (by decide) rfl (fun ls hl => ?_)
        refine m_goto C 57 d_Md_lesson_83 (by decide) ?_
        exact ih (v3 + 0) (v4 + 1) q9.2 _ _ w _ (lv_sub hl [2, 3, 4, 1, 0] rfl) hM
      · refine m_iconst C d_Md_lesson_73 ?_
        refine m_goto C 78 d_Md_lesson_74 (by decide) ?_
        refine m_iadd C d_Md_lesson_78 ?_
        refine m_istore_n C hl [(3, .int (iZ (v3 + 1))), (0, .ref (ad 83)), (1, .int (iZ v1)), (2, .int (iZ v2)), (4, .int (iZ v4))] d_Md_lesson_79 rfl (by decide) rfl (fun ls hl => ?_)
        refine m_iinc C hl 4 [(4, .int (iZ (v4 + 1))), (3, .int (iZ (v3 + 1))), (0, .ref (ad 83)), (1, .int (iZ v1)), (2, .int (iZ v2))] d_Md_lesson_80 rfl (by decide) rfl (fun ls hl => ?_)
        refine m_goto C 57 d_Md_lesson_83 (by decide) ?_
        exact ih (v3 + 1) (v4 + 1) q9.2 _ _ w _ (lv_sub hl [2, 3, 4, 1, 0] rfl) hM
set_option maxHeartbeats 4000000 in
set_option maxRecDepth 100000 in
theorem c_Md_lesson {l : Launch} {D : va_G} {ad : Nat → Nat} {cA : Nat → ClassId} {sd sv : Nat → Nat} {h : Hp} {N : Nat} {a1 a2 : Int} {out : (Int × Hp)} (hI : Inj97 ad) (hM : M_Md_lesson N h a1 a2 = some out) : Met l y_Md_lesson (.code y_Md_lesson prog_13_method_69_code 5 (some .int) :: TT) (rmD 9) (PC D ad cA sd sv h [.ref (ad 83), .int (iZ a1), .int (iZ a2)]) (QI D ad cA out) 0 0 (FA ad) := by
  unfold M_Md_lesson at hM
  refine entM (by decide +kernel) hI (Nat.le_of_ble_eq_true rfl) ?_
  intro p e s m args below meth c C hr hlk hP ls hl
  have C : Cx p s m args c prog_13_method_69_code 5 "FeastBookModel" D ad cA sd sv (FA ad) := C
  have hl : lv_has ls 5 [(0, .ref (ad 83)), (1, .int (iZ a1)), (2, .int (iZ a2))] := hl
  have w : Wd s D ad cA (FA ad) h s.heap [] := ⟨hP, va_S.rf⟩
  refine m_aload_n C hl 0 d_Md_lesson_0 rfl rfl ?_
  refine m_aload_n C hl 0 d_Md_lesson_1 rfl rfl ?_
  refine m_iload_n C hl 1 d_Md_lesson_2 rfl rfl ?_
  refine m_iload_n C hl 2 d_Md_lesson_3 rfl rfl ?_
  obtain ⟨q2, e1, hM⟩ := bnd_some hM
  refine aftI C w (runV C w.1 w.2 kc_Md sh_83 (Nat.le_of_ble_eq_true rfl) (c_Md_isDay hI e1) lk_Md_302 mb_Md_isDay rfl ⟨Nat.le_of_ble_eq_true rfl, Nat.le_of_ble_eq_true rfl⟩ ⟨Nat.zero_le _, Nat.zero_le _⟩ (Nat.le_of_ble_eq_true rfl) d_Md_lesson_4 hl.1 (rest := [.ref (ad 83)]) rfl) (fun H locs w => ?_)
  refine lt_join hM (fun j3 ej hM => ?_)
  have hJ3 : ∀ (s0_3 : Int), j3 s0_3 = some out → ∀ ls : Array Slot, lv_has ls 5 [(0, .ref (ad 83)), (1, .int (iZ a1)), (2, .int (iZ a2))] → W p l e (rmD 9) s m args below meth c H locs 0 0 (MQ below (QI D ad cA out) args s 0 0 (FA ad)) (F0 m 15 ls [.int (iZ s0_3), .ref (ad 83)]) := by
    intro s0_3 hM ls hl
    subst ej
    dsimp only at hM
    refine m_puti C w kc_Md sh_83 (Nat.le_of_ble_eq_true rfl) 0 hM rfl (by decide) rfl rfl fk_Md_51 d_Md_lesson_15 (fun h4 H locs w hM => ?_)
    refine m_aload_n C hl 0 d_Md_lesson_18 rfl rfl ?_
    refine m_geti C w.1 kc_Md sh_83 (Nat.le_of_ble_eq_true rfl) 0 rfl (by decide) fk_Md_51 d_Md_lesson_19 ?_
    refine m_if_le C hM 27 d_Md_lesson_22 (by decide) (fun hM => ?_) (fun hM => ?_)
    · refine m_aload_n C hl 0 d_Md_lesson_27 rfl rfl ?_
      refine m_iload_n C hl 2 d_Md_lesson_28 rfl rfl ?_
      obtain ⟨q6, e5, hM⟩ := bnd_some hM
      refine aftI C w (runV C w.1 w.2 kc_Md sh_83 (Nat.le_of_ble_eq_true rfl) (c_Md_isPlain hI e5) lk_Md_271 mb_Md_isPlain rfl ⟨Nat.le_of_ble_eq_true rfl, Nat.le_of_ble_eq_true rfl⟩ ⟨Nat.zero_le _, Nat.zero_le _⟩ (Nat.le_of_ble_eq_true rfl) d_Md_lesson_29 hl.1 (rest := []) rfl) (fun H locs w => ?_)
      refine m_if_ne C hM 37 d_Md_lesson_32 (by decide) (fun hM => ?_) (fun hM => ?_)
      · refine m_iconst C d_Md_lesson_37 ?_
        refine m_istore_n C hl [(3, .int (iZ 0)), (0, .ref (ad 83)), (1, .int (iZ a1)), (2, .int (iZ a2))] d_Md_lesson_38 rfl (by decide) rfl (fun ls hl => ?_)
        refine m_iload_n C hl 3 d_Md_lesson_39 rfl rfl ?_
        refine m_aload_n C hl 1 d_Md_lesson_40 rfl rfl ?_
        refine m_geti C w.1 kc_Md sh_83 (Nat.le_of_ble_eq_true rfl) 15 rfl (by decide) fk_Md_87 d_Md_lesson_41 ?_
        refine lt_join hM (fun j7 ej hM => ?_)
        have hJ7 : ∀ (s0_7 : Int), j7 s0_7 = some out → ∀ ls : Array Slot, lv_has ls 5 [(0, .ref (ad 83)), (1, .int (iZ a1)), (2, .int (iZ a2)), (3, .int (iZ 0))] → W p l e (rmD 9) s m args below meth c H locs 0 0 (MQ below (QI D ad cA out) args s 0 0 (FA ad)) (F0 m 55 ls [.int (iZ s0_7)]) := by
          intro s0_7 hM ls hl
          subst ej
          dsimp only at hM
          refine m_istore C hl [(4, .int (iZ s0_7)), (0, .ref (ad 83)), (1, .int (iZ a1)), (2, .int (iZ a2)), (3, .int (iZ 0))] d_Md_lesson_55 (by decide) rfl (fun ls hl => ?_)
          exact w_Md_lesson_L57 N hI C hr hlk a1 a2 _ 0 s0_7 q6.2 _ _ w _ (lv_sub hl [1, 2, 3, 4, 0] rfl) hM
        refine m_icmp_lt C hM 54 d_Md_lesson_44 (by decide) (fun hM => ?_) (fun hM => ?_)
        · refine m_iconst C d_Md_lesson_54 ?_
          exact hJ7 0 hM _ (lv_sub hl [1, 2, 3, 0] rfl)
        · refine m_aload_n C hl 1 d_Md_lesson_47 rfl rfl ?_
          refine m_geti C w.1 kc_Md sh_83 (Nat.le_of_ble_eq_true rfl) 15 rfl (by decide) fk_Md_87 d_Md_lesson_48 ?_
          refine m_goto C 55 d_Md_lesson_51 (by decide) ?_
          exact hJ7 (q6.2 83 15) hM _ (lv_sub hl [1, 2, 3, 0] rfl)
      · refine m_iconst C d_Md_lesson_35 ?_
        exact m_iretW C w hr hlk hM d_Md_lesson_36
    · refine m_iconst C d_Md_lesson_25 ?_
      exact m_iretW C w hr hlk hM d_Md_lesson_26
  refine m_if_eq C hM 14 d_Md_lesson_7 (by decide) (fun hM => ?_) (fun hM => ?_)
  · refine m_iconst C d_Md_lesson_14 ?_
    exact hJ3 1 hM _ hl
  · refine m_iconst C d_Md_lesson_10 ?_
    refine m_goto C 15 d_Md_lesson_11 (by decide) ?_
    exact hJ3 0 hM _ hl
def y_Md_joined : MethodName := ⟨"FeastBookModel", "joined", "(II)I"⟩
theorem d_Md_joined_0 : decode prog_13_method_70_code 0 = .ok (.aload_n 0, 1) := by decide +kernel
theorem d_Md_joined_1 : decode prog_13_method_70_code 1 = .ok (.aload_n 0, 1) := by decide +kernel
theorem d_Md_joined_2 : decode prog_13_method_70_code 2 = .ok (.iload_n 1, 1) := by decide +kernel
theorem d_Md_joined_3 : decode prog_13_method_70_code 3 = .ok (.iload_n 2, 1) := by decide +kernel
theorem d_Md_joined_4 : decode prog_13_method_70_code 4 = .ok (.invokevirtual 302, 3) := by decide +kernel
theorem d_Md_joined_7 : decode prog_13_method_70_code 7 = .ok (.ifCond .eq 7, 3) := by decide +kernel
theorem d_Md_joined_10 : decode prog_13_method_70_code 10 = .ok (.iconst 0, 1) := by decide +kernel
theorem d_Md_joined_11 : decode prog_13_method_70_code 11 = .ok (.goto 4, 3) := by decide +kernel
theorem d_Md_joined_14 : decode prog_13_method_70_code 14 = .ok (.iconst 1, 1) := by decide +kernel
theorem d_Md_joined_15 : decode prog_13_method_70_code 15 = .ok (.putfield 51, 3) := by decide +kernel
theorem d_Md_joined_18 : decode prog_13_method_70_code 18 = .ok (.aload_n 0, 1) := by decide +kernel
theorem d_Md_joined_19 : decode prog_13_method_70_code 19 = .ok (.getfield 51, 3) := by decide +kernel
theorem d_Md_joined_22 : decode prog_13_method_70_code 22 = .ok (.ifCond .le 5, 3) := by decide +kernel
theorem d_Md_joined_25 : decode prog_13_method_70_code 25 = .ok (.iconst 0, 1) := by decide +kernel
theorem d_Md_joined_26 : decode prog_13_method_70_code 26 = .ok (.ireturn, 1) := by decide +kernel
theorem d_Md_joined_27 : decode prog_13_method_70_code 27 = .ok (.iconst 0, 1) := by decide +kernel
theorem d_Md_joined_28 : decode prog_13_method_70_code 28 = .ok (.istore_n 3, 1) := by decide +kernel
theorem d_Md_joined_29 : decode prog_13_method_70_code 29 = .ok (.iconst 0, 1) := by decide +kernel
theorem d_Md_joined_30 : decode prog_13_method_70_code 30 = .ok (.istore 4, 2) := by decide +kernel
theorem d_Md_joined_32 : decode prog_13_method_70_code 32 = .ok (.iload 4, 2) := by decide +kernel
theorem d_Md_joined_34 : decode prog_13_method_70_code 34 = .ok (.aload_n 0, 1) := by decide +kernel
theorem d_Md_joined_35 : decode prog_13_method_70_code 35 = .ok (.getfield 7, 3) := by decide +kernel
theorem d_Md_joined_38 : decode prog_13_method_70_code 38 = .ok (.bipush 42, 2) := by decide +kernel
theorem d_Md_joined_40 : decode prog_13_method_70_code 40 = .ok (.iaload, 1) := by decide +kernel
theorem d_Md_joined_41 : decode prog_13_method_70_code 41 = .ok (.if_icmp .ge 42, 3) := by decide +kernel
theorem d_Md_joined_44 : decode prog_13_method_70_code 44 = .ok (.iload_n 3, 1) := by decide +kernel
theorem d_Md_joined_45 : decode prog_13_method_70_code 45 = .ok (.aload_n 0, 1) := by decide +kernel
theorem d_Md_joined_46 : decode prog_13_method_70_code 46 = .ok (.getfield 35, 3) := by decide +kernel
theorem d_Md_joined_49 : decode prog_13_method_70_code 49 = .ok (.iload 4, 2) := by decide +kernel
theorem d_Md_joined_51 : decode prog_13_method_70_code 51 = .ok (.iaload, 1) := by decide +kernel
theorem d_Md_joined_52 : decode prog_13_method_70_code 52 = .ok (.iconst 2, 1) := by decide +kernel
theorem d_Md_joined_53 : decode prog_13_method_70_code 53 = .ok (.if_icmp .ne 21, 3) := by decide +kernel
theorem d_Md_joined_56 : decode prog_13_method_70_code 56 = .ok (.aload_n 0, 1) := by decide +kernel
theorem d_Md_joined_57 : decode prog_13_method_70_code 57 = .ok (.getfield 29, 3) := by decide +kernel
theorem d_Md_joined_60 : decode prog_13_method_70_code 60 = .ok (.iload 4, 2) := by decide +kernel
theorem d_Md_joined_62 : decode prog_13_method_70_code 62 = .ok (.iaload, 1) := by decide +kernel
theorem d_Md_joined_63 : decode prog_13_method_70_code 63 = .ok (.iload_n 2, 1) := by decide +kernel
theorem d_Md_joined_64 : decode prog_13_method_70_code 64 = .ok (.if_icmp .ne 10, 3) := by decide +kernel
theorem d_Md_joined_67 : decode prog_13_method_70_code 67 = .ok (.iconst 1, 1) := by decide +kernel
theorem d_Md_joined_68 : decode prog_13_method_70_code 68 = .ok (.iload 4, 2) := by decide +kernel
theorem d_Md_joined_70 : decode prog_13_method_70_code 70 = .ok (.ishl, 1) := by decide +kernel
theorem d_Md_joined_71 : decode prog_13_method_70_code 71 = .ok (.goto 4, 3) := by decide +kernel
theorem d_Md_joined_74 : decode prog_13_method_70_code 74 = .ok (.iconst 0, 1) := by decide +kernel
theorem d_Md_joined_75 : decode prog_13_method_70_code 75 = .ok (.ior, 1) := by decide +kernel
theorem d_Md_joined_76 : decode prog_13_method_70_code 76 = .ok (.istore_n 3, 1) := by decide +kernel
theorem d_Md_joined_77 : decode prog_13_method_70_code 77 = .ok (.iinc 4 1, 3) := by decide +kernel
theorem d_Md_joined_80 : decode prog_13_method_70_code 80 = .ok (.goto (-48), 3) := by decide +kernel
theorem d_Md_joined_83 : decode prog_13_method_70_code 83 = .ok (.iload_n 3, 1) := by decide +kernel
theorem d_Md_joined_84 : decode prog_13_method_70_code 84 = .ok (.ireturn, 1) := by decide +kernel
set_option maxHeartbeats 4000000 in
set_option maxRecDepth 100000 in
theorem w_Md_joined_L32 {p : Program} {l : Launch} {e : Env} {s : State} {m : MethodId} {args : Array Value} {below : List Frame} {meth : Method} {c : Code} {D : va_G} {ad : Nat → Nat} {cA : Nat → ClassId} {sd sv : Nat → Nat} {out : (Int × Hp)} (N : Nat) (hI : Inj97 ad) (C : Cx p s m args c prog_13_method_70_code 5 "FeastBookModel" D ad cA sd sv (FA ad)) (hr : meth.sig.returnType = (some .int)) (hlk : meth.locks = false) (v1 v2 : Int) (h : Hp) (H : Heap) (locs : List Loc) (w : Wd s D ad cA (FA ad) h H locs) : ∀ (n : Nat) (v3 v4 : Int), ∀ ls : Array Slot, lv_has ls 5 [(0, .ref (ad 83)), (1, .int (iZ v1)), (2, .int (iZ v2)), (3, .int (iZ v3)), (4, .int (iZ v4))] → Md_joined_L32 N h v2 n v3 v4 = some out → W p l e (rmD 9) s m args below meth c H locs 0 0 (MQ below (QI D ad cA out) args s 0 0 (FA ad)) (F0 m 32 ls []) := by
  intro n
  induction n with
  | zero =>
    intro v3 v4 ls hl hM
    rw [Md_joined_L32] at hM
    cases hM
  | succ n ih =>
    intro v3 v4 ls hl hM
    rw [Md_joined_L32] at hM
    refine m_iload C hl 4 d_Md_joined_32 rfl ?_
    refine m_aload_n C hl 0 d_Md_joined_34 rfl rfl ?_
    refine m_getr C w.1 kc_Md sh_83 (Nat.le_of_ble_eq_true rfl) 1 84 rfl (by decide) fk_Md_7 d_Md_joined_35 ?_
    refine m_bipush C d_Md_joined_38 (by decide) ?_
    refine m_iald C w.1 sh_84 (Nat.le_of_ble_eq_true rfl) (Nat.le_of_ble_eq_true rfl) hM d_Md_joined_40 (fun x5 hM => ?_)
    refine m_icmp_ge C hM 83 d_Md_joined_41 (by decide) (fun hM => ?_) (fun hM => ?_)
    · refine m_iload_n C hl 3 d_Md_joined_83 rfl rfl ?_
      exact m_iretW C w hr hlk hM d_Md_joined_84
    · refine m_iload_n C hl 3 d_Md_joined_44 rfl rfl ?_
      refine m_aload_n C hl 0 d_Md_joined_45 rfl rfl ?_
      refine m_getr C w.1 kc_Md sh_83 (Nat.le_of_ble_eq_true rfl) 18 91 rfl (by decide) fk_Md_35 d_Md_joined_46 ?_
      refine m_iload C hl 4 d_Md_joined_49 rfl ?_
      refine m_iald C w.1 sh_91 (Nat.le_of_ble_eq_true rfl) (Nat.le_of_ble_eq_true rfl) hM d_Md_joined_51 (fun x6 hM => ?_)
      refine m_iconst C d_Md_joined_52 ?_
      refine m_icmp_ne C hM 74 d_Md_joined_53 (by decide) (fun hM => ?_) (fun hM => ?_)
      · refine m_iconst C d_Md_joined_74 ?_
        refine m_ior C d_Md_joined_75 ?_
        refine m_istore_n C hl [(3, .int (iZ (orI v3 0))), (0, .ref (ad 83)), (1, .int (iZ v1)), (2, .int (iZ v2)), (4, .int (iZ v4))] d_Md_joined_76 rfl (by decide) rfl (fun ls hl => ?_)
        refine m_iinc C hl 4 [(4, .int (iZ (v4 + 1))), (3, .int (iZ (orI v3 0))), (0, .ref (ad 83)), (1, .int (iZ v1)), (2, .int (iZ v2))] d_Md_joined_77 rfl (by decide) rfl (fun ls hl => ?_)
        refine m_goto C 32 d_Md_joined_80 (by decide) ?_
        exact ih (orI v3 0) (v4 + 1) _ (lv_sub hl [2, 3, 4, 1, 0] rfl) hM
      · refine m_aload_n C hl 0 d_Md_joined_56 rfl rfl ?_
        refine m_getr C w.1 kc_Md sh_83 (Nat.le_of_ble_eq_true rfl) 16 89 rfl (by decide) fk_Md_29 d_Md_joined_57 ?_
        refine m_iload C hl 4 d_Md_joined_60 rfl ?_
        refine m_iald C w.1 sh_89 (Nat.le_of_ble_eq_true rfl) (Nat.le_of_ble_eq_true rfl) hM d_Md_joined_62 (fun x7 hM => ?_)
        refine m_iload_n C hl 2 d_Md_joined_63 rfl rfl ?_
        refine m_icmp_ne C hM 74 d_Md_joined_64 (by decide) (fun hM => ?_) (fun hM => ?_)
        · refine m_iconst C d_Md_joined_74 ?_
          refine m_ior C d_Md_joined_75 ?_
          refine m_istore_n C hl [(3, .int (iZ (orI v3 0))), (0, .ref (ad 83)), (1, .int (iZ v1)), (2, .int (iZ v2)), (4, .int (iZ v4))] d_Md_joined_76 rfl (by decide) rfl (fun ls hl => ?_)
          refine m_iinc C hl 4 [(4, .int (iZ (v4 + 1))), (3, .int (iZ (orI v3 0))), (0, .ref (ad 83)), (1, .int (iZ v1)), (2, .int (iZ v2))] d_Md_joined_77 rfl (by decide) rfl (fun ls hl => ?_)
          refine m_goto C 32 d_Md_joined_80 (by decide) ?_
          exact ih (orI v3 0) (v4 + 1) _ (lv_sub hl [2, 3, 4, 1, 0] rfl) hM
        · refine m_iconst C d_Md_joined_67 ?_
          refine m_iload C hl 4 d_Md_joined_68 rfl ?_
          refine m_ishl C d_Md_joined_70 ?_
          refine m_goto C 75 d_Md_joined_71 (by decide) ?_
          refine m_ior C d_Md_joined_75 ?_
          refine m_istore_n C hl [(3, .int (iZ (orI v3 (shlI 1 v4)))), (0, .ref (ad 83)), (1, .int (iZ v1)), (2, .int (iZ v2)), (4, .int (iZ v4))] d_Md_joined_76 rfl (by decide) rfl (fun ls hl => ?_)
          refine m_iinc C hl 4 [(4, .int (iZ (v4 + 1))), (3, .int (iZ (orI v3 (shlI 1 v4)))), (0, .ref (ad 83)), (1, .int (iZ v1)), (2, .int (iZ v2))] d_Md_joined_77 rfl (by decide) rfl (fun ls hl => ?_)
          refine m_goto C 32 d_Md_joined_80 (by decide) ?_
          exact ih (orI v3 (shlI 1 v4)) (v4 + 1) _ (lv_sub hl [2, 3, 4, 1, 0] rfl) hM
set_option maxHeartbeats 4000000 in
set_option maxRecDepth 100000 in
theorem c_Md_joined {l : Launch} {D : va_G} {ad : Nat → Nat} {cA : Nat → ClassId} {sd sv : Nat → Nat} {h : Hp} {N : Nat} {a1 a2 : Int} {out : (Int × Hp)} (hI : Inj97 ad) (hM : M_Md_joined N h a1 a2 = some out) : Met l y_Md_joined (.code y_Md_joined prog_13_method_70_code 5 (some .int) :: TT) (rmD 9) (PC D ad cA sd sv h [.ref (ad 83), .int (iZ a1), .int (iZ a2)]) (QI D ad cA out) 0 0 (FA ad) := by
  unfold M_Md_joined at hM
  refine entM (by decide +kernel) hI (Nat.le_of_ble_eq_true rfl) ?_
  intro p e s m args below meth c C hr hlk hP ls hl
  have C : Cx p s m args c prog_13_method_70_code 5 "FeastBookModel" D ad cA sd sv (FA ad) := C
  have hl : lv_has ls 5 [(0, .ref (ad 83)), (1, .int (iZ a1)), (2, .int (iZ a2))] := hl
  have w : Wd s D ad cA (FA ad) h s.heap [] := ⟨hP, va_S.rf⟩
  refine m_aload_n C hl 0 d_Md_joined_0 rfl rfl ?_
  refine m_aload_n C hl 0 d_Md_joined_1 rfl rfl ?_
  refine m_iload_n C hl 1 d_Md_joined_2 rfl rfl ?_
  refine m_iload_n C hl 2 d_Md_joined_3 rfl rfl ?_
  obtain ⟨q2, e1, hM⟩ := bnd_some hM
  refine aftI C w (runV C w.1 w.2 kc_Md sh_83 (Nat.le_of_ble_eq_true rfl) (c_Md_isDay hI e1) lk_Md_302 mb_Md_isDay rfl ⟨Nat.le_of_ble_eq_true rfl, Nat.le_of_ble_eq_true rfl⟩ ⟨Nat.zero_le _, Nat.zero_le _⟩ (Nat.le_of_ble_eq_true rfl) d_Md_joined_4 hl.1 (rest := [.ref (ad 83)]) rfl) (fun H locs w => ?_)
  refine lt_join hM (fun j3 ej hM => ?_)
  have hJ3 : ∀ (s0_3 : Int), j3 s0_3 = some out → ∀ ls : Array Slot, lv_has ls 5 [(0, .ref (ad 83)), (1, .int (iZ a1)), (2, .int (iZ a2))] → W p l e (rmD 9) s m args below meth c H locs 0 0 (MQ below (QI D ad cA out) args s 0 0 (FA ad)) (F0 m 15 ls [.int (iZ s0_3), .ref (ad 83)]) := by
    intro s0_3 hM ls hl
    subst ej
    dsimp only at hM
    refine m_puti C w kc_Md sh_83 (Nat.le_of_ble_eq_true rfl) 0 hM rfl (by decide) rfl rfl fk_Md_51 d_Md_joined_15 (fun h4 H locs w hM => ?_)
    refine m_aload_n C hl 0 d_Md_joined_18 rfl rfl ?_
    refine m_geti C w.1 kc_Md sh_83 (Nat.le_of_ble_eq_true rfl) 0 rfl (by decide) fk_Md_51 d_Md_joined_19 ?_
    refine m_if_le C hM 27 d_Md_joined_22 (by decide) (fun hM => ?_) (fun hM => ?_)
    · refine m_iconst C d_Md_joined_27 ?_
      refine m_istore_n C hl [(3, .int (iZ 0)), (0, .ref (ad 83)), (1, .int (iZ a1)), (2, .int (iZ a2))] d_Md_joined_28 rfl (by decide) rfl (fun ls hl => ?_)
      refine m_iconst C d_Md_joined_29 ?_
      refine m_istore C hl [(4, .int (iZ 0)), (3, .int (iZ 0)), (0, .ref (ad 83)), (1, .int (iZ a1)), (2, .int (iZ a2))] d_Md_joined_30 (by decide) rfl (fun ls hl => ?_)
      exact w_Md_joined_L32 N hI C hr hlk a1 a2 h4 _ _ w _ 0 0 _ (lv_sub hl [2, 3, 4, 1, 0] rfl) hM
    · refine m_iconst C d_Md_joined_25 ?_
      exact m_iretW C w hr hlk hM d_Md_joined_26
  refine m_if_eq C hM 14 d_Md_joined_7 (by decide) (fun hM => ?_) (fun hM => ?_)
  · refine m_iconst C d_Md_joined_14 ?_
    exact hJ3 1 hM _ hl
  · refine m_iconst C d_Md_joined_10 ?_
    refine m_goto C 15 d_Md_joined_11 (by decide) ?_
    exact hJ3 0 hM _ hl
def y_Md_isFeast : MethodName := ⟨"FeastBookModel", "isFeast", "(I)Z"⟩
theorem d_Md_isFeast_0 : decode prog_13_method_6_code 0 = .ok (.iload_n 1, 1) := by decide +kernel
theorem d_Md_isFeast_1 : decode prog_13_method_6_code 1 = .ok (.iconst 0, 1) := by decide +kernel
theorem d_Md_isFeast_2 : decode prog_13_method_6_code 2 = .ok (.aload_n 0, 1) := by decide +kernel
theorem d_Md_isFeast_3 : decode prog_13_method_6_code 3 = .ok (.getfield 7, 3) := by decide +kernel
theorem d_Md_isFeast_6 : decode prog_13_method_6_code 6 = .ok (.bipush 42, 2) := by decide +kernel
theorem d_Md_isFeast_8 : decode prog_13_method_6_code 8 = .ok (.iaload, 1) := by decide +kernel
theorem d_Md_isFeast_9 : decode prog_13_method_6_code 9 = .ok (.iconst 1, 1) := by decide +kernel
theorem d_Md_isFeast_10 : decode prog_13_method_6_code 10 = .ok (.isub, 1) := by decide +kernel
theorem d_Md_isFeast_11 : decode prog_13_method_6_code 11 = .ok (.invokestatic 54, 3) := by decide +kernel
theorem d_Md_isFeast_14 : decode prog_13_method_6_code 14 = .ok (.ireturn, 1) := by decide +kernel
set_option maxHeartbeats 4000000 in
set_option maxRecDepth 100000 in
theorem c_Md_isFeast {l : Launch} {D : va_G} {ad : Nat → Nat} {cA : Nat → ClassId} {sd sv : Nat → Nat} {h : Hp} {a1 : Int} {out : Int} (hI : Inj97 ad) (hM : M_Md_isFeast h a1 = some out) : Met l y_Md_isFeast (.code y_Md_isFeast prog_13_method_6_code 2 (some .boolean) :: TT) (rmD 1) (PC D ad cA sd sv h [.ref (ad 83), .int (iZ a1)]) (QR out) 0 0 (fun _ => False) := by
  unfold M_Md_isFeast at hM
  refine entM (by decide +kernel) hI (Nat.le_of_ble_eq_true rfl) ?_
  intro p e s m args below meth c C hr hlk hP ls hl
  have C : Cx p s m args c prog_13_method_6_code 2 "FeastBookModel" D ad cA sd sv (FA ad) := C
  have hl : lv_has ls 2 [(0, .ref (ad 83)), (1, .int (iZ a1))] := hl
  refine m_iload_n C hl 1 d_Md_isFeast_0 rfl rfl ?_
  refine m_iconst C d_Md_isFeast_1 ?_
  refine m_aload_n C hl 0 d_Md_isFeast_2 rfl rfl ?_
  refine m_getr C hP kc_Md sh_83 (Nat.le_of_ble_eq_true rfl) 1 84 rfl (by decide) fk_Md_7 d_Md_isFeast_3 ?_
  refine m_bipush C d_Md_isFeast_6 (by decide) ?_
  refine m_iald C hP sh_84 (Nat.le_of_ble_eq_true rfl) (Nat.le_of_ble_eq_true rfl) hM d_Md_isFeast_8 (fun x1 hM => ?_)
  refine m_iconst C d_Md_isFeast_9 ?_
  refine m_isub C d_Md_isFeast_10 ?_
  obtain ⟨x3, e2, hM⟩ := bnd_some hM
  refine aftR (runS C hP va_S.rf (c_Md_isIn hI e2) lk_Md_54 mb_Md_isIn rfl ⟨Nat.le_of_ble_eq_true rfl, Nat.le_of_ble_eq_true rfl⟩ ⟨Nat.zero_le _, Nat.zero_le _⟩ (Nat.le_of_ble_eq_true rfl) d_Md_isFeast_11 hl.1 (rest := []) rfl) ?_
  exact m_zretR C hr hlk hM d_Md_isFeast_14
def y_Md_feast : MethodName := ⟨"FeastBookModel", "feast", "(II)I"⟩
theorem d_Md_feast_0 : decode prog_13_method_71_code 0 = .ok (.aload_n 0, 1) := by decide +kernel
theorem d_Md_feast_1 : decode prog_13_method_71_code 1 = .ok (.aload_n 0, 1) := by decide +kernel
theorem d_Md_feast_2 : decode prog_13_method_71_code 2 = .ok (.iload_n 1, 1) := by decide +kernel
theorem d_Md_feast_3 : decode prog_13_method_71_code 3 = .ok (.invokevirtual 311, 3) := by decide +kernel
theorem d_Md_feast_6 : decode prog_13_method_71_code 6 = .ok (.ifCond .ne 7, 3) := by decide +kernel
theorem d_Md_feast_9 : decode prog_13_method_71_code 9 = .ok (.iconst 1, 1) := by decide +kernel
theorem d_Md_feast_10 : decode prog_13_method_71_code 10 = .ok (.goto 18, 3) := by decide +kernel
theorem d_Md_feast_13 : decode prog_13_method_71_code 13 = .ok (.iload_n 2, 1) := by decide +kernel
theorem d_Md_feast_14 : decode prog_13_method_71_code 14 = .ok (.iconst 0, 1) := by decide +kernel
theorem d_Md_feast_15 : decode prog_13_method_71_code 15 = .ok (.bipush 6, 2) := by decide +kernel
theorem d_Md_feast_17 : decode prog_13_method_71_code 17 = .ok (.invokestatic 54, 3) := by decide +kernel
theorem d_Md_feast_20 : decode prog_13_method_71_code 20 = .ok (.ifCond .ne 7, 3) := by decide +kernel
theorem d_Md_feast_23 : decode prog_13_method_71_code 23 = .ok (.iconst 2, 1) := by decide +kernel
theorem d_Md_feast_24 : decode prog_13_method_71_code 24 = .ok (.goto 4, 3) := by decide +kernel
theorem d_Md_feast_27 : decode prog_13_method_71_code 27 = .ok (.iconst 0, 1) := by decide +kernel
theorem d_Md_feast_28 : decode prog_13_method_71_code 28 = .ok (.putfield 51, 3) := by decide +kernel
theorem d_Md_feast_31 : decode prog_13_method_71_code 31 = .ok (.aload_n 0, 1) := by decide +kernel
theorem d_Md_feast_32 : decode prog_13_method_71_code 32 = .ok (.getfield 51, 3) := by decide +kernel
theorem d_Md_feast_35 : decode prog_13_method_71_code 35 = .ok (.ifCond .le 7, 3) := by decide +kernel
theorem d_Md_feast_38 : decode prog_13_method_71_code 38 = .ok (.iconst 0, 1) := by decide +kernel
theorem d_Md_feast_39 : decode prog_13_method_71_code 39 = .ok (.goto 9, 3) := by decide +kernel
theorem d_Md_feast_42 : decode prog_13_method_71_code 42 = .ok (.aload_n 0, 1) := by decide +kernel
theorem d_Md_feast_43 : decode prog_13_method_71_code 43 = .ok (.iload_n 1, 1) := by decide +kernel
theorem d_Md_feast_44 : decode prog_13_method_71_code 44 = .ok (.iload_n 2, 1) := by decide +kernel
theorem d_Md_feast_45 : decode prog_13_method_71_code 45 = .ok (.invokevirtual 90, 3) := by decide +kernel
theorem d_Md_feast_48 : decode prog_13_method_71_code 48 = .ok (.ireturn, 1) := by decide +kernel
theorem mb_Md_isFeast : MBv R_Md y_Md_isFeast prog_13_method_6_code 2 (some .boolean) 1 := ⟨mT9 228 (by decide +kernel) (by decide +kernel), mTs 67 (by decide +kernel) (by decide +kernel), mT1 10 (by decide +kernel) (by decide +kernel), mT9 229 (by decide +kernel) (by decide +kernel), by decide, rfl, by decide +kernel, by decide +kernel, by decide +kernel⟩
theorem lk_Md_311 : Cond.methodLink "FeastBookModel" 311 y_Md_isFeast ∈ TT := mT9 226 (by decide +kernel) (by decide +kernel)
set_option maxHeartbeats 4000000 in
set_option maxRecDepth 100000 in
theorem c_Md_feast {l : Launch} {D : va_G} {ad : Nat → Nat} {cA : Nat → ClassId} {sd sv : Nat → Nat} {h : Hp} {a1 a2 : Int} {out : (Int × Hp)} (hI : Inj97 ad) (hM : M_Md_feast h a1 a2 = some out) : Met l y_Md_feast (.code y_Md_feast prog_13_method_71_code 3 (some .int) :: TT) (rmD 2) (PC D ad cA sd sv h [.ref (ad 83), .int (iZ a1), .int (iZ a2)]) (QI D ad cA out) 0 0 (FA ad) := by
  unfold M_Md_feast at hM
  refine entM (by decide +kernel) hI (Nat.le_of_ble_eq_true rfl) ?_
  intro p e s m args below meth c C hr hlk hP ls hl
  have C : Cx p s m args c prog_13_method_71_code 3 "FeastBookModel" D ad cA sd sv (FA ad) := C
  have hl : lv_has ls 3 [(0, .ref (ad 83)), (1, .int (iZ a1)), (2, .int (iZ a2))] := hl
  have w : Wd s D ad cA (FA ad) h s.heap [] := ⟨hP, va_S.rf⟩
  refine m_aload_n C hl 0 d_Md_feast_0 rfl rfl ?_
  refine m_aload_n C hl 0 d_Md_feast_1 rfl rfl ?_
  refine m_iload_n C hl 1 d_Md_feast_2 rfl rfl ?_
  obtain ⟨x2, e1, hM⟩ := bnd_some hM
  refine aftR (runV C w.1 w.2 kc_Md sh_83 (Nat.le_of_ble_eq_true rfl) (c_Md_isFeast hI e1) lk_Md_311 mb_Md_isFeast rfl ⟨Nat.le_of_ble_eq_true rfl, Nat.le_of_ble_eq_true rfl⟩ ⟨Nat.zero_le _, Nat.zero_le _⟩ (Nat.le_of_ble_eq_true rfl) d_Md_feast_3 hl.1 (rest := [.ref (ad 83)]) rfl) ?_
  refine m_if_ne C hM 13 d_Md_feast_6 (by decide) (fun hM => ?_) (fun hM => ?_)
  · refine m_iload_n C hl 2 d_Md_feast_13 rfl rfl ?_
    refine m_iconst C d_Md_feast_14 ?_
    refine m_bipush C d_Md_feast_15 (by decide) ?_
    obtain ⟨x4, e3, hM⟩ := bnd_some hM
    refine aftR (runS C w.1 w.2 (c_Md_isIn hI e3) lk_Md_54 mb_Md_isIn rfl ⟨Nat.le_of_ble_eq_true rfl, Nat.le_of_ble_eq_true rfl⟩ ⟨Nat.zero_le _, Nat.zero_le _⟩ (Nat.le_of_ble_eq_true rfl) d_Md_feast_17 hl.1 (rest := [.ref (ad 83)]) rfl) ?_
    refine m_if_ne C hM 27 d_Md_feast_20 (by decide) (fun hM => ?_) (fun hM => ?_)
    · refine m_iconst C d_Md_feast_27 ?_
      refine m_puti C w kc_Md sh_83 (Nat.le_of_ble_eq_true rfl) 0 hM rfl (by decide) rfl rfl fk_Md_51 d_Md_feast_28 (fun h5 H locs w hM => ?_)
      refine m_aload_n C hl 0 d_Md_feast_31 rfl rfl ?_
      refine m_geti C w.1 kc_Md sh_83 (Nat.le_of_ble_eq_true rfl) 0 rfl (by decide) fk_Md_51 d_Md_feast_32 ?_
      refine m_if_le C hM 42 d_Md_feast_35 (by decide) (fun hM => ?_) (fun hM => ?_)
      · refine m_aload_n C hl 0 d_Md_feast_42 rfl rfl ?_
        refine m_iload_n C hl 1 d_Md_feast_43 rfl rfl ?_
        refine m_iload_n C hl 2 d_Md_feast_44 rfl rfl ?_
        obtain ⟨x7, e6, hM⟩ := bnd_some hM
        refine aftR (runV C w.1 w.2 kc_Md sh_83 (Nat.le_of_ble_eq_true rfl) (c_Md_of0 hI e6) lk_Md_90 mb_Md_of0 rfl ⟨Nat.le_of_ble_eq_true rfl, Nat.le_of_ble_eq_true rfl⟩ ⟨Nat.zero_le _, Nat.zero_le _⟩ (Nat.le_of_ble_eq_true rfl) d_Md_feast_45 hl.1 (rest := []) rfl) ?_
        exact m_iretW C w hr hlk hM d_Md_feast_48
      · refine m_iconst C d_Md_feast_38 ?_
        refine m_goto C 48 d_Md_feast_39 (by decide) ?_
        exact m_iretW C w hr hlk hM d_Md_feast_48
    · refine m_iconst C d_Md_feast_23 ?_
      refine m_goto C 28 d_Md_feast_24 (by decide) ?_
      refine m_puti C w kc_Md sh_83 (Nat.le_of_ble_eq_true rfl) 0 hM rfl (by decide) rfl rfl fk_Md_51 d_Md_feast_28 (fun h8 H locs w hM => ?_)
      refine m_aload_n C hl 0 d_Md_feast_31 rfl rfl ?_
      refine m_geti C w.1 kc_Md sh_83 (Nat.le_of_ble_eq_true rfl) 0 rfl (by decide) fk_Md_51 d_Md_feast_32 ?_
      refine m_if_le C hM 42 d_Md_feast_35 (by decide) (fun hM => ?_) (fun hM => ?_)
      · refine m_aload_n C hl 0 d_Md_feast_42 rfl rfl ?_
        refine m_iload_n C hl 1 d_Md_feast_43 rfl rfl ?_
        refine m_iload_n C hl 2 d_Md_feast_44 rfl rfl ?_
        obtain ⟨x10, e9, hM⟩ := bnd_some hM
        refine aftR (runV C w.1 w.2 kc_Md sh_83 (Nat.le_of_ble_eq_true rfl) (c_Md_of0 hI e9) lk_Md_90 mb_Md_of0 rfl ⟨Nat.le_of_ble_eq_true rfl, Nat.le_of_ble_eq_true rfl⟩ ⟨Nat.zero_le _, Nat.zero_le _⟩ (Nat.le_of_ble_eq_true rfl) d_Md_feast_45 hl.1 (rest := []) rfl) ?_
        exact m_iretW C w hr hlk hM d_Md_feast_48
      · refine m_iconst C d_Md_feast_38 ?_
        refine m_goto C 48 d_Md_feast_39 (by decide) ?_
        exact m_iretW C w hr hlk hM d_Md_feast_48
  · refine m_iconst C d_Md_feast_9 ?_
    refine m_goto C 28 d_Md_feast_10 (by decide) ?_
    refine m_puti C w kc_Md sh_83 (Nat.le_of_ble_eq_true rfl) 0 hM rfl (by decide) rfl rfl fk_Md_51 d_Md_feast_28 (fun h11 H locs w hM => ?_)
    refine m_aload_n C hl 0 d_Md_feast_31 rfl rfl ?_
    refine m_geti C w.1 kc_Md sh_83 (Nat.le_of_ble_eq_true rfl) 0 rfl (by decide) fk_Md_51 d_Md_feast_32 ?_
    refine m_if_le C hM 42 d_Md_feast_35 (by decide) (fun hM => ?_) (fun hM => ?_)
    · refine m_aload_n C hl 0 d_Md_feast_42 rfl rfl ?_
      refine m_iload_n C hl 1 d_Md_feast_43 rfl rfl ?_
      refine m_iload_n C hl 2 d_Md_feast_44 rfl rfl ?_
      obtain ⟨x13, e12, hM⟩ := bnd_some hM
      refine aftR (runV C w.1 w.2 kc_Md sh_83 (Nat.le_of_ble_eq_true rfl) (c_Md_of0 hI e12) lk_Md_90 mb_Md_of0 rfl ⟨Nat.le_of_ble_eq_true rfl, Nat.le_of_ble_eq_true rfl⟩ ⟨Nat.zero_le _, Nat.zero_le _⟩ (Nat.le_of_ble_eq_true rfl) d_Md_feast_45 hl.1 (rest := []) rfl) ?_
      exact m_iretW C w hr hlk hM d_Md_feast_48
    · refine m_iconst C d_Md_feast_38 ?_
      refine m_goto C 48 d_Md_feast_39 (by decide) ?_
      exact m_iretW C w hr hlk hM d_Md_feast_48
def y_Md_yieldedTo : MethodName := ⟨"FeastBookModel", "yieldedTo", "(I)I"⟩
theorem d_Md_yieldedTo_0 : decode prog_13_method_72_code 0 = .ok (.aload_n 0, 1) := by decide +kernel
theorem d_Md_yieldedTo_1 : decode prog_13_method_72_code 1 = .ok (.getfield 35, 3) := by decide +kernel
theorem d_Md_yieldedTo_4 : decode prog_13_method_72_code 4 = .ok (.iload_n 1, 1) := by decide +kernel
theorem d_Md_yieldedTo_5 : decode prog_13_method_72_code 5 = .ok (.iaload, 1) := by decide +kernel
theorem d_Md_yieldedTo_6 : decode prog_13_method_72_code 6 = .ok (.ifCond .eq 13, 3) := by decide +kernel
theorem d_Md_yieldedTo_9 : decode prog_13_method_72_code 9 = .ok (.aload_n 0, 1) := by decide +kernel
theorem d_Md_yieldedTo_10 : decode prog_13_method_72_code 10 = .ok (.getfield 35, 3) := by decide +kernel
theorem d_Md_yieldedTo_13 : decode prog_13_method_72_code 13 = .ok (.iload_n 1, 1) := by decide +kernel
theorem d_Md_yieldedTo_14 : decode prog_13_method_72_code 14 = .ok (.iaload, 1) := by decide +kernel
theorem d_Md_yieldedTo_15 : decode prog_13_method_72_code 15 = .ok (.iconst 5, 1) := by decide +kernel
theorem d_Md_yieldedTo_16 : decode prog_13_method_72_code 16 = .ok (.if_icmp .ne 5, 3) := by decide +kernel
theorem d_Md_yieldedTo_19 : decode prog_13_method_72_code 19 = .ok (.iconst (-1), 1) := by decide +kernel
theorem d_Md_yieldedTo_20 : decode prog_13_method_72_code 20 = .ok (.ireturn, 1) := by decide +kernel
theorem d_Md_yieldedTo_21 : decode prog_13_method_72_code 21 = .ok (.aload_n 0, 1) := by decide +kernel
theorem d_Md_yieldedTo_22 : decode prog_13_method_72_code 22 = .ok (.getfield 38, 3) := by decide +kernel
theorem d_Md_yieldedTo_25 : decode prog_13_method_72_code 25 = .ok (.aload_n 0, 1) := by decide +kernel
theorem d_Md_yieldedTo_26 : decode prog_13_method_72_code 26 = .ok (.getfield 29, 3) := by decide +kernel
theorem d_Md_yieldedTo_29 : decode prog_13_method_72_code 29 = .ok (.iload_n 1, 1) := by decide +kernel
theorem d_Md_yieldedTo_30 : decode prog_13_method_72_code 30 = .ok (.iaload, 1) := by decide +kernel
theorem d_Md_yieldedTo_31 : decode prog_13_method_72_code 31 = .ok (.iaload, 1) := by decide +kernel
theorem d_Md_yieldedTo_32 : decode prog_13_method_72_code 32 = .ok (.istore_n 2, 1) := by decide +kernel
theorem d_Md_yieldedTo_33 : decode prog_13_method_72_code 33 = .ok (.iload_n 2, 1) := by decide +kernel
theorem d_Md_yieldedTo_34 : decode prog_13_method_72_code 34 = .ok (.iconst (-1), 1) := by decide +kernel
theorem d_Md_yieldedTo_35 : decode prog_13_method_72_code 35 = .ok (.if_icmp .eq 16, 3) := by decide +kernel
theorem d_Md_yieldedTo_38 : decode prog_13_method_72_code 38 = .ok (.aload_n 0, 1) := by decide +kernel
theorem d_Md_yieldedTo_39 : decode prog_13_method_72_code 39 = .ok (.getfield 35, 3) := by decide +kernel
theorem d_Md_yieldedTo_42 : decode prog_13_method_72_code 42 = .ok (.iload_n 2, 1) := by decide +kernel
theorem d_Md_yieldedTo_43 : decode prog_13_method_72_code 43 = .ok (.iaload, 1) := by decide +kernel
theorem d_Md_yieldedTo_44 : decode prog_13_method_72_code 44 = .ok (.ifCond .ne 7, 3) := by decide +kernel
theorem d_Md_yieldedTo_47 : decode prog_13_method_72_code 47 = .ok (.iload_n 2, 1) := by decide +kernel
theorem d_Md_yieldedTo_48 : decode prog_13_method_72_code 48 = .ok (.goto 4, 3) := by decide +kernel
theorem d_Md_yieldedTo_51 : decode prog_13_method_72_code 51 = .ok (.iconst (-1), 1) := by decide +kernel
theorem d_Md_yieldedTo_52 : decode prog_13_method_72_code 52 = .ok (.ireturn, 1) := by decide +kernel
set_option maxHeartbeats 4000000 in
set_option maxRecDepth 100000 in
theorem c_Md_yieldedTo {l : Launch} {D : va_G} {ad : Nat → Nat} {cA : Nat → ClassId} {sd sv : Nat → Nat} {h : Hp} {a1 : Int} {out : Int} (hI : Inj97 ad) (hM : M_Md_yieldedTo h a1 = some out) : Met l y_Md_yieldedTo (.code y_Md_yieldedTo prog_13_method_72_code 3 (some .int) :: TT) (rmD 0) (PC D ad cA sd sv h [.ref (ad 83), .int (iZ a1)]) (QR out) 0 0 (fun _ => False) := by
  unfold M_Md_yieldedTo at hM
  refine entM (by decide +kernel) hI (Nat.le_of_ble_eq_true rfl) ?_
  intro p e s m args below meth c C hr hlk hP ls hl
  have C : Cx p s m args c prog_13_method_72_code 3 "FeastBookModel" D ad cA sd sv (FA ad) := C
  have hl : lv_has ls 3 [(0, .ref (ad 83)), (1, .int (iZ a1))] := hl
  refine m_aload_n C hl 0 d_Md_yieldedTo_0 rfl rfl ?_
  refine m_getr C hP kc_Md sh_83 (Nat.le_of_ble_eq_true rfl) 18 91 rfl (by decide) fk_Md_35 d_Md_yieldedTo_1 ?_
  refine m_iload_n C hl 1 d_Md_yieldedTo_4 rfl rfl ?_
  refine m_iald C hP sh_91 (Nat.le_of_ble_eq_true rfl) (Nat.le_of_ble_eq_true rfl) hM d_Md_yieldedTo_5 (fun x1 hM => ?_)
  refine m_if_eq C hM 19 d_Md_yieldedTo_6 (by decide) (fun hM => ?_) (fun hM => ?_)
  · refine m_iconst C d_Md_yieldedTo_19 ?_
    exact m_iretR C hr hlk hM d_Md_yieldedTo_20
  · refine m_aload_n C hl 0 d_Md_yieldedTo_9 rfl rfl ?_
    refine m_getr C hP kc_Md sh_83 (Nat.le_of_ble_eq_true rfl) 18 91 rfl (by decide) fk_Md_35 d_Md_yieldedTo_10 ?_
    refine m_iload_n C hl 1 d_Md_yieldedTo_13 rfl rfl ?_
    refine m_iald C hP sh_91 (Nat.le_of_ble_eq_true rfl) (Nat.le_of_ble_eq_true rfl) hM d_Md_yieldedTo_14 (fun x2 hM => ?_)
    refine m_iconst C d_Md_yieldedTo_15 ?_
    refine m_icmp_ne C hM 21 d_Md_yieldedTo_16 (by decide) (fun hM => ?_) (fun hM => ?_)
    · refine m_aload_n C hl 0 d_Md_yieldedTo_21 rfl rfl ?_
      refine m_getr C hP kc_Md sh_83 (Nat.le_of_ble_eq_true rfl) 19 92 rfl (by decide) fk_Md_38 d_Md_yieldedTo_22 ?_
      refine m_aload_n C hl 0 d_Md_yieldedTo_25 rfl rfl ?_
      refine m_getr C hP kc_Md sh_83 (Nat.le_of_ble_eq_true rfl) 16 89 rfl (by decide) fk_Md_29 d_Md_yieldedTo_26 ?_
      refine m_iload_n C hl 1 d_Md_yieldedTo_29 rfl rfl ?_
      refine m_iald C hP sh_89 (Nat.le_of_ble_eq_true rfl) (Nat.le_of_ble_eq_true rfl) hM d_Md_yieldedTo_30 (fun x3 hM => ?_)
      refine m_iald C hP sh_92 (Nat.le_of_ble_eq_true rfl) (Nat.le_of_ble_eq_true rfl) hM d_Md_yieldedTo_31 (fun x4 hM => ?_)
      refine m_istore_n C hl [(2, .int (iZ x4)), (0, .ref (ad 83)), (1, .int (iZ a1))] d_Md_yieldedTo_32 rfl (by decide) rfl (fun ls hl => ?_)
      refine m_iload_n C hl 0 d_Md_yieldedTo_33 rfl rfl ?_
      refine m_iconst C d_Md_yieldedTo_34 ?_
      refine m_icmp_eq C hM 51 d_Md_yieldedTo_35 (by decide) (fun hM => ?_) (fun hM => ?_)
      · refine m_iconst C d_Md_yieldedTo_51 ?_
        exact m_iretR C hr hlk hM d_Md_yieldedTo_52
      · refine m_aload_n C hl 1 d_Md_yieldedTo_38 rfl rfl ?_
        refine m_getr C hP kc_Md sh_83 (Nat.le_of_ble_eq_true rfl) 18 91 rfl (by decide) fk_Md_35 d_Md_yieldedTo_39 ?_
        refine m_iload_n C hl 0 d_Md_yieldedTo_42 rfl rfl ?_
        refine m_iald C hP sh_91 (Nat.le_of_ble_eq_true rfl) (Nat.le_of_ble_eq_true rfl) hM d_Md_yieldedTo_43 (fun x5 hM => ?_)
        refine m_if_ne C hM 51 d_Md_yieldedTo_44 (by decide) (fun hM => ?_) (fun hM => ?_)
        · refine m_iconst C d_Md_yieldedTo_51 ?_
          exact m_iretR C hr hlk hM d_Md_yieldedTo_52
        · refine m_iload_n C hl 0 d_Md_yieldedTo_47 rfl rfl ?_
          refine m_goto C 52 d_Md_yieldedTo_48 (by decide) ?_
          exact m_iretR C hr hlk hM d_Md_yieldedTo_52
    · refine m_iconst C d_Md_yieldedTo_19 ?_
      exact m_iretR C hr hlk hM d_Md_yieldedTo_20

def y_Md_thrown : MethodName := ⟨"FeastBookModel", "thrown", "()I"⟩
theorem d_Md_thrown_0 : decode prog_13_method_2_code 0 = .ok (.aload_n 0, 1) := by decide +kernel
theorem d_Md_thrown_1 : decode prog_13_method_2_code 1 = .ok (.getfield 51, 3) := by decide +kernel
theorem d_Md_thrown_4 : decode prog_13_method_2_code 4 = .ok (.ireturn, 1) := by decide +kernel
theorem fk_Md_51 : Cond.fieldLink "FeastBookModel" 51 (T_Md 0).1 (T_Md 0).2.1 (T_Md 0).2.2.1 ∈ TT := mT8 96 (by decide +kernel) (by decide +kernel)
set_option maxHeartbeats 4000000 in
set_option maxRecDepth 100000 in
theorem c_Md_thrown {l : Launch} {D : va_G} {ad : Nat → Nat} {cA : Nat → ClassId} {sd sv : Nat → Nat} {h : Hp} {out : Int} (hI : Inj97 ad) (hM : M_Md_thrown h = some out) : Met l y_Md_thrown (.code y_Md_thrown prog_13_method_2_code 1 (some .int) :: TT) (rmD 0) (PC D ad cA sd sv h [.ref (ad 83)]) (QR out) 0 0 (fun _ => False) := by
  unfold M_Md_thrown at hM
  refine entM (by decide +kernel) hI (Nat.le_of_ble_eq_true rfl) ?_
  intro p e s m args below meth c C hr hlk hP ls hl
  have C : Cx p s m args c prog_13_method_2_code 1 "FeastBookModel" D ad cA sd sv (FA ad) := C
  have hl : lv_has ls 1 [(0, .ref (ad 83))] := hl
  refine m_aload_n C hl 0 d_Md_thrown_0 rfl rfl ?_
  refine m_geti C hP kc_Md sh_83 (Nat.le_of_ble_eq_true rfl) 0 rfl (by decide) fk_Md_51 d_Md_thrown_1 ?_
  exact m_iretR C hr hlk hM d_Md_thrown_4
def y_Md_feed : MethodName := ⟨"FeastBookModel", "feed", "(IIIII)I"⟩
theorem d_Md_feed_0 : decode prog_13_method_37_code 0 = .ok (.aload_n 0, 1) := by decide +kernel
theorem d_Md_feed_1 : decode prog_13_method_37_code 1 = .ok (.iconst 0, 1) := by decide +kernel
theorem d_Md_feed_2 : decode prog_13_method_37_code 2 = .ok (.putfield 51, 3) := by decide +kernel
theorem d_Md_feed_5 : decode prog_13_method_37_code 5 = .ok (.aload_n 0, 1) := by decide +kernel
theorem d_Md_feed_6 : decode prog_13_method_37_code 6 = .ok (.getfield 160, 3) := by decide +kernel
theorem d_Md_feed_9 : decode prog_13_method_37_code 9 = .ok (.bipush 20, 2) := by decide +kernel
theorem d_Md_feed_11 : decode prog_13_method_37_code 11 = .ok (.iadd, 1) := by decide +kernel
theorem d_Md_feed_12 : decode prog_13_method_37_code 12 = .ok (.sipush 400, 3) := by decide +kernel
theorem d_Md_feed_15 : decode prog_13_method_37_code 15 = .ok (.if_icmp .le 5, 3) := by decide +kernel
theorem d_Md_feed_18 : decode prog_13_method_37_code 18 = .ok (.iconst (-1), 1) := by decide +kernel
theorem d_Md_feed_19 : decode prog_13_method_37_code 19 = .ok (.ireturn, 1) := by decide +kernel
theorem d_Md_feed_20 : decode prog_13_method_37_code 20 = .ok (.iconst 0, 1) := by decide +kernel
theorem d_Md_feed_21 : decode prog_13_method_37_code 21 = .ok (.istore 6, 2) := by decide +kernel
theorem d_Md_feed_23 : decode prog_13_method_37_code 23 = .ok (.iload 6, 2) := by decide +kernel
theorem d_Md_feed_25 : decode prog_13_method_37_code 25 = .ok (.bipush 20, 2) := by decide +kernel
theorem d_Md_feed_27 : decode prog_13_method_37_code 27 = .ok (.if_icmp .ge 93, 3) := by decide +kernel
theorem d_Md_feed_30 : decode prog_13_method_37_code 30 = .ok (.iload 6, 2) := by decide +kernel
theorem d_Md_feed_32 : decode prog_13_method_37_code 32 = .ok (.iconst 4, 1) := by decide +kernel
theorem d_Md_feed_33 : decode prog_13_method_37_code 33 = .ok (.if_icmp .ge 7, 3) := by decide +kernel
theorem d_Md_feed_36 : decode prog_13_method_37_code 36 = .ok (.iload_n 1, 1) := by decide +kernel
theorem d_Md_feed_37 : decode prog_13_method_37_code 37 = .ok (.goto 39, 3) := by decide +kernel
theorem d_Md_feed_40 : decode prog_13_method_37_code 40 = .ok (.iload 6, 2) := by decide +kernel
theorem d_Md_feed_42 : decode prog_13_method_37_code 42 = .ok (.bipush 8, 2) := by decide +kernel
theorem d_Md_feed_44 : decode prog_13_method_37_code 44 = .ok (.if_icmp .ge 7, 3) := by decide +kernel
theorem d_Md_feed_47 : decode prog_13_method_37_code 47 = .ok (.iload_n 2, 1) := by decide +kernel
theorem d_Md_feed_48 : decode prog_13_method_37_code 48 = .ok (.goto 28, 3) := by decide +kernel
theorem d_Md_feed_51 : decode prog_13_method_37_code 51 = .ok (.iload 6, 2) := by decide +kernel
theorem d_Md_feed_53 : decode prog_13_method_37_code 53 = .ok (.bipush 12, 2) := by decide +kernel
theorem d_Md_feed_55 : decode prog_13_method_37_code 55 = .ok (.if_icmp .ge 7, 3) := by decide +kernel
theorem d_Md_feed_58 : decode prog_13_method_37_code 58 = .ok (.iload_n 3, 1) := by decide +kernel
theorem d_Md_feed_59 : decode prog_13_method_37_code 59 = .ok (.goto 17, 3) := by decide +kernel
theorem d_Md_feed_62 : decode prog_13_method_37_code 62 = .ok (.iload 6, 2) := by decide +kernel
theorem d_Md_feed_64 : decode prog_13_method_37_code 64 = .ok (.bipush 16, 2) := by decide +kernel
theorem d_Md_feed_66 : decode prog_13_method_37_code 66 = .ok (.if_icmp .ge 8, 3) := by decide +kernel
theorem d_Md_feed_69 : decode prog_13_method_37_code 69 = .ok (.iload 4, 2) := by decide +kernel
theorem d_Md_feed_71 : decode prog_13_method_37_code 71 = .ok (.goto 5, 3) := by decide +kernel
theorem d_Md_feed_74 : decode prog_13_method_37_code 74 = .ok (.iload 5, 2) := by decide +kernel
theorem d_Md_feed_76 : decode prog_13_method_37_code 76 = .ok (.istore 7, 2) := by decide +kernel
theorem d_Md_feed_78 : decode prog_13_method_37_code 78 = .ok (.aload_n 0, 1) := by decide +kernel
theorem d_Md_feed_79 : decode prog_13_method_37_code 79 = .ok (.getfield 19, 3) := by decide +kernel
theorem d_Md_feed_82 : decode prog_13_method_37_code 82 = .ok (.aload_n 0, 1) := by decide +kernel
theorem d_Md_feed_83 : decode prog_13_method_37_code 83 = .ok (.getfield 160, 3) := by decide +kernel
theorem d_Md_feed_86 : decode prog_13_method_37_code 86 = .ok (.iload 7, 2) := by decide +kernel
theorem d_Md_feed_88 : decode prog_13_method_37_code 88 = .ok (.bipush 24, 2) := by decide +kernel
theorem d_Md_feed_90 : decode prog_13_method_37_code 90 = .ok (.bipush 8, 2) := by decide +kernel
theorem d_Md_feed_92 : decode prog_13_method_37_code 92 = .ok (.iload 6, 2) := by decide +kernel
theorem d_Md_feed_94 : decode prog_13_method_37_code 94 = .ok (.iconst 4, 1) := by decide +kernel
theorem d_Md_feed_95 : decode prog_13_method_37_code 95 = .ok (.irem, 1) := by decide +kernel
theorem d_Md_feed_96 : decode prog_13_method_37_code 96 = .ok (.imul, 1) := by decide +kernel
theorem d_Md_feed_97 : decode prog_13_method_37_code 97 = .ok (.isub, 1) := by decide +kernel
theorem d_Md_feed_98 : decode prog_13_method_37_code 98 = .ok (.iushr, 1) := by decide +kernel
theorem d_Md_feed_99 : decode prog_13_method_37_code 99 = .ok (.sipush 255, 3) := by decide +kernel
theorem d_Md_feed_102 : decode prog_13_method_37_code 102 = .ok (.iand, 1) := by decide +kernel
theorem d_Md_feed_103 : decode prog_13_method_37_code 103 = .ok (.iastore, 1) := by decide +kernel
theorem d_Md_feed_104 : decode prog_13_method_37_code 104 = .ok (.aload_n 0, 1) := by decide +kernel
theorem d_Md_feed_105 : decode prog_13_method_37_code 105 = .ok (.dup, 1) := by decide +kernel
theorem d_Md_feed_106 : decode prog_13_method_37_code 106 = .ok (.getfield 160, 3) := by decide +kernel
theorem d_Md_feed_109 : decode prog_13_method_37_code 109 = .ok (.iconst 1, 1) := by decide +kernel
theorem d_Md_feed_110 : decode prog_13_method_37_code 110 = .ok (.iadd, 1) := by decide +kernel
theorem d_Md_feed_111 : decode prog_13_method_37_code 111 = .ok (.putfield 160, 3) := by decide +kernel
theorem d_Md_feed_114 : decode prog_13_method_37_code 114 = .ok (.iinc 6 1, 3) := by decide +kernel
theorem d_Md_feed_117 : decode prog_13_method_37_code 117 = .ok (.goto (-94), 3) := by decide +kernel
theorem d_Md_feed_120 : decode prog_13_method_37_code 120 = .ok (.aload_n 0, 1) := by decide +kernel
theorem d_Md_feed_121 : decode prog_13_method_37_code 121 = .ok (.getfield 160, 3) := by decide +kernel
theorem d_Md_feed_124 : decode prog_13_method_37_code 124 = .ok (.ireturn, 1) := by decide +kernel
theorem fk_Md_160 : Cond.fieldLink "FeastBookModel" 160 (T_Md 7).1 (T_Md 7).2.1 (T_Md 7).2.2.1 ∈ TT := mT8 103 (by decide +kernel) (by decide +kernel)
theorem fk_Md_19 : Cond.fieldLink "FeastBookModel" 19 (T_Md 6).1 (T_Md 6).2.1 (T_Md 6).2.2.1 ∈ TT := mT8 102 (by decide +kernel) (by decide +kernel)
set_option maxHeartbeats 4000000 in
set_option maxRecDepth 100000 in
theorem w_Md_feed_L23 {p : Program} {l : Launch} {e : Env} {s : State} {m : MethodId} {args : Array Value} {below : List Frame} {meth : Method} {c : Code} {D : va_G} {ad : Nat → Nat} {cA : Nat → ClassId} {sd sv : Nat → Nat} {out : (Int × Hp)} (N : Nat) (hI : Inj97 ad) (C : Cx p s m args c prog_13_method_37_code 8 "FeastBookModel" D ad cA sd sv (FA ad)) (hr : meth.sig.returnType = (some .int)) (hlk : meth.locks = false) (v1 v2 v3 v4 v5 : Int) : ∀ (n : Nat) (v6 : Int) (h : Hp) (H : Heap) (locs : List Loc), Wd s D ad cA (FA ad) h H locs → ∀ ls : Array Slot, lv_has ls 8 [(0, .ref (ad 83)), (1, .int (iZ v1)), (2, .int (iZ v2)), (3, .int (iZ v3)), (4, .int (iZ v4)), (5, .int (iZ v5)), (6, .int (iZ v6))] → Md_feed_L23 N v1 v2 v3 v4 v5 n v6 h = some out → W p l e (rmD 0) s m args below meth c H locs 0 0 (MQ below (QI D ad cA out) args s 0 0 (FA ad)) (F0 m 23 ls []) := by
  intro n
  induction n with
  | zero =>
    intro v6 h H locs w ls hl hM
    rw [Md_feed_L23] at hM
    cases hM
  | succ n ih =>
    intro v6 h H locs w ls hl hM
    rw [Md_feed_L23] at hM
    refine m_iload C hl 6 d_Md_feed_23 rfl ?_
    refine m_bipush C d_Md_feed_25 (by decide) ?_
    refine m_icmp_ge C hM 120 d_Md_feed_27 (by decide) (fun hM => ?_) (fun hM => ?_)
    · refine m_aload_n C hl 0 d_Md_feed_120 rfl rfl ?_
      refine m_geti C w.1 kc_Md sh_83 (Nat.le_of_ble_eq_true rfl) 7 rfl (by decide) fk_Md_160 d_Md_feed_121 ?_
      exact m_iretW C w hr hlk hM d_Md_feed_124
    · refine m_iload C hl 6 d_Md_feed_30 rfl ?_
      refine m_iconst C d_Md_feed_32 ?_
      refine lt_join hM (fun j2 ej hM => ?_)
      have hJ2 : ∀ (s0_2 : Int), j2 s0_2 = some out → ∀ ls : Array Slot, lv_has ls 8 [(0, .ref (ad 83)), (1, .int (iZ v1)), (2, .int (iZ v2)), (3, .int (iZ v3)), (4, .int (iZ v4)), (5, .int (iZ v5)), (6, .int (iZ v6))] → W p l e (rmD 0) s m args below meth c H locs 0 0 (MQ below (QI D ad cA out) args s 0 0 (FA ad)) (F0 m 76 ls [.int (iZ s0_2)]) := by
        intro s0_2 hM ls hl
        subst ej
        dsimp only at hM
        refine m_istore C hl [(7, .int (iZ s0_2)), (0, .ref (ad 83)), (1, .int (iZ v1)), (2, .int (iZ v2)), (3, .int (iZ v3)), (4, .int (iZ v4)), (5, .int (iZ v5)), (6, .int (iZ v6))] d_Md_feed_76 (by decide) rfl (fun ls hl => ?_)
        refine m_aload_n C hl 1 d_Md_feed_78 rfl rfl ?_
        refine m_getr C w.1 kc_Md sh_83 (Nat.le_of_ble_eq_true rfl) 6 87 rfl (by decide) fk_Md_19 d_Md_feed_79 ?_
        refine m_aload_n C hl 1 d_Md_feed_82 rfl rfl ?_
        refine m_geti C w.1 kc_Md sh_83 (Nat.le_of_ble_eq_true rfl) 7 rfl (by decide) fk_Md_160 d_Md_feed_83 ?_
        refine m_iload C hl 0 d_Md_feed_86 rfl ?_
        refine m_bipush C d_Md_feed_88 (by decide) ?_
        refine m_bipush C d_Md_feed_90 (by decide) ?_
        refine m_iload C hl 7 d_Md_feed_92 rfl ?_
        refine m_iconst C d_Md_feed_94 ?_
        refine m_irem C hM d_Md_feed_95 (fun x3 hM => ?_)
        refine m_imul C d_Md_feed_96 ?_
        refine m_isub C d_Md_feed_97 ?_
        refine m_iushr C d_Md_feed_98 ?_
        refine m_sipush C d_Md_feed_99 (by decide) ?_
        refine m_iand C d_Md_feed_102 ?_
        refine m_iast C w sh_87 (Nat.le_of_ble_eq_true rfl) (Nat.le_of_ble_eq_true rfl) hM d_Md_feed_103 (fun h4 H locs w hM => ?_)
        refine m_aload_n C hl 1 d_Md_feed_104 rfl rfl ?_
        refine m_dup C d_Md_feed_105 rfl ?_
        refine m_geti C w.1 kc_Md sh_83 (Nat.le_of_ble_eq_true rfl) 7 rfl (by decide) fk_Md_160 d_Md_feed_106 ?_
        refine m_iconst C d_Md_feed_109 ?_
        refine m_iadd C d_Md_feed_110 ?_
        refine m_puti C w kc_Md sh_83 (Nat.le_of_ble_eq_true rfl) 7 hM rfl (by decide) rfl rfl fk_Md_160 d_Md_feed_111 (fun h5 H locs w hM => ?_)
        refine m_iinc C hl 7 [(6, .int (iZ (v6 + 1))), (7, .int (iZ s0_2)), (0, .ref (ad 83)), (1, .int (iZ v1)), (2, .int (iZ v2)), (3, .int (iZ v3)), (4, .int (iZ v4)), (5, .int (iZ v5))] d_Md_feed_114 rfl (by decide) rfl (fun ls hl => ?_)
        refine m_goto C 23 d_Md_feed_117 (by decide) ?_
        exact ih (v6 + 1) h5 _ _ w _ (lv_sub hl [2, 3, 4, 5, 6, 7, 0] rfl) hM
      refine m_icmp_ge C hM 40 d_Md_feed_33 (by decide) (fun hM => ?_) (fun hM => ?_)
      · refine m_iload C hl 6 d_Md_feed_40 rfl ?_
        refine m_bipush C d_Md_feed_42 (by decide) ?_
        refine m_icmp_ge C hM 51 d_Md_feed_44 (by decide) (fun hM => ?_) (fun hM => ?_)
        · refine m_iload C hl 6 d_Md_feed_51 rfl ?_
          refine m_bipush C d_Md_feed_53 (by decide) ?_
          refine m_icmp_ge C hM 62 d_Md_feed_55 (by decide) (fun hM => ?_) (fun hM => ?_)
          · refine m_iload C hl 6 d_Md_feed_62 rfl ?_
            refine m_bipush C d_Md_feed_64 (by decide) ?_
            refine m_icmp_ge C hM 74 d_Md_feed_66 (by decide) (fun hM => ?_) (fun hM => ?_)
            · refine m_iload C hl 5 d_Md_feed_74 rfl ?_
              exact hJ2 v5 hM _ hl
            · refine m_iload C hl 4 d_Md_feed_69 rfl ?_
              refine m_goto C 76 d_Md_feed_71 (by decide) ?_
              exact hJ2 v4 hM _ hl
          · refine m_iload_n C hl 3 d_Md_feed_58 rfl rfl ?_
            refine m_goto C 76 d_Md_feed_59 (by decide) ?_
            exact hJ2 v3 hM _ hl
        · refine m_iload_n C hl 2 d_Md_feed_47 rfl rfl ?_
          refine m_goto C 76 d_Md_feed_48 (by decide) ?_
          exact hJ2 v2 hM _ hl
      · refine m_iload_n C hl 1 d_Md_feed_36 rfl rfl ?_
        refine m_goto C 76 d_Md_feed_37 (by decide) ?_
        exact hJ2 v1 hM _ hl
set_option maxHeartbeats 4000000 in
set_option maxRecDepth 100000 in
theorem c_Md_feed {l : Launch} {D : va_G} {ad : Nat → Nat} {cA : Nat → ClassId} {sd sv : Nat → Nat} {h : Hp} {N : Nat} {a1 a2 a3 a4 a5 : Int} {out : (Int × Hp)} (hI : Inj97 ad) (hM : M_Md_feed N h a1 a2 a3 a4 a5 = some out) : Met l y_Md_feed (.code y_Md_feed prog_13_method_37_code 8 (some .int) :: TT) (rmD 0) (PC D ad cA sd sv h [.ref (ad 83), .int (iZ a1), .int (iZ a2), .int (iZ a3), .int (iZ a4), .int (iZ a5)]) (QI D ad cA out) 0 0 (FA ad) := by
  unfold M_Md_feed at hM
  refine entM (by decide +kernel) hI (Nat.le_of_ble_eq_true rfl) ?_
  intro p e s m args below meth c C hr hlk hP ls hl
  have C : Cx p s m args c prog_13_method_37_code 8 "FeastBookModel" D ad cA sd sv (FA ad) := C
  have hl : lv_has ls 8 [(0, .ref (ad 83)), (1, .int (iZ a1)), (2, .int (iZ a2)), (3, .int (iZ a3)), (4, .int (iZ a4)), (5, .int (iZ a5))] := hl
  have w : Wd s D ad cA (FA ad) h s.heap [] := ⟨hP, va_S.rf⟩
  refine m_aload_n C hl 0 d_Md_feed_0 rfl rfl ?_
  refine m_iconst C d_Md_feed_1 ?_
  refine m_puti C w kc_Md sh_83 (Nat.le_of_ble_eq_true rfl) 0 hM rfl (by decide) rfl rfl fk_Md_51 d_Md_feed_2 (fun h1 H locs w hM => ?_)
  refine m_aload_n C hl 0 d_Md_feed_5 rfl rfl ?_
  refine m_geti C w.1 kc_Md sh_83 (Nat.le_of_ble_eq_true rfl) 7 rfl (by decide) fk_Md_160 d_Md_feed_6 ?_
  refine m_bipush C d_Md_feed_9 (by decide) ?_
  refine m_iadd C d_Md_feed_11 ?_
  refine m_sipush C d_Md_feed_12 (by decide) ?_
  refine m_icmp_le C hM 20 d_Md_feed_15 (by decide) (fun hM => ?_) (fun hM => ?_)
  · refine m_iconst C d_Md_feed_20 ?_
    refine m_istore C hl [(6, .int (iZ 0)), (0, .ref (ad 83)), (1, .int (iZ a1)), (2, .int (iZ a2)), (3, .int (iZ a3)), (4, .int (iZ a4)), (5, .int (iZ a5))] d_Md_feed_21 (by decide) rfl (fun ls hl => ?_)
    exact w_Md_feed_L23 N hI C hr hlk a1 a2 a3 a4 a5 _ 0 h1 _ _ w _ (lv_sub hl [1, 2, 3, 4, 5, 6, 0] rfl) hM
  · refine m_iconst C d_Md_feed_18 ?_
    exact m_iretW C w hr hlk hM d_Md_feed_19
def y_Md_isIn : MethodName := ⟨"FeastBookModel", "isIn", "(III)Z"⟩
theorem d_Md_isIn_0 : decode prog_13_method_3_code 0 = .ok (.iload_n 0, 1) := by decide +kernel
theorem d_Md_isIn_1 : decode prog_13_method_3_code 1 = .ok (.iload_n 1, 1) := by decide +kernel
theorem d_Md_isIn_2 : decode prog_13_method_3_code 2 = .ok (.if_icmp .lt 12, 3) := by decide +kernel
theorem d_Md_isIn_5 : decode prog_13_method_3_code 5 = .ok (.iload_n 0, 1) := by decide +kernel
theorem d_Md_isIn_6 : decode prog_13_method_3_code 6 = .ok (.iload_n 2, 1) := by decide +kernel
theorem d_Md_isIn_7 : decode prog_13_method_3_code 7 = .ok (.if_icmp .gt 7, 3) := by decide +kernel
theorem d_Md_isIn_10 : decode prog_13_method_3_code 10 = .ok (.iconst 1, 1) := by decide +kernel
theorem d_Md_isIn_11 : decode prog_13_method_3_code 11 = .ok (.goto 4, 3) := by decide +kernel
theorem d_Md_isIn_14 : decode prog_13_method_3_code 14 = .ok (.iconst 0, 1) := by decide +kernel
theorem d_Md_isIn_15 : decode prog_13_method_3_code 15 = .ok (.ireturn, 1) := by decide +kernel
set_option maxHeartbeats 4000000 in
set_option maxRecDepth 100000 in
theorem c_Md_isIn {l : Launch} {D : va_G} {ad : Nat → Nat} {cA : Nat → ClassId} {sd sv : Nat → Nat} {h : Hp} {a0 a1 a2 : Int} {out : Int} (hI : Inj97 ad) (hM : M_Md_isIn a0 a1 a2 = some out) : Met l y_Md_isIn (.code y_Md_isIn prog_13_method_3_code 3 (some .boolean) :: TT) (rmD 0) (PC D ad cA sd sv h [.int (iZ a0), .int (iZ a1), .int (iZ a2)]) (QR out) 0 0 (fun _ => False) := by
  unfold M_Md_isIn at hM
  refine entM (by decide +kernel) hI (Nat.le_of_ble_eq_true rfl) ?_
  intro p e s m args below meth c C hr hlk hP ls hl
  have C : Cx p s m args c prog_13_method_3_code 3 "FeastBookModel" D ad cA sd sv (FA ad) := C
  have hl : lv_has ls 3 [(0, .int (iZ a0)), (1, .int (iZ a1)), (2, .int (iZ a2))] := hl
  refine m_iload_n C hl 0 d_Md_isIn_0 rfl rfl ?_
  refine m_iload_n C hl 1 d_Md_isIn_1 rfl rfl ?_
  refine m_icmp_lt C hM 14 d_Md_isIn_2 (by decide) (fun hM => ?_) (fun hM => ?_)
  · refine m_iconst C d_Md_isIn_14 ?_
    exact m_zretR C hr hlk hM d_Md_isIn_15
  · refine m_iload_n C hl 0 d_Md_isIn_5 rfl rfl ?_
    refine m_iload_n C hl 2 d_Md_isIn_6 rfl rfl ?_
    refine m_icmp_gt C hM 14 d_Md_isIn_7 (by decide) (fun hM => ?_) (fun hM => ?_)
    · refine m_iconst C d_Md_isIn_14 ?_
      exact m_zretR C hr hlk hM d_Md_isIn_15
    · refine m_iconst C d_Md_isIn_10 ?_
      refine m_goto C 15 d_Md_isIn_11 (by decide) ?_
      exact m_zretR C hr hlk hM d_Md_isIn_15
def y_Md_end : MethodName := ⟨"FeastBookModel", "end", "(I)Z"⟩
theorem d_Md_end_0 : decode prog_13_method_38_code 0 = .ok (.aload_n 0, 1) := by decide +kernel
theorem d_Md_end_1 : decode prog_13_method_38_code 1 = .ok (.iconst 0, 1) := by decide +kernel
theorem d_Md_end_2 : decode prog_13_method_38_code 2 = .ok (.putfield 51, 3) := by decide +kernel
theorem d_Md_end_5 : decode prog_13_method_38_code 5 = .ok (.iload_n 1, 1) := by decide +kernel
theorem d_Md_end_6 : decode prog_13_method_38_code 6 = .ok (.iconst 0, 1) := by decide +kernel
theorem d_Md_end_7 : decode prog_13_method_38_code 7 = .ok (.aload_n 0, 1) := by decide +kernel
theorem d_Md_end_8 : decode prog_13_method_38_code 8 = .ok (.getfield 160, 3) := by decide +kernel
theorem d_Md_end_11 : decode prog_13_method_38_code 11 = .ok (.invokestatic 54, 3) := by decide +kernel
theorem d_Md_end_14 : decode prog_13_method_38_code 14 = .ok (.ifCond .ne 5, 3) := by decide +kernel
theorem d_Md_end_17 : decode prog_13_method_38_code 17 = .ok (.iconst 0, 1) := by decide +kernel
theorem d_Md_end_18 : decode prog_13_method_38_code 18 = .ok (.ireturn, 1) := by decide +kernel
theorem d_Md_end_19 : decode prog_13_method_38_code 19 = .ok (.aload_n 0, 1) := by decide +kernel
theorem d_Md_end_20 : decode prog_13_method_38_code 20 = .ok (.iload_n 1, 1) := by decide +kernel
theorem d_Md_end_21 : decode prog_13_method_38_code 21 = .ok (.putfield 160, 3) := by decide +kernel
theorem d_Md_end_24 : decode prog_13_method_38_code 24 = .ok (.iconst 1, 1) := by decide +kernel
theorem d_Md_end_25 : decode prog_13_method_38_code 25 = .ok (.ireturn, 1) := by decide +kernel
theorem mb_Md_isIn : MBs y_Md_isIn prog_13_method_3_code 3 (some .boolean) 3 := ⟨mT8 189 (by decide +kernel) (by decide +kernel), mT1 10 (by decide +kernel) (by decide +kernel), mT8 190 (by decide +kernel) (by decide +kernel), by decide, by decide +kernel, by decide +kernel, by decide +kernel⟩
theorem lk_Md_54 : Cond.methodLink "FeastBookModel" 54 y_Md_isIn ∈ TT := mT8 188 (by decide +kernel) (by decide +kernel)
set_option maxHeartbeats 4000000 in
set_option maxRecDepth 100000 in
theorem c_Md_end {l : Launch} {D : va_G} {ad : Nat → Nat} {cA : Nat → ClassId} {sd sv : Nat → Nat} {h : Hp} {a1 : Int} {out : (Int × Hp)} (hI : Inj97 ad) (hM : M_Md_end h a1 = some out) : Met l y_Md_end (.code y_Md_end prog_13_method_38_code 2 (some .boolean) :: TT) (rmD 1) (PC D ad cA sd sv h [.ref (ad 83), .int (iZ a1)]) (QI D ad cA out) 0 0 (FA ad) := by
  unfold M_Md_end at hM
  refine entM (by decide +kernel) hI (Nat.le_of_ble_eq_true rfl) ?_
  intro p e s m args below meth c C hr hlk hP ls hl
  have C : Cx p s m args c prog_13_method_38_code 2 "FeastBookModel" D ad cA sd sv (FA ad) := C
  have hl : lv_has ls 2 [(0, .ref (ad 83)), (1, .int (iZ a1))] := hl
  have w : Wd s D ad cA (FA ad) h s.heap [] := ⟨hP, va_S.rf⟩
  refine m_aload_n C hl 0 d_Md_end_0 rfl rfl ?_
  refine m_iconst C d_Md_end_1 ?_
  refine m_puti C w kc_Md sh_83 (Nat.le_of_ble_eq_true rfl) 0 hM rfl (by decide) rfl rfl fk_Md_51 d_Md_end_2 (fun h1 H locs w hM => ?_)
  refine m_iload_n C hl 1 d_Md_end_5 rfl rfl ?_
  refine m_iconst C d_Md_end_6 ?_
  refine m_aload_n C hl 0 d_Md_end_7 rfl rfl ?_
  refine m_geti C w.1 kc_Md sh_83 (Nat.le_of_ble_eq_true rfl) 7 rfl (by decide) fk_Md_160 d_Md_end_8 ?_
  obtain ⟨x3, e2, hM⟩ := bnd_some hM
  refine aftR (runS C w.1 w.2 (c_Md_isIn hI e2) lk_Md_54 mb_Md_isIn rfl ⟨Nat.le_of_ble_eq_true rfl, Nat.le_of_ble_eq_true rfl⟩ ⟨Nat.zero_le _, Nat.zero_le _⟩ (Nat.le_of_ble_eq_true rfl) d_Md_end_11 hl.1 (rest := []) rfl) ?_
  refine m_if_ne C hM 19 d_Md_end_14 (by decide) (fun hM => ?_) (fun hM => ?_)
  · refine m_aload_n C hl 0 d_Md_end_19 rfl rfl ?_
    refine m_iload_n C hl 1 d_Md_end_20 rfl rfl ?_
    refine m_puti C w kc_Md sh_83 (Nat.le_of_ble_eq_true rfl) 7 hM rfl (by decide) rfl rfl fk_Md_160 d_Md_end_21 (fun h4 H locs w hM => ?_)
    refine m_iconst C d_Md_end_24 ?_
    exact m_zretW C w hr hlk hM d_Md_end_25
  · refine m_iconst C d_Md_end_17 ?_
    exact m_zretW C w hr hlk hM d_Md_end_18
def y_Md_here : MethodName := ⟨"FeastBookModel", "here", "()I"⟩
theorem d_Md_here_0 : decode prog_13_method_39_code 0 = .ok (.aload_n 0, 1) := by decide +kernel
theorem d_Md_here_1 : decode prog_13_method_39_code 1 = .ok (.getfield 163, 3) := by decide +kernel
theorem d_Md_here_4 : decode prog_13_method_39_code 4 = .ok (.aload_n 0, 1) := by decide +kernel
theorem d_Md_here_5 : decode prog_13_method_39_code 5 = .ok (.getfield 166, 3) := by decide +kernel
theorem d_Md_here_8 : decode prog_13_method_39_code 8 = .ok (.if_icmp .ge 30, 3) := by decide +kernel
theorem d_Md_here_11 : decode prog_13_method_39_code 11 = .ok (.aload_n 0, 1) := by decide +kernel
theorem d_Md_here_12 : decode prog_13_method_39_code 12 = .ok (.getfield 19, 3) := by decide +kernel
theorem d_Md_here_15 : decode prog_13_method_39_code 15 = .ok (.aload_n 0, 1) := by decide +kernel
theorem d_Md_here_16 : decode prog_13_method_39_code 16 = .ok (.getfield 163, 3) := by decide +kernel
theorem d_Md_here_19 : decode prog_13_method_39_code 19 = .ok (.iaload, 1) := by decide +kernel
theorem d_Md_here_20 : decode prog_13_method_39_code 20 = .ok (.bipush 32, 2) := by decide +kernel
theorem d_Md_here_22 : decode prog_13_method_39_code 22 = .ok (.if_icmp .ne 16, 3) := by decide +kernel
theorem d_Md_here_25 : decode prog_13_method_39_code 25 = .ok (.aload_n 0, 1) := by decide +kernel
theorem d_Md_here_26 : decode prog_13_method_39_code 26 = .ok (.dup, 1) := by decide +kernel
theorem d_Md_here_27 : decode prog_13_method_39_code 27 = .ok (.getfield 163, 3) := by decide +kernel
theorem d_Md_here_30 : decode prog_13_method_39_code 30 = .ok (.iconst 1, 1) := by decide +kernel
theorem d_Md_here_31 : decode prog_13_method_39_code 31 = .ok (.iadd, 1) := by decide +kernel
theorem d_Md_here_32 : decode prog_13_method_39_code 32 = .ok (.putfield 163, 3) := by decide +kernel
theorem d_Md_here_35 : decode prog_13_method_39_code 35 = .ok (.goto (-35), 3) := by decide +kernel
theorem d_Md_here_38 : decode prog_13_method_39_code 38 = .ok (.aload_n 0, 1) := by decide +kernel
theorem d_Md_here_39 : decode prog_13_method_39_code 39 = .ok (.getfield 163, 3) := by decide +kernel
theorem d_Md_here_42 : decode prog_13_method_39_code 42 = .ok (.ireturn, 1) := by decide +kernel
theorem fk_Md_163 : Cond.fieldLink "FeastBookModel" 163 (T_Md 9).1 (T_Md 9).2.1 (T_Md 9).2.2.1 ∈ TT := mT8 105 (by decide +kernel) (by decide +kernel)
theorem fk_Md_166 : Cond.fieldLink "FeastBookModel" 166 (T_Md 8).1 (T_Md 8).2.1 (T_Md 8).2.2.1 ∈ TT := mT8 104 (by decide +kernel) (by decide +kernel)
set_option maxHeartbeats 4000000 in
set_option maxRecDepth 100000 in
theorem w_Md_here_L0 {p : Program} {l : Launch} {e : Env} {s : State} {m : MethodId} {args : Array Value} {below : List Frame} {meth : Method} {c : Code} {D : va_G} {ad : Nat → Nat} {cA : Nat → ClassId} {sd sv : Nat → Nat} {out : (Int × Hp)} (N : Nat) (hI : Inj97 ad) (C : Cx p s m args c prog_13_method_39_code 1 "FeastBookModel" D ad cA sd sv (FA ad)) (hr : meth.sig.returnType = (some .int)) (hlk : meth.locks = false) : ∀ (n : Nat) (h : Hp) (H : Heap) (locs : List Loc), Wd s D ad cA (FA ad) h H locs → ∀ ls : Array Slot, lv_has ls 1 [(0, .ref (ad 83))] → Md_here_L0 N n h = some out → W p l e (rmD 0) s m args below meth c H locs 0 0 (MQ below (QI D ad cA out) args s 0 0 (FA ad)) (F0 m 0 ls []) := by
  intro n
  induction n with
  | zero =>
    intro h H locs w ls hl hM
    rw [Md_here_L0] at hM
    cases hM
  | succ n ih =>
    intro h H locs w ls hl hM
    rw [Md_here_L0] at hM
    refine m_aload_n C hl 0 d_Md_here_0 rfl rfl ?_
    refine m_geti C w.1 kc_Md sh_83 (Nat.le_of_ble_eq_true rfl) 9 rfl (by decide) fk_Md_163 d_Md_here_1 ?_
    refine m_aload_n C hl 0 d_Md_here_4 rfl rfl ?_
    refine m_geti C w.1 kc_Md sh_83 (Nat.le_of_ble_eq_true rfl) 8 rfl (by decide) fk_Md_166 d_Md_here_5 ?_
    refine m_icmp_ge C hM 38 d_Md_here_8 (by decide) (fun hM => ?_) (fun hM => ?_)
    · refine m_aload_n C hl 0 d_Md_here_38 rfl rfl ?_
      refine m_geti C w.1 kc_Md sh_83 (Nat.le_of_ble_eq_true rfl) 9 rfl (by decide) fk_Md_163 d_Md_here_39 ?_
      exact m_iretW C w hr hlk hM d_Md_here_42
    · refine m_aload_n C hl 0 d_Md_here_11 rfl rfl ?_
      refine m_getr C w.1 kc_Md sh_83 (Nat.le_of_ble_eq_true rfl) 6 87 rfl (by decide) fk_Md_19 d_Md_here_12 ?_
      refine m_aload_n C hl 0 d_Md_here_15 rfl rfl ?_
      refine m_geti C w.1 kc_Md sh_83 (Nat.le_of_ble_eq_true rfl) 9 rfl (by decide) fk_Md_163 d_Md_here_16 ?_
      refine m_iald C w.1 sh_87 (Nat.le_of_ble_eq_true rfl) (Nat.le_of_ble_eq_true rfl) hM d_Md_here_19 (fun x1 hM => ?_)
      refine m_bipush C d_Md_here_20 (by decide) ?_
      refine m_icmp_ne C hM 38 d_Md_here_22 (by decide) (fun hM => ?_) (fun hM => ?_)
      · refine m_aload_n C hl 0 d_Md_here_38 rfl rfl ?_
        refine m_geti C w.1 kc_Md sh_83 (Nat.le_of_ble_eq_true rfl) 9 rfl (by decide) fk_Md_163 d_Md_here_39 ?_
        exact m_iretW C w hr hlk hM d_Md_here_42
      · refine m_aload_n C hl 0 d_Md_here_25 rfl rfl ?_
        refine m_dup C d_Md_here_26 rfl ?_
        refine m_geti C w.1 kc_Md sh_83 (Nat.le_of_ble_eq_true rfl) 9 rfl (by decide) fk_Md_163 d_Md_here_27 ?_
        refine m_iconst C d_Md_here_30 ?_
        refine m_iadd C d_Md_here_31 ?_
        refine m_puti C w kc_Md sh_83 (Nat.le_of_ble_eq_true rfl) 9 hM rfl (by decide) rfl rfl fk_Md_163 d_Md_here_32 (fun h2 H locs w hM => ?_)
        refine m_goto C 0 d_Md_here_35 (by decide) ?_
        exact ih  h2 _ _ w _ hl hM
set_option maxHeartbeats 4000000 in
set_option maxRecDepth 100000 in
theorem c_Md_here {l : Launch} {D : va_G} {ad : Nat → Nat} {cA : Nat → ClassId} {sd sv : Nat → Nat} {h : Hp} {N : Nat} {out : (Int × Hp)} (hI : Inj97 ad) (hM : M_Md_here N h = some out) : Met l y_Md_here (.code y_Md_here prog_13_method_39_code 1 (some .int) :: TT) (rmD 0) (PC D ad cA sd sv h [.ref (ad 83)]) (QI D ad cA out) 0 0 (FA ad) := by
  unfold M_Md_here at hM
  refine entM (by decide +kernel) hI (Nat.le_of_ble_eq_true rfl) ?_
  intro p e s m args below meth c C hr hlk hP ls hl
  have C : Cx p s m args c prog_13_method_39_code 1 "FeastBookModel" D ad cA sd sv (FA ad) := C
  have hl : lv_has ls 1 [(0, .ref (ad 83))] := hl
  have w : Wd s D ad cA (FA ad) h s.heap [] := ⟨hP, va_S.rf⟩
  exact w_Md_here_L0 N hI C hr hlk  _  h _ _ w _ hl hM
def y_Md_has : MethodName := ⟨"FeastBookModel", "has", "(Ljava/lang/String;)Z"⟩
theorem d_Md_has_0 : decode prog_13_method_41_code 0 = .ok (.aload_n 0, 1) := by decide +kernel
theorem d_Md_has_1 : decode prog_13_method_41_code 1 = .ok (.invokevirtual 169, 3) := by decide +kernel
theorem d_Md_has_4 : decode prog_13_method_41_code 4 = .ok (.istore_n 2, 1) := by decide +kernel
theorem d_Md_has_5 : decode prog_13_method_41_code 5 = .ok (.iload_n 2, 1) := by decide +kernel
theorem d_Md_has_6 : decode prog_13_method_41_code 6 = .ok (.aload_n 0, 1) := by decide +kernel
theorem d_Md_has_7 : decode prog_13_method_41_code 7 = .ok (.getfield 166, 3) := by decide +kernel
theorem d_Md_has_10 : decode prog_13_method_41_code 10 = .ok (.if_icmp .ge 25, 3) := by decide +kernel
theorem d_Md_has_13 : decode prog_13_method_41_code 13 = .ok (.aload_n 0, 1) := by decide +kernel
theorem d_Md_has_14 : decode prog_13_method_41_code 14 = .ok (.getfield 19, 3) := by decide +kernel
theorem d_Md_has_17 : decode prog_13_method_41_code 17 = .ok (.iload_n 2, 1) := by decide +kernel
theorem d_Md_has_18 : decode prog_13_method_41_code 18 = .ok (.iaload, 1) := by decide +kernel
theorem d_Md_has_19 : decode prog_13_method_41_code 19 = .ok (.bipush 97, 2) := by decide +kernel
theorem d_Md_has_21 : decode prog_13_method_41_code 21 = .ok (.bipush 122, 2) := by decide +kernel
theorem d_Md_has_23 : decode prog_13_method_41_code 23 = .ok (.invokestatic 54, 3) := by decide +kernel
theorem d_Md_has_26 : decode prog_13_method_41_code 26 = .ok (.ifCond .eq 9, 3) := by decide +kernel
theorem d_Md_has_29 : decode prog_13_method_41_code 29 = .ok (.iinc 2 1, 3) := by decide +kernel
theorem d_Md_has_32 : decode prog_13_method_41_code 32 = .ok (.goto (-27), 3) := by decide +kernel
theorem d_Md_has_35 : decode prog_13_method_41_code 35 = .ok (.aload_n 0, 1) := by decide +kernel
theorem d_Md_has_36 : decode prog_13_method_41_code 36 = .ok (.getfield 22, 3) := by decide +kernel
theorem d_Md_has_39 : decode prog_13_method_41_code 39 = .ok (.iconst (-1), 1) := by decide +kernel
theorem d_Md_has_40 : decode prog_13_method_41_code 40 = .ok (.if_icmp .ne 16, 3) := by decide +kernel
theorem d_Md_has_43 : decode prog_13_method_41_code 43 = .ok (.iload_n 2, 1) := by decide +kernel
theorem d_Md_has_44 : decode prog_13_method_41_code 44 = .ok (.aload_n 0, 1) := by decide +kernel
theorem d_Md_has_45 : decode prog_13_method_41_code 45 = .ok (.getfield 163, 3) := by decide +kernel
theorem d_Md_has_48 : decode prog_13_method_41_code 48 = .ok (.isub, 1) := by decide +kernel
theorem d_Md_has_49 : decode prog_13_method_41_code 49 = .ok (.aload_n 1, 1) := by decide +kernel
theorem d_Md_has_50 : decode prog_13_method_41_code 50 = .ok (.invokevirtual 173, 3) := by decide +kernel
theorem d_Md_has_53 : decode prog_13_method_41_code 53 = .ok (.if_icmp .eq 5, 3) := by decide +kernel
theorem d_Md_has_56 : decode prog_13_method_41_code 56 = .ok (.iconst 0, 1) := by decide +kernel
theorem d_Md_has_57 : decode prog_13_method_41_code 57 = .ok (.ireturn, 1) := by decide +kernel
theorem d_Md_has_58 : decode prog_13_method_41_code 58 = .ok (.iconst 0, 1) := by decide +kernel
theorem d_Md_has_59 : decode prog_13_method_41_code 59 = .ok (.istore_n 3, 1) := by decide +kernel
theorem d_Md_has_60 : decode prog_13_method_41_code 60 = .ok (.iload_n 3, 1) := by decide +kernel
theorem d_Md_has_61 : decode prog_13_method_41_code 61 = .ok (.aload_n 1, 1) := by decide +kernel
theorem d_Md_has_62 : decode prog_13_method_41_code 62 = .ok (.invokevirtual 173, 3) := by decide +kernel
theorem d_Md_has_65 : decode prog_13_method_41_code 65 = .ok (.if_icmp .ge 30, 3) := by decide +kernel
theorem d_Md_has_68 : decode prog_13_method_41_code 68 = .ok (.aload_n 0, 1) := by decide +kernel
theorem d_Md_has_69 : decode prog_13_method_41_code 69 = .ok (.getfield 19, 3) := by decide +kernel
theorem d_Md_has_72 : decode prog_13_method_41_code 72 = .ok (.aload_n 0, 1) := by decide +kernel
theorem d_Md_has_73 : decode prog_13_method_41_code 73 = .ok (.getfield 163, 3) := by decide +kernel
theorem d_Md_has_76 : decode prog_13_method_41_code 76 = .ok (.iload_n 3, 1) := by decide +kernel
theorem d_Md_has_77 : decode prog_13_method_41_code 77 = .ok (.iadd, 1) := by decide +kernel
theorem d_Md_has_78 : decode prog_13_method_41_code 78 = .ok (.iaload, 1) := by decide +kernel
theorem d_Md_has_79 : decode prog_13_method_41_code 79 = .ok (.aload_n 1, 1) := by decide +kernel
theorem d_Md_has_80 : decode prog_13_method_41_code 80 = .ok (.iload_n 3, 1) := by decide +kernel
theorem d_Md_has_81 : decode prog_13_method_41_code 81 = .ok (.invokevirtual 178, 3) := by decide +kernel
theorem d_Md_has_84 : decode prog_13_method_41_code 84 = .ok (.if_icmp .eq 5, 3) := by decide +kernel
theorem d_Md_has_87 : decode prog_13_method_41_code 87 = .ok (.iconst 0, 1) := by decide +kernel
theorem d_Md_has_88 : decode prog_13_method_41_code 88 = .ok (.ireturn, 1) := by decide +kernel
theorem d_Md_has_89 : decode prog_13_method_41_code 89 = .ok (.iinc 3 1, 3) := by decide +kernel
theorem d_Md_has_92 : decode prog_13_method_41_code 92 = .ok (.goto (-32), 3) := by decide +kernel
theorem d_Md_has_95 : decode prog_13_method_41_code 95 = .ok (.aload_n 0, 1) := by decide +kernel
theorem d_Md_has_96 : decode prog_13_method_41_code 96 = .ok (.iload_n 2, 1) := by decide +kernel
theorem d_Md_has_97 : decode prog_13_method_41_code 97 = .ok (.putfield 163, 3) := by decide +kernel
theorem d_Md_has_100 : decode prog_13_method_41_code 100 = .ok (.iconst 1, 1) := by decide +kernel
theorem d_Md_has_101 : decode prog_13_method_41_code 101 = .ok (.ireturn, 1) := by decide +kernel
theorem mb_Md_here : MBv R_Md y_Md_here prog_13_method_39_code 1 (some .int) 0 := ⟨mT8 210 (by decide +kernel) (by decide +kernel), mTs 17 (by decide +kernel) (by decide +kernel), mT1 10 (by decide +kernel) (by decide +kernel), mT8 211 (by decide +kernel) (by decide +kernel), by decide, rfl, by decide +kernel, by decide +kernel, by decide +kernel⟩
theorem fk_Md_22 : Cond.fieldLink "FeastBookModel" 22 (T_Md 10).1 (T_Md 10).2.1 (T_Md 10).2.2.1 ∈ TT := mT8 106 (by decide +kernel) (by decide +kernel)
theorem lk_Md_169 : Cond.methodLink "FeastBookModel" 169 y_Md_here ∈ TT := mT8 208 (by decide +kernel) (by decide +kernel)
theorem lk_Md_173 : Cond.methodLink "FeastBookModel" 173 y_Slen ∈ TT := mT8 212 (by decide +kernel) (by decide +kernel)
theorem lk_Md_178 : Cond.methodLink "FeastBookModel" 178 y_Sca ∈ TT := mT8 213 (by decide +kernel) (by decide +kernel)
set_option maxHeartbeats 4000000 in
set_option maxRecDepth 100000 in
theorem w_Md_has_L5 {p : Program} {l : Launch} {e : Env} {s : State} {m : MethodId} {args : Array Value} {below : List Frame} {meth : Method} {c : Code} {D : va_G} {ad : Nat → Nat} {cA : Nat → ClassId} {sd sv : Nat → Nat} {out : (Int × Hp)} (N : Nat) (t1 : Nat) (ht1 : t1 < 36) (hI : Inj97 ad) (C : Cx p s m args c prog_13_method_41_code 4 "FeastBookModel" D ad cA sd sv (FA ad)) (hr : meth.sig.returnType = (some .boolean)) (hlk : meth.locks = false) (h : Hp) (H : Heap) (locs : List Loc) (w : Wd s D ad cA (FA ad) h H locs) (k : Int → Option (Int × Hp)) (kW : ∀ (v2 : Int) , k v2 = some out → ∀ ls : Array Slot, lv_has ls 4 [(0, .ref (ad 83)), (1, .ref (sd t1)), (2, .int (iZ v2))] → W p l e (rmD 4) s m args below meth c H locs 0 0 (MQ below (QI D ad cA out) args s 0 0 (FA ad)) (F0 m 35 ls [])) : ∀ (n : Nat) (v2 : Int), ∀ ls : Array Slot, lv_has ls 4 [(0, .ref (ad 83)), (1, .ref (sd t1)), (2, .int (iZ v2))] → Md_has_L5 N h t1 k n v2 = some out → W p l e (rmD 4) s m args below meth c H locs 0 0 (MQ below (QI D ad cA out) args s 0 0 (FA ad)) (F0 m 5 ls []) := by
  intro n
  induction n with
  | zero =>
    intro v2 ls hl hM
    rw [Md_has_L5] at hM
    cases hM
  | succ n ih =>
    intro v2 ls hl hM
    rw [Md_has_L5] at hM
    refine m_iload_n C hl 2 d_Md_has_5 rfl rfl ?_
    refine m_aload_n C hl 0 d_Md_has_6 rfl rfl ?_
    refine m_geti C w.1 kc_Md sh_83 (Nat.le_of_ble_eq_true rfl) 8 rfl (by decide) fk_Md_166 d_Md_has_7 ?_
    refine m_icmp_ge C hM 35 d_Md_has_10 (by decide) (fun hM => ?_) (fun hM => ?_)
    · exact kW v2 hM _ hl
    · refine m_aload_n C hl 0 d_Md_has_13 rfl rfl ?_
      refine m_getr C w.1 kc_Md sh_83 (Nat.le_of_ble_eq_true rfl) 6 87 rfl (by decide) fk_Md_19 d_Md_has_14 ?_
      refine m_iload_n C hl 2 d_Md_has_17 rfl rfl ?_
      refine m_iald C w.1 sh_87 (Nat.le_of_ble_eq_true rfl) (Nat.le_of_ble_eq_true rfl) hM d_Md_has_18 (fun x3 hM => ?_)
      refine m_bipush C d_Md_has_19 (by decide) ?_
      refine m_bipush C d_Md_has_21 (by decide) ?_
      obtain ⟨x5, e4, hM⟩ := bnd_some hM
      refine aftR (runS C w.1 w.2 (c_Md_isIn hI e4) lk_Md_54 mb_Md_isIn rfl ⟨Nat.le_of_ble_eq_true rfl, Nat.le_of_ble_eq_true rfl⟩ ⟨Nat.zero_le _, Nat.zero_le _⟩ (Nat.le_of_ble_eq_true rfl) d_Md_has_23 hl.1 (rest := []) rfl) ?_
      refine m_if_eq C hM 35 d_Md_has_26 (by decide) (fun hM => ?_) (fun hM => ?_)
      · exact kW v2 hM _ hl
      · refine m_iinc C hl 2 [(2, .int (iZ (v2 + 1))), (0, .ref (ad 83)), (1, .ref (sd t1))] d_Md_has_29 rfl (by decide) rfl (fun ls hl => ?_)
        refine m_goto C 5 d_Md_has_32 (by decide) ?_
        exact ih (v2 + 1) _ (lv_sub hl [1, 2, 0] rfl) hM
set_option maxHeartbeats 4000000 in
set_option maxRecDepth 100000 in
theorem w_Md_has_L60 {p : Program} {l : Launch} {e : Env} {s : State} {m : MethodId} {args : Array Value} {below : List Frame} {meth : Method} {c : Code} {D : va_G} {ad : Nat → Nat} {cA : Nat → ClassId} {sd sv : Nat → Nat} {out : (Int × Hp)} (N : Nat) (t1 : Nat) (ht1 : t1 < 36) (hI : Inj97 ad) (C : Cx p s m args c prog_13_method_41_code 4 "FeastBookModel" D ad cA sd sv (FA ad)) (hr : meth.sig.returnType = (some .boolean)) (hlk : meth.locks = false) (v2 : Int) (h : Hp) (H : Heap) (locs : List Loc) (w : Wd s D ad cA (FA ad) h H locs) : ∀ (n : Nat) (v3 : Int), ∀ ls : Array Slot, lv_has ls 4 [(0, .ref (ad 83)), (1, .ref (sd t1)), (2, .int (iZ v2)), (3, .int (iZ v3))] → Md_has_L60 N h v2 t1 n v3 = some out → W p l e (rmD 4) s m args below meth c H locs 0 0 (MQ below (QI D ad cA out) args s 0 0 (FA ad)) (F0 m 60 ls []) := by
  intro n
  induction n with
  | zero =>
    intro v3 ls hl hM
    rw [Md_has_L60] at hM
    cases hM
  | succ n ih =>
    intro v3 ls hl hM
    rw [Md_has_L60] at hM
    refine m_iload_n C hl 3 d_Md_has_60 rfl rfl ?_
    refine m_aload_n C hl 1 d_Md_has_61 rfl rfl ?_
    refine aftR (runVS C w.1 w.2 ht1 (c_Slen hI ht1) lk_Md_173 mb_Slen rfl ⟨Nat.le_of_ble_eq_true rfl, Nat.le_of_ble_eq_true rfl⟩ ⟨Nat.zero_le _, Nat.zero_le _⟩ (Nat.le_of_ble_eq_true rfl) d_Md_has_62 hl.1 (rest := [.int (iZ v3)]) rfl) ?_
    refine m_icmp_ge C hM 95 d_Md_has_65 (by decide) (fun hM => ?_) (fun hM => ?_)
    · refine m_aload_n C hl 0 d_Md_has_95 rfl rfl ?_
      refine m_iload_n C hl 2 d_Md_has_96 rfl rfl ?_
      refine m_puti C w kc_Md sh_83 (Nat.le_of_ble_eq_true rfl) 9 hM rfl (by decide) rfl rfl fk_Md_163 d_Md_has_97 (fun h7 H locs w hM => ?_)
      refine m_iconst C d_Md_has_100 ?_
      exact m_zretW C w hr hlk hM d_Md_has_101
    · refine m_aload_n C hl 0 d_Md_has_68 rfl rfl ?_
      refine m_getr C w.1 kc_Md sh_83 (Nat.le_of_ble_eq_true rfl) 6 87 rfl (by decide) fk_Md_19 d_Md_has_69 ?_
      refine m_aload_n C hl 0 d_Md_has_72 rfl rfl ?_
      refine m_geti C w.1 kc_Md sh_83 (Nat.le_of_ble_eq_true rfl) 9 rfl (by decide) fk_Md_163 d_Md_has_73 ?_
      refine m_iload_n C hl 3 d_Md_has_76 rfl rfl ?_
      refine m_iadd C d_Md_has_77 ?_
      refine m_iald C w.1 sh_87 (Nat.le_of_ble_eq_true rfl) (Nat.le_of_ble_eq_true rfl) hM d_Md_has_78 (fun x8 hM => ?_)
      refine m_aload_n C hl 1 d_Md_has_79 rfl rfl ?_
      refine m_iload_n C hl 3 d_Md_has_80 rfl rfl ?_
      obtain ⟨x9, e10, hM⟩ := bnd_some hM
      refine aftR (runVS C w.1 w.2 ht1 (c_Sca2 hI ht1 e10) lk_Md_178 mb_Sca rfl ⟨Nat.le_of_ble_eq_true rfl, Nat.le_of_ble_eq_true rfl⟩ ⟨Nat.zero_le _, Nat.zero_le _⟩ (Nat.le_of_ble_eq_true rfl) d_Md_has_81 hl.1 (rest := [.int (iZ x8)]) rfl) ?_
      refine m_icmp_eq C hM 89 d_Md_has_84 (by decide) (fun hM => ?_) (fun hM => ?_)
      · refine m_iinc C hl 3 [(3, .int (iZ (v3 + 1))), (0, .ref (ad 83)), (1, .ref (sd t1)), (2, .int (iZ v2))] d_Md_has_89 rfl (by decide) rfl (fun ls hl => ?_)
        refine m_goto C 60 d_Md_has_92 (by decide) ?_
        exact ih (v3 + 1) _ (lv_sub hl [1, 2, 3, 0] rfl) hM
      · refine m_iconst C d_Md_has_87 ?_
        exact m_zretW C w hr hlk hM d_Md_has_88
set_option maxHeartbeats 4000000 in
set_option maxRecDepth 100000 in
theorem c_Md_has {l : Launch} {D : va_G} {ad : Nat → Nat} {cA : Nat → ClassId} {sd sv : Nat → Nat} {h : Hp} {N : Nat} {t1 : Nat} {out : (Int × Hp)} (hI : Inj97 ad) (ht1 : t1 < 36) (hM : M_Md_has N h t1 = some out) : Met l y_Md_has (.code y_Md_has prog_13_method_41_code 4 (some .boolean) :: TT) (rmD 4) (PC D ad cA sd sv h [.ref (ad 83), .ref (sd t1)]) (QI D ad cA out) 0 0 (FA ad) := by
  unfold M_Md_has at hM
  refine entM (by decide +kernel) hI (Nat.le_of_ble_eq_true rfl) ?_
  intro p e s m args below meth c C hr hlk hP ls hl
  have C : Cx p s m args c prog_13_method_41_code 4 "FeastBookModel" D ad cA sd sv (FA ad) := C
  have hl : lv_has ls 4 [(0, .ref (ad 83)), (1, .ref (sd t1))] := hl
  have w : Wd s D ad cA (FA ad) h s.heap [] := ⟨hP, va_S.rf⟩
  refine m_aload_n C hl 0 d_Md_has_0 rfl rfl ?_
  obtain ⟨q2, e1, hM⟩ := bnd_some hM
  refine aftI C w (runV C w.1 w.2 kc_Md sh_83 (Nat.le_of_ble_eq_true rfl) (c_Md_here hI e1) lk_Md_169 mb_Md_here rfl ⟨Nat.le_of_ble_eq_true rfl, Nat.le_of_ble_eq_true rfl⟩ ⟨Nat.zero_le _, Nat.zero_le _⟩ (Nat.le_of_ble_eq_true rfl) d_Md_has_1 hl.1 (rest := []) rfl) (fun H locs w => ?_)
  refine m_istore_n C hl [(2, .int (iZ q2.1)), (0, .ref (ad 83)), (1, .ref (sd t1))] d_Md_has_4 rfl (by decide) rfl (fun ls hl => ?_)
  refine w_Md_has_L5 N t1 ht1 hI C hr hlk  q2.2 _ _ w _ (fun v2_6 hM ls hl => ?_) _ q2.1 _ (lv_sub hl [1, 2, 0] rfl) hM
  refine m_aload_n C hl 0 d_Md_has_35 rfl rfl ?_
  refine m_geti C w.1 kc_Md sh_83 (Nat.le_of_ble_eq_true rfl) 10 rfl (by decide) fk_Md_22 d_Md_has_36 ?_
  refine m_iconst C d_Md_has_39 ?_
  refine m_icmp_ne C hM 56 d_Md_has_40 (by decide) (fun hM => ?_) (fun hM => ?_)
  · refine m_iconst C d_Md_has_56 ?_
    exact m_zretW C w hr hlk hM d_Md_has_57
  · refine m_iload_n C hl 2 d_Md_has_43 rfl rfl ?_
    refine m_aload_n C hl 0 d_Md_has_44 rfl rfl ?_
    refine m_geti C w.1 kc_Md sh_83 (Nat.le_of_ble_eq_true rfl) 9 rfl (by decide) fk_Md_163 d_Md_has_45 ?_
    refine m_isub C d_Md_has_48 ?_
    refine m_aload_n C hl 1 d_Md_has_49 rfl rfl ?_
    refine aftR (runVS C w.1 w.2 ht1 (c_Slen hI ht1) lk_Md_173 mb_Slen rfl ⟨Nat.le_of_ble_eq_true rfl, Nat.le_of_ble_eq_true rfl⟩ ⟨Nat.zero_le _, Nat.zero_le _⟩ (Nat.le_of_ble_eq_true rfl) d_Md_has_50 hl.1 (rest := [.int (iZ (v2_6 - (q2.2 83 9)))]) rfl) ?_
    refine m_icmp_eq C hM 58 d_Md_has_53 (by decide) (fun hM => ?_) (fun hM => ?_)
    · refine m_iconst C d_Md_has_58 ?_
      refine m_istore_n C hl [(3, .int (iZ 0)), (0, .ref (ad 83)), (1, .ref (sd t1)), (2, .int (iZ v2_6))] d_Md_has_59 rfl (by decide) rfl (fun ls hl => ?_)
      exact w_Md_has_L60 N t1 ht1 hI C hr hlk v2_6 q2.2 _ _ w _ 0 _ (lv_sub hl [1, 2, 3, 0] rfl) hM
    · refine m_iconst C d_Md_has_56 ?_
      exact m_zretW C w hr hlk hM d_Md_has_57
def y_Md_wrong : MethodName := ⟨"FeastBookModel", "wrong", "(I)V"⟩
theorem d_Md_wrong_0 : decode prog_13_method_40_code 0 = .ok (.aload_n 0, 1) := by decide +kernel
theorem d_Md_wrong_1 : decode prog_13_method_40_code 1 = .ok (.getfield 22, 3) := by decide +kernel
theorem d_Md_wrong_4 : decode prog_13_method_40_code 4 = .ok (.iconst (-1), 1) := by decide +kernel
theorem d_Md_wrong_5 : decode prog_13_method_40_code 5 = .ok (.if_icmp .ne 8, 3) := by decide +kernel
theorem d_Md_wrong_8 : decode prog_13_method_40_code 8 = .ok (.aload_n 0, 1) := by decide +kernel
theorem d_Md_wrong_9 : decode prog_13_method_40_code 9 = .ok (.iload_n 1, 1) := by decide +kernel
theorem d_Md_wrong_10 : decode prog_13_method_40_code 10 = .ok (.putfield 22, 3) := by decide +kernel
theorem d_Md_wrong_13 : decode prog_13_method_40_code 13 = .ok (.return_, 1) := by decide +kernel
set_option maxHeartbeats 4000000 in
set_option maxRecDepth 100000 in
theorem c_Md_wrong {l : Launch} {D : va_G} {ad : Nat → Nat} {cA : Nat → ClassId} {sd sv : Nat → Nat} {h : Hp} {a1 : Int} {out : Hp} (hI : Inj97 ad) (hM : M_Md_wrong h a1 = some out) : Met l y_Md_wrong (.code y_Md_wrong prog_13_method_40_code 2 none :: TT) (rmD 0) (PC D ad cA sd sv h [.ref (ad 83), .int (iZ a1)]) (QV D ad cA out) 0 0 (FA ad) := by
  unfold M_Md_wrong at hM
  refine entM (by decide +kernel) hI (Nat.le_of_ble_eq_true rfl) ?_
  intro p e s m args below meth c C hr hlk hP ls hl
  have C : Cx p s m args c prog_13_method_40_code 2 "FeastBookModel" D ad cA sd sv (FA ad) := C
  have hl : lv_has ls 2 [(0, .ref (ad 83)), (1, .int (iZ a1))] := hl
  have w : Wd s D ad cA (FA ad) h s.heap [] := ⟨hP, va_S.rf⟩
  refine m_aload_n C hl 0 d_Md_wrong_0 rfl rfl ?_
  refine m_geti C w.1 kc_Md sh_83 (Nat.le_of_ble_eq_true rfl) 10 rfl (by decide) fk_Md_22 d_Md_wrong_1 ?_
  refine m_iconst C d_Md_wrong_4 ?_
  refine m_icmp_ne C hM 13 d_Md_wrong_5 (by decide) (fun hM => ?_) (fun hM => ?_)
  · exact m_vretW C w hr hlk hM d_Md_wrong_13
  · refine m_aload_n C hl 0 d_Md_wrong_8 rfl rfl ?_
    refine m_iload_n C hl 1 d_Md_wrong_9 rfl rfl ?_
    refine m_puti C w kc_Md sh_83 (Nat.le_of_ble_eq_true rfl) 10 hM rfl (by decide) rfl rfl fk_Md_22 d_Md_wrong_10 (fun h1 H locs w hM => ?_)
    exact m_vretW C w hr hlk hM d_Md_wrong_13
def y_Md_expects : MethodName := ⟨"FeastBookModel", "expects", "(Ljava/lang/String;)V"⟩
theorem d_Md_expects_0 : decode prog_13_method_42_code 0 = .ok (.aload_n 0, 1) := by decide +kernel
theorem d_Md_expects_1 : decode prog_13_method_42_code 1 = .ok (.getfield 22, 3) := by decide +kernel
theorem d_Md_expects_4 : decode prog_13_method_42_code 4 = .ok (.iconst (-1), 1) := by decide +kernel
theorem d_Md_expects_5 : decode prog_13_method_42_code 5 = .ok (.if_icmp .ne 19, 3) := by decide +kernel
theorem d_Md_expects_8 : decode prog_13_method_42_code 8 = .ok (.aload_n 0, 1) := by decide +kernel
theorem d_Md_expects_9 : decode prog_13_method_42_code 9 = .ok (.aload_n 1, 1) := by decide +kernel
theorem d_Md_expects_10 : decode prog_13_method_42_code 10 = .ok (.invokevirtual 182, 3) := by decide +kernel
theorem d_Md_expects_13 : decode prog_13_method_42_code 13 = .ok (.ifCond .ne 11, 3) := by decide +kernel
theorem d_Md_expects_16 : decode prog_13_method_42_code 16 = .ok (.aload_n 0, 1) := by decide +kernel
theorem d_Md_expects_17 : decode prog_13_method_42_code 17 = .ok (.aload_n 0, 1) := by decide +kernel
theorem d_Md_expects_18 : decode prog_13_method_42_code 18 = .ok (.getfield 163, 3) := by decide +kernel
theorem d_Md_expects_21 : decode prog_13_method_42_code 21 = .ok (.invokevirtual 186, 3) := by decide +kernel
theorem d_Md_expects_24 : decode prog_13_method_42_code 24 = .ok (.return_, 1) := by decide +kernel
theorem mb_Md_has : MBv R_Md y_Md_has prog_13_method_41_code 4 (some .boolean) 1 := ⟨mT8 206 (by decide +kernel) (by decide +kernel), mTs 16 (by decide +kernel) (by decide +kernel), mT1 10 (by decide +kernel) (by decide +kernel), mT8 207 (by decide +kernel) (by decide +kernel), by decide, rfl, by decide +kernel, by decide +kernel, by decide +kernel⟩
theorem mb_Md_wrong : MBv R_Md y_Md_wrong prog_13_method_40_code 2 none 1 := ⟨mT8 216 (by decide +kernel) (by decide +kernel), mTs 18 (by decide +kernel) (by decide +kernel), mT1 10 (by decide +kernel) (by decide +kernel), mT8 217 (by decide +kernel) (by decide +kernel), by decide, rfl, by decide +kernel, by decide +kernel, by decide +kernel⟩
theorem lk_Md_182 : Cond.methodLink "FeastBookModel" 182 y_Md_has ∈ TT := mT8 204 (by decide +kernel) (by decide +kernel)
theorem lk_Md_186 : Cond.methodLink "FeastBookModel" 186 y_Md_wrong ∈ TT := mT8 214 (by decide +kernel) (by decide +kernel)
set_option maxHeartbeats 4000000 in
set_option maxRecDepth 100000 in
theorem c_Md_expects {l : Launch} {D : va_G} {ad : Nat → Nat} {cA : Nat → ClassId} {sd sv : Nat → Nat} {h : Hp} {N : Nat} {t1 : Nat} {out : Hp} (hI : Inj97 ad) (ht1 : t1 < 36) (hM : M_Md_expects N h t1 = some out) : Met l y_Md_expects (.code y_Md_expects prog_13_method_42_code 2 none :: TT) (rmD 5) (PC D ad cA sd sv h [.ref (ad 83), .ref (sd t1)]) (QV D ad cA out) 0 0 (FA ad) := by
  unfold M_Md_expects at hM
  refine entM (by decide +kernel) hI (Nat.le_of_ble_eq_true rfl) ?_
  intro p e s m args below meth c C hr hlk hP ls hl
  have C : Cx p s m args c prog_13_method_42_code 2 "FeastBookModel" D ad cA sd sv (FA ad) := C
  have hl : lv_has ls 2 [(0, .ref (ad 83)), (1, .ref (sd t1))] := hl
  have w : Wd s D ad cA (FA ad) h s.heap [] := ⟨hP, va_S.rf⟩
  refine m_aload_n C hl 0 d_Md_expects_0 rfl rfl ?_
  refine m_geti C w.1 kc_Md sh_83 (Nat.le_of_ble_eq_true rfl) 10 rfl (by decide) fk_Md_22 d_Md_expects_1 ?_
  refine m_iconst C d_Md_expects_4 ?_
  refine m_icmp_ne C hM 24 d_Md_expects_5 (by decide) (fun hM => ?_) (fun hM => ?_)
  · exact m_vretW C w hr hlk hM d_Md_expects_24
  · refine m_aload_n C hl 0 d_Md_expects_8 rfl rfl ?_
    refine m_aload_n C hl 1 d_Md_expects_9 rfl rfl ?_
    obtain ⟨q2, e1, hM⟩ := bnd_some hM
    refine aftI C w (runV C w.1 w.2 kc_Md sh_83 (Nat.le_of_ble_eq_true rfl) (c_Md_has hI ht1 e1) lk_Md_182 mb_Md_has rfl ⟨Nat.le_of_ble_eq_true rfl, Nat.le_of_ble_eq_true rfl⟩ ⟨Nat.zero_le _, Nat.zero_le _⟩ (Nat.le_of_ble_eq_true rfl) d_Md_expects_10 hl.1 (rest := []) rfl) (fun H locs w => ?_)
    refine m_if_ne C hM 24 d_Md_expects_13 (by decide) (fun hM => ?_) (fun hM => ?_)
    · exact m_vretW C w hr hlk hM d_Md_expects_24
    · refine m_aload_n C hl 0 d_Md_expects_16 rfl rfl ?_
      refine m_aload_n C hl 0 d_Md_expects_17 rfl rfl ?_
      refine m_geti C w.1 kc_Md sh_83 (Nat.le_of_ble_eq_true rfl) 9 rfl (by decide) fk_Md_163 d_Md_expects_18 ?_
      obtain ⟨h4, e3, hM⟩ := bnd_some hM
      refine aftV C w (runV C w.1 w.2 kc_Md sh_83 (Nat.le_of_ble_eq_true rfl) (c_Md_wrong hI e3) lk_Md_186 mb_Md_wrong rfl ⟨Nat.le_of_ble_eq_true rfl, Nat.le_of_ble_eq_true rfl⟩ ⟨Nat.zero_le _, Nat.zero_le _⟩ (Nat.le_of_ble_eq_true rfl) d_Md_expects_21 hl.1 (rest := []) rfl) (fun H locs w => ?_)
      exact m_vretW C w hr hlk hM d_Md_expects_24
def y_Md_figures : MethodName := ⟨"FeastBookModel", "figures", "(I)I"⟩
theorem d_Md_figures_0 : decode prog_13_method_44_code 0 = .ok (.aload_n 0, 1) := by decide +kernel
theorem d_Md_figures_1 : decode prog_13_method_44_code 1 = .ok (.getfield 163, 3) := by decide +kernel
theorem d_Md_figures_4 : decode prog_13_method_44_code 4 = .ok (.istore_n 2, 1) := by decide +kernel
theorem d_Md_figures_5 : decode prog_13_method_44_code 5 = .ok (.iconst 0, 1) := by decide +kernel
theorem d_Md_figures_6 : decode prog_13_method_44_code 6 = .ok (.istore_n 3, 1) := by decide +kernel
theorem d_Md_figures_7 : decode prog_13_method_44_code 7 = .ok (.aload_n 0, 1) := by decide +kernel
theorem d_Md_figures_8 : decode prog_13_method_44_code 8 = .ok (.getfield 163, 3) := by decide +kernel
theorem d_Md_figures_11 : decode prog_13_method_44_code 11 = .ok (.aload_n 0, 1) := by decide +kernel
theorem d_Md_figures_12 : decode prog_13_method_44_code 12 = .ok (.getfield 166, 3) := by decide +kernel
theorem d_Md_figures_15 : decode prog_13_method_44_code 15 = .ok (.if_icmp .ge 63, 3) := by decide +kernel
theorem d_Md_figures_18 : decode prog_13_method_44_code 18 = .ok (.aload_n 0, 1) := by decide +kernel
theorem d_Md_figures_19 : decode prog_13_method_44_code 19 = .ok (.getfield 19, 3) := by decide +kernel
theorem d_Md_figures_22 : decode prog_13_method_44_code 22 = .ok (.aload_n 0, 1) := by decide +kernel
theorem d_Md_figures_23 : decode prog_13_method_44_code 23 = .ok (.getfield 163, 3) := by decide +kernel
theorem d_Md_figures_26 : decode prog_13_method_44_code 26 = .ok (.iaload, 1) := by decide +kernel
theorem d_Md_figures_27 : decode prog_13_method_44_code 27 = .ok (.bipush 48, 2) := by decide +kernel
theorem d_Md_figures_29 : decode prog_13_method_44_code 29 = .ok (.bipush 57, 2) := by decide +kernel
theorem d_Md_figures_31 : decode prog_13_method_44_code 31 = .ok (.invokestatic 54, 3) := by decide +kernel
theorem d_Md_figures_34 : decode prog_13_method_44_code 34 = .ok (.ifCond .eq 44, 3) := by decide +kernel
theorem d_Md_figures_37 : decode prog_13_method_44_code 37 = .ok (.aload_n 0, 1) := by decide +kernel
theorem d_Md_figures_38 : decode prog_13_method_44_code 38 = .ok (.getfield 163, 3) := by decide +kernel
theorem d_Md_figures_41 : decode prog_13_method_44_code 41 = .ok (.iload_n 2, 1) := by decide +kernel
theorem d_Md_figures_42 : decode prog_13_method_44_code 42 = .ok (.isub, 1) := by decide +kernel
theorem d_Md_figures_43 : decode prog_13_method_44_code 43 = .ok (.iconst 2, 1) := by decide +kernel
theorem d_Md_figures_44 : decode prog_13_method_44_code 44 = .ok (.if_icmp .gt 34, 3) := by decide +kernel
theorem d_Md_figures_47 : decode prog_13_method_44_code 47 = .ok (.bipush 10, 2) := by decide +kernel
theorem d_Md_figures_49 : decode prog_13_method_44_code 49 = .ok (.iload_n 3, 1) := by decide +kernel
theorem d_Md_figures_50 : decode prog_13_method_44_code 50 = .ok (.imul, 1) := by decide +kernel
theorem d_Md_figures_51 : decode prog_13_method_44_code 51 = .ok (.aload_n 0, 1) := by decide +kernel
theorem d_Md_figures_52 : decode prog_13_method_44_code 52 = .ok (.getfield 19, 3) := by decide +kernel
theorem d_Md_figures_55 : decode prog_13_method_44_code 55 = .ok (.aload_n 0, 1) := by decide +kernel
theorem d_Md_figures_56 : decode prog_13_method_44_code 56 = .ok (.getfield 163, 3) := by decide +kernel
theorem d_Md_figures_59 : decode prog_13_method_44_code 59 = .ok (.iaload, 1) := by decide +kernel
theorem d_Md_figures_60 : decode prog_13_method_44_code 60 = .ok (.iadd, 1) := by decide +kernel
theorem d_Md_figures_61 : decode prog_13_method_44_code 61 = .ok (.bipush 48, 2) := by decide +kernel
theorem d_Md_figures_63 : decode prog_13_method_44_code 63 = .ok (.isub, 1) := by decide +kernel
theorem d_Md_figures_64 : decode prog_13_method_44_code 64 = .ok (.istore_n 3, 1) := by decide +kernel
theorem d_Md_figures_65 : decode prog_13_method_44_code 65 = .ok (.aload_n 0, 1) := by decide +kernel
theorem d_Md_figures_66 : decode prog_13_method_44_code 66 = .ok (.dup, 1) := by decide +kernel
theorem d_Md_figures_67 : decode prog_13_method_44_code 67 = .ok (.getfield 163, 3) := by decide +kernel
theorem d_Md_figures_70 : decode prog_13_method_44_code 70 = .ok (.iconst 1, 1) := by decide +kernel
theorem d_Md_figures_71 : decode prog_13_method_44_code 71 = .ok (.iadd, 1) := by decide +kernel
theorem d_Md_figures_72 : decode prog_13_method_44_code 72 = .ok (.putfield 163, 3) := by decide +kernel
theorem d_Md_figures_75 : decode prog_13_method_44_code 75 = .ok (.goto (-68), 3) := by decide +kernel
theorem d_Md_figures_78 : decode prog_13_method_44_code 78 = .ok (.aload_n 0, 1) := by decide +kernel
theorem d_Md_figures_79 : decode prog_13_method_44_code 79 = .ok (.getfield 163, 3) := by decide +kernel
theorem d_Md_figures_82 : decode prog_13_method_44_code 82 = .ok (.iload_n 2, 1) := by decide +kernel
theorem d_Md_figures_83 : decode prog_13_method_44_code 83 = .ok (.if_icmp .ne 11, 3) := by decide +kernel
theorem d_Md_figures_86 : decode prog_13_method_44_code 86 = .ok (.aload_n 0, 1) := by decide +kernel
theorem d_Md_figures_87 : decode prog_13_method_44_code 87 = .ok (.iload_n 2, 1) := by decide +kernel
theorem d_Md_figures_88 : decode prog_13_method_44_code 88 = .ok (.invokevirtual 186, 3) := by decide +kernel
theorem d_Md_figures_91 : decode prog_13_method_44_code 91 = .ok (.goto 18, 3) := by decide +kernel
theorem d_Md_figures_94 : decode prog_13_method_44_code 94 = .ok (.aload_n 0, 1) := by decide +kernel
theorem d_Md_figures_95 : decode prog_13_method_44_code 95 = .ok (.getfield 163, 3) := by decide +kernel
theorem d_Md_figures_98 : decode prog_13_method_44_code 98 = .ok (.iload_n 2, 1) := by decide +kernel
theorem d_Md_figures_99 : decode prog_13_method_44_code 99 = .ok (.isub, 1) := by decide +kernel
theorem d_Md_figures_100 : decode prog_13_method_44_code 100 = .ok (.iconst 2, 1) := by decide +kernel
theorem d_Md_figures_101 : decode prog_13_method_44_code 101 = .ok (.if_icmp .le 8, 3) := by decide +kernel
theorem d_Md_figures_104 : decode prog_13_method_44_code 104 = .ok (.aload_n 0, 1) := by decide +kernel
theorem d_Md_figures_105 : decode prog_13_method_44_code 105 = .ok (.iload_n 1, 1) := by decide +kernel
theorem d_Md_figures_106 : decode prog_13_method_44_code 106 = .ok (.invokevirtual 186, 3) := by decide +kernel
theorem d_Md_figures_109 : decode prog_13_method_44_code 109 = .ok (.iload_n 3, 1) := by decide +kernel
theorem d_Md_figures_110 : decode prog_13_method_44_code 110 = .ok (.ireturn, 1) := by decide +kernel
set_option maxHeartbeats 4000000 in
set_option maxRecDepth 100000 in
theorem w_Md_figures_L7 {p : Program} {l : Launch} {e : Env} {s : State} {m : MethodId} {args : Array Value} {below : List Frame} {meth : Method} {c : Code} {D : va_G} {ad : Nat → Nat} {cA : Nat → ClassId} {sd sv : Nat → Nat} {out : (Int × Hp)} (N : Nat) (hI : Inj97 ad) (C : Cx p s m args c prog_13_method_44_code 4 "FeastBookModel" D ad cA sd sv (FA ad)) (hr : meth.sig.returnType = (some .int)) (hlk : meth.locks = false) (v1 v2 : Int) : ∀ (n : Nat) (v3 : Int) (h : Hp) (H : Heap) (locs : List Loc), Wd s D ad cA (FA ad) h H locs → ∀ ls : Array Slot, lv_has ls 4 [(0, .ref (ad 83)), (1, .int (iZ v1)), (2, .int (iZ v2)), (3, .int (iZ v3))] → Md_figures_L7 N v1 v2 n v3 h = some out → W p l e (rmD 1) s m args below meth c H locs 0 0 (MQ below (QI D ad cA out) args s 0 0 (FA ad)) (F0 m 7 ls []) := by
  intro n
  induction n with
  | zero =>
    intro v3 h H locs w ls hl hM
    rw [Md_figures_L7] at hM
    cases hM
  | succ n ih =>
    intro v3 h H locs w ls hl hM
    rw [Md_figures_L7] at hM
    refine m_aload_n C hl 0 d_Md_figures_7 rfl rfl ?_
    refine m_geti C w.1 kc_Md sh_83 (Nat.le_of_ble_eq_true rfl) 9 rfl (by decide) fk_Md_163 d_Md_figures_8 ?_
    refine m_aload_n C hl 0 d_Md_figures_11 rfl rfl ?_
    refine m_geti C w.1 kc_Md sh_83 (Nat.le_of_ble_eq_true rfl) 8 rfl (by decide) fk_Md_166 d_Md_figures_12 ?_
    refine lt_join hM (fun j6 ej hM => ?_)
    have hJ6 : j6  = some out → ∀ ls : Array Slot, lv_has ls 4 [(0, .ref (ad 83)), (1, .int (iZ v1)), (2, .int (iZ v2)), (3, .int (iZ v3))] → W p l e (rmD 1) s m args below meth c H locs 0 0 (MQ below (QI D ad cA out) args s 0 0 (FA ad)) (F0 m 78 ls []) := by
      intro  hM ls hl
      subst ej
      skip
      refine m_aload_n C hl 0 d_Md_figures_78 rfl rfl ?_
      refine m_geti C w.1 kc_Md sh_83 (Nat.le_of_ble_eq_true rfl) 9 rfl (by decide) fk_Md_163 d_Md_figures_79 ?_
      refine m_iload_n C hl 2 d_Md_figures_82 rfl rfl ?_
      refine m_icmp_ne C hM 94 d_Md_figures_83 (by decide) (fun hM => ?_) (fun hM => ?_)
      · refine m_aload_n C hl 0 d_Md_figures_94 rfl rfl ?_
        refine m_geti C w.1 kc_Md sh_83 (Nat.le_of_ble_eq_true rfl) 9 rfl (by decide) fk_Md_163 d_Md_figures_95 ?_
        refine m_iload_n C hl 2 d_Md_figures_98 rfl rfl ?_
        refine m_isub C d_Md_figures_99 ?_
        refine m_iconst C d_Md_figures_100 ?_
        refine m_icmp_le C hM 109 d_Md_figures_101 (by decide) (fun hM => ?_) (fun hM => ?_)
        · refine m_iload_n C hl 3 d_Md_figures_109 rfl rfl ?_
          exact m_iretW C w hr hlk hM d_Md_figures_110
        · refine m_aload_n C hl 0 d_Md_figures_104 rfl rfl ?_
          refine m_iload_n C hl 1 d_Md_figures_105 rfl rfl ?_
          obtain ⟨h8, e7, hM⟩ := bnd_some hM
          refine aftV C w (runV C w.1 w.2 kc_Md sh_83 (Nat.le_of_ble_eq_true rfl) (c_Md_wrong hI e7) lk_Md_186 mb_Md_wrong rfl ⟨Nat.le_of_ble_eq_true rfl, Nat.le_of_ble_eq_true rfl⟩ ⟨Nat.zero_le _, Nat.zero_le _⟩ (Nat.le_of_ble_eq_true rfl) d_Md_figures_106 hl.1 (rest := []) rfl) (fun H locs w => ?_)
          refine m_iload_n C hl 3 d_Md_figures_109 rfl rfl ?_
          exact m_iretW C w hr hlk hM d_Md_figures_110
      · refine m_aload_n C hl 0 d_Md_figures_86 rfl rfl ?_
        refine m_iload_n C hl 2 d_Md_figures_87 rfl rfl ?_
        obtain ⟨h10, e9, hM⟩ := bnd_some hM
        refine aftV C w (runV C w.1 w.2 kc_Md sh_83 (Nat.le_of_ble_eq_true rfl) (c_Md_wrong hI e9) lk_Md_186 mb_Md_wrong rfl ⟨Nat.le_of_ble_eq_true rfl, Nat.le_of_ble_eq_true rfl⟩ ⟨Nat.zero_le _, Nat.zero_le _⟩ (Nat.le_of_ble_eq_true rfl) d_Md_figures_88 hl.1 (rest := []) rfl) (fun H locs w => ?_)
        refine m_goto C 109 d_Md_figures_91 (by decide) ?_
        refine m_iload_n C hl 3 d_Md_figures_109 rfl rfl ?_
        exact m_iretW C w hr hlk hM d_Md_figures_110
    refine m_icmp_ge C hM 78 d_Md_figures_15 (by decide) (fun hM => ?_) (fun hM => ?_)
    · exact hJ6  hM _ hl
    · refine m_aload_n C hl 0 d_Md_figures_18 rfl rfl ?_
      refine m_getr C w.1 kc_Md sh_83 (Nat.le_of_ble_eq_true rfl) 6 87 rfl (by decide) fk_Md_19 d_Md_figures_19 ?_
      refine m_aload_n C hl 0 d_Md_figures_22 rfl rfl ?_
      refine m_geti C w.1 kc_Md sh_83 (Nat.le_of_ble_eq_true rfl) 9 rfl (by decide) fk_Md_163 d_Md_figures_23 ?_
      refine m_iald C w.1 sh_87 (Nat.le_of_ble_eq_true rfl) (Nat.le_of_ble_eq_true rfl) hM d_Md_figures_26 (fun x11 hM => ?_)
      refine m_bipush C d_Md_figures_27 (by decide) ?_
      refine m_bipush C d_Md_figures_29 (by decide) ?_
      obtain ⟨x13, e12, hM⟩ := bnd_some hM
      refine aftR (runS C w.1 w.2 (c_Md_isIn hI e12) lk_Md_54 mb_Md_isIn rfl ⟨Nat.le_of_ble_eq_true rfl, Nat.le_of_ble_eq_true rfl⟩ ⟨Nat.zero_le _, Nat.zero_le _⟩ (Nat.le_of_ble_eq_true rfl) d_Md_figures_31 hl.1 (rest := []) rfl) ?_
      refine m_if_eq C hM 78 d_Md_figures_34 (by decide) (fun hM => ?_) (fun hM => ?_)
      · exact hJ6  hM _ hl
      · refine m_aload_n C hl 0 d_Md_figures_37 rfl rfl ?_
        refine m_geti C w.1 kc_Md sh_83 (Nat.le_of_ble_eq_true rfl) 9 rfl (by decide) fk_Md_163 d_Md_figures_38 ?_
        refine m_iload_n C hl 2 d_Md_figures_41 rfl rfl ?_
        refine m_isub C d_Md_figures_42 ?_
        refine m_iconst C d_Md_figures_43 ?_
        refine m_icmp_gt C hM 78 d_Md_figures_44 (by decide) (fun hM => ?_) (fun hM => ?_)
        · exact hJ6  hM _ hl
        · refine m_bipush C d_Md_figures_47 (by decide) ?_
          refine m_iload_n C hl 3 d_Md_figures_49 rfl rfl ?_
          refine m_imul C d_Md_figures_50 ?_
          refine m_aload_n C hl 0 d_Md_figures_51 rfl rfl ?_
          refine m_getr C w.1 kc_Md sh_83 (Nat.le_of_ble_eq_true rfl) 6 87 rfl (by decide) fk_Md_19 d_Md_figures_52 ?_
          refine m_aload_n C hl 0 d_Md_figures_55 rfl rfl ?_
          refine m_geti C w.1 kc_Md sh_83 (Nat.le_of_ble_eq_true rfl) 9 rfl (by decide) fk_Md_163 d_Md_figures_56 ?_
          refine m_iald C w.1 sh_87 (Nat.le_of_ble_eq_true rfl) (Nat.le_of_ble_eq_true rfl) hM d_Md_figures_59 (fun x14 hM => ?_)
          refine m_iadd C d_Md_figures_60 ?_
          refine m_bipush C d_Md_figures_61 (by decide) ?_
          refine m_isub C d_Md_figures_63 ?_
          refine m_istore_n C hl [(3, .int (iZ (((10 * v3) + x14) - 48))), (0, .ref (ad 83)), (1, .int (iZ v1)), (2, .int (iZ v2))] d_Md_figures_64 rfl (by decide) rfl (fun ls hl => ?_)
          refine m_aload_n C hl 1 d_Md_figures_65 rfl rfl ?_
          refine m_dup C d_Md_figures_66 rfl ?_
          refine m_geti C w.1 kc_Md sh_83 (Nat.le_of_ble_eq_true rfl) 9 rfl (by decide) fk_Md_163 d_Md_figures_67 ?_
          refine m_iconst C d_Md_figures_70 ?_
          refine m_iadd C d_Md_figures_71 ?_
          refine m_puti C w kc_Md sh_83 (Nat.le_of_ble_eq_true rfl) 9 hM rfl (by decide) rfl rfl fk_Md_163 d_Md_figures_72 (fun h15 H locs w hM => ?_)
          refine m_goto C 7 d_Md_figures_75 (by decide) ?_
          exact ih (((10 * v3) + x14) - 48) h15 _ _ w _ (lv_sub hl [1, 2, 3, 0] rfl) hM
set_option maxHeartbeats 4000000 in
set_option maxRecDepth 100000 in
theorem c_Md_figures {l : Launch} {D : va_G} {ad : Nat → Nat} {cA : Nat → ClassId} {sd sv : Nat → Nat} {h : Hp} {N : Nat} {a1 : Int} {out : (Int × Hp)} (hI : Inj97 ad) (hM : M_Md_figures N h a1 = some out) : Met l y_Md_figures (.code y_Md_figures prog_13_method_44_code 4 (some .int) :: TT) (rmD 1) (PC D ad cA sd sv h [.ref (ad 83), .int (iZ a1)]) (QI D ad cA out) 0 0 (FA ad) := by
  unfold M_Md_figures at hM
  refine entM (by decide +kernel) hI (Nat.le_of_ble_eq_true rfl) ?_
  intro p e s m args below meth c C hr hlk hP ls hl
  have C : Cx p s m args c prog_13_method_44_code 4 "FeastBookModel" D ad cA sd sv (FA ad) := C
  have hl : lv_has ls 4 [(0, .ref (ad 83)), (1, .int (iZ a1))] := hl
  have w : Wd s D ad cA (FA ad) h s.heap [] := ⟨hP, va_S.rf⟩
  refine m_aload_n C hl 0 d_Md_figures_0 rfl rfl ?_
  refine m_geti C w.1 kc_Md sh_83 (Nat.le_of_ble_eq_true rfl) 9 rfl (by decide) fk_Md_163 d_Md_figures_1 ?_
  refine m_istore_n C hl [(2, .int (iZ (h 83 9))), (0, .ref (ad 83)), (1, .int (iZ a1))] d_Md_figures_4 rfl (by decide) rfl (fun ls hl => ?_)
  refine m_iconst C d_Md_figures_5 ?_
  refine m_istore_n C hl [(3, .int (iZ 0)), (2, .int (iZ (h 83 9))), (0, .ref (ad 83)), (1, .int (iZ a1))] d_Md_figures_6 rfl (by decide) rfl (fun ls hl => ?_)
  exact w_Md_figures_L7 N hI C hr hlk a1 (h 83 9) _ 0 h _ _ w _ (lv_sub hl [2, 3, 1, 0] rfl) hM
def y_Md_number : MethodName := ⟨"FeastBookModel", "number", "(II)I"⟩
theorem d_Md_number_0 : decode prog_13_method_45_code 0 = .ok (.aload_n 0, 1) := by decide +kernel
theorem d_Md_number_1 : decode prog_13_method_45_code 1 = .ok (.getfield 22, 3) := by decide +kernel
theorem d_Md_number_4 : decode prog_13_method_45_code 4 = .ok (.iconst (-1), 1) := by decide +kernel
theorem d_Md_number_5 : decode prog_13_method_45_code 5 = .ok (.if_icmp .eq 5, 3) := by decide +kernel
theorem d_Md_number_8 : decode prog_13_method_45_code 8 = .ok (.iconst 0, 1) := by decide +kernel
theorem d_Md_number_9 : decode prog_13_method_45_code 9 = .ok (.ireturn, 1) := by decide +kernel
theorem d_Md_number_10 : decode prog_13_method_45_code 10 = .ok (.aload_n 0, 1) := by decide +kernel
theorem d_Md_number_11 : decode prog_13_method_45_code 11 = .ok (.invokevirtual 169, 3) := by decide +kernel
theorem d_Md_number_14 : decode prog_13_method_45_code 14 = .ok (.istore_n 3, 1) := by decide +kernel
theorem d_Md_number_15 : decode prog_13_method_45_code 15 = .ok (.aload_n 0, 1) := by decide +kernel
theorem d_Md_number_16 : decode prog_13_method_45_code 16 = .ok (.iload_n 3, 1) := by decide +kernel
theorem d_Md_number_17 : decode prog_13_method_45_code 17 = .ok (.invokevirtual 189, 3) := by decide +kernel
theorem d_Md_number_20 : decode prog_13_method_45_code 20 = .ok (.istore 4, 2) := by decide +kernel
theorem d_Md_number_22 : decode prog_13_method_45_code 22 = .ok (.iload 4, 2) := by decide +kernel
theorem d_Md_number_24 : decode prog_13_method_45_code 24 = .ok (.iload_n 1, 1) := by decide +kernel
theorem d_Md_number_25 : decode prog_13_method_45_code 25 = .ok (.if_icmp .lt 9, 3) := by decide +kernel
theorem d_Md_number_28 : decode prog_13_method_45_code 28 = .ok (.iload 4, 2) := by decide +kernel
theorem d_Md_number_30 : decode prog_13_method_45_code 30 = .ok (.iload_n 2, 1) := by decide +kernel
theorem d_Md_number_31 : decode prog_13_method_45_code 31 = .ok (.if_icmp .le 8, 3) := by decide +kernel
theorem d_Md_number_34 : decode prog_13_method_45_code 34 = .ok (.aload_n 0, 1) := by decide +kernel
theorem d_Md_number_35 : decode prog_13_method_45_code 35 = .ok (.iload_n 3, 1) := by decide +kernel
theorem d_Md_number_36 : decode prog_13_method_45_code 36 = .ok (.invokevirtual 186, 3) := by decide +kernel
theorem d_Md_number_39 : decode prog_13_method_45_code 39 = .ok (.iload 4, 2) := by decide +kernel
theorem d_Md_number_41 : decode prog_13_method_45_code 41 = .ok (.ireturn, 1) := by decide +kernel
theorem mb_Md_figures : MBv R_Md y_Md_figures prog_13_method_44_code 4 (some .int) 1 := ⟨mT8 224 (by decide +kernel) (by decide +kernel), mTs 20 (by decide +kernel) (by decide +kernel), mT1 10 (by decide +kernel) (by decide +kernel), mT8 225 (by decide +kernel) (by decide +kernel), by decide, rfl, by decide +kernel, by decide +kernel, by decide +kernel⟩
theorem lk_Md_189 : Cond.methodLink "FeastBookModel" 189 y_Md_figures ∈ TT := mT8 222 (by decide +kernel) (by decide +kernel)
set_option maxHeartbeats 4000000 in
set_option maxRecDepth 100000 in
theorem c_Md_number {l : Launch} {D : va_G} {ad : Nat → Nat} {cA : Nat → ClassId} {sd sv : Nat → Nat} {h : Hp} {N : Nat} {a1 a2 : Int} {out : (Int × Hp)} (hI : Inj97 ad) (hM : M_Md_number N h a1 a2 = some out) : Met l y_Md_number (.code y_Md_number prog_13_method_45_code 5 (some .int) :: TT) (rmD 2) (PC D ad cA sd sv h [.ref (ad 83), .int (iZ a1), .int (iZ a2)]) (QI D ad cA out) 0 0 (FA ad) := by
  unfold M_Md_number at hM
  refine entM (by decide +kernel) hI (Nat.le_of_ble_eq_true rfl) ?_
  intro p e s m args below meth c C hr hlk hP ls hl
  have C : Cx p s m args c prog_13_method_45_code 5 "FeastBookModel" D ad cA sd sv (FA ad) := C
  have hl : lv_has ls 5 [(0, .ref (ad 83)), (1, .int (iZ a1)), (2, .int (iZ a2))] := hl
  have w : Wd s D ad cA (FA ad) h s.heap [] := ⟨hP, va_S.rf⟩
  refine m_aload_n C hl 0 d_Md_number_0 rfl rfl ?_
  refine m_geti C w.1 kc_Md sh_83 (Nat.le_of_ble_eq_true rfl) 10 rfl (by decide) fk_Md_22 d_Md_number_1 ?_
  refine m_iconst C d_Md_number_4 ?_
  refine m_icmp_eq C hM 10 d_Md_number_5 (by decide) (fun hM => ?_) (fun hM => ?_)
  · refine m_aload_n C hl 0 d_Md_number_10 rfl rfl ?_
    obtain ⟨q2, e1, hM⟩ := bnd_some hM
    refine aftI C w (runV C w.1 w.2 kc_Md sh_83 (Nat.le_of_ble_eq_true rfl) (c_Md_here hI e1) lk_Md_169 mb_Md_here rfl ⟨Nat.le_of_ble_eq_true rfl, Nat.le_of_ble_eq_true rfl⟩ ⟨Nat.zero_le _, Nat.zero_le _⟩ (Nat.le_of_ble_eq_true rfl) d_Md_number_11 hl.1 (rest := []) rfl) (fun H locs w => ?_)
    refine m_istore_n C hl [(3, .int (iZ q2.1)), (0, .ref (ad 83)), (1, .int (iZ a1)), (2, .int (iZ a2))] d_Md_number_14 rfl (by decide) rfl (fun ls hl => ?_)
    refine m_aload_n C hl 1 d_Md_number_15 rfl rfl ?_
    refine m_iload_n C hl 0 d_Md_number_16 rfl rfl ?_
    obtain ⟨q4, e3, hM⟩ := bnd_some hM
    refine aftI C w (runV C w.1 w.2 kc_Md sh_83 (Nat.le_of_ble_eq_true rfl) (c_Md_figures hI e3) lk_Md_189 mb_Md_figures rfl ⟨Nat.le_of_ble_eq_true rfl, Nat.le_of_ble_eq_true rfl⟩ ⟨Nat.zero_le _, Nat.zero_le _⟩ (Nat.le_of_ble_eq_true rfl) d_Md_number_17 hl.1 (rest := []) rfl) (fun H locs w => ?_)
    refine m_istore C hl [(4, .int (iZ q4.1)), (3, .int (iZ q2.1)), (0, .ref (ad 83)), (1, .int (iZ a1)), (2, .int (iZ a2))] d_Md_number_20 (by decide) rfl (fun ls hl => ?_)
    refine m_iload C hl 0 d_Md_number_22 rfl ?_
    refine m_iload_n C hl 3 d_Md_number_24 rfl rfl ?_
    refine m_icmp_lt C hM 34 d_Md_number_25 (by decide) (fun hM => ?_) (fun hM => ?_)
    · refine m_aload_n C hl 2 d_Md_number_34 rfl rfl ?_
      refine m_iload_n C hl 1 d_Md_number_35 rfl rfl ?_
      obtain ⟨h6, e5, hM⟩ := bnd_some hM
      refine aftV C w (runV C w.1 w.2 kc_Md sh_83 (Nat.le_of_ble_eq_true rfl) (c_Md_wrong hI e5) lk_Md_186 mb_Md_wrong rfl ⟨Nat.le_of_ble_eq_true rfl, Nat.le_of_ble_eq_true rfl⟩ ⟨Nat.zero_le _, Nat.zero_le _⟩ (Nat.le_of_ble_eq_true rfl) d_Md_number_36 hl.1 (rest := []) rfl) (fun H locs w => ?_)
      refine m_iload C hl 0 d_Md_number_39 rfl ?_
      exact m_iretW C w hr hlk hM d_Md_number_41
    · refine m_iload C hl 0 d_Md_number_28 rfl ?_
      refine m_iload_n C hl 4 d_Md_number_30 rfl rfl ?_
      refine m_icmp_le C hM 39 d_Md_number_31 (by decide) (fun hM => ?_) (fun hM => ?_)
      · refine m_iload C hl 0 d_Md_number_39 rfl ?_
        exact m_iretW C w hr hlk hM d_Md_number_41
      · refine m_aload_n C hl 2 d_Md_number_34 rfl rfl ?_
        refine m_iload_n C hl 1 d_Md_number_35 rfl rfl ?_
        obtain ⟨h8, e7, hM⟩ := bnd_some hM
        refine aftV C w (runV C w.1 w.2 kc_Md sh_83 (Nat.le_of_ble_eq_true rfl) (c_Md_wrong hI e7) lk_Md_186 mb_Md_wrong rfl ⟨Nat.le_of_ble_eq_true rfl, Nat.le_of_ble_eq_true rfl⟩ ⟨Nat.zero_le _, Nat.zero_le _⟩ (Nat.le_of_ble_eq_true rfl) d_Md_number_36 hl.1 (rest := []) rfl) (fun H locs w => ?_)
        refine m_iload C hl 0 d_Md_number_39 rfl ?_
        exact m_iretW C w hr hlk hM d_Md_number_41
  · refine m_iconst C d_Md_number_8 ?_
    exact m_iretW C w hr hlk hM d_Md_number_9
def y_Md_isFigure : MethodName := ⟨"FeastBookModel", "isFigure", "()Z"⟩
theorem d_Md_isFigure_0 : decode prog_13_method_43_code 0 = .ok (.aload_n 0, 1) := by decide +kernel
theorem d_Md_isFigure_1 : decode prog_13_method_43_code 1 = .ok (.invokevirtual 169, 3) := by decide +kernel
theorem d_Md_isFigure_4 : decode prog_13_method_43_code 4 = .ok (.aload_n 0, 1) := by decide +kernel
theorem d_Md_isFigure_5 : decode prog_13_method_43_code 5 = .ok (.getfield 166, 3) := by decide +kernel
theorem d_Md_isFigure_8 : decode prog_13_method_43_code 8 = .ok (.if_icmp .ge 26, 3) := by decide +kernel
theorem d_Md_isFigure_11 : decode prog_13_method_43_code 11 = .ok (.aload_n 0, 1) := by decide +kernel
theorem d_Md_isFigure_12 : decode prog_13_method_43_code 12 = .ok (.getfield 19, 3) := by decide +kernel
theorem d_Md_isFigure_15 : decode prog_13_method_43_code 15 = .ok (.aload_n 0, 1) := by decide +kernel
theorem d_Md_isFigure_16 : decode prog_13_method_43_code 16 = .ok (.getfield 163, 3) := by decide +kernel
theorem d_Md_isFigure_19 : decode prog_13_method_43_code 19 = .ok (.iaload, 1) := by decide +kernel
theorem d_Md_isFigure_20 : decode prog_13_method_43_code 20 = .ok (.bipush 48, 2) := by decide +kernel
theorem d_Md_isFigure_22 : decode prog_13_method_43_code 22 = .ok (.bipush 57, 2) := by decide +kernel
theorem d_Md_isFigure_24 : decode prog_13_method_43_code 24 = .ok (.invokestatic 54, 3) := by decide +kernel
theorem d_Md_isFigure_27 : decode prog_13_method_43_code 27 = .ok (.ifCond .eq 7, 3) := by decide +kernel
theorem d_Md_isFigure_30 : decode prog_13_method_43_code 30 = .ok (.iconst 1, 1) := by decide +kernel
theorem d_Md_isFigure_31 : decode prog_13_method_43_code 31 = .ok (.goto 4, 3) := by decide +kernel
theorem d_Md_isFigure_34 : decode prog_13_method_43_code 34 = .ok (.iconst 0, 1) := by decide +kernel
theorem d_Md_isFigure_35 : decode prog_13_method_43_code 35 = .ok (.ireturn, 1) := by decide +kernel
set_option maxHeartbeats 4000000 in
set_option maxRecDepth 100000 in
theorem c_Md_isFigure {l : Launch} {D : va_G} {ad : Nat → Nat} {cA : Nat → ClassId} {sd sv : Nat → Nat} {h : Hp} {N : Nat} {out : (Int × Hp)} (hI : Inj97 ad) (hM : M_Md_isFigure N h = some out) : Met l y_Md_isFigure (.code y_Md_isFigure prog_13_method_43_code 1 (some .boolean) :: TT) (rmD 1) (PC D ad cA sd sv h [.ref (ad 83)]) (QI D ad cA out) 0 0 (FA ad) := by
  unfold M_Md_isFigure at hM
  refine entM (by decide +kernel) hI (Nat.le_of_ble_eq_true rfl) ?_
  intro p e s m args below meth c C hr hlk hP ls hl
  have C : Cx p s m args c prog_13_method_43_code 1 "FeastBookModel" D ad cA sd sv (FA ad) := C
  have hl : lv_has ls 1 [(0, .ref (ad 83))] := hl
  have w : Wd s D ad cA (FA ad) h s.heap [] := ⟨hP, va_S.rf⟩
  refine m_aload_n C hl 0 d_Md_isFigure_0 rfl rfl ?_
  obtain ⟨q2, e1, hM⟩ := bnd_some hM
  refine aftI C w (runV C w.1 w.2 kc_Md sh_83 (Nat.le_of_ble_eq_true rfl) (c_Md_here hI e1) lk_Md_169 mb_Md_here rfl ⟨Nat.le_of_ble_eq_true rfl, Nat.le_of_ble_eq_true rfl⟩ ⟨Nat.zero_le _, Nat.zero_le _⟩ (Nat.le_of_ble_eq_true rfl) d_Md_isFigure_1 hl.1 (rest := []) rfl) (fun H locs w => ?_)
  refine m_aload_n C hl 0 d_Md_isFigure_4 rfl rfl ?_
  refine m_geti C w.1 kc_Md sh_83 (Nat.le_of_ble_eq_true rfl) 8 rfl (by decide) fk_Md_166 d_Md_isFigure_5 ?_
  refine m_icmp_ge C hM 34 d_Md_isFigure_8 (by decide) (fun hM => ?_) (fun hM => ?_)
  · refine m_iconst C d_Md_isFigure_34 ?_
    exact m_zretW C w hr hlk hM d_Md_isFigure_35
  · refine m_aload_n C hl 0 d_Md_isFigure_11 rfl rfl ?_
    refine m_getr C w.1 kc_Md sh_83 (Nat.le_of_ble_eq_true rfl) 6 87 rfl (by decide) fk_Md_19 d_Md_isFigure_12 ?_
    refine m_aload_n C hl 0 d_Md_isFigure_15 rfl rfl ?_
    refine m_geti C w.1 kc_Md sh_83 (Nat.le_of_ble_eq_true rfl) 9 rfl (by decide) fk_Md_163 d_Md_isFigure_16 ?_
    refine m_iald C w.1 sh_87 (Nat.le_of_ble_eq_true rfl) (Nat.le_of_ble_eq_true rfl) hM d_Md_isFigure_19 (fun x3 hM => ?_)
    refine m_bipush C d_Md_isFigure_20 (by decide) ?_
    refine m_bipush C d_Md_isFigure_22 (by decide) ?_
    obtain ⟨x5, e4, hM⟩ := bnd_some hM
    refine aftR (runS C w.1 w.2 (c_Md_isIn hI e4) lk_Md_54 mb_Md_isIn rfl ⟨Nat.le_of_ble_eq_true rfl, Nat.le_of_ble_eq_true rfl⟩ ⟨Nat.zero_le _, Nat.zero_le _⟩ (Nat.le_of_ble_eq_true rfl) d_Md_isFigure_24 hl.1 (rest := []) rfl) ?_
    refine m_if_eq C hM 34 d_Md_isFigure_27 (by decide) (fun hM => ?_) (fun hM => ?_)
    · refine m_iconst C d_Md_isFigure_34 ?_
      exact m_zretW C w hr hlk hM d_Md_isFigure_35
    · refine m_iconst C d_Md_isFigure_30 ?_
      refine m_goto C 35 d_Md_isFigure_31 (by decide) ?_
      exact m_zretW C w hr hlk hM d_Md_isFigure_35
def y_Md_monthsOf : MethodName := ⟨"FeastBookModel", "monthsOf", "([I)I"⟩
theorem d_Md_monthsOf_0 : decode prog_13_method_9_code 0 = .ok (.iconst 0, 1) := by decide +kernel
theorem d_Md_monthsOf_1 : decode prog_13_method_9_code 1 = .ok (.istore_n 1, 1) := by decide +kernel
theorem d_Md_monthsOf_2 : decode prog_13_method_9_code 2 = .ok (.iconst 0, 1) := by decide +kernel
theorem d_Md_monthsOf_3 : decode prog_13_method_9_code 3 = .ok (.istore_n 2, 1) := by decide +kernel
theorem d_Md_monthsOf_4 : decode prog_13_method_9_code 4 = .ok (.iload_n 2, 1) := by decide +kernel
theorem d_Md_monthsOf_5 : decode prog_13_method_9_code 5 = .ok (.aload_n 0, 1) := by decide +kernel
theorem d_Md_monthsOf_6 : decode prog_13_method_9_code 6 = .ok (.iconst 1, 1) := by decide +kernel
theorem d_Md_monthsOf_7 : decode prog_13_method_9_code 7 = .ok (.iaload, 1) := by decide +kernel
theorem d_Md_monthsOf_8 : decode prog_13_method_9_code 8 = .ok (.if_icmp .ge 17, 3) := by decide +kernel
theorem d_Md_monthsOf_11 : decode prog_13_method_9_code 11 = .ok (.iload_n 1, 1) := by decide +kernel
theorem d_Md_monthsOf_12 : decode prog_13_method_9_code 12 = .ok (.aload_n 0, 1) := by decide +kernel
theorem d_Md_monthsOf_13 : decode prog_13_method_9_code 13 = .ok (.iconst 2, 1) := by decide +kernel
theorem d_Md_monthsOf_14 : decode prog_13_method_9_code 14 = .ok (.iload_n 2, 1) := by decide +kernel
theorem d_Md_monthsOf_15 : decode prog_13_method_9_code 15 = .ok (.iadd, 1) := by decide +kernel
theorem d_Md_monthsOf_16 : decode prog_13_method_9_code 16 = .ok (.iaload, 1) := by decide +kernel
theorem d_Md_monthsOf_17 : decode prog_13_method_9_code 17 = .ok (.iadd, 1) := by decide +kernel
theorem d_Md_monthsOf_18 : decode prog_13_method_9_code 18 = .ok (.istore_n 1, 1) := by decide +kernel
theorem d_Md_monthsOf_19 : decode prog_13_method_9_code 19 = .ok (.iinc 2 1, 3) := by decide +kernel
theorem d_Md_monthsOf_22 : decode prog_13_method_9_code 22 = .ok (.goto (-18), 3) := by decide +kernel
theorem d_Md_monthsOf_25 : decode prog_13_method_9_code 25 = .ok (.iload_n 1, 1) := by decide +kernel
theorem d_Md_monthsOf_26 : decode prog_13_method_9_code 26 = .ok (.ireturn, 1) := by decide +kernel
set_option maxHeartbeats 4000000 in
set_option maxRecDepth 100000 in
theorem w_Md_monthsOf_L4 {p : Program} {l : Launch} {e : Env} {s : State} {m : MethodId} {args : Array Value} {below : List Frame} {meth : Method} {c : Code} {D : va_G} {ad : Nat → Nat} {cA : Nat → ClassId} {sd sv : Nat → Nat} {out : Int} (N : Nat) (X : Nat) (nX : Nat) (hX : shp X = .inr (0, nX) ∧ X < 97 ∧ nX < 2147483648) (hI : Inj97 ad) (C : Cx p s m args c prog_13_method_9_code 3 "FeastBookModel" D ad cA sd sv (FA ad)) (hr : meth.sig.returnType = (some .int)) (hlk : meth.locks = false) (h : Hp) (hP : va_P D clL (wl ad cA h) s.heap) : ∀ (n : Nat) (v1 v2 : Int), ∀ ls : Array Slot, lv_has ls 3 [(0, .ref (ad X)), (1, .int (iZ v1)), (2, .int (iZ v2))] → Md_monthsOf_L4 N h X nX n v1 v2 = some out → W p l e (rmD 0) s m args below meth c s.heap [] 0 0 (MQ below (QR out) args s 0 0 (fun _ => False)) (F0 m 4 ls []) := by
  intro n
  induction n with
  | zero =>
    intro v1 v2 ls hl hM
    rw [Md_monthsOf_L4] at hM
    cases hM
  | succ n ih =>
    intro v1 v2 ls hl hM
    rw [Md_monthsOf_L4] at hM
    refine m_iload_n C hl 2 d_Md_monthsOf_4 rfl rfl ?_
    refine m_aload_n C hl 0 d_Md_monthsOf_5 rfl rfl ?_
    refine m_iconst C d_Md_monthsOf_6 ?_
    refine m_iald C hP hX.1 hX.2.1 hX.2.2 hM d_Md_monthsOf_7 (fun x1 hM => ?_)
    refine m_icmp_ge C hM 25 d_Md_monthsOf_8 (by decide) (fun hM => ?_) (fun hM => ?_)
    · refine m_iload_n C hl 1 d_Md_monthsOf_25 rfl rfl ?_
      exact m_iretR C hr hlk hM d_Md_monthsOf_26
    · refine m_iload_n C hl 1 d_Md_monthsOf_11 rfl rfl ?_
      refine m_aload_n C hl 0 d_Md_monthsOf_12 rfl rfl ?_
      refine m_iconst C d_Md_monthsOf_13 ?_
      refine m_iload_n C hl 2 d_Md_monthsOf_14 rfl rfl ?_
      refine m_iadd C d_Md_monthsOf_15 ?_
      refine m_iald C hP hX.1 hX.2.1 hX.2.2 hM d_Md_monthsOf_16 (fun x2 hM => ?_)
      refine m_iadd C d_Md_monthsOf_17 ?_
      refine m_istore_n C hl [(1, .int (iZ (v1 + x2))), (0, .ref (ad X)), (2, .int (iZ v2))] d_Md_monthsOf_18 rfl (by decide) rfl (fun ls hl => ?_)
      refine m_iinc C hl 2 [(2, .int (iZ (v2 + 1))), (1, .int (iZ (v1 + x2))), (0, .ref (ad X))] d_Md_monthsOf_19 rfl (by decide) rfl (fun ls hl => ?_)
      refine m_goto C 4 d_Md_monthsOf_22 (by decide) ?_
      exact ih (v1 + x2) (v2 + 1) _ (lv_sub hl [2, 1, 0] rfl) hM
set_option maxHeartbeats 4000000 in
set_option maxRecDepth 100000 in
theorem c_Md_monthsOf {l : Launch} {D : va_G} {ad : Nat → Nat} {cA : Nat → ClassId} {sd sv : Nat → Nat} {h : Hp} {N : Nat} {X : Nat} {nX : Nat} {out : Int} (hI : Inj97 ad) (hX : shp X = .inr (0, nX) ∧ X < 97 ∧ nX < 2147483648) (hM : M_Md_monthsOf N h X nX = some out) : Met l y_Md_monthsOf (.code y_Md_monthsOf prog_13_method_9_code 3 (some .int) :: TT) (rmD 0) (PC D ad cA sd sv h [.ref (ad X)]) (QR out) 0 0 (fun _ => False) := by
  unfold M_Md_monthsOf at hM
  refine entM (by decide +kernel) hI (Nat.le_of_ble_eq_true rfl) ?_
  intro p e s m args below meth c C hr hlk hP ls hl
  have C : Cx p s m args c prog_13_method_9_code 3 "FeastBookModel" D ad cA sd sv (FA ad) := C
  have hl : lv_has ls 3 [(0, .ref (ad X))] := hl
  refine m_iconst C d_Md_monthsOf_0 ?_
  refine m_istore_n C hl [(1, .int (iZ 0)), (0, .ref (ad X))] d_Md_monthsOf_1 rfl (by decide) rfl (fun ls hl => ?_)
  refine m_iconst C d_Md_monthsOf_2 ?_
  refine m_istore_n C hl [(2, .int (iZ 0)), (1, .int (iZ 0)), (0, .ref (ad X))] d_Md_monthsOf_3 rfl (by decide) rfl (fun ls hl => ?_)
  exact w_Md_monthsOf_L4 N X nX hX hI C hr hlk  h hP _ 0 0 _ (lv_sub hl [2, 1, 0] rfl) hM
def y_Md_bookLine : MethodName := ⟨"FeastBookModel", "bookLine", "()V"⟩
theorem d_Md_bookLine_0 : decode prog_13_method_47_code 0 = .ok (.aload_n 0, 1) := by decide +kernel
theorem d_Md_bookLine_1 : decode prog_13_method_47_code 1 = .ok (.ldc 192, 2) := by decide +kernel
theorem d_Md_bookLine_3 : decode prog_13_method_47_code 3 = .ok (.invokevirtual 194, 3) := by decide +kernel
theorem d_Md_bookLine_6 : decode prog_13_method_47_code 6 = .ok (.aload_n 0, 1) := by decide +kernel
theorem d_Md_bookLine_7 : decode prog_13_method_47_code 7 = .ok (.getfield 26, 3) := by decide +kernel
theorem d_Md_bookLine_10 : decode prog_13_method_47_code 10 = .ok (.iconst 0, 1) := by decide +kernel
theorem d_Md_bookLine_11 : decode prog_13_method_47_code 11 = .ok (.aload_n 0, 1) := by decide +kernel
theorem d_Md_bookLine_12 : decode prog_13_method_47_code 12 = .ok (.iconst 3, 1) := by decide +kernel
theorem d_Md_bookLine_13 : decode prog_13_method_47_code 13 = .ok (.bipush 9, 2) := by decide +kernel
theorem d_Md_bookLine_15 : decode prog_13_method_47_code 15 = .ok (.invokevirtual 198, 3) := by decide +kernel
theorem d_Md_bookLine_18 : decode prog_13_method_47_code 18 = .ok (.iastore, 1) := by decide +kernel
theorem d_Md_bookLine_19 : decode prog_13_method_47_code 19 = .ok (.aload_n 0, 1) := by decide +kernel
theorem d_Md_bookLine_20 : decode prog_13_method_47_code 20 = .ok (.getfield 22, 3) := by decide +kernel
theorem d_Md_bookLine_23 : decode prog_13_method_47_code 23 = .ok (.iconst (-1), 1) := by decide +kernel
theorem d_Md_bookLine_24 : decode prog_13_method_47_code 24 = .ok (.if_icmp .ne 63, 3) := by decide +kernel
theorem d_Md_bookLine_27 : decode prog_13_method_47_code 27 = .ok (.aload_n 0, 1) := by decide +kernel
theorem d_Md_bookLine_28 : decode prog_13_method_47_code 28 = .ok (.getfield 26, 3) := by decide +kernel
theorem d_Md_bookLine_31 : decode prog_13_method_47_code 31 = .ok (.iconst 1, 1) := by decide +kernel
theorem d_Md_bookLine_32 : decode prog_13_method_47_code 32 = .ok (.iaload, 1) := by decide +kernel
theorem d_Md_bookLine_33 : decode prog_13_method_47_code 33 = .ok (.bipush 8, 2) := by decide +kernel
theorem d_Md_bookLine_35 : decode prog_13_method_47_code 35 = .ok (.if_icmp .ge 52, 3) := by decide +kernel
theorem d_Md_bookLine_38 : decode prog_13_method_47_code 38 = .ok (.aload_n 0, 1) := by decide +kernel
theorem d_Md_bookLine_39 : decode prog_13_method_47_code 39 = .ok (.getfield 26, 3) := by decide +kernel
theorem d_Md_bookLine_42 : decode prog_13_method_47_code 42 = .ok (.iconst 1, 1) := by decide +kernel
theorem d_Md_bookLine_43 : decode prog_13_method_47_code 43 = .ok (.iaload, 1) := by decide +kernel
theorem d_Md_bookLine_44 : decode prog_13_method_47_code 44 = .ok (.ifCond .eq 10, 3) := by decide +kernel
theorem d_Md_bookLine_47 : decode prog_13_method_47_code 47 = .ok (.aload_n 0, 1) := by decide +kernel
theorem d_Md_bookLine_48 : decode prog_13_method_47_code 48 = .ok (.invokevirtual 201, 3) := by decide +kernel
theorem d_Md_bookLine_51 : decode prog_13_method_47_code 51 = .ok (.ifCond .eq 36, 3) := by decide +kernel
theorem d_Md_bookLine_54 : decode prog_13_method_47_code 54 = .ok (.aload_n 0, 1) := by decide +kernel
theorem d_Md_bookLine_55 : decode prog_13_method_47_code 55 = .ok (.getfield 26, 3) := by decide +kernel
theorem d_Md_bookLine_58 : decode prog_13_method_47_code 58 = .ok (.iconst 2, 1) := by decide +kernel
theorem d_Md_bookLine_59 : decode prog_13_method_47_code 59 = .ok (.aload_n 0, 1) := by decide +kernel
theorem d_Md_bookLine_60 : decode prog_13_method_47_code 60 = .ok (.getfield 26, 3) := by decide +kernel
theorem d_Md_bookLine_63 : decode prog_13_method_47_code 63 = .ok (.iconst 1, 1) := by decide +kernel
theorem d_Md_bookLine_64 : decode prog_13_method_47_code 64 = .ok (.iaload, 1) := by decide +kernel
theorem d_Md_bookLine_65 : decode prog_13_method_47_code 65 = .ok (.iadd, 1) := by decide +kernel
theorem d_Md_bookLine_66 : decode prog_13_method_47_code 66 = .ok (.aload_n 0, 1) := by decide +kernel
theorem d_Md_bookLine_67 : decode prog_13_method_47_code 67 = .ok (.iconst 5, 1) := by decide +kernel
theorem d_Md_bookLine_68 : decode prog_13_method_47_code 68 = .ok (.bipush 31, 2) := by decide +kernel
theorem d_Md_bookLine_70 : decode prog_13_method_47_code 70 = .ok (.invokevirtual 198, 3) := by decide +kernel
theorem d_Md_bookLine_73 : decode prog_13_method_47_code 73 = .ok (.iastore, 1) := by decide +kernel
theorem d_Md_bookLine_74 : decode prog_13_method_47_code 74 = .ok (.aload_n 0, 1) := by decide +kernel
theorem d_Md_bookLine_75 : decode prog_13_method_47_code 75 = .ok (.getfield 26, 3) := by decide +kernel
theorem d_Md_bookLine_78 : decode prog_13_method_47_code 78 = .ok (.iconst 1, 1) := by decide +kernel
theorem d_Md_bookLine_79 : decode prog_13_method_47_code 79 = .ok (.dup2, 1) := by decide +kernel
theorem d_Md_bookLine_80 : decode prog_13_method_47_code 80 = .ok (.iaload, 1) := by decide +kernel
theorem d_Md_bookLine_81 : decode prog_13_method_47_code 81 = .ok (.iconst 1, 1) := by decide +kernel
theorem d_Md_bookLine_82 : decode prog_13_method_47_code 82 = .ok (.iadd, 1) := by decide +kernel
theorem d_Md_bookLine_83 : decode prog_13_method_47_code 83 = .ok (.iastore, 1) := by decide +kernel
theorem d_Md_bookLine_84 : decode prog_13_method_47_code 84 = .ok (.goto (-65), 3) := by decide +kernel
theorem d_Md_bookLine_87 : decode prog_13_method_47_code 87 = .ok (.aload_n 0, 1) := by decide +kernel
theorem d_Md_bookLine_88 : decode prog_13_method_47_code 88 = .ok (.ldc 204, 2) := by decide +kernel
theorem d_Md_bookLine_90 : decode prog_13_method_47_code 90 = .ok (.invokevirtual 182, 3) := by decide +kernel
theorem d_Md_bookLine_93 : decode prog_13_method_47_code 93 = .ok (.ifCond .eq 37, 3) := by decide +kernel
theorem d_Md_bookLine_96 : decode prog_13_method_47_code 96 = .ok (.aload_n 0, 1) := by decide +kernel
theorem d_Md_bookLine_97 : decode prog_13_method_47_code 97 = .ok (.getfield 26, 3) := by decide +kernel
theorem d_Md_bookLine_100 : decode prog_13_method_47_code 100 = .ok (.bipush 10, 2) := by decide +kernel
theorem d_Md_bookLine_102 : decode prog_13_method_47_code 102 = .ok (.aload_n 0, 1) := by decide +kernel
theorem d_Md_bookLine_103 : decode prog_13_method_47_code 103 = .ok (.iconst 2, 1) := by decide +kernel
theorem d_Md_bookLine_104 : decode prog_13_method_47_code 104 = .ok (.bipush 9, 2) := by decide +kernel
theorem d_Md_bookLine_106 : decode prog_13_method_47_code 106 = .ok (.invokevirtual 198, 3) := by decide +kernel
theorem d_Md_bookLine_109 : decode prog_13_method_47_code 109 = .ok (.iastore, 1) := by decide +kernel
theorem d_Md_bookLine_110 : decode prog_13_method_47_code 110 = .ok (.aload_n 0, 1) := by decide +kernel
theorem d_Md_bookLine_111 : decode prog_13_method_47_code 111 = .ok (.getfield 26, 3) := by decide +kernel
theorem d_Md_bookLine_114 : decode prog_13_method_47_code 114 = .ok (.bipush 11, 2) := by decide +kernel
theorem d_Md_bookLine_116 : decode prog_13_method_47_code 116 = .ok (.aload_n 0, 1) := by decide +kernel
theorem d_Md_bookLine_117 : decode prog_13_method_47_code 117 = .ok (.iconst 0, 1) := by decide +kernel
theorem d_Md_bookLine_118 : decode prog_13_method_47_code 118 = .ok (.aload_n 0, 1) := by decide +kernel
theorem d_Md_bookLine_119 : decode prog_13_method_47_code 119 = .ok (.getfield 26, 3) := by decide +kernel
theorem d_Md_bookLine_122 : decode prog_13_method_47_code 122 = .ok (.iconst 1, 1) := by decide +kernel
theorem d_Md_bookLine_123 : decode prog_13_method_47_code 123 = .ok (.iaload, 1) := by decide +kernel
theorem d_Md_bookLine_124 : decode prog_13_method_47_code 124 = .ok (.iconst 1, 1) := by decide +kernel
theorem d_Md_bookLine_125 : decode prog_13_method_47_code 125 = .ok (.isub, 1) := by decide +kernel
theorem d_Md_bookLine_126 : decode prog_13_method_47_code 126 = .ok (.invokevirtual 198, 3) := by decide +kernel
theorem d_Md_bookLine_129 : decode prog_13_method_47_code 129 = .ok (.iastore, 1) := by decide +kernel
theorem d_Md_bookLine_130 : decode prog_13_method_47_code 130 = .ok (.aload_n 0, 1) := by decide +kernel
theorem d_Md_bookLine_131 : decode prog_13_method_47_code 131 = .ok (.ldc 206, 2) := by decide +kernel
theorem d_Md_bookLine_133 : decode prog_13_method_47_code 133 = .ok (.invokevirtual 194, 3) := by decide +kernel
theorem d_Md_bookLine_136 : decode prog_13_method_47_code 136 = .ok (.aload_n 0, 1) := by decide +kernel
theorem d_Md_bookLine_137 : decode prog_13_method_47_code 137 = .ok (.getfield 26, 3) := by decide +kernel
theorem d_Md_bookLine_140 : decode prog_13_method_47_code 140 = .ok (.bipush 12, 2) := by decide +kernel
theorem d_Md_bookLine_142 : decode prog_13_method_47_code 142 = .ok (.aload_n 0, 1) := by decide +kernel
theorem d_Md_bookLine_143 : decode prog_13_method_47_code 143 = .ok (.iconst 1, 1) := by decide +kernel
theorem d_Md_bookLine_144 : decode prog_13_method_47_code 144 = .ok (.bipush 19, 2) := by decide +kernel
theorem d_Md_bookLine_146 : decode prog_13_method_47_code 146 = .ok (.invokevirtual 198, 3) := by decide +kernel
theorem d_Md_bookLine_149 : decode prog_13_method_47_code 149 = .ok (.iastore, 1) := by decide +kernel
theorem d_Md_bookLine_150 : decode prog_13_method_47_code 150 = .ok (.aload_n 0, 1) := by decide +kernel
theorem d_Md_bookLine_151 : decode prog_13_method_47_code 151 = .ok (.getfield 26, 3) := by decide +kernel
theorem d_Md_bookLine_154 : decode prog_13_method_47_code 154 = .ok (.bipush 13, 2) := by decide +kernel
theorem d_Md_bookLine_156 : decode prog_13_method_47_code 156 = .ok (.aload_n 0, 1) := by decide +kernel
theorem d_Md_bookLine_157 : decode prog_13_method_47_code 157 = .ok (.iconst 0, 1) := by decide +kernel
theorem d_Md_bookLine_158 : decode prog_13_method_47_code 158 = .ok (.bipush 99, 2) := by decide +kernel
theorem d_Md_bookLine_160 : decode prog_13_method_47_code 160 = .ok (.invokevirtual 198, 3) := by decide +kernel
theorem d_Md_bookLine_163 : decode prog_13_method_47_code 163 = .ok (.iastore, 1) := by decide +kernel
theorem d_Md_bookLine_164 : decode prog_13_method_47_code 164 = .ok (.aload_n 0, 1) := by decide +kernel
theorem d_Md_bookLine_165 : decode prog_13_method_47_code 165 = .ok (.getfield 26, 3) := by decide +kernel
theorem d_Md_bookLine_168 : decode prog_13_method_47_code 168 = .ok (.bipush 14, 2) := by decide +kernel
theorem d_Md_bookLine_170 : decode prog_13_method_47_code 170 = .ok (.aload_n 0, 1) := by decide +kernel
theorem d_Md_bookLine_171 : decode prog_13_method_47_code 171 = .ok (.iconst 0, 1) := by decide +kernel
theorem d_Md_bookLine_172 : decode prog_13_method_47_code 172 = .ok (.bipush 30, 2) := by decide +kernel
theorem d_Md_bookLine_174 : decode prog_13_method_47_code 174 = .ok (.invokevirtual 198, 3) := by decide +kernel
theorem d_Md_bookLine_177 : decode prog_13_method_47_code 177 = .ok (.iastore, 1) := by decide +kernel
theorem d_Md_bookLine_178 : decode prog_13_method_47_code 178 = .ok (.aload_n 0, 1) := by decide +kernel
theorem d_Md_bookLine_179 : decode prog_13_method_47_code 179 = .ok (.invokevirtual 169, 3) := by decide +kernel
theorem d_Md_bookLine_182 : decode prog_13_method_47_code 182 = .ok (.istore_n 1, 1) := by decide +kernel
theorem d_Md_bookLine_183 : decode prog_13_method_47_code 183 = .ok (.aload_n 0, 1) := by decide +kernel
theorem d_Md_bookLine_184 : decode prog_13_method_47_code 184 = .ok (.getfield 26, 3) := by decide +kernel
theorem d_Md_bookLine_187 : decode prog_13_method_47_code 187 = .ok (.bipush 15, 2) := by decide +kernel
theorem d_Md_bookLine_189 : decode prog_13_method_47_code 189 = .ok (.aload_n 0, 1) := by decide +kernel
theorem d_Md_bookLine_190 : decode prog_13_method_47_code 190 = .ok (.iconst 1, 1) := by decide +kernel
theorem d_Md_bookLine_191 : decode prog_13_method_47_code 191 = .ok (.bipush 30, 2) := by decide +kernel
theorem d_Md_bookLine_193 : decode prog_13_method_47_code 193 = .ok (.invokevirtual 198, 3) := by decide +kernel
theorem d_Md_bookLine_196 : decode prog_13_method_47_code 196 = .ok (.iastore, 1) := by decide +kernel
theorem d_Md_bookLine_197 : decode prog_13_method_47_code 197 = .ok (.aload_n 0, 1) := by decide +kernel
theorem d_Md_bookLine_198 : decode prog_13_method_47_code 198 = .ok (.getfield 22, 3) := by decide +kernel
theorem d_Md_bookLine_201 : decode prog_13_method_47_code 201 = .ok (.iconst (-1), 1) := by decide +kernel
theorem d_Md_bookLine_202 : decode prog_13_method_47_code 202 = .ok (.if_icmp .ne 40, 3) := by decide +kernel
theorem d_Md_bookLine_205 : decode prog_13_method_47_code 205 = .ok (.aload_n 0, 1) := by decide +kernel
theorem d_Md_bookLine_206 : decode prog_13_method_47_code 206 = .ok (.getfield 26, 3) := by decide +kernel
theorem d_Md_bookLine_209 : decode prog_13_method_47_code 209 = .ok (.bipush 13, 2) := by decide +kernel
theorem d_Md_bookLine_211 : decode prog_13_method_47_code 211 = .ok (.iaload, 1) := by decide +kernel
theorem d_Md_bookLine_212 : decode prog_13_method_47_code 212 = .ok (.aload_n 0, 1) := by decide +kernel
theorem d_Md_bookLine_213 : decode prog_13_method_47_code 213 = .ok (.getfield 26, 3) := by decide +kernel
theorem d_Md_bookLine_216 : decode prog_13_method_47_code 216 = .ok (.bipush 15, 2) := by decide +kernel
theorem d_Md_bookLine_218 : decode prog_13_method_47_code 218 = .ok (.iaload, 1) := by decide +kernel
theorem d_Md_bookLine_219 : decode prog_13_method_47_code 219 = .ok (.iadd, 1) := by decide +kernel
theorem d_Md_bookLine_220 : decode prog_13_method_47_code 220 = .ok (.aload_n 0, 1) := by decide +kernel
theorem d_Md_bookLine_221 : decode prog_13_method_47_code 221 = .ok (.getfield 26, 3) := by decide +kernel
theorem d_Md_bookLine_224 : decode prog_13_method_47_code 224 = .ok (.iconst 0, 1) := by decide +kernel
theorem d_Md_bookLine_225 : decode prog_13_method_47_code 225 = .ok (.iaload, 1) := by decide +kernel
theorem d_Md_bookLine_226 : decode prog_13_method_47_code 226 = .ok (.iadd, 1) := by decide +kernel
theorem d_Md_bookLine_227 : decode prog_13_method_47_code 227 = .ok (.aload_n 0, 1) := by decide +kernel
theorem d_Md_bookLine_228 : decode prog_13_method_47_code 228 = .ok (.getfield 26, 3) := by decide +kernel
theorem d_Md_bookLine_231 : decode prog_13_method_47_code 231 = .ok (.invokestatic 62, 3) := by decide +kernel
theorem d_Md_bookLine_234 : decode prog_13_method_47_code 234 = .ok (.if_icmp .le 8, 3) := by decide +kernel
theorem d_Md_bookLine_237 : decode prog_13_method_47_code 237 = .ok (.aload_n 0, 1) := by decide +kernel
theorem d_Md_bookLine_238 : decode prog_13_method_47_code 238 = .ok (.iload_n 1, 1) := by decide +kernel
theorem d_Md_bookLine_239 : decode prog_13_method_47_code 239 = .ok (.invokevirtual 186, 3) := by decide +kernel
theorem d_Md_bookLine_242 : decode prog_13_method_47_code 242 = .ok (.return_, 1) := by decide +kernel
theorem mb_Md_expects : MBv R_Md y_Md_expects prog_13_method_42_code 2 none 1 := ⟨mT8 202 (by decide +kernel) (by decide +kernel), mTs 15 (by decide +kernel) (by decide +kernel), mT1 10 (by decide +kernel) (by decide +kernel), mT8 203 (by decide +kernel) (by decide +kernel), by decide, rfl, by decide +kernel, by decide +kernel, by decide +kernel⟩
theorem mb_Md_isFigure : MBv R_Md y_Md_isFigure prog_13_method_43_code 1 (some .boolean) 0 := ⟨mT8 228 (by decide +kernel) (by decide +kernel), mTs 21 (by decide +kernel) (by decide +kernel), mT1 10 (by decide +kernel) (by decide +kernel), mT8 229 (by decide +kernel) (by decide +kernel), by decide, rfl, by decide +kernel, by decide +kernel, by decide +kernel⟩
theorem mb_Md_monthsOf : MBs y_Md_monthsOf prog_13_method_9_code 3 (some .int) 1 := ⟨mT8 233 (by decide +kernel) (by decide +kernel), mT1 10 (by decide +kernel) (by decide +kernel), mT8 234 (by decide +kernel) (by decide +kernel), by decide, by decide +kernel, by decide +kernel, by decide +kernel⟩
theorem mb_Md_number : MBv R_Md y_Md_number prog_13_method_45_code 5 (some .int) 2 := ⟨mT8 220 (by decide +kernel) (by decide +kernel), mTs 19 (by decide +kernel) (by decide +kernel), mT1 10 (by decide +kernel) (by decide +kernel), mT8 221 (by decide +kernel) (by decide +kernel), by decide, rfl, by decide +kernel, by decide +kernel, by decide +kernel⟩
theorem fk_Md_26 : Cond.fieldLink "FeastBookModel" 26 (T_Md 11).1 (T_Md 11).2.1 (T_Md 11).2.2.1 ∈ TT := mT8 107 (by decide +kernel) (by decide +kernel)
theorem lk_Md_194 : Cond.methodLink "FeastBookModel" 194 y_Md_expects ∈ TT := mT8 200 (by decide +kernel) (by decide +kernel)
theorem lk_Md_198 : Cond.methodLink "FeastBookModel" 198 y_Md_number ∈ TT := mT8 218 (by decide +kernel) (by decide +kernel)
theorem lk_Md_201 : Cond.methodLink "FeastBookModel" 201 y_Md_isFigure ∈ TT := mT8 226 (by decide +kernel) (by decide +kernel)
theorem lk_Md_62 : Cond.methodLink "FeastBookModel" 62 y_Md_monthsOf ∈ TT := mT8 232 (by decide +kernel) (by decide +kernel)
set_option maxHeartbeats 4000000 in
set_option maxRecDepth 100000 in
theorem w_Md_bookLine_L19 {p : Program} {l : Launch} {e : Env} {s : State} {m : MethodId} {args : Array Value} {below : List Frame} {meth : Method} {c : Code} {D : va_G} {ad : Nat → Nat} {cA : Nat → ClassId} {sd sv : Nat → Nat} {out : Hp} (N : Nat) (hI : Inj97 ad) (C : Cx p s m args c prog_13_method_47_code 2 "FeastBookModel" D ad cA sd sv (FA ad)) (hr : meth.sig.returnType = none) (hlk : meth.locks = false) (k : Hp → Option Hp) (kW : ∀ (h : Hp), k h = some out → ∀ (H : Heap) (locs : List Loc), Wd s D ad cA (FA ad) h H locs → ∀ ls : Array Slot, lv_has ls 2 [(0, .ref (ad 83))] → W p l e (rmD 6) s m args below meth c H locs 0 0 (MQ below (QV D ad cA out) args s 0 0 (FA ad)) (F0 m 87 ls [])) : ∀ (n : Nat) (h : Hp) (H : Heap) (locs : List Loc), Wd s D ad cA (FA ad) h H locs → ∀ ls : Array Slot, lv_has ls 2 [(0, .ref (ad 83))] → Md_bookLine_L19 N k n h = some out → W p l e (rmD 6) s m args below meth c H locs 0 0 (MQ below (QV D ad cA out) args s 0 0 (FA ad)) (F0 m 19 ls []) := by
  intro n
  induction n with
  | zero =>
    intro h H locs w ls hl hM
    rw [Md_bookLine_L19] at hM
    cases hM
  | succ n ih =>
    intro h H locs w ls hl hM
    rw [Md_bookLine_L19] at hM
    refine m_aload_n C hl 0 d_Md_bookLine_19 rfl rfl ?_
    refine m_geti C w.1 kc_Md sh_83 (Nat.le_of_ble_eq_true rfl) 10 rfl (by decide) fk_Md_22 d_Md_bookLine_20 ?_
    refine m_iconst C d_Md_bookLine_23 ?_
    refine m_icmp_ne C hM 87 d_Md_bookLine_24 (by decide) (fun hM => ?_) (fun hM => ?_)
    · exact kW  h hM _ _ w _ hl
    · refine m_aload_n C hl 0 d_Md_bookLine_27 rfl rfl ?_
      refine m_getr C w.1 kc_Md sh_83 (Nat.le_of_ble_eq_true rfl) 11 88 rfl (by decide) fk_Md_26 d_Md_bookLine_28 ?_
      refine m_iconst C d_Md_bookLine_31 ?_
      refine m_iald C w.1 sh_88 (Nat.le_of_ble_eq_true rfl) (Nat.le_of_ble_eq_true rfl) hM d_Md_bookLine_32 (fun x6 hM => ?_)
      refine m_bipush C d_Md_bookLine_33 (by decide) ?_
      refine m_icmp_ge C hM 87 d_Md_bookLine_35 (by decide) (fun hM => ?_) (fun hM => ?_)
      · exact kW  h hM _ _ w _ hl
      · refine m_aload_n C hl 0 d_Md_bookLine_38 rfl rfl ?_
        refine m_getr C w.1 kc_Md sh_83 (Nat.le_of_ble_eq_true rfl) 11 88 rfl (by decide) fk_Md_26 d_Md_bookLine_39 ?_
        refine m_iconst C d_Md_bookLine_42 ?_
        refine m_iald C w.1 sh_88 (Nat.le_of_ble_eq_true rfl) (Nat.le_of_ble_eq_true rfl) hM d_Md_bookLine_43 (fun x7 hM => ?_)
        refine lt_join hM (fun j10 ej hM => ?_)
        have hJ10 : ∀ (h_10 : Hp), j10 h_10 = some out → ∀ (H : Heap) (locs : List Loc), Wd s D ad cA (FA ad) h_10 H locs → ∀ ls : Array Slot, lv_has ls 2 [(0, .ref (ad 83))] → W p l e (rmD 6) s m args below meth c H locs 0 0 (MQ below (QV D ad cA out) args s 0 0 (FA ad)) (F0 m 54 ls []) := by
          intro h_10 hM H locs w ls hl
          subst ej
          dsimp only at hM
          refine m_aload_n C hl 0 d_Md_bookLine_54 rfl rfl ?_
          refine m_getr C w.1 kc_Md sh_83 (Nat.le_of_ble_eq_true rfl) 11 88 rfl (by decide) fk_Md_26 d_Md_bookLine_55 ?_
          refine m_iconst C d_Md_bookLine_58 ?_
          refine m_aload_n C hl 0 d_Md_bookLine_59 rfl rfl ?_
          refine m_getr C w.1 kc_Md sh_83 (Nat.le_of_ble_eq_true rfl) 11 88 rfl (by decide) fk_Md_26 d_Md_bookLine_60 ?_
          refine m_iconst C d_Md_bookLine_63 ?_
          refine m_iald C w.1 sh_88 (Nat.le_of_ble_eq_true rfl) (Nat.le_of_ble_eq_true rfl) hM d_Md_bookLine_64 (fun x11 hM => ?_)
          refine m_iadd C d_Md_bookLine_65 ?_
          refine m_aload_n C hl 0 d_Md_bookLine_66 rfl rfl ?_
          refine m_iconst C d_Md_bookLine_67 ?_
          refine m_bipush C d_Md_bookLine_68 (by decide) ?_
          obtain ⟨q13, e12, hM⟩ := bnd_some hM
          refine aftI C w (runV C w.1 w.2 kc_Md sh_83 (Nat.le_of_ble_eq_true rfl) (c_Md_number hI e12) lk_Md_198 mb_Md_number rfl ⟨Nat.le_of_ble_eq_true rfl, Nat.le_of_ble_eq_true rfl⟩ ⟨Nat.zero_le _, Nat.zero_le _⟩ (Nat.le_of_ble_eq_true rfl) d_Md_bookLine_70 hl.1 (rest := [.int (iZ (2 + x11)), .ref (ad 88)]) rfl) (fun H locs w => ?_)
          refine m_iast C w sh_88 (Nat.le_of_ble_eq_true rfl) (Nat.le_of_ble_eq_true rfl) hM d_Md_bookLine_73 (fun h14 H locs w hM => ?_)
          refine m_aload_n C hl 0 d_Md_bookLine_74 rfl rfl ?_
          refine m_getr C w.1 kc_Md sh_83 (Nat.le_of_ble_eq_true rfl) 11 88 rfl (by decide) fk_Md_26 d_Md_bookLine_75 ?_
          refine m_iconst C d_Md_bookLine_78 ?_
          refine m_dup2 C d_Md_bookLine_79 rfl rfl ?_
          refine m_iald C w.1 sh_88 (Nat.le_of_ble_eq_true rfl) (Nat.le_of_ble_eq_true rfl) hM d_Md_bookLine_80 (fun x15 hM => ?_)
          refine m_iconst C d_Md_bookLine_81 ?_
          refine m_iadd C d_Md_bookLine_82 ?_
          refine m_iast C w sh_88 (Nat.le_of_ble_eq_true rfl) (Nat.le_of_ble_eq_true rfl) hM d_Md_bookLine_83 (fun h16 H locs w hM => ?_)
          refine m_goto C 19 d_Md_bookLine_84 (by decide) ?_
          exact ih  h16 _ _ w _ hl hM
        refine m_if_eq C hM 54 d_Md_bookLine_44 (by decide) (fun hM => ?_) (fun hM => ?_)
        · exact hJ10 h hM _ _ w _ hl
        · refine m_aload_n C hl 0 d_Md_bookLine_47 rfl rfl ?_
          obtain ⟨q18, e17, hM⟩ := bnd_some hM
          refine aftI C w (runV C w.1 w.2 kc_Md sh_83 (Nat.le_of_ble_eq_true rfl) (c_Md_isFigure hI e17) lk_Md_201 mb_Md_isFigure rfl ⟨Nat.le_of_ble_eq_true rfl, Nat.le_of_ble_eq_true rfl⟩ ⟨Nat.zero_le _, Nat.zero_le _⟩ (Nat.le_of_ble_eq_true rfl) d_Md_bookLine_48 hl.1 (rest := []) rfl) (fun H locs w => ?_)
          refine m_if_eq C hM 87 d_Md_bookLine_51 (by decide) (fun hM => ?_) (fun hM => ?_)
          · exact kW  q18.2 hM _ _ w _ hl
          · exact hJ10 q18.2 hM _ _ w _ hl
set_option maxHeartbeats 4000000 in
set_option maxRecDepth 100000 in
theorem c_Md_bookLine {l : Launch} {D : va_G} {ad : Nat → Nat} {cA : Nat → ClassId} {sd sv : Nat → Nat} {h : Hp} {N : Nat} {out : Hp} (hI : Inj97 ad) (hM : M_Md_bookLine N h = some out) : Met l y_Md_bookLine (.code y_Md_bookLine prog_13_method_47_code 2 none :: TT) (rmD 6) (PC D ad cA sd sv h [.ref (ad 83)]) (QV D ad cA out) 0 0 (FA ad) := by
  unfold M_Md_bookLine at hM
  refine entM (by decide +kernel) hI (Nat.le_of_ble_eq_true rfl) ?_
  intro p e s m args below meth c C hr hlk hP ls hl
  have C : Cx p s m args c prog_13_method_47_code 2 "FeastBookModel" D ad cA sd sv (FA ad) := C
  have hl : lv_has ls 2 [(0, .ref (ad 83))] := hl
  have w : Wd s D ad cA (FA ad) h s.heap [] := ⟨hP, va_S.rf⟩
  refine m_aload_n C hl 0 d_Md_bookLine_0 rfl rfl ?_
  refine m_ldcS C 18 (by decide) rfl d_Md_bookLine_1 ?_
  obtain ⟨h2, e1, hM⟩ := bnd_some hM
  refine aftV C w (runV C w.1 w.2 kc_Md sh_83 (Nat.le_of_ble_eq_true rfl) (c_Md_expects hI (by decide) e1) lk_Md_194 mb_Md_expects rfl ⟨Nat.le_of_ble_eq_true rfl, Nat.le_of_ble_eq_true rfl⟩ ⟨Nat.zero_le _, Nat.zero_le _⟩ (Nat.le_of_ble_eq_true rfl) d_Md_bookLine_3 hl.1 (rest := []) rfl) (fun H locs w => ?_)
  refine m_aload_n C hl 0 d_Md_bookLine_6 rfl rfl ?_
  refine m_getr C w.1 kc_Md sh_83 (Nat.le_of_ble_eq_true rfl) 11 88 rfl (by decide) fk_Md_26 d_Md_bookLine_7 ?_
  refine m_iconst C d_Md_bookLine_10 ?_
  refine m_aload_n C hl 0 d_Md_bookLine_11 rfl rfl ?_
  refine m_iconst C d_Md_bookLine_12 ?_
  refine m_bipush C d_Md_bookLine_13 (by decide) ?_
  obtain ⟨q4, e3, hM⟩ := bnd_some hM
  refine aftI C w (runV C w.1 w.2 kc_Md sh_83 (Nat.le_of_ble_eq_true rfl) (c_Md_number hI e3) lk_Md_198 mb_Md_number rfl ⟨Nat.le_of_ble_eq_true rfl, Nat.le_of_ble_eq_true rfl⟩ ⟨Nat.zero_le _, Nat.zero_le _⟩ (Nat.le_of_ble_eq_true rfl) d_Md_bookLine_15 hl.1 (rest := [.int (iZ 0), .ref (ad 88)]) rfl) (fun H locs w => ?_)
  refine m_iast C w sh_88 (Nat.le_of_ble_eq_true rfl) (Nat.le_of_ble_eq_true rfl) hM d_Md_bookLine_18 (fun h5 H locs w hM => ?_)
  refine w_Md_bookLine_L19 N hI C hr hlk  _ (fun  h_19 hM H locs w ls hl => ?_) _  h5 _ _ w _ hl hM
  refine m_aload_n C hl 0 d_Md_bookLine_87 rfl rfl ?_
  refine m_ldcS C 19 (by decide) rfl d_Md_bookLine_88 ?_
  obtain ⟨q21, e20, hM⟩ := bnd_some hM
  refine aftI C w (runV C w.1 w.2 kc_Md sh_83 (Nat.le_of_ble_eq_true rfl) (c_Md_has hI (by decide) e20) lk_Md_182 mb_Md_has rfl ⟨Nat.le_of_ble_eq_true rfl, Nat.le_of_ble_eq_true rfl⟩ ⟨Nat.zero_le _, Nat.zero_le _⟩ (Nat.le_of_ble_eq_true rfl) d_Md_bookLine_90 hl.1 (rest := []) rfl) (fun H locs w => ?_)
  refine lt_join hM (fun j29 ej hM => ?_)
  have hJ29 : ∀ (h_29 : Hp), j29 h_29 = some out → ∀ (H : Heap) (locs : List Loc), Wd s D ad cA (FA ad) h_29 H locs → ∀ ls : Array Slot, lv_has ls 2 [(0, .ref (ad 83))] → W p l e (rmD 6) s m args below meth c H locs 0 0 (MQ below (QV D ad cA out) args s 0 0 (FA ad)) (F0 m 130 ls []) := by
    intro h_29 hM H locs w ls hl
    subst ej
    dsimp only at hM
    refine m_aload_n C hl 0 d_Md_bookLine_130 rfl rfl ?_
    refine m_ldcS C 20 (by decide) rfl d_Md_bookLine_131 ?_
    obtain ⟨h31, e30, hM⟩ := bnd_some hM
    refine aftV C w (runV C w.1 w.2 kc_Md sh_83 (Nat.le_of_ble_eq_true rfl) (c_Md_expects hI (by decide) e30) lk_Md_194 mb_Md_expects rfl ⟨Nat.le_of_ble_eq_true rfl, Nat.le_of_ble_eq_true rfl⟩ ⟨Nat.zero_le _, Nat.zero_le _⟩ (Nat.le_of_ble_eq_true rfl) d_Md_bookLine_133 hl.1 (rest := []) rfl) (fun H locs w => ?_)
    refine m_aload_n C hl 0 d_Md_bookLine_136 rfl rfl ?_
    refine m_getr C w.1 kc_Md sh_83 (Nat.le_of_ble_eq_true rfl) 11 88 rfl (by decide) fk_Md_26 d_Md_bookLine_137 ?_
    refine m_bipush C d_Md_bookLine_140 (by decide) ?_
    refine m_aload_n C hl 0 d_Md_bookLine_142 rfl rfl ?_
    refine m_iconst C d_Md_bookLine_143 ?_
    refine m_bipush C d_Md_bookLine_144 (by decide) ?_
    obtain ⟨q33, e32, hM⟩ := bnd_some hM
    refine aftI C w (runV C w.1 w.2 kc_Md sh_83 (Nat.le_of_ble_eq_true rfl) (c_Md_number hI e32) lk_Md_198 mb_Md_number rfl ⟨Nat.le_of_ble_eq_true rfl, Nat.le_of_ble_eq_true rfl⟩ ⟨Nat.zero_le _, Nat.zero_le _⟩ (Nat.le_of_ble_eq_true rfl) d_Md_bookLine_146 hl.1 (rest := [.int (iZ 12), .ref (ad 88)]) rfl) (fun H locs w => ?_)
    refine m_iast C w sh_88 (Nat.le_of_ble_eq_true rfl) (Nat.le_of_ble_eq_true rfl) hM d_Md_bookLine_149 (fun h34 H locs w hM => ?_)
    refine m_aload_n C hl 0 d_Md_bookLine_150 rfl rfl ?_
    refine m_getr C w.1 kc_Md sh_83 (Nat.le_of_ble_eq_true rfl) 11 88 rfl (by decide) fk_Md_26 d_Md_bookLine_151 ?_
    refine m_bipush C d_Md_bookLine_154 (by decide) ?_
    refine m_aload_n C hl 0 d_Md_bookLine_156 rfl rfl ?_
    refine m_iconst C d_Md_bookLine_157 ?_
    refine m_bipush C d_Md_bookLine_158 (by decide) ?_
    obtain ⟨q36, e35, hM⟩ := bnd_some hM
    refine aftI C w (runV C w.1 w.2 kc_Md sh_83 (Nat.le_of_ble_eq_true rfl) (c_Md_number hI e35) lk_Md_198 mb_Md_number rfl ⟨Nat.le_of_ble_eq_true rfl, Nat.le_of_ble_eq_true rfl⟩ ⟨Nat.zero_le _, Nat.zero_le _⟩ (Nat.le_of_ble_eq_true rfl) d_Md_bookLine_160 hl.1 (rest := [.int (iZ 13), .ref (ad 88)]) rfl) (fun H locs w => ?_)
    refine m_iast C w sh_88 (Nat.le_of_ble_eq_true rfl) (Nat.le_of_ble_eq_true rfl) hM d_Md_bookLine_163 (fun h37 H locs w hM => ?_)
    refine m_aload_n C hl 0 d_Md_bookLine_164 rfl rfl ?_
    refine m_getr C w.1 kc_Md sh_83 (Nat.le_of_ble_eq_true rfl) 11 88 rfl (by decide) fk_Md_26 d_Md_bookLine_165 ?_
    refine m_bipush C d_Md_bookLine_168 (by decide) ?_
    refine m_aload_n C hl 0 d_Md_bookLine_170 rfl rfl ?_
    refine m_iconst C d_Md_bookLine_171 ?_
    refine m_bipush C d_Md_bookLine_172 (by decide) ?_
    obtain ⟨q39, e38, hM⟩ := bnd_some hM
    refine aftI C w (runV C w.1 w.2 kc_Md sh_83 (Nat.le_of_ble_eq_true rfl) (c_Md_number hI e38) lk_Md_198 mb_Md_number rfl ⟨Nat.le_of_ble_eq_true rfl, Nat.le_of_ble_eq_true rfl⟩ ⟨Nat.zero_le _, Nat.zero_le _⟩ (Nat.le_of_ble_eq_true rfl) d_Md_bookLine_174 hl.1 (rest := [.int (iZ 14), .ref (ad 88)]) rfl) (fun H locs w => ?_)
    refine m_iast C w sh_88 (Nat.le_of_ble_eq_true rfl) (Nat.le_of_ble_eq_true rfl) hM d_Md_bookLine_177 (fun h40 H locs w hM => ?_)
    refine m_aload_n C hl 0 d_Md_bookLine_178 rfl rfl ?_
    obtain ⟨q42, e41, hM⟩ := bnd_some hM
    refine aftI C w (runV C w.1 w.2 kc_Md sh_83 (Nat.le_of_ble_eq_true rfl) (c_Md_here hI e41) lk_Md_169 mb_Md_here rfl ⟨Nat.le_of_ble_eq_true rfl, Nat.le_of_ble_eq_true rfl⟩ ⟨Nat.zero_le _, Nat.zero_le _⟩ (Nat.le_of_ble_eq_true rfl) d_Md_bookLine_179 hl.1 (rest := []) rfl) (fun H locs w => ?_)
    refine m_istore_n C hl [(1, .int (iZ q42.1)), (0, .ref (ad 83))] d_Md_bookLine_182 rfl (by decide) rfl (fun ls hl => ?_)
    refine m_aload_n C hl 1 d_Md_bookLine_183 rfl rfl ?_
    refine m_getr C w.1 kc_Md sh_83 (Nat.le_of_ble_eq_true rfl) 11 88 rfl (by decide) fk_Md_26 d_Md_bookLine_184 ?_
    refine m_bipush C d_Md_bookLine_187 (by decide) ?_
    refine m_aload_n C hl 1 d_Md_bookLine_189 rfl rfl ?_
    refine m_iconst C d_Md_bookLine_190 ?_
    refine m_bipush C d_Md_bookLine_191 (by decide) ?_
    obtain ⟨q44, e43, hM⟩ := bnd_some hM
    refine aftI C w (runV C w.1 w.2 kc_Md sh_83 (Nat.le_of_ble_eq_true rfl) (c_Md_number hI e43) lk_Md_198 mb_Md_number rfl ⟨Nat.le_of_ble_eq_true rfl, Nat.le_of_ble_eq_true rfl⟩ ⟨Nat.zero_le _, Nat.zero_le _⟩ (Nat.le_of_ble_eq_true rfl) d_Md_bookLine_193 hl.1 (rest := [.int (iZ 15), .ref (ad 88)]) rfl) (fun H locs w => ?_)
    refine m_iast C w sh_88 (Nat.le_of_ble_eq_true rfl) (Nat.le_of_ble_eq_true rfl) hM d_Md_bookLine_196 (fun h45 H locs w hM => ?_)
    refine m_aload_n C hl 1 d_Md_bookLine_197 rfl rfl ?_
    refine m_geti C w.1 kc_Md sh_83 (Nat.le_of_ble_eq_true rfl) 10 rfl (by decide) fk_Md_22 d_Md_bookLine_198 ?_
    refine m_iconst C d_Md_bookLine_201 ?_
    refine m_icmp_ne C hM 242 d_Md_bookLine_202 (by decide) (fun hM => ?_) (fun hM => ?_)
    · exact m_vretW C w hr hlk hM d_Md_bookLine_242
    · refine m_aload_n C hl 1 d_Md_bookLine_205 rfl rfl ?_
      refine m_getr C w.1 kc_Md sh_83 (Nat.le_of_ble_eq_true rfl) 11 88 rfl (by decide) fk_Md_26 d_Md_bookLine_206 ?_
      refine m_bipush C d_Md_bookLine_209 (by decide) ?_
      refine m_iald C w.1 sh_88 (Nat.le_of_ble_eq_true rfl) (Nat.le_of_ble_eq_true rfl) hM d_Md_bookLine_211 (fun x46 hM => ?_)
      refine m_aload_n C hl 1 d_Md_bookLine_212 rfl rfl ?_
      refine m_getr C w.1 kc_Md sh_83 (Nat.le_of_ble_eq_true rfl) 11 88 rfl (by decide) fk_Md_26 d_Md_bookLine_213 ?_
      refine m_bipush C d_Md_bookLine_216 (by decide) ?_
      refine m_iald C w.1 sh_88 (Nat.le_of_ble_eq_true rfl) (Nat.le_of_ble_eq_true rfl) hM d_Md_bookLine_218 (fun x47 hM => ?_)
      refine m_iadd C d_Md_bookLine_219 ?_
      refine m_aload_n C hl 1 d_Md_bookLine_220 rfl rfl ?_
      refine m_getr C w.1 kc_Md sh_83 (Nat.le_of_ble_eq_true rfl) 11 88 rfl (by decide) fk_Md_26 d_Md_bookLine_221 ?_
      refine m_iconst C d_Md_bookLine_224 ?_
      refine m_iald C w.1 sh_88 (Nat.le_of_ble_eq_true rfl) (Nat.le_of_ble_eq_true rfl) hM d_Md_bookLine_225 (fun x48 hM => ?_)
      refine m_iadd C d_Md_bookLine_226 ?_
      refine m_aload_n C hl 1 d_Md_bookLine_227 rfl rfl ?_
      refine m_getr C w.1 kc_Md sh_83 (Nat.le_of_ble_eq_true rfl) 11 88 rfl (by decide) fk_Md_26 d_Md_bookLine_228 ?_
      obtain ⟨x50, e49, hM⟩ := bnd_some hM
      refine aftR (runS C w.1 w.2 (c_Md_monthsOf hI ⟨sh_88, (Nat.le_of_ble_eq_true rfl), (Nat.le_of_ble_eq_true rfl)⟩ e49) lk_Md_62 mb_Md_monthsOf rfl ⟨Nat.le_of_ble_eq_true rfl, Nat.le_of_ble_eq_true rfl⟩ ⟨Nat.zero_le _, Nat.zero_le _⟩ (Nat.le_of_ble_eq_true rfl) d_Md_bookLine_231 hl.1 (rest := [.int (iZ ((x46 + x47) + x48))]) rfl) ?_
      refine m_icmp_le C hM 242 d_Md_bookLine_234 (by decide) (fun hM => ?_) (fun hM => ?_)
      · exact m_vretW C w hr hlk hM d_Md_bookLine_242
      · refine m_aload_n C hl 1 d_Md_bookLine_237 rfl rfl ?_
        refine m_iload_n C hl 0 d_Md_bookLine_238 rfl rfl ?_
        obtain ⟨h52, e51, hM⟩ := bnd_some hM
        refine aftV C w (runV C w.1 w.2 kc_Md sh_83 (Nat.le_of_ble_eq_true rfl) (c_Md_wrong hI e51) lk_Md_186 mb_Md_wrong rfl ⟨Nat.le_of_ble_eq_true rfl, Nat.le_of_ble_eq_true rfl⟩ ⟨Nat.zero_le _, Nat.zero_le _⟩ (Nat.le_of_ble_eq_true rfl) d_Md_bookLine_239 hl.1 (rest := []) rfl) (fun H locs w => ?_)
        exact m_vretW C w hr hlk hM d_Md_bookLine_242
  refine m_if_eq C hM 130 d_Md_bookLine_93 (by decide) (fun hM => ?_) (fun hM => ?_)
  · exact hJ29 q21.2 hM _ _ w _ hl
  · refine m_aload_n C hl 0 d_Md_bookLine_96 rfl rfl ?_
    refine m_getr C w.1 kc_Md sh_83 (Nat.le_of_ble_eq_true rfl) 11 88 rfl (by decide) fk_Md_26 d_Md_bookLine_97 ?_
    refine m_bipush C d_Md_bookLine_100 (by decide) ?_
    refine m_aload_n C hl 0 d_Md_bookLine_102 rfl rfl ?_
    refine m_iconst C d_Md_bookLine_103 ?_
    refine m_bipush C d_Md_bookLine_104 (by decide) ?_
    obtain ⟨q54, e53, hM⟩ := bnd_some hM
    refine aftI C w (runV C w.1 w.2 kc_Md sh_83 (Nat.le_of_ble_eq_true rfl) (c_Md_number hI e53) lk_Md_198 mb_Md_number rfl ⟨Nat.le_of_ble_eq_true rfl, Nat.le_of_ble_eq_true rfl⟩ ⟨Nat.zero_le _, Nat.zero_le _⟩ (Nat.le_of_ble_eq_true rfl) d_Md_bookLine_106 hl.1 (rest := [.int (iZ 10), .ref (ad 88)]) rfl) (fun H locs w => ?_)
    refine m_iast C w sh_88 (Nat.le_of_ble_eq_true rfl) (Nat.le_of_ble_eq_true rfl) hM d_Md_bookLine_109 (fun h55 H locs w hM => ?_)
    refine m_aload_n C hl 0 d_Md_bookLine_110 rfl rfl ?_
    refine m_getr C w.1 kc_Md sh_83 (Nat.le_of_ble_eq_true rfl) 11 88 rfl (by decide) fk_Md_26 d_Md_bookLine_111 ?_
    refine m_bipush C d_Md_bookLine_114 (by decide) ?_
    refine m_aload_n C hl 0 d_Md_bookLine_116 rfl rfl ?_
    refine m_iconst C d_Md_bookLine_117 ?_
    refine m_aload_n C hl 0 d_Md_bookLine_118 rfl rfl ?_
    refine m_getr C w.1 kc_Md sh_83 (Nat.le_of_ble_eq_true rfl) 11 88 rfl (by decide) fk_Md_26 d_Md_bookLine_119 ?_
    refine m_iconst C d_Md_bookLine_122 ?_
    refine m_iald C w.1 sh_88 (Nat.le_of_ble_eq_true rfl) (Nat.le_of_ble_eq_true rfl) hM d_Md_bookLine_123 (fun x56 hM => ?_)
    refine m_iconst C d_Md_bookLine_124 ?_
    refine m_isub C d_Md_bookLine_125 ?_
    obtain ⟨q58, e57, hM⟩ := bnd_some hM
    refine aftI C w (runV C w.1 w.2 kc_Md sh_83 (Nat.le_of_ble_eq_true rfl) (c_Md_number hI e57) lk_Md_198 mb_Md_number rfl ⟨Nat.le_of_ble_eq_true rfl, Nat.le_of_ble_eq_true rfl⟩ ⟨Nat.zero_le _, Nat.zero_le _⟩ (Nat.le_of_ble_eq_true rfl) d_Md_bookLine_126 hl.1 (rest := [.int (iZ 11), .ref (ad 88)]) rfl) (fun H locs w => ?_)
    refine m_iast C w sh_88 (Nat.le_of_ble_eq_true rfl) (Nat.le_of_ble_eq_true rfl) hM d_Md_bookLine_129 (fun h59 H locs w hM => ?_)
    exact hJ29 h59 hM _ _ w _ hl
def y_Md_once : MethodName := ⟨"FeastBookModel", "once", "(IIIII)V"⟩
theorem d_Md_once_0 : decode prog_13_method_48_code 0 = .ok (.aload_n 0, 1) := by decide +kernel
theorem d_Md_once_1 : decode prog_13_method_48_code 1 = .ok (.getfield 208, 3) := by decide +kernel
theorem d_Md_once_4 : decode prog_13_method_48_code 4 = .ok (.iload_n 1, 1) := by decide +kernel
theorem d_Md_once_5 : decode prog_13_method_48_code 5 = .ok (.ishr, 1) := by decide +kernel
theorem d_Md_once_6 : decode prog_13_method_48_code 6 = .ok (.iconst 1, 1) := by decide +kernel
theorem d_Md_once_7 : decode prog_13_method_48_code 7 = .ok (.iand, 1) := by decide +kernel
theorem d_Md_once_8 : decode prog_13_method_48_code 8 = .ok (.iconst 1, 1) := by decide +kernel
theorem d_Md_once_9 : decode prog_13_method_48_code 9 = .ok (.if_icmp .ne 8, 3) := by decide +kernel
theorem d_Md_once_12 : decode prog_13_method_48_code 12 = .ok (.aload_n 0, 1) := by decide +kernel
theorem d_Md_once_13 : decode prog_13_method_48_code 13 = .ok (.iload_n 2, 1) := by decide +kernel
theorem d_Md_once_14 : decode prog_13_method_48_code 14 = .ok (.invokevirtual 186, 3) := by decide +kernel
theorem d_Md_once_17 : decode prog_13_method_48_code 17 = .ok (.aload_n 0, 1) := by decide +kernel
theorem d_Md_once_18 : decode prog_13_method_48_code 18 = .ok (.dup, 1) := by decide +kernel
theorem d_Md_once_19 : decode prog_13_method_48_code 19 = .ok (.getfield 208, 3) := by decide +kernel
theorem d_Md_once_22 : decode prog_13_method_48_code 22 = .ok (.iconst 1, 1) := by decide +kernel
theorem d_Md_once_23 : decode prog_13_method_48_code 23 = .ok (.iload_n 1, 1) := by decide +kernel
theorem d_Md_once_24 : decode prog_13_method_48_code 24 = .ok (.ishl, 1) := by decide +kernel
theorem d_Md_once_25 : decode prog_13_method_48_code 25 = .ok (.ior, 1) := by decide +kernel
theorem d_Md_once_26 : decode prog_13_method_48_code 26 = .ok (.putfield 208, 3) := by decide +kernel
theorem d_Md_once_29 : decode prog_13_method_48_code 29 = .ok (.aload_n 0, 1) := by decide +kernel
theorem d_Md_once_30 : decode prog_13_method_48_code 30 = .ok (.getfield 26, 3) := by decide +kernel
theorem d_Md_once_33 : decode prog_13_method_48_code 33 = .ok (.iload_n 3, 1) := by decide +kernel
theorem d_Md_once_34 : decode prog_13_method_48_code 34 = .ok (.aload_n 0, 1) := by decide +kernel
theorem d_Md_once_35 : decode prog_13_method_48_code 35 = .ok (.iload 4, 2) := by decide +kernel
theorem d_Md_once_37 : decode prog_13_method_48_code 37 = .ok (.iload 5, 2) := by decide +kernel
theorem d_Md_once_39 : decode prog_13_method_48_code 39 = .ok (.invokevirtual 198, 3) := by decide +kernel
theorem d_Md_once_42 : decode prog_13_method_48_code 42 = .ok (.iastore, 1) := by decide +kernel
theorem d_Md_once_43 : decode prog_13_method_48_code 43 = .ok (.return_, 1) := by decide +kernel
theorem fk_Md_208 : Cond.fieldLink "FeastBookModel" 208 (T_Md 12).1 (T_Md 12).2.1 (T_Md 12).2.2.1 ∈ TT := mT8 108 (by decide +kernel) (by decide +kernel)
set_option maxHeartbeats 4000000 in
set_option maxRecDepth 100000 in
theorem c_Md_once {l : Launch} {D : va_G} {ad : Nat → Nat} {cA : Nat → ClassId} {sd sv : Nat → Nat} {h : Hp} {N : Nat} {a1 a2 a3 a4 a5 : Int} {out : Hp} (hI : Inj97 ad) (hM : M_Md_once N h a1 a2 a3 a4 a5 = some out) : Met l y_Md_once (.code y_Md_once prog_13_method_48_code 6 none :: TT) (rmD 3) (PC D ad cA sd sv h [.ref (ad 83), .int (iZ a1), .int (iZ a2), .int (iZ a3), .int (iZ a4), .int (iZ a5)]) (QV D ad cA out) 0 0 (FA ad) := by
  unfold M_Md_once at hM
  refine entM (by decide +kernel) hI (Nat.le_of_ble_eq_true rfl) ?_
  intro p e s m args below meth c C hr hlk hP ls hl
  have C : Cx p s m args c prog_13_method_48_code 6 "FeastBookModel" D ad cA sd sv (FA ad) := C
  have hl : lv_has ls 6 [(0, .ref (ad 83)), (1, .int (iZ a1)), (2, .int (iZ a2)), (3, .int (iZ a3)), (4, .int (iZ a4)), (5, .int (iZ a5))] := hl
  have w : Wd s D ad cA (FA ad) h s.heap [] := ⟨hP, va_S.rf⟩
  refine m_aload_n C hl 0 d_Md_once_0 rfl rfl ?_
  refine m_geti C w.1 kc_Md sh_83 (Nat.le_of_ble_eq_true rfl) 12 rfl (by decide) fk_Md_208 d_Md_once_1 ?_
  refine m_iload_n C hl 1 d_Md_once_4 rfl rfl ?_
  refine m_ishr C d_Md_once_5 ?_
  refine m_iconst C d_Md_once_6 ?_
  refine m_iand C d_Md_once_7 ?_
  refine m_iconst C d_Md_once_8 ?_
  refine lt_join hM (fun j3 ej hM => ?_)
  have hJ3 : ∀ (h_3 : Hp), j3 h_3 = some out → ∀ (H : Heap) (locs : List Loc), Wd s D ad cA (FA ad) h_3 H locs → ∀ ls : Array Slot, lv_has ls 6 [(0, .ref (ad 83)), (1, .int (iZ a1)), (2, .int (iZ a2)), (3, .int (iZ a3)), (4, .int (iZ a4)), (5, .int (iZ a5))] → W p l e (rmD 3) s m args below meth c H locs 0 0 (MQ below (QV D ad cA out) args s 0 0 (FA ad)) (F0 m 17 ls []) := by
    intro h_3 hM H locs w ls hl
    subst ej
    dsimp only at hM
    refine m_aload_n C hl 0 d_Md_once_17 rfl rfl ?_
    refine m_dup C d_Md_once_18 rfl ?_
    refine m_geti C w.1 kc_Md sh_83 (Nat.le_of_ble_eq_true rfl) 12 rfl (by decide) fk_Md_208 d_Md_once_19 ?_
    refine m_iconst C d_Md_once_22 ?_
    refine m_iload_n C hl 1 d_Md_once_23 rfl rfl ?_
    refine m_ishl C d_Md_once_24 ?_
    refine m_ior C d_Md_once_25 ?_
    refine m_puti C w kc_Md sh_83 (Nat.le_of_ble_eq_true rfl) 12 hM rfl (by decide) rfl rfl fk_Md_208 d_Md_once_26 (fun h4 H locs w hM => ?_)
    refine m_aload_n C hl 0 d_Md_once_29 rfl rfl ?_
    refine m_getr C w.1 kc_Md sh_83 (Nat.le_of_ble_eq_true rfl) 11 88 rfl (by decide) fk_Md_26 d_Md_once_30 ?_
    refine m_iload_n C hl 3 d_Md_once_33 rfl rfl ?_
    refine m_aload_n C hl 0 d_Md_once_34 rfl rfl ?_
    refine m_iload C hl 4 d_Md_once_35 rfl ?_
    refine m_iload C hl 5 d_Md_once_37 rfl ?_
    obtain ⟨q6, e5, hM⟩ := bnd_some hM
    refine aftI C w (runV C w.1 w.2 kc_Md sh_83 (Nat.le_of_ble_eq_true rfl) (c_Md_number hI e5) lk_Md_198 mb_Md_number rfl ⟨Nat.le_of_ble_eq_true rfl, Nat.le_of_ble_eq_true rfl⟩ ⟨Nat.zero_le _, Nat.zero_le _⟩ (Nat.le_of_ble_eq_true rfl) d_Md_once_39 hl.1 (rest := [.int (iZ a3), .ref (ad 88)]) rfl) (fun H locs w => ?_)
    refine m_iast C w sh_88 (Nat.le_of_ble_eq_true rfl) (Nat.le_of_ble_eq_true rfl) hM d_Md_once_42 (fun h7 H locs w hM => ?_)
    exact m_vretW C w hr hlk hM d_Md_once_43
  refine m_icmp_ne C hM 17 d_Md_once_9 (by decide) (fun hM => ?_) (fun hM => ?_)
  · exact hJ3 h hM _ _ w _ hl
  · refine m_aload_n C hl 0 d_Md_once_12 rfl rfl ?_
    refine m_iload_n C hl 2 d_Md_once_13 rfl rfl ?_
    obtain ⟨h9, e8, hM⟩ := bnd_some hM
    refine aftV C w (runV C w.1 w.2 kc_Md sh_83 (Nat.le_of_ble_eq_true rfl) (c_Md_wrong hI e8) lk_Md_186 mb_Md_wrong rfl ⟨Nat.le_of_ble_eq_true rfl, Nat.le_of_ble_eq_true rfl⟩ ⟨Nat.zero_le _, Nat.zero_le _⟩ (Nat.le_of_ble_eq_true rfl) d_Md_once_14 hl.1 (rest := []) rfl) (fun H locs w => ?_)
    exact hJ3 h9 hM _ _ w _ hl
def y_Md_fastLine : MethodName := ⟨"FeastBookModel", "fastLine", "()V"⟩
theorem d_Md_fastLine_0 : decode prog_13_method_53_code 0 = .ok (.aload_n 0, 1) := by decide +kernel
theorem d_Md_fastLine_1 : decode prog_13_method_53_code 1 = .ok (.invokevirtual 169, 3) := by decide +kernel
theorem d_Md_fastLine_4 : decode prog_13_method_53_code 4 = .ok (.istore_n 1, 1) := by decide +kernel
theorem d_Md_fastLine_5 : decode prog_13_method_53_code 5 = .ok (.aload_n 0, 1) := by decide +kernel
theorem d_Md_fastLine_6 : decode prog_13_method_53_code 6 = .ok (.iconst 0, 1) := by decide +kernel
theorem d_Md_fastLine_7 : decode prog_13_method_53_code 7 = .ok (.aload_n 0, 1) := by decide +kernel
theorem d_Md_fastLine_8 : decode prog_13_method_53_code 8 = .ok (.getfield 26, 3) := by decide +kernel
theorem d_Md_fastLine_11 : decode prog_13_method_53_code 11 = .ok (.iconst 0, 1) := by decide +kernel
theorem d_Md_fastLine_12 : decode prog_13_method_53_code 12 = .ok (.iaload, 1) := by decide +kernel
theorem d_Md_fastLine_13 : decode prog_13_method_53_code 13 = .ok (.iconst 1, 1) := by decide +kernel
theorem d_Md_fastLine_14 : decode prog_13_method_53_code 14 = .ok (.isub, 1) := by decide +kernel
theorem d_Md_fastLine_15 : decode prog_13_method_53_code 15 = .ok (.invokevirtual 198, 3) := by decide +kernel
theorem d_Md_fastLine_18 : decode prog_13_method_53_code 18 = .ok (.istore_n 2, 1) := by decide +kernel
theorem d_Md_fastLine_19 : decode prog_13_method_53_code 19 = .ok (.aload_n 0, 1) := by decide +kernel
theorem d_Md_fastLine_20 : decode prog_13_method_53_code 20 = .ok (.getfield 22, 3) := by decide +kernel
theorem d_Md_fastLine_23 : decode prog_13_method_53_code 23 = .ok (.iconst (-1), 1) := by decide +kernel
theorem d_Md_fastLine_24 : decode prog_13_method_53_code 24 = .ok (.if_icmp .eq 4, 3) := by decide +kernel
theorem d_Md_fastLine_27 : decode prog_13_method_53_code 27 = .ok (.return_, 1) := by decide +kernel
theorem d_Md_fastLine_28 : decode prog_13_method_53_code 28 = .ok (.aload_n 0, 1) := by decide +kernel
theorem d_Md_fastLine_29 : decode prog_13_method_53_code 29 = .ok (.getfield 26, 3) := by decide +kernel
theorem d_Md_fastLine_32 : decode prog_13_method_53_code 32 = .ok (.bipush 17, 2) := by decide +kernel
theorem d_Md_fastLine_34 : decode prog_13_method_53_code 34 = .ok (.iaload, 1) := by decide +kernel
theorem d_Md_fastLine_35 : decode prog_13_method_53_code 35 = .ok (.iload_n 2, 1) := by decide +kernel
theorem d_Md_fastLine_36 : decode prog_13_method_53_code 36 = .ok (.ishr, 1) := by decide +kernel
theorem d_Md_fastLine_37 : decode prog_13_method_53_code 37 = .ok (.iconst 1, 1) := by decide +kernel
theorem d_Md_fastLine_38 : decode prog_13_method_53_code 38 = .ok (.iand, 1) := by decide +kernel
theorem d_Md_fastLine_39 : decode prog_13_method_53_code 39 = .ok (.iconst 1, 1) := by decide +kernel
theorem d_Md_fastLine_40 : decode prog_13_method_53_code 40 = .ok (.if_icmp .ne 8, 3) := by decide +kernel
theorem d_Md_fastLine_43 : decode prog_13_method_53_code 43 = .ok (.aload_n 0, 1) := by decide +kernel
theorem d_Md_fastLine_44 : decode prog_13_method_53_code 44 = .ok (.iload_n 1, 1) := by decide +kernel
theorem d_Md_fastLine_45 : decode prog_13_method_53_code 45 = .ok (.invokevirtual 186, 3) := by decide +kernel
theorem d_Md_fastLine_48 : decode prog_13_method_53_code 48 = .ok (.aload_n 0, 1) := by decide +kernel
theorem d_Md_fastLine_49 : decode prog_13_method_53_code 49 = .ok (.getfield 26, 3) := by decide +kernel
theorem d_Md_fastLine_52 : decode prog_13_method_53_code 52 = .ok (.bipush 17, 2) := by decide +kernel
theorem d_Md_fastLine_54 : decode prog_13_method_53_code 54 = .ok (.dup2, 1) := by decide +kernel
theorem d_Md_fastLine_55 : decode prog_13_method_53_code 55 = .ok (.iaload, 1) := by decide +kernel
theorem d_Md_fastLine_56 : decode prog_13_method_53_code 56 = .ok (.iconst 1, 1) := by decide +kernel
theorem d_Md_fastLine_57 : decode prog_13_method_53_code 57 = .ok (.iload_n 2, 1) := by decide +kernel
theorem d_Md_fastLine_58 : decode prog_13_method_53_code 58 = .ok (.ishl, 1) := by decide +kernel
theorem d_Md_fastLine_59 : decode prog_13_method_53_code 59 = .ok (.ior, 1) := by decide +kernel
theorem d_Md_fastLine_60 : decode prog_13_method_53_code 60 = .ok (.iastore, 1) := by decide +kernel
theorem d_Md_fastLine_61 : decode prog_13_method_53_code 61 = .ok (.return_, 1) := by decide +kernel
set_option maxHeartbeats 4000000 in
set_option maxRecDepth 100000 in
theorem c_Md_fastLine {l : Launch} {D : va_G} {ad : Nat → Nat} {cA : Nat → ClassId} {sd sv : Nat → Nat} {h : Hp} {N : Nat} {out : Hp} (hI : Inj97 ad) (hM : M_Md_fastLine N h = some out) : Met l y_Md_fastLine (.code y_Md_fastLine prog_13_method_53_code 3 none :: TT) (rmD 3) (PC D ad cA sd sv h [.ref (ad 83)]) (QV D ad cA out) 0 0 (FA ad) := by
  unfold M_Md_fastLine at hM
  refine entM (by decide +kernel) hI (Nat.le_of_ble_eq_true rfl) ?_
  intro p e s m args below meth c C hr hlk hP ls hl
  have C : Cx p s m args c prog_13_method_53_code 3 "FeastBookModel" D ad cA sd sv (FA ad) := C
  have hl : lv_has ls 3 [(0, .ref (ad 83))] := hl
  have w : Wd s D ad cA (FA ad) h s.heap [] := ⟨hP, va_S.rf⟩
  refine m_aload_n C hl 0 d_Md_fastLine_0 rfl rfl ?_
  obtain ⟨q2, e1, hM⟩ := bnd_some hM
  refine aftI C w (runV C w.1 w.2 kc_Md sh_83 (Nat.le_of_ble_eq_true rfl) (c_Md_here hI e1) lk_Md_169 mb_Md_here rfl ⟨Nat.le_of_ble_eq_true rfl, Nat.le_of_ble_eq_true rfl⟩ ⟨Nat.zero_le _, Nat.zero_le _⟩ (Nat.le_of_ble_eq_true rfl) d_Md_fastLine_1 hl.1 (rest := []) rfl) (fun H locs w => ?_)
  refine m_istore_n C hl [(1, .int (iZ q2.1)), (0, .ref (ad 83))] d_Md_fastLine_4 rfl (by decide) rfl (fun ls hl => ?_)
  refine m_aload_n C hl 1 d_Md_fastLine_5 rfl rfl ?_
  refine m_iconst C d_Md_fastLine_6 ?_
  refine m_aload_n C hl 1 d_Md_fastLine_7 rfl rfl ?_
  refine m_getr C w.1 kc_Md sh_83 (Nat.le_of_ble_eq_true rfl) 11 88 rfl (by decide) fk_Md_26 d_Md_fastLine_8 ?_
  refine m_iconst C d_Md_fastLine_11 ?_
  refine m_iald C w.1 sh_88 (Nat.le_of_ble_eq_true rfl) (Nat.le_of_ble_eq_true rfl) hM d_Md_fastLine_12 (fun x3 hM => ?_)
  refine m_iconst C d_Md_fastLine_13 ?_
  refine m_isub C d_Md_fastLine_14 ?_
  obtain ⟨q5, e4, hM⟩ := bnd_some hM
  refine aftI C w (runV C w.1 w.2 kc_Md sh_83 (Nat.le_of_ble_eq_true rfl) (c_Md_number hI e4) lk_Md_198 mb_Md_number rfl ⟨Nat.le_of_ble_eq_true rfl, Nat.le_of_ble_eq_true rfl⟩ ⟨Nat.zero_le _, Nat.zero_le _⟩ (Nat.le_of_ble_eq_true rfl) d_Md_fastLine_15 hl.1 (rest := []) rfl) (fun H locs w => ?_)
  refine m_istore_n C hl [(2, .int (iZ q5.1)), (1, .int (iZ q2.1)), (0, .ref (ad 83))] d_Md_fastLine_18 rfl (by decide) rfl (fun ls hl => ?_)
  refine m_aload_n C hl 2 d_Md_fastLine_19 rfl rfl ?_
  refine m_geti C w.1 kc_Md sh_83 (Nat.le_of_ble_eq_true rfl) 10 rfl (by decide) fk_Md_22 d_Md_fastLine_20 ?_
  refine m_iconst C d_Md_fastLine_23 ?_
  refine m_icmp_eq C hM 28 d_Md_fastLine_24 (by decide) (fun hM => ?_) (fun hM => ?_)
  · refine m_aload_n C hl 2 d_Md_fastLine_28 rfl rfl ?_
    refine m_getr C w.1 kc_Md sh_83 (Nat.le_of_ble_eq_true rfl) 11 88 rfl (by decide) fk_Md_26 d_Md_fastLine_29 ?_
    refine m_bipush C d_Md_fastLine_32 (by decide) ?_
    refine m_iald C w.1 sh_88 (Nat.le_of_ble_eq_true rfl) (Nat.le_of_ble_eq_true rfl) hM d_Md_fastLine_34 (fun x6 hM => ?_)
    refine m_iload_n C hl 0 d_Md_fastLine_35 rfl rfl ?_
    refine m_ishr C d_Md_fastLine_36 ?_
    refine m_iconst C d_Md_fastLine_37 ?_
    refine m_iand C d_Md_fastLine_38 ?_
    refine m_iconst C d_Md_fastLine_39 ?_
    refine m_icmp_ne C hM 48 d_Md_fastLine_40 (by decide) (fun hM => ?_) (fun hM => ?_)
    · refine m_aload_n C hl 2 d_Md_fastLine_48 rfl rfl ?_
      refine m_getr C w.1 kc_Md sh_83 (Nat.le_of_ble_eq_true rfl) 11 88 rfl (by decide) fk_Md_26 d_Md_fastLine_49 ?_
      refine m_bipush C d_Md_fastLine_52 (by decide) ?_
      refine m_dup2 C d_Md_fastLine_54 rfl rfl ?_
      refine m_iald C w.1 sh_88 (Nat.le_of_ble_eq_true rfl) (Nat.le_of_ble_eq_true rfl) hM d_Md_fastLine_55 (fun x7 hM => ?_)
      refine m_iconst C d_Md_fastLine_56 ?_
      refine m_iload_n C hl 0 d_Md_fastLine_57 rfl rfl ?_
      refine m_ishl C d_Md_fastLine_58 ?_
      refine m_ior C d_Md_fastLine_59 ?_
      refine m_iast C w sh_88 (Nat.le_of_ble_eq_true rfl) (Nat.le_of_ble_eq_true rfl) hM d_Md_fastLine_60 (fun h8 H locs w hM => ?_)
      exact m_vretW C w hr hlk hM d_Md_fastLine_61
    · refine m_aload_n C hl 2 d_Md_fastLine_43 rfl rfl ?_
      refine m_iload_n C hl 1 d_Md_fastLine_44 rfl rfl ?_
      obtain ⟨h10, e9, hM⟩ := bnd_some hM
      refine aftV C w (runV C w.1 w.2 kc_Md sh_83 (Nat.le_of_ble_eq_true rfl) (c_Md_wrong hI e9) lk_Md_186 mb_Md_wrong rfl ⟨Nat.le_of_ble_eq_true rfl, Nat.le_of_ble_eq_true rfl⟩ ⟨Nat.zero_le _, Nat.zero_le _⟩ (Nat.le_of_ble_eq_true rfl) d_Md_fastLine_45 hl.1 (rest := []) rfl) (fun H locs w => ?_)
      refine m_aload_n C hl 2 d_Md_fastLine_48 rfl rfl ?_
      refine m_getr C w.1 kc_Md sh_83 (Nat.le_of_ble_eq_true rfl) 11 88 rfl (by decide) fk_Md_26 d_Md_fastLine_49 ?_
      refine m_bipush C d_Md_fastLine_52 (by decide) ?_
      refine m_dup2 C d_Md_fastLine_54 rfl rfl ?_
      refine m_iald C w.1 sh_88 (Nat.le_of_ble_eq_true rfl) (Nat.le_of_ble_eq_true rfl) hM d_Md_fastLine_55 (fun x11 hM => ?_)
      refine m_iconst C d_Md_fastLine_56 ?_
      refine m_iload_n C hl 0 d_Md_fastLine_57 rfl rfl ?_
      refine m_ishl C d_Md_fastLine_58 ?_
      refine m_ior C d_Md_fastLine_59 ?_
      refine m_iast C w sh_88 (Nat.le_of_ble_eq_true rfl) (Nat.le_of_ble_eq_true rfl) hM d_Md_fastLine_60 (fun h12 H locs w hM => ?_)
      exact m_vretW C w hr hlk hM d_Md_fastLine_61
  · exact m_vretW C w hr hlk hM d_Md_fastLine_27
def y_Md_signed : MethodName := ⟨"FeastBookModel", "signed", "(I)I"⟩
theorem d_Md_signed_0 : decode prog_13_method_46_code 0 = .ok (.aload_n 0, 1) := by decide +kernel
theorem d_Md_signed_1 : decode prog_13_method_46_code 1 = .ok (.getfield 22, 3) := by decide +kernel
theorem d_Md_signed_4 : decode prog_13_method_46_code 4 = .ok (.iconst (-1), 1) := by decide +kernel
theorem d_Md_signed_5 : decode prog_13_method_46_code 5 = .ok (.if_icmp .eq 5, 3) := by decide +kernel
theorem d_Md_signed_8 : decode prog_13_method_46_code 8 = .ok (.iconst 0, 1) := by decide +kernel
theorem d_Md_signed_9 : decode prog_13_method_46_code 9 = .ok (.ireturn, 1) := by decide +kernel
theorem d_Md_signed_10 : decode prog_13_method_46_code 10 = .ok (.aload_n 0, 1) := by decide +kernel
theorem d_Md_signed_11 : decode prog_13_method_46_code 11 = .ok (.invokevirtual 169, 3) := by decide +kernel
theorem d_Md_signed_14 : decode prog_13_method_46_code 14 = .ok (.istore_n 2, 1) := by decide +kernel
theorem d_Md_signed_15 : decode prog_13_method_46_code 15 = .ok (.aload_n 0, 1) := by decide +kernel
theorem d_Md_signed_16 : decode prog_13_method_46_code 16 = .ok (.getfield 163, 3) := by decide +kernel
theorem d_Md_signed_19 : decode prog_13_method_46_code 19 = .ok (.aload_n 0, 1) := by decide +kernel
theorem d_Md_signed_20 : decode prog_13_method_46_code 20 = .ok (.getfield 166, 3) := by decide +kernel
theorem d_Md_signed_23 : decode prog_13_method_46_code 23 = .ok (.if_icmp .ge 21, 3) := by decide +kernel
theorem d_Md_signed_26 : decode prog_13_method_46_code 26 = .ok (.aload_n 0, 1) := by decide +kernel
theorem d_Md_signed_27 : decode prog_13_method_46_code 27 = .ok (.getfield 19, 3) := by decide +kernel
theorem d_Md_signed_30 : decode prog_13_method_46_code 30 = .ok (.aload_n 0, 1) := by decide +kernel
theorem d_Md_signed_31 : decode prog_13_method_46_code 31 = .ok (.getfield 163, 3) := by decide +kernel
theorem d_Md_signed_34 : decode prog_13_method_46_code 34 = .ok (.iaload, 1) := by decide +kernel
theorem d_Md_signed_35 : decode prog_13_method_46_code 35 = .ok (.bipush 45, 2) := by decide +kernel
theorem d_Md_signed_37 : decode prog_13_method_46_code 37 = .ok (.if_icmp .ne 7, 3) := by decide +kernel
theorem d_Md_signed_40 : decode prog_13_method_46_code 40 = .ok (.iconst 1, 1) := by decide +kernel
theorem d_Md_signed_41 : decode prog_13_method_46_code 41 = .ok (.goto 4, 3) := by decide +kernel
theorem d_Md_signed_44 : decode prog_13_method_46_code 44 = .ok (.iconst 0, 1) := by decide +kernel
theorem d_Md_signed_45 : decode prog_13_method_46_code 45 = .ok (.istore_n 3, 1) := by decide +kernel
theorem d_Md_signed_46 : decode prog_13_method_46_code 46 = .ok (.iload_n 3, 1) := by decide +kernel
theorem d_Md_signed_47 : decode prog_13_method_46_code 47 = .ok (.ifCond .eq 13, 3) := by decide +kernel
theorem d_Md_signed_50 : decode prog_13_method_46_code 50 = .ok (.aload_n 0, 1) := by decide +kernel
theorem d_Md_signed_51 : decode prog_13_method_46_code 51 = .ok (.dup, 1) := by decide +kernel
theorem d_Md_signed_52 : decode prog_13_method_46_code 52 = .ok (.getfield 163, 3) := by decide +kernel
theorem d_Md_signed_55 : decode prog_13_method_46_code 55 = .ok (.iconst 1, 1) := by decide +kernel
theorem d_Md_signed_56 : decode prog_13_method_46_code 56 = .ok (.iadd, 1) := by decide +kernel
theorem d_Md_signed_57 : decode prog_13_method_46_code 57 = .ok (.putfield 163, 3) := by decide +kernel
theorem d_Md_signed_60 : decode prog_13_method_46_code 60 = .ok (.aload_n 0, 1) := by decide +kernel
theorem d_Md_signed_61 : decode prog_13_method_46_code 61 = .ok (.iload_n 2, 1) := by decide +kernel
theorem d_Md_signed_62 : decode prog_13_method_46_code 62 = .ok (.invokevirtual 189, 3) := by decide +kernel
theorem d_Md_signed_65 : decode prog_13_method_46_code 65 = .ok (.istore 4, 2) := by decide +kernel
theorem d_Md_signed_67 : decode prog_13_method_46_code 67 = .ok (.iload_n 3, 1) := by decide +kernel
theorem d_Md_signed_68 : decode prog_13_method_46_code 68 = .ok (.ifCond .eq 9, 3) := by decide +kernel
theorem d_Md_signed_71 : decode prog_13_method_46_code 71 = .ok (.iload 4, 2) := by decide +kernel
theorem d_Md_signed_73 : decode prog_13_method_46_code 73 = .ok (.ineg, 1) := by decide +kernel
theorem d_Md_signed_74 : decode prog_13_method_46_code 74 = .ok (.goto 5, 3) := by decide +kernel
theorem d_Md_signed_77 : decode prog_13_method_46_code 77 = .ok (.iload 4, 2) := by decide +kernel
theorem d_Md_signed_79 : decode prog_13_method_46_code 79 = .ok (.istore 4, 2) := by decide +kernel
theorem d_Md_signed_81 : decode prog_13_method_46_code 81 = .ok (.iload 4, 2) := by decide +kernel
theorem d_Md_signed_83 : decode prog_13_method_46_code 83 = .ok (.iload_n 1, 1) := by decide +kernel
theorem d_Md_signed_84 : decode prog_13_method_46_code 84 = .ok (.if_icmp .ge 8, 3) := by decide +kernel
theorem d_Md_signed_87 : decode prog_13_method_46_code 87 = .ok (.aload_n 0, 1) := by decide +kernel
theorem d_Md_signed_88 : decode prog_13_method_46_code 88 = .ok (.iload_n 2, 1) := by decide +kernel
theorem d_Md_signed_89 : decode prog_13_method_46_code 89 = .ok (.invokevirtual 186, 3) := by decide +kernel
theorem d_Md_signed_92 : decode prog_13_method_46_code 92 = .ok (.iload 4, 2) := by decide +kernel
theorem d_Md_signed_94 : decode prog_13_method_46_code 94 = .ok (.ireturn, 1) := by decide +kernel
set_option maxHeartbeats 4000000 in
set_option maxRecDepth 100000 in
theorem c_Md_signed {l : Launch} {D : va_G} {ad : Nat → Nat} {cA : Nat → ClassId} {sd sv : Nat → Nat} {h : Hp} {N : Nat} {a1 : Int} {out : (Int × Hp)} (hI : Inj97 ad) (hM : M_Md_signed N h a1 = some out) : Met l y_Md_signed (.code y_Md_signed prog_13_method_46_code 5 (some .int) :: TT) (rmD 2) (PC D ad cA sd sv h [.ref (ad 83), .int (iZ a1)]) (QI D ad cA out) 0 0 (FA ad) := by
  unfold M_Md_signed at hM
  refine entM (by decide +kernel) hI (Nat.le_of_ble_eq_true rfl) ?_
  intro p e s m args below meth c C hr hlk hP ls hl
  have C : Cx p s m args c prog_13_method_46_code 5 "FeastBookModel" D ad cA sd sv (FA ad) := C
  have hl : lv_has ls 5 [(0, .ref (ad 83)), (1, .int (iZ a1))] := hl
  have w : Wd s D ad cA (FA ad) h s.heap [] := ⟨hP, va_S.rf⟩
  refine m_aload_n C hl 0 d_Md_signed_0 rfl rfl ?_
  refine m_geti C w.1 kc_Md sh_83 (Nat.le_of_ble_eq_true rfl) 10 rfl (by decide) fk_Md_22 d_Md_signed_1 ?_
  refine m_iconst C d_Md_signed_4 ?_
  refine m_icmp_eq C hM 10 d_Md_signed_5 (by decide) (fun hM => ?_) (fun hM => ?_)
  · refine m_aload_n C hl 0 d_Md_signed_10 rfl rfl ?_
    obtain ⟨q2, e1, hM⟩ := bnd_some hM
    refine aftI C w (runV C w.1 w.2 kc_Md sh_83 (Nat.le_of_ble_eq_true rfl) (c_Md_here hI e1) lk_Md_169 mb_Md_here rfl ⟨Nat.le_of_ble_eq_true rfl, Nat.le_of_ble_eq_true rfl⟩ ⟨Nat.zero_le _, Nat.zero_le _⟩ (Nat.le_of_ble_eq_true rfl) d_Md_signed_11 hl.1 (rest := []) rfl) (fun H locs w => ?_)
    refine m_istore_n C hl [(2, .int (iZ q2.1)), (0, .ref (ad 83)), (1, .int (iZ a1))] d_Md_signed_14 rfl (by decide) rfl (fun ls hl => ?_)
    refine m_aload_n C hl 1 d_Md_signed_15 rfl rfl ?_
    refine m_geti C w.1 kc_Md sh_83 (Nat.le_of_ble_eq_true rfl) 9 rfl (by decide) fk_Md_163 d_Md_signed_16 ?_
    refine m_aload_n C hl 1 d_Md_signed_19 rfl rfl ?_
    refine m_geti C w.1 kc_Md sh_83 (Nat.le_of_ble_eq_true rfl) 8 rfl (by decide) fk_Md_166 d_Md_signed_20 ?_
    refine lt_join hM (fun j4 ej hM => ?_)
    have hJ4 : ∀ (s0_4 : Int), j4 s0_4 = some out → ∀ ls : Array Slot, lv_has ls 5 [(0, .ref (ad 83)), (1, .int (iZ a1)), (2, .int (iZ q2.1))] → W p l e (rmD 2) s m args below meth c H locs 0 0 (MQ below (QI D ad cA out) args s 0 0 (FA ad)) (F0 m 45 ls [.int (iZ s0_4)]) := by
      intro s0_4 hM ls hl
      subst ej
      dsimp only at hM
      refine m_istore_n C hl [(3, .int (iZ s0_4)), (0, .ref (ad 83)), (1, .int (iZ a1)), (2, .int (iZ q2.1))] d_Md_signed_45 rfl (by decide) rfl (fun ls hl => ?_)
      refine m_iload_n C hl 0 d_Md_signed_46 rfl rfl ?_
      refine lt_join hM (fun j6 ej hM => ?_)
      have hJ6 : ∀ (h_6 : Hp), j6 h_6 = some out → ∀ (H : Heap) (locs : List Loc), Wd s D ad cA (FA ad) h_6 H locs → ∀ ls : Array Slot, lv_has ls 5 [(0, .ref (ad 83)), (1, .int (iZ a1)), (2, .int (iZ q2.1)), (3, .int (iZ s0_4))] → W p l e (rmD 2) s m args below meth c H locs 0 0 (MQ below (QI D ad cA out) args s 0 0 (FA ad)) (F0 m 60 ls []) := by
        intro h_6 hM H locs w ls hl
        subst ej
        dsimp only at hM
        refine m_aload_n C hl 0 d_Md_signed_60 rfl rfl ?_
        refine m_iload_n C hl 2 d_Md_signed_61 rfl rfl ?_
        obtain ⟨q8, e7, hM⟩ := bnd_some hM
        refine aftI C w (runV C w.1 w.2 kc_Md sh_83 (Nat.le_of_ble_eq_true rfl) (c_Md_figures hI e7) lk_Md_189 mb_Md_figures rfl ⟨Nat.le_of_ble_eq_true rfl, Nat.le_of_ble_eq_true rfl⟩ ⟨Nat.zero_le _, Nat.zero_le _⟩ (Nat.le_of_ble_eq_true rfl) d_Md_signed_62 hl.1 (rest := []) rfl) (fun H locs w => ?_)
        refine m_istore C hl [(4, .int (iZ q8.1)), (0, .ref (ad 83)), (1, .int (iZ a1)), (2, .int (iZ q2.1)), (3, .int (iZ s0_4))] d_Md_signed_65 (by decide) rfl (fun ls hl => ?_)
        refine m_iload_n C hl 4 d_Md_signed_67 rfl rfl ?_
        refine m_if_eq C hM 77 d_Md_signed_68 (by decide) (fun hM => ?_) (fun hM => ?_)
        · refine m_iload C hl 0 d_Md_signed_77 rfl ?_
          refine m_istore C hl [(4, .int (iZ q8.1)), (0, .ref (ad 83)), (1, .int (iZ a1)), (2, .int (iZ q2.1)), (3, .int (iZ s0_4))] d_Md_signed_79 (by decide) rfl (fun ls hl => ?_)
          refine m_iload C hl 0 d_Md_signed_81 rfl ?_
          refine m_iload_n C hl 2 d_Md_signed_83 rfl rfl ?_
          refine m_icmp_ge C hM 92 d_Md_signed_84 (by decide) (fun hM => ?_) (fun hM => ?_)
          · refine m_iload C hl 0 d_Md_signed_92 rfl ?_
            exact m_iretW C w hr hlk hM d_Md_signed_94
          · refine m_aload_n C hl 1 d_Md_signed_87 rfl rfl ?_
            refine m_iload_n C hl 3 d_Md_signed_88 rfl rfl ?_
            obtain ⟨h10, e9, hM⟩ := bnd_some hM
            refine aftV C w (runV C w.1 w.2 kc_Md sh_83 (Nat.le_of_ble_eq_true rfl) (c_Md_wrong hI e9) lk_Md_186 mb_Md_wrong rfl ⟨Nat.le_of_ble_eq_true rfl, Nat.le_of_ble_eq_true rfl⟩ ⟨Nat.zero_le _, Nat.zero_le _⟩ (Nat.le_of_ble_eq_true rfl) d_Md_signed_89 hl.1 (rest := []) rfl) (fun H locs w => ?_)
            refine m_iload C hl 0 d_Md_signed_92 rfl ?_
            exact m_iretW C w hr hlk hM d_Md_signed_94
        · refine m_iload C hl 0 d_Md_signed_71 rfl ?_
          refine m_ineg C d_Md_signed_73 ?_
          refine m_goto C 79 d_Md_signed_74 (by decide) ?_
          refine m_istore C hl [(4, .int (iZ (-q8.1))), (0, .ref (ad 83)), (1, .int (iZ a1)), (2, .int (iZ q2.1)), (3, .int (iZ s0_4))] d_Md_signed_79 (by decide) rfl (fun ls hl => ?_)
          refine m_iload C hl 0 d_Md_signed_81 rfl ?_
          refine m_iload_n C hl 2 d_Md_signed_83 rfl rfl ?_
          refine m_icmp_ge C hM 92 d_Md_signed_84 (by decide) (fun hM => ?_) (fun hM => ?_)
          · refine m_iload C hl 0 d_Md_signed_92 rfl ?_
            exact m_iretW C w hr hlk hM d_Md_signed_94
          · refine m_aload_n C hl 1 d_Md_signed_87 rfl rfl ?_
            refine m_iload_n C hl 3 d_Md_signed_88 rfl rfl ?_
            obtain ⟨h12, e11, hM⟩ := bnd_some hM
            refine aftV C w (runV C w.1 w.2 kc_Md sh_83 (Nat.le_of_ble_eq_true rfl) (c_Md_wrong hI e11) lk_Md_186 mb_Md_wrong rfl ⟨Nat.le_of_ble_eq_true rfl, Nat.le_of_ble_eq_true rfl⟩ ⟨Nat.zero_le _, Nat.zero_le _⟩ (Nat.le_of_ble_eq_true rfl) d_Md_signed_89 hl.1 (rest := []) rfl) (fun H locs w => ?_)
            refine m_iload C hl 0 d_Md_signed_92 rfl ?_
            exact m_iretW C w hr hlk hM d_Md_signed_94
      refine m_if_eq C hM 60 d_Md_signed_47 (by decide) (fun hM => ?_) (fun hM => ?_)
      · exact hJ6 q2.2 hM _ _ w _ (lv_sub hl [1, 2, 3, 0] rfl)
      · refine m_aload_n C hl 1 d_Md_signed_50 rfl rfl ?_
        refine m_dup C d_Md_signed_51 rfl ?_
        refine m_geti C w.1 kc_Md sh_83 (Nat.le_of_ble_eq_true rfl) 9 rfl (by decide) fk_Md_163 d_Md_signed_52 ?_
        refine m_iconst C d_Md_signed_55 ?_
        refine m_iadd C d_Md_signed_56 ?_
        refine m_puti C w kc_Md sh_83 (Nat.le_of_ble_eq_true rfl) 9 hM rfl (by decide) rfl rfl fk_Md_163 d_Md_signed_57 (fun h13 H locs w hM => ?_)
        exact hJ6 h13 hM _ _ w _ (lv_sub hl [1, 2, 3, 0] rfl)
    refine m_icmp_ge C hM 44 d_Md_signed_23 (by decide) (fun hM => ?_) (fun hM => ?_)
    · refine m_iconst C d_Md_signed_44 ?_
      exact hJ4 0 hM _ (lv_sub hl [1, 2, 0] rfl)
    · refine m_aload_n C hl 1 d_Md_signed_26 rfl rfl ?_
      refine m_getr C w.1 kc_Md sh_83 (Nat.le_of_ble_eq_true rfl) 6 87 rfl (by decide) fk_Md_19 d_Md_signed_27 ?_
      refine m_aload_n C hl 1 d_Md_signed_30 rfl rfl ?_
      refine m_geti C w.1 kc_Md sh_83 (Nat.le_of_ble_eq_true rfl) 9 rfl (by decide) fk_Md_163 d_Md_signed_31 ?_
      refine m_iald C w.1 sh_87 (Nat.le_of_ble_eq_true rfl) (Nat.le_of_ble_eq_true rfl) hM d_Md_signed_34 (fun x14 hM => ?_)
      refine m_bipush C d_Md_signed_35 (by decide) ?_
      refine m_icmp_ne C hM 44 d_Md_signed_37 (by decide) (fun hM => ?_) (fun hM => ?_)
      · refine m_iconst C d_Md_signed_44 ?_
        exact hJ4 0 hM _ (lv_sub hl [1, 2, 0] rfl)
      · refine m_iconst C d_Md_signed_40 ?_
        refine m_goto C 45 d_Md_signed_41 (by decide) ?_
        exact hJ4 1 hM _ (lv_sub hl [1, 2, 0] rfl)
  · refine m_iconst C d_Md_signed_8 ?_
    exact m_iretW C w hr hlk hM d_Md_signed_9
def y_Md_seasonLine : MethodName := ⟨"FeastBookModel", "seasonLine", "(I)V"⟩
theorem d_Md_seasonLine_0 : decode prog_13_method_49_code 0 = .ok (.aload_n 0, 1) := by decide +kernel
theorem d_Md_seasonLine_1 : decode prog_13_method_49_code 1 = .ok (.getfield 26, 3) := by decide +kernel
theorem d_Md_seasonLine_4 : decode prog_13_method_49_code 4 = .ok (.bipush 20, 2) := by decide +kernel
theorem d_Md_seasonLine_6 : decode prog_13_method_49_code 6 = .ok (.iaload, 1) := by decide +kernel
theorem d_Md_seasonLine_7 : decode prog_13_method_49_code 7 = .ok (.iconst 4, 1) := by decide +kernel
theorem d_Md_seasonLine_8 : decode prog_13_method_49_code 8 = .ok (.if_icmp .ne 8, 3) := by decide +kernel
theorem d_Md_seasonLine_11 : decode prog_13_method_49_code 11 = .ok (.aload_n 0, 1) := by decide +kernel
theorem d_Md_seasonLine_12 : decode prog_13_method_49_code 12 = .ok (.iload_n 1, 1) := by decide +kernel
theorem d_Md_seasonLine_13 : decode prog_13_method_49_code 13 = .ok (.invokevirtual 186, 3) := by decide +kernel
theorem d_Md_seasonLine_16 : decode prog_13_method_49_code 16 = .ok (.aload_n 0, 1) := by decide +kernel
theorem d_Md_seasonLine_17 : decode prog_13_method_49_code 17 = .ok (.getfield 22, 3) := by decide +kernel
theorem d_Md_seasonLine_20 : decode prog_13_method_49_code 20 = .ok (.iconst (-1), 1) := by decide +kernel
theorem d_Md_seasonLine_21 : decode prog_13_method_49_code 21 = .ok (.if_icmp .eq 4, 3) := by decide +kernel
theorem d_Md_seasonLine_24 : decode prog_13_method_49_code 24 = .ok (.return_, 1) := by decide +kernel
theorem d_Md_seasonLine_25 : decode prog_13_method_49_code 25 = .ok (.bipush 21, 2) := by decide +kernel
theorem d_Md_seasonLine_27 : decode prog_13_method_49_code 27 = .ok (.iconst 3, 1) := by decide +kernel
theorem d_Md_seasonLine_28 : decode prog_13_method_49_code 28 = .ok (.aload_n 0, 1) := by decide +kernel
theorem d_Md_seasonLine_29 : decode prog_13_method_49_code 29 = .ok (.getfield 26, 3) := by decide +kernel
theorem d_Md_seasonLine_32 : decode prog_13_method_49_code 32 = .ok (.bipush 20, 2) := by decide +kernel
theorem d_Md_seasonLine_34 : decode prog_13_method_49_code 34 = .ok (.iaload, 1) := by decide +kernel
theorem d_Md_seasonLine_35 : decode prog_13_method_49_code 35 = .ok (.imul, 1) := by decide +kernel
theorem d_Md_seasonLine_36 : decode prog_13_method_49_code 36 = .ok (.iadd, 1) := by decide +kernel
theorem d_Md_seasonLine_37 : decode prog_13_method_49_code 37 = .ok (.istore_n 2, 1) := by decide +kernel
theorem d_Md_seasonLine_38 : decode prog_13_method_49_code 38 = .ok (.aload_n 0, 1) := by decide +kernel
theorem d_Md_seasonLine_39 : decode prog_13_method_49_code 39 = .ok (.getfield 26, 3) := by decide +kernel
theorem d_Md_seasonLine_42 : decode prog_13_method_49_code 42 = .ok (.iload_n 2, 1) := by decide +kernel
theorem d_Md_seasonLine_43 : decode prog_13_method_49_code 43 = .ok (.aload_n 0, 1) := by decide +kernel
theorem d_Md_seasonLine_44 : decode prog_13_method_49_code 44 = .ok (.bipush (-99), 2) := by decide +kernel
theorem d_Md_seasonLine_46 : decode prog_13_method_49_code 46 = .ok (.invokevirtual 211, 3) := by decide +kernel
theorem d_Md_seasonLine_49 : decode prog_13_method_49_code 49 = .ok (.iastore, 1) := by decide +kernel
theorem d_Md_seasonLine_50 : decode prog_13_method_49_code 50 = .ok (.aload_n 0, 1) := by decide +kernel
theorem d_Md_seasonLine_51 : decode prog_13_method_49_code 51 = .ok (.getfield 26, 3) := by decide +kernel
theorem d_Md_seasonLine_54 : decode prog_13_method_49_code 54 = .ok (.iload_n 2, 1) := by decide +kernel
theorem d_Md_seasonLine_55 : decode prog_13_method_49_code 55 = .ok (.iconst 1, 1) := by decide +kernel
theorem d_Md_seasonLine_56 : decode prog_13_method_49_code 56 = .ok (.iadd, 1) := by decide +kernel
theorem d_Md_seasonLine_57 : decode prog_13_method_49_code 57 = .ok (.aload_n 0, 1) := by decide +kernel
theorem d_Md_seasonLine_58 : decode prog_13_method_49_code 58 = .ok (.aload_n 0, 1) := by decide +kernel
theorem d_Md_seasonLine_59 : decode prog_13_method_49_code 59 = .ok (.getfield 26, 3) := by decide +kernel
theorem d_Md_seasonLine_62 : decode prog_13_method_49_code 62 = .ok (.iload_n 2, 1) := by decide +kernel
theorem d_Md_seasonLine_63 : decode prog_13_method_49_code 63 = .ok (.iaload, 1) := by decide +kernel
theorem d_Md_seasonLine_64 : decode prog_13_method_49_code 64 = .ok (.invokevirtual 211, 3) := by decide +kernel
theorem d_Md_seasonLine_67 : decode prog_13_method_49_code 67 = .ok (.iastore, 1) := by decide +kernel
theorem d_Md_seasonLine_68 : decode prog_13_method_49_code 68 = .ok (.aload_n 0, 1) := by decide +kernel
theorem d_Md_seasonLine_69 : decode prog_13_method_49_code 69 = .ok (.getfield 26, 3) := by decide +kernel
theorem d_Md_seasonLine_72 : decode prog_13_method_49_code 72 = .ok (.iload_n 2, 1) := by decide +kernel
theorem d_Md_seasonLine_73 : decode prog_13_method_49_code 73 = .ok (.iconst 2, 1) := by decide +kernel
theorem d_Md_seasonLine_74 : decode prog_13_method_49_code 74 = .ok (.iadd, 1) := by decide +kernel
theorem d_Md_seasonLine_75 : decode prog_13_method_49_code 75 = .ok (.aload_n 0, 1) := by decide +kernel
theorem d_Md_seasonLine_76 : decode prog_13_method_49_code 76 = .ok (.iconst 0, 1) := by decide +kernel
theorem d_Md_seasonLine_77 : decode prog_13_method_49_code 77 = .ok (.bipush 9, 2) := by decide +kernel
theorem d_Md_seasonLine_79 : decode prog_13_method_49_code 79 = .ok (.invokevirtual 198, 3) := by decide +kernel
theorem d_Md_seasonLine_82 : decode prog_13_method_49_code 82 = .ok (.iastore, 1) := by decide +kernel
theorem d_Md_seasonLine_83 : decode prog_13_method_49_code 83 = .ok (.aload_n 0, 1) := by decide +kernel
theorem d_Md_seasonLine_84 : decode prog_13_method_49_code 84 = .ok (.getfield 26, 3) := by decide +kernel
theorem d_Md_seasonLine_87 : decode prog_13_method_49_code 87 = .ok (.bipush 20, 2) := by decide +kernel
theorem d_Md_seasonLine_89 : decode prog_13_method_49_code 89 = .ok (.dup2, 1) := by decide +kernel
theorem d_Md_seasonLine_90 : decode prog_13_method_49_code 90 = .ok (.iaload, 1) := by decide +kernel
theorem d_Md_seasonLine_91 : decode prog_13_method_49_code 91 = .ok (.iconst 1, 1) := by decide +kernel
theorem d_Md_seasonLine_92 : decode prog_13_method_49_code 92 = .ok (.iadd, 1) := by decide +kernel
theorem d_Md_seasonLine_93 : decode prog_13_method_49_code 93 = .ok (.iastore, 1) := by decide +kernel
theorem d_Md_seasonLine_94 : decode prog_13_method_49_code 94 = .ok (.return_, 1) := by decide +kernel
theorem mb_Md_signed : MBv R_Md y_Md_signed prog_13_method_46_code 5 (some .int) 1 := ⟨mT9 18 (by decide +kernel) (by decide +kernel), mTs 26 (by decide +kernel) (by decide +kernel), mT1 10 (by decide +kernel) (by decide +kernel), mT9 19 (by decide +kernel) (by decide +kernel), by decide, rfl, by decide +kernel, by decide +kernel, by decide +kernel⟩
theorem lk_Md_211 : Cond.methodLink "FeastBookModel" 211 y_Md_signed ∈ TT := mT9 16 (by decide +kernel) (by decide +kernel)
set_option maxHeartbeats 4000000 in
set_option maxRecDepth 100000 in
theorem c_Md_seasonLine {l : Launch} {D : va_G} {ad : Nat → Nat} {cA : Nat → ClassId} {sd sv : Nat → Nat} {h : Hp} {N : Nat} {a1 : Int} {out : Hp} (hI : Inj97 ad) (hM : M_Md_seasonLine N h a1 = some out) : Met l y_Md_seasonLine (.code y_Md_seasonLine prog_13_method_49_code 3 none :: TT) (rmD 3) (PC D ad cA sd sv h [.ref (ad 83), .int (iZ a1)]) (QV D ad cA out) 0 0 (FA ad) := by
  unfold M_Md_seasonLine at hM
  refine entM (by decide +kernel) hI (Nat.le_of_ble_eq_true rfl) ?_
  intro p e s m args below meth c C hr hlk hP ls hl
  have C : Cx p s m args c prog_13_method_49_code 3 "FeastBookModel" D ad cA sd sv (FA ad) := C
  have hl : lv_has ls 3 [(0, .ref (ad 83)), (1, .int (iZ a1))] := hl
  have w : Wd s D ad cA (FA ad) h s.heap [] := ⟨hP, va_S.rf⟩
  refine m_aload_n C hl 0 d_Md_seasonLine_0 rfl rfl ?_
  refine m_getr C w.1 kc_Md sh_83 (Nat.le_of_ble_eq_true rfl) 11 88 rfl (by decide) fk_Md_26 d_Md_seasonLine_1 ?_
  refine m_bipush C d_Md_seasonLine_4 (by decide) ?_
  refine m_iald C w.1 sh_88 (Nat.le_of_ble_eq_true rfl) (Nat.le_of_ble_eq_true rfl) hM d_Md_seasonLine_6 (fun x1 hM => ?_)
  refine m_iconst C d_Md_seasonLine_7 ?_
  refine lt_join hM (fun j4 ej hM => ?_)
  have hJ4 : ∀ (h_4 : Hp), j4 h_4 = some out → ∀ (H : Heap) (locs : List Loc), Wd s D ad cA (FA ad) h_4 H locs → ∀ ls : Array Slot, lv_has ls 3 [(0, .ref (ad 83)), (1, .int (iZ a1))] → W p l e (rmD 3) s m args below meth c H locs 0 0 (MQ below (QV D ad cA out) args s 0 0 (FA ad)) (F0 m 16 ls []) := by
    intro h_4 hM H locs w ls hl
    subst ej
    dsimp only at hM
    refine m_aload_n C hl 0 d_Md_seasonLine_16 rfl rfl ?_
    refine m_geti C w.1 kc_Md sh_83 (Nat.le_of_ble_eq_true rfl) 10 rfl (by decide) fk_Md_22 d_Md_seasonLine_17 ?_
    refine m_iconst C d_Md_seasonLine_20 ?_
    refine m_icmp_eq C hM 25 d_Md_seasonLine_21 (by decide) (fun hM => ?_) (fun hM => ?_)
    · refine m_bipush C d_Md_seasonLine_25 (by decide) ?_
      refine m_iconst C d_Md_seasonLine_27 ?_
      refine m_aload_n C hl 0 d_Md_seasonLine_28 rfl rfl ?_
      refine m_getr C w.1 kc_Md sh_83 (Nat.le_of_ble_eq_true rfl) 11 88 rfl (by decide) fk_Md_26 d_Md_seasonLine_29 ?_
      refine m_bipush C d_Md_seasonLine_32 (by decide) ?_
      refine m_iald C w.1 sh_88 (Nat.le_of_ble_eq_true rfl) (Nat.le_of_ble_eq_true rfl) hM d_Md_seasonLine_34 (fun x5 hM => ?_)
      refine m_imul C d_Md_seasonLine_35 ?_
      refine m_iadd C d_Md_seasonLine_36 ?_
      refine m_istore_n C hl [(2, .int (iZ (21 + (3 * x5)))), (0, .ref (ad 83)), (1, .int (iZ a1))] d_Md_seasonLine_37 rfl (by decide) rfl (fun ls hl => ?_)
      refine m_aload_n C hl 1 d_Md_seasonLine_38 rfl rfl ?_
      refine m_getr C w.1 kc_Md sh_83 (Nat.le_of_ble_eq_true rfl) 11 88 rfl (by decide) fk_Md_26 d_Md_seasonLine_39 ?_
      refine m_iload_n C hl 0 d_Md_seasonLine_42 rfl rfl ?_
      refine m_aload_n C hl 1 d_Md_seasonLine_43 rfl rfl ?_
      refine m_bipush C d_Md_seasonLine_44 (by decide) ?_
      obtain ⟨q7, e6, hM⟩ := bnd_some hM
      refine aftI C w (runV C w.1 w.2 kc_Md sh_83 (Nat.le_of_ble_eq_true rfl) (c_Md_signed hI e6) lk_Md_211 mb_Md_signed rfl ⟨Nat.le_of_ble_eq_true rfl, Nat.le_of_ble_eq_true rfl⟩ ⟨Nat.zero_le _, Nat.zero_le _⟩ (Nat.le_of_ble_eq_true rfl) d_Md_seasonLine_46 hl.1 (rest := [.int (iZ (21 + (3 * x5))), .ref (ad 88)]) rfl) (fun H locs w => ?_)
      refine m_iast C w sh_88 (Nat.le_of_ble_eq_true rfl) (Nat.le_of_ble_eq_true rfl) hM d_Md_seasonLine_49 (fun h8 H locs w hM => ?_)
      refine m_aload_n C hl 1 d_Md_seasonLine_50 rfl rfl ?_
      refine m_getr C w.1 kc_Md sh_83 (Nat.le_of_ble_eq_true rfl) 11 88 rfl (by decide) fk_Md_26 d_Md_seasonLine_51 ?_
      refine m_iload_n C hl 0 d_Md_seasonLine_54 rfl rfl ?_
      refine m_iconst C d_Md_seasonLine_55 ?_
      refine m_iadd C d_Md_seasonLine_56 ?_
      refine m_aload_n C hl 1 d_Md_seasonLine_57 rfl rfl ?_
      refine m_aload_n C hl 1 d_Md_seasonLine_58 rfl rfl ?_
      refine m_getr C w.1 kc_Md sh_83 (Nat.le_of_ble_eq_true rfl) 11 88 rfl (by decide) fk_Md_26 d_Md_seasonLine_59 ?_
      refine m_iload_n C hl 0 d_Md_seasonLine_62 rfl rfl ?_
      refine m_iald C w.1 sh_88 (Nat.le_of_ble_eq_true rfl) (Nat.le_of_ble_eq_true rfl) hM d_Md_seasonLine_63 (fun x9 hM => ?_)
      obtain ⟨q11, e10, hM⟩ := bnd_some hM
      refine aftI C w (runV C w.1 w.2 kc_Md sh_83 (Nat.le_of_ble_eq_true rfl) (c_Md_signed hI e10) lk_Md_211 mb_Md_signed rfl ⟨Nat.le_of_ble_eq_true rfl, Nat.le_of_ble_eq_true rfl⟩ ⟨Nat.zero_le _, Nat.zero_le _⟩ (Nat.le_of_ble_eq_true rfl) d_Md_seasonLine_64 hl.1 (rest := [.int (iZ ((21 + (3 * x5)) + 1)), .ref (ad 88)]) rfl) (fun H locs w => ?_)
      refine m_iast C w sh_88 (Nat.le_of_ble_eq_true rfl) (Nat.le_of_ble_eq_true rfl) hM d_Md_seasonLine_67 (fun h12 H locs w hM => ?_)
      refine m_aload_n C hl 1 d_Md_seasonLine_68 rfl rfl ?_
      refine m_getr C w.1 kc_Md sh_83 (Nat.le_of_ble_eq_true rfl) 11 88 rfl (by decide) fk_Md_26 d_Md_seasonLine_69 ?_
      refine m_iload_n C hl 0 d_Md_seasonLine_72 rfl rfl ?_
      refine m_iconst C d_Md_seasonLine_73 ?_
      refine m_iadd C d_Md_seasonLine_74 ?_
      refine m_aload_n C hl 1 d_Md_seasonLine_75 rfl rfl ?_
      refine m_iconst C d_Md_seasonLine_76 ?_
      refine m_bipush C d_Md_seasonLine_77 (by decide) ?_
      obtain ⟨q14, e13, hM⟩ := bnd_some hM
      refine aftI C w (runV C w.1 w.2 kc_Md sh_83 (Nat.le_of_ble_eq_true rfl) (c_Md_number hI e13) lk_Md_198 mb_Md_number rfl ⟨Nat.le_of_ble_eq_true rfl, Nat.le_of_ble_eq_true rfl⟩ ⟨Nat.zero_le _, Nat.zero_le _⟩ (Nat.le_of_ble_eq_true rfl) d_Md_seasonLine_79 hl.1 (rest := [.int (iZ ((21 + (3 * x5)) + 2)), .ref (ad 88)]) rfl) (fun H locs w => ?_)
      refine m_iast C w sh_88 (Nat.le_of_ble_eq_true rfl) (Nat.le_of_ble_eq_true rfl) hM d_Md_seasonLine_82 (fun h15 H locs w hM => ?_)
      refine m_aload_n C hl 1 d_Md_seasonLine_83 rfl rfl ?_
      refine m_getr C w.1 kc_Md sh_83 (Nat.le_of_ble_eq_true rfl) 11 88 rfl (by decide) fk_Md_26 d_Md_seasonLine_84 ?_
      refine m_bipush C d_Md_seasonLine_87 (by decide) ?_
      refine m_dup2 C d_Md_seasonLine_89 rfl rfl ?_
      refine m_iald C w.1 sh_88 (Nat.le_of_ble_eq_true rfl) (Nat.le_of_ble_eq_true rfl) hM d_Md_seasonLine_90 (fun x16 hM => ?_)
      refine m_iconst C d_Md_seasonLine_91 ?_
      refine m_iadd C d_Md_seasonLine_92 ?_
      refine m_iast C w sh_88 (Nat.le_of_ble_eq_true rfl) (Nat.le_of_ble_eq_true rfl) hM d_Md_seasonLine_93 (fun h17 H locs w hM => ?_)
      exact m_vretW C w hr hlk hM d_Md_seasonLine_94
    · exact m_vretW C w hr hlk hM d_Md_seasonLine_24
  refine m_icmp_ne C hM 16 d_Md_seasonLine_8 (by decide) (fun hM => ?_) (fun hM => ?_)
  · exact hJ4 h hM _ _ w _ hl
  · refine m_aload_n C hl 0 d_Md_seasonLine_11 rfl rfl ?_
    refine m_iload_n C hl 1 d_Md_seasonLine_12 rfl rfl ?_
    obtain ⟨h19, e18, hM⟩ := bnd_some hM
    refine aftV C w (runV C w.1 w.2 kc_Md sh_83 (Nat.le_of_ble_eq_true rfl) (c_Md_wrong hI e18) lk_Md_186 mb_Md_wrong rfl ⟨Nat.le_of_ble_eq_true rfl, Nat.le_of_ble_eq_true rfl⟩ ⟨Nat.zero_le _, Nat.zero_le _⟩ (Nat.le_of_ble_eq_true rfl) d_Md_seasonLine_13 hl.1 (rest := []) rfl) (fun H locs w => ?_)
    exact hJ4 h19 hM _ _ w _ hl
def y_Md_closedLine : MethodName := ⟨"FeastBookModel", "closedLine", "(I)V"⟩
theorem d_Md_closedLine_0 : decode prog_13_method_50_code 0 = .ok (.aload_n 0, 1) := by decide +kernel
theorem d_Md_closedLine_1 : decode prog_13_method_50_code 1 = .ok (.getfield 26, 3) := by decide +kernel
theorem d_Md_closedLine_4 : decode prog_13_method_50_code 4 = .ok (.bipush 33, 2) := by decide +kernel
theorem d_Md_closedLine_6 : decode prog_13_method_50_code 6 = .ok (.iaload, 1) := by decide +kernel
theorem d_Md_closedLine_7 : decode prog_13_method_50_code 7 = .ok (.iconst 4, 1) := by decide +kernel
theorem d_Md_closedLine_8 : decode prog_13_method_50_code 8 = .ok (.if_icmp .ne 8, 3) := by decide +kernel
theorem d_Md_closedLine_11 : decode prog_13_method_50_code 11 = .ok (.aload_n 0, 1) := by decide +kernel
theorem d_Md_closedLine_12 : decode prog_13_method_50_code 12 = .ok (.iload_n 1, 1) := by decide +kernel
theorem d_Md_closedLine_13 : decode prog_13_method_50_code 13 = .ok (.invokevirtual 186, 3) := by decide +kernel
theorem d_Md_closedLine_16 : decode prog_13_method_50_code 16 = .ok (.aload_n 0, 1) := by decide +kernel
theorem d_Md_closedLine_17 : decode prog_13_method_50_code 17 = .ok (.getfield 22, 3) := by decide +kernel
theorem d_Md_closedLine_20 : decode prog_13_method_50_code 20 = .ok (.iconst (-1), 1) := by decide +kernel
theorem d_Md_closedLine_21 : decode prog_13_method_50_code 21 = .ok (.if_icmp .eq 4, 3) := by decide +kernel
theorem d_Md_closedLine_24 : decode prog_13_method_50_code 24 = .ok (.return_, 1) := by decide +kernel
theorem d_Md_closedLine_25 : decode prog_13_method_50_code 25 = .ok (.bipush 34, 2) := by decide +kernel
theorem d_Md_closedLine_27 : decode prog_13_method_50_code 27 = .ok (.iconst 2, 1) := by decide +kernel
theorem d_Md_closedLine_28 : decode prog_13_method_50_code 28 = .ok (.aload_n 0, 1) := by decide +kernel
theorem d_Md_closedLine_29 : decode prog_13_method_50_code 29 = .ok (.getfield 26, 3) := by decide +kernel
theorem d_Md_closedLine_32 : decode prog_13_method_50_code 32 = .ok (.bipush 33, 2) := by decide +kernel
theorem d_Md_closedLine_34 : decode prog_13_method_50_code 34 = .ok (.iaload, 1) := by decide +kernel
theorem d_Md_closedLine_35 : decode prog_13_method_50_code 35 = .ok (.imul, 1) := by decide +kernel
theorem d_Md_closedLine_36 : decode prog_13_method_50_code 36 = .ok (.iadd, 1) := by decide +kernel
theorem d_Md_closedLine_37 : decode prog_13_method_50_code 37 = .ok (.istore_n 2, 1) := by decide +kernel
theorem d_Md_closedLine_38 : decode prog_13_method_50_code 38 = .ok (.aload_n 0, 1) := by decide +kernel
theorem d_Md_closedLine_39 : decode prog_13_method_50_code 39 = .ok (.getfield 26, 3) := by decide +kernel
theorem d_Md_closedLine_42 : decode prog_13_method_50_code 42 = .ok (.iload_n 2, 1) := by decide +kernel
theorem d_Md_closedLine_43 : decode prog_13_method_50_code 43 = .ok (.aload_n 0, 1) := by decide +kernel
theorem d_Md_closedLine_44 : decode prog_13_method_50_code 44 = .ok (.bipush (-99), 2) := by decide +kernel
theorem d_Md_closedLine_46 : decode prog_13_method_50_code 46 = .ok (.invokevirtual 211, 3) := by decide +kernel
theorem d_Md_closedLine_49 : decode prog_13_method_50_code 49 = .ok (.iastore, 1) := by decide +kernel
theorem d_Md_closedLine_50 : decode prog_13_method_50_code 50 = .ok (.aload_n 0, 1) := by decide +kernel
theorem d_Md_closedLine_51 : decode prog_13_method_50_code 51 = .ok (.getfield 26, 3) := by decide +kernel
theorem d_Md_closedLine_54 : decode prog_13_method_50_code 54 = .ok (.iload_n 2, 1) := by decide +kernel
theorem d_Md_closedLine_55 : decode prog_13_method_50_code 55 = .ok (.iconst 1, 1) := by decide +kernel
theorem d_Md_closedLine_56 : decode prog_13_method_50_code 56 = .ok (.iadd, 1) := by decide +kernel
theorem d_Md_closedLine_57 : decode prog_13_method_50_code 57 = .ok (.aload_n 0, 1) := by decide +kernel
theorem d_Md_closedLine_58 : decode prog_13_method_50_code 58 = .ok (.aload_n 0, 1) := by decide +kernel
theorem d_Md_closedLine_59 : decode prog_13_method_50_code 59 = .ok (.getfield 26, 3) := by decide +kernel
theorem d_Md_closedLine_62 : decode prog_13_method_50_code 62 = .ok (.iload_n 2, 1) := by decide +kernel
theorem d_Md_closedLine_63 : decode prog_13_method_50_code 63 = .ok (.iaload, 1) := by decide +kernel
theorem d_Md_closedLine_64 : decode prog_13_method_50_code 64 = .ok (.invokevirtual 211, 3) := by decide +kernel
theorem d_Md_closedLine_67 : decode prog_13_method_50_code 67 = .ok (.iastore, 1) := by decide +kernel
theorem d_Md_closedLine_68 : decode prog_13_method_50_code 68 = .ok (.aload_n 0, 1) := by decide +kernel
theorem d_Md_closedLine_69 : decode prog_13_method_50_code 69 = .ok (.getfield 26, 3) := by decide +kernel
theorem d_Md_closedLine_72 : decode prog_13_method_50_code 72 = .ok (.bipush 33, 2) := by decide +kernel
theorem d_Md_closedLine_74 : decode prog_13_method_50_code 74 = .ok (.dup2, 1) := by decide +kernel
theorem d_Md_closedLine_75 : decode prog_13_method_50_code 75 = .ok (.iaload, 1) := by decide +kernel
theorem d_Md_closedLine_76 : decode prog_13_method_50_code 76 = .ok (.iconst 1, 1) := by decide +kernel
theorem d_Md_closedLine_77 : decode prog_13_method_50_code 77 = .ok (.iadd, 1) := by decide +kernel
theorem d_Md_closedLine_78 : decode prog_13_method_50_code 78 = .ok (.iastore, 1) := by decide +kernel
theorem d_Md_closedLine_79 : decode prog_13_method_50_code 79 = .ok (.return_, 1) := by decide +kernel
set_option maxHeartbeats 4000000 in
set_option maxRecDepth 100000 in
theorem c_Md_closedLine {l : Launch} {D : va_G} {ad : Nat → Nat} {cA : Nat → ClassId} {sd sv : Nat → Nat} {h : Hp} {N : Nat} {a1 : Int} {out : Hp} (hI : Inj97 ad) (hM : M_Md_closedLine N h a1 = some out) : Met l y_Md_closedLine (.code y_Md_closedLine prog_13_method_50_code 3 none :: TT) (rmD 3) (PC D ad cA sd sv h [.ref (ad 83), .int (iZ a1)]) (QV D ad cA out) 0 0 (FA ad) := by
  unfold M_Md_closedLine at hM
  refine entM (by decide +kernel) hI (Nat.le_of_ble_eq_true rfl) ?_
  intro p e s m args below meth c C hr hlk hP ls hl
  have C : Cx p s m args c prog_13_method_50_code 3 "FeastBookModel" D ad cA sd sv (FA ad) := C
  have hl : lv_has ls 3 [(0, .ref (ad 83)), (1, .int (iZ a1))] := hl
  have w : Wd s D ad cA (FA ad) h s.heap [] := ⟨hP, va_S.rf⟩
  refine m_aload_n C hl 0 d_Md_closedLine_0 rfl rfl ?_
  refine m_getr C w.1 kc_Md sh_83 (Nat.le_of_ble_eq_true rfl) 11 88 rfl (by decide) fk_Md_26 d_Md_closedLine_1 ?_
  refine m_bipush C d_Md_closedLine_4 (by decide) ?_
  refine m_iald C w.1 sh_88 (Nat.le_of_ble_eq_true rfl) (Nat.le_of_ble_eq_true rfl) hM d_Md_closedLine_6 (fun x1 hM => ?_)
  refine m_iconst C d_Md_closedLine_7 ?_
  refine lt_join hM (fun j4 ej hM => ?_)
  have hJ4 : ∀ (h_4 : Hp), j4 h_4 = some out → ∀ (H : Heap) (locs : List Loc), Wd s D ad cA (FA ad) h_4 H locs → ∀ ls : Array Slot, lv_has ls 3 [(0, .ref (ad 83)), (1, .int (iZ a1))] → W p l e (rmD 3) s m args below meth c H locs 0 0 (MQ below (QV D ad cA out) args s 0 0 (FA ad)) (F0 m 16 ls []) := by
    intro h_4 hM H locs w ls hl
    subst ej
    dsimp only at hM
    refine m_aload_n C hl 0 d_Md_closedLine_16 rfl rfl ?_
    refine m_geti C w.1 kc_Md sh_83 (Nat.le_of_ble_eq_true rfl) 10 rfl (by decide) fk_Md_22 d_Md_closedLine_17 ?_
    refine m_iconst C d_Md_closedLine_20 ?_
    refine m_icmp_eq C hM 25 d_Md_closedLine_21 (by decide) (fun hM => ?_) (fun hM => ?_)
    · refine m_bipush C d_Md_closedLine_25 (by decide) ?_
      refine m_iconst C d_Md_closedLine_27 ?_
      refine m_aload_n C hl 0 d_Md_closedLine_28 rfl rfl ?_
      refine m_getr C w.1 kc_Md sh_83 (Nat.le_of_ble_eq_true rfl) 11 88 rfl (by decide) fk_Md_26 d_Md_closedLine_29 ?_
      refine m_bipush C d_Md_closedLine_32 (by decide) ?_
      refine m_iald C w.1 sh_88 (Nat.le_of_ble_eq_true rfl) (Nat.le_of_ble_eq_true rfl) hM d_Md_closedLine_34 (fun x5 hM => ?_)
      refine m_imul C d_Md_closedLine_35 ?_
      refine m_iadd C d_Md_closedLine_36 ?_
      refine m_istore_n C hl [(2, .int (iZ (34 + (2 * x5)))), (0, .ref (ad 83)), (1, .int (iZ a1))] d_Md_closedLine_37 rfl (by decide) rfl (fun ls hl => ?_)
      refine m_aload_n C hl 1 d_Md_closedLine_38 rfl rfl ?_
      refine m_getr C w.1 kc_Md sh_83 (Nat.le_of_ble_eq_true rfl) 11 88 rfl (by decide) fk_Md_26 d_Md_closedLine_39 ?_
      refine m_iload_n C hl 0 d_Md_closedLine_42 rfl rfl ?_
      refine m_aload_n C hl 1 d_Md_closedLine_43 rfl rfl ?_
      refine m_bipush C d_Md_closedLine_44 (by decide) ?_
      obtain ⟨q7, e6, hM⟩ := bnd_some hM
      refine aftI C w (runV C w.1 w.2 kc_Md sh_83 (Nat.le_of_ble_eq_true rfl) (c_Md_signed hI e6) lk_Md_211 mb_Md_signed rfl ⟨Nat.le_of_ble_eq_true rfl, Nat.le_of_ble_eq_true rfl⟩ ⟨Nat.zero_le _, Nat.zero_le _⟩ (Nat.le_of_ble_eq_true rfl) d_Md_closedLine_46 hl.1 (rest := [.int (iZ (34 + (2 * x5))), .ref (ad 88)]) rfl) (fun H locs w => ?_)
      refine m_iast C w sh_88 (Nat.le_of_ble_eq_true rfl) (Nat.le_of_ble_eq_true rfl) hM d_Md_closedLine_49 (fun h8 H locs w hM => ?_)
      refine m_aload_n C hl 1 d_Md_closedLine_50 rfl rfl ?_
      refine m_getr C w.1 kc_Md sh_83 (Nat.le_of_ble_eq_true rfl) 11 88 rfl (by decide) fk_Md_26 d_Md_closedLine_51 ?_
      refine m_iload_n C hl 0 d_Md_closedLine_54 rfl rfl ?_
      refine m_iconst C d_Md_closedLine_55 ?_
      refine m_iadd C d_Md_closedLine_56 ?_
      refine m_aload_n C hl 1 d_Md_closedLine_57 rfl rfl ?_
      refine m_aload_n C hl 1 d_Md_closedLine_58 rfl rfl ?_
      refine m_getr C w.1 kc_Md sh_83 (Nat.le_of_ble_eq_true rfl) 11 88 rfl (by decide) fk_Md_26 d_Md_closedLine_59 ?_
      refine m_iload_n C hl 0 d_Md_closedLine_62 rfl rfl ?_
      refine m_iald C w.1 sh_88 (Nat.le_of_ble_eq_true rfl) (Nat.le_of_ble_eq_true rfl) hM d_Md_closedLine_63 (fun x9 hM => ?_)
      obtain ⟨q11, e10, hM⟩ := bnd_some hM
      refine aftI C w (runV C w.1 w.2 kc_Md sh_83 (Nat.le_of_ble_eq_true rfl) (c_Md_signed hI e10) lk_Md_211 mb_Md_signed rfl ⟨Nat.le_of_ble_eq_true rfl, Nat.le_of_ble_eq_true rfl⟩ ⟨Nat.zero_le _, Nat.zero_le _⟩ (Nat.le_of_ble_eq_true rfl) d_Md_closedLine_64 hl.1 (rest := [.int (iZ ((34 + (2 * x5)) + 1)), .ref (ad 88)]) rfl) (fun H locs w => ?_)
      refine m_iast C w sh_88 (Nat.le_of_ble_eq_true rfl) (Nat.le_of_ble_eq_true rfl) hM d_Md_closedLine_67 (fun h12 H locs w hM => ?_)
      refine m_aload_n C hl 1 d_Md_closedLine_68 rfl rfl ?_
      refine m_getr C w.1 kc_Md sh_83 (Nat.le_of_ble_eq_true rfl) 11 88 rfl (by decide) fk_Md_26 d_Md_closedLine_69 ?_
      refine m_bipush C d_Md_closedLine_72 (by decide) ?_
      refine m_dup2 C d_Md_closedLine_74 rfl rfl ?_
      refine m_iald C w.1 sh_88 (Nat.le_of_ble_eq_true rfl) (Nat.le_of_ble_eq_true rfl) hM d_Md_closedLine_75 (fun x13 hM => ?_)
      refine m_iconst C d_Md_closedLine_76 ?_
      refine m_iadd C d_Md_closedLine_77 ?_
      refine m_iast C w sh_88 (Nat.le_of_ble_eq_true rfl) (Nat.le_of_ble_eq_true rfl) hM d_Md_closedLine_78 (fun h14 H locs w hM => ?_)
      exact m_vretW C w hr hlk hM d_Md_closedLine_79
    · exact m_vretW C w hr hlk hM d_Md_closedLine_24
  refine m_icmp_ne C hM 16 d_Md_closedLine_8 (by decide) (fun hM => ?_) (fun hM => ?_)
  · exact hJ4 h hM _ _ w _ hl
  · refine m_aload_n C hl 0 d_Md_closedLine_11 rfl rfl ?_
    refine m_iload_n C hl 1 d_Md_closedLine_12 rfl rfl ?_
    obtain ⟨h16, e15, hM⟩ := bnd_some hM
    refine aftV C w (runV C w.1 w.2 kc_Md sh_83 (Nat.le_of_ble_eq_true rfl) (c_Md_wrong hI e15) lk_Md_186 mb_Md_wrong rfl ⟨Nat.le_of_ble_eq_true rfl, Nat.le_of_ble_eq_true rfl⟩ ⟨Nat.zero_le _, Nat.zero_le _⟩ (Nat.le_of_ble_eq_true rfl) d_Md_closedLine_13 hl.1 (rest := []) rfl) (fun H locs w => ?_)
    exact hJ4 h16 hM _ _ w _ hl
def y_Md_lawWord : MethodName := ⟨"FeastBookModel", "lawWord", "()I"⟩
theorem d_Md_lawWord_0 : decode prog_13_method_51_code 0 = .ok (.aload_n 0, 1) := by decide +kernel
theorem d_Md_lawWord_1 : decode prog_13_method_51_code 1 = .ok (.invokevirtual 169, 3) := by decide +kernel
theorem d_Md_lawWord_4 : decode prog_13_method_51_code 4 = .ok (.istore_n 1, 1) := by decide +kernel
theorem d_Md_lawWord_5 : decode prog_13_method_51_code 5 = .ok (.aload_n 0, 1) := by decide +kernel
theorem d_Md_lawWord_6 : decode prog_13_method_51_code 6 = .ok (.ldc 214, 2) := by decide +kernel
theorem d_Md_lawWord_8 : decode prog_13_method_51_code 8 = .ok (.invokevirtual 182, 3) := by decide +kernel
theorem d_Md_lawWord_11 : decode prog_13_method_51_code 11 = .ok (.ifCond .eq 7, 3) := by decide +kernel
theorem d_Md_lawWord_14 : decode prog_13_method_51_code 14 = .ok (.iconst 0, 1) := by decide +kernel
theorem d_Md_lawWord_15 : decode prog_13_method_51_code 15 = .ok (.goto 43, 3) := by decide +kernel
theorem d_Md_lawWord_18 : decode prog_13_method_51_code 18 = .ok (.aload_n 0, 1) := by decide +kernel
theorem d_Md_lawWord_19 : decode prog_13_method_51_code 19 = .ok (.ldc 216, 2) := by decide +kernel
theorem d_Md_lawWord_21 : decode prog_13_method_51_code 21 = .ok (.invokevirtual 182, 3) := by decide +kernel
theorem d_Md_lawWord_24 : decode prog_13_method_51_code 24 = .ok (.ifCond .eq 7, 3) := by decide +kernel
theorem d_Md_lawWord_27 : decode prog_13_method_51_code 27 = .ok (.iconst 1, 1) := by decide +kernel
theorem d_Md_lawWord_28 : decode prog_13_method_51_code 28 = .ok (.goto 30, 3) := by decide +kernel
theorem d_Md_lawWord_31 : decode prog_13_method_51_code 31 = .ok (.aload_n 0, 1) := by decide +kernel
theorem d_Md_lawWord_32 : decode prog_13_method_51_code 32 = .ok (.ldc 218, 2) := by decide +kernel
theorem d_Md_lawWord_34 : decode prog_13_method_51_code 34 = .ok (.invokevirtual 182, 3) := by decide +kernel
theorem d_Md_lawWord_37 : decode prog_13_method_51_code 37 = .ok (.ifCond .eq 7, 3) := by decide +kernel
theorem d_Md_lawWord_40 : decode prog_13_method_51_code 40 = .ok (.iconst 2, 1) := by decide +kernel
theorem d_Md_lawWord_41 : decode prog_13_method_51_code 41 = .ok (.goto 17, 3) := by decide +kernel
theorem d_Md_lawWord_44 : decode prog_13_method_51_code 44 = .ok (.aload_n 0, 1) := by decide +kernel
theorem d_Md_lawWord_45 : decode prog_13_method_51_code 45 = .ok (.ldc 220, 2) := by decide +kernel
theorem d_Md_lawWord_47 : decode prog_13_method_51_code 47 = .ok (.invokevirtual 182, 3) := by decide +kernel
theorem d_Md_lawWord_50 : decode prog_13_method_51_code 50 = .ok (.ifCond .eq 7, 3) := by decide +kernel
theorem d_Md_lawWord_53 : decode prog_13_method_51_code 53 = .ok (.iconst 3, 1) := by decide +kernel
theorem d_Md_lawWord_54 : decode prog_13_method_51_code 54 = .ok (.goto 4, 3) := by decide +kernel
theorem d_Md_lawWord_57 : decode prog_13_method_51_code 57 = .ok (.iconst (-1), 1) := by decide +kernel
theorem d_Md_lawWord_58 : decode prog_13_method_51_code 58 = .ok (.istore_n 2, 1) := by decide +kernel
theorem d_Md_lawWord_59 : decode prog_13_method_51_code 59 = .ok (.iload_n 2, 1) := by decide +kernel
theorem d_Md_lawWord_60 : decode prog_13_method_51_code 60 = .ok (.iconst (-1), 1) := by decide +kernel
theorem d_Md_lawWord_61 : decode prog_13_method_51_code 61 = .ok (.if_icmp .ne 8, 3) := by decide +kernel
theorem d_Md_lawWord_64 : decode prog_13_method_51_code 64 = .ok (.aload_n 0, 1) := by decide +kernel
theorem d_Md_lawWord_65 : decode prog_13_method_51_code 65 = .ok (.iload_n 1, 1) := by decide +kernel
theorem d_Md_lawWord_66 : decode prog_13_method_51_code 66 = .ok (.invokevirtual 186, 3) := by decide +kernel
theorem d_Md_lawWord_69 : decode prog_13_method_51_code 69 = .ok (.iload_n 2, 1) := by decide +kernel
theorem d_Md_lawWord_70 : decode prog_13_method_51_code 70 = .ok (.ireturn, 1) := by decide +kernel
set_option maxHeartbeats 4000000 in
set_option maxRecDepth 100000 in
theorem c_Md_lawWord {l : Launch} {D : va_G} {ad : Nat → Nat} {cA : Nat → ClassId} {sd sv : Nat → Nat} {h : Hp} {N : Nat} {out : (Int × Hp)} (hI : Inj97 ad) (hM : M_Md_lawWord N h = some out) : Met l y_Md_lawWord (.code y_Md_lawWord prog_13_method_51_code 3 (some .int) :: TT) (rmD 5) (PC D ad cA sd sv h [.ref (ad 83)]) (QI D ad cA out) 0 0 (FA ad) := by
  unfold M_Md_lawWord at hM
  refine entM (by decide +kernel) hI (Nat.le_of_ble_eq_true rfl) ?_
  intro p e s m args below meth c C hr hlk hP ls hl
  have C : Cx p s m args c prog_13_method_51_code 3 "FeastBookModel" D ad cA sd sv (FA ad) := C
  have hl : lv_has ls 3 [(0, .ref (ad 83))] := hl
  have w : Wd s D ad cA (FA ad) h s.heap [] := ⟨hP, va_S.rf⟩
  refine m_aload_n C hl 0 d_Md_lawWord_0 rfl rfl ?_
  obtain ⟨q2, e1, hM⟩ := bnd_some hM
  refine aftI C w (runV C w.1 w.2 kc_Md sh_83 (Nat.le_of_ble_eq_true rfl) (c_Md_here hI e1) lk_Md_169 mb_Md_here rfl ⟨Nat.le_of_ble_eq_true rfl, Nat.le_of_ble_eq_true rfl⟩ ⟨Nat.zero_le _, Nat.zero_le _⟩ (Nat.le_of_ble_eq_true rfl) d_Md_lawWord_1 hl.1 (rest := []) rfl) (fun H locs w => ?_)
  refine m_istore_n C hl [(1, .int (iZ q2.1)), (0, .ref (ad 83))] d_Md_lawWord_4 rfl (by decide) rfl (fun ls hl => ?_)
  refine m_aload_n C hl 1 d_Md_lawWord_5 rfl rfl ?_
  refine m_ldcS C 30 (by decide) rfl d_Md_lawWord_6 ?_
  obtain ⟨q4, e3, hM⟩ := bnd_some hM
  refine aftI C w (runV C w.1 w.2 kc_Md sh_83 (Nat.le_of_ble_eq_true rfl) (c_Md_has hI (by decide) e3) lk_Md_182 mb_Md_has rfl ⟨Nat.le_of_ble_eq_true rfl, Nat.le_of_ble_eq_true rfl⟩ ⟨Nat.zero_le _, Nat.zero_le _⟩ (Nat.le_of_ble_eq_true rfl) d_Md_lawWord_8 hl.1 (rest := []) rfl) (fun H locs w => ?_)
  refine m_if_eq C hM 18 d_Md_lawWord_11 (by decide) (fun hM => ?_) (fun hM => ?_)
  · refine m_aload_n C hl 1 d_Md_lawWord_18 rfl rfl ?_
    refine m_ldcS C 31 (by decide) rfl d_Md_lawWord_19 ?_
    obtain ⟨q6, e5, hM⟩ := bnd_some hM
    refine aftI C w (runV C w.1 w.2 kc_Md sh_83 (Nat.le_of_ble_eq_true rfl) (c_Md_has hI (by decide) e5) lk_Md_182 mb_Md_has rfl ⟨Nat.le_of_ble_eq_true rfl, Nat.le_of_ble_eq_true rfl⟩ ⟨Nat.zero_le _, Nat.zero_le _⟩ (Nat.le_of_ble_eq_true rfl) d_Md_lawWord_21 hl.1 (rest := []) rfl) (fun H locs w => ?_)
    refine m_if_eq C hM 31 d_Md_lawWord_24 (by decide) (fun hM => ?_) (fun hM => ?_)
    · refine m_aload_n C hl 1 d_Md_lawWord_31 rfl rfl ?_
      refine m_ldcS C 32 (by decide) rfl d_Md_lawWord_32 ?_
      obtain ⟨q8, e7, hM⟩ := bnd_some hM
      refine aftI C w (runV C w.1 w.2 kc_Md sh_83 (Nat.le_of_ble_eq_true rfl) (c_Md_has hI (by decide) e7) lk_Md_182 mb_Md_has rfl ⟨Nat.le_of_ble_eq_true rfl, Nat.le_of_ble_eq_true rfl⟩ ⟨Nat.zero_le _, Nat.zero_le _⟩ (Nat.le_of_ble_eq_true rfl) d_Md_lawWord_34 hl.1 (rest := []) rfl) (fun H locs w => ?_)
      refine m_if_eq C hM 44 d_Md_lawWord_37 (by decide) (fun hM => ?_) (fun hM => ?_)
      · refine m_aload_n C hl 1 d_Md_lawWord_44 rfl rfl ?_
        refine m_ldcS C 33 (by decide) rfl d_Md_lawWord_45 ?_
        obtain ⟨q10, e9, hM⟩ := bnd_some hM
        refine aftI C w (runV C w.1 w.2 kc_Md sh_83 (Nat.le_of_ble_eq_true rfl) (c_Md_has hI (by decide) e9) lk_Md_182 mb_Md_has rfl ⟨Nat.le_of_ble_eq_true rfl, Nat.le_of_ble_eq_true rfl⟩ ⟨Nat.zero_le _, Nat.zero_le _⟩ (Nat.le_of_ble_eq_true rfl) d_Md_lawWord_47 hl.1 (rest := []) rfl) (fun H locs w => ?_)
        refine m_if_eq C hM 57 d_Md_lawWord_50 (by decide) (fun hM => ?_) (fun hM => ?_)
        · refine m_iconst C d_Md_lawWord_57 ?_
          refine m_istore_n C hl [(2, .int (iZ (-1))), (1, .int (iZ q2.1)), (0, .ref (ad 83))] d_Md_lawWord_58 rfl (by decide) rfl (fun ls hl => ?_)
          refine m_iload_n C hl 0 d_Md_lawWord_59 rfl rfl ?_
          refine m_iconst C d_Md_lawWord_60 ?_
          refine m_icmp_ne C hM 69 d_Md_lawWord_61 (by decide) (fun hM => ?_) (fun hM => ?_)
          · refine m_iload_n C hl 0 d_Md_lawWord_69 rfl rfl ?_
            exact m_iretW C w hr hlk hM d_Md_lawWord_70
          · refine m_aload_n C hl 2 d_Md_lawWord_64 rfl rfl ?_
            refine m_iload_n C hl 1 d_Md_lawWord_65 rfl rfl ?_
            obtain ⟨h12, e11, hM⟩ := bnd_some hM
            refine aftV C w (runV C w.1 w.2 kc_Md sh_83 (Nat.le_of_ble_eq_true rfl) (c_Md_wrong hI e11) lk_Md_186 mb_Md_wrong rfl ⟨Nat.le_of_ble_eq_true rfl, Nat.le_of_ble_eq_true rfl⟩ ⟨Nat.zero_le _, Nat.zero_le _⟩ (Nat.le_of_ble_eq_true rfl) d_Md_lawWord_66 hl.1 (rest := []) rfl) (fun H locs w => ?_)
            refine m_iload_n C hl 0 d_Md_lawWord_69 rfl rfl ?_
            exact m_iretW C w hr hlk hM d_Md_lawWord_70
        · refine m_iconst C d_Md_lawWord_53 ?_
          refine m_goto C 58 d_Md_lawWord_54 (by decide) ?_
          refine m_istore_n C hl [(2, .int (iZ 3)), (1, .int (iZ q2.1)), (0, .ref (ad 83))] d_Md_lawWord_58 rfl (by decide) rfl (fun ls hl => ?_)
          refine m_iload_n C hl 0 d_Md_lawWord_59 rfl rfl ?_
          refine m_iconst C d_Md_lawWord_60 ?_
          refine m_icmp_ne C hM 69 d_Md_lawWord_61 (by decide) (fun hM => ?_) (fun hM => ?_)
          · refine m_iload_n C hl 0 d_Md_lawWord_69 rfl rfl ?_
            exact m_iretW C w hr hlk hM d_Md_lawWord_70
          · refine m_aload_n C hl 2 d_Md_lawWord_64 rfl rfl ?_
            refine m_iload_n C hl 1 d_Md_lawWord_65 rfl rfl ?_
            obtain ⟨h14, e13, hM⟩ := bnd_some hM
            refine aftV C w (runV C w.1 w.2 kc_Md sh_83 (Nat.le_of_ble_eq_true rfl) (c_Md_wrong hI e13) lk_Md_186 mb_Md_wrong rfl ⟨Nat.le_of_ble_eq_true rfl, Nat.le_of_ble_eq_true rfl⟩ ⟨Nat.zero_le _, Nat.zero_le _⟩ (Nat.le_of_ble_eq_true rfl) d_Md_lawWord_66 hl.1 (rest := []) rfl) (fun H locs w => ?_)
            refine m_iload_n C hl 0 d_Md_lawWord_69 rfl rfl ?_
            exact m_iretW C w hr hlk hM d_Md_lawWord_70
      · refine m_iconst C d_Md_lawWord_40 ?_
        refine m_goto C 58 d_Md_lawWord_41 (by decide) ?_
        refine m_istore_n C hl [(2, .int (iZ 2)), (1, .int (iZ q2.1)), (0, .ref (ad 83))] d_Md_lawWord_58 rfl (by decide) rfl (fun ls hl => ?_)
        refine m_iload_n C hl 0 d_Md_lawWord_59 rfl rfl ?_
        refine m_iconst C d_Md_lawWord_60 ?_
        refine m_icmp_ne C hM 69 d_Md_lawWord_61 (by decide) (fun hM => ?_) (fun hM => ?_)
        · refine m_iload_n C hl 0 d_Md_lawWord_69 rfl rfl ?_
          exact m_iretW C w hr hlk hM d_Md_lawWord_70
        · refine m_aload_n C hl 2 d_Md_lawWord_64 rfl rfl ?_
          refine m_iload_n C hl 1 d_Md_lawWord_65 rfl rfl ?_
          obtain ⟨h16, e15, hM⟩ := bnd_some hM
          refine aftV C w (runV C w.1 w.2 kc_Md sh_83 (Nat.le_of_ble_eq_true rfl) (c_Md_wrong hI e15) lk_Md_186 mb_Md_wrong rfl ⟨Nat.le_of_ble_eq_true rfl, Nat.le_of_ble_eq_true rfl⟩ ⟨Nat.zero_le _, Nat.zero_le _⟩ (Nat.le_of_ble_eq_true rfl) d_Md_lawWord_66 hl.1 (rest := []) rfl) (fun H locs w => ?_)
          refine m_iload_n C hl 0 d_Md_lawWord_69 rfl rfl ?_
          exact m_iretW C w hr hlk hM d_Md_lawWord_70
    · refine m_iconst C d_Md_lawWord_27 ?_
      refine m_goto C 58 d_Md_lawWord_28 (by decide) ?_
      refine m_istore_n C hl [(2, .int (iZ 1)), (1, .int (iZ q2.1)), (0, .ref (ad 83))] d_Md_lawWord_58 rfl (by decide) rfl (fun ls hl => ?_)
      refine m_iload_n C hl 0 d_Md_lawWord_59 rfl rfl ?_
      refine m_iconst C d_Md_lawWord_60 ?_
      refine m_icmp_ne C hM 69 d_Md_lawWord_61 (by decide) (fun hM => ?_) (fun hM => ?_)
      · refine m_iload_n C hl 0 d_Md_lawWord_69 rfl rfl ?_
        exact m_iretW C w hr hlk hM d_Md_lawWord_70
      · refine m_aload_n C hl 2 d_Md_lawWord_64 rfl rfl ?_
        refine m_iload_n C hl 1 d_Md_lawWord_65 rfl rfl ?_
        obtain ⟨h18, e17, hM⟩ := bnd_some hM
        refine aftV C w (runV C w.1 w.2 kc_Md sh_83 (Nat.le_of_ble_eq_true rfl) (c_Md_wrong hI e17) lk_Md_186 mb_Md_wrong rfl ⟨Nat.le_of_ble_eq_true rfl, Nat.le_of_ble_eq_true rfl⟩ ⟨Nat.zero_le _, Nat.zero_le _⟩ (Nat.le_of_ble_eq_true rfl) d_Md_lawWord_66 hl.1 (rest := []) rfl) (fun H locs w => ?_)
        refine m_iload_n C hl 0 d_Md_lawWord_69 rfl rfl ?_
        exact m_iretW C w hr hlk hM d_Md_lawWord_70
  · refine m_iconst C d_Md_lawWord_14 ?_
    refine m_goto C 58 d_Md_lawWord_15 (by decide) ?_
    refine m_istore_n C hl [(2, .int (iZ 0)), (1, .int (iZ q2.1)), (0, .ref (ad 83))] d_Md_lawWord_58 rfl (by decide) rfl (fun ls hl => ?_)
    refine m_iload_n C hl 0 d_Md_lawWord_59 rfl rfl ?_
    refine m_iconst C d_Md_lawWord_60 ?_
    refine m_icmp_ne C hM 69 d_Md_lawWord_61 (by decide) (fun hM => ?_) (fun hM => ?_)
    · refine m_iload_n C hl 0 d_Md_lawWord_69 rfl rfl ?_
      exact m_iretW C w hr hlk hM d_Md_lawWord_70
    · refine m_aload_n C hl 2 d_Md_lawWord_64 rfl rfl ?_
      refine m_iload_n C hl 1 d_Md_lawWord_65 rfl rfl ?_
      obtain ⟨h20, e19, hM⟩ := bnd_some hM
      refine aftV C w (runV C w.1 w.2 kc_Md sh_83 (Nat.le_of_ble_eq_true rfl) (c_Md_wrong hI e19) lk_Md_186 mb_Md_wrong rfl ⟨Nat.le_of_ble_eq_true rfl, Nat.le_of_ble_eq_true rfl⟩ ⟨Nat.zero_le _, Nat.zero_le _⟩ (Nat.le_of_ble_eq_true rfl) d_Md_lawWord_66 hl.1 (rest := []) rfl) (fun H locs w => ?_)
      refine m_iload_n C hl 0 d_Md_lawWord_69 rfl rfl ?_
      exact m_iretW C w hr hlk hM d_Md_lawWord_70
def y_Md_feastLine : MethodName := ⟨"FeastBookModel", "feastLine", "(I)V"⟩
theorem d_Md_feastLine_0 : decode prog_13_method_52_code 0 = .ok (.aload_n 0, 1) := by decide +kernel
theorem d_Md_feastLine_1 : decode prog_13_method_52_code 1 = .ok (.getfield 26, 3) := by decide +kernel
theorem d_Md_feastLine_4 : decode prog_13_method_52_code 4 = .ok (.bipush 42, 2) := by decide +kernel
theorem d_Md_feastLine_6 : decode prog_13_method_52_code 6 = .ok (.iaload, 1) := by decide +kernel
theorem d_Md_feastLine_7 : decode prog_13_method_52_code 7 = .ok (.bipush 12, 2) := by decide +kernel
theorem d_Md_feastLine_9 : decode prog_13_method_52_code 9 = .ok (.if_icmp .ne 8, 3) := by decide +kernel
theorem d_Md_feastLine_12 : decode prog_13_method_52_code 12 = .ok (.aload_n 0, 1) := by decide +kernel
theorem d_Md_feastLine_13 : decode prog_13_method_52_code 13 = .ok (.iload_n 1, 1) := by decide +kernel
theorem d_Md_feastLine_14 : decode prog_13_method_52_code 14 = .ok (.invokevirtual 186, 3) := by decide +kernel
theorem d_Md_feastLine_17 : decode prog_13_method_52_code 17 = .ok (.aload_n 0, 1) := by decide +kernel
theorem d_Md_feastLine_18 : decode prog_13_method_52_code 18 = .ok (.getfield 22, 3) := by decide +kernel
theorem d_Md_feastLine_21 : decode prog_13_method_52_code 21 = .ok (.iconst (-1), 1) := by decide +kernel
theorem d_Md_feastLine_22 : decode prog_13_method_52_code 22 = .ok (.if_icmp .eq 4, 3) := by decide +kernel
theorem d_Md_feastLine_25 : decode prog_13_method_52_code 25 = .ok (.return_, 1) := by decide +kernel
theorem d_Md_feastLine_26 : decode prog_13_method_52_code 26 = .ok (.bipush 43, 2) := by decide +kernel
theorem d_Md_feastLine_28 : decode prog_13_method_52_code 28 = .ok (.bipush 7, 2) := by decide +kernel
theorem d_Md_feastLine_30 : decode prog_13_method_52_code 30 = .ok (.aload_n 0, 1) := by decide +kernel
theorem d_Md_feastLine_31 : decode prog_13_method_52_code 31 = .ok (.getfield 26, 3) := by decide +kernel
theorem d_Md_feastLine_34 : decode prog_13_method_52_code 34 = .ok (.bipush 42, 2) := by decide +kernel
theorem d_Md_feastLine_36 : decode prog_13_method_52_code 36 = .ok (.iaload, 1) := by decide +kernel
theorem d_Md_feastLine_37 : decode prog_13_method_52_code 37 = .ok (.imul, 1) := by decide +kernel
theorem d_Md_feastLine_38 : decode prog_13_method_52_code 38 = .ok (.iadd, 1) := by decide +kernel
theorem d_Md_feastLine_39 : decode prog_13_method_52_code 39 = .ok (.istore_n 2, 1) := by decide +kernel
theorem d_Md_feastLine_40 : decode prog_13_method_52_code 40 = .ok (.aload_n 0, 1) := by decide +kernel
theorem d_Md_feastLine_41 : decode prog_13_method_52_code 41 = .ok (.getfield 26, 3) := by decide +kernel
theorem d_Md_feastLine_44 : decode prog_13_method_52_code 44 = .ok (.iload_n 2, 1) := by decide +kernel
theorem d_Md_feastLine_45 : decode prog_13_method_52_code 45 = .ok (.iconst 0, 1) := by decide +kernel
theorem d_Md_feastLine_46 : decode prog_13_method_52_code 46 = .ok (.iadd, 1) := by decide +kernel
theorem d_Md_feastLine_47 : decode prog_13_method_52_code 47 = .ok (.aload_n 0, 1) := by decide +kernel
theorem d_Md_feastLine_48 : decode prog_13_method_52_code 48 = .ok (.iconst 1, 1) := by decide +kernel
theorem d_Md_feastLine_49 : decode prog_13_method_52_code 49 = .ok (.bipush 9, 2) := by decide +kernel
theorem d_Md_feastLine_51 : decode prog_13_method_52_code 51 = .ok (.invokevirtual 198, 3) := by decide +kernel
theorem d_Md_feastLine_54 : decode prog_13_method_52_code 54 = .ok (.iastore, 1) := by decide +kernel
theorem d_Md_feastLine_55 : decode prog_13_method_52_code 55 = .ok (.aload_n 0, 1) := by decide +kernel
theorem d_Md_feastLine_56 : decode prog_13_method_52_code 56 = .ok (.ldc 222, 2) := by decide +kernel
theorem d_Md_feastLine_58 : decode prog_13_method_52_code 58 = .ok (.invokevirtual 182, 3) := by decide +kernel
theorem d_Md_feastLine_61 : decode prog_13_method_52_code 61 = .ok (.ifCond .eq 38, 3) := by decide +kernel
theorem d_Md_feastLine_64 : decode prog_13_method_52_code 64 = .ok (.aload_n 0, 1) := by decide +kernel
theorem d_Md_feastLine_65 : decode prog_13_method_52_code 65 = .ok (.getfield 26, 3) := by decide +kernel
theorem d_Md_feastLine_68 : decode prog_13_method_52_code 68 = .ok (.iload_n 2, 1) := by decide +kernel
theorem d_Md_feastLine_69 : decode prog_13_method_52_code 69 = .ok (.iconst 1, 1) := by decide +kernel
theorem d_Md_feastLine_70 : decode prog_13_method_52_code 70 = .ok (.iadd, 1) := by decide +kernel
theorem d_Md_feastLine_71 : decode prog_13_method_52_code 71 = .ok (.iconst 1, 1) := by decide +kernel
theorem d_Md_feastLine_72 : decode prog_13_method_52_code 72 = .ok (.iastore, 1) := by decide +kernel
theorem d_Md_feastLine_73 : decode prog_13_method_52_code 73 = .ok (.aload_n 0, 1) := by decide +kernel
theorem d_Md_feastLine_74 : decode prog_13_method_52_code 74 = .ok (.getfield 26, 3) := by decide +kernel
theorem d_Md_feastLine_77 : decode prog_13_method_52_code 77 = .ok (.iload_n 2, 1) := by decide +kernel
theorem d_Md_feastLine_78 : decode prog_13_method_52_code 78 = .ok (.iconst 2, 1) := by decide +kernel
theorem d_Md_feastLine_79 : decode prog_13_method_52_code 79 = .ok (.iadd, 1) := by decide +kernel
theorem d_Md_feastLine_80 : decode prog_13_method_52_code 80 = .ok (.iconst (-1), 1) := by decide +kernel
theorem d_Md_feastLine_81 : decode prog_13_method_52_code 81 = .ok (.iastore, 1) := by decide +kernel
theorem d_Md_feastLine_82 : decode prog_13_method_52_code 82 = .ok (.aload_n 0, 1) := by decide +kernel
theorem d_Md_feastLine_83 : decode prog_13_method_52_code 83 = .ok (.getfield 26, 3) := by decide +kernel
theorem d_Md_feastLine_86 : decode prog_13_method_52_code 86 = .ok (.iload_n 2, 1) := by decide +kernel
theorem d_Md_feastLine_87 : decode prog_13_method_52_code 87 = .ok (.iconst 3, 1) := by decide +kernel
theorem d_Md_feastLine_88 : decode prog_13_method_52_code 88 = .ok (.iadd, 1) := by decide +kernel
theorem d_Md_feastLine_89 : decode prog_13_method_52_code 89 = .ok (.aload_n 0, 1) := by decide +kernel
theorem d_Md_feastLine_90 : decode prog_13_method_52_code 90 = .ok (.bipush (-99), 2) := by decide +kernel
theorem d_Md_feastLine_92 : decode prog_13_method_52_code 92 = .ok (.invokevirtual 211, 3) := by decide +kernel
theorem d_Md_feastLine_95 : decode prog_13_method_52_code 95 = .ok (.iastore, 1) := by decide +kernel
theorem d_Md_feastLine_96 : decode prog_13_method_52_code 96 = .ok (.goto 68, 3) := by decide +kernel
theorem d_Md_feastLine_99 : decode prog_13_method_52_code 99 = .ok (.aload_n 0, 1) := by decide +kernel
theorem d_Md_feastLine_100 : decode prog_13_method_52_code 100 = .ok (.ldc 223, 2) := by decide +kernel
theorem d_Md_feastLine_102 : decode prog_13_method_52_code 102 = .ok (.invokevirtual 194, 3) := by decide +kernel
theorem d_Md_feastLine_105 : decode prog_13_method_52_code 105 = .ok (.aload_n 0, 1) := by decide +kernel
theorem d_Md_feastLine_106 : decode prog_13_method_52_code 106 = .ok (.getfield 26, 3) := by decide +kernel
theorem d_Md_feastLine_109 : decode prog_13_method_52_code 109 = .ok (.iload_n 2, 1) := by decide +kernel
theorem d_Md_feastLine_110 : decode prog_13_method_52_code 110 = .ok (.iconst 2, 1) := by decide +kernel
theorem d_Md_feastLine_111 : decode prog_13_method_52_code 111 = .ok (.iadd, 1) := by decide +kernel
theorem d_Md_feastLine_112 : decode prog_13_method_52_code 112 = .ok (.aload_n 0, 1) := by decide +kernel
theorem d_Md_feastLine_113 : decode prog_13_method_52_code 113 = .ok (.iconst 0, 1) := by decide +kernel
theorem d_Md_feastLine_114 : decode prog_13_method_52_code 114 = .ok (.aload_n 0, 1) := by decide +kernel
theorem d_Md_feastLine_115 : decode prog_13_method_52_code 115 = .ok (.getfield 26, 3) := by decide +kernel
theorem d_Md_feastLine_118 : decode prog_13_method_52_code 118 = .ok (.iconst 1, 1) := by decide +kernel
theorem d_Md_feastLine_119 : decode prog_13_method_52_code 119 = .ok (.iaload, 1) := by decide +kernel
theorem d_Md_feastLine_120 : decode prog_13_method_52_code 120 = .ok (.iconst 1, 1) := by decide +kernel
theorem d_Md_feastLine_121 : decode prog_13_method_52_code 121 = .ok (.isub, 1) := by decide +kernel
theorem d_Md_feastLine_122 : decode prog_13_method_52_code 122 = .ok (.invokevirtual 198, 3) := by decide +kernel
theorem d_Md_feastLine_125 : decode prog_13_method_52_code 125 = .ok (.iastore, 1) := by decide +kernel
theorem d_Md_feastLine_126 : decode prog_13_method_52_code 126 = .ok (.aload_n 0, 1) := by decide +kernel
theorem d_Md_feastLine_127 : decode prog_13_method_52_code 127 = .ok (.getfield 22, 3) := by decide +kernel
theorem d_Md_feastLine_130 : decode prog_13_method_52_code 130 = .ok (.iconst (-1), 1) := by decide +kernel
theorem d_Md_feastLine_131 : decode prog_13_method_52_code 131 = .ok (.if_icmp .ne 33, 3) := by decide +kernel
theorem d_Md_feastLine_134 : decode prog_13_method_52_code 134 = .ok (.aload_n 0, 1) := by decide +kernel
theorem d_Md_feastLine_135 : decode prog_13_method_52_code 135 = .ok (.getfield 26, 3) := by decide +kernel
theorem d_Md_feastLine_138 : decode prog_13_method_52_code 138 = .ok (.iload_n 2, 1) := by decide +kernel
theorem d_Md_feastLine_139 : decode prog_13_method_52_code 139 = .ok (.iconst 3, 1) := by decide +kernel
theorem d_Md_feastLine_140 : decode prog_13_method_52_code 140 = .ok (.iadd, 1) := by decide +kernel
theorem d_Md_feastLine_141 : decode prog_13_method_52_code 141 = .ok (.aload_n 0, 1) := by decide +kernel
theorem d_Md_feastLine_142 : decode prog_13_method_52_code 142 = .ok (.iconst 0, 1) := by decide +kernel
theorem d_Md_feastLine_143 : decode prog_13_method_52_code 143 = .ok (.aload_n 0, 1) := by decide +kernel
theorem d_Md_feastLine_144 : decode prog_13_method_52_code 144 = .ok (.getfield 26, 3) := by decide +kernel
theorem d_Md_feastLine_147 : decode prog_13_method_52_code 147 = .ok (.iconst 2, 1) := by decide +kernel
theorem d_Md_feastLine_148 : decode prog_13_method_52_code 148 = .ok (.aload_n 0, 1) := by decide +kernel
theorem d_Md_feastLine_149 : decode prog_13_method_52_code 149 = .ok (.getfield 26, 3) := by decide +kernel
theorem d_Md_feastLine_152 : decode prog_13_method_52_code 152 = .ok (.iload_n 2, 1) := by decide +kernel
theorem d_Md_feastLine_153 : decode prog_13_method_52_code 153 = .ok (.iconst 2, 1) := by decide +kernel
theorem d_Md_feastLine_154 : decode prog_13_method_52_code 154 = .ok (.iadd, 1) := by decide +kernel
theorem d_Md_feastLine_155 : decode prog_13_method_52_code 155 = .ok (.iaload, 1) := by decide +kernel
theorem d_Md_feastLine_156 : decode prog_13_method_52_code 156 = .ok (.iadd, 1) := by decide +kernel
theorem d_Md_feastLine_157 : decode prog_13_method_52_code 157 = .ok (.iaload, 1) := by decide +kernel
theorem d_Md_feastLine_158 : decode prog_13_method_52_code 158 = .ok (.iconst 1, 1) := by decide +kernel
theorem d_Md_feastLine_159 : decode prog_13_method_52_code 159 = .ok (.isub, 1) := by decide +kernel
theorem d_Md_feastLine_160 : decode prog_13_method_52_code 160 = .ok (.invokevirtual 198, 3) := by decide +kernel
theorem d_Md_feastLine_163 : decode prog_13_method_52_code 163 = .ok (.iastore, 1) := by decide +kernel
theorem d_Md_feastLine_164 : decode prog_13_method_52_code 164 = .ok (.aload_n 0, 1) := by decide +kernel
theorem d_Md_feastLine_165 : decode prog_13_method_52_code 165 = .ok (.getfield 22, 3) := by decide +kernel
theorem d_Md_feastLine_168 : decode prog_13_method_52_code 168 = .ok (.iconst (-1), 1) := by decide +kernel
theorem d_Md_feastLine_169 : decode prog_13_method_52_code 169 = .ok (.if_icmp .ne 15, 3) := by decide +kernel
theorem d_Md_feastLine_172 : decode prog_13_method_52_code 172 = .ok (.aload_n 0, 1) := by decide +kernel
theorem d_Md_feastLine_173 : decode prog_13_method_52_code 173 = .ok (.getfield 26, 3) := by decide +kernel
theorem d_Md_feastLine_176 : decode prog_13_method_52_code 176 = .ok (.iload_n 2, 1) := by decide +kernel
theorem d_Md_feastLine_177 : decode prog_13_method_52_code 177 = .ok (.iconst 4, 1) := by decide +kernel
theorem d_Md_feastLine_178 : decode prog_13_method_52_code 178 = .ok (.iadd, 1) := by decide +kernel
theorem d_Md_feastLine_179 : decode prog_13_method_52_code 179 = .ok (.aload_n 0, 1) := by decide +kernel
theorem d_Md_feastLine_180 : decode prog_13_method_52_code 180 = .ok (.invokevirtual 225, 3) := by decide +kernel
theorem d_Md_feastLine_183 : decode prog_13_method_52_code 183 = .ok (.iastore, 1) := by decide +kernel
theorem d_Md_feastLine_184 : decode prog_13_method_52_code 184 = .ok (.aload_n 0, 1) := by decide +kernel
theorem d_Md_feastLine_185 : decode prog_13_method_52_code 185 = .ok (.ldc 228, 2) := by decide +kernel
theorem d_Md_feastLine_187 : decode prog_13_method_52_code 187 = .ok (.invokevirtual 182, 3) := by decide +kernel
theorem d_Md_feastLine_190 : decode prog_13_method_52_code 190 = .ok (.ifCond .eq 18, 3) := by decide +kernel
theorem d_Md_feastLine_193 : decode prog_13_method_52_code 193 = .ok (.aload_n 0, 1) := by decide +kernel
theorem d_Md_feastLine_194 : decode prog_13_method_52_code 194 = .ok (.getfield 26, 3) := by decide +kernel
theorem d_Md_feastLine_197 : decode prog_13_method_52_code 197 = .ok (.iload_n 2, 1) := by decide +kernel
theorem d_Md_feastLine_198 : decode prog_13_method_52_code 198 = .ok (.iconst 5, 1) := by decide +kernel
theorem d_Md_feastLine_199 : decode prog_13_method_52_code 199 = .ok (.iadd, 1) := by decide +kernel
theorem d_Md_feastLine_200 : decode prog_13_method_52_code 200 = .ok (.aload_n 0, 1) := by decide +kernel
theorem d_Md_feastLine_201 : decode prog_13_method_52_code 201 = .ok (.iconst 1, 1) := by decide +kernel
theorem d_Md_feastLine_202 : decode prog_13_method_52_code 202 = .ok (.bipush 9, 2) := by decide +kernel
theorem d_Md_feastLine_204 : decode prog_13_method_52_code 204 = .ok (.invokevirtual 198, 3) := by decide +kernel
theorem d_Md_feastLine_207 : decode prog_13_method_52_code 207 = .ok (.iastore, 1) := by decide +kernel
theorem d_Md_feastLine_208 : decode prog_13_method_52_code 208 = .ok (.aload_n 0, 1) := by decide +kernel
theorem d_Md_feastLine_209 : decode prog_13_method_52_code 209 = .ok (.ldc 230, 2) := by decide +kernel
theorem d_Md_feastLine_211 : decode prog_13_method_52_code 211 = .ok (.invokevirtual 182, 3) := by decide +kernel
theorem d_Md_feastLine_214 : decode prog_13_method_52_code 214 = .ok (.ifCond .eq 19, 3) := by decide +kernel
theorem d_Md_feastLine_217 : decode prog_13_method_52_code 217 = .ok (.aload_n 0, 1) := by decide +kernel
theorem d_Md_feastLine_218 : decode prog_13_method_52_code 218 = .ok (.getfield 26, 3) := by decide +kernel
theorem d_Md_feastLine_221 : decode prog_13_method_52_code 221 = .ok (.iload_n 2, 1) := by decide +kernel
theorem d_Md_feastLine_222 : decode prog_13_method_52_code 222 = .ok (.bipush 6, 2) := by decide +kernel
theorem d_Md_feastLine_224 : decode prog_13_method_52_code 224 = .ok (.iadd, 1) := by decide +kernel
theorem d_Md_feastLine_225 : decode prog_13_method_52_code 225 = .ok (.aload_n 0, 1) := by decide +kernel
theorem d_Md_feastLine_226 : decode prog_13_method_52_code 226 = .ok (.iconst 1, 1) := by decide +kernel
theorem d_Md_feastLine_227 : decode prog_13_method_52_code 227 = .ok (.bipush 9, 2) := by decide +kernel
theorem d_Md_feastLine_229 : decode prog_13_method_52_code 229 = .ok (.invokevirtual 198, 3) := by decide +kernel
theorem d_Md_feastLine_232 : decode prog_13_method_52_code 232 = .ok (.iastore, 1) := by decide +kernel
theorem d_Md_feastLine_233 : decode prog_13_method_52_code 233 = .ok (.aload_n 0, 1) := by decide +kernel
theorem d_Md_feastLine_234 : decode prog_13_method_52_code 234 = .ok (.getfield 26, 3) := by decide +kernel
theorem d_Md_feastLine_237 : decode prog_13_method_52_code 237 = .ok (.bipush 42, 2) := by decide +kernel
theorem d_Md_feastLine_239 : decode prog_13_method_52_code 239 = .ok (.dup2, 1) := by decide +kernel
theorem d_Md_feastLine_240 : decode prog_13_method_52_code 240 = .ok (.iaload, 1) := by decide +kernel
theorem d_Md_feastLine_241 : decode prog_13_method_52_code 241 = .ok (.iconst 1, 1) := by decide +kernel
theorem d_Md_feastLine_242 : decode prog_13_method_52_code 242 = .ok (.iadd, 1) := by decide +kernel
theorem d_Md_feastLine_243 : decode prog_13_method_52_code 243 = .ok (.iastore, 1) := by decide +kernel
theorem d_Md_feastLine_244 : decode prog_13_method_52_code 244 = .ok (.return_, 1) := by decide +kernel
theorem mb_Md_lawWord : MBv R_Md y_Md_lawWord prog_13_method_51_code 3 (some .int) 0 := ⟨mT9 34 (by decide +kernel) (by decide +kernel), mTs 29 (by decide +kernel) (by decide +kernel), mT1 10 (by decide +kernel) (by decide +kernel), mT9 35 (by decide +kernel) (by decide +kernel), by decide, rfl, by decide +kernel, by decide +kernel, by decide +kernel⟩
theorem lk_Md_225 : Cond.methodLink "FeastBookModel" 225 y_Md_lawWord ∈ TT := mT9 32 (by decide +kernel) (by decide +kernel)
set_option maxHeartbeats 4000000 in
set_option maxRecDepth 100000 in
theorem c_Md_feastLine {l : Launch} {D : va_G} {ad : Nat → Nat} {cA : Nat → ClassId} {sd sv : Nat → Nat} {h : Hp} {N : Nat} {a1 : Int} {out : Hp} (hI : Inj97 ad) (hM : M_Md_feastLine N h a1 = some out) : Met l y_Md_feastLine (.code y_Md_feastLine prog_13_method_52_code 3 none :: TT) (rmD 6) (PC D ad cA sd sv h [.ref (ad 83), .int (iZ a1)]) (QV D ad cA out) 0 0 (FA ad) := by
  unfold M_Md_feastLine at hM
  refine entM (by decide +kernel) hI (Nat.le_of_ble_eq_true rfl) ?_
  intro p e s m args below meth c C hr hlk hP ls hl
  have C : Cx p s m args c prog_13_method_52_code 3 "FeastBookModel" D ad cA sd sv (FA ad) := C
  have hl : lv_has ls 3 [(0, .ref (ad 83)), (1, .int (iZ a1))] := hl
  have w : Wd s D ad cA (FA ad) h s.heap [] := ⟨hP, va_S.rf⟩
  refine m_aload_n C hl 0 d_Md_feastLine_0 rfl rfl ?_
  refine m_getr C w.1 kc_Md sh_83 (Nat.le_of_ble_eq_true rfl) 11 88 rfl (by decide) fk_Md_26 d_Md_feastLine_1 ?_
  refine m_bipush C d_Md_feastLine_4 (by decide) ?_
  refine m_iald C w.1 sh_88 (Nat.le_of_ble_eq_true rfl) (Nat.le_of_ble_eq_true rfl) hM d_Md_feastLine_6 (fun x1 hM => ?_)
  refine m_bipush C d_Md_feastLine_7 (by decide) ?_
  refine lt_join hM (fun j4 ej hM => ?_)
  have hJ4 : ∀ (h_4 : Hp), j4 h_4 = some out → ∀ (H : Heap) (locs : List Loc), Wd s D ad cA (FA ad) h_4 H locs → ∀ ls : Array Slot, lv_has ls 3 [(0, .ref (ad 83)), (1, .int (iZ a1))] → W p l e (rmD 6) s m args below meth c H locs 0 0 (MQ below (QV D ad cA out) args s 0 0 (FA ad)) (F0 m 17 ls []) := by
    intro h_4 hM H locs w ls hl
    subst ej
    dsimp only at hM
    refine m_aload_n C hl 0 d_Md_feastLine_17 rfl rfl ?_
    refine m_geti C w.1 kc_Md sh_83 (Nat.le_of_ble_eq_true rfl) 10 rfl (by decide) fk_Md_22 d_Md_feastLine_18 ?_
    refine m_iconst C d_Md_feastLine_21 ?_
    refine m_icmp_eq C hM 26 d_Md_feastLine_22 (by decide) (fun hM => ?_) (fun hM => ?_)
    · refine m_bipush C d_Md_feastLine_26 (by decide) ?_
      refine m_bipush C d_Md_feastLine_28 (by decide) ?_
      refine m_aload_n C hl 0 d_Md_feastLine_30 rfl rfl ?_
      refine m_getr C w.1 kc_Md sh_83 (Nat.le_of_ble_eq_true rfl) 11 88 rfl (by decide) fk_Md_26 d_Md_feastLine_31 ?_
      refine m_bipush C d_Md_feastLine_34 (by decide) ?_
      refine m_iald C w.1 sh_88 (Nat.le_of_ble_eq_true rfl) (Nat.le_of_ble_eq_true rfl) hM d_Md_feastLine_36 (fun x5 hM => ?_)
      refine m_imul C d_Md_feastLine_37 ?_
      refine m_iadd C d_Md_feastLine_38 ?_
      refine m_istore_n C hl [(2, .int (iZ (43 + (7 * x5)))), (0, .ref (ad 83)), (1, .int (iZ a1))] d_Md_feastLine_39 rfl (by decide) rfl (fun ls hl => ?_)
      refine m_aload_n C hl 1 d_Md_feastLine_40 rfl rfl ?_
      refine m_getr C w.1 kc_Md sh_83 (Nat.le_of_ble_eq_true rfl) 11 88 rfl (by decide) fk_Md_26 d_Md_feastLine_41 ?_
      refine m_iload_n C hl 0 d_Md_feastLine_44 rfl rfl ?_
      refine m_iconst C d_Md_feastLine_45 ?_
      refine m_iadd C d_Md_feastLine_46 ?_
      refine m_aload_n C hl 1 d_Md_feastLine_47 rfl rfl ?_
      refine m_iconst C d_Md_feastLine_48 ?_
      refine m_bipush C d_Md_feastLine_49 (by decide) ?_
      obtain ⟨q7, e6, hM⟩ := bnd_some hM
      refine aftI C w (runV C w.1 w.2 kc_Md sh_83 (Nat.le_of_ble_eq_true rfl) (c_Md_number hI e6) lk_Md_198 mb_Md_number rfl ⟨Nat.le_of_ble_eq_true rfl, Nat.le_of_ble_eq_true rfl⟩ ⟨Nat.zero_le _, Nat.zero_le _⟩ (Nat.le_of_ble_eq_true rfl) d_Md_feastLine_51 hl.1 (rest := [.int (iZ ((43 + (7 * x5)) + 0)), .ref (ad 88)]) rfl) (fun H locs w => ?_)
      refine m_iast C w sh_88 (Nat.le_of_ble_eq_true rfl) (Nat.le_of_ble_eq_true rfl) hM d_Md_feastLine_54 (fun h8 H locs w hM => ?_)
      refine m_aload_n C hl 1 d_Md_feastLine_55 rfl rfl ?_
      refine m_ldcS C 28 (by decide) rfl d_Md_feastLine_56 ?_
      obtain ⟨q10, e9, hM⟩ := bnd_some hM
      refine aftI C w (runV C w.1 w.2 kc_Md sh_83 (Nat.le_of_ble_eq_true rfl) (c_Md_has hI (by decide) e9) lk_Md_182 mb_Md_has rfl ⟨Nat.le_of_ble_eq_true rfl, Nat.le_of_ble_eq_true rfl⟩ ⟨Nat.zero_le _, Nat.zero_le _⟩ (Nat.le_of_ble_eq_true rfl) d_Md_feastLine_58 hl.1 (rest := []) rfl) (fun H locs w => ?_)
      refine lt_join hM (fun j27 ej hM => ?_)
      have hJ27 : ∀ (h_27 : Hp), j27 h_27 = some out → ∀ (H : Heap) (locs : List Loc), Wd s D ad cA (FA ad) h_27 H locs → ∀ ls : Array Slot, lv_has ls 3 [(0, .ref (ad 83)), (1, .int (iZ a1)), (2, .int (iZ (43 + (7 * x5))))] → W p l e (rmD 6) s m args below meth c H locs 0 0 (MQ below (QV D ad cA out) args s 0 0 (FA ad)) (F0 m 164 ls []) := by
        intro h_27 hM H locs w ls hl
        subst ej
        dsimp only at hM
        refine m_aload_n C hl 0 d_Md_feastLine_164 rfl rfl ?_
        refine m_geti C w.1 kc_Md sh_83 (Nat.le_of_ble_eq_true rfl) 10 rfl (by decide) fk_Md_22 d_Md_feastLine_165 ?_
        refine m_iconst C d_Md_feastLine_168 ?_
        refine lt_join hM (fun j31 ej hM => ?_)
        have hJ31 : ∀ (h_31 : Hp), j31 h_31 = some out → ∀ (H : Heap) (locs : List Loc), Wd s D ad cA (FA ad) h_31 H locs → ∀ ls : Array Slot, lv_has ls 3 [(0, .ref (ad 83)), (1, .int (iZ a1)), (2, .int (iZ (43 + (7 * x5))))] → W p l e (rmD 6) s m args below meth c H locs 0 0 (MQ below (QV D ad cA out) args s 0 0 (FA ad)) (F0 m 184 ls []) := by
          intro h_31 hM H locs w ls hl
          subst ej
          dsimp only at hM
          refine m_aload_n C hl 0 d_Md_feastLine_184 rfl rfl ?_
          refine m_ldcS C 34 (by decide) rfl d_Md_feastLine_185 ?_
          obtain ⟨q33, e32, hM⟩ := bnd_some hM
          refine aftI C w (runV C w.1 w.2 kc_Md sh_83 (Nat.le_of_ble_eq_true rfl) (c_Md_has hI (by decide) e32) lk_Md_182 mb_Md_has rfl ⟨Nat.le_of_ble_eq_true rfl, Nat.le_of_ble_eq_true rfl⟩ ⟨Nat.zero_le _, Nat.zero_le _⟩ (Nat.le_of_ble_eq_true rfl) d_Md_feastLine_187 hl.1 (rest := []) rfl) (fun H locs w => ?_)
          refine lt_join hM (fun j37 ej hM => ?_)
          have hJ37 : ∀ (h_37 : Hp), j37 h_37 = some out → ∀ (H : Heap) (locs : List Loc), Wd s D ad cA (FA ad) h_37 H locs → ∀ ls : Array Slot, lv_has ls 3 [(0, .ref (ad 83)), (1, .int (iZ a1)), (2, .int (iZ (43 + (7 * x5))))] → W p l e (rmD 6) s m args below meth c H locs 0 0 (MQ below (QV D ad cA out) args s 0 0 (FA ad)) (F0 m 208 ls []) := by
            intro h_37 hM H locs w ls hl
            subst ej
            dsimp only at hM
            refine m_aload_n C hl 0 d_Md_feastLine_208 rfl rfl ?_
            refine m_ldcS C 35 (by decide) rfl d_Md_feastLine_209 ?_
            obtain ⟨q39, e38, hM⟩ := bnd_some hM
            refine aftI C w (runV C w.1 w.2 kc_Md sh_83 (Nat.le_of_ble_eq_true rfl) (c_Md_has hI (by decide) e38) lk_Md_182 mb_Md_has rfl ⟨Nat.le_of_ble_eq_true rfl, Nat.le_of_ble_eq_true rfl⟩ ⟨Nat.zero_le _, Nat.zero_le _⟩ (Nat.le_of_ble_eq_true rfl) d_Md_feastLine_211 hl.1 (rest := []) rfl) (fun H locs w => ?_)
            refine m_if_eq C hM 233 d_Md_feastLine_214 (by decide) (fun hM => ?_) (fun hM => ?_)
            · refine m_aload_n C hl 0 d_Md_feastLine_233 rfl rfl ?_
              refine m_getr C w.1 kc_Md sh_83 (Nat.le_of_ble_eq_true rfl) 11 88 rfl (by decide) fk_Md_26 d_Md_feastLine_234 ?_
              refine m_bipush C d_Md_feastLine_237 (by decide) ?_
              refine m_dup2 C d_Md_feastLine_239 rfl rfl ?_
              refine m_iald C w.1 sh_88 (Nat.le_of_ble_eq_true rfl) (Nat.le_of_ble_eq_true rfl) hM d_Md_feastLine_240 (fun x40 hM => ?_)
              refine m_iconst C d_Md_feastLine_241 ?_
              refine m_iadd C d_Md_feastLine_242 ?_
              refine m_iast C w sh_88 (Nat.le_of_ble_eq_true rfl) (Nat.le_of_ble_eq_true rfl) hM d_Md_feastLine_243 (fun h41 H locs w hM => ?_)
              exact m_vretW C w hr hlk hM d_Md_feastLine_244
            · refine m_aload_n C hl 0 d_Md_feastLine_217 rfl rfl ?_
              refine m_getr C w.1 kc_Md sh_83 (Nat.le_of_ble_eq_true rfl) 11 88 rfl (by decide) fk_Md_26 d_Md_feastLine_218 ?_
              refine m_iload_n C hl 2 d_Md_feastLine_221 rfl rfl ?_
              refine m_bipush C d_Md_feastLine_222 (by decide) ?_
              refine m_iadd C d_Md_feastLine_224 ?_
              refine m_aload_n C hl 0 d_Md_feastLine_225 rfl rfl ?_
              refine m_iconst C d_Md_feastLine_226 ?_
              refine m_bipush C d_Md_feastLine_227 (by decide) ?_
              obtain ⟨q43, e42, hM⟩ := bnd_some hM
              refine aftI C w (runV C w.1 w.2 kc_Md sh_83 (Nat.le_of_ble_eq_true rfl) (c_Md_number hI e42) lk_Md_198 mb_Md_number rfl ⟨Nat.le_of_ble_eq_true rfl, Nat.le_of_ble_eq_true rfl⟩ ⟨Nat.zero_le _, Nat.zero_le _⟩ (Nat.le_of_ble_eq_true rfl) d_Md_feastLine_229 hl.1 (rest := [.int (iZ ((43 + (7 * x5)) + 6)), .ref (ad 88)]) rfl) (fun H locs w => ?_)
              refine m_iast C w sh_88 (Nat.le_of_ble_eq_true rfl) (Nat.le_of_ble_eq_true rfl) hM d_Md_feastLine_232 (fun h44 H locs w hM => ?_)
              refine m_aload_n C hl 0 d_Md_feastLine_233 rfl rfl ?_
              refine m_getr C w.1 kc_Md sh_83 (Nat.le_of_ble_eq_true rfl) 11 88 rfl (by decide) fk_Md_26 d_Md_feastLine_234 ?_
              refine m_bipush C d_Md_feastLine_237 (by decide) ?_
              refine m_dup2 C d_Md_feastLine_239 rfl rfl ?_
              refine m_iald C w.1 sh_88 (Nat.le_of_ble_eq_true rfl) (Nat.le_of_ble_eq_true rfl) hM d_Md_feastLine_240 (fun x45 hM => ?_)
              refine m_iconst C d_Md_feastLine_241 ?_
              refine m_iadd C d_Md_feastLine_242 ?_
              refine m_iast C w sh_88 (Nat.le_of_ble_eq_true rfl) (Nat.le_of_ble_eq_true rfl) hM d_Md_feastLine_243 (fun h46 H locs w hM => ?_)
              exact m_vretW C w hr hlk hM d_Md_feastLine_244
          refine m_if_eq C hM 208 d_Md_feastLine_190 (by decide) (fun hM => ?_) (fun hM => ?_)
          · exact hJ37 q33.2 hM _ _ w _ hl
          · refine m_aload_n C hl 0 d_Md_feastLine_193 rfl rfl ?_
            refine m_getr C w.1 kc_Md sh_83 (Nat.le_of_ble_eq_true rfl) 11 88 rfl (by decide) fk_Md_26 d_Md_feastLine_194 ?_
            refine m_iload_n C hl 2 d_Md_feastLine_197 rfl rfl ?_
            refine m_iconst C d_Md_feastLine_198 ?_
            refine m_iadd C d_Md_feastLine_199 ?_
            refine m_aload_n C hl 0 d_Md_feastLine_200 rfl rfl ?_
            refine m_iconst C d_Md_feastLine_201 ?_
            refine m_bipush C d_Md_feastLine_202 (by decide) ?_
            obtain ⟨q48, e47, hM⟩ := bnd_some hM
            refine aftI C w (runV C w.1 w.2 kc_Md sh_83 (Nat.le_of_ble_eq_true rfl) (c_Md_number hI e47) lk_Md_198 mb_Md_number rfl ⟨Nat.le_of_ble_eq_true rfl, Nat.le_of_ble_eq_true rfl⟩ ⟨Nat.zero_le _, Nat.zero_le _⟩ (Nat.le_of_ble_eq_true rfl) d_Md_feastLine_204 hl.1 (rest := [.int (iZ ((43 + (7 * x5)) + 5)), .ref (ad 88)]) rfl) (fun H locs w => ?_)
            refine m_iast C w sh_88 (Nat.le_of_ble_eq_true rfl) (Nat.le_of_ble_eq_true rfl) hM d_Md_feastLine_207 (fun h49 H locs w hM => ?_)
            exact hJ37 h49 hM _ _ w _ hl
        refine m_icmp_ne C hM 184 d_Md_feastLine_169 (by decide) (fun hM => ?_) (fun hM => ?_)
        · exact hJ31 h_27 hM _ _ w _ hl
        · refine m_aload_n C hl 0 d_Md_feastLine_172 rfl rfl ?_
          refine m_getr C w.1 kc_Md sh_83 (Nat.le_of_ble_eq_true rfl) 11 88 rfl (by decide) fk_Md_26 d_Md_feastLine_173 ?_
          refine m_iload_n C hl 2 d_Md_feastLine_176 rfl rfl ?_
          refine m_iconst C d_Md_feastLine_177 ?_
          refine m_iadd C d_Md_feastLine_178 ?_
          refine m_aload_n C hl 0 d_Md_feastLine_179 rfl rfl ?_
          obtain ⟨q51, e50, hM⟩ := bnd_some hM
          refine aftI C w (runV C w.1 w.2 kc_Md sh_83 (Nat.le_of_ble_eq_true rfl) (c_Md_lawWord hI e50) lk_Md_225 mb_Md_lawWord rfl ⟨Nat.le_of_ble_eq_true rfl, Nat.le_of_ble_eq_true rfl⟩ ⟨Nat.zero_le _, Nat.zero_le _⟩ (Nat.le_of_ble_eq_true rfl) d_Md_feastLine_180 hl.1 (rest := [.int (iZ ((43 + (7 * x5)) + 4)), .ref (ad 88)]) rfl) (fun H locs w => ?_)
          refine m_iast C w sh_88 (Nat.le_of_ble_eq_true rfl) (Nat.le_of_ble_eq_true rfl) hM d_Md_feastLine_183 (fun h52 H locs w hM => ?_)
          exact hJ31 h52 hM _ _ w _ hl
      refine m_if_eq C hM 99 d_Md_feastLine_61 (by decide) (fun hM => ?_) (fun hM => ?_)
      · refine m_aload_n C hl 1 d_Md_feastLine_99 rfl rfl ?_
        refine m_ldcS C 29 (by decide) rfl d_Md_feastLine_100 ?_
        obtain ⟨h54, e53, hM⟩ := bnd_some hM
        refine aftV C w (runV C w.1 w.2 kc_Md sh_83 (Nat.le_of_ble_eq_true rfl) (c_Md_expects hI (by decide) e53) lk_Md_194 mb_Md_expects rfl ⟨Nat.le_of_ble_eq_true rfl, Nat.le_of_ble_eq_true rfl⟩ ⟨Nat.zero_le _, Nat.zero_le _⟩ (Nat.le_of_ble_eq_true rfl) d_Md_feastLine_102 hl.1 (rest := []) rfl) (fun H locs w => ?_)
        refine m_aload_n C hl 1 d_Md_feastLine_105 rfl rfl ?_
        refine m_getr C w.1 kc_Md sh_83 (Nat.le_of_ble_eq_true rfl) 11 88 rfl (by decide) fk_Md_26 d_Md_feastLine_106 ?_
        refine m_iload_n C hl 0 d_Md_feastLine_109 rfl rfl ?_
        refine m_iconst C d_Md_feastLine_110 ?_
        refine m_iadd C d_Md_feastLine_111 ?_
        refine m_aload_n C hl 1 d_Md_feastLine_112 rfl rfl ?_
        refine m_iconst C d_Md_feastLine_113 ?_
        refine m_aload_n C hl 1 d_Md_feastLine_114 rfl rfl ?_
        refine m_getr C w.1 kc_Md sh_83 (Nat.le_of_ble_eq_true rfl) 11 88 rfl (by decide) fk_Md_26 d_Md_feastLine_115 ?_
        refine m_iconst C d_Md_feastLine_118 ?_
        refine m_iald C w.1 sh_88 (Nat.le_of_ble_eq_true rfl) (Nat.le_of_ble_eq_true rfl) hM d_Md_feastLine_119 (fun x55 hM => ?_)
        refine m_iconst C d_Md_feastLine_120 ?_
        refine m_isub C d_Md_feastLine_121 ?_
        obtain ⟨q57, e56, hM⟩ := bnd_some hM
        refine aftI C w (runV C w.1 w.2 kc_Md sh_83 (Nat.le_of_ble_eq_true rfl) (c_Md_number hI e56) lk_Md_198 mb_Md_number rfl ⟨Nat.le_of_ble_eq_true rfl, Nat.le_of_ble_eq_true rfl⟩ ⟨Nat.zero_le _, Nat.zero_le _⟩ (Nat.le_of_ble_eq_true rfl) d_Md_feastLine_122 hl.1 (rest := [.int (iZ ((43 + (7 * x5)) + 2)), .ref (ad 88)]) rfl) (fun H locs w => ?_)
        refine m_iast C w sh_88 (Nat.le_of_ble_eq_true rfl) (Nat.le_of_ble_eq_true rfl) hM d_Md_feastLine_125 (fun h58 H locs w hM => ?_)
        refine m_aload_n C hl 1 d_Md_feastLine_126 rfl rfl ?_
        refine m_geti C w.1 kc_Md sh_83 (Nat.le_of_ble_eq_true rfl) 10 rfl (by decide) fk_Md_22 d_Md_feastLine_127 ?_
        refine m_iconst C d_Md_feastLine_130 ?_
        refine m_icmp_ne C hM 164 d_Md_feastLine_131 (by decide) (fun hM => ?_) (fun hM => ?_)
        · exact hJ27 h58 hM _ _ w _ (lv_sub hl [1, 2, 0] rfl)
        · refine m_aload_n C hl 1 d_Md_feastLine_134 rfl rfl ?_
          refine m_getr C w.1 kc_Md sh_83 (Nat.le_of_ble_eq_true rfl) 11 88 rfl (by decide) fk_Md_26 d_Md_feastLine_135 ?_
          refine m_iload_n C hl 0 d_Md_feastLine_138 rfl rfl ?_
          refine m_iconst C d_Md_feastLine_139 ?_
          refine m_iadd C d_Md_feastLine_140 ?_
          refine m_aload_n C hl 1 d_Md_feastLine_141 rfl rfl ?_
          refine m_iconst C d_Md_feastLine_142 ?_
          refine m_aload_n C hl 1 d_Md_feastLine_143 rfl rfl ?_
          refine m_getr C w.1 kc_Md sh_83 (Nat.le_of_ble_eq_true rfl) 11 88 rfl (by decide) fk_Md_26 d_Md_feastLine_144 ?_
          refine m_iconst C d_Md_feastLine_147 ?_
          refine m_aload_n C hl 1 d_Md_feastLine_148 rfl rfl ?_
          refine m_getr C w.1 kc_Md sh_83 (Nat.le_of_ble_eq_true rfl) 11 88 rfl (by decide) fk_Md_26 d_Md_feastLine_149 ?_
          refine m_iload_n C hl 0 d_Md_feastLine_152 rfl rfl ?_
          refine m_iconst C d_Md_feastLine_153 ?_
          refine m_iadd C d_Md_feastLine_154 ?_
          refine m_iald C w.1 sh_88 (Nat.le_of_ble_eq_true rfl) (Nat.le_of_ble_eq_true rfl) hM d_Md_feastLine_155 (fun x59 hM => ?_)
          refine m_iadd C d_Md_feastLine_156 ?_
          refine m_iald C w.1 sh_88 (Nat.le_of_ble_eq_true rfl) (Nat.le_of_ble_eq_true rfl) hM d_Md_feastLine_157 (fun x60 hM => ?_)
          refine m_iconst C d_Md_feastLine_158 ?_
          refine m_isub C d_Md_feastLine_159 ?_
          obtain ⟨q62, e61, hM⟩ := bnd_some hM
          refine aftI C w (runV C w.1 w.2 kc_Md sh_83 (Nat.le_of_ble_eq_true rfl) (c_Md_number hI e61) lk_Md_198 mb_Md_number rfl ⟨Nat.le_of_ble_eq_true rfl, Nat.le_of_ble_eq_true rfl⟩ ⟨Nat.zero_le _, Nat.zero_le _⟩ (Nat.le_of_ble_eq_true rfl) d_Md_feastLine_160 hl.1 (rest := [.int (iZ ((43 + (7 * x5)) + 3)), .ref (ad 88)]) rfl) (fun H locs w => ?_)
          refine m_iast C w sh_88 (Nat.le_of_ble_eq_true rfl) (Nat.le_of_ble_eq_true rfl) hM d_Md_feastLine_163 (fun h63 H locs w hM => ?_)
          exact hJ27 h63 hM _ _ w _ (lv_sub hl [1, 2, 0] rfl)
      · refine m_aload_n C hl 1 d_Md_feastLine_64 rfl rfl ?_
        refine m_getr C w.1 kc_Md sh_83 (Nat.le_of_ble_eq_true rfl) 11 88 rfl (by decide) fk_Md_26 d_Md_feastLine_65 ?_
        refine m_iload_n C hl 0 d_Md_feastLine_68 rfl rfl ?_
        refine m_iconst C d_Md_feastLine_69 ?_
        refine m_iadd C d_Md_feastLine_70 ?_
        refine m_iconst C d_Md_feastLine_71 ?_
        refine m_iast C w sh_88 (Nat.le_of_ble_eq_true rfl) (Nat.le_of_ble_eq_true rfl) hM d_Md_feastLine_72 (fun h64 H locs w hM => ?_)
        refine m_aload_n C hl 1 d_Md_feastLine_73 rfl rfl ?_
        refine m_getr C w.1 kc_Md sh_83 (Nat.le_of_ble_eq_true rfl) 11 88 rfl (by decide) fk_Md_26 d_Md_feastLine_74 ?_
        refine m_iload_n C hl 0 d_Md_feastLine_77 rfl rfl ?_
        refine m_iconst C d_Md_feastLine_78 ?_
        refine m_iadd C d_Md_feastLine_79 ?_
        refine m_iconst C d_Md_feastLine_80 ?_
        refine m_iast C w sh_88 (Nat.le_of_ble_eq_true rfl) (Nat.le_of_ble_eq_true rfl) hM d_Md_feastLine_81 (fun h65 H locs w hM => ?_)
        refine m_aload_n C hl 1 d_Md_feastLine_82 rfl rfl ?_
        refine m_getr C w.1 kc_Md sh_83 (Nat.le_of_ble_eq_true rfl) 11 88 rfl (by decide) fk_Md_26 d_Md_feastLine_83 ?_
        refine m_iload_n C hl 0 d_Md_feastLine_86 rfl rfl ?_
        refine m_iconst C d_Md_feastLine_87 ?_
        refine m_iadd C d_Md_feastLine_88 ?_
        refine m_aload_n C hl 1 d_Md_feastLine_89 rfl rfl ?_
        refine m_bipush C d_Md_feastLine_90 (by decide) ?_
        obtain ⟨q67, e66, hM⟩ := bnd_some hM
        refine aftI C w (runV C w.1 w.2 kc_Md sh_83 (Nat.le_of_ble_eq_true rfl) (c_Md_signed hI e66) lk_Md_211 mb_Md_signed rfl ⟨Nat.le_of_ble_eq_true rfl, Nat.le_of_ble_eq_true rfl⟩ ⟨Nat.zero_le _, Nat.zero_le _⟩ (Nat.le_of_ble_eq_true rfl) d_Md_feastLine_92 hl.1 (rest := [.int (iZ ((43 + (7 * x5)) + 3)), .ref (ad 88)]) rfl) (fun H locs w => ?_)
        refine m_iast C w sh_88 (Nat.le_of_ble_eq_true rfl) (Nat.le_of_ble_eq_true rfl) hM d_Md_feastLine_95 (fun h68 H locs w hM => ?_)
        refine m_goto C 164 d_Md_feastLine_96 (by decide) ?_
        exact hJ27 h68 hM _ _ w _ (lv_sub hl [1, 2, 0] rfl)
    · exact m_vretW C w hr hlk hM d_Md_feastLine_25
  refine m_icmp_ne C hM 17 d_Md_feastLine_9 (by decide) (fun hM => ?_) (fun hM => ?_)
  · exact hJ4 h hM _ _ w _ hl
  · refine m_aload_n C hl 0 d_Md_feastLine_12 rfl rfl ?_
    refine m_iload_n C hl 1 d_Md_feastLine_13 rfl rfl ?_
    obtain ⟨h70, e69, hM⟩ := bnd_some hM
    refine aftV C w (runV C w.1 w.2 kc_Md sh_83 (Nat.le_of_ble_eq_true rfl) (c_Md_wrong hI e69) lk_Md_186 mb_Md_wrong rfl ⟨Nat.le_of_ble_eq_true rfl, Nat.le_of_ble_eq_true rfl⟩ ⟨Nat.zero_le _, Nat.zero_le _⟩ (Nat.le_of_ble_eq_true rfl) d_Md_feastLine_14 hl.1 (rest := []) rfl) (fun H locs w => ?_)
    exact hJ4 h70 hM _ _ w _ hl
def y_Md_line : MethodName := ⟨"FeastBookModel", "line", "()V"⟩
theorem d_Md_line_0 : decode prog_13_method_54_code 0 = .ok (.aload_n 0, 1) := by decide +kernel
theorem d_Md_line_1 : decode prog_13_method_54_code 1 = .ok (.invokevirtual 169, 3) := by decide +kernel
theorem d_Md_line_4 : decode prog_13_method_54_code 4 = .ok (.istore_n 1, 1) := by decide +kernel
theorem d_Md_line_5 : decode prog_13_method_54_code 5 = .ok (.aload_n 0, 1) := by decide +kernel
theorem d_Md_line_6 : decode prog_13_method_54_code 6 = .ok (.ldc 232, 2) := by decide +kernel
theorem d_Md_line_8 : decode prog_13_method_54_code 8 = .ok (.invokevirtual 182, 3) := by decide +kernel
theorem d_Md_line_11 : decode prog_13_method_54_code 11 = .ok (.ifCond .eq 17, 3) := by decide +kernel
theorem d_Md_line_14 : decode prog_13_method_54_code 14 = .ok (.aload_n 0, 1) := by decide +kernel
theorem d_Md_line_15 : decode prog_13_method_54_code 15 = .ok (.iconst 0, 1) := by decide +kernel
theorem d_Md_line_16 : decode prog_13_method_54_code 16 = .ok (.iload_n 1, 1) := by decide +kernel
theorem d_Md_line_17 : decode prog_13_method_54_code 17 = .ok (.bipush 16, 2) := by decide +kernel
theorem d_Md_line_19 : decode prog_13_method_54_code 19 = .ok (.iconst 1, 1) := by decide +kernel
theorem d_Md_line_20 : decode prog_13_method_54_code 20 = .ok (.bipush 60, 2) := by decide +kernel
theorem d_Md_line_22 : decode prog_13_method_54_code 22 = .ok (.invokevirtual 234, 3) := by decide +kernel
theorem d_Md_line_25 : decode prog_13_method_54_code 25 = .ok (.goto 122, 3) := by decide +kernel
theorem d_Md_line_28 : decode prog_13_method_54_code 28 = .ok (.aload_n 0, 1) := by decide +kernel
theorem d_Md_line_29 : decode prog_13_method_54_code 29 = .ok (.ldc 238, 2) := by decide +kernel
theorem d_Md_line_31 : decode prog_13_method_54_code 31 = .ok (.invokevirtual 182, 3) := by decide +kernel
theorem d_Md_line_34 : decode prog_13_method_54_code 34 = .ok (.ifCond .eq 17, 3) := by decide +kernel
theorem d_Md_line_37 : decode prog_13_method_54_code 37 = .ok (.aload_n 0, 1) := by decide +kernel
theorem d_Md_line_38 : decode prog_13_method_54_code 38 = .ok (.iconst 1, 1) := by decide +kernel
theorem d_Md_line_39 : decode prog_13_method_54_code 39 = .ok (.iload_n 1, 1) := by decide +kernel
theorem d_Md_line_40 : decode prog_13_method_54_code 40 = .ok (.bipush 19, 2) := by decide +kernel
theorem d_Md_line_42 : decode prog_13_method_54_code 42 = .ok (.iconst 0, 1) := by decide +kernel
theorem d_Md_line_43 : decode prog_13_method_54_code 43 = .ok (.bipush 9, 2) := by decide +kernel
theorem d_Md_line_45 : decode prog_13_method_54_code 45 = .ok (.invokevirtual 234, 3) := by decide +kernel
theorem d_Md_line_48 : decode prog_13_method_54_code 48 = .ok (.goto 99, 3) := by decide +kernel
theorem d_Md_line_51 : decode prog_13_method_54_code 51 = .ok (.aload_n 0, 1) := by decide +kernel
theorem d_Md_line_52 : decode prog_13_method_54_code 52 = .ok (.ldc 240, 2) := by decide +kernel
theorem d_Md_line_54 : decode prog_13_method_54_code 54 = .ok (.invokevirtual 182, 3) := by decide +kernel
theorem d_Md_line_57 : decode prog_13_method_54_code 57 = .ok (.ifCond .eq 17, 3) := by decide +kernel
theorem d_Md_line_60 : decode prog_13_method_54_code 60 = .ok (.aload_n 0, 1) := by decide +kernel
theorem d_Md_line_61 : decode prog_13_method_54_code 61 = .ok (.iconst 2, 1) := by decide +kernel
theorem d_Md_line_62 : decode prog_13_method_54_code 62 = .ok (.iload_n 1, 1) := by decide +kernel
theorem d_Md_line_63 : decode prog_13_method_54_code 63 = .ok (.bipush 18, 2) := by decide +kernel
theorem d_Md_line_65 : decode prog_13_method_54_code 65 = .ok (.iconst 1, 1) := by decide +kernel
theorem d_Md_line_66 : decode prog_13_method_54_code 66 = .ok (.bipush 9, 2) := by decide +kernel
theorem d_Md_line_68 : decode prog_13_method_54_code 68 = .ok (.invokevirtual 234, 3) := by decide +kernel
theorem d_Md_line_71 : decode prog_13_method_54_code 71 = .ok (.goto 76, 3) := by decide +kernel
theorem d_Md_line_74 : decode prog_13_method_54_code 74 = .ok (.aload_n 0, 1) := by decide +kernel
theorem d_Md_line_75 : decode prog_13_method_54_code 75 = .ok (.ldc 242, 2) := by decide +kernel
theorem d_Md_line_77 : decode prog_13_method_54_code 77 = .ok (.invokevirtual 182, 3) := by decide +kernel
theorem d_Md_line_80 : decode prog_13_method_54_code 80 = .ok (.ifCond .eq 10, 3) := by decide +kernel
theorem d_Md_line_83 : decode prog_13_method_54_code 83 = .ok (.aload_n 0, 1) := by decide +kernel
theorem d_Md_line_84 : decode prog_13_method_54_code 84 = .ok (.invokevirtual 244, 3) := by decide +kernel
theorem d_Md_line_87 : decode prog_13_method_54_code 87 = .ok (.goto 60, 3) := by decide +kernel
theorem d_Md_line_90 : decode prog_13_method_54_code 90 = .ok (.aload_n 0, 1) := by decide +kernel
theorem d_Md_line_91 : decode prog_13_method_54_code 91 = .ok (.ldc 247, 2) := by decide +kernel
theorem d_Md_line_93 : decode prog_13_method_54_code 93 = .ok (.invokevirtual 182, 3) := by decide +kernel
theorem d_Md_line_96 : decode prog_13_method_54_code 96 = .ok (.ifCond .eq 11, 3) := by decide +kernel
theorem d_Md_line_99 : decode prog_13_method_54_code 99 = .ok (.aload_n 0, 1) := by decide +kernel
theorem d_Md_line_100 : decode prog_13_method_54_code 100 = .ok (.iload_n 1, 1) := by decide +kernel
theorem d_Md_line_101 : decode prog_13_method_54_code 101 = .ok (.invokevirtual 249, 3) := by decide +kernel
theorem d_Md_line_104 : decode prog_13_method_54_code 104 = .ok (.goto 43, 3) := by decide +kernel
theorem d_Md_line_107 : decode prog_13_method_54_code 107 = .ok (.aload_n 0, 1) := by decide +kernel
theorem d_Md_line_108 : decode prog_13_method_54_code 108 = .ok (.ldc 252, 2) := by decide +kernel
theorem d_Md_line_110 : decode prog_13_method_54_code 110 = .ok (.invokevirtual 182, 3) := by decide +kernel
theorem d_Md_line_113 : decode prog_13_method_54_code 113 = .ok (.ifCond .eq 11, 3) := by decide +kernel
theorem d_Md_line_116 : decode prog_13_method_54_code 116 = .ok (.aload_n 0, 1) := by decide +kernel
theorem d_Md_line_117 : decode prog_13_method_54_code 117 = .ok (.iload_n 1, 1) := by decide +kernel
theorem d_Md_line_118 : decode prog_13_method_54_code 118 = .ok (.invokevirtual 254, 3) := by decide +kernel
theorem d_Md_line_121 : decode prog_13_method_54_code 121 = .ok (.goto 26, 3) := by decide +kernel
theorem d_Md_line_124 : decode prog_13_method_54_code 124 = .ok (.aload_n 0, 1) := by decide +kernel
theorem d_Md_line_125 : decode prog_13_method_54_code 125 = .ok (.ldc_w 257, 3) := by decide +kernel
theorem d_Md_line_128 : decode prog_13_method_54_code 128 = .ok (.invokevirtual 182, 3) := by decide +kernel
theorem d_Md_line_131 : decode prog_13_method_54_code 131 = .ok (.ifCond .eq 11, 3) := by decide +kernel
theorem d_Md_line_134 : decode prog_13_method_54_code 134 = .ok (.aload_n 0, 1) := by decide +kernel
theorem d_Md_line_135 : decode prog_13_method_54_code 135 = .ok (.iload_n 1, 1) := by decide +kernel
theorem d_Md_line_136 : decode prog_13_method_54_code 136 = .ok (.invokevirtual 259, 3) := by decide +kernel
theorem d_Md_line_139 : decode prog_13_method_54_code 139 = .ok (.goto 8, 3) := by decide +kernel
theorem d_Md_line_142 : decode prog_13_method_54_code 142 = .ok (.aload_n 0, 1) := by decide +kernel
theorem d_Md_line_143 : decode prog_13_method_54_code 143 = .ok (.iload_n 1, 1) := by decide +kernel
theorem d_Md_line_144 : decode prog_13_method_54_code 144 = .ok (.invokevirtual 186, 3) := by decide +kernel
theorem d_Md_line_147 : decode prog_13_method_54_code 147 = .ok (.return_, 1) := by decide +kernel
theorem mb_Md_closedLine : MBv R_Md y_Md_closedLine prog_13_method_50_code 3 none 1 := ⟨mT9 23 (by decide +kernel) (by decide +kernel), mTs 27 (by decide +kernel) (by decide +kernel), mT1 10 (by decide +kernel) (by decide +kernel), mT9 24 (by decide +kernel) (by decide +kernel), by decide, rfl, by decide +kernel, by decide +kernel, by decide +kernel⟩
theorem mb_Md_fastLine : MBv R_Md y_Md_fastLine prog_13_method_53_code 3 none 0 := ⟨mT9 9 (by decide +kernel) (by decide +kernel), mTs 24 (by decide +kernel) (by decide +kernel), mT1 10 (by decide +kernel) (by decide +kernel), mT9 10 (by decide +kernel) (by decide +kernel), by decide, rfl, by decide +kernel, by decide +kernel, by decide +kernel⟩
theorem mb_Md_feastLine : MBv R_Md y_Md_feastLine prog_13_method_52_code 3 none 1 := ⟨mT9 28 (by decide +kernel) (by decide +kernel), mTs 28 (by decide +kernel) (by decide +kernel), mT1 10 (by decide +kernel) (by decide +kernel), mT9 29 (by decide +kernel) (by decide +kernel), by decide, rfl, by decide +kernel, by decide +kernel, by decide +kernel⟩
theorem mb_Md_once : MBv R_Md y_Md_once prog_13_method_48_code 6 none 5 := ⟨mT9 2 (by decide +kernel) (by decide +kernel), mTs 23 (by decide +kernel) (by decide +kernel), mT1 10 (by decide +kernel) (by decide +kernel), mT9 3 (by decide +kernel) (by decide +kernel), by decide, rfl, by decide +kernel, by decide +kernel, by decide +kernel⟩
theorem mb_Md_seasonLine : MBv R_Md y_Md_seasonLine prog_13_method_49_code 3 none 1 := ⟨mT9 14 (by decide +kernel) (by decide +kernel), mTs 25 (by decide +kernel) (by decide +kernel), mT1 10 (by decide +kernel) (by decide +kernel), mT9 15 (by decide +kernel) (by decide +kernel), by decide, rfl, by decide +kernel, by decide +kernel, by decide +kernel⟩
theorem lk_Md_234 : Cond.methodLink "FeastBookModel" 234 y_Md_once ∈ TT := mT9 0 (by decide +kernel) (by decide +kernel)
theorem lk_Md_244 : Cond.methodLink "FeastBookModel" 244 y_Md_fastLine ∈ TT := mT9 7 (by decide +kernel) (by decide +kernel)
theorem lk_Md_249 : Cond.methodLink "FeastBookModel" 249 y_Md_seasonLine ∈ TT := mT9 12 (by decide +kernel) (by decide +kernel)
theorem lk_Md_254 : Cond.methodLink "FeastBookModel" 254 y_Md_closedLine ∈ TT := mT9 21 (by decide +kernel) (by decide +kernel)
theorem lk_Md_259 : Cond.methodLink "FeastBookModel" 259 y_Md_feastLine ∈ TT := mT9 26 (by decide +kernel) (by decide +kernel)
set_option maxHeartbeats 4000000 in
set_option maxRecDepth 100000 in
theorem c_Md_line {l : Launch} {D : va_G} {ad : Nat → Nat} {cA : Nat → ClassId} {sd sv : Nat → Nat} {h : Hp} {N : Nat} {out : Hp} (hI : Inj97 ad) (hM : M_Md_line N h = some out) : Met l y_Md_line (.code y_Md_line prog_13_method_54_code 2 none :: TT) (rmD 7) (PC D ad cA sd sv h [.ref (ad 83)]) (QV D ad cA out) 0 0 (FA ad) := by
  unfold M_Md_line at hM
  refine entM (by decide +kernel) hI (Nat.le_of_ble_eq_true rfl) ?_
  intro p e s m args below meth c C hr hlk hP ls hl
  have C : Cx p s m args c prog_13_method_54_code 2 "FeastBookModel" D ad cA sd sv (FA ad) := C
  have hl : lv_has ls 2 [(0, .ref (ad 83))] := hl
  have w : Wd s D ad cA (FA ad) h s.heap [] := ⟨hP, va_S.rf⟩
  refine m_aload_n C hl 0 d_Md_line_0 rfl rfl ?_
  obtain ⟨q2, e1, hM⟩ := bnd_some hM
  refine aftI C w (runV C w.1 w.2 kc_Md sh_83 (Nat.le_of_ble_eq_true rfl) (c_Md_here hI e1) lk_Md_169 mb_Md_here rfl ⟨Nat.le_of_ble_eq_true rfl, Nat.le_of_ble_eq_true rfl⟩ ⟨Nat.zero_le _, Nat.zero_le _⟩ (Nat.le_of_ble_eq_true rfl) d_Md_line_1 hl.1 (rest := []) rfl) (fun H locs w => ?_)
  refine m_istore_n C hl [(1, .int (iZ q2.1)), (0, .ref (ad 83))] d_Md_line_4 rfl (by decide) rfl (fun ls hl => ?_)
  refine m_aload_n C hl 1 d_Md_line_5 rfl rfl ?_
  refine m_ldcS C 21 (by decide) rfl d_Md_line_6 ?_
  obtain ⟨q4, e3, hM⟩ := bnd_some hM
  refine aftI C w (runV C w.1 w.2 kc_Md sh_83 (Nat.le_of_ble_eq_true rfl) (c_Md_has hI (by decide) e3) lk_Md_182 mb_Md_has rfl ⟨Nat.le_of_ble_eq_true rfl, Nat.le_of_ble_eq_true rfl⟩ ⟨Nat.zero_le _, Nat.zero_le _⟩ (Nat.le_of_ble_eq_true rfl) d_Md_line_8 hl.1 (rest := []) rfl) (fun H locs w => ?_)
  refine m_if_eq C hM 28 d_Md_line_11 (by decide) (fun hM => ?_) (fun hM => ?_)
  · refine m_aload_n C hl 1 d_Md_line_28 rfl rfl ?_
    refine m_ldcS C 22 (by decide) rfl d_Md_line_29 ?_
    obtain ⟨q6, e5, hM⟩ := bnd_some hM
    refine aftI C w (runV C w.1 w.2 kc_Md sh_83 (Nat.le_of_ble_eq_true rfl) (c_Md_has hI (by decide) e5) lk_Md_182 mb_Md_has rfl ⟨Nat.le_of_ble_eq_true rfl, Nat.le_of_ble_eq_true rfl⟩ ⟨Nat.zero_le _, Nat.zero_le _⟩ (Nat.le_of_ble_eq_true rfl) d_Md_line_31 hl.1 (rest := []) rfl) (fun H locs w => ?_)
    refine m_if_eq C hM 51 d_Md_line_34 (by decide) (fun hM => ?_) (fun hM => ?_)
    · refine m_aload_n C hl 1 d_Md_line_51 rfl rfl ?_
      refine m_ldcS C 23 (by decide) rfl d_Md_line_52 ?_
      obtain ⟨q8, e7, hM⟩ := bnd_some hM
      refine aftI C w (runV C w.1 w.2 kc_Md sh_83 (Nat.le_of_ble_eq_true rfl) (c_Md_has hI (by decide) e7) lk_Md_182 mb_Md_has rfl ⟨Nat.le_of_ble_eq_true rfl, Nat.le_of_ble_eq_true rfl⟩ ⟨Nat.zero_le _, Nat.zero_le _⟩ (Nat.le_of_ble_eq_true rfl) d_Md_line_54 hl.1 (rest := []) rfl) (fun H locs w => ?_)
      refine m_if_eq C hM 74 d_Md_line_57 (by decide) (fun hM => ?_) (fun hM => ?_)
      · refine m_aload_n C hl 1 d_Md_line_74 rfl rfl ?_
        refine m_ldcS C 24 (by decide) rfl d_Md_line_75 ?_
        obtain ⟨q10, e9, hM⟩ := bnd_some hM
        refine aftI C w (runV C w.1 w.2 kc_Md sh_83 (Nat.le_of_ble_eq_true rfl) (c_Md_has hI (by decide) e9) lk_Md_182 mb_Md_has rfl ⟨Nat.le_of_ble_eq_true rfl, Nat.le_of_ble_eq_true rfl⟩ ⟨Nat.zero_le _, Nat.zero_le _⟩ (Nat.le_of_ble_eq_true rfl) d_Md_line_77 hl.1 (rest := []) rfl) (fun H locs w => ?_)
        refine m_if_eq C hM 90 d_Md_line_80 (by decide) (fun hM => ?_) (fun hM => ?_)
        · refine m_aload_n C hl 1 d_Md_line_90 rfl rfl ?_
          refine m_ldcS C 25 (by decide) rfl d_Md_line_91 ?_
          obtain ⟨q12, e11, hM⟩ := bnd_some hM
          refine aftI C w (runV C w.1 w.2 kc_Md sh_83 (Nat.le_of_ble_eq_true rfl) (c_Md_has hI (by decide) e11) lk_Md_182 mb_Md_has rfl ⟨Nat.le_of_ble_eq_true rfl, Nat.le_of_ble_eq_true rfl⟩ ⟨Nat.zero_le _, Nat.zero_le _⟩ (Nat.le_of_ble_eq_true rfl) d_Md_line_93 hl.1 (rest := []) rfl) (fun H locs w => ?_)
          refine m_if_eq C hM 107 d_Md_line_96 (by decide) (fun hM => ?_) (fun hM => ?_)
          · refine m_aload_n C hl 1 d_Md_line_107 rfl rfl ?_
            refine m_ldcS C 26 (by decide) rfl d_Md_line_108 ?_
            obtain ⟨q14, e13, hM⟩ := bnd_some hM
            refine aftI C w (runV C w.1 w.2 kc_Md sh_83 (Nat.le_of_ble_eq_true rfl) (c_Md_has hI (by decide) e13) lk_Md_182 mb_Md_has rfl ⟨Nat.le_of_ble_eq_true rfl, Nat.le_of_ble_eq_true rfl⟩ ⟨Nat.zero_le _, Nat.zero_le _⟩ (Nat.le_of_ble_eq_true rfl) d_Md_line_110 hl.1 (rest := []) rfl) (fun H locs w => ?_)
            refine m_if_eq C hM 124 d_Md_line_113 (by decide) (fun hM => ?_) (fun hM => ?_)
            · refine m_aload_n C hl 1 d_Md_line_124 rfl rfl ?_
              refine m_ldcSW C 27 (by decide) rfl d_Md_line_125 ?_
              obtain ⟨q16, e15, hM⟩ := bnd_some hM
              refine aftI C w (runV C w.1 w.2 kc_Md sh_83 (Nat.le_of_ble_eq_true rfl) (c_Md_has hI (by decide) e15) lk_Md_182 mb_Md_has rfl ⟨Nat.le_of_ble_eq_true rfl, Nat.le_of_ble_eq_true rfl⟩ ⟨Nat.zero_le _, Nat.zero_le _⟩ (Nat.le_of_ble_eq_true rfl) d_Md_line_128 hl.1 (rest := []) rfl) (fun H locs w => ?_)
              refine m_if_eq C hM 142 d_Md_line_131 (by decide) (fun hM => ?_) (fun hM => ?_)
              · refine m_aload_n C hl 1 d_Md_line_142 rfl rfl ?_
                refine m_iload_n C hl 0 d_Md_line_143 rfl rfl ?_
                obtain ⟨h18, e17, hM⟩ := bnd_some hM
                refine aftV C w (runV C w.1 w.2 kc_Md sh_83 (Nat.le_of_ble_eq_true rfl) (c_Md_wrong hI e17) lk_Md_186 mb_Md_wrong rfl ⟨Nat.le_of_ble_eq_true rfl, Nat.le_of_ble_eq_true rfl⟩ ⟨Nat.zero_le _, Nat.zero_le _⟩ (Nat.le_of_ble_eq_true rfl) d_Md_line_144 hl.1 (rest := []) rfl) (fun H locs w => ?_)
                exact m_vretW C w hr hlk hM d_Md_line_147
              · refine m_aload_n C hl 1 d_Md_line_134 rfl rfl ?_
                refine m_iload_n C hl 0 d_Md_line_135 rfl rfl ?_
                obtain ⟨h20, e19, hM⟩ := bnd_some hM
                refine aftV C w (runV C w.1 w.2 kc_Md sh_83 (Nat.le_of_ble_eq_true rfl) (c_Md_feastLine hI e19) lk_Md_259 mb_Md_feastLine rfl ⟨Nat.le_of_ble_eq_true rfl, Nat.le_of_ble_eq_true rfl⟩ ⟨Nat.zero_le _, Nat.zero_le _⟩ (Nat.le_of_ble_eq_true rfl) d_Md_line_136 hl.1 (rest := []) rfl) (fun H locs w => ?_)
                refine m_goto C 147 d_Md_line_139 (by decide) ?_
                exact m_vretW C w hr hlk hM d_Md_line_147
            · refine m_aload_n C hl 1 d_Md_line_116 rfl rfl ?_
              refine m_iload_n C hl 0 d_Md_line_117 rfl rfl ?_
              obtain ⟨h22, e21, hM⟩ := bnd_some hM
              refine aftV C w (runV C w.1 w.2 kc_Md sh_83 (Nat.le_of_ble_eq_true rfl) (c_Md_closedLine hI e21) lk_Md_254 mb_Md_closedLine rfl ⟨Nat.le_of_ble_eq_true rfl, Nat.le_of_ble_eq_true rfl⟩ ⟨Nat.zero_le _, Nat.zero_le _⟩ (Nat.le_of_ble_eq_true rfl) d_Md_line_118 hl.1 (rest := []) rfl) (fun H locs w => ?_)
              refine m_goto C 147 d_Md_line_121 (by decide) ?_
              exact m_vretW C w hr hlk hM d_Md_line_147
          · refine m_aload_n C hl 1 d_Md_line_99 rfl rfl ?_
            refine m_iload_n C hl 0 d_Md_line_100 rfl rfl ?_
            obtain ⟨h24, e23, hM⟩ := bnd_some hM
            refine aftV C w (runV C w.1 w.2 kc_Md sh_83 (Nat.le_of_ble_eq_true rfl) (c_Md_seasonLine hI e23) lk_Md_249 mb_Md_seasonLine rfl ⟨Nat.le_of_ble_eq_true rfl, Nat.le_of_ble_eq_true rfl⟩ ⟨Nat.zero_le _, Nat.zero_le _⟩ (Nat.le_of_ble_eq_true rfl) d_Md_line_101 hl.1 (rest := []) rfl) (fun H locs w => ?_)
            refine m_goto C 147 d_Md_line_104 (by decide) ?_
            exact m_vretW C w hr hlk hM d_Md_line_147
        · refine m_aload_n C hl 1 d_Md_line_83 rfl rfl ?_
          obtain ⟨h26, e25, hM⟩ := bnd_some hM
          refine aftV C w (runV C w.1 w.2 kc_Md sh_83 (Nat.le_of_ble_eq_true rfl) (c_Md_fastLine hI e25) lk_Md_244 mb_Md_fastLine rfl ⟨Nat.le_of_ble_eq_true rfl, Nat.le_of_ble_eq_true rfl⟩ ⟨Nat.zero_le _, Nat.zero_le _⟩ (Nat.le_of_ble_eq_true rfl) d_Md_line_84 hl.1 (rest := []) rfl) (fun H locs w => ?_)
          refine m_goto C 147 d_Md_line_87 (by decide) ?_
          exact m_vretW C w hr hlk hM d_Md_line_147
      · refine m_aload_n C hl 1 d_Md_line_60 rfl rfl ?_
        refine m_iconst C d_Md_line_61 ?_
        refine m_iload_n C hl 0 d_Md_line_62 rfl rfl ?_
        refine m_bipush C d_Md_line_63 (by decide) ?_
        refine m_iconst C d_Md_line_65 ?_
        refine m_bipush C d_Md_line_66 (by decide) ?_
        obtain ⟨h28, e27, hM⟩ := bnd_some hM
        refine aftV C w (runV C w.1 w.2 kc_Md sh_83 (Nat.le_of_ble_eq_true rfl) (c_Md_once hI e27) lk_Md_234 mb_Md_once rfl ⟨Nat.le_of_ble_eq_true rfl, Nat.le_of_ble_eq_true rfl⟩ ⟨Nat.zero_le _, Nat.zero_le _⟩ (Nat.le_of_ble_eq_true rfl) d_Md_line_68 hl.1 (rest := []) rfl) (fun H locs w => ?_)
        refine m_goto C 147 d_Md_line_71 (by decide) ?_
        exact m_vretW C w hr hlk hM d_Md_line_147
    · refine m_aload_n C hl 1 d_Md_line_37 rfl rfl ?_
      refine m_iconst C d_Md_line_38 ?_
      refine m_iload_n C hl 0 d_Md_line_39 rfl rfl ?_
      refine m_bipush C d_Md_line_40 (by decide) ?_
      refine m_iconst C d_Md_line_42 ?_
      refine m_bipush C d_Md_line_43 (by decide) ?_
      obtain ⟨h30, e29, hM⟩ := bnd_some hM
      refine aftV C w (runV C w.1 w.2 kc_Md sh_83 (Nat.le_of_ble_eq_true rfl) (c_Md_once hI e29) lk_Md_234 mb_Md_once rfl ⟨Nat.le_of_ble_eq_true rfl, Nat.le_of_ble_eq_true rfl⟩ ⟨Nat.zero_le _, Nat.zero_le _⟩ (Nat.le_of_ble_eq_true rfl) d_Md_line_45 hl.1 (rest := []) rfl) (fun H locs w => ?_)
      refine m_goto C 147 d_Md_line_48 (by decide) ?_
      exact m_vretW C w hr hlk hM d_Md_line_147
  · refine m_aload_n C hl 1 d_Md_line_14 rfl rfl ?_
    refine m_iconst C d_Md_line_15 ?_
    refine m_iload_n C hl 0 d_Md_line_16 rfl rfl ?_
    refine m_bipush C d_Md_line_17 (by decide) ?_
    refine m_iconst C d_Md_line_19 ?_
    refine m_bipush C d_Md_line_20 (by decide) ?_
    obtain ⟨h32, e31, hM⟩ := bnd_some hM
    refine aftV C w (runV C w.1 w.2 kc_Md sh_83 (Nat.le_of_ble_eq_true rfl) (c_Md_once hI e31) lk_Md_234 mb_Md_once rfl ⟨Nat.le_of_ble_eq_true rfl, Nat.le_of_ble_eq_true rfl⟩ ⟨Nat.zero_le _, Nat.zero_le _⟩ (Nat.le_of_ble_eq_true rfl) d_Md_line_22 hl.1 (rest := []) rfl) (fun H locs w => ?_)
    refine m_goto C 147 d_Md_line_25 (by decide) ?_
    exact m_vretW C w hr hlk hM d_Md_line_147
def y_Md_book : MethodName := ⟨"FeastBookModel", "book", "()I"⟩
theorem d_Md_book_0 : decode prog_13_method_55_code 0 = .ok (.aload_n 0, 1) := by decide +kernel
theorem d_Md_book_1 : decode prog_13_method_55_code 1 = .ok (.iconst (-1), 1) := by decide +kernel
theorem d_Md_book_2 : decode prog_13_method_55_code 2 = .ok (.putfield 22, 3) := by decide +kernel
theorem d_Md_book_5 : decode prog_13_method_55_code 5 = .ok (.aload_n 0, 1) := by decide +kernel
theorem d_Md_book_6 : decode prog_13_method_55_code 6 = .ok (.aload_n 0, 1) := by decide +kernel
theorem d_Md_book_7 : decode prog_13_method_55_code 7 = .ok (.getfield 160, 3) := by decide +kernel
theorem d_Md_book_10 : decode prog_13_method_55_code 10 = .ok (.putfield 166, 3) := by decide +kernel
theorem d_Md_book_13 : decode prog_13_method_55_code 13 = .ok (.aload_n 0, 1) := by decide +kernel
theorem d_Md_book_14 : decode prog_13_method_55_code 14 = .ok (.iconst 0, 1) := by decide +kernel
theorem d_Md_book_15 : decode prog_13_method_55_code 15 = .ok (.putfield 160, 3) := by decide +kernel
theorem d_Md_book_18 : decode prog_13_method_55_code 18 = .ok (.aload_n 0, 1) := by decide +kernel
theorem d_Md_book_19 : decode prog_13_method_55_code 19 = .ok (.iconst 0, 1) := by decide +kernel
theorem d_Md_book_20 : decode prog_13_method_55_code 20 = .ok (.putfield 163, 3) := by decide +kernel
theorem d_Md_book_23 : decode prog_13_method_55_code 23 = .ok (.aload_n 0, 1) := by decide +kernel
theorem d_Md_book_24 : decode prog_13_method_55_code 24 = .ok (.iconst 0, 1) := by decide +kernel
theorem d_Md_book_25 : decode prog_13_method_55_code 25 = .ok (.putfield 208, 3) := by decide +kernel
theorem d_Md_book_28 : decode prog_13_method_55_code 28 = .ok (.iconst 0, 1) := by decide +kernel
theorem d_Md_book_29 : decode prog_13_method_55_code 29 = .ok (.istore_n 1, 1) := by decide +kernel
theorem d_Md_book_30 : decode prog_13_method_55_code 30 = .ok (.iload_n 1, 1) := by decide +kernel
theorem d_Md_book_31 : decode prog_13_method_55_code 31 = .ok (.bipush 127, 2) := by decide +kernel
theorem d_Md_book_33 : decode prog_13_method_55_code 33 = .ok (.if_icmp .ge 16, 3) := by decide +kernel
theorem d_Md_book_36 : decode prog_13_method_55_code 36 = .ok (.aload_n 0, 1) := by decide +kernel
theorem d_Md_book_37 : decode prog_13_method_55_code 37 = .ok (.getfield 26, 3) := by decide +kernel
theorem d_Md_book_40 : decode prog_13_method_55_code 40 = .ok (.iload_n 1, 1) := by decide +kernel
theorem d_Md_book_41 : decode prog_13_method_55_code 41 = .ok (.iconst 0, 1) := by decide +kernel
theorem d_Md_book_42 : decode prog_13_method_55_code 42 = .ok (.iastore, 1) := by decide +kernel
theorem d_Md_book_43 : decode prog_13_method_55_code 43 = .ok (.iinc 1 1, 3) := by decide +kernel
theorem d_Md_book_46 : decode prog_13_method_55_code 46 = .ok (.goto (-16), 3) := by decide +kernel
theorem d_Md_book_49 : decode prog_13_method_55_code 49 = .ok (.aload_n 0, 1) := by decide +kernel
theorem d_Md_book_50 : decode prog_13_method_55_code 50 = .ok (.getfield 26, 3) := by decide +kernel
theorem d_Md_book_53 : decode prog_13_method_55_code 53 = .ok (.bipush 16, 2) := by decide +kernel
theorem d_Md_book_55 : decode prog_13_method_55_code 55 = .ok (.bipush 20, 2) := by decide +kernel
theorem d_Md_book_57 : decode prog_13_method_55_code 57 = .ok (.iastore, 1) := by decide +kernel
theorem d_Md_book_58 : decode prog_13_method_55_code 58 = .ok (.aload_n 0, 1) := by decide +kernel
theorem d_Md_book_59 : decode prog_13_method_55_code 59 = .ok (.getfield 26, 3) := by decide +kernel
theorem d_Md_book_62 : decode prog_13_method_55_code 62 = .ok (.bipush 18, 2) := by decide +kernel
theorem d_Md_book_64 : decode prog_13_method_55_code 64 = .ok (.iconst 5, 1) := by decide +kernel
theorem d_Md_book_65 : decode prog_13_method_55_code 65 = .ok (.iastore, 1) := by decide +kernel
theorem d_Md_book_66 : decode prog_13_method_55_code 66 = .ok (.aload_n 0, 1) := by decide +kernel
theorem d_Md_book_67 : decode prog_13_method_55_code 67 = .ok (.invokevirtual 262, 3) := by decide +kernel
theorem d_Md_book_70 : decode prog_13_method_55_code 70 = .ok (.iconst 0, 1) := by decide +kernel
theorem d_Md_book_71 : decode prog_13_method_55_code 71 = .ok (.istore_n 1, 1) := by decide +kernel
theorem d_Md_book_72 : decode prog_13_method_55_code 72 = .ok (.aload_n 0, 1) := by decide +kernel
theorem d_Md_book_73 : decode prog_13_method_55_code 73 = .ok (.getfield 22, 3) := by decide +kernel
theorem d_Md_book_76 : decode prog_13_method_55_code 76 = .ok (.iconst (-1), 1) := by decide +kernel
theorem d_Md_book_77 : decode prog_13_method_55_code 77 = .ok (.if_icmp .ne 89, 3) := by decide +kernel
theorem d_Md_book_80 : decode prog_13_method_55_code 80 = .ok (.aload_n 0, 1) := by decide +kernel
theorem d_Md_book_81 : decode prog_13_method_55_code 81 = .ok (.invokevirtual 169, 3) := by decide +kernel
theorem d_Md_book_84 : decode prog_13_method_55_code 84 = .ok (.aload_n 0, 1) := by decide +kernel
theorem d_Md_book_85 : decode prog_13_method_55_code 85 = .ok (.getfield 166, 3) := by decide +kernel
theorem d_Md_book_88 : decode prog_13_method_55_code 88 = .ok (.if_icmp .ge 78, 3) := by decide +kernel
theorem d_Md_book_91 : decode prog_13_method_55_code 91 = .ok (.aload_n 0, 1) := by decide +kernel
theorem d_Md_book_92 : decode prog_13_method_55_code 92 = .ok (.getfield 19, 3) := by decide +kernel
theorem d_Md_book_95 : decode prog_13_method_55_code 95 = .ok (.aload_n 0, 1) := by decide +kernel
theorem d_Md_book_96 : decode prog_13_method_55_code 96 = .ok (.getfield 163, 3) := by decide +kernel
theorem d_Md_book_99 : decode prog_13_method_55_code 99 = .ok (.iaload, 1) := by decide +kernel
theorem d_Md_book_100 : decode prog_13_method_55_code 100 = .ok (.bipush 59, 2) := by decide +kernel
theorem d_Md_book_102 : decode prog_13_method_55_code 102 = .ok (.if_icmp .eq 14, 3) := by decide +kernel
theorem d_Md_book_105 : decode prog_13_method_55_code 105 = .ok (.aload_n 0, 1) := by decide +kernel
theorem d_Md_book_106 : decode prog_13_method_55_code 106 = .ok (.aload_n 0, 1) := by decide +kernel
theorem d_Md_book_107 : decode prog_13_method_55_code 107 = .ok (.getfield 163, 3) := by decide +kernel
theorem d_Md_book_110 : decode prog_13_method_55_code 110 = .ok (.invokevirtual 186, 3) := by decide +kernel
theorem d_Md_book_113 : decode prog_13_method_55_code 113 = .ok (.goto 13, 3) := by decide +kernel
theorem d_Md_book_116 : decode prog_13_method_55_code 116 = .ok (.aload_n 0, 1) := by decide +kernel
theorem d_Md_book_117 : decode prog_13_method_55_code 117 = .ok (.dup, 1) := by decide +kernel
theorem d_Md_book_118 : decode prog_13_method_55_code 118 = .ok (.getfield 163, 3) := by decide +kernel
theorem d_Md_book_121 : decode prog_13_method_55_code 121 = .ok (.iconst 1, 1) := by decide +kernel
theorem d_Md_book_122 : decode prog_13_method_55_code 122 = .ok (.iadd, 1) := by decide +kernel
theorem d_Md_book_123 : decode prog_13_method_55_code 123 = .ok (.putfield 163, 3) := by decide +kernel
theorem d_Md_book_126 : decode prog_13_method_55_code 126 = .ok (.aload_n 0, 1) := by decide +kernel
theorem d_Md_book_127 : decode prog_13_method_55_code 127 = .ok (.getfield 22, 3) := by decide +kernel
theorem d_Md_book_130 : decode prog_13_method_55_code 130 = .ok (.iconst (-1), 1) := by decide +kernel
theorem d_Md_book_131 : decode prog_13_method_55_code 131 = .ok (.if_icmp .ne 17, 3) := by decide +kernel
theorem d_Md_book_134 : decode prog_13_method_55_code 134 = .ok (.iload_n 1, 1) := by decide +kernel
theorem d_Md_book_135 : decode prog_13_method_55_code 135 = .ok (.bipush 24, 2) := by decide +kernel
theorem d_Md_book_137 : decode prog_13_method_55_code 137 = .ok (.if_icmp .ne 11, 3) := by decide +kernel
theorem d_Md_book_140 : decode prog_13_method_55_code 140 = .ok (.aload_n 0, 1) := by decide +kernel
theorem d_Md_book_141 : decode prog_13_method_55_code 141 = .ok (.aload_n 0, 1) := by decide +kernel
theorem d_Md_book_142 : decode prog_13_method_55_code 142 = .ok (.invokevirtual 169, 3) := by decide +kernel
theorem d_Md_book_145 : decode prog_13_method_55_code 145 = .ok (.invokevirtual 186, 3) := by decide +kernel
theorem d_Md_book_148 : decode prog_13_method_55_code 148 = .ok (.aload_n 0, 1) := by decide +kernel
theorem d_Md_book_149 : decode prog_13_method_55_code 149 = .ok (.getfield 22, 3) := by decide +kernel
theorem d_Md_book_152 : decode prog_13_method_55_code 152 = .ok (.iconst (-1), 1) := by decide +kernel
theorem d_Md_book_153 : decode prog_13_method_55_code 153 = .ok (.if_icmp .ne 7, 3) := by decide +kernel
theorem d_Md_book_156 : decode prog_13_method_55_code 156 = .ok (.aload_n 0, 1) := by decide +kernel
theorem d_Md_book_157 : decode prog_13_method_55_code 157 = .ok (.invokevirtual 265, 3) := by decide +kernel
theorem d_Md_book_160 : decode prog_13_method_55_code 160 = .ok (.iinc 1 1, 3) := by decide +kernel
theorem d_Md_book_163 : decode prog_13_method_55_code 163 = .ok (.goto (-91), 3) := by decide +kernel
theorem d_Md_book_166 : decode prog_13_method_55_code 166 = .ok (.aload_n 0, 1) := by decide +kernel
theorem d_Md_book_167 : decode prog_13_method_55_code 167 = .ok (.aload_n 0, 1) := by decide +kernel
theorem d_Md_book_168 : decode prog_13_method_55_code 168 = .ok (.getfield 22, 3) := by decide +kernel
theorem d_Md_book_171 : decode prog_13_method_55_code 171 = .ok (.iconst (-1), 1) := by decide +kernel
theorem d_Md_book_172 : decode prog_13_method_55_code 172 = .ok (.if_icmp .ne 7, 3) := by decide +kernel
theorem d_Md_book_175 : decode prog_13_method_55_code 175 = .ok (.iconst 0, 1) := by decide +kernel
theorem d_Md_book_176 : decode prog_13_method_55_code 176 = .ok (.goto 4, 3) := by decide +kernel
theorem d_Md_book_179 : decode prog_13_method_55_code 179 = .ok (.iconst 1, 1) := by decide +kernel
theorem d_Md_book_180 : decode prog_13_method_55_code 180 = .ok (.putfield 51, 3) := by decide +kernel
theorem d_Md_book_183 : decode prog_13_method_55_code 183 = .ok (.aload_n 0, 1) := by decide +kernel
theorem d_Md_book_184 : decode prog_13_method_55_code 184 = .ok (.getfield 51, 3) := by decide +kernel
theorem d_Md_book_187 : decode prog_13_method_55_code 187 = .ok (.ifCond .le 5, 3) := by decide +kernel
theorem d_Md_book_190 : decode prog_13_method_55_code 190 = .ok (.iconst 0, 1) := by decide +kernel
theorem d_Md_book_191 : decode prog_13_method_55_code 191 = .ok (.ireturn, 1) := by decide +kernel
theorem d_Md_book_192 : decode prog_13_method_55_code 192 = .ok (.iconst 0, 1) := by decide +kernel
theorem d_Md_book_193 : decode prog_13_method_55_code 193 = .ok (.istore_n 1, 1) := by decide +kernel
theorem d_Md_book_194 : decode prog_13_method_55_code 194 = .ok (.iload_n 1, 1) := by decide +kernel
theorem d_Md_book_195 : decode prog_13_method_55_code 195 = .ok (.bipush 127, 2) := by decide +kernel
theorem d_Md_book_197 : decode prog_13_method_55_code 197 = .ok (.if_icmp .ge 21, 3) := by decide +kernel
theorem d_Md_book_200 : decode prog_13_method_55_code 200 = .ok (.aload_n 0, 1) := by decide +kernel
theorem d_Md_book_201 : decode prog_13_method_55_code 201 = .ok (.getfield 7, 3) := by decide +kernel
theorem d_Md_book_204 : decode prog_13_method_55_code 204 = .ok (.iload_n 1, 1) := by decide +kernel
theorem d_Md_book_205 : decode prog_13_method_55_code 205 = .ok (.aload_n 0, 1) := by decide +kernel
theorem d_Md_book_206 : decode prog_13_method_55_code 206 = .ok (.getfield 26, 3) := by decide +kernel
theorem d_Md_book_209 : decode prog_13_method_55_code 209 = .ok (.iload_n 1, 1) := by decide +kernel
theorem d_Md_book_210 : decode prog_13_method_55_code 210 = .ok (.iaload, 1) := by decide +kernel
theorem d_Md_book_211 : decode prog_13_method_55_code 211 = .ok (.iastore, 1) := by decide +kernel
theorem d_Md_book_212 : decode prog_13_method_55_code 212 = .ok (.iinc 1 1, 3) := by decide +kernel
theorem d_Md_book_215 : decode prog_13_method_55_code 215 = .ok (.goto (-21), 3) := by decide +kernel
theorem d_Md_book_218 : decode prog_13_method_55_code 218 = .ok (.aload_n 0, 1) := by decide +kernel
theorem d_Md_book_219 : decode prog_13_method_55_code 219 = .ok (.iconst 0, 1) := by decide +kernel
theorem d_Md_book_220 : decode prog_13_method_55_code 220 = .ok (.putfield 268, 3) := by decide +kernel
theorem d_Md_book_223 : decode prog_13_method_55_code 223 = .ok (.aload_n 0, 1) := by decide +kernel
theorem d_Md_book_224 : decode prog_13_method_55_code 224 = .ok (.getfield 7, 3) := by decide +kernel
theorem d_Md_book_227 : decode prog_13_method_55_code 227 = .ok (.bipush 42, 2) := by decide +kernel
theorem d_Md_book_229 : decode prog_13_method_55_code 229 = .ok (.iaload, 1) := by decide +kernel
theorem d_Md_book_230 : decode prog_13_method_55_code 230 = .ok (.ireturn, 1) := by decide +kernel
theorem mb_Md_bookLine : MBv R_Md y_Md_bookLine prog_13_method_47_code 2 none 0 := ⟨mT8 197 (by decide +kernel) (by decide +kernel), mTs 14 (by decide +kernel) (by decide +kernel), mT1 10 (by decide +kernel) (by decide +kernel), mT8 198 (by decide +kernel) (by decide +kernel), by decide, rfl, by decide +kernel, by decide +kernel, by decide +kernel⟩
theorem mb_Md_line : MBv R_Md y_Md_line prog_13_method_54_code 2 none 0 := ⟨mT8 237 (by decide +kernel) (by decide +kernel), mTs 22 (by decide +kernel) (by decide +kernel), mT1 10 (by decide +kernel) (by decide +kernel), mT8 238 (by decide +kernel) (by decide +kernel), by decide, rfl, by decide +kernel, by decide +kernel, by decide +kernel⟩
theorem fk_Md_268 : Cond.fieldLink "FeastBookModel" 268 (T_Md 3).1 (T_Md 3).2.1 (T_Md 3).2.2.1 ∈ TT := mT8 99 (by decide +kernel) (by decide +kernel)
theorem fk_Md_7 : Cond.fieldLink "FeastBookModel" 7 (T_Md 1).1 (T_Md 1).2.1 (T_Md 1).2.2.1 ∈ TT := mT8 97 (by decide +kernel) (by decide +kernel)
theorem lk_Md_262 : Cond.methodLink "FeastBookModel" 262 y_Md_bookLine ∈ TT := mT8 195 (by decide +kernel) (by decide +kernel)
theorem lk_Md_265 : Cond.methodLink "FeastBookModel" 265 y_Md_line ∈ TT := mT8 235 (by decide +kernel) (by decide +kernel)
set_option maxHeartbeats 4000000 in
set_option maxRecDepth 100000 in
theorem w_Md_book_L30 {p : Program} {l : Launch} {e : Env} {s : State} {m : MethodId} {args : Array Value} {below : List Frame} {meth : Method} {c : Code} {D : va_G} {ad : Nat → Nat} {cA : Nat → ClassId} {sd sv : Nat → Nat} {out : (Int × Hp)} (N : Nat) (hI : Inj97 ad) (C : Cx p s m args c prog_13_method_55_code 2 "FeastBookModel" D ad cA sd sv (FA ad)) (hr : meth.sig.returnType = (some .int)) (hlk : meth.locks = false) (k : Int → Hp → Option (Int × Hp)) (kW : ∀ (v1 : Int) (h : Hp), k v1 h = some out → ∀ (H : Heap) (locs : List Loc), Wd s D ad cA (FA ad) h H locs → ∀ ls : Array Slot, lv_has ls 2 [(0, .ref (ad 83)), (1, .int (iZ v1))] → W p l e (rmD 8) s m args below meth c H locs 0 0 (MQ below (QI D ad cA out) args s 0 0 (FA ad)) (F0 m 49 ls [])) : ∀ (n : Nat) (v1 : Int) (h : Hp) (H : Heap) (locs : List Loc), Wd s D ad cA (FA ad) h H locs → ∀ ls : Array Slot, lv_has ls 2 [(0, .ref (ad 83)), (1, .int (iZ v1))] → Md_book_L30 N k n v1 h = some out → W p l e (rmD 8) s m args below meth c H locs 0 0 (MQ below (QI D ad cA out) args s 0 0 (FA ad)) (F0 m 30 ls []) := by
  intro n
  induction n with
  | zero =>
    intro v1 h H locs w ls hl hM
    rw [Md_book_L30] at hM
    cases hM
  | succ n ih =>
    intro v1 h H locs w ls hl hM
    rw [Md_book_L30] at hM
    refine m_iload_n C hl 1 d_Md_book_30 rfl rfl ?_
    refine m_bipush C d_Md_book_31 (by decide) ?_
    refine m_icmp_ge C hM 49 d_Md_book_33 (by decide) (fun hM => ?_) (fun hM => ?_)
    · exact kW v1 h hM _ _ w _ hl
    · refine m_aload_n C hl 0 d_Md_book_36 rfl rfl ?_
      refine m_getr C w.1 kc_Md sh_83 (Nat.le_of_ble_eq_true rfl) 11 88 rfl (by decide) fk_Md_26 d_Md_book_37 ?_
      refine m_iload_n C hl 1 d_Md_book_40 rfl rfl ?_
      refine m_iconst C d_Md_book_41 ?_
      refine m_iast C w sh_88 (Nat.le_of_ble_eq_true rfl) (Nat.le_of_ble_eq_true rfl) hM d_Md_book_42 (fun h6 H locs w hM => ?_)
      refine m_iinc C hl 1 [(1, .int (iZ (v1 + 1))), (0, .ref (ad 83))] d_Md_book_43 rfl (by decide) rfl (fun ls hl => ?_)
      refine m_goto C 30 d_Md_book_46 (by decide) ?_
      exact ih (v1 + 1) h6 _ _ w _ (lv_sub hl [1, 0] rfl) hM
set_option maxHeartbeats 4000000 in
set_option maxRecDepth 100000 in
theorem w_Md_book_L72 {p : Program} {l : Launch} {e : Env} {s : State} {m : MethodId} {args : Array Value} {below : List Frame} {meth : Method} {c : Code} {D : va_G} {ad : Nat → Nat} {cA : Nat → ClassId} {sd sv : Nat → Nat} {out : (Int × Hp)} (N : Nat) (hI : Inj97 ad) (C : Cx p s m args c prog_13_method_55_code 2 "FeastBookModel" D ad cA sd sv (FA ad)) (hr : meth.sig.returnType = (some .int)) (hlk : meth.locks = false) (k : Int → Hp → Option (Int × Hp)) (kW : ∀ (v1 : Int) (h : Hp), k v1 h = some out → ∀ (H : Heap) (locs : List Loc), Wd s D ad cA (FA ad) h H locs → ∀ ls : Array Slot, lv_has ls 2 [(0, .ref (ad 83)), (1, .int (iZ v1))] → W p l e (rmD 8) s m args below meth c H locs 0 0 (MQ below (QI D ad cA out) args s 0 0 (FA ad)) (F0 m 166 ls [])) : ∀ (n : Nat) (v1 : Int) (h : Hp) (H : Heap) (locs : List Loc), Wd s D ad cA (FA ad) h H locs → ∀ ls : Array Slot, lv_has ls 2 [(0, .ref (ad 83)), (1, .int (iZ v1))] → Md_book_L72 N k n v1 h = some out → W p l e (rmD 8) s m args below meth c H locs 0 0 (MQ below (QI D ad cA out) args s 0 0 (FA ad)) (F0 m 72 ls []) := by
  intro n
  induction n with
  | zero =>
    intro v1 h H locs w ls hl hM
    rw [Md_book_L72] at hM
    cases hM
  | succ n ih =>
    intro v1 h H locs w ls hl hM
    rw [Md_book_L72] at hM
    refine m_aload_n C hl 0 d_Md_book_72 rfl rfl ?_
    refine m_geti C w.1 kc_Md sh_83 (Nat.le_of_ble_eq_true rfl) 10 rfl (by decide) fk_Md_22 d_Md_book_73 ?_
    refine m_iconst C d_Md_book_76 ?_
    refine m_icmp_ne C hM 166 d_Md_book_77 (by decide) (fun hM => ?_) (fun hM => ?_)
    · exact kW v1 h hM _ _ w _ hl
    · refine m_aload_n C hl 0 d_Md_book_80 rfl rfl ?_
      obtain ⟨q13, e12, hM⟩ := bnd_some hM
      refine aftI C w (runV C w.1 w.2 kc_Md sh_83 (Nat.le_of_ble_eq_true rfl) (c_Md_here hI e12) lk_Md_169 mb_Md_here rfl ⟨Nat.le_of_ble_eq_true rfl, Nat.le_of_ble_eq_true rfl⟩ ⟨Nat.zero_le _, Nat.zero_le _⟩ (Nat.le_of_ble_eq_true rfl) d_Md_book_81 hl.1 (rest := []) rfl) (fun H locs w => ?_)
      refine m_aload_n C hl 0 d_Md_book_84 rfl rfl ?_
      refine m_geti C w.1 kc_Md sh_83 (Nat.le_of_ble_eq_true rfl) 8 rfl (by decide) fk_Md_166 d_Md_book_85 ?_
      refine m_icmp_ge C hM 166 d_Md_book_88 (by decide) (fun hM => ?_) (fun hM => ?_)
      · exact kW v1 q13.2 hM _ _ w _ hl
      · refine m_aload_n C hl 0 d_Md_book_91 rfl rfl ?_
        refine m_getr C w.1 kc_Md sh_83 (Nat.le_of_ble_eq_true rfl) 6 87 rfl (by decide) fk_Md_19 d_Md_book_92 ?_
        refine m_aload_n C hl 0 d_Md_book_95 rfl rfl ?_
        refine m_geti C w.1 kc_Md sh_83 (Nat.le_of_ble_eq_true rfl) 9 rfl (by decide) fk_Md_163 d_Md_book_96 ?_
        refine m_iald C w.1 sh_87 (Nat.le_of_ble_eq_true rfl) (Nat.le_of_ble_eq_true rfl) hM d_Md_book_99 (fun x14 hM => ?_)
        refine m_bipush C d_Md_book_100 (by decide) ?_
        refine lt_join hM (fun j18 ej hM => ?_)
        have hJ18 : ∀ (h_18 : Hp), j18 h_18 = some out → ∀ (H : Heap) (locs : List Loc), Wd s D ad cA (FA ad) h_18 H locs → ∀ ls : Array Slot, lv_has ls 2 [(0, .ref (ad 83)), (1, .int (iZ v1))] → W p l e (rmD 8) s m args below meth c H locs 0 0 (MQ below (QI D ad cA out) args s 0 0 (FA ad)) (F0 m 126 ls []) := by
          intro h_18 hM H locs w ls hl
          subst ej
          dsimp only at hM
          refine m_aload_n C hl 0 d_Md_book_126 rfl rfl ?_
          refine m_geti C w.1 kc_Md sh_83 (Nat.le_of_ble_eq_true rfl) 10 rfl (by decide) fk_Md_22 d_Md_book_127 ?_
          refine m_iconst C d_Md_book_130 ?_
          refine m_icmp_ne C hM 148 d_Md_book_131 (by decide) (fun hM => ?_) (fun hM => ?_)
          · refine m_aload_n C hl 0 d_Md_book_148 rfl rfl ?_
            refine m_geti C w.1 kc_Md sh_83 (Nat.le_of_ble_eq_true rfl) 10 rfl (by decide) fk_Md_22 d_Md_book_149 ?_
            refine m_iconst C d_Md_book_152 ?_
            refine m_icmp_ne C hM 160 d_Md_book_153 (by decide) (fun hM => ?_) (fun hM => ?_)
            · refine m_iinc C hl 1 [(1, .int (iZ (v1 + 1))), (0, .ref (ad 83))] d_Md_book_160 rfl (by decide) rfl (fun ls hl => ?_)
              refine m_goto C 72 d_Md_book_163 (by decide) ?_
              exact ih (v1 + 1) h_18 _ _ w _ (lv_sub hl [1, 0] rfl) hM
            · refine m_aload_n C hl 0 d_Md_book_156 rfl rfl ?_
              obtain ⟨h20, e19, hM⟩ := bnd_some hM
              refine aftV C w (runV C w.1 w.2 kc_Md sh_83 (Nat.le_of_ble_eq_true rfl) (c_Md_line hI e19) lk_Md_265 mb_Md_line rfl ⟨Nat.le_of_ble_eq_true rfl, Nat.le_of_ble_eq_true rfl⟩ ⟨Nat.zero_le _, Nat.zero_le _⟩ (Nat.le_of_ble_eq_true rfl) d_Md_book_157 hl.1 (rest := []) rfl) (fun H locs w => ?_)
              refine m_iinc C hl 1 [(1, .int (iZ (v1 + 1))), (0, .ref (ad 83))] d_Md_book_160 rfl (by decide) rfl (fun ls hl => ?_)
              refine m_goto C 72 d_Md_book_163 (by decide) ?_
              exact ih (v1 + 1) h20 _ _ w _ (lv_sub hl [1, 0] rfl) hM
          · refine m_iload_n C hl 1 d_Md_book_134 rfl rfl ?_
            refine m_bipush C d_Md_book_135 (by decide) ?_
            refine m_icmp_ne C hM 148 d_Md_book_137 (by decide) (fun hM => ?_) (fun hM => ?_)
            · refine m_aload_n C hl 0 d_Md_book_148 rfl rfl ?_
              refine m_geti C w.1 kc_Md sh_83 (Nat.le_of_ble_eq_true rfl) 10 rfl (by decide) fk_Md_22 d_Md_book_149 ?_
              refine m_iconst C d_Md_book_152 ?_
              refine m_icmp_ne C hM 160 d_Md_book_153 (by decide) (fun hM => ?_) (fun hM => ?_)
              · refine m_iinc C hl 1 [(1, .int (iZ (v1 + 1))), (0, .ref (ad 83))] d_Md_book_160 rfl (by decide) rfl (fun ls hl => ?_)
                refine m_goto C 72 d_Md_book_163 (by decide) ?_
                exact ih (v1 + 1) h_18 _ _ w _ (lv_sub hl [1, 0] rfl) hM
              · refine m_aload_n C hl 0 d_Md_book_156 rfl rfl ?_
                obtain ⟨h22, e21, hM⟩ := bnd_some hM
                refine aftV C w (runV C w.1 w.2 kc_Md sh_83 (Nat.le_of_ble_eq_true rfl) (c_Md_line hI e21) lk_Md_265 mb_Md_line rfl ⟨Nat.le_of_ble_eq_true rfl, Nat.le_of_ble_eq_true rfl⟩ ⟨Nat.zero_le _, Nat.zero_le _⟩ (Nat.le_of_ble_eq_true rfl) d_Md_book_157 hl.1 (rest := []) rfl) (fun H locs w => ?_)
                refine m_iinc C hl 1 [(1, .int (iZ (v1 + 1))), (0, .ref (ad 83))] d_Md_book_160 rfl (by decide) rfl (fun ls hl => ?_)
                refine m_goto C 72 d_Md_book_163 (by decide) ?_
                exact ih (v1 + 1) h22 _ _ w _ (lv_sub hl [1, 0] rfl) hM
            · refine m_aload_n C hl 0 d_Md_book_140 rfl rfl ?_
              refine m_aload_n C hl 0 d_Md_book_141 rfl rfl ?_
              obtain ⟨q24, e23, hM⟩ := bnd_some hM
              refine aftI C w (runV C w.1 w.2 kc_Md sh_83 (Nat.le_of_ble_eq_true rfl) (c_Md_here hI e23) lk_Md_169 mb_Md_here rfl ⟨Nat.le_of_ble_eq_true rfl, Nat.le_of_ble_eq_true rfl⟩ ⟨Nat.zero_le _, Nat.zero_le _⟩ (Nat.le_of_ble_eq_true rfl) d_Md_book_142 hl.1 (rest := [.ref (ad 83)]) rfl) (fun H locs w => ?_)
              obtain ⟨h26, e25, hM⟩ := bnd_some hM
              refine aftV C w (runV C w.1 w.2 kc_Md sh_83 (Nat.le_of_ble_eq_true rfl) (c_Md_wrong hI e25) lk_Md_186 mb_Md_wrong rfl ⟨Nat.le_of_ble_eq_true rfl, Nat.le_of_ble_eq_true rfl⟩ ⟨Nat.zero_le _, Nat.zero_le _⟩ (Nat.le_of_ble_eq_true rfl) d_Md_book_145 hl.1 (rest := []) rfl) (fun H locs w => ?_)
              refine m_aload_n C hl 0 d_Md_book_148 rfl rfl ?_
              refine m_geti C w.1 kc_Md sh_83 (Nat.le_of_ble_eq_true rfl) 10 rfl (by decide) fk_Md_22 d_Md_book_149 ?_
              refine m_iconst C d_Md_book_152 ?_
              refine m_icmp_ne C hM 160 d_Md_book_153 (by decide) (fun hM => ?_) (fun hM => ?_)
              · refine m_iinc C hl 1 [(1, .int (iZ (v1 + 1))), (0, .ref (ad 83))] d_Md_book_160 rfl (by decide) rfl (fun ls hl => ?_)
                refine m_goto C 72 d_Md_book_163 (by decide) ?_
                exact ih (v1 + 1) h26 _ _ w _ (lv_sub hl [1, 0] rfl) hM
              · refine m_aload_n C hl 0 d_Md_book_156 rfl rfl ?_
                obtain ⟨h28, e27, hM⟩ := bnd_some hM
                refine aftV C w (runV C w.1 w.2 kc_Md sh_83 (Nat.le_of_ble_eq_true rfl) (c_Md_line hI e27) lk_Md_265 mb_Md_line rfl ⟨Nat.le_of_ble_eq_true rfl, Nat.le_of_ble_eq_true rfl⟩ ⟨Nat.zero_le _, Nat.zero_le _⟩ (Nat.le_of_ble_eq_true rfl) d_Md_book_157 hl.1 (rest := []) rfl) (fun H locs w => ?_)
                refine m_iinc C hl 1 [(1, .int (iZ (v1 + 1))), (0, .ref (ad 83))] d_Md_book_160 rfl (by decide) rfl (fun ls hl => ?_)
                refine m_goto C 72 d_Md_book_163 (by decide) ?_
                exact ih (v1 + 1) h28 _ _ w _ (lv_sub hl [1, 0] rfl) hM
        refine m_icmp_eq C hM 116 d_Md_book_102 (by decide) (fun hM => ?_) (fun hM => ?_)
        · refine m_aload_n C hl 0 d_Md_book_116 rfl rfl ?_
          refine m_dup C d_Md_book_117 rfl ?_
          refine m_geti C w.1 kc_Md sh_83 (Nat.le_of_ble_eq_true rfl) 9 rfl (by decide) fk_Md_163 d_Md_book_118 ?_
          refine m_iconst C d_Md_book_121 ?_
          refine m_iadd C d_Md_book_122 ?_
          refine m_puti C w kc_Md sh_83 (Nat.le_of_ble_eq_true rfl) 9 hM rfl (by decide) rfl rfl fk_Md_163 d_Md_book_123 (fun h29 H locs w hM => ?_)
          exact hJ18 h29 hM _ _ w _ hl
        · refine m_aload_n C hl 0 d_Md_book_105 rfl rfl ?_
          refine m_aload_n C hl 0 d_Md_book_106 rfl rfl ?_
          refine m_geti C w.1 kc_Md sh_83 (Nat.le_of_ble_eq_true rfl) 9 rfl (by decide) fk_Md_163 d_Md_book_107 ?_
          obtain ⟨h31, e30, hM⟩ := bnd_some hM
          refine aftV C w (runV C w.1 w.2 kc_Md sh_83 (Nat.le_of_ble_eq_true rfl) (c_Md_wrong hI e30) lk_Md_186 mb_Md_wrong rfl ⟨Nat.le_of_ble_eq_true rfl, Nat.le_of_ble_eq_true rfl⟩ ⟨Nat.zero_le _, Nat.zero_le _⟩ (Nat.le_of_ble_eq_true rfl) d_Md_book_110 hl.1 (rest := []) rfl) (fun H locs w => ?_)
          refine m_goto C 126 d_Md_book_113 (by decide) ?_
          exact hJ18 h31 hM _ _ w _ hl
set_option maxHeartbeats 4000000 in
set_option maxRecDepth 100000 in
theorem w_Md_book_L194 {p : Program} {l : Launch} {e : Env} {s : State} {m : MethodId} {args : Array Value} {below : List Frame} {meth : Method} {c : Code} {D : va_G} {ad : Nat → Nat} {cA : Nat → ClassId} {sd sv : Nat → Nat} {out : (Int × Hp)} (N : Nat) (hI : Inj97 ad) (C : Cx p s m args c prog_13_method_55_code 2 "FeastBookModel" D ad cA sd sv (FA ad)) (hr : meth.sig.returnType = (some .int)) (hlk : meth.locks = false) : ∀ (n : Nat) (v1 : Int) (h : Hp) (H : Heap) (locs : List Loc), Wd s D ad cA (FA ad) h H locs → ∀ ls : Array Slot, lv_has ls 2 [(0, .ref (ad 83)), (1, .int (iZ v1))] → Md_book_L194 N n v1 h = some out → W p l e (rmD 8) s m args below meth c H locs 0 0 (MQ below (QI D ad cA out) args s 0 0 (FA ad)) (F0 m 194 ls []) := by
  intro n
  induction n with
  | zero =>
    intro v1 h H locs w ls hl hM
    rw [Md_book_L194] at hM
    cases hM
  | succ n ih =>
    intro v1 h H locs w ls hl hM
    rw [Md_book_L194] at hM
    refine m_iload_n C hl 1 d_Md_book_194 rfl rfl ?_
    refine m_bipush C d_Md_book_195 (by decide) ?_
    refine m_icmp_ge C hM 218 d_Md_book_197 (by decide) (fun hM => ?_) (fun hM => ?_)
    · refine m_aload_n C hl 0 d_Md_book_218 rfl rfl ?_
      refine m_iconst C d_Md_book_219 ?_
      refine m_puti C w kc_Md sh_83 (Nat.le_of_ble_eq_true rfl) 3 hM rfl (by decide) rfl rfl fk_Md_268 d_Md_book_220 (fun h35 H locs w hM => ?_)
      refine m_aload_n C hl 0 d_Md_book_223 rfl rfl ?_
      refine m_getr C w.1 kc_Md sh_83 (Nat.le_of_ble_eq_true rfl) 1 84 rfl (by decide) fk_Md_7 d_Md_book_224 ?_
      refine m_bipush C d_Md_book_227 (by decide) ?_
      refine m_iald C w.1 sh_84 (Nat.le_of_ble_eq_true rfl) (Nat.le_of_ble_eq_true rfl) hM d_Md_book_229 (fun x36 hM => ?_)
      exact m_iretW C w hr hlk hM d_Md_book_230
    · refine m_aload_n C hl 0 d_Md_book_200 rfl rfl ?_
      refine m_getr C w.1 kc_Md sh_83 (Nat.le_of_ble_eq_true rfl) 1 84 rfl (by decide) fk_Md_7 d_Md_book_201 ?_
      refine m_iload_n C hl 1 d_Md_book_204 rfl rfl ?_
      refine m_aload_n C hl 0 d_Md_book_205 rfl rfl ?_
      refine m_getr C w.1 kc_Md sh_83 (Nat.le_of_ble_eq_true rfl) 11 88 rfl (by decide) fk_Md_26 d_Md_book_206 ?_
      refine m_iload_n C hl 1 d_Md_book_209 rfl rfl ?_
      refine m_iald C w.1 sh_88 (Nat.le_of_ble_eq_true rfl) (Nat.le_of_ble_eq_true rfl) hM d_Md_book_210 (fun x37 hM => ?_)
      refine m_iast C w sh_84 (Nat.le_of_ble_eq_true rfl) (Nat.le_of_ble_eq_true rfl) hM d_Md_book_211 (fun h38 H locs w hM => ?_)
      refine m_iinc C hl 1 [(1, .int (iZ (v1 + 1))), (0, .ref (ad 83))] d_Md_book_212 rfl (by decide) rfl (fun ls hl => ?_)
      refine m_goto C 194 d_Md_book_215 (by decide) ?_
      exact ih (v1 + 1) h38 _ _ w _ (lv_sub hl [1, 0] rfl) hM
set_option maxHeartbeats 4000000 in
set_option maxRecDepth 100000 in
theorem c_Md_book {l : Launch} {D : va_G} {ad : Nat → Nat} {cA : Nat → ClassId} {sd sv : Nat → Nat} {h : Hp} {N : Nat} {out : (Int × Hp)} (hI : Inj97 ad) (hM : M_Md_book N h = some out) : Met l y_Md_book (.code y_Md_book prog_13_method_55_code 2 (some .int) :: TT) (rmD 8) (PC D ad cA sd sv h [.ref (ad 83)]) (QI D ad cA out) 0 0 (FA ad) := by
  unfold M_Md_book at hM
  refine entM (by decide +kernel) hI (Nat.le_of_ble_eq_true rfl) ?_
  intro p e s m args below meth c C hr hlk hP ls hl
  have C : Cx p s m args c prog_13_method_55_code 2 "FeastBookModel" D ad cA sd sv (FA ad) := C
  have hl : lv_has ls 2 [(0, .ref (ad 83))] := hl
  have w : Wd s D ad cA (FA ad) h s.heap [] := ⟨hP, va_S.rf⟩
  refine m_aload_n C hl 0 d_Md_book_0 rfl rfl ?_
  refine m_iconst C d_Md_book_1 ?_
  refine m_puti C w kc_Md sh_83 (Nat.le_of_ble_eq_true rfl) 10 hM rfl (by decide) rfl rfl fk_Md_22 d_Md_book_2 (fun h1 H locs w hM => ?_)
  refine m_aload_n C hl 0 d_Md_book_5 rfl rfl ?_
  refine m_aload_n C hl 0 d_Md_book_6 rfl rfl ?_
  refine m_geti C w.1 kc_Md sh_83 (Nat.le_of_ble_eq_true rfl) 7 rfl (by decide) fk_Md_160 d_Md_book_7 ?_
  refine m_puti C w kc_Md sh_83 (Nat.le_of_ble_eq_true rfl) 8 hM rfl (by decide) rfl rfl fk_Md_166 d_Md_book_10 (fun h2 H locs w hM => ?_)
  refine m_aload_n C hl 0 d_Md_book_13 rfl rfl ?_
  refine m_iconst C d_Md_book_14 ?_
  refine m_puti C w kc_Md sh_83 (Nat.le_of_ble_eq_true rfl) 7 hM rfl (by decide) rfl rfl fk_Md_160 d_Md_book_15 (fun h3 H locs w hM => ?_)
  refine m_aload_n C hl 0 d_Md_book_18 rfl rfl ?_
  refine m_iconst C d_Md_book_19 ?_
  refine m_puti C w kc_Md sh_83 (Nat.le_of_ble_eq_true rfl) 9 hM rfl (by decide) rfl rfl fk_Md_163 d_Md_book_20 (fun h4 H locs w hM => ?_)
  refine m_aload_n C hl 0 d_Md_book_23 rfl rfl ?_
  refine m_iconst C d_Md_book_24 ?_
  refine m_puti C w kc_Md sh_83 (Nat.le_of_ble_eq_true rfl) 12 hM rfl (by decide) rfl rfl fk_Md_208 d_Md_book_25 (fun h5 H locs w hM => ?_)
  refine m_iconst C d_Md_book_28 ?_
  refine m_istore_n C hl [(1, .int (iZ 0)), (0, .ref (ad 83))] d_Md_book_29 rfl (by decide) rfl (fun ls hl => ?_)
  refine w_Md_book_L30 N hI C hr hlk  _ (fun v1_7 h_7 hM H locs w ls hl => ?_) _ 0 h5 _ _ w _ (lv_sub hl [1, 0] rfl) hM
  refine m_aload_n C hl 0 d_Md_book_49 rfl rfl ?_
  refine m_getr C w.1 kc_Md sh_83 (Nat.le_of_ble_eq_true rfl) 11 88 rfl (by decide) fk_Md_26 d_Md_book_50 ?_
  refine m_bipush C d_Md_book_53 (by decide) ?_
  refine m_bipush C d_Md_book_55 (by decide) ?_
  refine m_iast C w sh_88 (Nat.le_of_ble_eq_true rfl) (Nat.le_of_ble_eq_true rfl) hM d_Md_book_57 (fun h8 H locs w hM => ?_)
  refine m_aload_n C hl 0 d_Md_book_58 rfl rfl ?_
  refine m_getr C w.1 kc_Md sh_83 (Nat.le_of_ble_eq_true rfl) 11 88 rfl (by decide) fk_Md_26 d_Md_book_59 ?_
  refine m_bipush C d_Md_book_62 (by decide) ?_
  refine m_iconst C d_Md_book_64 ?_
  refine m_iast C w sh_88 (Nat.le_of_ble_eq_true rfl) (Nat.le_of_ble_eq_true rfl) hM d_Md_book_65 (fun h9 H locs w hM => ?_)
  refine m_aload_n C hl 0 d_Md_book_66 rfl rfl ?_
  obtain ⟨h11, e10, hM⟩ := bnd_some hM
  refine aftV C w (runV C w.1 w.2 kc_Md sh_83 (Nat.le_of_ble_eq_true rfl) (c_Md_bookLine hI e10) lk_Md_262 mb_Md_bookLine rfl ⟨Nat.le_of_ble_eq_true rfl, Nat.le_of_ble_eq_true rfl⟩ ⟨Nat.zero_le _, Nat.zero_le _⟩ (Nat.le_of_ble_eq_true rfl) d_Md_book_67 hl.1 (rest := []) rfl) (fun H locs w => ?_)
  refine m_iconst C d_Md_book_70 ?_
  refine m_istore_n C hl [(1, .int (iZ 0)), (0, .ref (ad 83))] d_Md_book_71 rfl (by decide) rfl (fun ls hl => ?_)
  refine w_Md_book_L72 N hI C hr hlk  _ (fun v1_32 h_32 hM H locs w ls hl => ?_) _ 0 h11 _ _ w _ (lv_sub hl [1, 0] rfl) hM
  refine m_aload_n C hl 0 d_Md_book_166 rfl rfl ?_
  refine m_aload_n C hl 0 d_Md_book_167 rfl rfl ?_
  refine m_geti C w.1 kc_Md sh_83 (Nat.le_of_ble_eq_true rfl) 10 rfl (by decide) fk_Md_22 d_Md_book_168 ?_
  refine m_iconst C d_Md_book_171 ?_
  refine lt_join hM (fun j33 ej hM => ?_)
  have hJ33 : ∀ (s0_33 : Int), j33 s0_33 = some out → ∀ ls : Array Slot, lv_has ls 2 [(0, .ref (ad 83)), (1, .int (iZ v1_32))] → W p l e (rmD 8) s m args below meth c H locs 0 0 (MQ below (QI D ad cA out) args s 0 0 (FA ad)) (F0 m 180 ls [.int (iZ s0_33), .ref (ad 83)]) := by
    intro s0_33 hM ls hl
    subst ej
    dsimp only at hM
    refine m_puti C w kc_Md sh_83 (Nat.le_of_ble_eq_true rfl) 0 hM rfl (by decide) rfl rfl fk_Md_51 d_Md_book_180 (fun h34 H locs w hM => ?_)
    refine m_aload_n C hl 0 d_Md_book_183 rfl rfl ?_
    refine m_geti C w.1 kc_Md sh_83 (Nat.le_of_ble_eq_true rfl) 0 rfl (by decide) fk_Md_51 d_Md_book_184 ?_
    refine m_if_le C hM 192 d_Md_book_187 (by decide) (fun hM => ?_) (fun hM => ?_)
    · refine m_iconst C d_Md_book_192 ?_
      refine m_istore_n C hl [(1, .int (iZ 0)), (0, .ref (ad 83))] d_Md_book_193 rfl (by decide) rfl (fun ls hl => ?_)
      exact w_Md_book_L194 N hI C hr hlk  _ 0 h34 _ _ w _ (lv_sub hl [1, 0] rfl) hM
    · refine m_iconst C d_Md_book_190 ?_
      exact m_iretW C w hr hlk hM d_Md_book_191
  refine m_icmp_ne C hM 179 d_Md_book_172 (by decide) (fun hM => ?_) (fun hM => ?_)
  · refine m_iconst C d_Md_book_179 ?_
    exact hJ33 1 hM _ hl
  · refine m_iconst C d_Md_book_175 ?_
    refine m_goto C 180 d_Md_book_176 (by decide) ?_
    exact hJ33 0 hM _ hl
def y_Md_fault : MethodName := ⟨"FeastBookModel", "fault", "()I"⟩
theorem d_Md_fault_0 : decode prog_13_method_56_code 0 = .ok (.aload_n 0, 1) := by decide +kernel
theorem d_Md_fault_1 : decode prog_13_method_56_code 1 = .ok (.iconst 0, 1) := by decide +kernel
theorem d_Md_fault_2 : decode prog_13_method_56_code 2 = .ok (.putfield 51, 3) := by decide +kernel
theorem d_Md_fault_5 : decode prog_13_method_56_code 5 = .ok (.aload_n 0, 1) := by decide +kernel
theorem d_Md_fault_6 : decode prog_13_method_56_code 6 = .ok (.getfield 22, 3) := by decide +kernel
theorem d_Md_fault_9 : decode prog_13_method_56_code 9 = .ok (.ireturn, 1) := by decide +kernel
set_option maxHeartbeats 4000000 in
set_option maxRecDepth 100000 in
theorem c_Md_fault {l : Launch} {D : va_G} {ad : Nat → Nat} {cA : Nat → ClassId} {sd sv : Nat → Nat} {h : Hp} {out : (Int × Hp)} (hI : Inj97 ad) (hM : M_Md_fault h = some out) : Met l y_Md_fault (.code y_Md_fault prog_13_method_56_code 1 (some .int) :: TT) (rmD 0) (PC D ad cA sd sv h [.ref (ad 83)]) (QI D ad cA out) 0 0 (FA ad) := by
  unfold M_Md_fault at hM
  refine entM (by decide +kernel) hI (Nat.le_of_ble_eq_true rfl) ?_
  intro p e s m args below meth c C hr hlk hP ls hl
  have C : Cx p s m args c prog_13_method_56_code 1 "FeastBookModel" D ad cA sd sv (FA ad) := C
  have hl : lv_has ls 1 [(0, .ref (ad 83))] := hl
  have w : Wd s D ad cA (FA ad) h s.heap [] := ⟨hP, va_S.rf⟩
  refine m_aload_n C hl 0 d_Md_fault_0 rfl rfl ?_
  refine m_iconst C d_Md_fault_1 ?_
  refine m_puti C w kc_Md sh_83 (Nat.le_of_ble_eq_true rfl) 0 hM rfl (by decide) rfl rfl fk_Md_51 d_Md_fault_2 (fun h1 H locs w hM => ?_)
  refine m_aload_n C hl 0 d_Md_fault_5 rfl rfl ?_
  refine m_geti C w.1 kc_Md sh_83 (Nat.le_of_ble_eq_true rfl) 10 rfl (by decide) fk_Md_22 d_Md_fault_6 ?_
  exact m_iretW C w hr hlk hM d_Md_fault_9
def y_Md_hasBook : MethodName := ⟨"FeastBookModel", "hasBook", "()Z"⟩
theorem d_Md_hasBook_0 : decode prog_13_method_5_code 0 = .ok (.aload_n 0, 1) := by decide +kernel
theorem d_Md_hasBook_1 : decode prog_13_method_5_code 1 = .ok (.getfield 7, 3) := by decide +kernel
theorem d_Md_hasBook_4 : decode prog_13_method_5_code 4 = .ok (.iconst 0, 1) := by decide +kernel
theorem d_Md_hasBook_5 : decode prog_13_method_5_code 5 = .ok (.iaload, 1) := by decide +kernel
theorem d_Md_hasBook_6 : decode prog_13_method_5_code 6 = .ok (.ifCond .le 7, 3) := by decide +kernel
theorem d_Md_hasBook_9 : decode prog_13_method_5_code 9 = .ok (.iconst 1, 1) := by decide +kernel
theorem d_Md_hasBook_10 : decode prog_13_method_5_code 10 = .ok (.goto 4, 3) := by decide +kernel
theorem d_Md_hasBook_13 : decode prog_13_method_5_code 13 = .ok (.iconst 0, 1) := by decide +kernel
theorem d_Md_hasBook_14 : decode prog_13_method_5_code 14 = .ok (.ireturn, 1) := by decide +kernel
set_option maxHeartbeats 4000000 in
set_option maxRecDepth 100000 in
theorem c_Md_hasBook {l : Launch} {D : va_G} {ad : Nat → Nat} {cA : Nat → ClassId} {sd sv : Nat → Nat} {h : Hp} {out : Int} (hI : Inj97 ad) (hM : M_Md_hasBook h = some out) : Met l y_Md_hasBook (.code y_Md_hasBook prog_13_method_5_code 1 (some .boolean) :: TT) (rmD 0) (PC D ad cA sd sv h [.ref (ad 83)]) (QR out) 0 0 (fun _ => False) := by
  unfold M_Md_hasBook at hM
  refine entM (by decide +kernel) hI (Nat.le_of_ble_eq_true rfl) ?_
  intro p e s m args below meth c C hr hlk hP ls hl
  have C : Cx p s m args c prog_13_method_5_code 1 "FeastBookModel" D ad cA sd sv (FA ad) := C
  have hl : lv_has ls 1 [(0, .ref (ad 83))] := hl
  refine m_aload_n C hl 0 d_Md_hasBook_0 rfl rfl ?_
  refine m_getr C hP kc_Md sh_83 (Nat.le_of_ble_eq_true rfl) 1 84 rfl (by decide) fk_Md_7 d_Md_hasBook_1 ?_
  refine m_iconst C d_Md_hasBook_4 ?_
  refine m_iald C hP sh_84 (Nat.le_of_ble_eq_true rfl) (Nat.le_of_ble_eq_true rfl) hM d_Md_hasBook_5 (fun x1 hM => ?_)
  refine m_if_le C hM 13 d_Md_hasBook_6 (by decide) (fun hM => ?_) (fun hM => ?_)
  · refine m_iconst C d_Md_hasBook_13 ?_
    exact m_zretR C hr hlk hM d_Md_hasBook_14
  · refine m_iconst C d_Md_hasBook_9 ?_
    refine m_goto C 14 d_Md_hasBook_10 (by decide) ?_
    exact m_zretR C hr hlk hM d_Md_hasBook_14
def y_Md_isYear : MethodName := ⟨"FeastBookModel", "isYear", "(I)Z"⟩
theorem d_Md_isYear_0 : decode prog_13_method_7_code 0 = .ok (.aload_n 0, 1) := by decide +kernel
theorem d_Md_isYear_1 : decode prog_13_method_7_code 1 = .ok (.invokevirtual 58, 3) := by decide +kernel
theorem d_Md_isYear_4 : decode prog_13_method_7_code 4 = .ok (.ifCond .eq 18, 3) := by decide +kernel
theorem d_Md_isYear_7 : decode prog_13_method_7_code 7 = .ok (.iload_n 1, 1) := by decide +kernel
theorem d_Md_isYear_8 : decode prog_13_method_7_code 8 = .ok (.iconst 0, 1) := by decide +kernel
theorem d_Md_isYear_9 : decode prog_13_method_7_code 9 = .ok (.sipush 9999, 3) := by decide +kernel
theorem d_Md_isYear_12 : decode prog_13_method_7_code 12 = .ok (.invokestatic 54, 3) := by decide +kernel
theorem d_Md_isYear_15 : decode prog_13_method_7_code 15 = .ok (.ifCond .eq 7, 3) := by decide +kernel
theorem d_Md_isYear_18 : decode prog_13_method_7_code 18 = .ok (.iconst 1, 1) := by decide +kernel
theorem d_Md_isYear_19 : decode prog_13_method_7_code 19 = .ok (.goto 4, 3) := by decide +kernel
theorem d_Md_isYear_22 : decode prog_13_method_7_code 22 = .ok (.iconst 0, 1) := by decide +kernel
theorem d_Md_isYear_23 : decode prog_13_method_7_code 23 = .ok (.ireturn, 1) := by decide +kernel
theorem mb_Md_hasBook : MBv R_Md y_Md_hasBook prog_13_method_5_code 1 (some .boolean) 0 := ⟨mT9 56 (by decide +kernel) (by decide +kernel), mTs 31 (by decide +kernel) (by decide +kernel), mT1 10 (by decide +kernel) (by decide +kernel), mT9 57 (by decide +kernel) (by decide +kernel), by decide, rfl, by decide +kernel, by decide +kernel, by decide +kernel⟩
theorem lk_Md_58 : Cond.methodLink "FeastBookModel" 58 y_Md_hasBook ∈ TT := mT9 54 (by decide +kernel) (by decide +kernel)
set_option maxHeartbeats 4000000 in
set_option maxRecDepth 100000 in
theorem c_Md_isYear {l : Launch} {D : va_G} {ad : Nat → Nat} {cA : Nat → ClassId} {sd sv : Nat → Nat} {h : Hp} {a1 : Int} {out : Int} (hI : Inj97 ad) (hM : M_Md_isYear h a1 = some out) : Met l y_Md_isYear (.code y_Md_isYear prog_13_method_7_code 2 (some .boolean) :: TT) (rmD 1) (PC D ad cA sd sv h [.ref (ad 83), .int (iZ a1)]) (QR out) 0 0 (fun _ => False) := by
  unfold M_Md_isYear at hM
  refine entM (by decide +kernel) hI (Nat.le_of_ble_eq_true rfl) ?_
  intro p e s m args below meth c C hr hlk hP ls hl
  have C : Cx p s m args c prog_13_method_7_code 2 "FeastBookModel" D ad cA sd sv (FA ad) := C
  have hl : lv_has ls 2 [(0, .ref (ad 83)), (1, .int (iZ a1))] := hl
  refine m_aload_n C hl 0 d_Md_isYear_0 rfl rfl ?_
  obtain ⟨x2, e1, hM⟩ := bnd_some hM
  refine aftR (runV C hP va_S.rf kc_Md sh_83 (Nat.le_of_ble_eq_true rfl) (c_Md_hasBook hI e1) lk_Md_58 mb_Md_hasBook rfl ⟨Nat.le_of_ble_eq_true rfl, Nat.le_of_ble_eq_true rfl⟩ ⟨Nat.zero_le _, Nat.zero_le _⟩ (Nat.le_of_ble_eq_true rfl) d_Md_isYear_1 hl.1 (rest := []) rfl) ?_
  refine m_if_eq C hM 22 d_Md_isYear_4 (by decide) (fun hM => ?_) (fun hM => ?_)
  · refine m_iconst C d_Md_isYear_22 ?_
    exact m_zretR C hr hlk hM d_Md_isYear_23
  · refine m_iload_n C hl 1 d_Md_isYear_7 rfl rfl ?_
    refine m_iconst C d_Md_isYear_8 ?_
    refine m_sipush C d_Md_isYear_9 (by decide) ?_
    obtain ⟨x4, e3, hM⟩ := bnd_some hM
    refine aftR (runS C hP va_S.rf (c_Md_isIn hI e3) lk_Md_54 mb_Md_isIn rfl ⟨Nat.le_of_ble_eq_true rfl, Nat.le_of_ble_eq_true rfl⟩ ⟨Nat.zero_le _, Nat.zero_le _⟩ (Nat.le_of_ble_eq_true rfl) d_Md_isYear_12 hl.1 (rest := []) rfl) ?_
    refine m_if_eq C hM 22 d_Md_isYear_15 (by decide) (fun hM => ?_) (fun hM => ?_)
    · refine m_iconst C d_Md_isYear_22 ?_
      exact m_zretR C hr hlk hM d_Md_isYear_23
    · refine m_iconst C d_Md_isYear_18 ?_
      refine m_goto C 23 d_Md_isYear_19 (by decide) ?_
      exact m_zretR C hr hlk hM d_Md_isYear_23
def y_Md_isLong : MethodName := ⟨"FeastBookModel", "isLong", "(I)Z"⟩
theorem d_Md_isLong_0 : decode prog_13_method_10_code 0 = .ok (.aload_n 0, 1) := by decide +kernel
theorem d_Md_isLong_1 : decode prog_13_method_10_code 1 = .ok (.getfield 7, 3) := by decide +kernel
theorem d_Md_isLong_4 : decode prog_13_method_10_code 4 = .ok (.bipush 10, 2) := by decide +kernel
theorem d_Md_isLong_6 : decode prog_13_method_10_code 6 = .ok (.iaload, 1) := by decide +kernel
theorem d_Md_isLong_7 : decode prog_13_method_10_code 7 = .ok (.ifCond .le 19, 3) := by decide +kernel
theorem d_Md_isLong_10 : decode prog_13_method_10_code 10 = .ok (.iload_n 1, 1) := by decide +kernel
theorem d_Md_isLong_11 : decode prog_13_method_10_code 11 = .ok (.aload_n 0, 1) := by decide +kernel
theorem d_Md_isLong_12 : decode prog_13_method_10_code 12 = .ok (.getfield 7, 3) := by decide +kernel
theorem d_Md_isLong_15 : decode prog_13_method_10_code 15 = .ok (.bipush 10, 2) := by decide +kernel
theorem d_Md_isLong_17 : decode prog_13_method_10_code 17 = .ok (.iaload, 1) := by decide +kernel
theorem d_Md_isLong_18 : decode prog_13_method_10_code 18 = .ok (.irem, 1) := by decide +kernel
theorem d_Md_isLong_19 : decode prog_13_method_10_code 19 = .ok (.ifCond .ne 7, 3) := by decide +kernel
theorem d_Md_isLong_22 : decode prog_13_method_10_code 22 = .ok (.iconst 1, 1) := by decide +kernel
theorem d_Md_isLong_23 : decode prog_13_method_10_code 23 = .ok (.goto 4, 3) := by decide +kernel
theorem d_Md_isLong_26 : decode prog_13_method_10_code 26 = .ok (.iconst 0, 1) := by decide +kernel
theorem d_Md_isLong_27 : decode prog_13_method_10_code 27 = .ok (.ireturn, 1) := by decide +kernel
set_option maxHeartbeats 4000000 in
set_option maxRecDepth 100000 in
theorem c_Md_isLong {l : Launch} {D : va_G} {ad : Nat → Nat} {cA : Nat → ClassId} {sd sv : Nat → Nat} {h : Hp} {a1 : Int} {out : Int} (hI : Inj97 ad) (hM : M_Md_isLong h a1 = some out) : Met l y_Md_isLong (.code y_Md_isLong prog_13_method_10_code 2 (some .boolean) :: TT) (rmD 0) (PC D ad cA sd sv h [.ref (ad 83), .int (iZ a1)]) (QR out) 0 0 (fun _ => False) := by
  unfold M_Md_isLong at hM
  refine entM (by decide +kernel) hI (Nat.le_of_ble_eq_true rfl) ?_
  intro p e s m args below meth c C hr hlk hP ls hl
  have C : Cx p s m args c prog_13_method_10_code 2 "FeastBookModel" D ad cA sd sv (FA ad) := C
  have hl : lv_has ls 2 [(0, .ref (ad 83)), (1, .int (iZ a1))] := hl
  refine m_aload_n C hl 0 d_Md_isLong_0 rfl rfl ?_
  refine m_getr C hP kc_Md sh_83 (Nat.le_of_ble_eq_true rfl) 1 84 rfl (by decide) fk_Md_7 d_Md_isLong_1 ?_
  refine m_bipush C d_Md_isLong_4 (by decide) ?_
  refine m_iald C hP sh_84 (Nat.le_of_ble_eq_true rfl) (Nat.le_of_ble_eq_true rfl) hM d_Md_isLong_6 (fun x1 hM => ?_)
  refine m_if_le C hM 26 d_Md_isLong_7 (by decide) (fun hM => ?_) (fun hM => ?_)
  · refine m_iconst C d_Md_isLong_26 ?_
    exact m_zretR C hr hlk hM d_Md_isLong_27
  · refine m_iload_n C hl 1 d_Md_isLong_10 rfl rfl ?_
    refine m_aload_n C hl 0 d_Md_isLong_11 rfl rfl ?_
    refine m_getr C hP kc_Md sh_83 (Nat.le_of_ble_eq_true rfl) 1 84 rfl (by decide) fk_Md_7 d_Md_isLong_12 ?_
    refine m_bipush C d_Md_isLong_15 (by decide) ?_
    refine m_iald C hP sh_84 (Nat.le_of_ble_eq_true rfl) (Nat.le_of_ble_eq_true rfl) hM d_Md_isLong_17 (fun x2 hM => ?_)
    refine m_irem C hM d_Md_isLong_18 (fun x3 hM => ?_)
    refine m_if_ne C hM 26 d_Md_isLong_19 (by decide) (fun hM => ?_) (fun hM => ?_)
    · refine m_iconst C d_Md_isLong_26 ?_
      exact m_zretR C hr hlk hM d_Md_isLong_27
    · refine m_iconst C d_Md_isLong_22 ?_
      refine m_goto C 27 d_Md_isLong_23 (by decide) ?_
      exact m_zretR C hr hlk hM d_Md_isLong_27
def y_Md_lengthOf : MethodName := ⟨"FeastBookModel", "lengthOf", "(I)I"⟩
theorem d_Md_lengthOf_0 : decode prog_13_method_11_code 0 = .ok (.aload_n 0, 1) := by decide +kernel
theorem d_Md_lengthOf_1 : decode prog_13_method_11_code 1 = .ok (.getfield 7, 3) := by decide +kernel
theorem d_Md_lengthOf_4 : decode prog_13_method_11_code 4 = .ok (.invokestatic 62, 3) := by decide +kernel
theorem d_Md_lengthOf_7 : decode prog_13_method_11_code 7 = .ok (.aload_n 0, 1) := by decide +kernel
theorem d_Md_lengthOf_8 : decode prog_13_method_11_code 8 = .ok (.iload_n 1, 1) := by decide +kernel
theorem d_Md_lengthOf_9 : decode prog_13_method_11_code 9 = .ok (.invokevirtual 66, 3) := by decide +kernel
theorem d_Md_lengthOf_12 : decode prog_13_method_11_code 12 = .ok (.ifCond .eq 7, 3) := by decide +kernel
theorem d_Md_lengthOf_15 : decode prog_13_method_11_code 15 = .ok (.iconst 1, 1) := by decide +kernel
theorem d_Md_lengthOf_16 : decode prog_13_method_11_code 16 = .ok (.goto 4, 3) := by decide +kernel
theorem d_Md_lengthOf_19 : decode prog_13_method_11_code 19 = .ok (.iconst 0, 1) := by decide +kernel
theorem d_Md_lengthOf_20 : decode prog_13_method_11_code 20 = .ok (.iadd, 1) := by decide +kernel
theorem d_Md_lengthOf_21 : decode prog_13_method_11_code 21 = .ok (.ireturn, 1) := by decide +kernel
theorem mb_Md_isLong : MBv R_Md y_Md_isLong prog_13_method_10_code 2 (some .boolean) 1 := ⟨mT9 68 (by decide +kernel) (by decide +kernel), mTs 34 (by decide +kernel) (by decide +kernel), mT1 10 (by decide +kernel) (by decide +kernel), mT9 69 (by decide +kernel) (by decide +kernel), by decide, rfl, by decide +kernel, by decide +kernel, by decide +kernel⟩
theorem lk_Md_66 : Cond.methodLink "FeastBookModel" 66 y_Md_isLong ∈ TT := mT9 66 (by decide +kernel) (by decide +kernel)
set_option maxHeartbeats 4000000 in
set_option maxRecDepth 100000 in
theorem c_Md_lengthOf {l : Launch} {D : va_G} {ad : Nat → Nat} {cA : Nat → ClassId} {sd sv : Nat → Nat} {h : Hp} {N : Nat} {a1 : Int} {out : Int} (hI : Inj97 ad) (hM : M_Md_lengthOf N h a1 = some out) : Met l y_Md_lengthOf (.code y_Md_lengthOf prog_13_method_11_code 2 (some .int) :: TT) (rmD 1) (PC D ad cA sd sv h [.ref (ad 83), .int (iZ a1)]) (QR out) 0 0 (fun _ => False) := by
  unfold M_Md_lengthOf at hM
  refine entM (by decide +kernel) hI (Nat.le_of_ble_eq_true rfl) ?_
  intro p e s m args below meth c C hr hlk hP ls hl
  have C : Cx p s m args c prog_13_method_11_code 2 "FeastBookModel" D ad cA sd sv (FA ad) := C
  have hl : lv_has ls 2 [(0, .ref (ad 83)), (1, .int (iZ a1))] := hl
  refine m_aload_n C hl 0 d_Md_lengthOf_0 rfl rfl ?_
  refine m_getr C hP kc_Md sh_83 (Nat.le_of_ble_eq_true rfl) 1 84 rfl (by decide) fk_Md_7 d_Md_lengthOf_1 ?_
  obtain ⟨x2, e1, hM⟩ := bnd_some hM
  refine aftR (runS C hP va_S.rf (c_Md_monthsOf hI ⟨sh_84, (Nat.le_of_ble_eq_true rfl), (Nat.le_of_ble_eq_true rfl)⟩ e1) lk_Md_62 mb_Md_monthsOf rfl ⟨Nat.le_of_ble_eq_true rfl, Nat.le_of_ble_eq_true rfl⟩ ⟨Nat.zero_le _, Nat.zero_le _⟩ (Nat.le_of_ble_eq_true rfl) d_Md_lengthOf_4 hl.1 (rest := []) rfl) ?_
  refine m_aload_n C hl 0 d_Md_lengthOf_7 rfl rfl ?_
  refine m_iload_n C hl 1 d_Md_lengthOf_8 rfl rfl ?_
  obtain ⟨x4, e3, hM⟩ := bnd_some hM
  refine aftR (runV C hP va_S.rf kc_Md sh_83 (Nat.le_of_ble_eq_true rfl) (c_Md_isLong hI e3) lk_Md_66 mb_Md_isLong rfl ⟨Nat.le_of_ble_eq_true rfl, Nat.le_of_ble_eq_true rfl⟩ ⟨Nat.zero_le _, Nat.zero_le _⟩ (Nat.le_of_ble_eq_true rfl) d_Md_lengthOf_9 hl.1 (rest := [.int (iZ x2)]) rfl) ?_
  refine m_if_eq C hM 19 d_Md_lengthOf_12 (by decide) (fun hM => ?_) (fun hM => ?_)
  · refine m_iconst C d_Md_lengthOf_19 ?_
    refine m_iadd C d_Md_lengthOf_20 ?_
    exact m_iretR C hr hlk hM d_Md_lengthOf_21
  · refine m_iconst C d_Md_lengthOf_15 ?_
    refine m_goto C 20 d_Md_lengthOf_16 (by decide) ?_
    refine m_iadd C d_Md_lengthOf_20 ?_
    exact m_iretR C hr hlk hM d_Md_lengthOf_21
def y_Md_weekdayOf : MethodName := ⟨"FeastBookModel", "weekdayOf", "(I)I"⟩
theorem d_Md_weekdayOf_0 : decode prog_13_method_12_code 0 = .ok (.aload_n 0, 1) := by decide +kernel
theorem d_Md_weekdayOf_1 : decode prog_13_method_12_code 1 = .ok (.getfield 7, 3) := by decide +kernel
theorem d_Md_weekdayOf_4 : decode prog_13_method_12_code 4 = .ok (.bipush 10, 2) := by decide +kernel
theorem d_Md_weekdayOf_6 : decode prog_13_method_12_code 6 = .ok (.iaload, 1) := by decide +kernel
theorem d_Md_weekdayOf_7 : decode prog_13_method_12_code 7 = .ok (.ifCond .le 25, 3) := by decide +kernel
theorem d_Md_weekdayOf_10 : decode prog_13_method_12_code 10 = .ok (.iload_n 1, 1) := by decide +kernel
theorem d_Md_weekdayOf_11 : decode prog_13_method_12_code 11 = .ok (.aload_n 0, 1) := by decide +kernel
theorem d_Md_weekdayOf_12 : decode prog_13_method_12_code 12 = .ok (.getfield 7, 3) := by decide +kernel
theorem d_Md_weekdayOf_15 : decode prog_13_method_12_code 15 = .ok (.bipush 10, 2) := by decide +kernel
theorem d_Md_weekdayOf_17 : decode prog_13_method_12_code 17 = .ok (.iaload, 1) := by decide +kernel
theorem d_Md_weekdayOf_18 : decode prog_13_method_12_code 18 = .ok (.iadd, 1) := by decide +kernel
theorem d_Md_weekdayOf_19 : decode prog_13_method_12_code 19 = .ok (.iconst 1, 1) := by decide +kernel
theorem d_Md_weekdayOf_20 : decode prog_13_method_12_code 20 = .ok (.isub, 1) := by decide +kernel
theorem d_Md_weekdayOf_21 : decode prog_13_method_12_code 21 = .ok (.aload_n 0, 1) := by decide +kernel
theorem d_Md_weekdayOf_22 : decode prog_13_method_12_code 22 = .ok (.getfield 7, 3) := by decide +kernel
theorem d_Md_weekdayOf_25 : decode prog_13_method_12_code 25 = .ok (.bipush 10, 2) := by decide +kernel
theorem d_Md_weekdayOf_27 : decode prog_13_method_12_code 27 = .ok (.iaload, 1) := by decide +kernel
theorem d_Md_weekdayOf_28 : decode prog_13_method_12_code 28 = .ok (.idiv, 1) := by decide +kernel
theorem d_Md_weekdayOf_29 : decode prog_13_method_12_code 29 = .ok (.goto 4, 3) := by decide +kernel
theorem d_Md_weekdayOf_32 : decode prog_13_method_12_code 32 = .ok (.iconst 0, 1) := by decide +kernel
theorem d_Md_weekdayOf_33 : decode prog_13_method_12_code 33 = .ok (.istore_n 2, 1) := by decide +kernel
theorem d_Md_weekdayOf_34 : decode prog_13_method_12_code 34 = .ok (.iload_n 1, 1) := by decide +kernel
theorem d_Md_weekdayOf_35 : decode prog_13_method_12_code 35 = .ok (.aload_n 0, 1) := by decide +kernel
theorem d_Md_weekdayOf_36 : decode prog_13_method_12_code 36 = .ok (.getfield 7, 3) := by decide +kernel
theorem d_Md_weekdayOf_39 : decode prog_13_method_12_code 39 = .ok (.invokestatic 62, 3) := by decide +kernel
theorem d_Md_weekdayOf_42 : decode prog_13_method_12_code 42 = .ok (.imul, 1) := by decide +kernel
theorem d_Md_weekdayOf_43 : decode prog_13_method_12_code 43 = .ok (.iload_n 2, 1) := by decide +kernel
theorem d_Md_weekdayOf_44 : decode prog_13_method_12_code 44 = .ok (.iadd, 1) := by decide +kernel
theorem d_Md_weekdayOf_45 : decode prog_13_method_12_code 45 = .ok (.aload_n 0, 1) := by decide +kernel
theorem d_Md_weekdayOf_46 : decode prog_13_method_12_code 46 = .ok (.getfield 7, 3) := by decide +kernel
theorem d_Md_weekdayOf_49 : decode prog_13_method_12_code 49 = .ok (.iconst 0, 1) := by decide +kernel
theorem d_Md_weekdayOf_50 : decode prog_13_method_12_code 50 = .ok (.iaload, 1) := by decide +kernel
theorem d_Md_weekdayOf_51 : decode prog_13_method_12_code 51 = .ok (.irem, 1) := by decide +kernel
theorem d_Md_weekdayOf_52 : decode prog_13_method_12_code 52 = .ok (.ireturn, 1) := by decide +kernel
set_option maxHeartbeats 4000000 in
set_option maxRecDepth 100000 in
theorem c_Md_weekdayOf {l : Launch} {D : va_G} {ad : Nat → Nat} {cA : Nat → ClassId} {sd sv : Nat → Nat} {h : Hp} {N : Nat} {a1 : Int} {out : Int} (hI : Inj97 ad) (hM : M_Md_weekdayOf N h a1 = some out) : Met l y_Md_weekdayOf (.code y_Md_weekdayOf prog_13_method_12_code 3 (some .int) :: TT) (rmD 1) (PC D ad cA sd sv h [.ref (ad 83), .int (iZ a1)]) (QR out) 0 0 (fun _ => False) := by
  unfold M_Md_weekdayOf at hM
  refine entM (by decide +kernel) hI (Nat.le_of_ble_eq_true rfl) ?_
  intro p e s m args below meth c C hr hlk hP ls hl
  have C : Cx p s m args c prog_13_method_12_code 3 "FeastBookModel" D ad cA sd sv (FA ad) := C
  have hl : lv_has ls 3 [(0, .ref (ad 83)), (1, .int (iZ a1))] := hl
  refine m_aload_n C hl 0 d_Md_weekdayOf_0 rfl rfl ?_
  refine m_getr C hP kc_Md sh_83 (Nat.le_of_ble_eq_true rfl) 1 84 rfl (by decide) fk_Md_7 d_Md_weekdayOf_1 ?_
  refine m_bipush C d_Md_weekdayOf_4 (by decide) ?_
  refine m_iald C hP sh_84 (Nat.le_of_ble_eq_true rfl) (Nat.le_of_ble_eq_true rfl) hM d_Md_weekdayOf_6 (fun x1 hM => ?_)
  refine lt_join hM (fun j5 ej hM => ?_)
  have hJ5 : ∀ (s0_5 : Int), j5 s0_5 = some out → ∀ ls : Array Slot, lv_has ls 3 [(0, .ref (ad 83)), (1, .int (iZ a1))] → W p l e (rmD 1) s m args below meth c s.heap [] 0 0 (MQ below (QR out) args s 0 0 (fun _ => False)) (F0 m 33 ls [.int (iZ s0_5)]) := by
    intro s0_5 hM ls hl
    subst ej
    dsimp only at hM
    refine m_istore_n C hl [(2, .int (iZ s0_5)), (0, .ref (ad 83)), (1, .int (iZ a1))] d_Md_weekdayOf_33 rfl (by decide) rfl (fun ls hl => ?_)
    refine m_iload_n C hl 2 d_Md_weekdayOf_34 rfl rfl ?_
    refine m_aload_n C hl 1 d_Md_weekdayOf_35 rfl rfl ?_
    refine m_getr C hP kc_Md sh_83 (Nat.le_of_ble_eq_true rfl) 1 84 rfl (by decide) fk_Md_7 d_Md_weekdayOf_36 ?_
    obtain ⟨x7, e6, hM⟩ := bnd_some hM
    refine aftR (runS C hP va_S.rf (c_Md_monthsOf hI ⟨sh_84, (Nat.le_of_ble_eq_true rfl), (Nat.le_of_ble_eq_true rfl)⟩ e6) lk_Md_62 mb_Md_monthsOf rfl ⟨Nat.le_of_ble_eq_true rfl, Nat.le_of_ble_eq_true rfl⟩ ⟨Nat.zero_le _, Nat.zero_le _⟩ (Nat.le_of_ble_eq_true rfl) d_Md_weekdayOf_39 hl.1 (rest := [.int (iZ a1)]) rfl) ?_
    refine m_imul C d_Md_weekdayOf_42 ?_
    refine m_iload_n C hl 0 d_Md_weekdayOf_43 rfl rfl ?_
    refine m_iadd C d_Md_weekdayOf_44 ?_
    refine m_aload_n C hl 1 d_Md_weekdayOf_45 rfl rfl ?_
    refine m_getr C hP kc_Md sh_83 (Nat.le_of_ble_eq_true rfl) 1 84 rfl (by decide) fk_Md_7 d_Md_weekdayOf_46 ?_
    refine m_iconst C d_Md_weekdayOf_49 ?_
    refine m_iald C hP sh_84 (Nat.le_of_ble_eq_true rfl) (Nat.le_of_ble_eq_true rfl) hM d_Md_weekdayOf_50 (fun x8 hM => ?_)
    refine m_irem C hM d_Md_weekdayOf_51 (fun x9 hM => ?_)
    exact m_iretR C hr hlk hM d_Md_weekdayOf_52
  refine m_if_le C hM 32 d_Md_weekdayOf_7 (by decide) (fun hM => ?_) (fun hM => ?_)
  · refine m_iconst C d_Md_weekdayOf_32 ?_
    exact hJ5 0 hM _ hl
  · refine m_iload_n C hl 1 d_Md_weekdayOf_10 rfl rfl ?_
    refine m_aload_n C hl 0 d_Md_weekdayOf_11 rfl rfl ?_
    refine m_getr C hP kc_Md sh_83 (Nat.le_of_ble_eq_true rfl) 1 84 rfl (by decide) fk_Md_7 d_Md_weekdayOf_12 ?_
    refine m_bipush C d_Md_weekdayOf_15 (by decide) ?_
    refine m_iald C hP sh_84 (Nat.le_of_ble_eq_true rfl) (Nat.le_of_ble_eq_true rfl) hM d_Md_weekdayOf_17 (fun x10 hM => ?_)
    refine m_iadd C d_Md_weekdayOf_18 ?_
    refine m_iconst C d_Md_weekdayOf_19 ?_
    refine m_isub C d_Md_weekdayOf_20 ?_
    refine m_aload_n C hl 0 d_Md_weekdayOf_21 rfl rfl ?_
    refine m_getr C hP kc_Md sh_83 (Nat.le_of_ble_eq_true rfl) 1 84 rfl (by decide) fk_Md_7 d_Md_weekdayOf_22 ?_
    refine m_bipush C d_Md_weekdayOf_25 (by decide) ?_
    refine m_iald C hP sh_84 (Nat.le_of_ble_eq_true rfl) (Nat.le_of_ble_eq_true rfl) hM d_Md_weekdayOf_27 (fun x11 hM => ?_)
    refine m_idiv C hM d_Md_weekdayOf_28 (fun x12 hM => ?_)
    refine m_goto C 33 d_Md_weekdayOf_29 (by decide) ?_
    exact hJ5 x12 hM _ hl
def y_Md_fullOf : MethodName := ⟨"FeastBookModel", "fullOf", "(I)I"⟩
theorem d_Md_fullOf_0 : decode prog_13_method_13_code 0 = .ok (.aload_n 0, 1) := by decide +kernel
theorem d_Md_fullOf_1 : decode prog_13_method_13_code 1 = .ok (.getfield 7, 3) := by decide +kernel
theorem d_Md_fullOf_4 : decode prog_13_method_13_code 4 = .ok (.bipush 13, 2) := by decide +kernel
theorem d_Md_fullOf_6 : decode prog_13_method_13_code 6 = .ok (.iaload, 1) := by decide +kernel
theorem d_Md_fullOf_7 : decode prog_13_method_13_code 7 = .ok (.aload_n 0, 1) := by decide +kernel
theorem d_Md_fullOf_8 : decode prog_13_method_13_code 8 = .ok (.getfield 7, 3) := by decide +kernel
theorem d_Md_fullOf_11 : decode prog_13_method_13_code 11 = .ok (.bipush 14, 2) := by decide +kernel
theorem d_Md_fullOf_13 : decode prog_13_method_13_code 13 = .ok (.iaload, 1) := by decide +kernel
theorem d_Md_fullOf_14 : decode prog_13_method_13_code 14 = .ok (.iload_n 1, 1) := by decide +kernel
theorem d_Md_fullOf_15 : decode prog_13_method_13_code 15 = .ok (.aload_n 0, 1) := by decide +kernel
theorem d_Md_fullOf_16 : decode prog_13_method_13_code 16 = .ok (.getfield 7, 3) := by decide +kernel
theorem d_Md_fullOf_19 : decode prog_13_method_13_code 19 = .ok (.bipush 12, 2) := by decide +kernel
theorem d_Md_fullOf_21 : decode prog_13_method_13_code 21 = .ok (.iaload, 1) := by decide +kernel
theorem d_Md_fullOf_22 : decode prog_13_method_13_code 22 = .ok (.irem, 1) := by decide +kernel
theorem d_Md_fullOf_23 : decode prog_13_method_13_code 23 = .ok (.imul, 1) := by decide +kernel
theorem d_Md_fullOf_24 : decode prog_13_method_13_code 24 = .ok (.aload_n 0, 1) := by decide +kernel
theorem d_Md_fullOf_25 : decode prog_13_method_13_code 25 = .ok (.getfield 7, 3) := by decide +kernel
theorem d_Md_fullOf_28 : decode prog_13_method_13_code 28 = .ok (.bipush 15, 2) := by decide +kernel
theorem d_Md_fullOf_30 : decode prog_13_method_13_code 30 = .ok (.iaload, 1) := by decide +kernel
theorem d_Md_fullOf_31 : decode prog_13_method_13_code 31 = .ok (.irem, 1) := by decide +kernel
theorem d_Md_fullOf_32 : decode prog_13_method_13_code 32 = .ok (.iadd, 1) := by decide +kernel
theorem d_Md_fullOf_33 : decode prog_13_method_13_code 33 = .ok (.ireturn, 1) := by decide +kernel
set_option maxHeartbeats 4000000 in
set_option maxRecDepth 100000 in
theorem c_Md_fullOf {l : Launch} {D : va_G} {ad : Nat → Nat} {cA : Nat → ClassId} {sd sv : Nat → Nat} {h : Hp} {a1 : Int} {out : Int} (hI : Inj97 ad) (hM : M_Md_fullOf h a1 = some out) : Met l y_Md_fullOf (.code y_Md_fullOf prog_13_method_13_code 2 (some .int) :: TT) (rmD 0) (PC D ad cA sd sv h [.ref (ad 83), .int (iZ a1)]) (QR out) 0 0 (fun _ => False) := by
  unfold M_Md_fullOf at hM
  refine entM (by decide +kernel) hI (Nat.le_of_ble_eq_true rfl) ?_
  intro p e s m args below meth c C hr hlk hP ls hl
  have C : Cx p s m args c prog_13_method_13_code 2 "FeastBookModel" D ad cA sd sv (FA ad) := C
  have hl : lv_has ls 2 [(0, .ref (ad 83)), (1, .int (iZ a1))] := hl
  refine m_aload_n C hl 0 d_Md_fullOf_0 rfl rfl ?_
  refine m_getr C hP kc_Md sh_83 (Nat.le_of_ble_eq_true rfl) 1 84 rfl (by decide) fk_Md_7 d_Md_fullOf_1 ?_
  refine m_bipush C d_Md_fullOf_4 (by decide) ?_
  refine m_iald C hP sh_84 (Nat.le_of_ble_eq_true rfl) (Nat.le_of_ble_eq_true rfl) hM d_Md_fullOf_6 (fun x1 hM => ?_)
  refine m_aload_n C hl 0 d_Md_fullOf_7 rfl rfl ?_
  refine m_getr C hP kc_Md sh_83 (Nat.le_of_ble_eq_true rfl) 1 84 rfl (by decide) fk_Md_7 d_Md_fullOf_8 ?_
  refine m_bipush C d_Md_fullOf_11 (by decide) ?_
  refine m_iald C hP sh_84 (Nat.le_of_ble_eq_true rfl) (Nat.le_of_ble_eq_true rfl) hM d_Md_fullOf_13 (fun x2 hM => ?_)
  refine m_iload_n C hl 1 d_Md_fullOf_14 rfl rfl ?_
  refine m_aload_n C hl 0 d_Md_fullOf_15 rfl rfl ?_
  refine m_getr C hP kc_Md sh_83 (Nat.le_of_ble_eq_true rfl) 1 84 rfl (by decide) fk_Md_7 d_Md_fullOf_16 ?_
  refine m_bipush C d_Md_fullOf_19 (by decide) ?_
  refine m_iald C hP sh_84 (Nat.le_of_ble_eq_true rfl) (Nat.le_of_ble_eq_true rfl) hM d_Md_fullOf_21 (fun x3 hM => ?_)
  refine m_irem C hM d_Md_fullOf_22 (fun x4 hM => ?_)
  refine m_imul C d_Md_fullOf_23 ?_
  refine m_aload_n C hl 0 d_Md_fullOf_24 rfl rfl ?_
  refine m_getr C hP kc_Md sh_83 (Nat.le_of_ble_eq_true rfl) 1 84 rfl (by decide) fk_Md_7 d_Md_fullOf_25 ?_
  refine m_bipush C d_Md_fullOf_28 (by decide) ?_
  refine m_iald C hP sh_84 (Nat.le_of_ble_eq_true rfl) (Nat.le_of_ble_eq_true rfl) hM d_Md_fullOf_30 (fun x5 hM => ?_)
  refine m_irem C hM d_Md_fullOf_31 (fun x6 hM => ?_)
  refine m_iadd C d_Md_fullOf_32 ?_
  exact m_iretR C hr hlk hM d_Md_fullOf_33
def y_Md_paschOf : MethodName := ⟨"FeastBookModel", "paschOf", "(I)I"⟩
theorem d_Md_paschOf_0 : decode prog_13_method_14_code 0 = .ok (.aload_n 0, 1) := by decide +kernel
theorem d_Md_paschOf_1 : decode prog_13_method_14_code 1 = .ok (.iload_n 1, 1) := by decide +kernel
theorem d_Md_paschOf_2 : decode prog_13_method_14_code 2 = .ok (.invokevirtual 70, 3) := by decide +kernel
theorem d_Md_paschOf_5 : decode prog_13_method_14_code 5 = .ok (.iconst 1, 1) := by decide +kernel
theorem d_Md_paschOf_6 : decode prog_13_method_14_code 6 = .ok (.iadd, 1) := by decide +kernel
theorem d_Md_paschOf_7 : decode prog_13_method_14_code 7 = .ok (.istore_n 2, 1) := by decide +kernel
theorem d_Md_paschOf_8 : decode prog_13_method_14_code 8 = .ok (.aload_n 0, 1) := by decide +kernel
theorem d_Md_paschOf_9 : decode prog_13_method_14_code 9 = .ok (.iload_n 1, 1) := by decide +kernel
theorem d_Md_paschOf_10 : decode prog_13_method_14_code 10 = .ok (.invokevirtual 74, 3) := by decide +kernel
theorem d_Md_paschOf_13 : decode prog_13_method_14_code 13 = .ok (.iload_n 2, 1) := by decide +kernel
theorem d_Md_paschOf_14 : decode prog_13_method_14_code 14 = .ok (.iadd, 1) := by decide +kernel
theorem d_Md_paschOf_15 : decode prog_13_method_14_code 15 = .ok (.aload_n 0, 1) := by decide +kernel
theorem d_Md_paschOf_16 : decode prog_13_method_14_code 16 = .ok (.getfield 7, 3) := by decide +kernel
theorem d_Md_paschOf_19 : decode prog_13_method_14_code 19 = .ok (.iconst 0, 1) := by decide +kernel
theorem d_Md_paschOf_20 : decode prog_13_method_14_code 20 = .ok (.iaload, 1) := by decide +kernel
theorem d_Md_paschOf_21 : decode prog_13_method_14_code 21 = .ok (.irem, 1) := by decide +kernel
theorem d_Md_paschOf_22 : decode prog_13_method_14_code 22 = .ok (.ifCond .eq 9, 3) := by decide +kernel
theorem d_Md_paschOf_25 : decode prog_13_method_14_code 25 = .ok (.iinc 2 1, 3) := by decide +kernel
theorem d_Md_paschOf_28 : decode prog_13_method_14_code 28 = .ok (.goto (-20), 3) := by decide +kernel
theorem d_Md_paschOf_31 : decode prog_13_method_14_code 31 = .ok (.iload_n 2, 1) := by decide +kernel
theorem d_Md_paschOf_32 : decode prog_13_method_14_code 32 = .ok (.ireturn, 1) := by decide +kernel
theorem mb_Md_fullOf : MBv R_Md y_Md_fullOf prog_13_method_13_code 2 (some .int) 1 := ⟨mT9 80 (by decide +kernel) (by decide +kernel), mTs 37 (by decide +kernel) (by decide +kernel), mT1 10 (by decide +kernel) (by decide +kernel), mT9 81 (by decide +kernel) (by decide +kernel), by decide, rfl, by decide +kernel, by decide +kernel, by decide +kernel⟩
theorem mb_Md_weekdayOf : MBv R_Md y_Md_weekdayOf prog_13_method_12_code 3 (some .int) 1 := ⟨mT9 72 (by decide +kernel) (by decide +kernel), mTs 35 (by decide +kernel) (by decide +kernel), mT1 10 (by decide +kernel) (by decide +kernel), mT9 73 (by decide +kernel) (by decide +kernel), by decide, rfl, by decide +kernel, by decide +kernel, by decide +kernel⟩
theorem lk_Md_70 : Cond.methodLink "FeastBookModel" 70 y_Md_fullOf ∈ TT := mT9 78 (by decide +kernel) (by decide +kernel)
theorem lk_Md_74 : Cond.methodLink "FeastBookModel" 74 y_Md_weekdayOf ∈ TT := mT9 70 (by decide +kernel) (by decide +kernel)
set_option maxHeartbeats 4000000 in
set_option maxRecDepth 100000 in
theorem w_Md_paschOf_L8 {p : Program} {l : Launch} {e : Env} {s : State} {m : MethodId} {args : Array Value} {below : List Frame} {meth : Method} {c : Code} {D : va_G} {ad : Nat → Nat} {cA : Nat → ClassId} {sd sv : Nat → Nat} {out : Int} (N : Nat) (hI : Inj97 ad) (C : Cx p s m args c prog_13_method_14_code 3 "FeastBookModel" D ad cA sd sv (FA ad)) (hr : meth.sig.returnType = (some .int)) (hlk : meth.locks = false) (v1 : Int) (h : Hp) (hP : va_P D clL (wl ad cA h) s.heap) : ∀ (n : Nat) (v2 : Int), ∀ ls : Array Slot, lv_has ls 3 [(0, .ref (ad 83)), (1, .int (iZ v1)), (2, .int (iZ v2))] → Md_paschOf_L8 N h v1 n v2 = some out → W p l e (rmD 2) s m args below meth c s.heap [] 0 0 (MQ below (QR out) args s 0 0 (fun _ => False)) (F0 m 8 ls []) := by
  intro n
  induction n with
  | zero =>
    intro v2 ls hl hM
    rw [Md_paschOf_L8] at hM
    cases hM
  | succ n ih =>
    intro v2 ls hl hM
    rw [Md_paschOf_L8] at hM
    refine m_aload_n C hl 0 d_Md_paschOf_8 rfl rfl ?_
    refine m_iload_n C hl 1 d_Md_paschOf_9 rfl rfl ?_
    obtain ⟨x4, e3, hM⟩ := bnd_some hM
    refine aftR (runV C hP va_S.rf kc_Md sh_83 (Nat.le_of_ble_eq_true rfl) (c_Md_weekdayOf hI e3) lk_Md_74 mb_Md_weekdayOf rfl ⟨Nat.le_of_ble_eq_true rfl, Nat.le_of_ble_eq_true rfl⟩ ⟨Nat.zero_le _, Nat.zero_le _⟩ (Nat.le_of_ble_eq_true rfl) d_Md_paschOf_10 hl.1 (rest := []) rfl) ?_
    refine m_iload_n C hl 2 d_Md_paschOf_13 rfl rfl ?_
    refine m_iadd C d_Md_paschOf_14 ?_
    refine m_aload_n C hl 0 d_Md_paschOf_15 rfl rfl ?_
    refine m_getr C hP kc_Md sh_83 (Nat.le_of_ble_eq_true rfl) 1 84 rfl (by decide) fk_Md_7 d_Md_paschOf_16 ?_
    refine m_iconst C d_Md_paschOf_19 ?_
    refine m_iald C hP sh_84 (Nat.le_of_ble_eq_true rfl) (Nat.le_of_ble_eq_true rfl) hM d_Md_paschOf_20 (fun x5 hM => ?_)
    refine m_irem C hM d_Md_paschOf_21 (fun x6 hM => ?_)
    refine m_if_eq C hM 31 d_Md_paschOf_22 (by decide) (fun hM => ?_) (fun hM => ?_)
    · refine m_iload_n C hl 2 d_Md_paschOf_31 rfl rfl ?_
      exact m_iretR C hr hlk hM d_Md_paschOf_32
    · refine m_iinc C hl 2 [(2, .int (iZ (v2 + 1))), (0, .ref (ad 83)), (1, .int (iZ v1))] d_Md_paschOf_25 rfl (by decide) rfl (fun ls hl => ?_)
      refine m_goto C 8 d_Md_paschOf_28 (by decide) ?_
      exact ih (v2 + 1) _ (lv_sub hl [1, 2, 0] rfl) hM
set_option maxHeartbeats 4000000 in
set_option maxRecDepth 100000 in
theorem c_Md_paschOf {l : Launch} {D : va_G} {ad : Nat → Nat} {cA : Nat → ClassId} {sd sv : Nat → Nat} {h : Hp} {N : Nat} {a1 : Int} {out : Int} (hI : Inj97 ad) (hM : M_Md_paschOf N h a1 = some out) : Met l y_Md_paschOf (.code y_Md_paschOf prog_13_method_14_code 3 (some .int) :: TT) (rmD 2) (PC D ad cA sd sv h [.ref (ad 83), .int (iZ a1)]) (QR out) 0 0 (fun _ => False) := by
  unfold M_Md_paschOf at hM
  refine entM (by decide +kernel) hI (Nat.le_of_ble_eq_true rfl) ?_
  intro p e s m args below meth c C hr hlk hP ls hl
  have C : Cx p s m args c prog_13_method_14_code 3 "FeastBookModel" D ad cA sd sv (FA ad) := C
  have hl : lv_has ls 3 [(0, .ref (ad 83)), (1, .int (iZ a1))] := hl
  refine m_aload_n C hl 0 d_Md_paschOf_0 rfl rfl ?_
  refine m_iload_n C hl 1 d_Md_paschOf_1 rfl rfl ?_
  obtain ⟨x2, e1, hM⟩ := bnd_some hM
  refine aftR (runV C hP va_S.rf kc_Md sh_83 (Nat.le_of_ble_eq_true rfl) (c_Md_fullOf hI e1) lk_Md_70 mb_Md_fullOf rfl ⟨Nat.le_of_ble_eq_true rfl, Nat.le_of_ble_eq_true rfl⟩ ⟨Nat.zero_le _, Nat.zero_le _⟩ (Nat.le_of_ble_eq_true rfl) d_Md_paschOf_2 hl.1 (rest := []) rfl) ?_
  refine m_iconst C d_Md_paschOf_5 ?_
  refine m_iadd C d_Md_paschOf_6 ?_
  refine m_istore_n C hl [(2, .int (iZ (x2 + 1))), (0, .ref (ad 83)), (1, .int (iZ a1))] d_Md_paschOf_7 rfl (by decide) rfl (fun ls hl => ?_)
  exact w_Md_paschOf_L8 N hI C hr hlk a1 h hP _ (x2 + 1) _ (lv_sub hl [1, 2, 0] rfl) hM
def y_Md_of0 : MethodName := ⟨"FeastBookModel", "of0", "(II)I"⟩
theorem d_Md_of0_0 : decode prog_13_method_8_code 0 = .ok (.aload_n 0, 1) := by decide +kernel
theorem d_Md_of0_1 : decode prog_13_method_8_code 1 = .ok (.getfield 7, 3) := by decide +kernel
theorem d_Md_of0_4 : decode prog_13_method_8_code 4 = .ok (.bipush 43, 2) := by decide +kernel
theorem d_Md_of0_6 : decode prog_13_method_8_code 6 = .ok (.bipush 7, 2) := by decide +kernel
theorem d_Md_of0_8 : decode prog_13_method_8_code 8 = .ok (.iload_n 1, 1) := by decide +kernel
theorem d_Md_of0_9 : decode prog_13_method_8_code 9 = .ok (.imul, 1) := by decide +kernel
theorem d_Md_of0_10 : decode prog_13_method_8_code 10 = .ok (.iadd, 1) := by decide +kernel
theorem d_Md_of0_11 : decode prog_13_method_8_code 11 = .ok (.iload_n 2, 1) := by decide +kernel
theorem d_Md_of0_12 : decode prog_13_method_8_code 12 = .ok (.iadd, 1) := by decide +kernel
theorem d_Md_of0_13 : decode prog_13_method_8_code 13 = .ok (.iaload, 1) := by decide +kernel
theorem d_Md_of0_14 : decode prog_13_method_8_code 14 = .ok (.ireturn, 1) := by decide +kernel
set_option maxHeartbeats 4000000 in
set_option maxRecDepth 100000 in
theorem c_Md_of0 {l : Launch} {D : va_G} {ad : Nat → Nat} {cA : Nat → ClassId} {sd sv : Nat → Nat} {h : Hp} {a1 a2 : Int} {out : Int} (hI : Inj97 ad) (hM : M_Md_of0 h a1 a2 = some out) : Met l y_Md_of0 (.code y_Md_of0 prog_13_method_8_code 3 (some .int) :: TT) (rmD 0) (PC D ad cA sd sv h [.ref (ad 83), .int (iZ a1), .int (iZ a2)]) (QR out) 0 0 (fun _ => False) := by
  unfold M_Md_of0 at hM
  refine entM (by decide +kernel) hI (Nat.le_of_ble_eq_true rfl) ?_
  intro p e s m args below meth c C hr hlk hP ls hl
  have C : Cx p s m args c prog_13_method_8_code 3 "FeastBookModel" D ad cA sd sv (FA ad) := C
  have hl : lv_has ls 3 [(0, .ref (ad 83)), (1, .int (iZ a1)), (2, .int (iZ a2))] := hl
  refine m_aload_n C hl 0 d_Md_of0_0 rfl rfl ?_
  refine m_getr C hP kc_Md sh_83 (Nat.le_of_ble_eq_true rfl) 1 84 rfl (by decide) fk_Md_7 d_Md_of0_1 ?_
  refine m_bipush C d_Md_of0_4 (by decide) ?_
  refine m_bipush C d_Md_of0_6 (by decide) ?_
  refine m_iload_n C hl 1 d_Md_of0_8 rfl rfl ?_
  refine m_imul C d_Md_of0_9 ?_
  refine m_iadd C d_Md_of0_10 ?_
  refine m_iload_n C hl 2 d_Md_of0_11 rfl rfl ?_
  refine m_iadd C d_Md_of0_12 ?_
  refine m_iald C hP sh_84 (Nat.le_of_ble_eq_true rfl) (Nat.le_of_ble_eq_true rfl) hM d_Md_of0_13 (fun x1 hM => ?_)
  exact m_iretR C hr hlk hM d_Md_of0_14
def y_Md_monthLength : MethodName := ⟨"FeastBookModel", "monthLength", "(II)I"⟩
theorem d_Md_monthLength_0 : decode prog_13_method_15_code 0 = .ok (.aload_n 0, 1) := by decide +kernel
theorem d_Md_monthLength_1 : decode prog_13_method_15_code 1 = .ok (.getfield 7, 3) := by decide +kernel
theorem d_Md_monthLength_4 : decode prog_13_method_15_code 4 = .ok (.iconst 2, 1) := by decide +kernel
theorem d_Md_monthLength_5 : decode prog_13_method_15_code 5 = .ok (.iload_n 2, 1) := by decide +kernel
theorem d_Md_monthLength_6 : decode prog_13_method_15_code 6 = .ok (.iadd, 1) := by decide +kernel
theorem d_Md_monthLength_7 : decode prog_13_method_15_code 7 = .ok (.iaload, 1) := by decide +kernel
theorem d_Md_monthLength_8 : decode prog_13_method_15_code 8 = .ok (.aload_n 0, 1) := by decide +kernel
theorem d_Md_monthLength_9 : decode prog_13_method_15_code 9 = .ok (.iload_n 1, 1) := by decide +kernel
theorem d_Md_monthLength_10 : decode prog_13_method_15_code 10 = .ok (.invokevirtual 66, 3) := by decide +kernel
theorem d_Md_monthLength_13 : decode prog_13_method_15_code 13 = .ok (.ifCond .eq 18, 3) := by decide +kernel
theorem d_Md_monthLength_16 : decode prog_13_method_15_code 16 = .ok (.iload_n 2, 1) := by decide +kernel
theorem d_Md_monthLength_17 : decode prog_13_method_15_code 17 = .ok (.aload_n 0, 1) := by decide +kernel
theorem d_Md_monthLength_18 : decode prog_13_method_15_code 18 = .ok (.getfield 7, 3) := by decide +kernel
theorem d_Md_monthLength_21 : decode prog_13_method_15_code 21 = .ok (.bipush 11, 2) := by decide +kernel
theorem d_Md_monthLength_23 : decode prog_13_method_15_code 23 = .ok (.iaload, 1) := by decide +kernel
theorem d_Md_monthLength_24 : decode prog_13_method_15_code 24 = .ok (.if_icmp .ne 7, 3) := by decide +kernel
theorem d_Md_monthLength_27 : decode prog_13_method_15_code 27 = .ok (.iconst 1, 1) := by decide +kernel
theorem d_Md_monthLength_28 : decode prog_13_method_15_code 28 = .ok (.goto 4, 3) := by decide +kernel
theorem d_Md_monthLength_31 : decode prog_13_method_15_code 31 = .ok (.iconst 0, 1) := by decide +kernel
theorem d_Md_monthLength_32 : decode prog_13_method_15_code 32 = .ok (.iadd, 1) := by decide +kernel
theorem d_Md_monthLength_33 : decode prog_13_method_15_code 33 = .ok (.ireturn, 1) := by decide +kernel
set_option maxHeartbeats 4000000 in
set_option maxRecDepth 100000 in
theorem c_Md_monthLength {l : Launch} {D : va_G} {ad : Nat → Nat} {cA : Nat → ClassId} {sd sv : Nat → Nat} {h : Hp} {a1 a2 : Int} {out : Int} (hI : Inj97 ad) (hM : M_Md_monthLength h a1 a2 = some out) : Met l y_Md_monthLength (.code y_Md_monthLength prog_13_method_15_code 3 (some .int) :: TT) (rmD 1) (PC D ad cA sd sv h [.ref (ad 83), .int (iZ a1), .int (iZ a2)]) (QR out) 0 0 (fun _ => False) := by
  unfold M_Md_monthLength at hM
  refine entM (by decide +kernel) hI (Nat.le_of_ble_eq_true rfl) ?_
  intro p e s m args below meth c C hr hlk hP ls hl
  have C : Cx p s m args c prog_13_method_15_code 3 "FeastBookModel" D ad cA sd sv (FA ad) := C
  have hl : lv_has ls 3 [(0, .ref (ad 83)), (1, .int (iZ a1)), (2, .int (iZ a2))] := hl
  refine m_aload_n C hl 0 d_Md_monthLength_0 rfl rfl ?_
  refine m_getr C hP kc_Md sh_83 (Nat.le_of_ble_eq_true rfl) 1 84 rfl (by decide) fk_Md_7 d_Md_monthLength_1 ?_
  refine m_iconst C d_Md_monthLength_4 ?_
  refine m_iload_n C hl 2 d_Md_monthLength_5 rfl rfl ?_
  refine m_iadd C d_Md_monthLength_6 ?_
  refine m_iald C hP sh_84 (Nat.le_of_ble_eq_true rfl) (Nat.le_of_ble_eq_true rfl) hM d_Md_monthLength_7 (fun x1 hM => ?_)
  refine m_aload_n C hl 0 d_Md_monthLength_8 rfl rfl ?_
  refine m_iload_n C hl 1 d_Md_monthLength_9 rfl rfl ?_
  obtain ⟨x3, e2, hM⟩ := bnd_some hM
  refine aftR (runV C hP va_S.rf kc_Md sh_83 (Nat.le_of_ble_eq_true rfl) (c_Md_isLong hI e2) lk_Md_66 mb_Md_isLong rfl ⟨Nat.le_of_ble_eq_true rfl, Nat.le_of_ble_eq_true rfl⟩ ⟨Nat.zero_le _, Nat.zero_le _⟩ (Nat.le_of_ble_eq_true rfl) d_Md_monthLength_10 hl.1 (rest := [.int (iZ x1)]) rfl) ?_
  refine m_if_eq C hM 31 d_Md_monthLength_13 (by decide) (fun hM => ?_) (fun hM => ?_)
  · refine m_iconst C d_Md_monthLength_31 ?_
    refine m_iadd C d_Md_monthLength_32 ?_
    exact m_iretR C hr hlk hM d_Md_monthLength_33
  · refine m_iload_n C hl 2 d_Md_monthLength_16 rfl rfl ?_
    refine m_aload_n C hl 0 d_Md_monthLength_17 rfl rfl ?_
    refine m_getr C hP kc_Md sh_83 (Nat.le_of_ble_eq_true rfl) 1 84 rfl (by decide) fk_Md_7 d_Md_monthLength_18 ?_
    refine m_bipush C d_Md_monthLength_21 (by decide) ?_
    refine m_iald C hP sh_84 (Nat.le_of_ble_eq_true rfl) (Nat.le_of_ble_eq_true rfl) hM d_Md_monthLength_23 (fun x4 hM => ?_)
    refine m_icmp_ne C hM 31 d_Md_monthLength_24 (by decide) (fun hM => ?_) (fun hM => ?_)
    · refine m_iconst C d_Md_monthLength_31 ?_
      refine m_iadd C d_Md_monthLength_32 ?_
      exact m_iretR C hr hlk hM d_Md_monthLength_33
    · refine m_iconst C d_Md_monthLength_27 ?_
      refine m_goto C 32 d_Md_monthLength_28 (by decide) ?_
      refine m_iadd C d_Md_monthLength_32 ?_
      exact m_iretR C hr hlk hM d_Md_monthLength_33
def y_Md_firstOf : MethodName := ⟨"FeastBookModel", "firstOf", "(II)I"⟩
theorem d_Md_firstOf_0 : decode prog_13_method_16_code 0 = .ok (.iconst 0, 1) := by decide +kernel
theorem d_Md_firstOf_1 : decode prog_13_method_16_code 1 = .ok (.istore_n 3, 1) := by decide +kernel
theorem d_Md_firstOf_2 : decode prog_13_method_16_code 2 = .ok (.iconst 0, 1) := by decide +kernel
theorem d_Md_firstOf_3 : decode prog_13_method_16_code 3 = .ok (.istore 4, 2) := by decide +kernel
theorem d_Md_firstOf_5 : decode prog_13_method_16_code 5 = .ok (.iload 4, 2) := by decide +kernel
theorem d_Md_firstOf_7 : decode prog_13_method_16_code 7 = .ok (.iload_n 2, 1) := by decide +kernel
theorem d_Md_firstOf_8 : decode prog_13_method_16_code 8 = .ok (.if_icmp .ge 19, 3) := by decide +kernel
theorem d_Md_firstOf_11 : decode prog_13_method_16_code 11 = .ok (.iload_n 3, 1) := by decide +kernel
theorem d_Md_firstOf_12 : decode prog_13_method_16_code 12 = .ok (.aload_n 0, 1) := by decide +kernel
theorem d_Md_firstOf_13 : decode prog_13_method_16_code 13 = .ok (.iload_n 1, 1) := by decide +kernel
theorem d_Md_firstOf_14 : decode prog_13_method_16_code 14 = .ok (.iload 4, 2) := by decide +kernel
theorem d_Md_firstOf_16 : decode prog_13_method_16_code 16 = .ok (.invokevirtual 77, 3) := by decide +kernel
theorem d_Md_firstOf_19 : decode prog_13_method_16_code 19 = .ok (.iadd, 1) := by decide +kernel
theorem d_Md_firstOf_20 : decode prog_13_method_16_code 20 = .ok (.istore_n 3, 1) := by decide +kernel
theorem d_Md_firstOf_21 : decode prog_13_method_16_code 21 = .ok (.iinc 4 1, 3) := by decide +kernel
theorem d_Md_firstOf_24 : decode prog_13_method_16_code 24 = .ok (.goto (-19), 3) := by decide +kernel
theorem d_Md_firstOf_27 : decode prog_13_method_16_code 27 = .ok (.iload_n 3, 1) := by decide +kernel
theorem d_Md_firstOf_28 : decode prog_13_method_16_code 28 = .ok (.ireturn, 1) := by decide +kernel
theorem mb_Md_monthLength : MBv R_Md y_Md_monthLength prog_13_method_15_code 3 (some .int) 2 := ⟨mT9 96 (by decide +kernel) (by decide +kernel), mTs 41 (by decide +kernel) (by decide +kernel), mT1 10 (by decide +kernel) (by decide +kernel), mT9 97 (by decide +kernel) (by decide +kernel), by decide, rfl, by decide +kernel, by decide +kernel, by decide +kernel⟩
theorem lk_Md_77 : Cond.methodLink "FeastBookModel" 77 y_Md_monthLength ∈ TT := mT9 94 (by decide +kernel) (by decide +kernel)
set_option maxHeartbeats 4000000 in
set_option maxRecDepth 100000 in
theorem w_Md_firstOf_L5 {p : Program} {l : Launch} {e : Env} {s : State} {m : MethodId} {args : Array Value} {below : List Frame} {meth : Method} {c : Code} {D : va_G} {ad : Nat → Nat} {cA : Nat → ClassId} {sd sv : Nat → Nat} {out : Int} (N : Nat) (hI : Inj97 ad) (C : Cx p s m args c prog_13_method_16_code 5 "FeastBookModel" D ad cA sd sv (FA ad)) (hr : meth.sig.returnType = (some .int)) (hlk : meth.locks = false) (v1 v2 : Int) (h : Hp) (hP : va_P D clL (wl ad cA h) s.heap) : ∀ (n : Nat) (v3 v4 : Int), ∀ ls : Array Slot, lv_has ls 5 [(0, .ref (ad 83)), (1, .int (iZ v1)), (2, .int (iZ v2)), (3, .int (iZ v3)), (4, .int (iZ v4))] → Md_firstOf_L5 N h v1 v2 n v3 v4 = some out → W p l e (rmD 2) s m args below meth c s.heap [] 0 0 (MQ below (QR out) args s 0 0 (fun _ => False)) (F0 m 5 ls []) := by
  intro n
  induction n with
  | zero =>
    intro v3 v4 ls hl hM
    rw [Md_firstOf_L5] at hM
    cases hM
  | succ n ih =>
    intro v3 v4 ls hl hM
    rw [Md_firstOf_L5] at hM
    refine m_iload C hl 4 d_Md_firstOf_5 rfl ?_
    refine m_iload_n C hl 2 d_Md_firstOf_7 rfl rfl ?_
    refine m_icmp_ge C hM 27 d_Md_firstOf_8 (by decide) (fun hM => ?_) (fun hM => ?_)
    · refine m_iload_n C hl 3 d_Md_firstOf_27 rfl rfl ?_
      exact m_iretR C hr hlk hM d_Md_firstOf_28
    · refine m_iload_n C hl 3 d_Md_firstOf_11 rfl rfl ?_
      refine m_aload_n C hl 0 d_Md_firstOf_12 rfl rfl ?_
      refine m_iload_n C hl 1 d_Md_firstOf_13 rfl rfl ?_
      refine m_iload C hl 4 d_Md_firstOf_14 rfl ?_
      obtain ⟨x2, e1, hM⟩ := bnd_some hM
      refine aftR (runV C hP va_S.rf kc_Md sh_83 (Nat.le_of_ble_eq_true rfl) (c_Md_monthLength hI e1) lk_Md_77 mb_Md_monthLength rfl ⟨Nat.le_of_ble_eq_true rfl, Nat.le_of_ble_eq_true rfl⟩ ⟨Nat.zero_le _, Nat.zero_le _⟩ (Nat.le_of_ble_eq_true rfl) d_Md_firstOf_16 hl.1 (rest := [.int (iZ v3)]) rfl) ?_
      refine m_iadd C d_Md_firstOf_19 ?_
      refine m_istore_n C hl [(3, .int (iZ (v3 + x2))), (0, .ref (ad 83)), (1, .int (iZ v1)), (2, .int (iZ v2)), (4, .int (iZ v4))] d_Md_firstOf_20 rfl (by decide) rfl (fun ls hl => ?_)
      refine m_iinc C hl 4 [(4, .int (iZ (v4 + 1))), (3, .int (iZ (v3 + x2))), (0, .ref (ad 83)), (1, .int (iZ v1)), (2, .int (iZ v2))] d_Md_firstOf_21 rfl (by decide) rfl (fun ls hl => ?_)
      refine m_goto C 5 d_Md_firstOf_24 (by decide) ?_
      exact ih (v3 + x2) (v4 + 1) _ (lv_sub hl [2, 3, 4, 1, 0] rfl) hM
set_option maxHeartbeats 4000000 in
set_option maxRecDepth 100000 in
theorem c_Md_firstOf {l : Launch} {D : va_G} {ad : Nat → Nat} {cA : Nat → ClassId} {sd sv : Nat → Nat} {h : Hp} {N : Nat} {a1 a2 : Int} {out : Int} (hI : Inj97 ad) (hM : M_Md_firstOf N h a1 a2 = some out) : Met l y_Md_firstOf (.code y_Md_firstOf prog_13_method_16_code 5 (some .int) :: TT) (rmD 2) (PC D ad cA sd sv h [.ref (ad 83), .int (iZ a1), .int (iZ a2)]) (QR out) 0 0 (fun _ => False) := by
  unfold M_Md_firstOf at hM
  refine entM (by decide +kernel) hI (Nat.le_of_ble_eq_true rfl) ?_
  intro p e s m args below meth c C hr hlk hP ls hl
  have C : Cx p s m args c prog_13_method_16_code 5 "FeastBookModel" D ad cA sd sv (FA ad) := C
  have hl : lv_has ls 5 [(0, .ref (ad 83)), (1, .int (iZ a1)), (2, .int (iZ a2))] := hl
  refine m_iconst C d_Md_firstOf_0 ?_
  refine m_istore_n C hl [(3, .int (iZ 0)), (0, .ref (ad 83)), (1, .int (iZ a1)), (2, .int (iZ a2))] d_Md_firstOf_1 rfl (by decide) rfl (fun ls hl => ?_)
  refine m_iconst C d_Md_firstOf_2 ?_
  refine m_istore C hl [(4, .int (iZ 0)), (3, .int (iZ 0)), (0, .ref (ad 83)), (1, .int (iZ a1)), (2, .int (iZ a2))] d_Md_firstOf_3 (by decide) rfl (fun ls hl => ?_)
  exact w_Md_firstOf_L5 N hI C hr hlk a1 a2 h hP _ 0 0 _ (lv_sub hl [2, 3, 4, 1, 0] rfl) hM
def y_Md_toldDay : MethodName := ⟨"FeastBookModel", "toldDay", "(II)I"⟩
theorem d_Md_toldDay_0 : decode prog_13_method_27_code 0 = .ok (.aload_n 0, 1) := by decide +kernel
theorem d_Md_toldDay_1 : decode prog_13_method_27_code 1 = .ok (.iload_n 1, 1) := by decide +kernel
theorem d_Md_toldDay_2 : decode prog_13_method_27_code 2 = .ok (.iconst 1, 1) := by decide +kernel
theorem d_Md_toldDay_3 : decode prog_13_method_27_code 3 = .ok (.invokevirtual 90, 3) := by decide +kernel
theorem d_Md_toldDay_6 : decode prog_13_method_27_code 6 = .ok (.iconst 1, 1) := by decide +kernel
theorem d_Md_toldDay_7 : decode prog_13_method_27_code 7 = .ok (.if_icmp .ne 17, 3) := by decide +kernel
theorem d_Md_toldDay_10 : decode prog_13_method_27_code 10 = .ok (.aload_n 0, 1) := by decide +kernel
theorem d_Md_toldDay_11 : decode prog_13_method_27_code 11 = .ok (.getfield 87, 3) := by decide +kernel
theorem d_Md_toldDay_14 : decode prog_13_method_27_code 14 = .ok (.aload_n 0, 1) := by decide +kernel
theorem d_Md_toldDay_15 : decode prog_13_method_27_code 15 = .ok (.iload_n 1, 1) := by decide +kernel
theorem d_Md_toldDay_16 : decode prog_13_method_27_code 16 = .ok (.iconst 3, 1) := by decide +kernel
theorem d_Md_toldDay_17 : decode prog_13_method_27_code 17 = .ok (.invokevirtual 90, 3) := by decide +kernel
theorem d_Md_toldDay_20 : decode prog_13_method_27_code 20 = .ok (.iadd, 1) := by decide +kernel
theorem d_Md_toldDay_21 : decode prog_13_method_27_code 21 = .ok (.goto 21, 3) := by decide +kernel
theorem d_Md_toldDay_24 : decode prog_13_method_27_code 24 = .ok (.aload_n 0, 1) := by decide +kernel
theorem d_Md_toldDay_25 : decode prog_13_method_27_code 25 = .ok (.iload_n 2, 1) := by decide +kernel
theorem d_Md_toldDay_26 : decode prog_13_method_27_code 26 = .ok (.aload_n 0, 1) := by decide +kernel
theorem d_Md_toldDay_27 : decode prog_13_method_27_code 27 = .ok (.iload_n 1, 1) := by decide +kernel
theorem d_Md_toldDay_28 : decode prog_13_method_27_code 28 = .ok (.iconst 2, 1) := by decide +kernel
theorem d_Md_toldDay_29 : decode prog_13_method_27_code 29 = .ok (.invokevirtual 90, 3) := by decide +kernel
theorem d_Md_toldDay_32 : decode prog_13_method_27_code 32 = .ok (.invokevirtual 81, 3) := by decide +kernel
theorem d_Md_toldDay_35 : decode prog_13_method_27_code 35 = .ok (.aload_n 0, 1) := by decide +kernel
theorem d_Md_toldDay_36 : decode prog_13_method_27_code 36 = .ok (.iload_n 1, 1) := by decide +kernel
theorem d_Md_toldDay_37 : decode prog_13_method_27_code 37 = .ok (.iconst 3, 1) := by decide +kernel
theorem d_Md_toldDay_38 : decode prog_13_method_27_code 38 = .ok (.invokevirtual 90, 3) := by decide +kernel
theorem d_Md_toldDay_41 : decode prog_13_method_27_code 41 = .ok (.iadd, 1) := by decide +kernel
theorem d_Md_toldDay_42 : decode prog_13_method_27_code 42 = .ok (.istore_n 3, 1) := by decide +kernel
theorem d_Md_toldDay_43 : decode prog_13_method_27_code 43 = .ok (.iload_n 3, 1) := by decide +kernel
theorem d_Md_toldDay_44 : decode prog_13_method_27_code 44 = .ok (.iconst 0, 1) := by decide +kernel
theorem d_Md_toldDay_45 : decode prog_13_method_27_code 45 = .ok (.aload_n 0, 1) := by decide +kernel
theorem d_Md_toldDay_46 : decode prog_13_method_27_code 46 = .ok (.getfield 122, 3) := by decide +kernel
theorem d_Md_toldDay_49 : decode prog_13_method_27_code 49 = .ok (.iconst 1, 1) := by decide +kernel
theorem d_Md_toldDay_50 : decode prog_13_method_27_code 50 = .ok (.isub, 1) := by decide +kernel
theorem d_Md_toldDay_51 : decode prog_13_method_27_code 51 = .ok (.invokestatic 54, 3) := by decide +kernel
theorem d_Md_toldDay_54 : decode prog_13_method_27_code 54 = .ok (.ifCond .eq 7, 3) := by decide +kernel
theorem d_Md_toldDay_57 : decode prog_13_method_27_code 57 = .ok (.iload_n 3, 1) := by decide +kernel
theorem d_Md_toldDay_58 : decode prog_13_method_27_code 58 = .ok (.goto 4, 3) := by decide +kernel
theorem d_Md_toldDay_61 : decode prog_13_method_27_code 61 = .ok (.iconst (-1), 1) := by decide +kernel
theorem d_Md_toldDay_62 : decode prog_13_method_27_code 62 = .ok (.ireturn, 1) := by decide +kernel
theorem mb_Md_firstOf : MBv R_Md y_Md_firstOf prog_13_method_16_code 5 (some .int) 2 := ⟨mT9 92 (by decide +kernel) (by decide +kernel), mTs 40 (by decide +kernel) (by decide +kernel), mT1 10 (by decide +kernel) (by decide +kernel), mT9 93 (by decide +kernel) (by decide +kernel), by decide, rfl, by decide +kernel, by decide +kernel, by decide +kernel⟩
theorem mb_Md_of0 : MBv R_Md y_Md_of0 prog_13_method_8_code 3 (some .int) 2 := ⟨mT9 88 (by decide +kernel) (by decide +kernel), mTs 39 (by decide +kernel) (by decide +kernel), mT1 10 (by decide +kernel) (by decide +kernel), mT9 89 (by decide +kernel) (by decide +kernel), by decide, rfl, by decide +kernel, by decide +kernel, by decide +kernel⟩
theorem fk_Md_122 : Cond.fieldLink "FeastBookModel" 122 (T_Md 13).1 (T_Md 13).2.1 (T_Md 13).2.2.1 ∈ TT := mT8 109 (by decide +kernel) (by decide +kernel)
theorem fk_Md_87 : Cond.fieldLink "FeastBookModel" 87 (T_Md 15).1 (T_Md 15).2.1 (T_Md 15).2.2.1 ∈ TT := mT8 111 (by decide +kernel) (by decide +kernel)
theorem lk_Md_81 : Cond.methodLink "FeastBookModel" 81 y_Md_firstOf ∈ TT := mT9 90 (by decide +kernel) (by decide +kernel)
theorem lk_Md_90 : Cond.methodLink "FeastBookModel" 90 y_Md_of0 ∈ TT := mT9 86 (by decide +kernel) (by decide +kernel)
set_option maxHeartbeats 4000000 in
set_option maxRecDepth 100000 in
theorem c_Md_toldDay {l : Launch} {D : va_G} {ad : Nat → Nat} {cA : Nat → ClassId} {sd sv : Nat → Nat} {h : Hp} {N : Nat} {a1 a2 : Int} {out : Int} (hI : Inj97 ad) (hM : M_Md_toldDay N h a1 a2 = some out) : Met l y_Md_toldDay (.code y_Md_toldDay prog_13_method_27_code 4 (some .int) :: TT) (rmD 3) (PC D ad cA sd sv h [.ref (ad 83), .int (iZ a1), .int (iZ a2)]) (QR out) 0 0 (fun _ => False) := by
  unfold M_Md_toldDay at hM
  refine entM (by decide +kernel) hI (Nat.le_of_ble_eq_true rfl) ?_
  intro p e s m args below meth c C hr hlk hP ls hl
  have C : Cx p s m args c prog_13_method_27_code 4 "FeastBookModel" D ad cA sd sv (FA ad) := C
  have hl : lv_has ls 4 [(0, .ref (ad 83)), (1, .int (iZ a1)), (2, .int (iZ a2))] := hl
  refine m_aload_n C hl 0 d_Md_toldDay_0 rfl rfl ?_
  refine m_iload_n C hl 1 d_Md_toldDay_1 rfl rfl ?_
  refine m_iconst C d_Md_toldDay_2 ?_
  obtain ⟨x2, e1, hM⟩ := bnd_some hM
  refine aftR (runV C hP va_S.rf kc_Md sh_83 (Nat.le_of_ble_eq_true rfl) (c_Md_of0 hI e1) lk_Md_90 mb_Md_of0 rfl ⟨Nat.le_of_ble_eq_true rfl, Nat.le_of_ble_eq_true rfl⟩ ⟨Nat.zero_le _, Nat.zero_le _⟩ (Nat.le_of_ble_eq_true rfl) d_Md_toldDay_3 hl.1 (rest := []) rfl) ?_
  refine m_iconst C d_Md_toldDay_6 ?_
  refine lt_join hM (fun j11 ej hM => ?_)
  have hJ11 : ∀ (s0_11 : Int), j11 s0_11 = some out → ∀ ls : Array Slot, lv_has ls 4 [(0, .ref (ad 83)), (1, .int (iZ a1)), (2, .int (iZ a2))] → W p l e (rmD 3) s m args below meth c s.heap [] 0 0 (MQ below (QR out) args s 0 0 (fun _ => False)) (F0 m 42 ls [.int (iZ s0_11)]) := by
    intro s0_11 hM ls hl
    subst ej
    dsimp only at hM
    refine m_istore_n C hl [(3, .int (iZ s0_11)), (0, .ref (ad 83)), (1, .int (iZ a1)), (2, .int (iZ a2))] d_Md_toldDay_42 rfl (by decide) rfl (fun ls hl => ?_)
    refine m_iload_n C hl 0 d_Md_toldDay_43 rfl rfl ?_
    refine m_iconst C d_Md_toldDay_44 ?_
    refine m_aload_n C hl 1 d_Md_toldDay_45 rfl rfl ?_
    refine m_geti C hP kc_Md sh_83 (Nat.le_of_ble_eq_true rfl) 13 rfl (by decide) fk_Md_122 d_Md_toldDay_46 ?_
    refine m_iconst C d_Md_toldDay_49 ?_
    refine m_isub C d_Md_toldDay_50 ?_
    obtain ⟨x13, e12, hM⟩ := bnd_some hM
    refine aftR (runS C hP va_S.rf (c_Md_isIn hI e12) lk_Md_54 mb_Md_isIn rfl ⟨Nat.le_of_ble_eq_true rfl, Nat.le_of_ble_eq_true rfl⟩ ⟨Nat.zero_le _, Nat.zero_le _⟩ (Nat.le_of_ble_eq_true rfl) d_Md_toldDay_51 hl.1 (rest := []) rfl) ?_
    refine m_if_eq C hM 61 d_Md_toldDay_54 (by decide) (fun hM => ?_) (fun hM => ?_)
    · refine m_iconst C d_Md_toldDay_61 ?_
      exact m_iretR C hr hlk hM d_Md_toldDay_62
    · refine m_iload_n C hl 0 d_Md_toldDay_57 rfl rfl ?_
      refine m_goto C 62 d_Md_toldDay_58 (by decide) ?_
      exact m_iretR C hr hlk hM d_Md_toldDay_62
  refine m_icmp_ne C hM 24 d_Md_toldDay_7 (by decide) (fun hM => ?_) (fun hM => ?_)
  · refine m_aload_n C hl 0 d_Md_toldDay_24 rfl rfl ?_
    refine m_iload_n C hl 2 d_Md_toldDay_25 rfl rfl ?_
    refine m_aload_n C hl 0 d_Md_toldDay_26 rfl rfl ?_
    refine m_iload_n C hl 1 d_Md_toldDay_27 rfl rfl ?_
    refine m_iconst C d_Md_toldDay_28 ?_
    obtain ⟨x15, e14, hM⟩ := bnd_some hM
    refine aftR (runV C hP va_S.rf kc_Md sh_83 (Nat.le_of_ble_eq_true rfl) (c_Md_of0 hI e14) lk_Md_90 mb_Md_of0 rfl ⟨Nat.le_of_ble_eq_true rfl, Nat.le_of_ble_eq_true rfl⟩ ⟨Nat.zero_le _, Nat.zero_le _⟩ (Nat.le_of_ble_eq_true rfl) d_Md_toldDay_29 hl.1 (rest := [.int (iZ a2), .ref (ad 83)]) rfl) ?_
    obtain ⟨x17, e16, hM⟩ := bnd_some hM
    refine aftR (runV C hP va_S.rf kc_Md sh_83 (Nat.le_of_ble_eq_true rfl) (c_Md_firstOf hI e16) lk_Md_81 mb_Md_firstOf rfl ⟨Nat.le_of_ble_eq_true rfl, Nat.le_of_ble_eq_true rfl⟩ ⟨Nat.zero_le _, Nat.zero_le _⟩ (Nat.le_of_ble_eq_true rfl) d_Md_toldDay_32 hl.1 (rest := []) rfl) ?_
    refine m_aload_n C hl 0 d_Md_toldDay_35 rfl rfl ?_
    refine m_iload_n C hl 1 d_Md_toldDay_36 rfl rfl ?_
    refine m_iconst C d_Md_toldDay_37 ?_
    obtain ⟨x19, e18, hM⟩ := bnd_some hM
    refine aftR (runV C hP va_S.rf kc_Md sh_83 (Nat.le_of_ble_eq_true rfl) (c_Md_of0 hI e18) lk_Md_90 mb_Md_of0 rfl ⟨Nat.le_of_ble_eq_true rfl, Nat.le_of_ble_eq_true rfl⟩ ⟨Nat.zero_le _, Nat.zero_le _⟩ (Nat.le_of_ble_eq_true rfl) d_Md_toldDay_38 hl.1 (rest := [.int (iZ x17)]) rfl) ?_
    refine m_iadd C d_Md_toldDay_41 ?_
    exact hJ11 (x17 + x19) hM _ hl
  · refine m_aload_n C hl 0 d_Md_toldDay_10 rfl rfl ?_
    refine m_geti C hP kc_Md sh_83 (Nat.le_of_ble_eq_true rfl) 15 rfl (by decide) fk_Md_87 d_Md_toldDay_11 ?_
    refine m_aload_n C hl 0 d_Md_toldDay_14 rfl rfl ?_
    refine m_iload_n C hl 1 d_Md_toldDay_15 rfl rfl ?_
    refine m_iconst C d_Md_toldDay_16 ?_
    obtain ⟨x21, e20, hM⟩ := bnd_some hM
    refine aftR (runV C hP va_S.rf kc_Md sh_83 (Nat.le_of_ble_eq_true rfl) (c_Md_of0 hI e20) lk_Md_90 mb_Md_of0 rfl ⟨Nat.le_of_ble_eq_true rfl, Nat.le_of_ble_eq_true rfl⟩ ⟨Nat.zero_le _, Nat.zero_le _⟩ (Nat.le_of_ble_eq_true rfl) d_Md_toldDay_17 hl.1 (rest := [.int (iZ (h 83 15))]) rfl) ?_
    refine m_iadd C d_Md_toldDay_20 ?_
    refine m_goto C 42 d_Md_toldDay_21 (by decide) ?_
    exact hJ11 ((h 83 15) + x21) hM _ hl
def y_Md_isAhead : MethodName := ⟨"FeastBookModel", "isAhead", "(II)Z"⟩
theorem d_Md_isAhead_0 : decode prog_13_method_21_code 0 = .ok (.aload_n 0, 1) := by decide +kernel
theorem d_Md_isAhead_1 : decode prog_13_method_21_code 1 = .ok (.iload_n 1, 1) := by decide +kernel
theorem d_Md_isAhead_2 : decode prog_13_method_21_code 2 = .ok (.iconst 1, 1) := by decide +kernel
theorem d_Md_isAhead_3 : decode prog_13_method_21_code 3 = .ok (.invokevirtual 90, 3) := by decide +kernel
theorem d_Md_isAhead_6 : decode prog_13_method_21_code 6 = .ok (.aload_n 0, 1) := by decide +kernel
theorem d_Md_isAhead_7 : decode prog_13_method_21_code 7 = .ok (.iload_n 2, 1) := by decide +kernel
theorem d_Md_isAhead_8 : decode prog_13_method_21_code 8 = .ok (.iconst 1, 1) := by decide +kernel
theorem d_Md_isAhead_9 : decode prog_13_method_21_code 9 = .ok (.invokevirtual 90, 3) := by decide +kernel
theorem d_Md_isAhead_12 : decode prog_13_method_21_code 12 = .ok (.if_icmp .eq 19, 3) := by decide +kernel
theorem d_Md_isAhead_15 : decode prog_13_method_21_code 15 = .ok (.aload_n 0, 1) := by decide +kernel
theorem d_Md_isAhead_16 : decode prog_13_method_21_code 16 = .ok (.iload_n 1, 1) := by decide +kernel
theorem d_Md_isAhead_17 : decode prog_13_method_21_code 17 = .ok (.iconst 1, 1) := by decide +kernel
theorem d_Md_isAhead_18 : decode prog_13_method_21_code 18 = .ok (.invokevirtual 90, 3) := by decide +kernel
theorem d_Md_isAhead_21 : decode prog_13_method_21_code 21 = .ok (.iconst 1, 1) := by decide +kernel
theorem d_Md_isAhead_22 : decode prog_13_method_21_code 22 = .ok (.if_icmp .ne 7, 3) := by decide +kernel
theorem d_Md_isAhead_25 : decode prog_13_method_21_code 25 = .ok (.iconst 1, 1) := by decide +kernel
theorem d_Md_isAhead_26 : decode prog_13_method_21_code 26 = .ok (.goto 4, 3) := by decide +kernel
theorem d_Md_isAhead_29 : decode prog_13_method_21_code 29 = .ok (.iconst 0, 1) := by decide +kernel
theorem d_Md_isAhead_30 : decode prog_13_method_21_code 30 = .ok (.ireturn, 1) := by decide +kernel
theorem d_Md_isAhead_31 : decode prog_13_method_21_code 31 = .ok (.iload_n 1, 1) := by decide +kernel
theorem d_Md_isAhead_32 : decode prog_13_method_21_code 32 = .ok (.iload_n 2, 1) := by decide +kernel
theorem d_Md_isAhead_33 : decode prog_13_method_21_code 33 = .ok (.if_icmp .ge 7, 3) := by decide +kernel
theorem d_Md_isAhead_36 : decode prog_13_method_21_code 36 = .ok (.iconst 1, 1) := by decide +kernel
theorem d_Md_isAhead_37 : decode prog_13_method_21_code 37 = .ok (.goto 4, 3) := by decide +kernel
theorem d_Md_isAhead_40 : decode prog_13_method_21_code 40 = .ok (.iconst 0, 1) := by decide +kernel
theorem d_Md_isAhead_41 : decode prog_13_method_21_code 41 = .ok (.ireturn, 1) := by decide +kernel
set_option maxHeartbeats 4000000 in
set_option maxRecDepth 100000 in
theorem c_Md_isAhead {l : Launch} {D : va_G} {ad : Nat → Nat} {cA : Nat → ClassId} {sd sv : Nat → Nat} {h : Hp} {a1 a2 : Int} {out : Int} (hI : Inj97 ad) (hM : M_Md_isAhead h a1 a2 = some out) : Met l y_Md_isAhead (.code y_Md_isAhead prog_13_method_21_code 3 (some .boolean) :: TT) (rmD 1) (PC D ad cA sd sv h [.ref (ad 83), .int (iZ a1), .int (iZ a2)]) (QR out) 0 0 (fun _ => False) := by
  unfold M_Md_isAhead at hM
  refine entM (by decide +kernel) hI (Nat.le_of_ble_eq_true rfl) ?_
  intro p e s m args below meth c C hr hlk hP ls hl
  have C : Cx p s m args c prog_13_method_21_code 3 "FeastBookModel" D ad cA sd sv (FA ad) := C
  have hl : lv_has ls 3 [(0, .ref (ad 83)), (1, .int (iZ a1)), (2, .int (iZ a2))] := hl
  refine m_aload_n C hl 0 d_Md_isAhead_0 rfl rfl ?_
  refine m_iload_n C hl 1 d_Md_isAhead_1 rfl rfl ?_
  refine m_iconst C d_Md_isAhead_2 ?_
  obtain ⟨x2, e1, hM⟩ := bnd_some hM
  refine aftR (runV C hP va_S.rf kc_Md sh_83 (Nat.le_of_ble_eq_true rfl) (c_Md_of0 hI e1) lk_Md_90 mb_Md_of0 rfl ⟨Nat.le_of_ble_eq_true rfl, Nat.le_of_ble_eq_true rfl⟩ ⟨Nat.zero_le _, Nat.zero_le _⟩ (Nat.le_of_ble_eq_true rfl) d_Md_isAhead_3 hl.1 (rest := []) rfl) ?_
  refine m_aload_n C hl 0 d_Md_isAhead_6 rfl rfl ?_
  refine m_iload_n C hl 2 d_Md_isAhead_7 rfl rfl ?_
  refine m_iconst C d_Md_isAhead_8 ?_
  obtain ⟨x4, e3, hM⟩ := bnd_some hM
  refine aftR (runV C hP va_S.rf kc_Md sh_83 (Nat.le_of_ble_eq_true rfl) (c_Md_of0 hI e3) lk_Md_90 mb_Md_of0 rfl ⟨Nat.le_of_ble_eq_true rfl, Nat.le_of_ble_eq_true rfl⟩ ⟨Nat.zero_le _, Nat.zero_le _⟩ (Nat.le_of_ble_eq_true rfl) d_Md_isAhead_9 hl.1 (rest := [.int (iZ x2)]) rfl) ?_
  refine m_icmp_eq C hM 31 d_Md_isAhead_12 (by decide) (fun hM => ?_) (fun hM => ?_)
  · refine m_iload_n C hl 1 d_Md_isAhead_31 rfl rfl ?_
    refine m_iload_n C hl 2 d_Md_isAhead_32 rfl rfl ?_
    refine m_icmp_ge C hM 40 d_Md_isAhead_33 (by decide) (fun hM => ?_) (fun hM => ?_)
    · refine m_iconst C d_Md_isAhead_40 ?_
      exact m_zretR C hr hlk hM d_Md_isAhead_41
    · refine m_iconst C d_Md_isAhead_36 ?_
      refine m_goto C 41 d_Md_isAhead_37 (by decide) ?_
      exact m_zretR C hr hlk hM d_Md_isAhead_41
  · refine m_aload_n C hl 0 d_Md_isAhead_15 rfl rfl ?_
    refine m_iload_n C hl 1 d_Md_isAhead_16 rfl rfl ?_
    refine m_iconst C d_Md_isAhead_17 ?_
    obtain ⟨x6, e5, hM⟩ := bnd_some hM
    refine aftR (runV C hP va_S.rf kc_Md sh_83 (Nat.le_of_ble_eq_true rfl) (c_Md_of0 hI e5) lk_Md_90 mb_Md_of0 rfl ⟨Nat.le_of_ble_eq_true rfl, Nat.le_of_ble_eq_true rfl⟩ ⟨Nat.zero_le _, Nat.zero_le _⟩ (Nat.le_of_ble_eq_true rfl) d_Md_isAhead_18 hl.1 (rest := []) rfl) ?_
    refine m_iconst C d_Md_isAhead_21 ?_
    refine m_icmp_ne C hM 29 d_Md_isAhead_22 (by decide) (fun hM => ?_) (fun hM => ?_)
    · refine m_iconst C d_Md_isAhead_29 ?_
      exact m_zretR C hr hlk hM d_Md_isAhead_30
    · refine m_iconst C d_Md_isAhead_25 ?_
      refine m_goto C 30 d_Md_isAhead_26 (by decide) ?_
      exact m_zretR C hr hlk hM d_Md_isAhead_30

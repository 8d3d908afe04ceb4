def y_Md_keptYears : MethodName := ⟨"FeastBookModel", "keptYears", "(I)I"⟩
theorem d_Md_keptYears_0 : decode prog_13_method_89_code 0 = .ok (.aload_n 0, 1) := by decide +kernel
theorem d_Md_keptYears_1 : decode prog_13_method_89_code 1 = .ok (.invokevirtual 326, 3) := by decide +kernel
theorem d_Md_keptYears_4 : decode prog_13_method_89_code 4 = .ok (.istore_n 2, 1) := by decide +kernel
theorem d_Md_keptYears_5 : decode prog_13_method_89_code 5 = .ok (.iconst 0, 1) := by decide +kernel
theorem d_Md_keptYears_6 : decode prog_13_method_89_code 6 = .ok (.istore_n 3, 1) := by decide +kernel
theorem d_Md_keptYears_7 : decode prog_13_method_89_code 7 = .ok (.iconst 0, 1) := by decide +kernel
theorem d_Md_keptYears_8 : decode prog_13_method_89_code 8 = .ok (.istore 4, 2) := by decide +kernel
theorem d_Md_keptYears_10 : decode prog_13_method_89_code 10 = .ok (.iload 4, 2) := by decide +kernel
theorem d_Md_keptYears_12 : decode prog_13_method_89_code 12 = .ok (.iload_n 2, 1) := by decide +kernel
theorem d_Md_keptYears_13 : decode prog_13_method_89_code 13 = .ok (.if_icmp .ge 32, 3) := by decide +kernel
theorem d_Md_keptYears_16 : decode prog_13_method_89_code 16 = .ok (.aload_n 0, 1) := by decide +kernel
theorem d_Md_keptYears_17 : decode prog_13_method_89_code 17 = .ok (.iload 4, 2) := by decide +kernel
theorem d_Md_keptYears_19 : decode prog_13_method_89_code 19 = .ok (.invokevirtual 283, 3) := by decide +kernel
theorem d_Md_keptYears_22 : decode prog_13_method_89_code 22 = .ok (.iload_n 3, 1) := by decide +kernel
theorem d_Md_keptYears_23 : decode prog_13_method_89_code 23 = .ok (.aload_n 0, 1) := by decide +kernel
theorem d_Md_keptYears_24 : decode prog_13_method_89_code 24 = .ok (.getfield 35, 3) := by decide +kernel
theorem d_Md_keptYears_27 : decode prog_13_method_89_code 27 = .ok (.iload_n 1, 1) := by decide +kernel
theorem d_Md_keptYears_28 : decode prog_13_method_89_code 28 = .ok (.iaload, 1) := by decide +kernel
theorem d_Md_keptYears_29 : decode prog_13_method_89_code 29 = .ok (.ifCond .ne 7, 3) := by decide +kernel
theorem d_Md_keptYears_32 : decode prog_13_method_89_code 32 = .ok (.iconst 1, 1) := by decide +kernel
theorem d_Md_keptYears_33 : decode prog_13_method_89_code 33 = .ok (.goto 4, 3) := by decide +kernel
theorem d_Md_keptYears_36 : decode prog_13_method_89_code 36 = .ok (.iconst 0, 1) := by decide +kernel
theorem d_Md_keptYears_37 : decode prog_13_method_89_code 37 = .ok (.iadd, 1) := by decide +kernel
theorem d_Md_keptYears_38 : decode prog_13_method_89_code 38 = .ok (.istore_n 3, 1) := by decide +kernel
theorem d_Md_keptYears_39 : decode prog_13_method_89_code 39 = .ok (.iinc 4 1, 3) := by decide +kernel
theorem d_Md_keptYears_42 : decode prog_13_method_89_code 42 = .ok (.goto (-32), 3) := by decide +kernel
theorem d_Md_keptYears_45 : decode prog_13_method_89_code 45 = .ok (.iload_n 3, 1) := by decide +kernel
theorem d_Md_keptYears_46 : decode prog_13_method_89_code 46 = .ok (.ireturn, 1) := by decide +kernel
set_option maxHeartbeats 4000000 in
set_option maxRecDepth 100000 in
theorem w_Md_keptYears_L10 {p : Program} {l : Launch} {e : Env} {s : State} {m : MethodId} {args : Array Value} {below : List Frame} {meth : Method} {c : Code} {D : va_G} {ad : Nat → Nat} {cA : Nat → ClassId} {sd sv : Nat → Nat} {out : (Int × Hp)} (N : Nat) (hI : Inj97 ad) (C : Cx p s m args c prog_13_method_89_code 5 "FeastBookModel" D ad cA sd sv (FA ad)) (hr : meth.sig.returnType = (some .int)) (hlk : meth.locks = false) (v1 v2 : Int) : ∀ (n : Nat) (v3 v4 : Int) (h : Hp) (H : Heap) (locs : List Loc), Wd s D ad cA (FA ad) h H locs → ∀ ls : Array Slot, lv_has ls 5 [(0, .ref (ad 83)), (1, .int (iZ v1)), (2, .int (iZ v2)), (3, .int (iZ v3)), (4, .int (iZ v4))] → Md_keptYears_L10 N v1 v2 n v3 v4 h = some out → W p l e (rmD 8) s m args below meth c H locs 0 0 (MQ below (QI D ad cA out) args s 0 0 (FA ad)) (F0 m 10 ls []) := by
  intro n
  induction n with
  | zero =>
    intro v3 v4 h H locs w ls hl hM
    rw [Md_keptYears_L10] at hM
    cases hM
  | succ n ih =>
    intro v3 v4 h H locs w ls hl hM
    rw [Md_keptYears_L10] at hM
    refine m_iload C hl 4 d_Md_keptYears_10 rfl ?_
    refine m_iload_n C hl 2 d_Md_keptYears_12 rfl rfl ?_
    refine m_icmp_ge C hM 45 d_Md_keptYears_13 (by decide) (fun hM => ?_) (fun hM => ?_)
    · refine m_iload_n C hl 3 d_Md_keptYears_45 rfl rfl ?_
      exact m_iretW C w hr hlk hM d_Md_keptYears_46
    · refine m_aload_n C hl 0 d_Md_keptYears_16 rfl rfl ?_
      refine m_iload C hl 4 d_Md_keptYears_17 rfl ?_
      obtain ⟨h4, e3, hM⟩ := bnd_some hM
      refine aftV C w (runV C w.1 w.2 kc_Md sh_83 (Nat.le_of_ble_eq_true rfl) (c_Md_resolves hI e3) lk_Md_283 mb_Md_resolves rfl ⟨Nat.le_of_ble_eq_true rfl, Nat.le_of_ble_eq_true rfl⟩ ⟨Nat.zero_le _, Nat.zero_le _⟩ (Nat.le_of_ble_eq_true rfl) d_Md_keptYears_19 hl.1 (rest := []) rfl) (fun H locs w => ?_)
      refine m_iload_n C hl 3 d_Md_keptYears_22 rfl rfl ?_
      refine m_aload_n C hl 0 d_Md_keptYears_23 rfl rfl ?_
      refine m_getr C w.1 kc_Md sh_83 (Nat.le_of_ble_eq_true rfl) 18 91 rfl (by decide) fk_Md_35 d_Md_keptYears_24 ?_
      refine m_iload_n C hl 1 d_Md_keptYears_27 rfl rfl ?_
      refine m_iald C w.1 sh_91 (Nat.le_of_ble_eq_true rfl) (Nat.le_of_ble_eq_true rfl) hM d_Md_keptYears_28 (fun x5 hM => ?_)
      refine m_if_ne C hM 36 d_Md_keptYears_29 (by decide) (fun hM => ?_) (fun hM => ?_)
      · refine m_iconst C d_Md_keptYears_36 ?_
        refine m_iadd C d_Md_keptYears_37 ?_
        refine m_istore_n C hl [(3, .int (iZ (v3 + 0))), (0, .ref (ad 83)), (1, .int (iZ v1)), (2, .int (iZ v2)), (4, .int (iZ v4))] d_Md_keptYears_38 rfl (by decide) rfl (fun ls hl => ?_)
        refine m_iinc C hl 4 [(4, .int (iZ (v4 + 1))), (3, .int (iZ (v3 + 0))), (0, .ref (ad 83)), (1, .int (iZ v1)), (2, .int (iZ v2))] d_Md_keptYears_39 rfl (by decide) rfl (fun ls hl => ?_)
        refine m_goto C 10 d_Md_keptYears_42 (by decide) ?_
        exact ih (v3 + 0) (v4 + 1) h4 _ _ w _ (lv_sub hl [2, 3, 4, 1, 0] rfl) hM
      · refine m_iconst C d_Md_keptYears_32 ?_
        refine m_goto C 37 d_Md_keptYears_33 (by decide) ?_
        refine m_iadd C d_Md_keptYears_37 ?_
        refine m_istore_n C hl [(3, .int (iZ (v3 + 1))), (0, .ref (ad 83)), (1, .int (iZ v1)), (2, .int (iZ v2)), (4, .int (iZ v4))] d_Md_keptYears_38 rfl (by decide) rfl (fun ls hl => ?_)
        refine m_iinc C hl 4 [(4, .int (iZ (v4 + 1))), (3, .int (iZ (v3 + 1))), (0, .ref (ad 83)), (1, .int (iZ v1)), (2, .int (iZ v2))] d_Md_keptYears_39 rfl (by decide) rfl (fun ls hl => ?_)
        refine m_goto C 10 d_Md_keptYears_42 (by decide) ?_
        exact ih (v3 + 1) (v4 + 1) h4 _ _ w _ (lv_sub hl [2, 3, 4, 1, 0] rfl) hM
set_option maxHeartbeats 4000000 in
set_option maxRecDepth 100000 in
theorem c_Md_keptYears {l : Launch} {D : va_G} {ad : Nat → Nat} {cA : Nat → ClassId} {sd sv : Nat → Nat} {h : Hp} {N : Nat} {a1 : Int} {out : (Int × Hp)} (hI : Inj97 ad) (hM : M_Md_keptYears N h a1 = some out) : Met l y_Md_keptYears (.code y_Md_keptYears prog_13_method_89_code 5 (some .int) :: TT) (rmD 8) (PC D ad cA sd sv h [.ref (ad 83), .int (iZ a1)]) (QI D ad cA out) 0 0 (FA ad) := by
  unfold M_Md_keptYears at hM
  refine entM (by decide +kernel) hI (Nat.le_of_ble_eq_true rfl) ?_
  intro p e s m args below meth c C hr hlk hP ls hl
  have C : Cx p s m args c prog_13_method_89_code 5 "FeastBookModel" D ad cA sd sv (FA ad) := C
  have hl : lv_has ls 5 [(0, .ref (ad 83)), (1, .int (iZ a1))] := hl
  have w : Wd s D ad cA (FA ad) h s.heap [] := ⟨hP, va_S.rf⟩
  refine m_aload_n C hl 0 d_Md_keptYears_0 rfl rfl ?_
  obtain ⟨x2, e1, hM⟩ := bnd_some hM
  refine aftR (runV C w.1 w.2 kc_Md sh_83 (Nat.le_of_ble_eq_true rfl) (c_Md_cycle0 hI e1) lk_Md_326 mb_Md_cycle0 rfl ⟨Nat.le_of_ble_eq_true rfl, Nat.le_of_ble_eq_true rfl⟩ ⟨Nat.zero_le _, Nat.zero_le _⟩ (Nat.le_of_ble_eq_true rfl) d_Md_keptYears_1 hl.1 (rest := []) rfl) ?_
  refine m_istore_n C hl [(2, .int (iZ x2)), (0, .ref (ad 83)), (1, .int (iZ a1))] d_Md_keptYears_4 rfl (by decide) rfl (fun ls hl => ?_)
  refine m_iconst C d_Md_keptYears_5 ?_
  refine m_istore_n C hl [(3, .int (iZ 0)), (2, .int (iZ x2)), (0, .ref (ad 83)), (1, .int (iZ a1))] d_Md_keptYears_6 rfl (by decide) rfl (fun ls hl => ?_)
  refine m_iconst C d_Md_keptYears_7 ?_
  refine m_istore C hl [(4, .int (iZ 0)), (3, .int (iZ 0)), (2, .int (iZ x2)), (0, .ref (ad 83)), (1, .int (iZ a1))] d_Md_keptYears_8 (by decide) rfl (fun ls hl => ?_)
  exact w_Md_keptYears_L10 N hI C hr hlk a1 x2 _ 0 0 h _ _ w _ (lv_sub hl [3, 4, 2, 1, 0] rfl) hM
def y_Md_better : MethodName := ⟨"FeastBookModel", "better", "(III)I"⟩
theorem d_Md_better_0 : decode prog_13_method_108_code 0 = .ok (.aload_n 0, 1) := by decide +kernel
theorem d_Md_better_1 : decode prog_13_method_108_code 1 = .ok (.aload_n 0, 1) := by decide +kernel
theorem d_Md_better_2 : decode prog_13_method_108_code 2 = .ok (.iload_n 1, 1) := by decide +kernel
theorem d_Md_better_3 : decode prog_13_method_108_code 3 = .ok (.invokevirtual 311, 3) := by decide +kernel
theorem d_Md_better_6 : decode prog_13_method_108_code 6 = .ok (.ifCond .ne 7, 3) := by decide +kernel
theorem d_Md_better_9 : decode prog_13_method_108_code 9 = .ok (.iconst 1, 1) := by decide +kernel
theorem d_Md_better_10 : decode prog_13_method_108_code 10 = .ok (.goto 30, 3) := by decide +kernel
theorem d_Md_better_13 : decode prog_13_method_108_code 13 = .ok (.iload_n 3, 1) := by decide +kernel
theorem d_Md_better_14 : decode prog_13_method_108_code 14 = .ok (.iconst 0, 1) := by decide +kernel
theorem d_Md_better_15 : decode prog_13_method_108_code 15 = .ok (.iconst 1, 1) := by decide +kernel
theorem d_Md_better_16 : decode prog_13_method_108_code 16 = .ok (.invokestatic 54, 3) := by decide +kernel
theorem d_Md_better_19 : decode prog_13_method_108_code 19 = .ok (.ifCond .ne 7, 3) := by decide +kernel
theorem d_Md_better_22 : decode prog_13_method_108_code 22 = .ok (.iconst 2, 1) := by decide +kernel
theorem d_Md_better_23 : decode prog_13_method_108_code 23 = .ok (.goto 17, 3) := by decide +kernel
theorem d_Md_better_26 : decode prog_13_method_108_code 26 = .ok (.iload_n 2, 1) := by decide +kernel
theorem d_Md_better_27 : decode prog_13_method_108_code 27 = .ok (.iconst 0, 1) := by decide +kernel
theorem d_Md_better_28 : decode prog_13_method_108_code 28 = .ok (.iconst 5, 1) := by decide +kernel
theorem d_Md_better_29 : decode prog_13_method_108_code 29 = .ok (.invokestatic 54, 3) := by decide +kernel
theorem d_Md_better_32 : decode prog_13_method_108_code 32 = .ok (.ifCond .ne 7, 3) := by decide +kernel
theorem d_Md_better_35 : decode prog_13_method_108_code 35 = .ok (.iconst 3, 1) := by decide +kernel
theorem d_Md_better_36 : decode prog_13_method_108_code 36 = .ok (.goto 4, 3) := by decide +kernel
theorem d_Md_better_39 : decode prog_13_method_108_code 39 = .ok (.iconst 0, 1) := by decide +kernel
theorem d_Md_better_40 : decode prog_13_method_108_code 40 = .ok (.putfield 51, 3) := by decide +kernel
theorem d_Md_better_43 : decode prog_13_method_108_code 43 = .ok (.aload_n 0, 1) := by decide +kernel
theorem d_Md_better_44 : decode prog_13_method_108_code 44 = .ok (.getfield 51, 3) := by decide +kernel
theorem d_Md_better_47 : decode prog_13_method_108_code 47 = .ok (.ifCond .le 5, 3) := by decide +kernel
theorem d_Md_better_50 : decode prog_13_method_108_code 50 = .ok (.iconst 0, 1) := by decide +kernel
theorem d_Md_better_51 : decode prog_13_method_108_code 51 = .ok (.ireturn, 1) := by decide +kernel
theorem d_Md_better_52 : decode prog_13_method_108_code 52 = .ok (.bipush 43, 2) := by decide +kernel
theorem d_Md_better_54 : decode prog_13_method_108_code 54 = .ok (.bipush 7, 2) := by decide +kernel
theorem d_Md_better_56 : decode prog_13_method_108_code 56 = .ok (.iload_n 1, 1) := by decide +kernel
theorem d_Md_better_57 : decode prog_13_method_108_code 57 = .ok (.imul, 1) := by decide +kernel
theorem d_Md_better_58 : decode prog_13_method_108_code 58 = .ok (.iadd, 1) := by decide +kernel
theorem d_Md_better_59 : decode prog_13_method_108_code 59 = .ok (.iconst 3, 1) := by decide +kernel
theorem d_Md_better_60 : decode prog_13_method_108_code 60 = .ok (.iadd, 1) := by decide +kernel
theorem d_Md_better_61 : decode prog_13_method_108_code 61 = .ok (.istore 4, 2) := by decide +kernel
theorem d_Md_better_63 : decode prog_13_method_108_code 63 = .ok (.aload_n 0, 1) := by decide +kernel
theorem d_Md_better_64 : decode prog_13_method_108_code 64 = .ok (.getfield 7, 3) := by decide +kernel
theorem d_Md_better_67 : decode prog_13_method_108_code 67 = .ok (.iload 4, 2) := by decide +kernel
theorem d_Md_better_69 : decode prog_13_method_108_code 69 = .ok (.iaload, 1) := by decide +kernel
theorem d_Md_better_70 : decode prog_13_method_108_code 70 = .ok (.istore 5, 2) := by decide +kernel
theorem d_Md_better_72 : decode prog_13_method_108_code 72 = .ok (.iconst (-1), 1) := by decide +kernel
theorem d_Md_better_73 : decode prog_13_method_108_code 73 = .ok (.istore 6, 2) := by decide +kernel
theorem d_Md_better_75 : decode prog_13_method_108_code 75 = .ok (.iload 5, 2) := by decide +kernel
theorem d_Md_better_77 : decode prog_13_method_108_code 77 = .ok (.istore 7, 2) := by decide +kernel
theorem d_Md_better_79 : decode prog_13_method_108_code 79 = .ok (.iconst 0, 1) := by decide +kernel
theorem d_Md_better_80 : decode prog_13_method_108_code 80 = .ok (.istore 8, 2) := by decide +kernel
theorem d_Md_better_82 : decode prog_13_method_108_code 82 = .ok (.iload 8, 2) := by decide +kernel
theorem d_Md_better_84 : decode prog_13_method_108_code 84 = .ok (.iload_n 2, 1) := by decide +kernel
theorem d_Md_better_85 : decode prog_13_method_108_code 85 = .ok (.if_icmp .gt 81, 3) := by decide +kernel
theorem d_Md_better_88 : decode prog_13_method_108_code 88 = .ok (.iconst (-1), 1) := by decide +kernel
theorem d_Md_better_89 : decode prog_13_method_108_code 89 = .ok (.istore 9, 2) := by decide +kernel
theorem d_Md_better_91 : decode prog_13_method_108_code 91 = .ok (.iload 9, 2) := by decide +kernel
theorem d_Md_better_93 : decode prog_13_method_108_code 93 = .ok (.iconst 2, 1) := by decide +kernel
theorem d_Md_better_94 : decode prog_13_method_108_code 94 = .ok (.if_icmp .ge 66, 3) := by decide +kernel
theorem d_Md_better_97 : decode prog_13_method_108_code 97 = .ok (.iload 5, 2) := by decide +kernel
theorem d_Md_better_99 : decode prog_13_method_108_code 99 = .ok (.iload 9, 2) := by decide +kernel
theorem d_Md_better_101 : decode prog_13_method_108_code 101 = .ok (.iload 8, 2) := by decide +kernel
theorem d_Md_better_103 : decode prog_13_method_108_code 103 = .ok (.imul, 1) := by decide +kernel
theorem d_Md_better_104 : decode prog_13_method_108_code 104 = .ok (.iadd, 1) := by decide +kernel
theorem d_Md_better_105 : decode prog_13_method_108_code 105 = .ok (.istore 10, 2) := by decide +kernel
theorem d_Md_better_107 : decode prog_13_method_108_code 107 = .ok (.aload_n 0, 1) := by decide +kernel
theorem d_Md_better_108 : decode prog_13_method_108_code 108 = .ok (.iload_n 1, 1) := by decide +kernel
theorem d_Md_better_109 : decode prog_13_method_108_code 109 = .ok (.iload 10, 2) := by decide +kernel
theorem d_Md_better_111 : decode prog_13_method_108_code 111 = .ok (.invokevirtual 341, 3) := by decide +kernel
theorem d_Md_better_114 : decode prog_13_method_108_code 114 = .ok (.ifCond .ne 6, 3) := by decide +kernel
theorem d_Md_better_117 : decode prog_13_method_108_code 117 = .ok (.goto 37, 3) := by decide +kernel
theorem d_Md_better_120 : decode prog_13_method_108_code 120 = .ok (.aload_n 0, 1) := by decide +kernel
theorem d_Md_better_121 : decode prog_13_method_108_code 121 = .ok (.getfield 7, 3) := by decide +kernel
theorem d_Md_better_124 : decode prog_13_method_108_code 124 = .ok (.iload 4, 2) := by decide +kernel
theorem d_Md_better_126 : decode prog_13_method_108_code 126 = .ok (.iload 10, 2) := by decide +kernel
theorem d_Md_better_128 : decode prog_13_method_108_code 128 = .ok (.iastore, 1) := by decide +kernel
theorem d_Md_better_129 : decode prog_13_method_108_code 129 = .ok (.aload_n 0, 1) := by decide +kernel
theorem d_Md_better_130 : decode prog_13_method_108_code 130 = .ok (.iload_n 1, 1) := by decide +kernel
theorem d_Md_better_131 : decode prog_13_method_108_code 131 = .ok (.invokevirtual 344, 3) := by decide +kernel
theorem d_Md_better_134 : decode prog_13_method_108_code 134 = .ok (.istore 11, 2) := by decide +kernel
theorem d_Md_better_136 : decode prog_13_method_108_code 136 = .ok (.iload 11, 2) := by decide +kernel
theorem d_Md_better_138 : decode prog_13_method_108_code 138 = .ok (.iload 6, 2) := by decide +kernel
theorem d_Md_better_140 : decode prog_13_method_108_code 140 = .ok (.if_icmp .gt 6, 3) := by decide +kernel
theorem d_Md_better_143 : decode prog_13_method_108_code 143 = .ok (.goto 11, 3) := by decide +kernel
theorem d_Md_better_146 : decode prog_13_method_108_code 146 = .ok (.iload 11, 2) := by decide +kernel
theorem d_Md_better_148 : decode prog_13_method_108_code 148 = .ok (.istore 6, 2) := by decide +kernel
theorem d_Md_better_150 : decode prog_13_method_108_code 150 = .ok (.iload 10, 2) := by decide +kernel
theorem d_Md_better_152 : decode prog_13_method_108_code 152 = .ok (.istore 7, 2) := by decide +kernel
theorem d_Md_better_154 : decode prog_13_method_108_code 154 = .ok (.iinc 9 2, 3) := by decide +kernel
theorem d_Md_better_157 : decode prog_13_method_108_code 157 = .ok (.goto (-66), 3) := by decide +kernel
theorem d_Md_better_160 : decode prog_13_method_108_code 160 = .ok (.iinc 8 1, 3) := by decide +kernel
theorem d_Md_better_163 : decode prog_13_method_108_code 163 = .ok (.goto (-81), 3) := by decide +kernel
theorem d_Md_better_166 : decode prog_13_method_108_code 166 = .ok (.aload_n 0, 1) := by decide +kernel
theorem d_Md_better_167 : decode prog_13_method_108_code 167 = .ok (.getfield 7, 3) := by decide +kernel
theorem d_Md_better_170 : decode prog_13_method_108_code 170 = .ok (.iload 4, 2) := by decide +kernel
theorem d_Md_better_172 : decode prog_13_method_108_code 172 = .ok (.iload 5, 2) := by decide +kernel
theorem d_Md_better_174 : decode prog_13_method_108_code 174 = .ok (.iastore, 1) := by decide +kernel
theorem d_Md_better_175 : decode prog_13_method_108_code 175 = .ok (.iload_n 3, 1) := by decide +kernel
theorem d_Md_better_176 : decode prog_13_method_108_code 176 = .ok (.ifCond .ne 8, 3) := by decide +kernel
theorem d_Md_better_179 : decode prog_13_method_108_code 179 = .ok (.iload 7, 2) := by decide +kernel
theorem d_Md_better_181 : decode prog_13_method_108_code 181 = .ok (.goto 5, 3) := by decide +kernel
theorem d_Md_better_184 : decode prog_13_method_108_code 184 = .ok (.iload 6, 2) := by decide +kernel
theorem d_Md_better_186 : decode prog_13_method_108_code 186 = .ok (.ireturn, 1) := by decide +kernel
theorem mb_Md_canTell : MBv R_Md y_Md_canTell prog_13_method_107_code 3 (some .boolean) 2 := ⟨mT10 135 (by decide +kernel) (by decide +kernel), mTs 76 (by decide +kernel) (by decide +kernel), mT1 10 (by decide +kernel) (by decide +kernel), mT10 136 (by decide +kernel) (by decide +kernel), by decide, rfl, by decide +kernel, by decide +kernel, by decide +kernel⟩
theorem mb_Md_keptYears : MBv R_Md y_Md_keptYears prog_13_method_89_code 5 (some .int) 1 := ⟨mT10 139 (by decide +kernel) (by decide +kernel), mTs 77 (by decide +kernel) (by decide +kernel), mT1 10 (by decide +kernel) (by decide +kernel), mT10 140 (by decide +kernel) (by decide +kernel), by decide, rfl, by decide +kernel, by decide +kernel, by decide +kernel⟩
theorem lk_Md_341 : Cond.methodLink "FeastBookModel" 341 y_Md_canTell ∈ TT := mT10 133 (by decide +kernel) (by decide +kernel)
theorem lk_Md_344 : Cond.methodLink "FeastBookModel" 344 y_Md_keptYears ∈ TT := mT10 137 (by decide +kernel) (by decide +kernel)
set_option maxHeartbeats 4000000 in
set_option maxRecDepth 100000 in
theorem w_Md_better_L91 {p : Program} {l : Launch} {e : Env} {s : State} {m : MethodId} {args : Array Value} {below : List Frame} {meth : Method} {c : Code} {D : va_G} {ad : Nat → Nat} {cA : Nat → ClassId} {sd sv : Nat → Nat} {out : (Int × Hp)} (N : Nat) (hI : Inj97 ad) (C : Cx p s m args c prog_13_method_108_code 12 "FeastBookModel" D ad cA sd sv (FA ad)) (hr : meth.sig.returnType = (some .int)) (hlk : meth.locks = false) (v1 v2 v3 v4 v5 v8 : Int) (k : Int → Int → Int → Hp → Option (Int × Hp)) (kW : ∀ (v6 v7 v9 : Int) (h : Hp), k v6 v7 v9 h = some out → ∀ (H : Heap) (locs : List Loc), Wd s D ad cA (FA ad) h H locs → ∀ ls : Array Slot, lv_has ls 12 [(0, .ref (ad 83)), (1, .int (iZ v1)), (2, .int (iZ v2)), (3, .int (iZ v3)), (4, .int (iZ v4)), (5, .int (iZ v5)), (6, .int (iZ v6)), (7, .int (iZ v7)), (8, .int (iZ v8)), (9, .int (iZ v9))] → W p l e (rmD 9) s m args below meth c H locs 0 0 (MQ below (QI D ad cA out) args s 0 0 (FA ad)) (F0 m 160 ls [])) : ∀ (n : Nat) (v6 v7 v9 : Int) (h : Hp) (H : Heap) (locs : List Loc), Wd s D ad cA (FA ad) h H locs → ∀ ls : Array Slot, lv_has ls 12 [(0, .ref (ad 83)), (1, .int (iZ v1)), (2, .int (iZ v2)), (3, .int (iZ v3)), (4, .int (iZ v4)), (5, .int (iZ v5)), (6, .int (iZ v6)), (7, .int (iZ v7)), (8, .int (iZ v8)), (9, .int (iZ v9))] → Md_better_L91 N v1 v4 v5 v8 k n v6 v7 v9 h = some out → W p l e (rmD 9) s m args below meth c H locs 0 0 (MQ below (QI D ad cA out) args s 0 0 (FA ad)) (F0 m 91 ls []) := by
  intro n
  induction n with
  | zero =>
    intro v6 v7 v9 h H locs w ls hl hM
    rw [Md_better_L91] at hM
    cases hM
  | succ n ih =>
    intro v6 v7 v9 h H locs w ls hl hM
    rw [Md_better_L91] at hM
    refine m_iload C hl 9 d_Md_better_91 rfl ?_
    refine m_iconst C d_Md_better_93 ?_
    refine m_icmp_ge C hM 160 d_Md_better_94 (by decide) (fun hM => ?_) (fun hM => ?_)
    · exact kW v6 v7 v9 h hM _ _ w _ hl
    · refine m_iload C hl 5 d_Md_better_97 rfl ?_
      refine m_iload C hl 9 d_Md_better_99 rfl ?_
      refine m_iload C hl 8 d_Md_better_101 rfl ?_
      refine m_imul C d_Md_better_103 ?_
      refine m_iadd C d_Md_better_104 ?_
      refine m_istore C hl [(10, .int (iZ (v5 + (v9 * v8)))), (0, .ref (ad 83)), (1, .int (iZ v1)), (2, .int (iZ v2)), (3, .int (iZ v3)), (4, .int (iZ v4)), (5, .int (iZ v5)), (6, .int (iZ v6)), (7, .int (iZ v7)), (8, .int (iZ v8)), (9, .int (iZ v9))] d_Md_better_105 (by decide) rfl (fun ls hl => ?_)
      refine m_aload_n C hl 1 d_Md_better_107 rfl rfl ?_
      refine m_iload_n C hl 2 d_Md_better_108 rfl rfl ?_
      refine m_iload C hl 0 d_Md_better_109 rfl ?_
      obtain ⟨x12, e11, hM⟩ := bnd_some hM
      refine aftR (runV C w.1 w.2 kc_Md sh_83 (Nat.le_of_ble_eq_true rfl) (c_Md_canTell hI e11) lk_Md_341 mb_Md_canTell rfl ⟨Nat.le_of_ble_eq_true rfl, Nat.le_of_ble_eq_true rfl⟩ ⟨Nat.zero_le _, Nat.zero_le _⟩ (Nat.le_of_ble_eq_true rfl) d_Md_better_111 hl.1 (rest := []) rfl) ?_
      refine m_if_ne C hM 120 d_Md_better_114 (by decide) (fun hM => ?_) (fun hM => ?_)
      · refine m_aload_n C hl 1 d_Md_better_120 rfl rfl ?_
        refine m_getr C w.1 kc_Md sh_83 (Nat.le_of_ble_eq_true rfl) 1 84 rfl (by decide) fk_Md_7 d_Md_better_121 ?_
        refine m_iload C hl 5 d_Md_better_124 rfl ?_
        refine m_iload C hl 0 d_Md_better_126 rfl ?_
        refine m_iast C w sh_84 (Nat.le_of_ble_eq_true rfl) (Nat.le_of_ble_eq_true rfl) hM d_Md_better_128 (fun h13 H locs w hM => ?_)
        refine m_aload_n C hl 1 d_Md_better_129 rfl rfl ?_
        refine m_iload_n C hl 2 d_Md_better_130 rfl rfl ?_
        obtain ⟨q15, e14, hM⟩ := bnd_some hM
        refine aftI C w (runV C w.1 w.2 kc_Md sh_83 (Nat.le_of_ble_eq_true rfl) (c_Md_keptYears hI e14) lk_Md_344 mb_Md_keptYears rfl ⟨Nat.le_of_ble_eq_true rfl, Nat.le_of_ble_eq_true rfl⟩ ⟨Nat.zero_le _, Nat.zero_le _⟩ (Nat.le_of_ble_eq_true rfl) d_Md_better_131 hl.1 (rest := []) rfl) (fun H locs w => ?_)
        refine m_istore C hl [(11, .int (iZ q15.1)), (10, .int (iZ (v5 + (v9 * v8)))), (0, .ref (ad 83)), (1, .int (iZ v1)), (2, .int (iZ v2)), (3, .int (iZ v3)), (4, .int (iZ v4)), (5, .int (iZ v5)), (6, .int (iZ v6)), (7, .int (iZ v7)), (8, .int (iZ v8)), (9, .int (iZ v9))] d_Md_better_134 (by decide) rfl (fun ls hl => ?_)
        refine m_iload C hl 0 d_Md_better_136 rfl ?_
        refine m_iload C hl 8 d_Md_better_138 rfl ?_
        refine m_icmp_gt C hM 146 d_Md_better_140 (by decide) (fun hM => ?_) (fun hM => ?_)
        · refine m_iload C hl 0 d_Md_better_146 rfl ?_
          refine m_istore C hl [(6, .int (iZ q15.1)), (11, .int (iZ q15.1)), (10, .int (iZ (v5 + (v9 * v8)))), (0, .ref (ad 83)), (1, .int (iZ v1)), (2, .int (iZ v2)), (3, .int (iZ v3)), (4, .int (iZ v4)), (5, .int (iZ v5)), (7, .int (iZ v7)), (8, .int (iZ v8)), (9, .int (iZ v9))] d_Md_better_148 (by decide) rfl (fun ls hl => ?_)
          refine m_iload C hl 2 d_Md_better_150 rfl ?_
          refine m_istore C hl [(7, .int (iZ (v5 + (v9 * v8)))), (6, .int (iZ q15.1)), (11, .int (iZ q15.1)), (10, .int (iZ (v5 + (v9 * v8)))), (0, .ref (ad 83)), (1, .int (iZ v1)), (2, .int (iZ v2)), (3, .int (iZ v3)), (4, .int (iZ v4)), (5, .int (iZ v5)), (8, .int (iZ v8)), (9, .int (iZ v9))] d_Md_better_152 (by decide) rfl (fun ls hl => ?_)
          refine m_iinc C hl 11 [(9, .int (iZ (v9 + 2))), (7, .int (iZ (v5 + (v9 * v8)))), (6, .int (iZ q15.1)), (11, .int (iZ q15.1)), (10, .int (iZ (v5 + (v9 * v8)))), (0, .ref (ad 83)), (1, .int (iZ v1)), (2, .int (iZ v2)), (3, .int (iZ v3)), (4, .int (iZ v4)), (5, .int (iZ v5)), (8, .int (iZ v8))] d_Md_better_154 rfl (by decide) rfl (fun ls hl => ?_)
          refine m_goto C 91 d_Md_better_157 (by decide) ?_
          exact ih q15.1 (v5 + (v9 * v8)) (v9 + 2) q15.2 _ _ w _ (lv_sub hl [5, 6, 7, 8, 9, 10, 2, 1, 11, 0] rfl) hM
        · refine m_goto C 154 d_Md_better_143 (by decide) ?_
          refine m_iinc C hl 11 [(9, .int (iZ (v9 + 2))), (11, .int (iZ q15.1)), (10, .int (iZ (v5 + (v9 * v8)))), (0, .ref (ad 83)), (1, .int (iZ v1)), (2, .int (iZ v2)), (3, .int (iZ v3)), (4, .int (iZ v4)), (5, .int (iZ v5)), (6, .int (iZ v6)), (7, .int (iZ v7)), (8, .int (iZ v8))] d_Md_better_154 rfl (by decide) rfl (fun ls hl => ?_)
          refine m_goto C 91 d_Md_better_157 (by decide) ?_
          exact ih v6 v7 (v9 + 2) q15.2 _ _ w _ (lv_sub hl [3, 4, 5, 6, 7, 8, 9, 10, 11, 0] rfl) hM
      · refine m_goto C 154 d_Md_better_117 (by decide) ?_
        refine m_iinc C hl 10 [(9, .int (iZ (v9 + 2))), (10, .int (iZ (v5 + (v9 * v8)))), (0, .ref (ad 83)), (1, .int (iZ v1)), (2, .int (iZ v2)), (3, .int (iZ v3)), (4, .int (iZ v4)), (5, .int (iZ v5)), (6, .int (iZ v6)), (7, .int (iZ v7)), (8, .int (iZ v8))] d_Md_better_154 rfl (by decide) rfl (fun ls hl => ?_)
        refine m_goto C 91 d_Md_better_157 (by decide) ?_
        exact ih v6 v7 (v9 + 2) h _ _ w _ (lv_sub hl [2, 3, 4, 5, 6, 7, 8, 9, 10, 0] rfl) hM
set_option maxHeartbeats 4000000 in
set_option maxRecDepth 100000 in
theorem w_Md_better_L82 {p : Program} {l : Launch} {e : Env} {s : State} {m : MethodId} {args : Array Value} {below : List Frame} {meth : Method} {c : Code} {D : va_G} {ad : Nat → Nat} {cA : Nat → ClassId} {sd sv : Nat → Nat} {out : (Int × Hp)} (N : Nat) (hI : Inj97 ad) (C : Cx p s m args c prog_13_method_108_code 12 "FeastBookModel" D ad cA sd sv (FA ad)) (hr : meth.sig.returnType = (some .int)) (hlk : meth.locks = false) (v1 v2 v3 v4 v5 : Int) : ∀ (n : Nat) (v6 v7 v8 : Int) (h : Hp) (H : Heap) (locs : List Loc), Wd s D ad cA (FA ad) h H locs → ∀ ls : Array Slot, lv_has ls 12 [(0, .ref (ad 83)), (1, .int (iZ v1)), (2, .int (iZ v2)), (3, .int (iZ v3)), (4, .int (iZ v4)), (5, .int (iZ v5)), (6, .int (iZ v6)), (7, .int (iZ v7)), (8, .int (iZ v8))] → Md_better_L82 N v1 v2 v3 v4 v5 n v6 v7 v8 h = some out → W p l e (rmD 9) s m args below meth c H locs 0 0 (MQ below (QI D ad cA out) args s 0 0 (FA ad)) (F0 m 82 ls []) := by
  intro n
  induction n with
  | zero =>
    intro v6 v7 v8 h H locs w ls hl hM
    rw [Md_better_L82] at hM
    cases hM
  | succ n ih =>
    intro v6 v7 v8 h H locs w ls hl hM
    rw [Md_better_L82] at hM
    refine m_iload C hl 8 d_Md_better_82 rfl ?_
    refine m_iload_n C hl 2 d_Md_better_84 rfl rfl ?_
    refine m_icmp_gt C hM 166 d_Md_better_85 (by decide) (fun hM => ?_) (fun hM => ?_)
    · refine m_aload_n C hl 0 d_Md_better_166 rfl rfl ?_
      refine m_getr C w.1 kc_Md sh_83 (Nat.le_of_ble_eq_true rfl) 1 84 rfl (by decide) fk_Md_7 d_Md_better_167 ?_
      refine m_iload C hl 4 d_Md_better_170 rfl ?_
      refine m_iload C hl 5 d_Md_better_172 rfl ?_
      refine m_iast C w sh_84 (Nat.le_of_ble_eq_true rfl) (Nat.le_of_ble_eq_true rfl) hM d_Md_better_174 (fun h10 H locs w hM => ?_)
      refine m_iload_n C hl 3 d_Md_better_175 rfl rfl ?_
      refine m_if_ne C hM 184 d_Md_better_176 (by decide) (fun hM => ?_) (fun hM => ?_)
      · refine m_iload C hl 6 d_Md_better_184 rfl ?_
        exact m_iretW C w hr hlk hM d_Md_better_186
      · refine m_iload C hl 7 d_Md_better_179 rfl ?_
        refine m_goto C 186 d_Md_better_181 (by decide) ?_
        exact m_iretW C w hr hlk hM d_Md_better_186
    · refine m_iconst C d_Md_better_88 ?_
      refine m_istore C hl [(9, .int (iZ (-1))), (0, .ref (ad 83)), (1, .int (iZ v1)), (2, .int (iZ v2)), (3, .int (iZ v3)), (4, .int (iZ v4)), (5, .int (iZ v5)), (6, .int (iZ v6)), (7, .int (iZ v7)), (8, .int (iZ v8))] d_Md_better_89 (by decide) rfl (fun ls hl => ?_)
      refine w_Md_better_L91 N hI C hr hlk v1 v2 v3 v4 v5 v8 _ (fun v6_16 v7_16 v9_16 h_16 hM H locs w ls hl => ?_) _ v6 v7 (-1) h _ _ w _ (lv_sub hl [1, 2, 3, 4, 5, 6, 7, 8, 9, 0] rfl) hM
      refine m_iinc C hl 8 [(8, .int (iZ (v8 + 1))), (0, .ref (ad 83)), (1, .int (iZ v1)), (2, .int (iZ v2)), (3, .int (iZ v3)), (4, .int (iZ v4)), (5, .int (iZ v5)), (6, .int (iZ v6_16)), (7, .int (iZ v7_16)), (9, .int (iZ v9_16))] d_Md_better_160 rfl (by decide) rfl (fun ls hl => ?_)
      refine m_goto C 82 d_Md_better_163 (by decide) ?_
      exact ih v6_16 v7_16 (v8 + 1) h_16 _ _ w _ (lv_sub hl [1, 2, 3, 4, 5, 6, 7, 8, 0] rfl) hM
set_option maxHeartbeats 4000000 in
set_option maxRecDepth 100000 in
theorem c_Md_better {l : Launch} {D : va_G} {ad : Nat → Nat} {cA : Nat → ClassId} {sd sv : Nat → Nat} {h : Hp} {N : Nat} {a1 a2 a3 : Int} {out : (Int × Hp)} (hI : Inj97 ad) (hM : M_Md_better N h a1 a2 a3 = some out) : Met l y_Md_better (.code y_Md_better prog_13_method_108_code 12 (some .int) :: TT) (rmD 9) (PC D ad cA sd sv h [.ref (ad 83), .int (iZ a1), .int (iZ a2), .int (iZ a3)]) (QI D ad cA out) 0 0 (FA ad) := by
  unfold M_Md_better at hM
  refine entM (by decide +kernel) hI (Nat.le_of_ble_eq_true rfl) ?_
  intro p e s m args below meth c C hr hlk hP ls hl
  have C : Cx p s m args c prog_13_method_108_code 12 "FeastBookModel" D ad cA sd sv (FA ad) := C
  have hl : lv_has ls 12 [(0, .ref (ad 83)), (1, .int (iZ a1)), (2, .int (iZ a2)), (3, .int (iZ a3))] := hl
  have w : Wd s D ad cA (FA ad) h s.heap [] := ⟨hP, va_S.rf⟩
  refine m_aload_n C hl 0 d_Md_better_0 rfl rfl ?_
  refine m_aload_n C hl 0 d_Md_better_1 rfl rfl ?_
  refine m_iload_n C hl 1 d_Md_better_2 rfl rfl ?_
  obtain ⟨x2, e1, hM⟩ := bnd_some hM
  refine aftR (runV C w.1 w.2 kc_Md sh_83 (Nat.le_of_ble_eq_true rfl) (c_Md_isFeast hI e1) lk_Md_311 mb_Md_isFeast rfl ⟨Nat.le_of_ble_eq_true rfl, Nat.le_of_ble_eq_true rfl⟩ ⟨Nat.zero_le _, Nat.zero_le _⟩ (Nat.le_of_ble_eq_true rfl) d_Md_better_3 hl.1 (rest := [.ref (ad 83)]) rfl) ?_
  refine lt_join hM (fun j7 ej hM => ?_)
  have hJ7 : ∀ (s0_7 : Int), j7 s0_7 = some out → ∀ ls : Array Slot, lv_has ls 12 [(0, .ref (ad 83)), (1, .int (iZ a1)), (2, .int (iZ a2)), (3, .int (iZ a3))] → W p l e (rmD 9) s m args below meth c s.heap [] 0 0 (MQ below (QI D ad cA out) args s 0 0 (FA ad)) (F0 m 40 ls [.int (iZ s0_7), .ref (ad 83)]) := by
    intro s0_7 hM ls hl
    subst ej
    dsimp only at hM
    refine m_puti C w kc_Md sh_83 (Nat.le_of_ble_eq_true rfl) 0 hM rfl (by decide) rfl rfl fk_Md_51 d_Md_better_40 (fun h8 H locs w hM => ?_)
    refine m_aload_n C hl 0 d_Md_better_43 rfl rfl ?_
    refine m_geti C w.1 kc_Md sh_83 (Nat.le_of_ble_eq_true rfl) 0 rfl (by decide) fk_Md_51 d_Md_better_44 ?_
    refine m_if_le C hM 52 d_Md_better_47 (by decide) (fun hM => ?_) (fun hM => ?_)
    · refine m_bipush C d_Md_better_52 (by decide) ?_
      refine m_bipush C d_Md_better_54 (by decide) ?_
      refine m_iload_n C hl 1 d_Md_better_56 rfl rfl ?_
      refine m_imul C d_Md_better_57 ?_
      refine m_iadd C d_Md_better_58 ?_
      refine m_iconst C d_Md_better_59 ?_
      refine m_iadd C d_Md_better_60 ?_
      refine m_istore C hl [(4, .int (iZ ((43 + (7 * a1)) + 3))), (0, .ref (ad 83)), (1, .int (iZ a1)), (2, .int (iZ a2)), (3, .int (iZ a3))] d_Md_better_61 (by decide) rfl (fun ls hl => ?_)
      refine m_aload_n C hl 1 d_Md_better_63 rfl rfl ?_
      refine m_getr C w.1 kc_Md sh_83 (Nat.le_of_ble_eq_true rfl) 1 84 rfl (by decide) fk_Md_7 d_Md_better_64 ?_
      refine m_iload C hl 0 d_Md_better_67 rfl ?_
      refine m_iald C w.1 sh_84 (Nat.le_of_ble_eq_true rfl) (Nat.le_of_ble_eq_true rfl) hM d_Md_better_69 (fun x9 hM => ?_)
      refine m_istore C hl [(5, .int (iZ x9)), (4, .int (iZ ((43 + (7 * a1)) + 3))), (0, .ref (ad 83)), (1, .int (iZ a1)), (2, .int (iZ a2)), (3, .int (iZ a3))] d_Md_better_70 (by decide) rfl (fun ls hl => ?_)
      refine m_iconst C d_Md_better_72 ?_
      refine m_istore C hl [(6, .int (iZ (-1))), (5, .int (iZ x9)), (4, .int (iZ ((43 + (7 * a1)) + 3))), (0, .ref (ad 83)), (1, .int (iZ a1)), (2, .int (iZ a2)), (3, .int (iZ a3))] d_Md_better_73 (by decide) rfl (fun ls hl => ?_)
      refine m_iload C hl 1 d_Md_better_75 rfl ?_
      refine m_istore C hl [(7, .int (iZ x9)), (6, .int (iZ (-1))), (5, .int (iZ x9)), (4, .int (iZ ((43 + (7 * a1)) + 3))), (0, .ref (ad 83)), (1, .int (iZ a1)), (2, .int (iZ a2)), (3, .int (iZ a3))] d_Md_better_77 (by decide) rfl (fun ls hl => ?_)
      refine m_iconst C d_Md_better_79 ?_
      refine m_istore C hl [(8, .int (iZ 0)), (7, .int (iZ x9)), (6, .int (iZ (-1))), (5, .int (iZ x9)), (4, .int (iZ ((43 + (7 * a1)) + 3))), (0, .ref (ad 83)), (1, .int (iZ a1)), (2, .int (iZ a2)), (3, .int (iZ a3))] d_Md_better_80 (by decide) rfl (fun ls hl => ?_)
      exact w_Md_better_L82 N hI C hr hlk a1 a2 a3 ((43 + (7 * a1)) + 3) x9 _ (-1) x9 0 h8 _ _ w _ (lv_sub hl [5, 6, 7, 8, 4, 3, 2, 1, 0] rfl) hM
    · refine m_iconst C d_Md_better_50 ?_
      exact m_iretW C w hr hlk hM d_Md_better_51
  refine m_if_ne C hM 13 d_Md_better_6 (by decide) (fun hM => ?_) (fun hM => ?_)
  · refine m_iload_n C hl 3 d_Md_better_13 rfl rfl ?_
    refine m_iconst C d_Md_better_14 ?_
    refine m_iconst C d_Md_better_15 ?_
    obtain ⟨x18, e17, hM⟩ := bnd_some hM
    refine aftR (runS C w.1 w.2 (c_Md_isIn hI e17) lk_Md_54 mb_Md_isIn rfl ⟨Nat.le_of_ble_eq_true rfl, Nat.le_of_ble_eq_true rfl⟩ ⟨Nat.zero_le _, Nat.zero_le _⟩ (Nat.le_of_ble_eq_true rfl) d_Md_better_16 hl.1 (rest := [.ref (ad 83)]) rfl) ?_
    refine m_if_ne C hM 26 d_Md_better_19 (by decide) (fun hM => ?_) (fun hM => ?_)
    · refine m_iload_n C hl 2 d_Md_better_26 rfl rfl ?_
      refine m_iconst C d_Md_better_27 ?_
      refine m_iconst C d_Md_better_28 ?_
      obtain ⟨x20, e19, hM⟩ := bnd_some hM
      refine aftR (runS C w.1 w.2 (c_Md_isIn hI e19) lk_Md_54 mb_Md_isIn rfl ⟨Nat.le_of_ble_eq_true rfl, Nat.le_of_ble_eq_true rfl⟩ ⟨Nat.zero_le _, Nat.zero_le _⟩ (Nat.le_of_ble_eq_true rfl) d_Md_better_29 hl.1 (rest := [.ref (ad 83)]) rfl) ?_
      refine m_if_ne C hM 39 d_Md_better_32 (by decide) (fun hM => ?_) (fun hM => ?_)
      · refine m_iconst C d_Md_better_39 ?_
        exact hJ7 0 hM _ hl
      · refine m_iconst C d_Md_better_35 ?_
        refine m_goto C 40 d_Md_better_36 (by decide) ?_
        exact hJ7 3 hM _ hl
    · refine m_iconst C d_Md_better_22 ?_
      refine m_goto C 40 d_Md_better_23 (by decide) ?_
      exact hJ7 2 hM _ hl
  · refine m_iconst C d_Md_better_9 ?_
    refine m_goto C 40 d_Md_better_10 (by decide) ?_
    exact hJ7 1 hM _ hl
def y_Md_leader : MethodName := ⟨"FeastBookModel", "leader", "()I"⟩
theorem d_Md_leader_0 : decode prog_13_method_109_code 0 = .ok (.aload_n 0, 1) := by decide +kernel
theorem d_Md_leader_1 : decode prog_13_method_109_code 1 = .ok (.aload_n 0, 1) := by decide +kernel
theorem d_Md_leader_2 : decode prog_13_method_109_code 2 = .ok (.invokevirtual 58, 3) := by decide +kernel
theorem d_Md_leader_5 : decode prog_13_method_109_code 5 = .ok (.ifCond .eq 7, 3) := by decide +kernel
theorem d_Md_leader_8 : decode prog_13_method_109_code 8 = .ok (.iconst 0, 1) := by decide +kernel
theorem d_Md_leader_9 : decode prog_13_method_109_code 9 = .ok (.goto 4, 3) := by decide +kernel
theorem d_Md_leader_12 : decode prog_13_method_109_code 12 = .ok (.iconst 1, 1) := by decide +kernel
theorem d_Md_leader_13 : decode prog_13_method_109_code 13 = .ok (.putfield 51, 3) := by decide +kernel
theorem d_Md_leader_16 : decode prog_13_method_109_code 16 = .ok (.aload_n 0, 1) := by decide +kernel
theorem d_Md_leader_17 : decode prog_13_method_109_code 17 = .ok (.getfield 51, 3) := by decide +kernel
theorem d_Md_leader_20 : decode prog_13_method_109_code 20 = .ok (.ifCond .le 5, 3) := by decide +kernel
theorem d_Md_leader_23 : decode prog_13_method_109_code 23 = .ok (.iconst 0, 1) := by decide +kernel
theorem d_Md_leader_24 : decode prog_13_method_109_code 24 = .ok (.ireturn, 1) := by decide +kernel
theorem d_Md_leader_25 : decode prog_13_method_109_code 25 = .ok (.iconst (-1), 1) := by decide +kernel
theorem d_Md_leader_26 : decode prog_13_method_109_code 26 = .ok (.istore_n 1, 1) := by decide +kernel
theorem d_Md_leader_27 : decode prog_13_method_109_code 27 = .ok (.iconst (-1), 1) := by decide +kernel
theorem d_Md_leader_28 : decode prog_13_method_109_code 28 = .ok (.istore_n 2, 1) := by decide +kernel
theorem d_Md_leader_29 : decode prog_13_method_109_code 29 = .ok (.iconst 0, 1) := by decide +kernel
theorem d_Md_leader_30 : decode prog_13_method_109_code 30 = .ok (.istore_n 3, 1) := by decide +kernel
theorem d_Md_leader_31 : decode prog_13_method_109_code 31 = .ok (.iload_n 3, 1) := by decide +kernel
theorem d_Md_leader_32 : decode prog_13_method_109_code 32 = .ok (.aload_n 0, 1) := by decide +kernel
theorem d_Md_leader_33 : decode prog_13_method_109_code 33 = .ok (.getfield 7, 3) := by decide +kernel
theorem d_Md_leader_36 : decode prog_13_method_109_code 36 = .ok (.bipush 42, 2) := by decide +kernel
theorem d_Md_leader_38 : decode prog_13_method_109_code 38 = .ok (.iaload, 1) := by decide +kernel
theorem d_Md_leader_39 : decode prog_13_method_109_code 39 = .ok (.if_icmp .ge 30, 3) := by decide +kernel
theorem d_Md_leader_42 : decode prog_13_method_109_code 42 = .ok (.aload_n 0, 1) := by decide +kernel
theorem d_Md_leader_43 : decode prog_13_method_109_code 43 = .ok (.iload_n 3, 1) := by decide +kernel
theorem d_Md_leader_44 : decode prog_13_method_109_code 44 = .ok (.invokevirtual 344, 3) := by decide +kernel
theorem d_Md_leader_47 : decode prog_13_method_109_code 47 = .ok (.istore 4, 2) := by decide +kernel
theorem d_Md_leader_49 : decode prog_13_method_109_code 49 = .ok (.iload 4, 2) := by decide +kernel
theorem d_Md_leader_51 : decode prog_13_method_109_code 51 = .ok (.iload_n 2, 1) := by decide +kernel
theorem d_Md_leader_52 : decode prog_13_method_109_code 52 = .ok (.if_icmp .gt 6, 3) := by decide +kernel
theorem d_Md_leader_55 : decode prog_13_method_109_code 55 = .ok (.goto 8, 3) := by decide +kernel
theorem d_Md_leader_58 : decode prog_13_method_109_code 58 = .ok (.iload_n 3, 1) := by decide +kernel
theorem d_Md_leader_59 : decode prog_13_method_109_code 59 = .ok (.istore_n 1, 1) := by decide +kernel
theorem d_Md_leader_60 : decode prog_13_method_109_code 60 = .ok (.iload 4, 2) := by decide +kernel
theorem d_Md_leader_62 : decode prog_13_method_109_code 62 = .ok (.istore_n 2, 1) := by decide +kernel
theorem d_Md_leader_63 : decode prog_13_method_109_code 63 = .ok (.iinc 3 1, 3) := by decide +kernel
theorem d_Md_leader_66 : decode prog_13_method_109_code 66 = .ok (.goto (-35), 3) := by decide +kernel
theorem d_Md_leader_69 : decode prog_13_method_109_code 69 = .ok (.iload_n 1, 1) := by decide +kernel
theorem d_Md_leader_70 : decode prog_13_method_109_code 70 = .ok (.ireturn, 1) := by decide +kernel
set_option maxHeartbeats 4000000 in
set_option maxRecDepth 100000 in
theorem w_Md_leader_L31 {p : Program} {l : Launch} {e : Env} {s : State} {m : MethodId} {args : Array Value} {below : List Frame} {meth : Method} {c : Code} {D : va_G} {ad : Nat → Nat} {cA : Nat → ClassId} {sd sv : Nat → Nat} {out : (Int × Hp)} (N : Nat) (hI : Inj97 ad) (C : Cx p s m args c prog_13_method_109_code 5 "FeastBookModel" D ad cA sd sv (FA ad)) (hr : meth.sig.returnType = (some .int)) (hlk : meth.locks = false) : ∀ (n : Nat) (v1 v2 v3 : Int) (h : Hp) (H : Heap) (locs : List Loc), Wd s D ad cA (FA ad) h H locs → ∀ ls : Array Slot, lv_has ls 5 [(0, .ref (ad 83)), (1, .int (iZ v1)), (2, .int (iZ v2)), (3, .int (iZ v3))] → Md_leader_L31 N n v1 v2 v3 h = some out → W p l e (rmD 9) s m args below meth c H locs 0 0 (MQ below (QI D ad cA out) args s 0 0 (FA ad)) (F0 m 31 ls []) := by
  intro n
  induction n with
  | zero =>
    intro v1 v2 v3 h H locs w ls hl hM
    rw [Md_leader_L31] at hM
    cases hM
  | succ n ih =>
    intro v1 v2 v3 h H locs w ls hl hM
    rw [Md_leader_L31] at hM
    refine m_iload_n C hl 3 d_Md_leader_31 rfl rfl ?_
    refine m_aload_n C hl 0 d_Md_leader_32 rfl rfl ?_
    refine m_getr C w.1 kc_Md sh_83 (Nat.le_of_ble_eq_true rfl) 1 84 rfl (by decide) fk_Md_7 d_Md_leader_33 ?_
    refine m_bipush C d_Md_leader_36 (by decide) ?_
    refine m_iald C w.1 sh_84 (Nat.le_of_ble_eq_true rfl) (Nat.le_of_ble_eq_true rfl) hM d_Md_leader_38 (fun x5 hM => ?_)
    refine m_icmp_ge C hM 69 d_Md_leader_39 (by decide) (fun hM => ?_) (fun hM => ?_)
    · refine m_iload_n C hl 1 d_Md_leader_69 rfl rfl ?_
      exact m_iretW C w hr hlk hM d_Md_leader_70
    · refine m_aload_n C hl 0 d_Md_leader_42 rfl rfl ?_
      refine m_iload_n C hl 3 d_Md_leader_43 rfl rfl ?_
      obtain ⟨q7, e6, hM⟩ := bnd_some hM
      refine aftI C w (runV C w.1 w.2 kc_Md sh_83 (Nat.le_of_ble_eq_true rfl) (c_Md_keptYears hI e6) lk_Md_344 mb_Md_keptYears rfl ⟨Nat.le_of_ble_eq_true rfl, Nat.le_of_ble_eq_true rfl⟩ ⟨Nat.zero_le _, Nat.zero_le _⟩ (Nat.le_of_ble_eq_true rfl) d_Md_leader_44 hl.1 (rest := []) rfl) (fun H locs w => ?_)
      refine m_istore C hl [(4, .int (iZ q7.1)), (0, .ref (ad 83)), (1, .int (iZ v1)), (2, .int (iZ v2)), (3, .int (iZ v3))] d_Md_leader_47 (by decide) rfl (fun ls hl => ?_)
      refine m_iload C hl 0 d_Md_leader_49 rfl ?_
      refine m_iload_n C hl 3 d_Md_leader_51 rfl rfl ?_
      refine m_icmp_gt C hM 58 d_Md_leader_52 (by decide) (fun hM => ?_) (fun hM => ?_)
      · refine m_iload_n C hl 4 d_Md_leader_58 rfl rfl ?_
        refine m_istore_n C hl [(1, .int (iZ v3)), (4, .int (iZ q7.1)), (0, .ref (ad 83)), (2, .int (iZ v2)), (3, .int (iZ v3))] d_Md_leader_59 rfl (by decide) rfl (fun ls hl => ?_)
        refine m_iload C hl 1 d_Md_leader_60 rfl ?_
        refine m_istore_n C hl [(2, .int (iZ q7.1)), (1, .int (iZ v3)), (4, .int (iZ q7.1)), (0, .ref (ad 83)), (3, .int (iZ v3))] d_Md_leader_62 rfl (by decide) rfl (fun ls hl => ?_)
        refine m_iinc C hl 4 [(3, .int (iZ (v3 + 1))), (2, .int (iZ q7.1)), (1, .int (iZ v3)), (4, .int (iZ q7.1)), (0, .ref (ad 83))] d_Md_leader_63 rfl (by decide) rfl (fun ls hl => ?_)
        refine m_goto C 31 d_Md_leader_66 (by decide) ?_
        exact ih v3 q7.1 (v3 + 1) q7.2 _ _ w _ (lv_sub hl [4, 2, 1, 0] rfl) hM
      · refine m_goto C 63 d_Md_leader_55 (by decide) ?_
        refine m_iinc C hl 4 [(3, .int (iZ (v3 + 1))), (4, .int (iZ q7.1)), (0, .ref (ad 83)), (1, .int (iZ v1)), (2, .int (iZ v2))] d_Md_leader_63 rfl (by decide) rfl (fun ls hl => ?_)
        refine m_goto C 31 d_Md_leader_66 (by decide) ?_
        exact ih v1 v2 (v3 + 1) q7.2 _ _ w _ (lv_sub hl [2, 3, 4, 0] rfl) hM
set_option maxHeartbeats 4000000 in
set_option maxRecDepth 100000 in
theorem c_Md_leader {l : Launch} {D : va_G} {ad : Nat → Nat} {cA : Nat → ClassId} {sd sv : Nat → Nat} {h : Hp} {N : Nat} {out : (Int × Hp)} (hI : Inj97 ad) (hM : M_Md_leader N h = some out) : Met l y_Md_leader (.code y_Md_leader prog_13_method_109_code 5 (some .int) :: TT) (rmD 9) (PC D ad cA sd sv h [.ref (ad 83)]) (QI D ad cA out) 0 0 (FA ad) := by
  unfold M_Md_leader at hM
  refine entM (by decide +kernel) hI (Nat.le_of_ble_eq_true rfl) ?_
  intro p e s m args below meth c C hr hlk hP ls hl
  have C : Cx p s m args c prog_13_method_109_code 5 "FeastBookModel" D ad cA sd sv (FA ad) := C
  have hl : lv_has ls 5 [(0, .ref (ad 83))] := hl
  have w : Wd s D ad cA (FA ad) h s.heap [] := ⟨hP, va_S.rf⟩
  refine m_aload_n C hl 0 d_Md_leader_0 rfl rfl ?_
  refine m_aload_n C hl 0 d_Md_leader_1 rfl rfl ?_
  obtain ⟨x2, e1, hM⟩ := bnd_some hM
  refine aftR (runV C w.1 w.2 kc_Md sh_83 (Nat.le_of_ble_eq_true rfl) (c_Md_hasBook hI e1) lk_Md_58 mb_Md_hasBook rfl ⟨Nat.le_of_ble_eq_true rfl, Nat.le_of_ble_eq_true rfl⟩ ⟨Nat.zero_le _, Nat.zero_le _⟩ (Nat.le_of_ble_eq_true rfl) d_Md_leader_2 hl.1 (rest := [.ref (ad 83)]) rfl) ?_
  refine lt_join hM (fun j3 ej hM => ?_)
  have hJ3 : ∀ (s0_3 : Int), j3 s0_3 = some out → ∀ ls : Array Slot, lv_has ls 5 [(0, .ref (ad 83))] → W p l e (rmD 9) s m args below meth c s.heap [] 0 0 (MQ below (QI D ad cA out) args s 0 0 (FA ad)) (F0 m 13 ls [.int (iZ s0_3), .ref (ad 83)]) := by
    intro s0_3 hM ls hl
    subst ej
    dsimp only at hM
    refine m_puti C w kc_Md sh_83 (Nat.le_of_ble_eq_true rfl) 0 hM rfl (by decide) rfl rfl fk_Md_51 d_Md_leader_13 (fun h4 H locs w hM => ?_)
    refine m_aload_n C hl 0 d_Md_leader_16 rfl rfl ?_
    refine m_geti C w.1 kc_Md sh_83 (Nat.le_of_ble_eq_true rfl) 0 rfl (by decide) fk_Md_51 d_Md_leader_17 ?_
    refine m_if_le C hM 25 d_Md_leader_20 (by decide) (fun hM => ?_) (fun hM => ?_)
    · refine m_iconst C d_Md_leader_25 ?_
      refine m_istore_n C hl [(1, .int (iZ (-1))), (0, .ref (ad 83))] d_Md_leader_26 rfl (by decide) rfl (fun ls hl => ?_)
      refine m_iconst C d_Md_leader_27 ?_
      refine m_istore_n C hl [(2, .int (iZ (-1))), (1, .int (iZ (-1))), (0, .ref (ad 83))] d_Md_leader_28 rfl (by decide) rfl (fun ls hl => ?_)
      refine m_iconst C d_Md_leader_29 ?_
      refine m_istore_n C hl [(3, .int (iZ 0)), (2, .int (iZ (-1))), (1, .int (iZ (-1))), (0, .ref (ad 83))] d_Md_leader_30 rfl (by decide) rfl (fun ls hl => ?_)
      exact w_Md_leader_L31 N hI C hr hlk  _ (-1) (-1) 0 h4 _ _ w _ (lv_sub hl [3, 2, 1, 0] rfl) hM
    · refine m_iconst C d_Md_leader_23 ?_
      exact m_iretW C w hr hlk hM d_Md_leader_24
  refine m_if_eq C hM 12 d_Md_leader_5 (by decide) (fun hM => ?_) (fun hM => ?_)
  · refine m_iconst C d_Md_leader_12 ?_
    exact hJ3 1 hM _ hl
  · refine m_iconst C d_Md_leader_8 ?_
    refine m_goto C 13 d_Md_leader_9 (by decide) ?_
    exact hJ3 0 hM _ hl
def y_Md_image : MethodName := ⟨"FeastBookModel", "image", "()V"⟩
theorem d_Md_image_0 : decode prog_13_method_110_code 0 = .ok (.aload_n 0, 1) := by decide +kernel
theorem d_Md_image_1 : decode prog_13_method_110_code 1 = .ok (.iconst 0, 1) := by decide +kernel
theorem d_Md_image_2 : decode prog_13_method_110_code 2 = .ok (.putfield 51, 3) := by decide +kernel
theorem d_Md_image_5 : decode prog_13_method_110_code 5 = .ok (.iconst 0, 1) := by decide +kernel
theorem d_Md_image_6 : decode prog_13_method_110_code 6 = .ok (.istore_n 1, 1) := by decide +kernel
theorem d_Md_image_7 : decode prog_13_method_110_code 7 = .ok (.iload_n 1, 1) := by decide +kernel
theorem d_Md_image_8 : decode prog_13_method_110_code 8 = .ok (.bipush 127, 2) := by decide +kernel
theorem d_Md_image_10 : decode prog_13_method_110_code 10 = .ok (.if_icmp .ge 21, 3) := by decide +kernel
theorem d_Md_image_13 : decode prog_13_method_110_code 13 = .ok (.aload_n 0, 1) := by decide +kernel
theorem d_Md_image_14 : decode prog_13_method_110_code 14 = .ok (.getfield 16, 3) := by decide +kernel
theorem d_Md_image_17 : decode prog_13_method_110_code 17 = .ok (.iload_n 1, 1) := by decide +kernel
theorem d_Md_image_18 : decode prog_13_method_110_code 18 = .ok (.aload_n 0, 1) := by decide +kernel
theorem d_Md_image_19 : decode prog_13_method_110_code 19 = .ok (.getfield 7, 3) := by decide +kernel
theorem d_Md_image_22 : decode prog_13_method_110_code 22 = .ok (.iload_n 1, 1) := by decide +kernel
theorem d_Md_image_23 : decode prog_13_method_110_code 23 = .ok (.iaload, 1) := by decide +kernel
theorem d_Md_image_24 : decode prog_13_method_110_code 24 = .ok (.iastore, 1) := by decide +kernel
theorem d_Md_image_25 : decode prog_13_method_110_code 25 = .ok (.iinc 1 1, 3) := by decide +kernel
theorem d_Md_image_28 : decode prog_13_method_110_code 28 = .ok (.goto (-21), 3) := by decide +kernel
theorem d_Md_image_31 : decode prog_13_method_110_code 31 = .ok (.aload_n 0, 1) := by decide +kernel
theorem d_Md_image_32 : decode prog_13_method_110_code 32 = .ok (.iconst 1, 1) := by decide +kernel
theorem d_Md_image_33 : decode prog_13_method_110_code 33 = .ok (.putfield 347, 3) := by decide +kernel
theorem d_Md_image_36 : decode prog_13_method_110_code 36 = .ok (.return_, 1) := by decide +kernel
theorem fk_Md_16 : Cond.fieldLink "FeastBookModel" 16 (T_Md 4).1 (T_Md 4).2.1 (T_Md 4).2.2.1 ∈ TT := mT8 100 (by decide +kernel) (by decide +kernel)
theorem fk_Md_347 : Cond.fieldLink "FeastBookModel" 347 (T_Md 5).1 (T_Md 5).2.1 (T_Md 5).2.2.1 ∈ TT := mT8 101 (by decide +kernel) (by decide +kernel)
set_option maxHeartbeats 4000000 in
set_option maxRecDepth 100000 in
theorem w_Md_image_L7 {p : Program} {l : Launch} {e : Env} {s : State} {m : MethodId} {args : Array Value} {below : List Frame} {meth : Method} {c : Code} {D : va_G} {ad : Nat → Nat} {cA : Nat → ClassId} {sd sv : Nat → Nat} {out : Hp} (N : Nat) (hI : Inj97 ad) (C : Cx p s m args c prog_13_method_110_code 2 "FeastBookModel" D ad cA sd sv (FA ad)) (hr : meth.sig.returnType = none) (hlk : meth.locks = false) : ∀ (n : Nat) (v1 : Int) (h : Hp) (H : Heap) (locs : List Loc), Wd s D ad cA (FA ad) h H locs → ∀ ls : Array Slot, lv_has ls 2 [(0, .ref (ad 83)), (1, .int (iZ v1))] → Md_image_L7 N n v1 h = some out → W p l e (rmD 0) s m args below meth c H locs 0 0 (MQ below (QV D ad cA out) args s 0 0 (FA ad)) (F0 m 7 ls []) := by
  intro n
  induction n with
  | zero =>
    intro v1 h H locs w ls hl hM
    rw [Md_image_L7] at hM
    cases hM
  | succ n ih =>
    intro v1 h H locs w ls hl hM
    rw [Md_image_L7] at hM
    refine m_iload_n C hl 1 d_Md_image_7 rfl rfl ?_
    refine m_bipush C d_Md_image_8 (by decide) ?_
    refine m_icmp_ge C hM 31 d_Md_image_10 (by decide) (fun hM => ?_) (fun hM => ?_)
    · refine m_aload_n C hl 0 d_Md_image_31 rfl rfl ?_
      refine m_iconst C d_Md_image_32 ?_
      refine m_putz C w kc_Md sh_83 (Nat.le_of_ble_eq_true rfl) 5 hM rfl (by decide) rfl rfl fk_Md_347 d_Md_image_33 (fun h2 H locs w hM => ?_)
      exact m_vretW C w hr hlk hM d_Md_image_36
    · refine m_aload_n C hl 0 d_Md_image_13 rfl rfl ?_
      refine m_getr C w.1 kc_Md sh_83 (Nat.le_of_ble_eq_true rfl) 4 86 rfl (by decide) fk_Md_16 d_Md_image_14 ?_
      refine m_iload_n C hl 1 d_Md_image_17 rfl rfl ?_
      refine m_aload_n C hl 0 d_Md_image_18 rfl rfl ?_
      refine m_getr C w.1 kc_Md sh_83 (Nat.le_of_ble_eq_true rfl) 1 84 rfl (by decide) fk_Md_7 d_Md_image_19 ?_
      refine m_iload_n C hl 1 d_Md_image_22 rfl rfl ?_
      refine m_iald C w.1 sh_84 (Nat.le_of_ble_eq_true rfl) (Nat.le_of_ble_eq_true rfl) hM d_Md_image_23 (fun x3 hM => ?_)
      refine m_iast C w sh_86 (Nat.le_of_ble_eq_true rfl) (Nat.le_of_ble_eq_true rfl) hM d_Md_image_24 (fun h4 H locs w hM => ?_)
      refine m_iinc C hl 1 [(1, .int (iZ (v1 + 1))), (0, .ref (ad 83))] d_Md_image_25 rfl (by decide) rfl (fun ls hl => ?_)
      refine m_goto C 7 d_Md_image_28 (by decide) ?_
      exact ih (v1 + 1) h4 _ _ w _ (lv_sub hl [1, 0] rfl) hM
set_option maxHeartbeats 4000000 in
set_option maxRecDepth 100000 in
theorem c_Md_image {l : Launch} {D : va_G} {ad : Nat → Nat} {cA : Nat → ClassId} {sd sv : Nat → Nat} {h : Hp} {N : Nat} {out : Hp} (hI : Inj97 ad) (hM : M_Md_image N h = some out) : Met l y_Md_image (.code y_Md_image prog_13_method_110_code 2 none :: TT) (rmD 0) (PC D ad cA sd sv h [.ref (ad 83)]) (QV D ad cA out) 0 0 (FA ad) := by
  unfold M_Md_image at hM
  refine entM (by decide +kernel) hI (Nat.le_of_ble_eq_true rfl) ?_
  intro p e s m args below meth c C hr hlk hP ls hl
  have C : Cx p s m args c prog_13_method_110_code 2 "FeastBookModel" D ad cA sd sv (FA ad) := C
  have hl : lv_has ls 2 [(0, .ref (ad 83))] := hl
  have w : Wd s D ad cA (FA ad) h s.heap [] := ⟨hP, va_S.rf⟩
  refine m_aload_n C hl 0 d_Md_image_0 rfl rfl ?_
  refine m_iconst C d_Md_image_1 ?_
  refine m_puti C w kc_Md sh_83 (Nat.le_of_ble_eq_true rfl) 0 hM rfl (by decide) rfl rfl fk_Md_51 d_Md_image_2 (fun h1 H locs w hM => ?_)
  refine m_iconst C d_Md_image_5 ?_
  refine m_istore_n C hl [(1, .int (iZ 0)), (0, .ref (ad 83))] d_Md_image_6 rfl (by decide) rfl (fun ls hl => ?_)
  exact w_Md_image_L7 N hI C hr hlk  _ 0 h1 _ _ w _ (lv_sub hl [1, 0] rfl) hM
def y_Md_back : MethodName := ⟨"FeastBookModel", "back", "()Z"⟩
theorem d_Md_back_0 : decode prog_13_method_111_code 0 = .ok (.aload_n 0, 1) := by decide +kernel
theorem d_Md_back_1 : decode prog_13_method_111_code 1 = .ok (.iconst 0, 1) := by decide +kernel
theorem d_Md_back_2 : decode prog_13_method_111_code 2 = .ok (.putfield 51, 3) := by decide +kernel
theorem d_Md_back_5 : decode prog_13_method_111_code 5 = .ok (.aload_n 0, 1) := by decide +kernel
theorem d_Md_back_6 : decode prog_13_method_111_code 6 = .ok (.getfield 347, 3) := by decide +kernel
theorem d_Md_back_9 : decode prog_13_method_111_code 9 = .ok (.ifCond .ne 5, 3) := by decide +kernel
theorem d_Md_back_12 : decode prog_13_method_111_code 12 = .ok (.iconst 0, 1) := by decide +kernel
theorem d_Md_back_13 : decode prog_13_method_111_code 13 = .ok (.ireturn, 1) := by decide +kernel
theorem d_Md_back_14 : decode prog_13_method_111_code 14 = .ok (.iconst 0, 1) := by decide +kernel
theorem d_Md_back_15 : decode prog_13_method_111_code 15 = .ok (.istore_n 1, 1) := by decide +kernel
theorem d_Md_back_16 : decode prog_13_method_111_code 16 = .ok (.iload_n 1, 1) := by decide +kernel
theorem d_Md_back_17 : decode prog_13_method_111_code 17 = .ok (.bipush 127, 2) := by decide +kernel
theorem d_Md_back_19 : decode prog_13_method_111_code 19 = .ok (.if_icmp .ge 21, 3) := by decide +kernel
theorem d_Md_back_22 : decode prog_13_method_111_code 22 = .ok (.aload_n 0, 1) := by decide +kernel
theorem d_Md_back_23 : decode prog_13_method_111_code 23 = .ok (.getfield 7, 3) := by decide +kernel
theorem d_Md_back_26 : decode prog_13_method_111_code 26 = .ok (.iload_n 1, 1) := by decide +kernel
theorem d_Md_back_27 : decode prog_13_method_111_code 27 = .ok (.aload_n 0, 1) := by decide +kernel
theorem d_Md_back_28 : decode prog_13_method_111_code 28 = .ok (.getfield 16, 3) := by decide +kernel
theorem d_Md_back_31 : decode prog_13_method_111_code 31 = .ok (.iload_n 1, 1) := by decide +kernel
theorem d_Md_back_32 : decode prog_13_method_111_code 32 = .ok (.iaload, 1) := by decide +kernel
theorem d_Md_back_33 : decode prog_13_method_111_code 33 = .ok (.iastore, 1) := by decide +kernel
theorem d_Md_back_34 : decode prog_13_method_111_code 34 = .ok (.iinc 1 1, 3) := by decide +kernel
theorem d_Md_back_37 : decode prog_13_method_111_code 37 = .ok (.goto (-21), 3) := by decide +kernel
theorem d_Md_back_40 : decode prog_13_method_111_code 40 = .ok (.aload_n 0, 1) := by decide +kernel
theorem d_Md_back_41 : decode prog_13_method_111_code 41 = .ok (.iconst 0, 1) := by decide +kernel
theorem d_Md_back_42 : decode prog_13_method_111_code 42 = .ok (.putfield 268, 3) := by decide +kernel
theorem d_Md_back_45 : decode prog_13_method_111_code 45 = .ok (.iconst 1, 1) := by decide +kernel
theorem d_Md_back_46 : decode prog_13_method_111_code 46 = .ok (.ireturn, 1) := by decide +kernel
set_option maxHeartbeats 4000000 in
set_option maxRecDepth 100000 in
theorem w_Md_back_L16 {p : Program} {l : Launch} {e : Env} {s : State} {m : MethodId} {args : Array Value} {below : List Frame} {meth : Method} {c : Code} {D : va_G} {ad : Nat → Nat} {cA : Nat → ClassId} {sd sv : Nat → Nat} {out : (Int × Hp)} (N : Nat) (hI : Inj97 ad) (C : Cx p s m args c prog_13_method_111_code 2 "FeastBookModel" D ad cA sd sv (FA ad)) (hr : meth.sig.returnType = (some .boolean)) (hlk : meth.locks = false) : ∀ (n : Nat) (v1 : Int) (h : Hp) (H : Heap) (locs : List Loc), Wd s D ad cA (FA ad) h H locs → ∀ ls : Array Slot, lv_has ls 2 [(0, .ref (ad 83)), (1, .int (iZ v1))] → Md_back_L16 N n v1 h = some out → W p l e (rmD 0) s m args below meth c H locs 0 0 (MQ below (QI D ad cA out) args s 0 0 (FA ad)) (F0 m 16 ls []) := by
  intro n
  induction n with
  | zero =>
    intro v1 h H locs w ls hl hM
    rw [Md_back_L16] at hM
    cases hM
  | succ n ih =>
    intro v1 h H locs w ls hl hM
    rw [Md_back_L16] at hM
    refine m_iload_n C hl 1 d_Md_back_16 rfl rfl ?_
    refine m_bipush C d_Md_back_17 (by decide) ?_
    refine m_icmp_ge C hM 40 d_Md_back_19 (by decide) (fun hM => ?_) (fun hM => ?_)
    · refine m_aload_n C hl 0 d_Md_back_40 rfl rfl ?_
      refine m_iconst C d_Md_back_41 ?_
      refine m_puti C w kc_Md sh_83 (Nat.le_of_ble_eq_true rfl) 3 hM rfl (by decide) rfl rfl fk_Md_268 d_Md_back_42 (fun h2 H locs w hM => ?_)
      refine m_iconst C d_Md_back_45 ?_
      exact m_zretW C w hr hlk hM d_Md_back_46
    · refine m_aload_n C hl 0 d_Md_back_22 rfl rfl ?_
      refine m_getr C w.1 kc_Md sh_83 (Nat.le_of_ble_eq_true rfl) 1 84 rfl (by decide) fk_Md_7 d_Md_back_23 ?_
      refine m_iload_n C hl 1 d_Md_back_26 rfl rfl ?_
      refine m_aload_n C hl 0 d_Md_back_27 rfl rfl ?_
      refine m_getr C w.1 kc_Md sh_83 (Nat.le_of_ble_eq_true rfl) 4 86 rfl (by decide) fk_Md_16 d_Md_back_28 ?_
      refine m_iload_n C hl 1 d_Md_back_31 rfl rfl ?_
      refine m_iald C w.1 sh_86 (Nat.le_of_ble_eq_true rfl) (Nat.le_of_ble_eq_true rfl) hM d_Md_back_32 (fun x3 hM => ?_)
      refine m_iast C w sh_84 (Nat.le_of_ble_eq_true rfl) (Nat.le_of_ble_eq_true rfl) hM d_Md_back_33 (fun h4 H locs w hM => ?_)
      refine m_iinc C hl 1 [(1, .int (iZ (v1 + 1))), (0, .ref (ad 83))] d_Md_back_34 rfl (by decide) rfl (fun ls hl => ?_)
      refine m_goto C 16 d_Md_back_37 (by decide) ?_
      exact ih (v1 + 1) h4 _ _ w _ (lv_sub hl [1, 0] rfl) hM
set_option maxHeartbeats 4000000 in
set_option maxRecDepth 100000 in
theorem c_Md_back {l : Launch} {D : va_G} {ad : Nat → Nat} {cA : Nat → ClassId} {sd sv : Nat → Nat} {h : Hp} {N : Nat} {out : (Int × Hp)} (hI : Inj97 ad) (hM : M_Md_back N h = some out) : Met l y_Md_back (.code y_Md_back prog_13_method_111_code 2 (some .boolean) :: TT) (rmD 0) (PC D ad cA sd sv h [.ref (ad 83)]) (QI D ad cA out) 0 0 (FA ad) := by
  unfold M_Md_back at hM
  refine entM (by decide +kernel) hI (Nat.le_of_ble_eq_true rfl) ?_
  intro p e s m args below meth c C hr hlk hP ls hl
  have C : Cx p s m args c prog_13_method_111_code 2 "FeastBookModel" D ad cA sd sv (FA ad) := C
  have hl : lv_has ls 2 [(0, .ref (ad 83))] := hl
  have w : Wd s D ad cA (FA ad) h s.heap [] := ⟨hP, va_S.rf⟩
  refine m_aload_n C hl 0 d_Md_back_0 rfl rfl ?_
  refine m_iconst C d_Md_back_1 ?_
  refine m_puti C w kc_Md sh_83 (Nat.le_of_ble_eq_true rfl) 0 hM rfl (by decide) rfl rfl fk_Md_51 d_Md_back_2 (fun h1 H locs w hM => ?_)
  refine m_aload_n C hl 0 d_Md_back_5 rfl rfl ?_
  refine m_geti C w.1 kc_Md sh_83 (Nat.le_of_ble_eq_true rfl) 5 rfl (by decide) fk_Md_347 d_Md_back_6 ?_
  refine m_if_ne C hM 14 d_Md_back_9 (by decide) (fun hM => ?_) (fun hM => ?_)
  · refine m_iconst C d_Md_back_14 ?_
    refine m_istore_n C hl [(1, .int (iZ 0)), (0, .ref (ad 83))] d_Md_back_15 rfl (by decide) rfl (fun ls hl => ?_)
    exact w_Md_back_L16 N hI C hr hlk  _ 0 h1 _ _ w _ (lv_sub hl [1, 0] rfl) hM
  · refine m_iconst C d_Md_back_12 ?_
    exact m_zretW C w hr hlk hM d_Md_back_13
def y_Md_count : MethodName := ⟨"FeastBookModel", "count", "(I)I"⟩
theorem d_Md_count_0 : decode prog_13_method_112_code 0 = .ok (.aload_n 0, 1) := by decide +kernel
theorem d_Md_count_1 : decode prog_13_method_112_code 1 = .ok (.iconst 0, 1) := by decide +kernel
theorem d_Md_count_2 : decode prog_13_method_112_code 2 = .ok (.putfield 51, 3) := by decide +kernel
theorem d_Md_count_5 : decode prog_13_method_112_code 5 = .ok (.iload_n 1, 1) := by decide +kernel
theorem d_Md_count_6 : decode prog_13_method_112_code 6 = .ok (.tableswitch 141 0 10 #[58, 65, 72, 80, 88, 96, 104, 112, 120, 125, 133], 58) := by decide +kernel
theorem d_Md_count_64 : decode prog_13_method_112_code 64 = .ok (.aload_n 0, 1) := by decide +kernel
theorem d_Md_count_65 : decode prog_13_method_112_code 65 = .ok (.getfield 7, 3) := by decide +kernel
theorem d_Md_count_68 : decode prog_13_method_112_code 68 = .ok (.iconst 0, 1) := by decide +kernel
theorem d_Md_count_69 : decode prog_13_method_112_code 69 = .ok (.iaload, 1) := by decide +kernel
theorem d_Md_count_70 : decode prog_13_method_112_code 70 = .ok (.ireturn, 1) := by decide +kernel
theorem d_Md_count_71 : decode prog_13_method_112_code 71 = .ok (.aload_n 0, 1) := by decide +kernel
theorem d_Md_count_72 : decode prog_13_method_112_code 72 = .ok (.getfield 7, 3) := by decide +kernel
theorem d_Md_count_75 : decode prog_13_method_112_code 75 = .ok (.iconst 1, 1) := by decide +kernel
theorem d_Md_count_76 : decode prog_13_method_112_code 76 = .ok (.iaload, 1) := by decide +kernel
theorem d_Md_count_77 : decode prog_13_method_112_code 77 = .ok (.ireturn, 1) := by decide +kernel
theorem d_Md_count_78 : decode prog_13_method_112_code 78 = .ok (.aload_n 0, 1) := by decide +kernel
theorem d_Md_count_79 : decode prog_13_method_112_code 79 = .ok (.getfield 7, 3) := by decide +kernel
theorem d_Md_count_82 : decode prog_13_method_112_code 82 = .ok (.bipush 42, 2) := by decide +kernel
theorem d_Md_count_84 : decode prog_13_method_112_code 84 = .ok (.iaload, 1) := by decide +kernel
theorem d_Md_count_85 : decode prog_13_method_112_code 85 = .ok (.ireturn, 1) := by decide +kernel
theorem d_Md_count_86 : decode prog_13_method_112_code 86 = .ok (.aload_n 0, 1) := by decide +kernel
theorem d_Md_count_87 : decode prog_13_method_112_code 87 = .ok (.getfield 7, 3) := by decide +kernel
theorem d_Md_count_90 : decode prog_13_method_112_code 90 = .ok (.bipush 20, 2) := by decide +kernel
theorem d_Md_count_92 : decode prog_13_method_112_code 92 = .ok (.iaload, 1) := by decide +kernel
theorem d_Md_count_93 : decode prog_13_method_112_code 93 = .ok (.ireturn, 1) := by decide +kernel
theorem d_Md_count_94 : decode prog_13_method_112_code 94 = .ok (.aload_n 0, 1) := by decide +kernel
theorem d_Md_count_95 : decode prog_13_method_112_code 95 = .ok (.getfield 7, 3) := by decide +kernel
theorem d_Md_count_98 : decode prog_13_method_112_code 98 = .ok (.bipush 33, 2) := by decide +kernel
theorem d_Md_count_100 : decode prog_13_method_112_code 100 = .ok (.iaload, 1) := by decide +kernel
theorem d_Md_count_101 : decode prog_13_method_112_code 101 = .ok (.ireturn, 1) := by decide +kernel
theorem d_Md_count_102 : decode prog_13_method_112_code 102 = .ok (.aload_n 0, 1) := by decide +kernel
theorem d_Md_count_103 : decode prog_13_method_112_code 103 = .ok (.getfield 7, 3) := by decide +kernel
theorem d_Md_count_106 : decode prog_13_method_112_code 106 = .ok (.bipush 16, 2) := by decide +kernel
theorem d_Md_count_108 : decode prog_13_method_112_code 108 = .ok (.iaload, 1) := by decide +kernel
theorem d_Md_count_109 : decode prog_13_method_112_code 109 = .ok (.ireturn, 1) := by decide +kernel
theorem d_Md_count_110 : decode prog_13_method_112_code 110 = .ok (.aload_n 0, 1) := by decide +kernel
theorem d_Md_count_111 : decode prog_13_method_112_code 111 = .ok (.getfield 7, 3) := by decide +kernel
theorem d_Md_count_114 : decode prog_13_method_112_code 114 = .ok (.bipush 19, 2) := by decide +kernel
theorem d_Md_count_116 : decode prog_13_method_112_code 116 = .ok (.iaload, 1) := by decide +kernel
theorem d_Md_count_117 : decode prog_13_method_112_code 117 = .ok (.ireturn, 1) := by decide +kernel
theorem d_Md_count_118 : decode prog_13_method_112_code 118 = .ok (.aload_n 0, 1) := by decide +kernel
theorem d_Md_count_119 : decode prog_13_method_112_code 119 = .ok (.getfield 7, 3) := by decide +kernel
theorem d_Md_count_122 : decode prog_13_method_112_code 122 = .ok (.bipush 10, 2) := by decide +kernel
theorem d_Md_count_124 : decode prog_13_method_112_code 124 = .ok (.iaload, 1) := by decide +kernel
theorem d_Md_count_125 : decode prog_13_method_112_code 125 = .ok (.ireturn, 1) := by decide +kernel
theorem d_Md_count_126 : decode prog_13_method_112_code 126 = .ok (.aload_n 0, 1) := by decide +kernel
theorem d_Md_count_127 : decode prog_13_method_112_code 127 = .ok (.getfield 268, 3) := by decide +kernel
theorem d_Md_count_130 : decode prog_13_method_112_code 130 = .ok (.ireturn, 1) := by decide +kernel
theorem d_Md_count_131 : decode prog_13_method_112_code 131 = .ok (.aload_n 0, 1) := by decide +kernel
theorem d_Md_count_132 : decode prog_13_method_112_code 132 = .ok (.getfield 7, 3) := by decide +kernel
theorem d_Md_count_135 : decode prog_13_method_112_code 135 = .ok (.bipush 17, 2) := by decide +kernel
theorem d_Md_count_137 : decode prog_13_method_112_code 137 = .ok (.iaload, 1) := by decide +kernel
theorem d_Md_count_138 : decode prog_13_method_112_code 138 = .ok (.ireturn, 1) := by decide +kernel
theorem d_Md_count_139 : decode prog_13_method_112_code 139 = .ok (.aload_n 0, 1) := by decide +kernel
theorem d_Md_count_140 : decode prog_13_method_112_code 140 = .ok (.getfield 7, 3) := by decide +kernel
theorem d_Md_count_143 : decode prog_13_method_112_code 143 = .ok (.bipush 18, 2) := by decide +kernel
theorem d_Md_count_145 : decode prog_13_method_112_code 145 = .ok (.iaload, 1) := by decide +kernel
theorem d_Md_count_146 : decode prog_13_method_112_code 146 = .ok (.ireturn, 1) := by decide +kernel
theorem d_Md_count_147 : decode prog_13_method_112_code 147 = .ok (.iconst (-1), 1) := by decide +kernel
theorem d_Md_count_148 : decode prog_13_method_112_code 148 = .ok (.ireturn, 1) := by decide +kernel
set_option maxHeartbeats 4000000 in
set_option maxRecDepth 100000 in
theorem c_Md_count {l : Launch} {D : va_G} {ad : Nat → Nat} {cA : Nat → ClassId} {sd sv : Nat → Nat} {h : Hp} {a1 : Int} {out : (Int × Hp)} (hI : Inj97 ad) (hM : M_Md_count h a1 = some out) : Met l y_Md_count (.code y_Md_count prog_13_method_112_code 2 (some .int) :: TT) (rmD 0) (PC D ad cA sd sv h [.ref (ad 83), .int (iZ a1)]) (QI D ad cA out) 0 0 (FA ad) := by
  unfold M_Md_count at hM
  refine entM (by decide +kernel) hI (Nat.le_of_ble_eq_true rfl) ?_
  intro p e s m args below meth c C hr hlk hP ls hl
  have C : Cx p s m args c prog_13_method_112_code 2 "FeastBookModel" D ad cA sd sv (FA ad) := C
  have hl : lv_has ls 2 [(0, .ref (ad 83)), (1, .int (iZ a1))] := hl
  have w : Wd s D ad cA (FA ad) h s.heap [] := ⟨hP, va_S.rf⟩
  refine m_aload_n C hl 0 d_Md_count_0 rfl rfl ?_
  refine m_iconst C d_Md_count_1 ?_
  refine m_puti C w kc_Md sh_83 (Nat.le_of_ble_eq_true rfl) 0 hM rfl (by decide) rfl rfl fk_Md_51 d_Md_count_2 (fun h1 H locs w hM => ?_)
  refine m_iload_n C hl 1 d_Md_count_5 rfl rfl ?_
  refine m_swc 0 hM (fun ek hM => ?_) (fun hn0 hM => ?_)
  · refine lv_tableIn C.1 C.2.1 d_Md_count_6 (tgt := 64) (off := 58) (by rw [ek]; decide) (by rw [ek]; decide) (by rw [ek]; rfl) (by decide) ?_
    refine m_aload_n C hl 0 d_Md_count_64 rfl rfl ?_
    refine m_getr C w.1 kc_Md sh_83 (Nat.le_of_ble_eq_true rfl) 1 84 rfl (by decide) fk_Md_7 d_Md_count_65 ?_
    refine m_iconst C d_Md_count_68 ?_
    refine m_iald C w.1 sh_84 (Nat.le_of_ble_eq_true rfl) (Nat.le_of_ble_eq_true rfl) hM d_Md_count_69 (fun x2 hM => ?_)
    exact m_iretW C w hr hlk hM d_Md_count_70
  · refine m_swc 1 hM (fun ek hM => ?_) (fun hn1 hM => ?_)
    · refine lv_tableIn C.1 C.2.1 d_Md_count_6 (tgt := 71) (off := 65) (by rw [ek]; decide) (by rw [ek]; decide) (by rw [ek]; rfl) (by decide) ?_
      refine m_aload_n C hl 0 d_Md_count_71 rfl rfl ?_
      refine m_getr C w.1 kc_Md sh_83 (Nat.le_of_ble_eq_true rfl) 1 84 rfl (by decide) fk_Md_7 d_Md_count_72 ?_
      refine m_iconst C d_Md_count_75 ?_
      refine m_iald C w.1 sh_84 (Nat.le_of_ble_eq_true rfl) (Nat.le_of_ble_eq_true rfl) hM d_Md_count_76 (fun x3 hM => ?_)
      exact m_iretW C w hr hlk hM d_Md_count_77
    · refine m_swc 2 hM (fun ek hM => ?_) (fun hn2 hM => ?_)
      · refine lv_tableIn C.1 C.2.1 d_Md_count_6 (tgt := 78) (off := 72) (by rw [ek]; decide) (by rw [ek]; decide) (by rw [ek]; rfl) (by decide) ?_
        refine m_aload_n C hl 0 d_Md_count_78 rfl rfl ?_
        refine m_getr C w.1 kc_Md sh_83 (Nat.le_of_ble_eq_true rfl) 1 84 rfl (by decide) fk_Md_7 d_Md_count_79 ?_
        refine m_bipush C d_Md_count_82 (by decide) ?_
        refine m_iald C w.1 sh_84 (Nat.le_of_ble_eq_true rfl) (Nat.le_of_ble_eq_true rfl) hM d_Md_count_84 (fun x4 hM => ?_)
        exact m_iretW C w hr hlk hM d_Md_count_85
      · refine m_swc 3 hM (fun ek hM => ?_) (fun hn3 hM => ?_)
        · refine lv_tableIn C.1 C.2.1 d_Md_count_6 (tgt := 86) (off := 80) (by rw [ek]; decide) (by rw [ek]; decide) (by rw [ek]; rfl) (by decide) ?_
          refine m_aload_n C hl 0 d_Md_count_86 rfl rfl ?_
          refine m_getr C w.1 kc_Md sh_83 (Nat.le_of_ble_eq_true rfl) 1 84 rfl (by decide) fk_Md_7 d_Md_count_87 ?_
          refine m_bipush C d_Md_count_90 (by decide) ?_
          refine m_iald C w.1 sh_84 (Nat.le_of_ble_eq_true rfl) (Nat.le_of_ble_eq_true rfl) hM d_Md_count_92 (fun x5 hM => ?_)
          exact m_iretW C w hr hlk hM d_Md_count_93
        · refine m_swc 4 hM (fun ek hM => ?_) (fun hn4 hM => ?_)
          · refine lv_tableIn C.1 C.2.1 d_Md_count_6 (tgt := 94) (off := 88) (by rw [ek]; decide) (by rw [ek]; decide) (by rw [ek]; rfl) (by decide) ?_
            refine m_aload_n C hl 0 d_Md_count_94 rfl rfl ?_
            refine m_getr C w.1 kc_Md sh_83 (Nat.le_of_ble_eq_true rfl) 1 84 rfl (by decide) fk_Md_7 d_Md_count_95 ?_
            refine m_bipush C d_Md_count_98 (by decide) ?_
            refine m_iald C w.1 sh_84 (Nat.le_of_ble_eq_true rfl) (Nat.le_of_ble_eq_true rfl) hM d_Md_count_100 (fun x6 hM => ?_)
            exact m_iretW C w hr hlk hM d_Md_count_101
          · refine m_swc 5 hM (fun ek hM => ?_) (fun hn5 hM => ?_)
            · refine lv_tableIn C.1 C.2.1 d_Md_count_6 (tgt := 102) (off := 96) (by rw [ek]; decide) (by rw [ek]; decide) (by rw [ek]; rfl) (by decide) ?_
              refine m_aload_n C hl 0 d_Md_count_102 rfl rfl ?_
              refine m_getr C w.1 kc_Md sh_83 (Nat.le_of_ble_eq_true rfl) 1 84 rfl (by decide) fk_Md_7 d_Md_count_103 ?_
              refine m_bipush C d_Md_count_106 (by decide) ?_
              refine m_iald C w.1 sh_84 (Nat.le_of_ble_eq_true rfl) (Nat.le_of_ble_eq_true rfl) hM d_Md_count_108 (fun x7 hM => ?_)
              exact m_iretW C w hr hlk hM d_Md_count_109
            · refine m_swc 6 hM (fun ek hM => ?_) (fun hn6 hM => ?_)
              · refine lv_tableIn C.1 C.2.1 d_Md_count_6 (tgt := 110) (off := 104) (by rw [ek]; decide) (by rw [ek]; decide) (by rw [ek]; rfl) (by decide) ?_
                refine m_aload_n C hl 0 d_Md_count_110 rfl rfl ?_
                refine m_getr C w.1 kc_Md sh_83 (Nat.le_of_ble_eq_true rfl) 1 84 rfl (by decide) fk_Md_7 d_Md_count_111 ?_
                refine m_bipush C d_Md_count_114 (by decide) ?_
                refine m_iald C w.1 sh_84 (Nat.le_of_ble_eq_true rfl) (Nat.le_of_ble_eq_true rfl) hM d_Md_count_116 (fun x8 hM => ?_)
                exact m_iretW C w hr hlk hM d_Md_count_117
              · refine m_swc 7 hM (fun ek hM => ?_) (fun hn7 hM => ?_)
                · refine lv_tableIn C.1 C.2.1 d_Md_count_6 (tgt := 118) (off := 112) (by rw [ek]; decide) (by rw [ek]; decide) (by rw [ek]; rfl) (by decide) ?_
                  refine m_aload_n C hl 0 d_Md_count_118 rfl rfl ?_
                  refine m_getr C w.1 kc_Md sh_83 (Nat.le_of_ble_eq_true rfl) 1 84 rfl (by decide) fk_Md_7 d_Md_count_119 ?_
                  refine m_bipush C d_Md_count_122 (by decide) ?_
                  refine m_iald C w.1 sh_84 (Nat.le_of_ble_eq_true rfl) (Nat.le_of_ble_eq_true rfl) hM d_Md_count_124 (fun x9 hM => ?_)
                  exact m_iretW C w hr hlk hM d_Md_count_125
                · refine m_swc 8 hM (fun ek hM => ?_) (fun hn8 hM => ?_)
                  · refine lv_tableIn C.1 C.2.1 d_Md_count_6 (tgt := 126) (off := 120) (by rw [ek]; decide) (by rw [ek]; decide) (by rw [ek]; rfl) (by decide) ?_
                    refine m_aload_n C hl 0 d_Md_count_126 rfl rfl ?_
                    refine m_geti C w.1 kc_Md sh_83 (Nat.le_of_ble_eq_true rfl) 3 rfl (by decide) fk_Md_268 d_Md_count_127 ?_
                    exact m_iretW C w hr hlk hM d_Md_count_130
                  · refine m_swc 9 hM (fun ek hM => ?_) (fun hn9 hM => ?_)
                    · refine lv_tableIn C.1 C.2.1 d_Md_count_6 (tgt := 131) (off := 125) (by rw [ek]; decide) (by rw [ek]; decide) (by rw [ek]; rfl) (by decide) ?_
                      refine m_aload_n C hl 0 d_Md_count_131 rfl rfl ?_
                      refine m_getr C w.1 kc_Md sh_83 (Nat.le_of_ble_eq_true rfl) 1 84 rfl (by decide) fk_Md_7 d_Md_count_132 ?_
                      refine m_bipush C d_Md_count_135 (by decide) ?_
                      refine m_iald C w.1 sh_84 (Nat.le_of_ble_eq_true rfl) (Nat.le_of_ble_eq_true rfl) hM d_Md_count_137 (fun x10 hM => ?_)
                      exact m_iretW C w hr hlk hM d_Md_count_138
                    · refine m_swc 10 hM (fun ek hM => ?_) (fun hn10 hM => ?_)
                      · refine lv_tableIn C.1 C.2.1 d_Md_count_6 (tgt := 139) (off := 133) (by rw [ek]; decide) (by rw [ek]; decide) (by rw [ek]; rfl) (by decide) ?_
                        refine m_aload_n C hl 0 d_Md_count_139 rfl rfl ?_
                        refine m_getr C w.1 kc_Md sh_83 (Nat.le_of_ble_eq_true rfl) 1 84 rfl (by decide) fk_Md_7 d_Md_count_140 ?_
                        refine m_bipush C d_Md_count_143 (by decide) ?_
                        refine m_iald C w.1 sh_84 (Nat.le_of_ble_eq_true rfl) (Nat.le_of_ble_eq_true rfl) hM d_Md_count_145 (fun x11 hM => ?_)
                        exact m_iretW C w hr hlk hM d_Md_count_146
                      · refine lv_tableOut C.1 C.2.1 d_Md_count_6 (tgt := 147) ?_ (by decide) ?_
                        · have g0 := lv_neT hn0 (show (iZ 0).toInt = 0 from rfl); have g1 := lv_neT hn1 (show (iZ 1).toInt = 1 from rfl); have g2 := lv_neT hn2 (show (iZ 2).toInt = 2 from rfl); have g3 := lv_neT hn3 (show (iZ 3).toInt = 3 from rfl); have g4 := lv_neT hn4 (show (iZ 4).toInt = 4 from rfl); have g5 := lv_neT hn5 (show (iZ 5).toInt = 5 from rfl); have g6 := lv_neT hn6 (show (iZ 6).toInt = 6 from rfl); have g7 := lv_neT hn7 (show (iZ 7).toInt = 7 from rfl); have g8 := lv_neT hn8 (show (iZ 8).toInt = 8 from rfl); have g9 := lv_neT hn9 (show (iZ 9).toInt = 9 from rfl); have g10 := lv_neT hn10 (show (iZ 10).toInt = 10 from rfl); omega
                        · refine m_iconst C d_Md_count_147 ?_
                          exact m_iretW C w hr hlk hM d_Md_count_148

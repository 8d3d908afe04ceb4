def y_Md_of : MethodName := ⟨"FeastBookModel", "of", "(III)I"⟩
theorem d_Md_of_0 : decode prog_13_method_73_code 0 = .ok (.aload_n 0, 1) := by decide +kernel
theorem d_Md_of_1 : decode prog_13_method_73_code 1 = .ok (.aload_n 0, 1) := by decide +kernel
theorem d_Md_of_2 : decode prog_13_method_73_code 2 = .ok (.iload_n 1, 1) := by decide +kernel
theorem d_Md_of_3 : decode prog_13_method_73_code 3 = .ok (.invokevirtual 311, 3) := by decide +kernel
theorem d_Md_of_6 : decode prog_13_method_73_code 6 = .ok (.ifCond .eq 11, 3) := by decide +kernel
theorem d_Md_of_9 : decode prog_13_method_73_code 9 = .ok (.aload_n 0, 1) := by decide +kernel
theorem d_Md_of_10 : decode prog_13_method_73_code 10 = .ok (.iload_n 2, 1) := by decide +kernel
theorem d_Md_of_11 : decode prog_13_method_73_code 11 = .ok (.invokevirtual 280, 3) := by decide +kernel
theorem d_Md_of_14 : decode prog_13_method_73_code 14 = .ok (.ifCond .ne 7, 3) := by decide +kernel
theorem d_Md_of_17 : decode prog_13_method_73_code 17 = .ok (.iconst 1, 1) := by decide +kernel
theorem d_Md_of_18 : decode prog_13_method_73_code 18 = .ok (.goto 17, 3) := by decide +kernel
theorem d_Md_of_21 : decode prog_13_method_73_code 21 = .ok (.iload_n 3, 1) := by decide +kernel
theorem d_Md_of_22 : decode prog_13_method_73_code 22 = .ok (.iconst 0, 1) := by decide +kernel
theorem d_Md_of_23 : decode prog_13_method_73_code 23 = .ok (.iconst 4, 1) := by decide +kernel
theorem d_Md_of_24 : decode prog_13_method_73_code 24 = .ok (.invokestatic 54, 3) := by decide +kernel
theorem d_Md_of_27 : decode prog_13_method_73_code 27 = .ok (.ifCond .ne 7, 3) := by decide +kernel
theorem d_Md_of_30 : decode prog_13_method_73_code 30 = .ok (.iconst 2, 1) := by decide +kernel
theorem d_Md_of_31 : decode prog_13_method_73_code 31 = .ok (.goto 4, 3) := by decide +kernel
theorem d_Md_of_34 : decode prog_13_method_73_code 34 = .ok (.iconst 0, 1) := by decide +kernel
theorem d_Md_of_35 : decode prog_13_method_73_code 35 = .ok (.putfield 51, 3) := by decide +kernel
theorem d_Md_of_38 : decode prog_13_method_73_code 38 = .ok (.aload_n 0, 1) := by decide +kernel
theorem d_Md_of_39 : decode prog_13_method_73_code 39 = .ok (.getfield 51, 3) := by decide +kernel
theorem d_Md_of_42 : decode prog_13_method_73_code 42 = .ok (.ifCond .le 5, 3) := by decide +kernel
theorem d_Md_of_45 : decode prog_13_method_73_code 45 = .ok (.iconst 0, 1) := by decide +kernel
theorem d_Md_of_46 : decode prog_13_method_73_code 46 = .ok (.ireturn, 1) := by decide +kernel
theorem d_Md_of_47 : decode prog_13_method_73_code 47 = .ok (.aload_n 0, 1) := by decide +kernel
theorem d_Md_of_48 : decode prog_13_method_73_code 48 = .ok (.iload_n 2, 1) := by decide +kernel
theorem d_Md_of_49 : decode prog_13_method_73_code 49 = .ok (.invokevirtual 283, 3) := by decide +kernel
theorem d_Md_of_52 : decode prog_13_method_73_code 52 = .ok (.iload_n 3, 1) := by decide +kernel
theorem d_Md_of_53 : decode prog_13_method_73_code 53 = .ok (.tableswitch 58 0 3 #[31, 38, 45, 52], 31) := by decide +kernel
theorem d_Md_of_84 : decode prog_13_method_73_code 84 = .ok (.aload_n 0, 1) := by decide +kernel
theorem d_Md_of_85 : decode prog_13_method_73_code 85 = .ok (.getfield 29, 3) := by decide +kernel
theorem d_Md_of_88 : decode prog_13_method_73_code 88 = .ok (.iload_n 1, 1) := by decide +kernel
theorem d_Md_of_89 : decode prog_13_method_73_code 89 = .ok (.iaload, 1) := by decide +kernel
theorem d_Md_of_90 : decode prog_13_method_73_code 90 = .ok (.ireturn, 1) := by decide +kernel
theorem d_Md_of_91 : decode prog_13_method_73_code 91 = .ok (.aload_n 0, 1) := by decide +kernel
theorem d_Md_of_92 : decode prog_13_method_73_code 92 = .ok (.getfield 32, 3) := by decide +kernel
theorem d_Md_of_95 : decode prog_13_method_73_code 95 = .ok (.iload_n 1, 1) := by decide +kernel
theorem d_Md_of_96 : decode prog_13_method_73_code 96 = .ok (.iaload, 1) := by decide +kernel
theorem d_Md_of_97 : decode prog_13_method_73_code 97 = .ok (.ireturn, 1) := by decide +kernel
theorem d_Md_of_98 : decode prog_13_method_73_code 98 = .ok (.aload_n 0, 1) := by decide +kernel
theorem d_Md_of_99 : decode prog_13_method_73_code 99 = .ok (.getfield 35, 3) := by decide +kernel
theorem d_Md_of_102 : decode prog_13_method_73_code 102 = .ok (.iload_n 1, 1) := by decide +kernel
theorem d_Md_of_103 : decode prog_13_method_73_code 103 = .ok (.iaload, 1) := by decide +kernel
theorem d_Md_of_104 : decode prog_13_method_73_code 104 = .ok (.ireturn, 1) := by decide +kernel
theorem d_Md_of_105 : decode prog_13_method_73_code 105 = .ok (.aload_n 0, 1) := by decide +kernel
theorem d_Md_of_106 : decode prog_13_method_73_code 106 = .ok (.iload_n 1, 1) := by decide +kernel
theorem d_Md_of_107 : decode prog_13_method_73_code 107 = .ok (.invokevirtual 314, 3) := by decide +kernel
theorem d_Md_of_110 : decode prog_13_method_73_code 110 = .ok (.ireturn, 1) := by decide +kernel
theorem d_Md_of_111 : decode prog_13_method_73_code 111 = .ok (.aload_n 0, 1) := by decide +kernel
theorem d_Md_of_112 : decode prog_13_method_73_code 112 = .ok (.getfield 35, 3) := by decide +kernel
theorem d_Md_of_115 : decode prog_13_method_73_code 115 = .ok (.iload_n 1, 1) := by decide +kernel
theorem d_Md_of_116 : decode prog_13_method_73_code 116 = .ok (.iaload, 1) := by decide +kernel
theorem d_Md_of_117 : decode prog_13_method_73_code 117 = .ok (.ifCond .eq 13, 3) := by decide +kernel
theorem d_Md_of_120 : decode prog_13_method_73_code 120 = .ok (.aload_n 0, 1) := by decide +kernel
theorem d_Md_of_121 : decode prog_13_method_73_code 121 = .ok (.getfield 35, 3) := by decide +kernel
theorem d_Md_of_124 : decode prog_13_method_73_code 124 = .ok (.iload_n 1, 1) := by decide +kernel
theorem d_Md_of_125 : decode prog_13_method_73_code 125 = .ok (.iaload, 1) := by decide +kernel
theorem d_Md_of_126 : decode prog_13_method_73_code 126 = .ok (.iconst 5, 1) := by decide +kernel
theorem d_Md_of_127 : decode prog_13_method_73_code 127 = .ok (.if_icmp .ne 5, 3) := by decide +kernel
theorem d_Md_of_130 : decode prog_13_method_73_code 130 = .ok (.iconst (-1), 1) := by decide +kernel
theorem d_Md_of_131 : decode prog_13_method_73_code 131 = .ok (.ireturn, 1) := by decide +kernel
theorem d_Md_of_132 : decode prog_13_method_73_code 132 = .ok (.aload_n 0, 1) := by decide +kernel
theorem d_Md_of_133 : decode prog_13_method_73_code 133 = .ok (.iload_n 1, 1) := by decide +kernel
theorem d_Md_of_134 : decode prog_13_method_73_code 134 = .ok (.invokevirtual 314, 3) := by decide +kernel
theorem d_Md_of_137 : decode prog_13_method_73_code 137 = .ok (.iconst (-1), 1) := by decide +kernel
theorem d_Md_of_138 : decode prog_13_method_73_code 138 = .ok (.if_icmp .eq 7, 3) := by decide +kernel
theorem d_Md_of_141 : decode prog_13_method_73_code 141 = .ok (.iconst 4, 1) := by decide +kernel
theorem d_Md_of_142 : decode prog_13_method_73_code 142 = .ok (.goto 14, 3) := by decide +kernel
theorem d_Md_of_145 : decode prog_13_method_73_code 145 = .ok (.aload_n 0, 1) := by decide +kernel
theorem d_Md_of_146 : decode prog_13_method_73_code 146 = .ok (.aload_n 0, 1) := by decide +kernel
theorem d_Md_of_147 : decode prog_13_method_73_code 147 = .ok (.getfield 29, 3) := by decide +kernel
theorem d_Md_of_150 : decode prog_13_method_73_code 150 = .ok (.iload_n 1, 1) := by decide +kernel
theorem d_Md_of_151 : decode prog_13_method_73_code 151 = .ok (.iaload, 1) := by decide +kernel
theorem d_Md_of_152 : decode prog_13_method_73_code 152 = .ok (.iconst 0, 1) := by decide +kernel
theorem d_Md_of_153 : decode prog_13_method_73_code 153 = .ok (.invokevirtual 308, 3) := by decide +kernel
theorem d_Md_of_156 : decode prog_13_method_73_code 156 = .ok (.ireturn, 1) := by decide +kernel
theorem mb_Md_yieldedTo : MBv R_Md y_Md_yieldedTo prog_13_method_72_code 3 (some .int) 1 := ⟨mT9 236 (by decide +kernel) (by decide +kernel), mTs 68 (by decide +kernel) (by decide +kernel), mT1 10 (by decide +kernel) (by decide +kernel), mT9 237 (by decide +kernel) (by decide +kernel), by decide, rfl, by decide +kernel, by decide +kernel, by decide +kernel⟩
theorem lk_Md_314 : Cond.methodLink "FeastBookModel" 314 y_Md_yieldedTo ∈ TT := mT9 234 (by decide +kernel) (by decide +kernel)
set_option maxHeartbeats 4000000 in
set_option maxRecDepth 100000 in
theorem c_Md_of {l : Launch} {D : va_G} {ad : Nat → Nat} {cA : Nat → ClassId} {sd sv : Nat → Nat} {h : Hp} {N : Nat} {a1 a2 a3 : Int} {out : (Int × Hp)} (hI : Inj97 ad) (hM : M_Md_of N h a1 a2 a3 = some out) : Met l y_Md_of (.code y_Md_of prog_13_method_73_code 4 (some .int) :: TT) (rmD 8) (PC D ad cA sd sv h [.ref (ad 83), .int (iZ a1), .int (iZ a2), .int (iZ a3)]) (QI D ad cA out) 0 0 (FA ad) := by
  unfold M_Md_of at hM
  refine entM (by decide +kernel) hI (Nat.le_of_ble_eq_true rfl) ?_
  intro p e s m args below meth c C hr hlk hP ls hl
  have C : Cx p s m args c prog_13_method_73_code 4 "FeastBookModel" D ad cA sd sv (FA ad) := C
  have hl : lv_has ls 4 [(0, .ref (ad 83)), (1, .int (iZ a1)), (2, .int (iZ a2)), (3, .int (iZ a3))] := hl
  have w : Wd s D ad cA (FA ad) h s.heap [] := ⟨hP, va_S.rf⟩
  refine m_aload_n C hl 0 d_Md_of_0 rfl rfl ?_
  refine m_aload_n C hl 0 d_Md_of_1 rfl rfl ?_
  refine m_iload_n C hl 1 d_Md_of_2 rfl rfl ?_
  obtain ⟨x2, e1, hM⟩ := bnd_some hM
  refine aftR (runV C w.1 w.2 kc_Md sh_83 (Nat.le_of_ble_eq_true rfl) (c_Md_isFeast hI e1) lk_Md_311 mb_Md_isFeast rfl ⟨Nat.le_of_ble_eq_true rfl, Nat.le_of_ble_eq_true rfl⟩ ⟨Nat.zero_le _, Nat.zero_le _⟩ (Nat.le_of_ble_eq_true rfl) d_Md_of_3 hl.1 (rest := [.ref (ad 83)]) rfl) ?_
  refine lt_join hM (fun j7 ej hM => ?_)
  have hJ7 : ∀ (s0_7 : Int), j7 s0_7 = some out → ∀ ls : Array Slot, lv_has ls 4 [(0, .ref (ad 83)), (1, .int (iZ a1)), (2, .int (iZ a2)), (3, .int (iZ a3))] → W p l e (rmD 8) s m args below meth c s.heap [] 0 0 (MQ below (QI D ad cA out) args s 0 0 (FA ad)) (F0 m 35 ls [.int (iZ s0_7), .ref (ad 83)]) := by
    intro s0_7 hM ls hl
    subst ej
    dsimp only at hM
    refine m_puti C w kc_Md sh_83 (Nat.le_of_ble_eq_true rfl) 0 hM rfl (by decide) rfl rfl fk_Md_51 d_Md_of_35 (fun h8 H locs w hM => ?_)
    refine m_aload_n C hl 0 d_Md_of_38 rfl rfl ?_
    refine m_geti C w.1 kc_Md sh_83 (Nat.le_of_ble_eq_true rfl) 0 rfl (by decide) fk_Md_51 d_Md_of_39 ?_
    refine m_if_le C hM 47 d_Md_of_42 (by decide) (fun hM => ?_) (fun hM => ?_)
    · refine m_aload_n C hl 0 d_Md_of_47 rfl rfl ?_
      refine m_iload_n C hl 2 d_Md_of_48 rfl rfl ?_
      obtain ⟨h10, e9, hM⟩ := bnd_some hM
      refine aftV C w (runV C w.1 w.2 kc_Md sh_83 (Nat.le_of_ble_eq_true rfl) (c_Md_resolves hI e9) lk_Md_283 mb_Md_resolves rfl ⟨Nat.le_of_ble_eq_true rfl, Nat.le_of_ble_eq_true rfl⟩ ⟨Nat.zero_le _, Nat.zero_le _⟩ (Nat.le_of_ble_eq_true rfl) d_Md_of_49 hl.1 (rest := []) rfl) (fun H locs w => ?_)
      refine m_iload_n C hl 3 d_Md_of_52 rfl rfl ?_
      refine m_swc 0 hM (fun ek hM => ?_) (fun hn0 hM => ?_)
      · refine lv_tableIn C.1 C.2.1 d_Md_of_53 (tgt := 84) (off := 31) (by rw [ek]; decide) (by rw [ek]; decide) (by rw [ek]; rfl) (by decide) ?_
        refine m_aload_n C hl 0 d_Md_of_84 rfl rfl ?_
        refine m_getr C w.1 kc_Md sh_83 (Nat.le_of_ble_eq_true rfl) 16 89 rfl (by decide) fk_Md_29 d_Md_of_85 ?_
        refine m_iload_n C hl 1 d_Md_of_88 rfl rfl ?_
        refine m_iald C w.1 sh_89 (Nat.le_of_ble_eq_true rfl) (Nat.le_of_ble_eq_true rfl) hM d_Md_of_89 (fun x11 hM => ?_)
        exact m_iretW C w hr hlk hM d_Md_of_90
      · refine m_swc 1 hM (fun ek hM => ?_) (fun hn1 hM => ?_)
        · refine lv_tableIn C.1 C.2.1 d_Md_of_53 (tgt := 91) (off := 38) (by rw [ek]; decide) (by rw [ek]; decide) (by rw [ek]; rfl) (by decide) ?_
          refine m_aload_n C hl 0 d_Md_of_91 rfl rfl ?_
          refine m_getr C w.1 kc_Md sh_83 (Nat.le_of_ble_eq_true rfl) 17 90 rfl (by decide) fk_Md_32 d_Md_of_92 ?_
          refine m_iload_n C hl 1 d_Md_of_95 rfl rfl ?_
          refine m_iald C w.1 sh_90 (Nat.le_of_ble_eq_true rfl) (Nat.le_of_ble_eq_true rfl) hM d_Md_of_96 (fun x12 hM => ?_)
          exact m_iretW C w hr hlk hM d_Md_of_97
        · refine m_swc 2 hM (fun ek hM => ?_) (fun hn2 hM => ?_)
          · refine lv_tableIn C.1 C.2.1 d_Md_of_53 (tgt := 98) (off := 45) (by rw [ek]; decide) (by rw [ek]; decide) (by rw [ek]; rfl) (by decide) ?_
            refine m_aload_n C hl 0 d_Md_of_98 rfl rfl ?_
            refine m_getr C w.1 kc_Md sh_83 (Nat.le_of_ble_eq_true rfl) 18 91 rfl (by decide) fk_Md_35 d_Md_of_99 ?_
            refine m_iload_n C hl 1 d_Md_of_102 rfl rfl ?_
            refine m_iald C w.1 sh_91 (Nat.le_of_ble_eq_true rfl) (Nat.le_of_ble_eq_true rfl) hM d_Md_of_103 (fun x13 hM => ?_)
            exact m_iretW C w hr hlk hM d_Md_of_104
          · refine m_swc 3 hM (fun ek hM => ?_) (fun hn3 hM => ?_)
            · refine lv_tableIn C.1 C.2.1 d_Md_of_53 (tgt := 105) (off := 52) (by rw [ek]; decide) (by rw [ek]; decide) (by rw [ek]; rfl) (by decide) ?_
              refine m_aload_n C hl 0 d_Md_of_105 rfl rfl ?_
              refine m_iload_n C hl 1 d_Md_of_106 rfl rfl ?_
              obtain ⟨x15, e14, hM⟩ := bnd_some hM
              refine aftR (runV C w.1 w.2 kc_Md sh_83 (Nat.le_of_ble_eq_true rfl) (c_Md_yieldedTo hI e14) lk_Md_314 mb_Md_yieldedTo rfl ⟨Nat.le_of_ble_eq_true rfl, Nat.le_of_ble_eq_true rfl⟩ ⟨Nat.zero_le _, Nat.zero_le _⟩ (Nat.le_of_ble_eq_true rfl) d_Md_of_107 hl.1 (rest := []) rfl) ?_
              exact m_iretW C w hr hlk hM d_Md_of_110
            · refine lv_tableOut C.1 C.2.1 d_Md_of_53 (tgt := 111) ?_ (by decide) ?_
              · have g0 := lv_neT hn0 (show (iZ 0).toInt = 0 from rfl); have g1 := lv_neT hn1 (show (iZ 1).toInt = 1 from rfl); have g2 := lv_neT hn2 (show (iZ 2).toInt = 2 from rfl); have g3 := lv_neT hn3 (show (iZ 3).toInt = 3 from rfl); omega
              · refine m_aload_n C hl 0 d_Md_of_111 rfl rfl ?_
                refine m_getr C w.1 kc_Md sh_83 (Nat.le_of_ble_eq_true rfl) 18 91 rfl (by decide) fk_Md_35 d_Md_of_112 ?_
                refine m_iload_n C hl 1 d_Md_of_115 rfl rfl ?_
                refine m_iald C w.1 sh_91 (Nat.le_of_ble_eq_true rfl) (Nat.le_of_ble_eq_true rfl) hM d_Md_of_116 (fun x16 hM => ?_)
                refine m_if_eq C hM 130 d_Md_of_117 (by decide) (fun hM => ?_) (fun hM => ?_)
                · refine m_iconst C d_Md_of_130 ?_
                  exact m_iretW C w hr hlk hM d_Md_of_131
                · refine m_aload_n C hl 0 d_Md_of_120 rfl rfl ?_
                  refine m_getr C w.1 kc_Md sh_83 (Nat.le_of_ble_eq_true rfl) 18 91 rfl (by decide) fk_Md_35 d_Md_of_121 ?_
                  refine m_iload_n C hl 1 d_Md_of_124 rfl rfl ?_
                  refine m_iald C w.1 sh_91 (Nat.le_of_ble_eq_true rfl) (Nat.le_of_ble_eq_true rfl) hM d_Md_of_125 (fun x17 hM => ?_)
                  refine m_iconst C d_Md_of_126 ?_
                  refine m_icmp_ne C hM 132 d_Md_of_127 (by decide) (fun hM => ?_) (fun hM => ?_)
                  · refine m_aload_n C hl 0 d_Md_of_132 rfl rfl ?_
                    refine m_iload_n C hl 1 d_Md_of_133 rfl rfl ?_
                    obtain ⟨x19, e18, hM⟩ := bnd_some hM
                    refine aftR (runV C w.1 w.2 kc_Md sh_83 (Nat.le_of_ble_eq_true rfl) (c_Md_yieldedTo hI e18) lk_Md_314 mb_Md_yieldedTo rfl ⟨Nat.le_of_ble_eq_true rfl, Nat.le_of_ble_eq_true rfl⟩ ⟨Nat.zero_le _, Nat.zero_le _⟩ (Nat.le_of_ble_eq_true rfl) d_Md_of_134 hl.1 (rest := []) rfl) ?_
                    refine m_iconst C d_Md_of_137 ?_
                    refine m_icmp_eq C hM 145 d_Md_of_138 (by decide) (fun hM => ?_) (fun hM => ?_)
                    · refine m_aload_n C hl 0 d_Md_of_145 rfl rfl ?_
                      refine m_aload_n C hl 0 d_Md_of_146 rfl rfl ?_
                      refine m_getr C w.1 kc_Md sh_83 (Nat.le_of_ble_eq_true rfl) 16 89 rfl (by decide) fk_Md_29 d_Md_of_147 ?_
                      refine m_iload_n C hl 1 d_Md_of_150 rfl rfl ?_
                      refine m_iald C w.1 sh_89 (Nat.le_of_ble_eq_true rfl) (Nat.le_of_ble_eq_true rfl) hM d_Md_of_151 (fun x20 hM => ?_)
                      refine m_iconst C d_Md_of_152 ?_
                      obtain ⟨q22, e21, hM⟩ := bnd_some hM
                      refine aftI C w (runV C w.1 w.2 kc_Md sh_83 (Nat.le_of_ble_eq_true rfl) (c_Md_baseOf hI e21) lk_Md_308 mb_Md_baseOf rfl ⟨Nat.le_of_ble_eq_true rfl, Nat.le_of_ble_eq_true rfl⟩ ⟨Nat.zero_le _, Nat.zero_le _⟩ (Nat.le_of_ble_eq_true rfl) d_Md_of_153 hl.1 (rest := []) rfl) (fun H locs w => ?_)
                      exact m_iretW C w hr hlk hM d_Md_of_156
                    · refine m_iconst C d_Md_of_141 ?_
                      refine m_goto C 156 d_Md_of_142 (by decide) ?_
                      exact m_iretW C w hr hlk hM d_Md_of_156
                  · refine m_iconst C d_Md_of_130 ?_
                    exact m_iretW C w hr hlk hM d_Md_of_131
    · refine m_iconst C d_Md_of_45 ?_
      exact m_iretW C w hr hlk hM d_Md_of_46
  refine m_if_eq C hM 17 d_Md_of_6 (by decide) (fun hM => ?_) (fun hM => ?_)
  · refine m_iconst C d_Md_of_17 ?_
    refine m_goto C 35 d_Md_of_18 (by decide) ?_
    exact hJ7 1 hM _ hl
  · refine m_aload_n C hl 0 d_Md_of_9 rfl rfl ?_
    refine m_iload_n C hl 2 d_Md_of_10 rfl rfl ?_
    obtain ⟨x24, e23, hM⟩ := bnd_some hM
    refine aftR (runV C w.1 w.2 kc_Md sh_83 (Nat.le_of_ble_eq_true rfl) (c_Md_isYear hI e23) lk_Md_280 mb_Md_isYear rfl ⟨Nat.le_of_ble_eq_true rfl, Nat.le_of_ble_eq_true rfl⟩ ⟨Nat.zero_le _, Nat.zero_le _⟩ (Nat.le_of_ble_eq_true rfl) d_Md_of_11 hl.1 (rest := [.ref (ad 83)]) rfl) ?_
    refine m_if_ne C hM 21 d_Md_of_14 (by decide) (fun hM => ?_) (fun hM => ?_)
    · refine m_iload_n C hl 3 d_Md_of_21 rfl rfl ?_
      refine m_iconst C d_Md_of_22 ?_
      refine m_iconst C d_Md_of_23 ?_
      obtain ⟨x26, e25, hM⟩ := bnd_some hM
      refine aftR (runS C w.1 w.2 (c_Md_isIn hI e25) lk_Md_54 mb_Md_isIn rfl ⟨Nat.le_of_ble_eq_true rfl, Nat.le_of_ble_eq_true rfl⟩ ⟨Nat.zero_le _, Nat.zero_le _⟩ (Nat.le_of_ble_eq_true rfl) d_Md_of_24 hl.1 (rest := [.ref (ad 83)]) rfl) ?_
      refine m_if_ne C hM 34 d_Md_of_27 (by decide) (fun hM => ?_) (fun hM => ?_)
      · refine m_iconst C d_Md_of_34 ?_
        exact hJ7 0 hM _ hl
      · refine m_iconst C d_Md_of_30 ?_
        refine m_goto C 35 d_Md_of_31 (by decide) ?_
        exact hJ7 2 hM _ hl
    · refine m_iconst C d_Md_of_17 ?_
      refine m_goto C 35 d_Md_of_18 (by decide) ?_
      exact hJ7 1 hM _ hl
def y_Md_remembers : MethodName := ⟨"FeastBookModel", "remembers", "()V"⟩
theorem d_Md_remembers_0 : decode prog_13_method_74_code 0 = .ok (.aload_n 0, 1) := by decide +kernel
theorem d_Md_remembers_1 : decode prog_13_method_74_code 1 = .ok (.getfield 268, 3) := by decide +kernel
theorem d_Md_remembers_4 : decode prog_13_method_74_code 4 = .ok (.bipush 8, 2) := by decide +kernel
theorem d_Md_remembers_6 : decode prog_13_method_74_code 6 = .ok (.if_icmp .ne 43, 3) := by decide +kernel
theorem d_Md_remembers_9 : decode prog_13_method_74_code 9 = .ok (.iconst 0, 1) := by decide +kernel
theorem d_Md_remembers_10 : decode prog_13_method_74_code 10 = .ok (.istore_n 1, 1) := by decide +kernel
theorem d_Md_remembers_11 : decode prog_13_method_74_code 11 = .ok (.iload_n 1, 1) := by decide +kernel
theorem d_Md_remembers_12 : decode prog_13_method_74_code 12 = .ok (.sipush 889, 3) := by decide +kernel
theorem d_Md_remembers_15 : decode prog_13_method_74_code 15 = .ok (.if_icmp .ge 24, 3) := by decide +kernel
theorem d_Md_remembers_18 : decode prog_13_method_74_code 18 = .ok (.aload_n 0, 1) := by decide +kernel
theorem d_Md_remembers_19 : decode prog_13_method_74_code 19 = .ok (.getfield 13, 3) := by decide +kernel
theorem d_Md_remembers_22 : decode prog_13_method_74_code 22 = .ok (.iload_n 1, 1) := by decide +kernel
theorem d_Md_remembers_23 : decode prog_13_method_74_code 23 = .ok (.aload_n 0, 1) := by decide +kernel
theorem d_Md_remembers_24 : decode prog_13_method_74_code 24 = .ok (.getfield 13, 3) := by decide +kernel
theorem d_Md_remembers_27 : decode prog_13_method_74_code 27 = .ok (.iload_n 1, 1) := by decide +kernel
theorem d_Md_remembers_28 : decode prog_13_method_74_code 28 = .ok (.bipush 127, 2) := by decide +kernel
theorem d_Md_remembers_30 : decode prog_13_method_74_code 30 = .ok (.iadd, 1) := by decide +kernel
theorem d_Md_remembers_31 : decode prog_13_method_74_code 31 = .ok (.iaload, 1) := by decide +kernel
theorem d_Md_remembers_32 : decode prog_13_method_74_code 32 = .ok (.iastore, 1) := by decide +kernel
theorem d_Md_remembers_33 : decode prog_13_method_74_code 33 = .ok (.iinc 1 1, 3) := by decide +kernel
theorem d_Md_remembers_36 : decode prog_13_method_74_code 36 = .ok (.goto (-25), 3) := by decide +kernel
theorem d_Md_remembers_39 : decode prog_13_method_74_code 39 = .ok (.aload_n 0, 1) := by decide +kernel
theorem d_Md_remembers_40 : decode prog_13_method_74_code 40 = .ok (.dup, 1) := by decide +kernel
theorem d_Md_remembers_41 : decode prog_13_method_74_code 41 = .ok (.getfield 268, 3) := by decide +kernel
theorem d_Md_remembers_44 : decode prog_13_method_74_code 44 = .ok (.iconst 1, 1) := by decide +kernel
theorem d_Md_remembers_45 : decode prog_13_method_74_code 45 = .ok (.isub, 1) := by decide +kernel
theorem d_Md_remembers_46 : decode prog_13_method_74_code 46 = .ok (.putfield 268, 3) := by decide +kernel
theorem d_Md_remembers_49 : decode prog_13_method_74_code 49 = .ok (.iconst 0, 1) := by decide +kernel
theorem d_Md_remembers_50 : decode prog_13_method_74_code 50 = .ok (.istore_n 1, 1) := by decide +kernel
theorem d_Md_remembers_51 : decode prog_13_method_74_code 51 = .ok (.iload_n 1, 1) := by decide +kernel
theorem d_Md_remembers_52 : decode prog_13_method_74_code 52 = .ok (.bipush 127, 2) := by decide +kernel
theorem d_Md_remembers_54 : decode prog_13_method_74_code 54 = .ok (.if_icmp .ge 29, 3) := by decide +kernel
theorem d_Md_remembers_57 : decode prog_13_method_74_code 57 = .ok (.aload_n 0, 1) := by decide +kernel
theorem d_Md_remembers_58 : decode prog_13_method_74_code 58 = .ok (.getfield 13, 3) := by decide +kernel
theorem d_Md_remembers_61 : decode prog_13_method_74_code 61 = .ok (.bipush 127, 2) := by decide +kernel
theorem d_Md_remembers_63 : decode prog_13_method_74_code 63 = .ok (.aload_n 0, 1) := by decide +kernel
theorem d_Md_remembers_64 : decode prog_13_method_74_code 64 = .ok (.getfield 268, 3) := by decide +kernel
theorem d_Md_remembers_67 : decode prog_13_method_74_code 67 = .ok (.imul, 1) := by decide +kernel
theorem d_Md_remembers_68 : decode prog_13_method_74_code 68 = .ok (.iload_n 1, 1) := by decide +kernel
theorem d_Md_remembers_69 : decode prog_13_method_74_code 69 = .ok (.iadd, 1) := by decide +kernel
theorem d_Md_remembers_70 : decode prog_13_method_74_code 70 = .ok (.aload_n 0, 1) := by decide +kernel
theorem d_Md_remembers_71 : decode prog_13_method_74_code 71 = .ok (.getfield 7, 3) := by decide +kernel
theorem d_Md_remembers_74 : decode prog_13_method_74_code 74 = .ok (.iload_n 1, 1) := by decide +kernel
theorem d_Md_remembers_75 : decode prog_13_method_74_code 75 = .ok (.iaload, 1) := by decide +kernel
theorem d_Md_remembers_76 : decode prog_13_method_74_code 76 = .ok (.iastore, 1) := by decide +kernel
theorem d_Md_remembers_77 : decode prog_13_method_74_code 77 = .ok (.iinc 1 1, 3) := by decide +kernel
theorem d_Md_remembers_80 : decode prog_13_method_74_code 80 = .ok (.goto (-29), 3) := by decide +kernel
theorem d_Md_remembers_83 : decode prog_13_method_74_code 83 = .ok (.aload_n 0, 1) := by decide +kernel
theorem d_Md_remembers_84 : decode prog_13_method_74_code 84 = .ok (.dup, 1) := by decide +kernel
theorem d_Md_remembers_85 : decode prog_13_method_74_code 85 = .ok (.getfield 268, 3) := by decide +kernel
theorem d_Md_remembers_88 : decode prog_13_method_74_code 88 = .ok (.iconst 1, 1) := by decide +kernel
theorem d_Md_remembers_89 : decode prog_13_method_74_code 89 = .ok (.iadd, 1) := by decide +kernel
theorem d_Md_remembers_90 : decode prog_13_method_74_code 90 = .ok (.putfield 268, 3) := by decide +kernel
theorem d_Md_remembers_93 : decode prog_13_method_74_code 93 = .ok (.return_, 1) := by decide +kernel
theorem fk_Md_13 : Cond.fieldLink "FeastBookModel" 13 (T_Md 2).1 (T_Md 2).2.1 (T_Md 2).2.2.1 ∈ TT := mT8 98 (by decide +kernel) (by decide +kernel)
set_option maxHeartbeats 4000000 in
set_option maxRecDepth 100000 in
theorem w_Md_remembers_L11 {p : Program} {l : Launch} {e : Env} {s : State} {m : MethodId} {args : Array Value} {below : List Frame} {meth : Method} {c : Code} {D : va_G} {ad : Nat → Nat} {cA : Nat → ClassId} {sd sv : Nat → Nat} {out : Hp} (N : Nat) (hI : Inj97 ad) (C : Cx p s m args c prog_13_method_74_code 2 "FeastBookModel" D ad cA sd sv (FA ad)) (hr : meth.sig.returnType = none) (hlk : meth.locks = false) (k : Int → Hp → Option Hp) (kW : ∀ (v1 : Int) (h : Hp), k v1 h = some out → ∀ (H : Heap) (locs : List Loc), Wd s D ad cA (FA ad) h H locs → ∀ ls : Array Slot, lv_has ls 2 [(0, .ref (ad 83)), (1, .int (iZ v1))] → W p l e (rmD 0) s m args below meth c H locs 0 0 (MQ below (QV D ad cA out) args s 0 0 (FA ad)) (F0 m 39 ls [])) : ∀ (n : Nat) (v1 : Int) (h : Hp) (H : Heap) (locs : List Loc), Wd s D ad cA (FA ad) h H locs → ∀ ls : Array Slot, lv_has ls 2 [(0, .ref (ad 83)), (1, .int (iZ v1))] → Md_remembers_L11 N k n v1 h = some out → W p l e (rmD 0) s m args below meth c H locs 0 0 (MQ below (QV D ad cA out) args s 0 0 (FA ad)) (F0 m 11 ls []) := by
  intro n
  induction n with
  | zero =>
    intro v1 h H locs w ls hl hM
    rw [Md_remembers_L11] at hM
    cases hM
  | succ n ih =>
    intro v1 h H locs w ls hl hM
    rw [Md_remembers_L11] at hM
    refine m_iload_n C hl 1 d_Md_remembers_11 rfl rfl ?_
    refine m_sipush C d_Md_remembers_12 (by decide) ?_
    refine m_icmp_ge C hM 39 d_Md_remembers_15 (by decide) (fun hM => ?_) (fun hM => ?_)
    · exact kW v1 h hM _ _ w _ hl
    · refine m_aload_n C hl 0 d_Md_remembers_18 rfl rfl ?_
      refine m_getr C w.1 kc_Md sh_83 (Nat.le_of_ble_eq_true rfl) 2 85 rfl (by decide) fk_Md_13 d_Md_remembers_19 ?_
      refine m_iload_n C hl 1 d_Md_remembers_22 rfl rfl ?_
      refine m_aload_n C hl 0 d_Md_remembers_23 rfl rfl ?_
      refine m_getr C w.1 kc_Md sh_83 (Nat.le_of_ble_eq_true rfl) 2 85 rfl (by decide) fk_Md_13 d_Md_remembers_24 ?_
      refine m_iload_n C hl 1 d_Md_remembers_27 rfl rfl ?_
      refine m_bipush C d_Md_remembers_28 (by decide) ?_
      refine m_iadd C d_Md_remembers_30 ?_
      refine m_iald C w.1 sh_85 (Nat.le_of_ble_eq_true rfl) (Nat.le_of_ble_eq_true rfl) hM d_Md_remembers_31 (fun x9 hM => ?_)
      refine m_iast C w sh_85 (Nat.le_of_ble_eq_true rfl) (Nat.le_of_ble_eq_true rfl) hM d_Md_remembers_32 (fun h10 H locs w hM => ?_)
      refine m_iinc C hl 1 [(1, .int (iZ (v1 + 1))), (0, .ref (ad 83))] d_Md_remembers_33 rfl (by decide) rfl (fun ls hl => ?_)
      refine m_goto C 11 d_Md_remembers_36 (by decide) ?_
      exact ih (v1 + 1) h10 _ _ w _ (lv_sub hl [1, 0] rfl) hM
set_option maxHeartbeats 4000000 in
set_option maxRecDepth 100000 in
theorem w_Md_remembers_L51 {p : Program} {l : Launch} {e : Env} {s : State} {m : MethodId} {args : Array Value} {below : List Frame} {meth : Method} {c : Code} {D : va_G} {ad : Nat → Nat} {cA : Nat → ClassId} {sd sv : Nat → Nat} {out : Hp} (N : Nat) (hI : Inj97 ad) (C : Cx p s m args c prog_13_method_74_code 2 "FeastBookModel" D ad cA sd sv (FA ad)) (hr : meth.sig.returnType = none) (hlk : meth.locks = false) : ∀ (n : Nat) (v1 : Int) (h : Hp) (H : Heap) (locs : List Loc), Wd s D ad cA (FA ad) h H locs → ∀ ls : Array Slot, lv_has ls 2 [(0, .ref (ad 83)), (1, .int (iZ v1))] → Md_remembers_L51 N n v1 h = some out → W p l e (rmD 0) s m args below meth c H locs 0 0 (MQ below (QV D ad cA out) args s 0 0 (FA ad)) (F0 m 51 ls []) := by
  intro n
  induction n with
  | zero =>
    intro v1 h H locs w ls hl hM
    rw [Md_remembers_L51] at hM
    cases hM
  | succ n ih =>
    intro v1 h H locs w ls hl hM
    rw [Md_remembers_L51] at hM
    refine m_iload_n C hl 1 d_Md_remembers_51 rfl rfl ?_
    refine m_bipush C d_Md_remembers_52 (by decide) ?_
    refine m_icmp_ge C hM 83 d_Md_remembers_54 (by decide) (fun hM => ?_) (fun hM => ?_)
    · refine m_aload_n C hl 0 d_Md_remembers_83 rfl rfl ?_
      refine m_dup C d_Md_remembers_84 rfl ?_
      refine m_geti C w.1 kc_Md sh_83 (Nat.le_of_ble_eq_true rfl) 3 rfl (by decide) fk_Md_268 d_Md_remembers_85 ?_
      refine m_iconst C d_Md_remembers_88 ?_
      refine m_iadd C d_Md_remembers_89 ?_
      refine m_puti C w kc_Md sh_83 (Nat.le_of_ble_eq_true rfl) 3 hM rfl (by decide) rfl rfl fk_Md_268 d_Md_remembers_90 (fun h6 H locs w hM => ?_)
      exact m_vretW C w hr hlk hM d_Md_remembers_93
    · refine m_aload_n C hl 0 d_Md_remembers_57 rfl rfl ?_
      refine m_getr C w.1 kc_Md sh_83 (Nat.le_of_ble_eq_true rfl) 2 85 rfl (by decide) fk_Md_13 d_Md_remembers_58 ?_
      refine m_bipush C d_Md_remembers_61 (by decide) ?_
      refine m_aload_n C hl 0 d_Md_remembers_63 rfl rfl ?_
      refine m_geti C w.1 kc_Md sh_83 (Nat.le_of_ble_eq_true rfl) 3 rfl (by decide) fk_Md_268 d_Md_remembers_64 ?_
      refine m_imul C d_Md_remembers_67 ?_
      refine m_iload_n C hl 1 d_Md_remembers_68 rfl rfl ?_
      refine m_iadd C d_Md_remembers_69 ?_
      refine m_aload_n C hl 0 d_Md_remembers_70 rfl rfl ?_
      refine m_getr C w.1 kc_Md sh_83 (Nat.le_of_ble_eq_true rfl) 1 84 rfl (by decide) fk_Md_7 d_Md_remembers_71 ?_
      refine m_iload_n C hl 1 d_Md_remembers_74 rfl rfl ?_
      refine m_iald C w.1 sh_84 (Nat.le_of_ble_eq_true rfl) (Nat.le_of_ble_eq_true rfl) hM d_Md_remembers_75 (fun x7 hM => ?_)
      refine m_iast C w sh_85 (Nat.le_of_ble_eq_true rfl) (Nat.le_of_ble_eq_true rfl) hM d_Md_remembers_76 (fun h8 H locs w hM => ?_)
      refine m_iinc C hl 1 [(1, .int (iZ (v1 + 1))), (0, .ref (ad 83))] d_Md_remembers_77 rfl (by decide) rfl (fun ls hl => ?_)
      refine m_goto C 51 d_Md_remembers_80 (by decide) ?_
      exact ih (v1 + 1) h8 _ _ w _ (lv_sub hl [1, 0] rfl) hM
set_option maxHeartbeats 4000000 in
set_option maxRecDepth 100000 in
theorem c_Md_remembers {l : Launch} {D : va_G} {ad : Nat → Nat} {cA : Nat → ClassId} {sd sv : Nat → Nat} {h : Hp} {N : Nat} {out : Hp} (hI : Inj97 ad) (hM : M_Md_remembers N h = some out) : Met l y_Md_remembers (.code y_Md_remembers prog_13_method_74_code 2 none :: TT) (rmD 0) (PC D ad cA sd sv h [.ref (ad 83)]) (QV D ad cA out) 0 0 (FA ad) := by
  unfold M_Md_remembers at hM
  refine entM (by decide +kernel) hI (Nat.le_of_ble_eq_true rfl) ?_
  intro p e s m args below meth c C hr hlk hP ls hl
  have C : Cx p s m args c prog_13_method_74_code 2 "FeastBookModel" D ad cA sd sv (FA ad) := C
  have hl : lv_has ls 2 [(0, .ref (ad 83))] := hl
  have w : Wd s D ad cA (FA ad) h s.heap [] := ⟨hP, va_S.rf⟩
  refine m_aload_n C hl 0 d_Md_remembers_0 rfl rfl ?_
  refine m_geti C w.1 kc_Md sh_83 (Nat.le_of_ble_eq_true rfl) 3 rfl (by decide) fk_Md_268 d_Md_remembers_1 ?_
  refine m_bipush C d_Md_remembers_4 (by decide) ?_
  refine lt_join hM (fun j5 ej hM => ?_)
  have hJ5 : ∀ (h_5 : Hp), j5 h_5 = some out → ∀ (H : Heap) (locs : List Loc), Wd s D ad cA (FA ad) h_5 H locs → ∀ ls : Array Slot, lv_has ls 2 [(0, .ref (ad 83))] → W p l e (rmD 0) s m args below meth c H locs 0 0 (MQ below (QV D ad cA out) args s 0 0 (FA ad)) (F0 m 49 ls []) := by
    intro h_5 hM H locs w ls hl
    subst ej
    dsimp only at hM
    refine m_iconst C d_Md_remembers_49 ?_
    refine m_istore_n C hl [(1, .int (iZ 0)), (0, .ref (ad 83))] d_Md_remembers_50 rfl (by decide) rfl (fun ls hl => ?_)
    exact w_Md_remembers_L51 N hI C hr hlk  _ 0 h_5 _ _ w _ (lv_sub hl [1, 0] rfl) hM
  refine m_icmp_ne C hM 49 d_Md_remembers_6 (by decide) (fun hM => ?_) (fun hM => ?_)
  · exact hJ5 h hM _ _ w _ hl
  · refine m_iconst C d_Md_remembers_9 ?_
    refine m_istore_n C hl [(1, .int (iZ 0)), (0, .ref (ad 83))] d_Md_remembers_10 rfl (by decide) rfl (fun ls hl => ?_)
    refine w_Md_remembers_L11 N hI C hr hlk  _ (fun v1_11 h_11 hM H locs w ls hl => ?_) _ 0 h _ _ w _ (lv_sub hl [1, 0] rfl) hM
    refine m_aload_n C hl 0 d_Md_remembers_39 rfl rfl ?_
    refine m_dup C d_Md_remembers_40 rfl ?_
    refine m_geti C w.1 kc_Md sh_83 (Nat.le_of_ble_eq_true rfl) 3 rfl (by decide) fk_Md_268 d_Md_remembers_41 ?_
    refine m_iconst C d_Md_remembers_44 ?_
    refine m_isub C d_Md_remembers_45 ?_
    refine m_puti C w kc_Md sh_83 (Nat.le_of_ble_eq_true rfl) 3 hM rfl (by decide) rfl rfl fk_Md_268 d_Md_remembers_46 (fun h12 H locs w hM => ?_)
    exact hJ5 h12 hM _ _ w _ (lv_sub hl [0] rfl)
def y_Md_tells : MethodName := ⟨"FeastBookModel", "tells", "(II)I"⟩
theorem d_Md_tells_0 : decode prog_13_method_75_code 0 = .ok (.aload_n 0, 1) := by decide +kernel
theorem d_Md_tells_1 : decode prog_13_method_75_code 1 = .ok (.invokevirtual 317, 3) := by decide +kernel
theorem d_Md_tells_4 : decode prog_13_method_75_code 4 = .ok (.aload_n 0, 1) := by decide +kernel
theorem d_Md_tells_5 : decode prog_13_method_75_code 5 = .ok (.getfield 7, 3) := by decide +kernel
theorem d_Md_tells_8 : decode prog_13_method_75_code 8 = .ok (.iload_n 1, 1) := by decide +kernel
theorem d_Md_tells_9 : decode prog_13_method_75_code 9 = .ok (.iaload, 1) := by decide +kernel
theorem d_Md_tells_10 : decode prog_13_method_75_code 10 = .ok (.istore_n 3, 1) := by decide +kernel
theorem d_Md_tells_11 : decode prog_13_method_75_code 11 = .ok (.aload_n 0, 1) := by decide +kernel
theorem d_Md_tells_12 : decode prog_13_method_75_code 12 = .ok (.getfield 7, 3) := by decide +kernel
theorem d_Md_tells_15 : decode prog_13_method_75_code 15 = .ok (.iload_n 1, 1) := by decide +kernel
theorem d_Md_tells_16 : decode prog_13_method_75_code 16 = .ok (.iload_n 2, 1) := by decide +kernel
theorem d_Md_tells_17 : decode prog_13_method_75_code 17 = .ok (.iastore, 1) := by decide +kernel
theorem d_Md_tells_18 : decode prog_13_method_75_code 18 = .ok (.iload_n 3, 1) := by decide +kernel
theorem d_Md_tells_19 : decode prog_13_method_75_code 19 = .ok (.ireturn, 1) := by decide +kernel
theorem mb_Md_remembers : MBv R_Md y_Md_remembers prog_13_method_74_code 2 none 0 := ⟨mT10 8 (by decide +kernel) (by decide +kernel), mTs 70 (by decide +kernel) (by decide +kernel), mT1 10 (by decide +kernel) (by decide +kernel), mT10 9 (by decide +kernel) (by decide +kernel), by decide, rfl, by decide +kernel, by decide +kernel, by decide +kernel⟩
theorem lk_Md_317 : Cond.methodLink "FeastBookModel" 317 y_Md_remembers ∈ TT := mT10 6 (by decide +kernel) (by decide +kernel)
set_option maxHeartbeats 4000000 in
set_option maxRecDepth 100000 in
theorem c_Md_tells {l : Launch} {D : va_G} {ad : Nat → Nat} {cA : Nat → ClassId} {sd sv : Nat → Nat} {h : Hp} {N : Nat} {a1 a2 : Int} {out : (Int × Hp)} (hI : Inj97 ad) (hM : M_Md_tells N h a1 a2 = some out) : Met l y_Md_tells (.code y_Md_tells prog_13_method_75_code 4 (some .int) :: TT) (rmD 1) (PC D ad cA sd sv h [.ref (ad 83), .int (iZ a1), .int (iZ a2)]) (QI D ad cA out) 0 0 (FA ad) := by
  unfold M_Md_tells at hM
  refine entM (by decide +kernel) hI (Nat.le_of_ble_eq_true rfl) ?_
  intro p e s m args below meth c C hr hlk hP ls hl
  have C : Cx p s m args c prog_13_method_75_code 4 "FeastBookModel" D ad cA sd sv (FA ad) := C
  have hl : lv_has ls 4 [(0, .ref (ad 83)), (1, .int (iZ a1)), (2, .int (iZ a2))] := hl
  have w : Wd s D ad cA (FA ad) h s.heap [] := ⟨hP, va_S.rf⟩
  refine m_aload_n C hl 0 d_Md_tells_0 rfl rfl ?_
  obtain ⟨h2, e1, hM⟩ := bnd_some hM
  refine aftV C w (runV C w.1 w.2 kc_Md sh_83 (Nat.le_of_ble_eq_true rfl) (c_Md_remembers hI e1) lk_Md_317 mb_Md_remembers rfl ⟨Nat.le_of_ble_eq_true rfl, Nat.le_of_ble_eq_true rfl⟩ ⟨Nat.zero_le _, Nat.zero_le _⟩ (Nat.le_of_ble_eq_true rfl) d_Md_tells_1 hl.1 (rest := []) rfl) (fun H locs w => ?_)
  refine m_aload_n C hl 0 d_Md_tells_4 rfl rfl ?_
  refine m_getr C w.1 kc_Md sh_83 (Nat.le_of_ble_eq_true rfl) 1 84 rfl (by decide) fk_Md_7 d_Md_tells_5 ?_
  refine m_iload_n C hl 1 d_Md_tells_8 rfl rfl ?_
  refine m_iald C w.1 sh_84 (Nat.le_of_ble_eq_true rfl) (Nat.le_of_ble_eq_true rfl) hM d_Md_tells_9 (fun x3 hM => ?_)
  refine m_istore_n C hl [(3, .int (iZ x3)), (0, .ref (ad 83)), (1, .int (iZ a1)), (2, .int (iZ a2))] d_Md_tells_10 rfl (by decide) rfl (fun ls hl => ?_)
  refine m_aload_n C hl 1 d_Md_tells_11 rfl rfl ?_
  refine m_getr C w.1 kc_Md sh_83 (Nat.le_of_ble_eq_true rfl) 1 84 rfl (by decide) fk_Md_7 d_Md_tells_12 ?_
  refine m_iload_n C hl 2 d_Md_tells_15 rfl rfl ?_
  refine m_iload_n C hl 3 d_Md_tells_16 rfl rfl ?_
  refine m_iast C w sh_84 (Nat.le_of_ble_eq_true rfl) (Nat.le_of_ble_eq_true rfl) hM d_Md_tells_17 (fun h4 H locs w hM => ?_)
  refine m_iload_n C hl 0 d_Md_tells_18 rfl rfl ?_
  exact m_iretW C w hr hlk hM d_Md_tells_19
def y_Md_rank : MethodName := ⟨"FeastBookModel", "rank", "(II)I"⟩
theorem d_Md_rank_0 : decode prog_13_method_76_code 0 = .ok (.aload_n 0, 1) := by decide +kernel
theorem d_Md_rank_1 : decode prog_13_method_76_code 1 = .ok (.aload_n 0, 1) := by decide +kernel
theorem d_Md_rank_2 : decode prog_13_method_76_code 2 = .ok (.iload_n 1, 1) := by decide +kernel
theorem d_Md_rank_3 : decode prog_13_method_76_code 3 = .ok (.invokevirtual 311, 3) := by decide +kernel
theorem d_Md_rank_6 : decode prog_13_method_76_code 6 = .ok (.ifCond .ne 7, 3) := by decide +kernel
theorem d_Md_rank_9 : decode prog_13_method_76_code 9 = .ok (.iconst 1, 1) := by decide +kernel
theorem d_Md_rank_10 : decode prog_13_method_76_code 10 = .ok (.goto 18, 3) := by decide +kernel
theorem d_Md_rank_13 : decode prog_13_method_76_code 13 = .ok (.iload_n 2, 1) := by decide +kernel
theorem d_Md_rank_14 : decode prog_13_method_76_code 14 = .ok (.iconst 1, 1) := by decide +kernel
theorem d_Md_rank_15 : decode prog_13_method_76_code 15 = .ok (.bipush 9, 2) := by decide +kernel
theorem d_Md_rank_17 : decode prog_13_method_76_code 17 = .ok (.invokestatic 54, 3) := by decide +kernel
theorem d_Md_rank_20 : decode prog_13_method_76_code 20 = .ok (.ifCond .ne 7, 3) := by decide +kernel
theorem d_Md_rank_23 : decode prog_13_method_76_code 23 = .ok (.iconst 2, 1) := by decide +kernel
theorem d_Md_rank_24 : decode prog_13_method_76_code 24 = .ok (.goto 4, 3) := by decide +kernel
theorem d_Md_rank_27 : decode prog_13_method_76_code 27 = .ok (.iconst 0, 1) := by decide +kernel
theorem d_Md_rank_28 : decode prog_13_method_76_code 28 = .ok (.putfield 51, 3) := by decide +kernel
theorem d_Md_rank_31 : decode prog_13_method_76_code 31 = .ok (.aload_n 0, 1) := by decide +kernel
theorem d_Md_rank_32 : decode prog_13_method_76_code 32 = .ok (.getfield 51, 3) := by decide +kernel
theorem d_Md_rank_35 : decode prog_13_method_76_code 35 = .ok (.ifCond .le 7, 3) := by decide +kernel
theorem d_Md_rank_38 : decode prog_13_method_76_code 38 = .ok (.iconst 0, 1) := by decide +kernel
theorem d_Md_rank_39 : decode prog_13_method_76_code 39 = .ok (.goto 17, 3) := by decide +kernel
theorem d_Md_rank_42 : decode prog_13_method_76_code 42 = .ok (.aload_n 0, 1) := by decide +kernel
theorem d_Md_rank_43 : decode prog_13_method_76_code 43 = .ok (.bipush 43, 2) := by decide +kernel
theorem d_Md_rank_45 : decode prog_13_method_76_code 45 = .ok (.bipush 7, 2) := by decide +kernel
theorem d_Md_rank_47 : decode prog_13_method_76_code 47 = .ok (.iload_n 1, 1) := by decide +kernel
theorem d_Md_rank_48 : decode prog_13_method_76_code 48 = .ok (.imul, 1) := by decide +kernel
theorem d_Md_rank_49 : decode prog_13_method_76_code 49 = .ok (.iadd, 1) := by decide +kernel
theorem d_Md_rank_50 : decode prog_13_method_76_code 50 = .ok (.iconst 0, 1) := by decide +kernel
theorem d_Md_rank_51 : decode prog_13_method_76_code 51 = .ok (.iadd, 1) := by decide +kernel
theorem d_Md_rank_52 : decode prog_13_method_76_code 52 = .ok (.iload_n 2, 1) := by decide +kernel
theorem d_Md_rank_53 : decode prog_13_method_76_code 53 = .ok (.invokevirtual 320, 3) := by decide +kernel
theorem d_Md_rank_56 : decode prog_13_method_76_code 56 = .ok (.ireturn, 1) := by decide +kernel
theorem mb_Md_tells : MBv R_Md y_Md_tells prog_13_method_75_code 4 (some .int) 2 := ⟨mT10 4 (by decide +kernel) (by decide +kernel), mTs 69 (by decide +kernel) (by decide +kernel), mT1 10 (by decide +kernel) (by decide +kernel), mT10 5 (by decide +kernel) (by decide +kernel), by decide, rfl, by decide +kernel, by decide +kernel, by decide +kernel⟩
theorem lk_Md_320 : Cond.methodLink "FeastBookModel" 320 y_Md_tells ∈ TT := mT10 2 (by decide +kernel) (by decide +kernel)
set_option maxHeartbeats 4000000 in
set_option maxRecDepth 100000 in
theorem c_Md_rank {l : Launch} {D : va_G} {ad : Nat → Nat} {cA : Nat → ClassId} {sd sv : Nat → Nat} {h : Hp} {N : Nat} {a1 a2 : Int} {out : (Int × Hp)} (hI : Inj97 ad) (hM : M_Md_rank N h a1 a2 = some out) : Met l y_Md_rank (.code y_Md_rank prog_13_method_76_code 3 (some .int) :: TT) (rmD 2) (PC D ad cA sd sv h [.ref (ad 83), .int (iZ a1), .int (iZ a2)]) (QI D ad cA out) 0 0 (FA ad) := by
  unfold M_Md_rank at hM
  refine entM (by decide +kernel) hI (Nat.le_of_ble_eq_true rfl) ?_
  intro p e s m args below meth c C hr hlk hP ls hl
  have C : Cx p s m args c prog_13_method_76_code 3 "FeastBookModel" D ad cA sd sv (FA ad) := C
  have hl : lv_has ls 3 [(0, .ref (ad 83)), (1, .int (iZ a1)), (2, .int (iZ a2))] := hl
  have w : Wd s D ad cA (FA ad) h s.heap [] := ⟨hP, va_S.rf⟩
  refine m_aload_n C hl 0 d_Md_rank_0 rfl rfl ?_
  refine m_aload_n C hl 0 d_Md_rank_1 rfl rfl ?_
  refine m_iload_n C hl 1 d_Md_rank_2 rfl rfl ?_
  obtain ⟨x2, e1, hM⟩ := bnd_some hM
  refine aftR (runV C w.1 w.2 kc_Md sh_83 (Nat.le_of_ble_eq_true rfl) (c_Md_isFeast hI e1) lk_Md_311 mb_Md_isFeast rfl ⟨Nat.le_of_ble_eq_true rfl, Nat.le_of_ble_eq_true rfl⟩ ⟨Nat.zero_le _, Nat.zero_le _⟩ (Nat.le_of_ble_eq_true rfl) d_Md_rank_3 hl.1 (rest := [.ref (ad 83)]) rfl) ?_
  refine lt_join hM (fun j5 ej hM => ?_)
  have hJ5 : ∀ (s0_5 : Int), j5 s0_5 = some out → ∀ ls : Array Slot, lv_has ls 3 [(0, .ref (ad 83)), (1, .int (iZ a1)), (2, .int (iZ a2))] → W p l e (rmD 2) s m args below meth c s.heap [] 0 0 (MQ below (QI D ad cA out) args s 0 0 (FA ad)) (F0 m 28 ls [.int (iZ s0_5), .ref (ad 83)]) := by
    intro s0_5 hM ls hl
    subst ej
    dsimp only at hM
    refine m_puti C w kc_Md sh_83 (Nat.le_of_ble_eq_true rfl) 0 hM rfl (by decide) rfl rfl fk_Md_51 d_Md_rank_28 (fun h6 H locs w hM => ?_)
    refine m_aload_n C hl 0 d_Md_rank_31 rfl rfl ?_
    refine m_geti C w.1 kc_Md sh_83 (Nat.le_of_ble_eq_true rfl) 0 rfl (by decide) fk_Md_51 d_Md_rank_32 ?_
    refine m_if_le C hM 42 d_Md_rank_35 (by decide) (fun hM => ?_) (fun hM => ?_)
    · refine m_aload_n C hl 0 d_Md_rank_42 rfl rfl ?_
      refine m_bipush C d_Md_rank_43 (by decide) ?_
      refine m_bipush C d_Md_rank_45 (by decide) ?_
      refine m_iload_n C hl 1 d_Md_rank_47 rfl rfl ?_
      refine m_imul C d_Md_rank_48 ?_
      refine m_iadd C d_Md_rank_49 ?_
      refine m_iconst C d_Md_rank_50 ?_
      refine m_iadd C d_Md_rank_51 ?_
      refine m_iload_n C hl 2 d_Md_rank_52 rfl rfl ?_
      obtain ⟨q8, e7, hM⟩ := bnd_some hM
      refine aftI C w (runV C w.1 w.2 kc_Md sh_83 (Nat.le_of_ble_eq_true rfl) (c_Md_tells hI e7) lk_Md_320 mb_Md_tells rfl ⟨Nat.le_of_ble_eq_true rfl, Nat.le_of_ble_eq_true rfl⟩ ⟨Nat.zero_le _, Nat.zero_le _⟩ (Nat.le_of_ble_eq_true rfl) d_Md_rank_53 hl.1 (rest := []) rfl) (fun H locs w => ?_)
      exact m_iretW C w hr hlk hM d_Md_rank_56
    · refine m_iconst C d_Md_rank_38 ?_
      refine m_goto C 56 d_Md_rank_39 (by decide) ?_
      exact m_iretW C w hr hlk hM d_Md_rank_56
  refine m_if_ne C hM 13 d_Md_rank_6 (by decide) (fun hM => ?_) (fun hM => ?_)
  · refine m_iload_n C hl 2 d_Md_rank_13 rfl rfl ?_
    refine m_iconst C d_Md_rank_14 ?_
    refine m_bipush C d_Md_rank_15 (by decide) ?_
    obtain ⟨x10, e9, hM⟩ := bnd_some hM
    refine aftR (runS C w.1 w.2 (c_Md_isIn hI e9) lk_Md_54 mb_Md_isIn rfl ⟨Nat.le_of_ble_eq_true rfl, Nat.le_of_ble_eq_true rfl⟩ ⟨Nat.zero_le _, Nat.zero_le _⟩ (Nat.le_of_ble_eq_true rfl) d_Md_rank_17 hl.1 (rest := [.ref (ad 83)]) rfl) ?_
    refine m_if_ne C hM 27 d_Md_rank_20 (by decide) (fun hM => ?_) (fun hM => ?_)
    · refine m_iconst C d_Md_rank_27 ?_
      exact hJ5 0 hM _ hl
    · refine m_iconst C d_Md_rank_23 ?_
      refine m_goto C 28 d_Md_rank_24 (by decide) ?_
      exact hJ5 2 hM _ hl
  · refine m_iconst C d_Md_rank_9 ?_
    refine m_goto C 28 d_Md_rank_10 (by decide) ?_
    exact hJ5 1 hM _ hl
def y_Md_law : MethodName := ⟨"FeastBookModel", "law", "(II)I"⟩
theorem d_Md_law_0 : decode prog_13_method_77_code 0 = .ok (.aload_n 0, 1) := by decide +kernel
theorem d_Md_law_1 : decode prog_13_method_77_code 1 = .ok (.aload_n 0, 1) := by decide +kernel
theorem d_Md_law_2 : decode prog_13_method_77_code 2 = .ok (.iload_n 1, 1) := by decide +kernel
theorem d_Md_law_3 : decode prog_13_method_77_code 3 = .ok (.invokevirtual 311, 3) := by decide +kernel
theorem d_Md_law_6 : decode prog_13_method_77_code 6 = .ok (.ifCond .ne 7, 3) := by decide +kernel
theorem d_Md_law_9 : decode prog_13_method_77_code 9 = .ok (.iconst 1, 1) := by decide +kernel
theorem d_Md_law_10 : decode prog_13_method_77_code 10 = .ok (.goto 17, 3) := by decide +kernel
theorem d_Md_law_13 : decode prog_13_method_77_code 13 = .ok (.iload_n 2, 1) := by decide +kernel
theorem d_Md_law_14 : decode prog_13_method_77_code 14 = .ok (.iconst 0, 1) := by decide +kernel
theorem d_Md_law_15 : decode prog_13_method_77_code 15 = .ok (.iconst 3, 1) := by decide +kernel
theorem d_Md_law_16 : decode prog_13_method_77_code 16 = .ok (.invokestatic 54, 3) := by decide +kernel
theorem d_Md_law_19 : decode prog_13_method_77_code 19 = .ok (.ifCond .ne 7, 3) := by decide +kernel
theorem d_Md_law_22 : decode prog_13_method_77_code 22 = .ok (.iconst 2, 1) := by decide +kernel
theorem d_Md_law_23 : decode prog_13_method_77_code 23 = .ok (.goto 4, 3) := by decide +kernel
theorem d_Md_law_26 : decode prog_13_method_77_code 26 = .ok (.iconst 0, 1) := by decide +kernel
theorem d_Md_law_27 : decode prog_13_method_77_code 27 = .ok (.putfield 51, 3) := by decide +kernel
theorem d_Md_law_30 : decode prog_13_method_77_code 30 = .ok (.aload_n 0, 1) := by decide +kernel
theorem d_Md_law_31 : decode prog_13_method_77_code 31 = .ok (.getfield 51, 3) := by decide +kernel
theorem d_Md_law_34 : decode prog_13_method_77_code 34 = .ok (.ifCond .le 7, 3) := by decide +kernel
theorem d_Md_law_37 : decode prog_13_method_77_code 37 = .ok (.iconst 0, 1) := by decide +kernel
theorem d_Md_law_38 : decode prog_13_method_77_code 38 = .ok (.goto 17, 3) := by decide +kernel
theorem d_Md_law_41 : decode prog_13_method_77_code 41 = .ok (.aload_n 0, 1) := by decide +kernel
theorem d_Md_law_42 : decode prog_13_method_77_code 42 = .ok (.bipush 43, 2) := by decide +kernel
theorem d_Md_law_44 : decode prog_13_method_77_code 44 = .ok (.bipush 7, 2) := by decide +kernel
theorem d_Md_law_46 : decode prog_13_method_77_code 46 = .ok (.iload_n 1, 1) := by decide +kernel
theorem d_Md_law_47 : decode prog_13_method_77_code 47 = .ok (.imul, 1) := by decide +kernel
theorem d_Md_law_48 : decode prog_13_method_77_code 48 = .ok (.iadd, 1) := by decide +kernel
theorem d_Md_law_49 : decode prog_13_method_77_code 49 = .ok (.iconst 4, 1) := by decide +kernel
theorem d_Md_law_50 : decode prog_13_method_77_code 50 = .ok (.iadd, 1) := by decide +kernel
theorem d_Md_law_51 : decode prog_13_method_77_code 51 = .ok (.iload_n 2, 1) := by decide +kernel
theorem d_Md_law_52 : decode prog_13_method_77_code 52 = .ok (.invokevirtual 320, 3) := by decide +kernel
theorem d_Md_law_55 : decode prog_13_method_77_code 55 = .ok (.ireturn, 1) := by decide +kernel
set_option maxHeartbeats 4000000 in
set_option maxRecDepth 100000 in
theorem c_Md_law {l : Launch} {D : va_G} {ad : Nat → Nat} {cA : Nat → ClassId} {sd sv : Nat → Nat} {h : Hp} {N : Nat} {a1 a2 : Int} {out : (Int × Hp)} (hI : Inj97 ad) (hM : M_Md_law N h a1 a2 = some out) : Met l y_Md_law (.code y_Md_law prog_13_method_77_code 3 (some .int) :: TT) (rmD 2) (PC D ad cA sd sv h [.ref (ad 83), .int (iZ a1), .int (iZ a2)]) (QI D ad cA out) 0 0 (FA ad) := by
  unfold M_Md_law at hM
  refine entM (by decide +kernel) hI (Nat.le_of_ble_eq_true rfl) ?_
  intro p e s m args below meth c C hr hlk hP ls hl
  have C : Cx p s m args c prog_13_method_77_code 3 "FeastBookModel" D ad cA sd sv (FA ad) := C
  have hl : lv_has ls 3 [(0, .ref (ad 83)), (1, .int (iZ a1)), (2, .int (iZ a2))] := hl
  have w : Wd s D ad cA (FA ad) h s.heap [] := ⟨hP, va_S.rf⟩
  refine m_aload_n C hl 0 d_Md_law_0 rfl rfl ?_
  refine m_aload_n C hl 0 d_Md_law_1 rfl rfl ?_
  refine m_iload_n C hl 1 d_Md_law_2 rfl rfl ?_
  obtain ⟨x2, e1, hM⟩ := bnd_some hM
  refine aftR (runV C w.1 w.2 kc_Md sh_83 (Nat.le_of_ble_eq_true rfl) (c_Md_isFeast hI e1) lk_Md_311 mb_Md_isFeast rfl ⟨Nat.le_of_ble_eq_true rfl, Nat.le_of_ble_eq_true rfl⟩ ⟨Nat.zero_le _, Nat.zero_le _⟩ (Nat.le_of_ble_eq_true rfl) d_Md_law_3 hl.1 (rest := [.ref (ad 83)]) rfl) ?_
  refine lt_join hM (fun j5 ej hM => ?_)
  have hJ5 : ∀ (s0_5 : Int), j5 s0_5 = some out → ∀ ls : Array Slot, lv_has ls 3 [(0, .ref (ad 83)), (1, .int (iZ a1)), (2, .int (iZ a2))] → W p l e (rmD 2) s m args below meth c s.heap [] 0 0 (MQ below (QI D ad cA out) args s 0 0 (FA ad)) (F0 m 27 ls [.int (iZ s0_5), .ref (ad 83)]) := by
    intro s0_5 hM ls hl
    subst ej
    dsimp only at hM
    refine m_puti C w kc_Md sh_83 (Nat.le_of_ble_eq_true rfl) 0 hM rfl (by decide) rfl rfl fk_Md_51 d_Md_law_27 (fun h6 H locs w hM => ?_)
    refine m_aload_n C hl 0 d_Md_law_30 rfl rfl ?_
    refine m_geti C w.1 kc_Md sh_83 (Nat.le_of_ble_eq_true rfl) 0 rfl (by decide) fk_Md_51 d_Md_law_31 ?_
    refine m_if_le C hM 41 d_Md_law_34 (by decide) (fun hM => ?_) (fun hM => ?_)
    · refine m_aload_n C hl 0 d_Md_law_41 rfl rfl ?_
      refine m_bipush C d_Md_law_42 (by decide) ?_
      refine m_bipush C d_Md_law_44 (by decide) ?_
      refine m_iload_n C hl 1 d_Md_law_46 rfl rfl ?_
      refine m_imul C d_Md_law_47 ?_
      refine m_iadd C d_Md_law_48 ?_
      refine m_iconst C d_Md_law_49 ?_
      refine m_iadd C d_Md_law_50 ?_
      refine m_iload_n C hl 2 d_Md_law_51 rfl rfl ?_
      obtain ⟨q8, e7, hM⟩ := bnd_some hM
      refine aftI C w (runV C w.1 w.2 kc_Md sh_83 (Nat.le_of_ble_eq_true rfl) (c_Md_tells hI e7) lk_Md_320 mb_Md_tells rfl ⟨Nat.le_of_ble_eq_true rfl, Nat.le_of_ble_eq_true rfl⟩ ⟨Nat.zero_le _, Nat.zero_le _⟩ (Nat.le_of_ble_eq_true rfl) d_Md_law_52 hl.1 (rest := []) rfl) (fun H locs w => ?_)
      exact m_iretW C w hr hlk hM d_Md_law_55
    · refine m_iconst C d_Md_law_37 ?_
      refine m_goto C 55 d_Md_law_38 (by decide) ?_
      exact m_iretW C w hr hlk hM d_Md_law_55
  refine m_if_ne C hM 13 d_Md_law_6 (by decide) (fun hM => ?_) (fun hM => ?_)
  · refine m_iload_n C hl 2 d_Md_law_13 rfl rfl ?_
    refine m_iconst C d_Md_law_14 ?_
    refine m_iconst C d_Md_law_15 ?_
    obtain ⟨x10, e9, hM⟩ := bnd_some hM
    refine aftR (runS C w.1 w.2 (c_Md_isIn hI e9) lk_Md_54 mb_Md_isIn rfl ⟨Nat.le_of_ble_eq_true rfl, Nat.le_of_ble_eq_true rfl⟩ ⟨Nat.zero_le _, Nat.zero_le _⟩ (Nat.le_of_ble_eq_true rfl) d_Md_law_16 hl.1 (rest := [.ref (ad 83)]) rfl) ?_
    refine m_if_ne C hM 26 d_Md_law_19 (by decide) (fun hM => ?_) (fun hM => ?_)
    · refine m_iconst C d_Md_law_26 ?_
      exact hJ5 0 hM _ hl
    · refine m_iconst C d_Md_law_22 ?_
      refine m_goto C 27 d_Md_law_23 (by decide) ?_
      exact hJ5 2 hM _ hl
  · refine m_iconst C d_Md_law_9 ?_
    refine m_goto C 27 d_Md_law_10 (by decide) ?_
    exact hJ5 1 hM _ hl
def y_Md_canPut : MethodName := ⟨"FeastBookModel", "canPut", "(III)Z"⟩
theorem d_Md_canPut_0 : decode prog_13_method_78_code 0 = .ok (.aload_n 0, 1) := by decide +kernel
theorem d_Md_canPut_1 : decode prog_13_method_78_code 1 = .ok (.iload_n 1, 1) := by decide +kernel
theorem d_Md_canPut_2 : decode prog_13_method_78_code 2 = .ok (.iconst 1, 1) := by decide +kernel
theorem d_Md_canPut_3 : decode prog_13_method_78_code 3 = .ok (.invokevirtual 90, 3) := by decide +kernel
theorem d_Md_canPut_6 : decode prog_13_method_78_code 6 = .ok (.iconst 1, 1) := by decide +kernel
theorem d_Md_canPut_7 : decode prog_13_method_78_code 7 = .ok (.if_icmp .ne 25, 3) := by decide +kernel
theorem d_Md_canPut_10 : decode prog_13_method_78_code 10 = .ok (.iload_n 2, 1) := by decide +kernel
theorem d_Md_canPut_11 : decode prog_13_method_78_code 11 = .ok (.iconst (-1), 1) := by decide +kernel
theorem d_Md_canPut_12 : decode prog_13_method_78_code 12 = .ok (.if_icmp .ne 18, 3) := by decide +kernel
theorem d_Md_canPut_15 : decode prog_13_method_78_code 15 = .ok (.iload_n 3, 1) := by decide +kernel
theorem d_Md_canPut_16 : decode prog_13_method_78_code 16 = .ok (.bipush (-99), 2) := by decide +kernel
theorem d_Md_canPut_18 : decode prog_13_method_78_code 18 = .ok (.bipush 99, 2) := by decide +kernel
theorem d_Md_canPut_20 : decode prog_13_method_78_code 20 = .ok (.invokestatic 54, 3) := by decide +kernel
theorem d_Md_canPut_23 : decode prog_13_method_78_code 23 = .ok (.ifCond .eq 7, 3) := by decide +kernel
theorem d_Md_canPut_26 : decode prog_13_method_78_code 26 = .ok (.iconst 1, 1) := by decide +kernel
theorem d_Md_canPut_27 : decode prog_13_method_78_code 27 = .ok (.goto 4, 3) := by decide +kernel
theorem d_Md_canPut_30 : decode prog_13_method_78_code 30 = .ok (.iconst 0, 1) := by decide +kernel
theorem d_Md_canPut_31 : decode prog_13_method_78_code 31 = .ok (.ireturn, 1) := by decide +kernel
theorem d_Md_canPut_32 : decode prog_13_method_78_code 32 = .ok (.iload_n 2, 1) := by decide +kernel
theorem d_Md_canPut_33 : decode prog_13_method_78_code 33 = .ok (.iconst 0, 1) := by decide +kernel
theorem d_Md_canPut_34 : decode prog_13_method_78_code 34 = .ok (.aload_n 0, 1) := by decide +kernel
theorem d_Md_canPut_35 : decode prog_13_method_78_code 35 = .ok (.getfield 7, 3) := by decide +kernel
theorem d_Md_canPut_38 : decode prog_13_method_78_code 38 = .ok (.iconst 1, 1) := by decide +kernel
theorem d_Md_canPut_39 : decode prog_13_method_78_code 39 = .ok (.iaload, 1) := by decide +kernel
theorem d_Md_canPut_40 : decode prog_13_method_78_code 40 = .ok (.iconst 1, 1) := by decide +kernel
theorem d_Md_canPut_41 : decode prog_13_method_78_code 41 = .ok (.isub, 1) := by decide +kernel
theorem d_Md_canPut_42 : decode prog_13_method_78_code 42 = .ok (.invokestatic 54, 3) := by decide +kernel
theorem d_Md_canPut_45 : decode prog_13_method_78_code 45 = .ok (.ifCond .eq 25, 3) := by decide +kernel
theorem d_Md_canPut_48 : decode prog_13_method_78_code 48 = .ok (.iload_n 3, 1) := by decide +kernel
theorem d_Md_canPut_49 : decode prog_13_method_78_code 49 = .ok (.iconst 0, 1) := by decide +kernel
theorem d_Md_canPut_50 : decode prog_13_method_78_code 50 = .ok (.aload_n 0, 1) := by decide +kernel
theorem d_Md_canPut_51 : decode prog_13_method_78_code 51 = .ok (.getfield 7, 3) := by decide +kernel
theorem d_Md_canPut_54 : decode prog_13_method_78_code 54 = .ok (.iconst 2, 1) := by decide +kernel
theorem d_Md_canPut_55 : decode prog_13_method_78_code 55 = .ok (.iload_n 2, 1) := by decide +kernel
theorem d_Md_canPut_56 : decode prog_13_method_78_code 56 = .ok (.iadd, 1) := by decide +kernel
theorem d_Md_canPut_57 : decode prog_13_method_78_code 57 = .ok (.iaload, 1) := by decide +kernel
theorem d_Md_canPut_58 : decode prog_13_method_78_code 58 = .ok (.iconst 1, 1) := by decide +kernel
theorem d_Md_canPut_59 : decode prog_13_method_78_code 59 = .ok (.isub, 1) := by decide +kernel
theorem d_Md_canPut_60 : decode prog_13_method_78_code 60 = .ok (.invokestatic 54, 3) := by decide +kernel
theorem d_Md_canPut_63 : decode prog_13_method_78_code 63 = .ok (.ifCond .eq 7, 3) := by decide +kernel
theorem d_Md_canPut_66 : decode prog_13_method_78_code 66 = .ok (.iconst 1, 1) := by decide +kernel
theorem d_Md_canPut_67 : decode prog_13_method_78_code 67 = .ok (.goto 4, 3) := by decide +kernel
theorem d_Md_canPut_70 : decode prog_13_method_78_code 70 = .ok (.iconst 0, 1) := by decide +kernel
theorem d_Md_canPut_71 : decode prog_13_method_78_code 71 = .ok (.ireturn, 1) := by decide +kernel
set_option maxHeartbeats 4000000 in
set_option maxRecDepth 100000 in
theorem c_Md_canPut {l : Launch} {D : va_G} {ad : Nat → Nat} {cA : Nat → ClassId} {sd sv : Nat → Nat} {h : Hp} {a1 a2 a3 : Int} {out : Int} (hI : Inj97 ad) (hM : M_Md_canPut h a1 a2 a3 = some out) : Met l y_Md_canPut (.code y_Md_canPut prog_13_method_78_code 4 (some .boolean) :: TT) (rmD 1) (PC D ad cA sd sv h [.ref (ad 83), .int (iZ a1), .int (iZ a2), .int (iZ a3)]) (QR out) 0 0 (fun _ => False) := by
  unfold M_Md_canPut at hM
  refine entM (by decide +kernel) hI (Nat.le_of_ble_eq_true rfl) ?_
  intro p e s m args below meth c C hr hlk hP ls hl
  have C : Cx p s m args c prog_13_method_78_code 4 "FeastBookModel" D ad cA sd sv (FA ad) := C
  have hl : lv_has ls 4 [(0, .ref (ad 83)), (1, .int (iZ a1)), (2, .int (iZ a2)), (3, .int (iZ a3))] := hl
  refine m_aload_n C hl 0 d_Md_canPut_0 rfl rfl ?_
  refine m_iload_n C hl 1 d_Md_canPut_1 rfl rfl ?_
  refine m_iconst C d_Md_canPut_2 ?_
  obtain ⟨x2, e1, hM⟩ := bnd_some hM
  refine aftR (runV C hP va_S.rf kc_Md sh_83 (Nat.le_of_ble_eq_true rfl) (c_Md_of0 hI e1) lk_Md_90 mb_Md_of0 rfl ⟨Nat.le_of_ble_eq_true rfl, Nat.le_of_ble_eq_true rfl⟩ ⟨Nat.zero_le _, Nat.zero_le _⟩ (Nat.le_of_ble_eq_true rfl) d_Md_canPut_3 hl.1 (rest := []) rfl) ?_
  refine m_iconst C d_Md_canPut_6 ?_
  refine m_icmp_ne C hM 32 d_Md_canPut_7 (by decide) (fun hM => ?_) (fun hM => ?_)
  · refine m_iload_n C hl 2 d_Md_canPut_32 rfl rfl ?_
    refine m_iconst C d_Md_canPut_33 ?_
    refine m_aload_n C hl 0 d_Md_canPut_34 rfl rfl ?_
    refine m_getr C hP kc_Md sh_83 (Nat.le_of_ble_eq_true rfl) 1 84 rfl (by decide) fk_Md_7 d_Md_canPut_35 ?_
    refine m_iconst C d_Md_canPut_38 ?_
    refine m_iald C hP sh_84 (Nat.le_of_ble_eq_true rfl) (Nat.le_of_ble_eq_true rfl) hM d_Md_canPut_39 (fun x3 hM => ?_)
    refine m_iconst C d_Md_canPut_40 ?_
    refine m_isub C d_Md_canPut_41 ?_
    obtain ⟨x5, e4, hM⟩ := bnd_some hM
    refine aftR (runS C hP va_S.rf (c_Md_isIn hI e4) lk_Md_54 mb_Md_isIn rfl ⟨Nat.le_of_ble_eq_true rfl, Nat.le_of_ble_eq_true rfl⟩ ⟨Nat.zero_le _, Nat.zero_le _⟩ (Nat.le_of_ble_eq_true rfl) d_Md_canPut_42 hl.1 (rest := []) rfl) ?_
    refine m_if_eq C hM 70 d_Md_canPut_45 (by decide) (fun hM => ?_) (fun hM => ?_)
    · refine m_iconst C d_Md_canPut_70 ?_
      exact m_zretR C hr hlk hM d_Md_canPut_71
    · refine m_iload_n C hl 3 d_Md_canPut_48 rfl rfl ?_
      refine m_iconst C d_Md_canPut_49 ?_
      refine m_aload_n C hl 0 d_Md_canPut_50 rfl rfl ?_
      refine m_getr C hP kc_Md sh_83 (Nat.le_of_ble_eq_true rfl) 1 84 rfl (by decide) fk_Md_7 d_Md_canPut_51 ?_
      refine m_iconst C d_Md_canPut_54 ?_
      refine m_iload_n C hl 2 d_Md_canPut_55 rfl rfl ?_
      refine m_iadd C d_Md_canPut_56 ?_
      refine m_iald C hP sh_84 (Nat.le_of_ble_eq_true rfl) (Nat.le_of_ble_eq_true rfl) hM d_Md_canPut_57 (fun x6 hM => ?_)
      refine m_iconst C d_Md_canPut_58 ?_
      refine m_isub C d_Md_canPut_59 ?_
      obtain ⟨x8, e7, hM⟩ := bnd_some hM
      refine aftR (runS C hP va_S.rf (c_Md_isIn hI e7) lk_Md_54 mb_Md_isIn rfl ⟨Nat.le_of_ble_eq_true rfl, Nat.le_of_ble_eq_true rfl⟩ ⟨Nat.zero_le _, Nat.zero_le _⟩ (Nat.le_of_ble_eq_true rfl) d_Md_canPut_60 hl.1 (rest := []) rfl) ?_
      refine m_if_eq C hM 70 d_Md_canPut_63 (by decide) (fun hM => ?_) (fun hM => ?_)
      · refine m_iconst C d_Md_canPut_70 ?_
        exact m_zretR C hr hlk hM d_Md_canPut_71
      · refine m_iconst C d_Md_canPut_66 ?_
        refine m_goto C 71 d_Md_canPut_67 (by decide) ?_
        exact m_zretR C hr hlk hM d_Md_canPut_71
  · refine m_iload_n C hl 2 d_Md_canPut_10 rfl rfl ?_
    refine m_iconst C d_Md_canPut_11 ?_
    refine m_icmp_ne C hM 30 d_Md_canPut_12 (by decide) (fun hM => ?_) (fun hM => ?_)
    · refine m_iconst C d_Md_canPut_30 ?_
      exact m_zretR C hr hlk hM d_Md_canPut_31
    · refine m_iload_n C hl 3 d_Md_canPut_15 rfl rfl ?_
      refine m_bipush C d_Md_canPut_16 (by decide) ?_
      refine m_bipush C d_Md_canPut_18 (by decide) ?_
      obtain ⟨x10, e9, hM⟩ := bnd_some hM
      refine aftR (runS C hP va_S.rf (c_Md_isIn hI e9) lk_Md_54 mb_Md_isIn rfl ⟨Nat.le_of_ble_eq_true rfl, Nat.le_of_ble_eq_true rfl⟩ ⟨Nat.zero_le _, Nat.zero_le _⟩ (Nat.le_of_ble_eq_true rfl) d_Md_canPut_20 hl.1 (rest := []) rfl) ?_
      refine m_if_eq C hM 30 d_Md_canPut_23 (by decide) (fun hM => ?_) (fun hM => ?_)
      · refine m_iconst C d_Md_canPut_30 ?_
        exact m_zretR C hr hlk hM d_Md_canPut_31
      · refine m_iconst C d_Md_canPut_26 ?_
        refine m_goto C 31 d_Md_canPut_27 (by decide) ?_
        exact m_zretR C hr hlk hM d_Md_canPut_31
def y_Md_put : MethodName := ⟨"FeastBookModel", "put", "(III)I"⟩
theorem d_Md_put_0 : decode prog_13_method_79_code 0 = .ok (.aload_n 0, 1) := by decide +kernel
theorem d_Md_put_1 : decode prog_13_method_79_code 1 = .ok (.aload_n 0, 1) := by decide +kernel
theorem d_Md_put_2 : decode prog_13_method_79_code 2 = .ok (.iload_n 1, 1) := by decide +kernel
theorem d_Md_put_3 : decode prog_13_method_79_code 3 = .ok (.invokevirtual 311, 3) := by decide +kernel
theorem d_Md_put_6 : decode prog_13_method_79_code 6 = .ok (.ifCond .ne 7, 3) := by decide +kernel
theorem d_Md_put_9 : decode prog_13_method_79_code 9 = .ok (.iconst 1, 1) := by decide +kernel
theorem d_Md_put_10 : decode prog_13_method_79_code 10 = .ok (.goto 18, 3) := by decide +kernel
theorem d_Md_put_13 : decode prog_13_method_79_code 13 = .ok (.aload_n 0, 1) := by decide +kernel
theorem d_Md_put_14 : decode prog_13_method_79_code 14 = .ok (.iload_n 1, 1) := by decide +kernel
theorem d_Md_put_15 : decode prog_13_method_79_code 15 = .ok (.iload_n 2, 1) := by decide +kernel
theorem d_Md_put_16 : decode prog_13_method_79_code 16 = .ok (.iload_n 3, 1) := by decide +kernel
theorem d_Md_put_17 : decode prog_13_method_79_code 17 = .ok (.invokevirtual 323, 3) := by decide +kernel
theorem d_Md_put_20 : decode prog_13_method_79_code 20 = .ok (.ifCond .ne 7, 3) := by decide +kernel
theorem d_Md_put_23 : decode prog_13_method_79_code 23 = .ok (.iconst 2, 1) := by decide +kernel
theorem d_Md_put_24 : decode prog_13_method_79_code 24 = .ok (.goto 4, 3) := by decide +kernel
theorem d_Md_put_27 : decode prog_13_method_79_code 27 = .ok (.iconst 0, 1) := by decide +kernel
theorem d_Md_put_28 : decode prog_13_method_79_code 28 = .ok (.putfield 51, 3) := by decide +kernel
theorem d_Md_put_31 : decode prog_13_method_79_code 31 = .ok (.aload_n 0, 1) := by decide +kernel
theorem d_Md_put_32 : decode prog_13_method_79_code 32 = .ok (.getfield 51, 3) := by decide +kernel
theorem d_Md_put_35 : decode prog_13_method_79_code 35 = .ok (.ifCond .le 5, 3) := by decide +kernel
theorem d_Md_put_38 : decode prog_13_method_79_code 38 = .ok (.iconst 0, 1) := by decide +kernel
theorem d_Md_put_39 : decode prog_13_method_79_code 39 = .ok (.ireturn, 1) := by decide +kernel
theorem d_Md_put_40 : decode prog_13_method_79_code 40 = .ok (.aload_n 0, 1) := by decide +kernel
theorem d_Md_put_41 : decode prog_13_method_79_code 41 = .ok (.invokevirtual 317, 3) := by decide +kernel
theorem d_Md_put_44 : decode prog_13_method_79_code 44 = .ok (.bipush 43, 2) := by decide +kernel
theorem d_Md_put_46 : decode prog_13_method_79_code 46 = .ok (.bipush 7, 2) := by decide +kernel
theorem d_Md_put_48 : decode prog_13_method_79_code 48 = .ok (.iload_n 1, 1) := by decide +kernel
theorem d_Md_put_49 : decode prog_13_method_79_code 49 = .ok (.imul, 1) := by decide +kernel
theorem d_Md_put_50 : decode prog_13_method_79_code 50 = .ok (.iadd, 1) := by decide +kernel
theorem d_Md_put_51 : decode prog_13_method_79_code 51 = .ok (.istore 4, 2) := by decide +kernel
theorem d_Md_put_53 : decode prog_13_method_79_code 53 = .ok (.aload_n 0, 1) := by decide +kernel
theorem d_Md_put_54 : decode prog_13_method_79_code 54 = .ok (.getfield 7, 3) := by decide +kernel
theorem d_Md_put_57 : decode prog_13_method_79_code 57 = .ok (.iload 4, 2) := by decide +kernel
theorem d_Md_put_59 : decode prog_13_method_79_code 59 = .ok (.iconst 2, 1) := by decide +kernel
theorem d_Md_put_60 : decode prog_13_method_79_code 60 = .ok (.iadd, 1) := by decide +kernel
theorem d_Md_put_61 : decode prog_13_method_79_code 61 = .ok (.iaload, 1) := by decide +kernel
theorem d_Md_put_62 : decode prog_13_method_79_code 62 = .ok (.iload_n 2, 1) := by decide +kernel
theorem d_Md_put_63 : decode prog_13_method_79_code 63 = .ok (.if_icmp .ne 16, 3) := by decide +kernel
theorem d_Md_put_66 : decode prog_13_method_79_code 66 = .ok (.aload_n 0, 1) := by decide +kernel
theorem d_Md_put_67 : decode prog_13_method_79_code 67 = .ok (.getfield 7, 3) := by decide +kernel
theorem d_Md_put_70 : decode prog_13_method_79_code 70 = .ok (.iload 4, 2) := by decide +kernel
theorem d_Md_put_72 : decode prog_13_method_79_code 72 = .ok (.iconst 3, 1) := by decide +kernel
theorem d_Md_put_73 : decode prog_13_method_79_code 73 = .ok (.iadd, 1) := by decide +kernel
theorem d_Md_put_74 : decode prog_13_method_79_code 74 = .ok (.iaload, 1) := by decide +kernel
theorem d_Md_put_75 : decode prog_13_method_79_code 75 = .ok (.iload_n 3, 1) := by decide +kernel
theorem d_Md_put_76 : decode prog_13_method_79_code 76 = .ok (.if_icmp .eq 7, 3) := by decide +kernel
theorem d_Md_put_79 : decode prog_13_method_79_code 79 = .ok (.iconst 1, 1) := by decide +kernel
theorem d_Md_put_80 : decode prog_13_method_79_code 80 = .ok (.goto 4, 3) := by decide +kernel
theorem d_Md_put_83 : decode prog_13_method_79_code 83 = .ok (.iconst 0, 1) := by decide +kernel
theorem d_Md_put_84 : decode prog_13_method_79_code 84 = .ok (.istore 5, 2) := by decide +kernel
theorem d_Md_put_86 : decode prog_13_method_79_code 86 = .ok (.aload_n 0, 1) := by decide +kernel
theorem d_Md_put_87 : decode prog_13_method_79_code 87 = .ok (.getfield 7, 3) := by decide +kernel
theorem d_Md_put_90 : decode prog_13_method_79_code 90 = .ok (.iload 4, 2) := by decide +kernel
theorem d_Md_put_92 : decode prog_13_method_79_code 92 = .ok (.iconst 2, 1) := by decide +kernel
theorem d_Md_put_93 : decode prog_13_method_79_code 93 = .ok (.iadd, 1) := by decide +kernel
theorem d_Md_put_94 : decode prog_13_method_79_code 94 = .ok (.iload_n 2, 1) := by decide +kernel
theorem d_Md_put_95 : decode prog_13_method_79_code 95 = .ok (.iastore, 1) := by decide +kernel
theorem d_Md_put_96 : decode prog_13_method_79_code 96 = .ok (.aload_n 0, 1) := by decide +kernel
theorem d_Md_put_97 : decode prog_13_method_79_code 97 = .ok (.getfield 7, 3) := by decide +kernel
theorem d_Md_put_100 : decode prog_13_method_79_code 100 = .ok (.iload 4, 2) := by decide +kernel
theorem d_Md_put_102 : decode prog_13_method_79_code 102 = .ok (.iconst 3, 1) := by decide +kernel
theorem d_Md_put_103 : decode prog_13_method_79_code 103 = .ok (.iadd, 1) := by decide +kernel
theorem d_Md_put_104 : decode prog_13_method_79_code 104 = .ok (.iload_n 3, 1) := by decide +kernel
theorem d_Md_put_105 : decode prog_13_method_79_code 105 = .ok (.iastore, 1) := by decide +kernel
theorem d_Md_put_106 : decode prog_13_method_79_code 106 = .ok (.iload 5, 2) := by decide +kernel
theorem d_Md_put_108 : decode prog_13_method_79_code 108 = .ok (.ifCond .eq 7, 3) := by decide +kernel
theorem d_Md_put_111 : decode prog_13_method_79_code 111 = .ok (.iconst 1, 1) := by decide +kernel
theorem d_Md_put_112 : decode prog_13_method_79_code 112 = .ok (.goto 4, 3) := by decide +kernel
theorem d_Md_put_115 : decode prog_13_method_79_code 115 = .ok (.iconst 0, 1) := by decide +kernel
theorem d_Md_put_116 : decode prog_13_method_79_code 116 = .ok (.ireturn, 1) := by decide +kernel
theorem mb_Md_canPut : MBv R_Md y_Md_canPut prog_13_method_78_code 4 (some .boolean) 3 := ⟨mT10 20 (by decide +kernel) (by decide +kernel), mTs 71 (by decide +kernel) (by decide +kernel), mT1 10 (by decide +kernel) (by decide +kernel), mT10 21 (by decide +kernel) (by decide +kernel), by decide, rfl, by decide +kernel, by decide +kernel, by decide +kernel⟩
theorem lk_Md_323 : Cond.methodLink "FeastBookModel" 323 y_Md_canPut ∈ TT := mT10 18 (by decide +kernel) (by decide +kernel)
set_option maxHeartbeats 4000000 in
set_option maxRecDepth 100000 in
theorem c_Md_put {l : Launch} {D : va_G} {ad : Nat → Nat} {cA : Nat → ClassId} {sd sv : Nat → Nat} {h : Hp} {N : Nat} {a1 a2 a3 : Int} {out : (Int × Hp)} (hI : Inj97 ad) (hM : M_Md_put N h a1 a2 a3 = some out) : Met l y_Md_put (.code y_Md_put prog_13_method_79_code 6 (some .int) :: TT) (rmD 2) (PC D ad cA sd sv h [.ref (ad 83), .int (iZ a1), .int (iZ a2), .int (iZ a3)]) (QI D ad cA out) 0 0 (FA ad) := by
  unfold M_Md_put at hM
  refine entM (by decide +kernel) hI (Nat.le_of_ble_eq_true rfl) ?_
  intro p e s m args below meth c C hr hlk hP ls hl
  have C : Cx p s m args c prog_13_method_79_code 6 "FeastBookModel" D ad cA sd sv (FA ad) := C
  have hl : lv_has ls 6 [(0, .ref (ad 83)), (1, .int (iZ a1)), (2, .int (iZ a2)), (3, .int (iZ a3))] := hl
  have w : Wd s D ad cA (FA ad) h s.heap [] := ⟨hP, va_S.rf⟩
  refine m_aload_n C hl 0 d_Md_put_0 rfl rfl ?_
  refine m_aload_n C hl 0 d_Md_put_1 rfl rfl ?_
  refine m_iload_n C hl 1 d_Md_put_2 rfl rfl ?_
  obtain ⟨x2, e1, hM⟩ := bnd_some hM
  refine aftR (runV C w.1 w.2 kc_Md sh_83 (Nat.le_of_ble_eq_true rfl) (c_Md_isFeast hI e1) lk_Md_311 mb_Md_isFeast rfl ⟨Nat.le_of_ble_eq_true rfl, Nat.le_of_ble_eq_true rfl⟩ ⟨Nat.zero_le _, Nat.zero_le _⟩ (Nat.le_of_ble_eq_true rfl) d_Md_put_3 hl.1 (rest := [.ref (ad 83)]) rfl) ?_
  refine lt_join hM (fun j5 ej hM => ?_)
  have hJ5 : ∀ (s0_5 : Int), j5 s0_5 = some out → ∀ ls : Array Slot, lv_has ls 6 [(0, .ref (ad 83)), (1, .int (iZ a1)), (2, .int (iZ a2)), (3, .int (iZ a3))] → W p l e (rmD 2) s m args below meth c s.heap [] 0 0 (MQ below (QI D ad cA out) args s 0 0 (FA ad)) (F0 m 28 ls [.int (iZ s0_5), .ref (ad 83)]) := by
    intro s0_5 hM ls hl
    subst ej
    dsimp only at hM
    refine m_puti C w kc_Md sh_83 (Nat.le_of_ble_eq_true rfl) 0 hM rfl (by decide) rfl rfl fk_Md_51 d_Md_put_28 (fun h6 H locs w hM => ?_)
    refine m_aload_n C hl 0 d_Md_put_31 rfl rfl ?_
    refine m_geti C w.1 kc_Md sh_83 (Nat.le_of_ble_eq_true rfl) 0 rfl (by decide) fk_Md_51 d_Md_put_32 ?_
    refine m_if_le C hM 40 d_Md_put_35 (by decide) (fun hM => ?_) (fun hM => ?_)
    · refine m_aload_n C hl 0 d_Md_put_40 rfl rfl ?_
      obtain ⟨h8, e7, hM⟩ := bnd_some hM
      refine aftV C w (runV C w.1 w.2 kc_Md sh_83 (Nat.le_of_ble_eq_true rfl) (c_Md_remembers hI e7) lk_Md_317 mb_Md_remembers rfl ⟨Nat.le_of_ble_eq_true rfl, Nat.le_of_ble_eq_true rfl⟩ ⟨Nat.zero_le _, Nat.zero_le _⟩ (Nat.le_of_ble_eq_true rfl) d_Md_put_41 hl.1 (rest := []) rfl) (fun H locs w => ?_)
      refine m_bipush C d_Md_put_44 (by decide) ?_
      refine m_bipush C d_Md_put_46 (by decide) ?_
      refine m_iload_n C hl 1 d_Md_put_48 rfl rfl ?_
      refine m_imul C d_Md_put_49 ?_
      refine m_iadd C d_Md_put_50 ?_
      refine m_istore C hl [(4, .int (iZ (43 + (7 * a1)))), (0, .ref (ad 83)), (1, .int (iZ a1)), (2, .int (iZ a2)), (3, .int (iZ a3))] d_Md_put_51 (by decide) rfl (fun ls hl => ?_)
      refine m_aload_n C hl 1 d_Md_put_53 rfl rfl ?_
      refine m_getr C w.1 kc_Md sh_83 (Nat.le_of_ble_eq_true rfl) 1 84 rfl (by decide) fk_Md_7 d_Md_put_54 ?_
      refine m_iload C hl 0 d_Md_put_57 rfl ?_
      refine m_iconst C d_Md_put_59 ?_
      refine m_iadd C d_Md_put_60 ?_
      refine m_iald C w.1 sh_84 (Nat.le_of_ble_eq_true rfl) (Nat.le_of_ble_eq_true rfl) hM d_Md_put_61 (fun x9 hM => ?_)
      refine m_iload_n C hl 3 d_Md_put_62 rfl rfl ?_
      refine lt_join hM (fun j11 ej hM => ?_)
      have hJ11 : ∀ (s0_11 : Int), j11 s0_11 = some out → ∀ ls : Array Slot, lv_has ls 6 [(0, .ref (ad 83)), (1, .int (iZ a1)), (2, .int (iZ a2)), (3, .int (iZ a3)), (4, .int (iZ (43 + (7 * a1))))] → W p l e (rmD 2) s m args below meth c H locs 0 0 (MQ below (QI D ad cA out) args s 0 0 (FA ad)) (F0 m 84 ls [.int (iZ s0_11)]) := by
        intro s0_11 hM ls hl
        subst ej
        dsimp only at hM
        refine m_istore C hl [(5, .int (iZ s0_11)), (0, .ref (ad 83)), (1, .int (iZ a1)), (2, .int (iZ a2)), (3, .int (iZ a3)), (4, .int (iZ (43 + (7 * a1))))] d_Md_put_84 (by decide) rfl (fun ls hl => ?_)
        refine m_aload_n C hl 1 d_Md_put_86 rfl rfl ?_
        refine m_getr C w.1 kc_Md sh_83 (Nat.le_of_ble_eq_true rfl) 1 84 rfl (by decide) fk_Md_7 d_Md_put_87 ?_
        refine m_iload C hl 5 d_Md_put_90 rfl ?_
        refine m_iconst C d_Md_put_92 ?_
        refine m_iadd C d_Md_put_93 ?_
        refine m_iload_n C hl 3 d_Md_put_94 rfl rfl ?_
        refine m_iast C w sh_84 (Nat.le_of_ble_eq_true rfl) (Nat.le_of_ble_eq_true rfl) hM d_Md_put_95 (fun h12 H locs w hM => ?_)
        refine m_aload_n C hl 1 d_Md_put_96 rfl rfl ?_
        refine m_getr C w.1 kc_Md sh_83 (Nat.le_of_ble_eq_true rfl) 1 84 rfl (by decide) fk_Md_7 d_Md_put_97 ?_
        refine m_iload C hl 5 d_Md_put_100 rfl ?_
        refine m_iconst C d_Md_put_102 ?_
        refine m_iadd C d_Md_put_103 ?_
        refine m_iload_n C hl 4 d_Md_put_104 rfl rfl ?_
        refine m_iast C w sh_84 (Nat.le_of_ble_eq_true rfl) (Nat.le_of_ble_eq_true rfl) hM d_Md_put_105 (fun h13 H locs w hM => ?_)
        refine m_iload C hl 0 d_Md_put_106 rfl ?_
        refine m_if_eq C hM 115 d_Md_put_108 (by decide) (fun hM => ?_) (fun hM => ?_)
        · refine m_iconst C d_Md_put_115 ?_
          exact m_iretW C w hr hlk hM d_Md_put_116
        · refine m_iconst C d_Md_put_111 ?_
          refine m_goto C 116 d_Md_put_112 (by decide) ?_
          exact m_iretW C w hr hlk hM d_Md_put_116
      refine m_icmp_ne C hM 79 d_Md_put_63 (by decide) (fun hM => ?_) (fun hM => ?_)
      · refine m_iconst C d_Md_put_79 ?_
        refine m_goto C 84 d_Md_put_80 (by decide) ?_
        exact hJ11 1 hM _ (lv_sub hl [1, 2, 3, 4, 0] rfl)
      · refine m_aload_n C hl 1 d_Md_put_66 rfl rfl ?_
        refine m_getr C w.1 kc_Md sh_83 (Nat.le_of_ble_eq_true rfl) 1 84 rfl (by decide) fk_Md_7 d_Md_put_67 ?_
        refine m_iload C hl 0 d_Md_put_70 rfl ?_
        refine m_iconst C d_Md_put_72 ?_
        refine m_iadd C d_Md_put_73 ?_
        refine m_iald C w.1 sh_84 (Nat.le_of_ble_eq_true rfl) (Nat.le_of_ble_eq_true rfl) hM d_Md_put_74 (fun x14 hM => ?_)
        refine m_iload_n C hl 4 d_Md_put_75 rfl rfl ?_
        refine m_icmp_eq C hM 83 d_Md_put_76 (by decide) (fun hM => ?_) (fun hM => ?_)
        · refine m_iconst C d_Md_put_83 ?_
          exact hJ11 0 hM _ (lv_sub hl [1, 2, 3, 4, 0] rfl)
        · refine m_iconst C d_Md_put_79 ?_
          refine m_goto C 84 d_Md_put_80 (by decide) ?_
          exact hJ11 1 hM _ (lv_sub hl [1, 2, 3, 4, 0] rfl)
    · refine m_iconst C d_Md_put_38 ?_
      exact m_iretW C w hr hlk hM d_Md_put_39
  refine m_if_ne C hM 13 d_Md_put_6 (by decide) (fun hM => ?_) (fun hM => ?_)
  · refine m_aload_n C hl 0 d_Md_put_13 rfl rfl ?_
    refine m_iload_n C hl 1 d_Md_put_14 rfl rfl ?_
    refine m_iload_n C hl 2 d_Md_put_15 rfl rfl ?_
    refine m_iload_n C hl 3 d_Md_put_16 rfl rfl ?_
    obtain ⟨x16, e15, hM⟩ := bnd_some hM
    refine aftR (runV C w.1 w.2 kc_Md sh_83 (Nat.le_of_ble_eq_true rfl) (c_Md_canPut hI e15) lk_Md_323 mb_Md_canPut rfl ⟨Nat.le_of_ble_eq_true rfl, Nat.le_of_ble_eq_true rfl⟩ ⟨Nat.zero_le _, Nat.zero_le _⟩ (Nat.le_of_ble_eq_true rfl) d_Md_put_17 hl.1 (rest := [.ref (ad 83)]) rfl) ?_
    refine m_if_ne C hM 27 d_Md_put_20 (by decide) (fun hM => ?_) (fun hM => ?_)
    · refine m_iconst C d_Md_put_27 ?_
      exact hJ5 0 hM _ hl
    · refine m_iconst C d_Md_put_23 ?_
      refine m_goto C 28 d_Md_put_24 (by decide) ?_
      exact hJ5 2 hM _ hl
  · refine m_iconst C d_Md_put_9 ?_
    refine m_goto C 28 d_Md_put_10 (by decide) ?_
    exact hJ5 1 hM _ hl
def y_Md_reach : MethodName := ⟨"FeastBookModel", "reach", "(I)I"⟩
theorem d_Md_reach_0 : decode prog_13_method_80_code 0 = .ok (.aload_n 0, 1) := by decide +kernel
theorem d_Md_reach_1 : decode prog_13_method_80_code 1 = .ok (.aload_n 0, 1) := by decide +kernel
theorem d_Md_reach_2 : decode prog_13_method_80_code 2 = .ok (.invokevirtual 58, 3) := by decide +kernel
theorem d_Md_reach_5 : decode prog_13_method_80_code 5 = .ok (.ifCond .ne 7, 3) := by decide +kernel
theorem d_Md_reach_8 : decode prog_13_method_80_code 8 = .ok (.iconst 1, 1) := by decide +kernel
theorem d_Md_reach_9 : decode prog_13_method_80_code 9 = .ok (.goto 18, 3) := by decide +kernel
theorem d_Md_reach_12 : decode prog_13_method_80_code 12 = .ok (.iload_n 1, 1) := by decide +kernel
theorem d_Md_reach_13 : decode prog_13_method_80_code 13 = .ok (.iconst 1, 1) := by decide +kernel
theorem d_Md_reach_14 : decode prog_13_method_80_code 14 = .ok (.bipush 60, 2) := by decide +kernel
theorem d_Md_reach_16 : decode prog_13_method_80_code 16 = .ok (.invokestatic 54, 3) := by decide +kernel
theorem d_Md_reach_19 : decode prog_13_method_80_code 19 = .ok (.ifCond .ne 7, 3) := by decide +kernel
theorem d_Md_reach_22 : decode prog_13_method_80_code 22 = .ok (.iconst 2, 1) := by decide +kernel
theorem d_Md_reach_23 : decode prog_13_method_80_code 23 = .ok (.goto 4, 3) := by decide +kernel
theorem d_Md_reach_26 : decode prog_13_method_80_code 26 = .ok (.iconst 0, 1) := by decide +kernel
theorem d_Md_reach_27 : decode prog_13_method_80_code 27 = .ok (.putfield 51, 3) := by decide +kernel
theorem d_Md_reach_30 : decode prog_13_method_80_code 30 = .ok (.aload_n 0, 1) := by decide +kernel
theorem d_Md_reach_31 : decode prog_13_method_80_code 31 = .ok (.getfield 51, 3) := by decide +kernel
theorem d_Md_reach_34 : decode prog_13_method_80_code 34 = .ok (.ifCond .le 7, 3) := by decide +kernel
theorem d_Md_reach_37 : decode prog_13_method_80_code 37 = .ok (.iconst 0, 1) := by decide +kernel
theorem d_Md_reach_38 : decode prog_13_method_80_code 38 = .ok (.goto 10, 3) := by decide +kernel
theorem d_Md_reach_41 : decode prog_13_method_80_code 41 = .ok (.aload_n 0, 1) := by decide +kernel
theorem d_Md_reach_42 : decode prog_13_method_80_code 42 = .ok (.bipush 16, 2) := by decide +kernel
theorem d_Md_reach_44 : decode prog_13_method_80_code 44 = .ok (.iload_n 1, 1) := by decide +kernel
theorem d_Md_reach_45 : decode prog_13_method_80_code 45 = .ok (.invokevirtual 320, 3) := by decide +kernel
theorem d_Md_reach_48 : decode prog_13_method_80_code 48 = .ok (.ireturn, 1) := by decide +kernel
set_option maxHeartbeats 4000000 in
set_option maxRecDepth 100000 in
theorem c_Md_reach {l : Launch} {D : va_G} {ad : Nat → Nat} {cA : Nat → ClassId} {sd sv : Nat → Nat} {h : Hp} {N : Nat} {a1 : Int} {out : (Int × Hp)} (hI : Inj97 ad) (hM : M_Md_reach N h a1 = some out) : Met l y_Md_reach (.code y_Md_reach prog_13_method_80_code 2 (some .int) :: TT) (rmD 2) (PC D ad cA sd sv h [.ref (ad 83), .int (iZ a1)]) (QI D ad cA out) 0 0 (FA ad) := by
  unfold M_Md_reach at hM
  refine entM (by decide +kernel) hI (Nat.le_of_ble_eq_true rfl) ?_
  intro p e s m args below meth c C hr hlk hP ls hl
  have C : Cx p s m args c prog_13_method_80_code 2 "FeastBookModel" D ad cA sd sv (FA ad) := C
  have hl : lv_has ls 2 [(0, .ref (ad 83)), (1, .int (iZ a1))] := hl
  have w : Wd s D ad cA (FA ad) h s.heap [] := ⟨hP, va_S.rf⟩
  refine m_aload_n C hl 0 d_Md_reach_0 rfl rfl ?_
  refine m_aload_n C hl 0 d_Md_reach_1 rfl rfl ?_
  obtain ⟨x2, e1, hM⟩ := bnd_some hM
  refine aftR (runV C w.1 w.2 kc_Md sh_83 (Nat.le_of_ble_eq_true rfl) (c_Md_hasBook hI e1) lk_Md_58 mb_Md_hasBook rfl ⟨Nat.le_of_ble_eq_true rfl, Nat.le_of_ble_eq_true rfl⟩ ⟨Nat.zero_le _, Nat.zero_le _⟩ (Nat.le_of_ble_eq_true rfl) d_Md_reach_2 hl.1 (rest := [.ref (ad 83)]) rfl) ?_
  refine m_if_ne C hM 12 d_Md_reach_5 (by decide) (fun hM => ?_) (fun hM => ?_)
  · refine m_iload_n C hl 1 d_Md_reach_12 rfl rfl ?_
    refine m_iconst C d_Md_reach_13 ?_
    refine m_bipush C d_Md_reach_14 (by decide) ?_
    obtain ⟨x4, e3, hM⟩ := bnd_some hM
    refine aftR (runS C w.1 w.2 (c_Md_isIn hI e3) lk_Md_54 mb_Md_isIn rfl ⟨Nat.le_of_ble_eq_true rfl, Nat.le_of_ble_eq_true rfl⟩ ⟨Nat.zero_le _, Nat.zero_le _⟩ (Nat.le_of_ble_eq_true rfl) d_Md_reach_16 hl.1 (rest := [.ref (ad 83)]) rfl) ?_
    refine m_if_ne C hM 26 d_Md_reach_19 (by decide) (fun hM => ?_) (fun hM => ?_)
    · refine m_iconst C d_Md_reach_26 ?_
      refine m_puti C w kc_Md sh_83 (Nat.le_of_ble_eq_true rfl) 0 hM rfl (by decide) rfl rfl fk_Md_51 d_Md_reach_27 (fun h5 H locs w hM => ?_)
      refine m_aload_n C hl 0 d_Md_reach_30 rfl rfl ?_
      refine m_geti C w.1 kc_Md sh_83 (Nat.le_of_ble_eq_true rfl) 0 rfl (by decide) fk_Md_51 d_Md_reach_31 ?_
      refine m_if_le C hM 41 d_Md_reach_34 (by decide) (fun hM => ?_) (fun hM => ?_)
      · refine m_aload_n C hl 0 d_Md_reach_41 rfl rfl ?_
        refine m_bipush C d_Md_reach_42 (by decide) ?_
        refine m_iload_n C hl 1 d_Md_reach_44 rfl rfl ?_
        obtain ⟨q7, e6, hM⟩ := bnd_some hM
        refine aftI C w (runV C w.1 w.2 kc_Md sh_83 (Nat.le_of_ble_eq_true rfl) (c_Md_tells hI e6) lk_Md_320 mb_Md_tells rfl ⟨Nat.le_of_ble_eq_true rfl, Nat.le_of_ble_eq_true rfl⟩ ⟨Nat.zero_le _, Nat.zero_le _⟩ (Nat.le_of_ble_eq_true rfl) d_Md_reach_45 hl.1 (rest := []) rfl) (fun H locs w => ?_)
        exact m_iretW C w hr hlk hM d_Md_reach_48
      · refine m_iconst C d_Md_reach_37 ?_
        refine m_goto C 48 d_Md_reach_38 (by decide) ?_
        exact m_iretW C w hr hlk hM d_Md_reach_48
    · refine m_iconst C d_Md_reach_22 ?_
      refine m_goto C 27 d_Md_reach_23 (by decide) ?_
      refine m_puti C w kc_Md sh_83 (Nat.le_of_ble_eq_true rfl) 0 hM rfl (by decide) rfl rfl fk_Md_51 d_Md_reach_27 (fun h8 H locs w hM => ?_)
      refine m_aload_n C hl 0 d_Md_reach_30 rfl rfl ?_
      refine m_geti C w.1 kc_Md sh_83 (Nat.le_of_ble_eq_true rfl) 0 rfl (by decide) fk_Md_51 d_Md_reach_31 ?_
      refine m_if_le C hM 41 d_Md_reach_34 (by decide) (fun hM => ?_) (fun hM => ?_)
      · refine m_aload_n C hl 0 d_Md_reach_41 rfl rfl ?_
        refine m_bipush C d_Md_reach_42 (by decide) ?_
        refine m_iload_n C hl 1 d_Md_reach_44 rfl rfl ?_
        obtain ⟨q10, e9, hM⟩ := bnd_some hM
        refine aftI C w (runV C w.1 w.2 kc_Md sh_83 (Nat.le_of_ble_eq_true rfl) (c_Md_tells hI e9) lk_Md_320 mb_Md_tells rfl ⟨Nat.le_of_ble_eq_true rfl, Nat.le_of_ble_eq_true rfl⟩ ⟨Nat.zero_le _, Nat.zero_le _⟩ (Nat.le_of_ble_eq_true rfl) d_Md_reach_45 hl.1 (rest := []) rfl) (fun H locs w => ?_)
        exact m_iretW C w hr hlk hM d_Md_reach_48
      · refine m_iconst C d_Md_reach_37 ?_
        refine m_goto C 48 d_Md_reach_38 (by decide) ?_
        exact m_iretW C w hr hlk hM d_Md_reach_48
  · refine m_iconst C d_Md_reach_8 ?_
    refine m_goto C 27 d_Md_reach_9 (by decide) ?_
    refine m_puti C w kc_Md sh_83 (Nat.le_of_ble_eq_true rfl) 0 hM rfl (by decide) rfl rfl fk_Md_51 d_Md_reach_27 (fun h11 H locs w hM => ?_)
    refine m_aload_n C hl 0 d_Md_reach_30 rfl rfl ?_
    refine m_geti C w.1 kc_Md sh_83 (Nat.le_of_ble_eq_true rfl) 0 rfl (by decide) fk_Md_51 d_Md_reach_31 ?_
    refine m_if_le C hM 41 d_Md_reach_34 (by decide) (fun hM => ?_) (fun hM => ?_)
    · refine m_aload_n C hl 0 d_Md_reach_41 rfl rfl ?_
      refine m_bipush C d_Md_reach_42 (by decide) ?_
      refine m_iload_n C hl 1 d_Md_reach_44 rfl rfl ?_
      obtain ⟨q13, e12, hM⟩ := bnd_some hM
      refine aftI C w (runV C w.1 w.2 kc_Md sh_83 (Nat.le_of_ble_eq_true rfl) (c_Md_tells hI e12) lk_Md_320 mb_Md_tells rfl ⟨Nat.le_of_ble_eq_true rfl, Nat.le_of_ble_eq_true rfl⟩ ⟨Nat.zero_le _, Nat.zero_le _⟩ (Nat.le_of_ble_eq_true rfl) d_Md_reach_45 hl.1 (rest := []) rfl) (fun H locs w => ?_)
      exact m_iretW C w hr hlk hM d_Md_reach_48
    · refine m_iconst C d_Md_reach_37 ?_
      refine m_goto C 48 d_Md_reach_38 (by decide) ?_
      exact m_iretW C w hr hlk hM d_Md_reach_48
def y_Md_undo : MethodName := ⟨"FeastBookModel", "undo", "()I"⟩
theorem d_Md_undo_0 : decode prog_13_method_81_code 0 = .ok (.aload_n 0, 1) := by decide +kernel
theorem d_Md_undo_1 : decode prog_13_method_81_code 1 = .ok (.aload_n 0, 1) := by decide +kernel
theorem d_Md_undo_2 : decode prog_13_method_81_code 2 = .ok (.getfield 268, 3) := by decide +kernel
theorem d_Md_undo_5 : decode prog_13_method_81_code 5 = .ok (.ifCond .ne 7, 3) := by decide +kernel
theorem d_Md_undo_8 : decode prog_13_method_81_code 8 = .ok (.iconst 1, 1) := by decide +kernel
theorem d_Md_undo_9 : decode prog_13_method_81_code 9 = .ok (.goto 4, 3) := by decide +kernel
theorem d_Md_undo_12 : decode prog_13_method_81_code 12 = .ok (.iconst 0, 1) := by decide +kernel
theorem d_Md_undo_13 : decode prog_13_method_81_code 13 = .ok (.putfield 51, 3) := by decide +kernel
theorem d_Md_undo_16 : decode prog_13_method_81_code 16 = .ok (.aload_n 0, 1) := by decide +kernel
theorem d_Md_undo_17 : decode prog_13_method_81_code 17 = .ok (.getfield 51, 3) := by decide +kernel
theorem d_Md_undo_20 : decode prog_13_method_81_code 20 = .ok (.ifCond .le 5, 3) := by decide +kernel
theorem d_Md_undo_23 : decode prog_13_method_81_code 23 = .ok (.iconst 0, 1) := by decide +kernel
theorem d_Md_undo_24 : decode prog_13_method_81_code 24 = .ok (.ireturn, 1) := by decide +kernel
theorem d_Md_undo_25 : decode prog_13_method_81_code 25 = .ok (.aload_n 0, 1) := by decide +kernel
theorem d_Md_undo_26 : decode prog_13_method_81_code 26 = .ok (.dup, 1) := by decide +kernel
theorem d_Md_undo_27 : decode prog_13_method_81_code 27 = .ok (.getfield 268, 3) := by decide +kernel
theorem d_Md_undo_30 : decode prog_13_method_81_code 30 = .ok (.iconst 1, 1) := by decide +kernel
theorem d_Md_undo_31 : decode prog_13_method_81_code 31 = .ok (.isub, 1) := by decide +kernel
theorem d_Md_undo_32 : decode prog_13_method_81_code 32 = .ok (.putfield 268, 3) := by decide +kernel
theorem d_Md_undo_35 : decode prog_13_method_81_code 35 = .ok (.iconst 0, 1) := by decide +kernel
theorem d_Md_undo_36 : decode prog_13_method_81_code 36 = .ok (.istore_n 1, 1) := by decide +kernel
theorem d_Md_undo_37 : decode prog_13_method_81_code 37 = .ok (.iload_n 1, 1) := by decide +kernel
theorem d_Md_undo_38 : decode prog_13_method_81_code 38 = .ok (.bipush 127, 2) := by decide +kernel
theorem d_Md_undo_40 : decode prog_13_method_81_code 40 = .ok (.if_icmp .ge 29, 3) := by decide +kernel
theorem d_Md_undo_43 : decode prog_13_method_81_code 43 = .ok (.aload_n 0, 1) := by decide +kernel
theorem d_Md_undo_44 : decode prog_13_method_81_code 44 = .ok (.getfield 7, 3) := by decide +kernel
theorem d_Md_undo_47 : decode prog_13_method_81_code 47 = .ok (.iload_n 1, 1) := by decide +kernel
theorem d_Md_undo_48 : decode prog_13_method_81_code 48 = .ok (.aload_n 0, 1) := by decide +kernel
theorem d_Md_undo_49 : decode prog_13_method_81_code 49 = .ok (.getfield 13, 3) := by decide +kernel
theorem d_Md_undo_52 : decode prog_13_method_81_code 52 = .ok (.bipush 127, 2) := by decide +kernel
theorem d_Md_undo_54 : decode prog_13_method_81_code 54 = .ok (.aload_n 0, 1) := by decide +kernel
theorem d_Md_undo_55 : decode prog_13_method_81_code 55 = .ok (.getfield 268, 3) := by decide +kernel
theorem d_Md_undo_58 : decode prog_13_method_81_code 58 = .ok (.imul, 1) := by decide +kernel
theorem d_Md_undo_59 : decode prog_13_method_81_code 59 = .ok (.iload_n 1, 1) := by decide +kernel
theorem d_Md_undo_60 : decode prog_13_method_81_code 60 = .ok (.iadd, 1) := by decide +kernel
theorem d_Md_undo_61 : decode prog_13_method_81_code 61 = .ok (.iaload, 1) := by decide +kernel
theorem d_Md_undo_62 : decode prog_13_method_81_code 62 = .ok (.iastore, 1) := by decide +kernel
theorem d_Md_undo_63 : decode prog_13_method_81_code 63 = .ok (.iinc 1 1, 3) := by decide +kernel
theorem d_Md_undo_66 : decode prog_13_method_81_code 66 = .ok (.goto (-29), 3) := by decide +kernel
theorem d_Md_undo_69 : decode prog_13_method_81_code 69 = .ok (.aload_n 0, 1) := by decide +kernel
theorem d_Md_undo_70 : decode prog_13_method_81_code 70 = .ok (.getfield 268, 3) := by decide +kernel
theorem d_Md_undo_73 : decode prog_13_method_81_code 73 = .ok (.ireturn, 1) := by decide +kernel
set_option maxHeartbeats 4000000 in
set_option maxRecDepth 100000 in
theorem w_Md_undo_L37 {p : Program} {l : Launch} {e : Env} {s : State} {m : MethodId} {args : Array Value} {below : List Frame} {meth : Method} {c : Code} {D : va_G} {ad : Nat → Nat} {cA : Nat → ClassId} {sd sv : Nat → Nat} {out : (Int × Hp)} (N : Nat) (hI : Inj97 ad) (C : Cx p s m args c prog_13_method_81_code 2 "FeastBookModel" D ad cA sd sv (FA ad)) (hr : meth.sig.returnType = (some .int)) (hlk : meth.locks = false) : ∀ (n : Nat) (v1 : Int) (h : Hp) (H : Heap) (locs : List Loc), Wd s D ad cA (FA ad) h H locs → ∀ ls : Array Slot, lv_has ls 2 [(0, .ref (ad 83)), (1, .int (iZ v1))] → Md_undo_L37 N n v1 h = some out → W p l e (rmD 0) s m args below meth c H locs 0 0 (MQ below (QI D ad cA out) args s 0 0 (FA ad)) (F0 m 37 ls []) := by
  intro n
  induction n with
  | zero =>
    intro v1 h H locs w ls hl hM
    rw [Md_undo_L37] at hM
    cases hM
  | succ n ih =>
    intro v1 h H locs w ls hl hM
    rw [Md_undo_L37] at hM
    refine m_iload_n C hl 1 d_Md_undo_37 rfl rfl ?_
    refine m_bipush C d_Md_undo_38 (by decide) ?_
    refine m_icmp_ge C hM 69 d_Md_undo_40 (by decide) (fun hM => ?_) (fun hM => ?_)
    · refine m_aload_n C hl 0 d_Md_undo_69 rfl rfl ?_
      refine m_geti C w.1 kc_Md sh_83 (Nat.le_of_ble_eq_true rfl) 3 rfl (by decide) fk_Md_268 d_Md_undo_70 ?_
      exact m_iretW C w hr hlk hM d_Md_undo_73
    · refine m_aload_n C hl 0 d_Md_undo_43 rfl rfl ?_
      refine m_getr C w.1 kc_Md sh_83 (Nat.le_of_ble_eq_true rfl) 1 84 rfl (by decide) fk_Md_7 d_Md_undo_44 ?_
      refine m_iload_n C hl 1 d_Md_undo_47 rfl rfl ?_
      refine m_aload_n C hl 0 d_Md_undo_48 rfl rfl ?_
      refine m_getr C w.1 kc_Md sh_83 (Nat.le_of_ble_eq_true rfl) 2 85 rfl (by decide) fk_Md_13 d_Md_undo_49 ?_
      refine m_bipush C d_Md_undo_52 (by decide) ?_
      refine m_aload_n C hl 0 d_Md_undo_54 rfl rfl ?_
      refine m_geti C w.1 kc_Md sh_83 (Nat.le_of_ble_eq_true rfl) 3 rfl (by decide) fk_Md_268 d_Md_undo_55 ?_
      refine m_imul C d_Md_undo_58 ?_
      refine m_iload_n C hl 1 d_Md_undo_59 rfl rfl ?_
      refine m_iadd C d_Md_undo_60 ?_
      refine m_iald C w.1 sh_85 (Nat.le_of_ble_eq_true rfl) (Nat.le_of_ble_eq_true rfl) hM d_Md_undo_61 (fun x4 hM => ?_)
      refine m_iast C w sh_84 (Nat.le_of_ble_eq_true rfl) (Nat.le_of_ble_eq_true rfl) hM d_Md_undo_62 (fun h5 H locs w hM => ?_)
      refine m_iinc C hl 1 [(1, .int (iZ (v1 + 1))), (0, .ref (ad 83))] d_Md_undo_63 rfl (by decide) rfl (fun ls hl => ?_)
      refine m_goto C 37 d_Md_undo_66 (by decide) ?_
      exact ih (v1 + 1) h5 _ _ w _ (lv_sub hl [1, 0] rfl) hM
set_option maxHeartbeats 4000000 in
set_option maxRecDepth 100000 in
theorem c_Md_undo {l : Launch} {D : va_G} {ad : Nat → Nat} {cA : Nat → ClassId} {sd sv : Nat → Nat} {h : Hp} {N : Nat} {out : (Int × Hp)} (hI : Inj97 ad) (hM : M_Md_undo N h = some out) : Met l y_Md_undo (.code y_Md_undo prog_13_method_81_code 2 (some .int) :: TT) (rmD 0) (PC D ad cA sd sv h [.ref (ad 83)]) (QI D ad cA out) 0 0 (FA ad) := by
  unfold M_Md_undo at hM
  refine entM (by decide +kernel) hI (Nat.le_of_ble_eq_true rfl) ?_
  intro p e s m args below meth c C hr hlk hP ls hl
  have C : Cx p s m args c prog_13_method_81_code 2 "FeastBookModel" D ad cA sd sv (FA ad) := C
  have hl : lv_has ls 2 [(0, .ref (ad 83))] := hl
  have w : Wd s D ad cA (FA ad) h s.heap [] := ⟨hP, va_S.rf⟩
  refine m_aload_n C hl 0 d_Md_undo_0 rfl rfl ?_
  refine m_aload_n C hl 0 d_Md_undo_1 rfl rfl ?_
  refine m_geti C w.1 kc_Md sh_83 (Nat.le_of_ble_eq_true rfl) 3 rfl (by decide) fk_Md_268 d_Md_undo_2 ?_
  refine lt_join hM (fun j1 ej hM => ?_)
  have hJ1 : ∀ (s0_1 : Int), j1 s0_1 = some out → ∀ ls : Array Slot, lv_has ls 2 [(0, .ref (ad 83))] → W p l e (rmD 0) s m args below meth c s.heap [] 0 0 (MQ below (QI D ad cA out) args s 0 0 (FA ad)) (F0 m 13 ls [.int (iZ s0_1), .ref (ad 83)]) := by
    intro s0_1 hM ls hl
    subst ej
    dsimp only at hM
    refine m_puti C w kc_Md sh_83 (Nat.le_of_ble_eq_true rfl) 0 hM rfl (by decide) rfl rfl fk_Md_51 d_Md_undo_13 (fun h2 H locs w hM => ?_)
    refine m_aload_n C hl 0 d_Md_undo_16 rfl rfl ?_
    refine m_geti C w.1 kc_Md sh_83 (Nat.le_of_ble_eq_true rfl) 0 rfl (by decide) fk_Md_51 d_Md_undo_17 ?_
    refine m_if_le C hM 25 d_Md_undo_20 (by decide) (fun hM => ?_) (fun hM => ?_)
    · refine m_aload_n C hl 0 d_Md_undo_25 rfl rfl ?_
      refine m_dup C d_Md_undo_26 rfl ?_
      refine m_geti C w.1 kc_Md sh_83 (Nat.le_of_ble_eq_true rfl) 3 rfl (by decide) fk_Md_268 d_Md_undo_27 ?_
      refine m_iconst C d_Md_undo_30 ?_
      refine m_isub C d_Md_undo_31 ?_
      refine m_puti C w kc_Md sh_83 (Nat.le_of_ble_eq_true rfl) 3 hM rfl (by decide) rfl rfl fk_Md_268 d_Md_undo_32 (fun h3 H locs w hM => ?_)
      refine m_iconst C d_Md_undo_35 ?_
      refine m_istore_n C hl [(1, .int (iZ 0)), (0, .ref (ad 83))] d_Md_undo_36 rfl (by decide) rfl (fun ls hl => ?_)
      exact w_Md_undo_L37 N hI C hr hlk  _ 0 h3 _ _ w _ (lv_sub hl [1, 0] rfl) hM
    · refine m_iconst C d_Md_undo_23 ?_
      exact m_iretW C w hr hlk hM d_Md_undo_24
  refine m_if_ne C hM 12 d_Md_undo_5 (by decide) (fun hM => ?_) (fun hM => ?_)
  · refine m_iconst C d_Md_undo_12 ?_
    exact hJ1 0 hM _ hl
  · refine m_iconst C d_Md_undo_8 ?_
    refine m_goto C 13 d_Md_undo_9 (by decide) ?_
    exact hJ1 1 hM _ hl
def y_Md_cycle0 : MethodName := ⟨"FeastBookModel", "cycle0", "()I"⟩
theorem d_Md_cycle0_0 : decode prog_13_method_82_code 0 = .ok (.iconst 1, 1) := by decide +kernel
theorem d_Md_cycle0_1 : decode prog_13_method_82_code 1 = .ok (.istore_n 1, 1) := by decide +kernel
theorem d_Md_cycle0_2 : decode prog_13_method_82_code 2 = .ok (.aload_n 0, 1) := by decide +kernel
theorem d_Md_cycle0_3 : decode prog_13_method_82_code 3 = .ok (.iconst 0, 1) := by decide +kernel
theorem d_Md_cycle0_4 : decode prog_13_method_82_code 4 = .ok (.invokevirtual 139, 3) := by decide +kernel
theorem d_Md_cycle0_7 : decode prog_13_method_82_code 7 = .ok (.istore_n 2, 1) := by decide +kernel
theorem d_Md_cycle0_8 : decode prog_13_method_82_code 8 = .ok (.iload_n 1, 1) := by decide +kernel
theorem d_Md_cycle0_9 : decode prog_13_method_82_code 9 = .ok (.aload_n 0, 1) := by decide +kernel
theorem d_Md_cycle0_10 : decode prog_13_method_82_code 10 = .ok (.getfield 7, 3) := by decide +kernel
theorem d_Md_cycle0_13 : decode prog_13_method_82_code 13 = .ok (.bipush 12, 2) := by decide +kernel
theorem d_Md_cycle0_15 : decode prog_13_method_82_code 15 = .ok (.iaload, 1) := by decide +kernel
theorem d_Md_cycle0_16 : decode prog_13_method_82_code 16 = .ok (.irem, 1) := by decide +kernel
theorem d_Md_cycle0_17 : decode prog_13_method_82_code 17 = .ok (.ifCond .ne 36, 3) := by decide +kernel
theorem d_Md_cycle0_20 : decode prog_13_method_82_code 20 = .ok (.aload_n 0, 1) := by decide +kernel
theorem d_Md_cycle0_21 : decode prog_13_method_82_code 21 = .ok (.getfield 7, 3) := by decide +kernel
theorem d_Md_cycle0_24 : decode prog_13_method_82_code 24 = .ok (.bipush 10, 2) := by decide +kernel
theorem d_Md_cycle0_26 : decode prog_13_method_82_code 26 = .ok (.iaload, 1) := by decide +kernel
theorem d_Md_cycle0_27 : decode prog_13_method_82_code 27 = .ok (.ifCond .le 15, 3) := by decide +kernel
theorem d_Md_cycle0_30 : decode prog_13_method_82_code 30 = .ok (.iload_n 1, 1) := by decide +kernel
theorem d_Md_cycle0_31 : decode prog_13_method_82_code 31 = .ok (.aload_n 0, 1) := by decide +kernel
theorem d_Md_cycle0_32 : decode prog_13_method_82_code 32 = .ok (.getfield 7, 3) := by decide +kernel
theorem d_Md_cycle0_35 : decode prog_13_method_82_code 35 = .ok (.bipush 10, 2) := by decide +kernel
theorem d_Md_cycle0_37 : decode prog_13_method_82_code 37 = .ok (.iaload, 1) := by decide +kernel
theorem d_Md_cycle0_38 : decode prog_13_method_82_code 38 = .ok (.irem, 1) := by decide +kernel
theorem d_Md_cycle0_39 : decode prog_13_method_82_code 39 = .ok (.ifCond .ne 14, 3) := by decide +kernel
theorem d_Md_cycle0_42 : decode prog_13_method_82_code 42 = .ok (.iload_n 2, 1) := by decide +kernel
theorem d_Md_cycle0_43 : decode prog_13_method_82_code 43 = .ok (.aload_n 0, 1) := by decide +kernel
theorem d_Md_cycle0_44 : decode prog_13_method_82_code 44 = .ok (.getfield 7, 3) := by decide +kernel
theorem d_Md_cycle0_47 : decode prog_13_method_82_code 47 = .ok (.iconst 0, 1) := by decide +kernel
theorem d_Md_cycle0_48 : decode prog_13_method_82_code 48 = .ok (.iaload, 1) := by decide +kernel
theorem d_Md_cycle0_49 : decode prog_13_method_82_code 49 = .ok (.irem, 1) := by decide +kernel
theorem d_Md_cycle0_50 : decode prog_13_method_82_code 50 = .ok (.ifCond .eq 17, 3) := by decide +kernel
theorem d_Md_cycle0_53 : decode prog_13_method_82_code 53 = .ok (.iload_n 2, 1) := by decide +kernel
theorem d_Md_cycle0_54 : decode prog_13_method_82_code 54 = .ok (.aload_n 0, 1) := by decide +kernel
theorem d_Md_cycle0_55 : decode prog_13_method_82_code 55 = .ok (.iload_n 1, 1) := by decide +kernel
theorem d_Md_cycle0_56 : decode prog_13_method_82_code 56 = .ok (.invokevirtual 139, 3) := by decide +kernel
theorem d_Md_cycle0_59 : decode prog_13_method_82_code 59 = .ok (.iadd, 1) := by decide +kernel
theorem d_Md_cycle0_60 : decode prog_13_method_82_code 60 = .ok (.istore_n 2, 1) := by decide +kernel
theorem d_Md_cycle0_61 : decode prog_13_method_82_code 61 = .ok (.iinc 1 1, 3) := by decide +kernel
theorem d_Md_cycle0_64 : decode prog_13_method_82_code 64 = .ok (.goto (-56), 3) := by decide +kernel
theorem d_Md_cycle0_67 : decode prog_13_method_82_code 67 = .ok (.iload_n 1, 1) := by decide +kernel
theorem d_Md_cycle0_68 : decode prog_13_method_82_code 68 = .ok (.ireturn, 1) := by decide +kernel
set_option maxHeartbeats 4000000 in
set_option maxRecDepth 100000 in
theorem w_Md_cycle0_L8 {p : Program} {l : Launch} {e : Env} {s : State} {m : MethodId} {args : Array Value} {below : List Frame} {meth : Method} {c : Code} {D : va_G} {ad : Nat → Nat} {cA : Nat → ClassId} {sd sv : Nat → Nat} {out : Int} (N : Nat) (hI : Inj97 ad) (C : Cx p s m args c prog_13_method_82_code 3 "FeastBookModel" D ad cA sd sv (FA ad)) (hr : meth.sig.returnType = (some .int)) (hlk : meth.locks = false) (h : Hp) (hP : va_P D clL (wl ad cA h) s.heap) : ∀ (n : Nat) (v1 v2 : Int), ∀ ls : Array Slot, lv_has ls 3 [(0, .ref (ad 83)), (1, .int (iZ v1)), (2, .int (iZ v2))] → Md_cycle0_L8 N h n v1 v2 = some out → W p l e (rmD 2) s m args below meth c s.heap [] 0 0 (MQ below (QR out) args s 0 0 (fun _ => False)) (F0 m 8 ls []) := by
  intro n
  induction n with
  | zero =>
    intro v1 v2 ls hl hM
    rw [Md_cycle0_L8] at hM
    cases hM
  | succ n ih =>
    intro v1 v2 ls hl hM
    rw [Md_cycle0_L8] at hM
    refine m_iload_n C hl 1 d_Md_cycle0_8 rfl rfl ?_
    refine m_aload_n C hl 0 d_Md_cycle0_9 rfl rfl ?_
    refine m_getr C hP kc_Md sh_83 (Nat.le_of_ble_eq_true rfl) 1 84 rfl (by decide) fk_Md_7 d_Md_cycle0_10 ?_
    refine m_bipush C d_Md_cycle0_13 (by decide) ?_
    refine m_iald C hP sh_84 (Nat.le_of_ble_eq_true rfl) (Nat.le_of_ble_eq_true rfl) hM d_Md_cycle0_15 (fun x3 hM => ?_)
    refine m_irem C hM d_Md_cycle0_16 (fun x4 hM => ?_)
    refine m_if_ne C hM 53 d_Md_cycle0_17 (by decide) (fun hM => ?_) (fun hM => ?_)
    · refine m_iload_n C hl 2 d_Md_cycle0_53 rfl rfl ?_
      refine m_aload_n C hl 0 d_Md_cycle0_54 rfl rfl ?_
      refine m_iload_n C hl 1 d_Md_cycle0_55 rfl rfl ?_
      obtain ⟨x6, e5, hM⟩ := bnd_some hM
      refine aftR (runV C hP va_S.rf kc_Md sh_83 (Nat.le_of_ble_eq_true rfl) (c_Md_lengthOf hI e5) lk_Md_139 mb_Md_lengthOf rfl ⟨Nat.le_of_ble_eq_true rfl, Nat.le_of_ble_eq_true rfl⟩ ⟨Nat.zero_le _, Nat.zero_le _⟩ (Nat.le_of_ble_eq_true rfl) d_Md_cycle0_56 hl.1 (rest := [.int (iZ v2)]) rfl) ?_
      refine m_iadd C d_Md_cycle0_59 ?_
      refine m_istore_n C hl [(2, .int (iZ (v2 + x6))), (0, .ref (ad 83)), (1, .int (iZ v1))] d_Md_cycle0_60 rfl (by decide) rfl (fun ls hl => ?_)
      refine m_iinc C hl 2 [(1, .int (iZ (v1 + 1))), (2, .int (iZ (v2 + x6))), (0, .ref (ad 83))] d_Md_cycle0_61 rfl (by decide) rfl (fun ls hl => ?_)
      refine m_goto C 8 d_Md_cycle0_64 (by decide) ?_
      exact ih (v1 + 1) (v2 + x6) _ (lv_sub hl [2, 0, 1] rfl) hM
    · refine m_aload_n C hl 0 d_Md_cycle0_20 rfl rfl ?_
      refine m_getr C hP kc_Md sh_83 (Nat.le_of_ble_eq_true rfl) 1 84 rfl (by decide) fk_Md_7 d_Md_cycle0_21 ?_
      refine m_bipush C d_Md_cycle0_24 (by decide) ?_
      refine m_iald C hP sh_84 (Nat.le_of_ble_eq_true rfl) (Nat.le_of_ble_eq_true rfl) hM d_Md_cycle0_26 (fun x7 hM => ?_)
      refine lt_join hM (fun j12 ej hM => ?_)
      have hJ12 : j12  = some out → ∀ ls : Array Slot, lv_has ls 3 [(0, .ref (ad 83)), (1, .int (iZ v1)), (2, .int (iZ v2))] → W p l e (rmD 2) s m args below meth c s.heap [] 0 0 (MQ below (QR out) args s 0 0 (fun _ => False)) (F0 m 42 ls []) := by
        intro  hM ls hl
        subst ej
        skip
        refine m_iload_n C hl 2 d_Md_cycle0_42 rfl rfl ?_
        refine m_aload_n C hl 0 d_Md_cycle0_43 rfl rfl ?_
        refine m_getr C hP kc_Md sh_83 (Nat.le_of_ble_eq_true rfl) 1 84 rfl (by decide) fk_Md_7 d_Md_cycle0_44 ?_
        refine m_iconst C d_Md_cycle0_47 ?_
        refine m_iald C hP sh_84 (Nat.le_of_ble_eq_true rfl) (Nat.le_of_ble_eq_true rfl) hM d_Md_cycle0_48 (fun x13 hM => ?_)
        refine m_irem C hM d_Md_cycle0_49 (fun x14 hM => ?_)
        refine m_if_eq C hM 67 d_Md_cycle0_50 (by decide) (fun hM => ?_) (fun hM => ?_)
        · refine m_iload_n C hl 1 d_Md_cycle0_67 rfl rfl ?_
          exact m_iretR C hr hlk hM d_Md_cycle0_68
        · refine m_iload_n C hl 2 d_Md_cycle0_53 rfl rfl ?_
          refine m_aload_n C hl 0 d_Md_cycle0_54 rfl rfl ?_
          refine m_iload_n C hl 1 d_Md_cycle0_55 rfl rfl ?_
          obtain ⟨x16, e15, hM⟩ := bnd_some hM
          refine aftR (runV C hP va_S.rf kc_Md sh_83 (Nat.le_of_ble_eq_true rfl) (c_Md_lengthOf hI e15) lk_Md_139 mb_Md_lengthOf rfl ⟨Nat.le_of_ble_eq_true rfl, Nat.le_of_ble_eq_true rfl⟩ ⟨Nat.zero_le _, Nat.zero_le _⟩ (Nat.le_of_ble_eq_true rfl) d_Md_cycle0_56 hl.1 (rest := [.int (iZ v2)]) rfl) ?_
          refine m_iadd C d_Md_cycle0_59 ?_
          refine m_istore_n C hl [(2, .int (iZ (v2 + x16))), (0, .ref (ad 83)), (1, .int (iZ v1))] d_Md_cycle0_60 rfl (by decide) rfl (fun ls hl => ?_)
          refine m_iinc C hl 2 [(1, .int (iZ (v1 + 1))), (2, .int (iZ (v2 + x16))), (0, .ref (ad 83))] d_Md_cycle0_61 rfl (by decide) rfl (fun ls hl => ?_)
          refine m_goto C 8 d_Md_cycle0_64 (by decide) ?_
          exact ih (v1 + 1) (v2 + x16) _ (lv_sub hl [2, 0, 1] rfl) hM
      refine m_if_le C hM 42 d_Md_cycle0_27 (by decide) (fun hM => ?_) (fun hM => ?_)
      · exact hJ12  hM _ hl
      · refine m_iload_n C hl 1 d_Md_cycle0_30 rfl rfl ?_
        refine m_aload_n C hl 0 d_Md_cycle0_31 rfl rfl ?_
        refine m_getr C hP kc_Md sh_83 (Nat.le_of_ble_eq_true rfl) 1 84 rfl (by decide) fk_Md_7 d_Md_cycle0_32 ?_
        refine m_bipush C d_Md_cycle0_35 (by decide) ?_
        refine m_iald C hP sh_84 (Nat.le_of_ble_eq_true rfl) (Nat.le_of_ble_eq_true rfl) hM d_Md_cycle0_37 (fun x17 hM => ?_)
        refine m_irem C hM d_Md_cycle0_38 (fun x18 hM => ?_)
        refine m_if_ne C hM 53 d_Md_cycle0_39 (by decide) (fun hM => ?_) (fun hM => ?_)
        · refine m_iload_n C hl 2 d_Md_cycle0_53 rfl rfl ?_
          refine m_aload_n C hl 0 d_Md_cycle0_54 rfl rfl ?_
          refine m_iload_n C hl 1 d_Md_cycle0_55 rfl rfl ?_
          obtain ⟨x20, e19, hM⟩ := bnd_some hM
          refine aftR (runV C hP va_S.rf kc_Md sh_83 (Nat.le_of_ble_eq_true rfl) (c_Md_lengthOf hI e19) lk_Md_139 mb_Md_lengthOf rfl ⟨Nat.le_of_ble_eq_true rfl, Nat.le_of_ble_eq_true rfl⟩ ⟨Nat.zero_le _, Nat.zero_le _⟩ (Nat.le_of_ble_eq_true rfl) d_Md_cycle0_56 hl.1 (rest := [.int (iZ v2)]) rfl) ?_
          refine m_iadd C d_Md_cycle0_59 ?_
          refine m_istore_n C hl [(2, .int (iZ (v2 + x20))), (0, .ref (ad 83)), (1, .int (iZ v1))] d_Md_cycle0_60 rfl (by decide) rfl (fun ls hl => ?_)
          refine m_iinc C hl 2 [(1, .int (iZ (v1 + 1))), (2, .int (iZ (v2 + x20))), (0, .ref (ad 83))] d_Md_cycle0_61 rfl (by decide) rfl (fun ls hl => ?_)
          refine m_goto C 8 d_Md_cycle0_64 (by decide) ?_
          exact ih (v1 + 1) (v2 + x20) _ (lv_sub hl [2, 0, 1] rfl) hM
        · exact hJ12  hM _ hl
set_option maxHeartbeats 4000000 in
set_option maxRecDepth 100000 in
theorem c_Md_cycle0 {l : Launch} {D : va_G} {ad : Nat → Nat} {cA : Nat → ClassId} {sd sv : Nat → Nat} {h : Hp} {N : Nat} {out : Int} (hI : Inj97 ad) (hM : M_Md_cycle0 N h = some out) : Met l y_Md_cycle0 (.code y_Md_cycle0 prog_13_method_82_code 3 (some .int) :: TT) (rmD 2) (PC D ad cA sd sv h [.ref (ad 83)]) (QR out) 0 0 (fun _ => False) := by
  unfold M_Md_cycle0 at hM
  refine entM (by decide +kernel) hI (Nat.le_of_ble_eq_true rfl) ?_
  intro p e s m args below meth c C hr hlk hP ls hl
  have C : Cx p s m args c prog_13_method_82_code 3 "FeastBookModel" D ad cA sd sv (FA ad) := C
  have hl : lv_has ls 3 [(0, .ref (ad 83))] := hl
  refine m_iconst C d_Md_cycle0_0 ?_
  refine m_istore_n C hl [(1, .int (iZ 1)), (0, .ref (ad 83))] d_Md_cycle0_1 rfl (by decide) rfl (fun ls hl => ?_)
  refine m_aload_n C hl 1 d_Md_cycle0_2 rfl rfl ?_
  refine m_iconst C d_Md_cycle0_3 ?_
  obtain ⟨x2, e1, hM⟩ := bnd_some hM
  refine aftR (runV C hP va_S.rf kc_Md sh_83 (Nat.le_of_ble_eq_true rfl) (c_Md_lengthOf hI e1) lk_Md_139 mb_Md_lengthOf rfl ⟨Nat.le_of_ble_eq_true rfl, Nat.le_of_ble_eq_true rfl⟩ ⟨Nat.zero_le _, Nat.zero_le _⟩ (Nat.le_of_ble_eq_true rfl) d_Md_cycle0_4 hl.1 (rest := []) rfl) ?_
  refine m_istore_n C hl [(2, .int (iZ x2)), (1, .int (iZ 1)), (0, .ref (ad 83))] d_Md_cycle0_7 rfl (by decide) rfl (fun ls hl => ?_)
  exact w_Md_cycle0_L8 N hI C hr hlk  h hP _ 1 x2 _ (lv_sub hl [2, 1, 0] rfl) hM
def y_Md_cycle : MethodName := ⟨"FeastBookModel", "cycle", "()I"⟩
theorem d_Md_cycle_0 : decode prog_13_method_83_code 0 = .ok (.aload_n 0, 1) := by decide +kernel
theorem d_Md_cycle_1 : decode prog_13_method_83_code 1 = .ok (.aload_n 0, 1) := by decide +kernel
theorem d_Md_cycle_2 : decode prog_13_method_83_code 2 = .ok (.invokevirtual 58, 3) := by decide +kernel
theorem d_Md_cycle_5 : decode prog_13_method_83_code 5 = .ok (.ifCond .eq 7, 3) := by decide +kernel
theorem d_Md_cycle_8 : decode prog_13_method_83_code 8 = .ok (.iconst 0, 1) := by decide +kernel
theorem d_Md_cycle_9 : decode prog_13_method_83_code 9 = .ok (.goto 4, 3) := by decide +kernel
theorem d_Md_cycle_12 : decode prog_13_method_83_code 12 = .ok (.iconst 1, 1) := by decide +kernel
theorem d_Md_cycle_13 : decode prog_13_method_83_code 13 = .ok (.putfield 51, 3) := by decide +kernel
theorem d_Md_cycle_16 : decode prog_13_method_83_code 16 = .ok (.aload_n 0, 1) := by decide +kernel
theorem d_Md_cycle_17 : decode prog_13_method_83_code 17 = .ok (.getfield 51, 3) := by decide +kernel
theorem d_Md_cycle_20 : decode prog_13_method_83_code 20 = .ok (.ifCond .le 7, 3) := by decide +kernel
theorem d_Md_cycle_23 : decode prog_13_method_83_code 23 = .ok (.iconst 0, 1) := by decide +kernel
theorem d_Md_cycle_24 : decode prog_13_method_83_code 24 = .ok (.goto 7, 3) := by decide +kernel
theorem d_Md_cycle_27 : decode prog_13_method_83_code 27 = .ok (.aload_n 0, 1) := by decide +kernel
theorem d_Md_cycle_28 : decode prog_13_method_83_code 28 = .ok (.invokevirtual 326, 3) := by decide +kernel
theorem d_Md_cycle_31 : decode prog_13_method_83_code 31 = .ok (.ireturn, 1) := by decide +kernel
theorem mb_Md_cycle0 : MBv R_Md y_Md_cycle0 prog_13_method_82_code 3 (some .int) 0 := ⟨mT10 36 (by decide +kernel) (by decide +kernel), mTs 72 (by decide +kernel) (by decide +kernel), mT1 10 (by decide +kernel) (by decide +kernel), mT10 37 (by decide +kernel) (by decide +kernel), by decide, rfl, by decide +kernel, by decide +kernel, by decide +kernel⟩
theorem lk_Md_326 : Cond.methodLink "FeastBookModel" 326 y_Md_cycle0 ∈ TT := mT10 34 (by decide +kernel) (by decide +kernel)
set_option maxHeartbeats 4000000 in
set_option maxRecDepth 100000 in
theorem c_Md_cycle {l : Launch} {D : va_G} {ad : Nat → Nat} {cA : Nat → ClassId} {sd sv : Nat → Nat} {h : Hp} {N : Nat} {out : (Int × Hp)} (hI : Inj97 ad) (hM : M_Md_cycle N h = some out) : Met l y_Md_cycle (.code y_Md_cycle prog_13_method_83_code 1 (some .int) :: TT) (rmD 3) (PC D ad cA sd sv h [.ref (ad 83)]) (QI D ad cA out) 0 0 (FA ad) := by
  unfold M_Md_cycle at hM
  refine entM (by decide +kernel) hI (Nat.le_of_ble_eq_true rfl) ?_
  intro p e s m args below meth c C hr hlk hP ls hl
  have C : Cx p s m args c prog_13_method_83_code 1 "FeastBookModel" D ad cA sd sv (FA ad) := C
  have hl : lv_has ls 1 [(0, .ref (ad 83))] := hl
  have w : Wd s D ad cA (FA ad) h s.heap [] := ⟨hP, va_S.rf⟩
  refine m_aload_n C hl 0 d_Md_cycle_0 rfl rfl ?_
  refine m_aload_n C hl 0 d_Md_cycle_1 rfl rfl ?_
  obtain ⟨x2, e1, hM⟩ := bnd_some hM
  refine aftR (runV C w.1 w.2 kc_Md sh_83 (Nat.le_of_ble_eq_true rfl) (c_Md_hasBook hI e1) lk_Md_58 mb_Md_hasBook rfl ⟨Nat.le_of_ble_eq_true rfl, Nat.le_of_ble_eq_true rfl⟩ ⟨Nat.zero_le _, Nat.zero_le _⟩ (Nat.le_of_ble_eq_true rfl) d_Md_cycle_2 hl.1 (rest := [.ref (ad 83)]) rfl) ?_
  refine m_if_eq C hM 12 d_Md_cycle_5 (by decide) (fun hM => ?_) (fun hM => ?_)
  · refine m_iconst C d_Md_cycle_12 ?_
    refine m_puti C w kc_Md sh_83 (Nat.le_of_ble_eq_true rfl) 0 hM rfl (by decide) rfl rfl fk_Md_51 d_Md_cycle_13 (fun h3 H locs w hM => ?_)
    refine m_aload_n C hl 0 d_Md_cycle_16 rfl rfl ?_
    refine m_geti C w.1 kc_Md sh_83 (Nat.le_of_ble_eq_true rfl) 0 rfl (by decide) fk_Md_51 d_Md_cycle_17 ?_
    refine m_if_le C hM 27 d_Md_cycle_20 (by decide) (fun hM => ?_) (fun hM => ?_)
    · refine m_aload_n C hl 0 d_Md_cycle_27 rfl rfl ?_
      obtain ⟨x5, e4, hM⟩ := bnd_some hM
      refine aftR (runV C w.1 w.2 kc_Md sh_83 (Nat.le_of_ble_eq_true rfl) (c_Md_cycle0 hI e4) lk_Md_326 mb_Md_cycle0 rfl ⟨Nat.le_of_ble_eq_true rfl, Nat.le_of_ble_eq_true rfl⟩ ⟨Nat.zero_le _, Nat.zero_le _⟩ (Nat.le_of_ble_eq_true rfl) d_Md_cycle_28 hl.1 (rest := []) rfl) ?_
      exact m_iretW C w hr hlk hM d_Md_cycle_31
    · refine m_iconst C d_Md_cycle_23 ?_
      refine m_goto C 31 d_Md_cycle_24 (by decide) ?_
      exact m_iretW C w hr hlk hM d_Md_cycle_31
  · refine m_iconst C d_Md_cycle_8 ?_
    refine m_goto C 13 d_Md_cycle_9 (by decide) ?_
    refine m_puti C w kc_Md sh_83 (Nat.le_of_ble_eq_true rfl) 0 hM rfl (by decide) rfl rfl fk_Md_51 d_Md_cycle_13 (fun h6 H locs w hM => ?_)
    refine m_aload_n C hl 0 d_Md_cycle_16 rfl rfl ?_
    refine m_geti C w.1 kc_Md sh_83 (Nat.le_of_ble_eq_true rfl) 0 rfl (by decide) fk_Md_51 d_Md_cycle_17 ?_
    refine m_if_le C hM 27 d_Md_cycle_20 (by decide) (fun hM => ?_) (fun hM => ?_)
    · refine m_aload_n C hl 0 d_Md_cycle_27 rfl rfl ?_
      obtain ⟨x8, e7, hM⟩ := bnd_some hM
      refine aftR (runV C w.1 w.2 kc_Md sh_83 (Nat.le_of_ble_eq_true rfl) (c_Md_cycle0 hI e7) lk_Md_326 mb_Md_cycle0 rfl ⟨Nat.le_of_ble_eq_true rfl, Nat.le_of_ble_eq_true rfl⟩ ⟨Nat.zero_le _, Nat.zero_le _⟩ (Nat.le_of_ble_eq_true rfl) d_Md_cycle_28 hl.1 (rest := []) rfl) ?_
      exact m_iretW C w hr hlk hM d_Md_cycle_31
    · refine m_iconst C d_Md_cycle_23 ?_
      refine m_goto C 31 d_Md_cycle_24 (by decide) ?_
      exact m_iretW C w hr hlk hM d_Md_cycle_31
def y_Md_fates : MethodName := ⟨"FeastBookModel", "fates", "(IIZ)I"⟩
theorem d_Md_fates_0 : decode prog_13_method_84_code 0 = .ok (.aload_n 0, 1) := by decide +kernel
theorem d_Md_fates_1 : decode prog_13_method_84_code 1 = .ok (.aload_n 0, 1) := by decide +kernel
theorem d_Md_fates_2 : decode prog_13_method_84_code 2 = .ok (.iload_n 1, 1) := by decide +kernel
theorem d_Md_fates_3 : decode prog_13_method_84_code 3 = .ok (.invokevirtual 311, 3) := by decide +kernel
theorem d_Md_fates_6 : decode prog_13_method_84_code 6 = .ok (.ifCond .ne 7, 3) := by decide +kernel
theorem d_Md_fates_9 : decode prog_13_method_84_code 9 = .ok (.iconst 1, 1) := by decide +kernel
theorem d_Md_fates_10 : decode prog_13_method_84_code 10 = .ok (.goto 17, 3) := by decide +kernel
theorem d_Md_fates_13 : decode prog_13_method_84_code 13 = .ok (.iload_n 2, 1) := by decide +kernel
theorem d_Md_fates_14 : decode prog_13_method_84_code 14 = .ok (.iconst 0, 1) := by decide +kernel
theorem d_Md_fates_15 : decode prog_13_method_84_code 15 = .ok (.iconst 5, 1) := by decide +kernel
theorem d_Md_fates_16 : decode prog_13_method_84_code 16 = .ok (.invokestatic 54, 3) := by decide +kernel
theorem d_Md_fates_19 : decode prog_13_method_84_code 19 = .ok (.ifCond .ne 7, 3) := by decide +kernel
theorem d_Md_fates_22 : decode prog_13_method_84_code 22 = .ok (.iconst 2, 1) := by decide +kernel
theorem d_Md_fates_23 : decode prog_13_method_84_code 23 = .ok (.goto 4, 3) := by decide +kernel
theorem d_Md_fates_26 : decode prog_13_method_84_code 26 = .ok (.iconst 0, 1) := by decide +kernel
theorem d_Md_fates_27 : decode prog_13_method_84_code 27 = .ok (.putfield 51, 3) := by decide +kernel
theorem d_Md_fates_30 : decode prog_13_method_84_code 30 = .ok (.aload_n 0, 1) := by decide +kernel
theorem d_Md_fates_31 : decode prog_13_method_84_code 31 = .ok (.getfield 51, 3) := by decide +kernel
theorem d_Md_fates_34 : decode prog_13_method_84_code 34 = .ok (.ifCond .le 5, 3) := by decide +kernel
theorem d_Md_fates_37 : decode prog_13_method_84_code 37 = .ok (.iconst 0, 1) := by decide +kernel
theorem d_Md_fates_38 : decode prog_13_method_84_code 38 = .ok (.ireturn, 1) := by decide +kernel
theorem d_Md_fates_39 : decode prog_13_method_84_code 39 = .ok (.aload_n 0, 1) := by decide +kernel
theorem d_Md_fates_40 : decode prog_13_method_84_code 40 = .ok (.invokevirtual 326, 3) := by decide +kernel
theorem d_Md_fates_43 : decode prog_13_method_84_code 43 = .ok (.istore 4, 2) := by decide +kernel
theorem d_Md_fates_45 : decode prog_13_method_84_code 45 = .ok (.iconst 0, 1) := by decide +kernel
theorem d_Md_fates_46 : decode prog_13_method_84_code 46 = .ok (.istore 5, 2) := by decide +kernel
theorem d_Md_fates_48 : decode prog_13_method_84_code 48 = .ok (.iconst 0, 1) := by decide +kernel
theorem d_Md_fates_49 : decode prog_13_method_84_code 49 = .ok (.istore 6, 2) := by decide +kernel
theorem d_Md_fates_51 : decode prog_13_method_84_code 51 = .ok (.iload 6, 2) := by decide +kernel
theorem d_Md_fates_53 : decode prog_13_method_84_code 53 = .ok (.iload 4, 2) := by decide +kernel
theorem d_Md_fates_55 : decode prog_13_method_84_code 55 = .ok (.if_icmp .ge 38, 3) := by decide +kernel
theorem d_Md_fates_58 : decode prog_13_method_84_code 58 = .ok (.aload_n 0, 1) := by decide +kernel
theorem d_Md_fates_59 : decode prog_13_method_84_code 59 = .ok (.iload 6, 2) := by decide +kernel
theorem d_Md_fates_61 : decode prog_13_method_84_code 61 = .ok (.invokevirtual 283, 3) := by decide +kernel
theorem d_Md_fates_64 : decode prog_13_method_84_code 64 = .ok (.aload_n 0, 1) := by decide +kernel
theorem d_Md_fates_65 : decode prog_13_method_84_code 65 = .ok (.getfield 35, 3) := by decide +kernel
theorem d_Md_fates_68 : decode prog_13_method_84_code 68 = .ok (.iload_n 1, 1) := by decide +kernel
theorem d_Md_fates_69 : decode prog_13_method_84_code 69 = .ok (.iaload, 1) := by decide +kernel
theorem d_Md_fates_70 : decode prog_13_method_84_code 70 = .ok (.iload_n 2, 1) := by decide +kernel
theorem d_Md_fates_71 : decode prog_13_method_84_code 71 = .ok (.if_icmp .eq 6, 3) := by decide +kernel
theorem d_Md_fates_74 : decode prog_13_method_84_code 74 = .ok (.goto 13, 3) := by decide +kernel
theorem d_Md_fates_77 : decode prog_13_method_84_code 77 = .ok (.iload_n 3, 1) := by decide +kernel
theorem d_Md_fates_78 : decode prog_13_method_84_code 78 = .ok (.ifCond .eq 6, 3) := by decide +kernel
theorem d_Md_fates_81 : decode prog_13_method_84_code 81 = .ok (.iload 6, 2) := by decide +kernel
theorem d_Md_fates_83 : decode prog_13_method_84_code 83 = .ok (.ireturn, 1) := by decide +kernel
theorem d_Md_fates_84 : decode prog_13_method_84_code 84 = .ok (.iinc 5 1, 3) := by decide +kernel
theorem d_Md_fates_87 : decode prog_13_method_84_code 87 = .ok (.iinc 6 1, 3) := by decide +kernel
theorem d_Md_fates_90 : decode prog_13_method_84_code 90 = .ok (.goto (-39), 3) := by decide +kernel
theorem d_Md_fates_93 : decode prog_13_method_84_code 93 = .ok (.iload_n 3, 1) := by decide +kernel
theorem d_Md_fates_94 : decode prog_13_method_84_code 94 = .ok (.ifCond .eq 7, 3) := by decide +kernel
theorem d_Md_fates_97 : decode prog_13_method_84_code 97 = .ok (.iconst (-1), 1) := by decide +kernel
theorem d_Md_fates_98 : decode prog_13_method_84_code 98 = .ok (.goto 5, 3) := by decide +kernel
theorem d_Md_fates_101 : decode prog_13_method_84_code 101 = .ok (.iload 5, 2) := by decide +kernel
theorem d_Md_fates_103 : decode prog_13_method_84_code 103 = .ok (.ireturn, 1) := by decide +kernel
set_option maxHeartbeats 4000000 in
set_option maxRecDepth 100000 in
theorem w_Md_fates_L51 {p : Program} {l : Launch} {e : Env} {s : State} {m : MethodId} {args : Array Value} {below : List Frame} {meth : Method} {c : Code} {D : va_G} {ad : Nat → Nat} {cA : Nat → ClassId} {sd sv : Nat → Nat} {out : (Int × Hp)} (N : Nat) (hI : Inj97 ad) (C : Cx p s m args c prog_13_method_84_code 7 "FeastBookModel" D ad cA sd sv (FA ad)) (hr : meth.sig.returnType = (some .int)) (hlk : meth.locks = false) (v1 v2 v3 v4 : Int) : ∀ (n : Nat) (v5 v6 : Int) (h : Hp) (H : Heap) (locs : List Loc), Wd s D ad cA (FA ad) h H locs → ∀ ls : Array Slot, lv_has ls 7 [(0, .ref (ad 83)), (1, .int (iZ v1)), (2, .int (iZ v2)), (3, .int (iZ v3)), (4, .int (iZ v4)), (5, .int (iZ v5)), (6, .int (iZ v6))] → Md_fates_L51 N v1 v2 v3 v4 n v5 v6 h = some out → W p l e (rmD 8) s m args below meth c H locs 0 0 (MQ below (QI D ad cA out) args s 0 0 (FA ad)) (F0 m 51 ls []) := by
  intro n
  induction n with
  | zero =>
    intro v5 v6 h H locs w ls hl hM
    rw [Md_fates_L51] at hM
    cases hM
  | succ n ih =>
    intro v5 v6 h H locs w ls hl hM
    rw [Md_fates_L51] at hM
    refine m_iload C hl 6 d_Md_fates_51 rfl ?_
    refine m_iload C hl 4 d_Md_fates_53 rfl ?_
    refine m_icmp_ge C hM 93 d_Md_fates_55 (by decide) (fun hM => ?_) (fun hM => ?_)
    · refine m_iload_n C hl 3 d_Md_fates_93 rfl rfl ?_
      refine m_if_eq C hM 101 d_Md_fates_94 (by decide) (fun hM => ?_) (fun hM => ?_)
      · refine m_iload C hl 5 d_Md_fates_101 rfl ?_
        exact m_iretW C w hr hlk hM d_Md_fates_103
      · refine m_iconst C d_Md_fates_97 ?_
        refine m_goto C 103 d_Md_fates_98 (by decide) ?_
        exact m_iretW C w hr hlk hM d_Md_fates_103
    · refine m_aload_n C hl 0 d_Md_fates_58 rfl rfl ?_
      refine m_iload C hl 6 d_Md_fates_59 rfl ?_
      obtain ⟨h10, e9, hM⟩ := bnd_some hM
      refine aftV C w (runV C w.1 w.2 kc_Md sh_83 (Nat.le_of_ble_eq_true rfl) (c_Md_resolves hI e9) lk_Md_283 mb_Md_resolves rfl ⟨Nat.le_of_ble_eq_true rfl, Nat.le_of_ble_eq_true rfl⟩ ⟨Nat.zero_le _, Nat.zero_le _⟩ (Nat.le_of_ble_eq_true rfl) d_Md_fates_61 hl.1 (rest := []) rfl) (fun H locs w => ?_)
      refine m_aload_n C hl 0 d_Md_fates_64 rfl rfl ?_
      refine m_getr C w.1 kc_Md sh_83 (Nat.le_of_ble_eq_true rfl) 18 91 rfl (by decide) fk_Md_35 d_Md_fates_65 ?_
      refine m_iload_n C hl 1 d_Md_fates_68 rfl rfl ?_
      refine m_iald C w.1 sh_91 (Nat.le_of_ble_eq_true rfl) (Nat.le_of_ble_eq_true rfl) hM d_Md_fates_69 (fun x11 hM => ?_)
      refine m_iload_n C hl 2 d_Md_fates_70 rfl rfl ?_
      refine m_icmp_eq C hM 77 d_Md_fates_71 (by decide) (fun hM => ?_) (fun hM => ?_)
      · refine m_iload_n C hl 3 d_Md_fates_77 rfl rfl ?_
        refine m_if_eq C hM 84 d_Md_fates_78 (by decide) (fun hM => ?_) (fun hM => ?_)
        · refine m_iinc C hl 5 [(5, .int (iZ (v5 + 1))), (0, .ref (ad 83)), (1, .int (iZ v1)), (2, .int (iZ v2)), (3, .int (iZ v3)), (4, .int (iZ v4)), (6, .int (iZ v6))] d_Md_fates_84 rfl (by decide) rfl (fun ls hl => ?_)
          refine m_iinc C hl 6 [(6, .int (iZ (v6 + 1))), (5, .int (iZ (v5 + 1))), (0, .ref (ad 83)), (1, .int (iZ v1)), (2, .int (iZ v2)), (3, .int (iZ v3)), (4, .int (iZ v4))] d_Md_fates_87 rfl (by decide) rfl (fun ls hl => ?_)
          refine m_goto C 51 d_Md_fates_90 (by decide) ?_
          exact ih (v5 + 1) (v6 + 1) h10 _ _ w _ (lv_sub hl [2, 3, 4, 5, 6, 1, 0] rfl) hM
        · refine m_iload C hl 6 d_Md_fates_81 rfl ?_
          exact m_iretW C w hr hlk hM d_Md_fates_83
      · refine m_goto C 87 d_Md_fates_74 (by decide) ?_
        refine m_iinc C hl 6 [(6, .int (iZ (v6 + 1))), (0, .ref (ad 83)), (1, .int (iZ v1)), (2, .int (iZ v2)), (3, .int (iZ v3)), (4, .int (iZ v4)), (5, .int (iZ v5))] d_Md_fates_87 rfl (by decide) rfl (fun ls hl => ?_)
        refine m_goto C 51 d_Md_fates_90 (by decide) ?_
        exact ih v5 (v6 + 1) h10 _ _ w _ (lv_sub hl [1, 2, 3, 4, 5, 6, 0] rfl) hM
set_option maxHeartbeats 4000000 in
set_option maxRecDepth 100000 in
theorem c_Md_fates {l : Launch} {D : va_G} {ad : Nat → Nat} {cA : Nat → ClassId} {sd sv : Nat → Nat} {h : Hp} {N : Nat} {a1 a2 a3 : Int} {out : (Int × Hp)} (hI : Inj97 ad) (hM : M_Md_fates N h a1 a2 a3 = some out) : Met l y_Md_fates (.code y_Md_fates prog_13_method_84_code 7 (some .int) :: TT) (rmD 8) (PC D ad cA sd sv h [.ref (ad 83), .int (iZ a1), .int (iZ a2), .int (iZ a3)]) (QI D ad cA out) 0 0 (FA ad) := by
  unfold M_Md_fates at hM
  refine entM (by decide +kernel) hI (Nat.le_of_ble_eq_true rfl) ?_
  intro p e s m args below meth c C hr hlk hP ls hl
  have C : Cx p s m args c prog_13_method_84_code 7 "FeastBookModel" D ad cA sd sv (FA ad) := C
  have hl : lv_has ls 7 [(0, .ref (ad 83)), (1, .int (iZ a1)), (2, .int (iZ a2)), (3, .int (iZ a3))] := hl
  have w : Wd s D ad cA (FA ad) h s.heap [] := ⟨hP, va_S.rf⟩
  refine m_aload_n C hl 0 d_Md_fates_0 rfl rfl ?_
  refine m_aload_n C hl 0 d_Md_fates_1 rfl rfl ?_
  refine m_iload_n C hl 1 d_Md_fates_2 rfl rfl ?_
  obtain ⟨x2, e1, hM⟩ := bnd_some hM
  refine aftR (runV C w.1 w.2 kc_Md sh_83 (Nat.le_of_ble_eq_true rfl) (c_Md_isFeast hI e1) lk_Md_311 mb_Md_isFeast rfl ⟨Nat.le_of_ble_eq_true rfl, Nat.le_of_ble_eq_true rfl⟩ ⟨Nat.zero_le _, Nat.zero_le _⟩ (Nat.le_of_ble_eq_true rfl) d_Md_fates_3 hl.1 (rest := [.ref (ad 83)]) rfl) ?_
  refine lt_join hM (fun j5 ej hM => ?_)
  have hJ5 : ∀ (s0_5 : Int), j5 s0_5 = some out → ∀ ls : Array Slot, lv_has ls 7 [(0, .ref (ad 83)), (1, .int (iZ a1)), (2, .int (iZ a2)), (3, .int (iZ a3))] → W p l e (rmD 8) s m args below meth c s.heap [] 0 0 (MQ below (QI D ad cA out) args s 0 0 (FA ad)) (F0 m 27 ls [.int (iZ s0_5), .ref (ad 83)]) := by
    intro s0_5 hM ls hl
    subst ej
    dsimp only at hM
    refine m_puti C w kc_Md sh_83 (Nat.le_of_ble_eq_true rfl) 0 hM rfl (by decide) rfl rfl fk_Md_51 d_Md_fates_27 (fun h6 H locs w hM => ?_)
    refine m_aload_n C hl 0 d_Md_fates_30 rfl rfl ?_
    refine m_geti C w.1 kc_Md sh_83 (Nat.le_of_ble_eq_true rfl) 0 rfl (by decide) fk_Md_51 d_Md_fates_31 ?_
    refine m_if_le C hM 39 d_Md_fates_34 (by decide) (fun hM => ?_) (fun hM => ?_)
    · refine m_aload_n C hl 0 d_Md_fates_39 rfl rfl ?_
      obtain ⟨x8, e7, hM⟩ := bnd_some hM
      refine aftR (runV C w.1 w.2 kc_Md sh_83 (Nat.le_of_ble_eq_true rfl) (c_Md_cycle0 hI e7) lk_Md_326 mb_Md_cycle0 rfl ⟨Nat.le_of_ble_eq_true rfl, Nat.le_of_ble_eq_true rfl⟩ ⟨Nat.zero_le _, Nat.zero_le _⟩ (Nat.le_of_ble_eq_true rfl) d_Md_fates_40 hl.1 (rest := []) rfl) ?_
      refine m_istore C hl [(4, .int (iZ x8)), (0, .ref (ad 83)), (1, .int (iZ a1)), (2, .int (iZ a2)), (3, .int (iZ a3))] d_Md_fates_43 (by decide) rfl (fun ls hl => ?_)
      refine m_iconst C d_Md_fates_45 ?_
      refine m_istore C hl [(5, .int (iZ 0)), (4, .int (iZ x8)), (0, .ref (ad 83)), (1, .int (iZ a1)), (2, .int (iZ a2)), (3, .int (iZ a3))] d_Md_fates_46 (by decide) rfl (fun ls hl => ?_)
      refine m_iconst C d_Md_fates_48 ?_
      refine m_istore C hl [(6, .int (iZ 0)), (5, .int (iZ 0)), (4, .int (iZ x8)), (0, .ref (ad 83)), (1, .int (iZ a1)), (2, .int (iZ a2)), (3, .int (iZ a3))] d_Md_fates_49 (by decide) rfl (fun ls hl => ?_)
      exact w_Md_fates_L51 N hI C hr hlk a1 a2 a3 x8 _ 0 0 h6 _ _ w _ (lv_sub hl [3, 4, 5, 6, 2, 1, 0] rfl) hM
    · refine m_iconst C d_Md_fates_37 ?_
      exact m_iretW C w hr hlk hM d_Md_fates_38
  refine m_if_ne C hM 13 d_Md_fates_6 (by decide) (fun hM => ?_) (fun hM => ?_)
  · refine m_iload_n C hl 2 d_Md_fates_13 rfl rfl ?_
    refine m_iconst C d_Md_fates_14 ?_
    refine m_iconst C d_Md_fates_15 ?_
    obtain ⟨x13, e12, hM⟩ := bnd_some hM
    refine aftR (runS C w.1 w.2 (c_Md_isIn hI e12) lk_Md_54 mb_Md_isIn rfl ⟨Nat.le_of_ble_eq_true rfl, Nat.le_of_ble_eq_true rfl⟩ ⟨Nat.zero_le _, Nat.zero_le _⟩ (Nat.le_of_ble_eq_true rfl) d_Md_fates_16 hl.1 (rest := [.ref (ad 83)]) rfl) ?_
    refine m_if_ne C hM 26 d_Md_fates_19 (by decide) (fun hM => ?_) (fun hM => ?_)
    · refine m_iconst C d_Md_fates_26 ?_
      exact hJ5 0 hM _ hl
    · refine m_iconst C d_Md_fates_22 ?_
      refine m_goto C 27 d_Md_fates_23 (by decide) ?_
      exact hJ5 2 hM _ hl
  · refine m_iconst C d_Md_fates_9 ?_
    refine m_goto C 27 d_Md_fates_10 (by decide) ?_
    exact hJ5 1 hM _ hl
def y_Md_apart : MethodName := ⟨"FeastBookModel", "apart", "(II)I"⟩
theorem d_Md_apart_0 : decode prog_13_method_4_code 0 = .ok (.iload_n 0, 1) := by decide +kernel
theorem d_Md_apart_1 : decode prog_13_method_4_code 1 = .ok (.iload_n 1, 1) := by decide +kernel
theorem d_Md_apart_2 : decode prog_13_method_4_code 2 = .ok (.if_icmp .ge 9, 3) := by decide +kernel
theorem d_Md_apart_5 : decode prog_13_method_4_code 5 = .ok (.iload_n 1, 1) := by decide +kernel
theorem d_Md_apart_6 : decode prog_13_method_4_code 6 = .ok (.iload_n 0, 1) := by decide +kernel
theorem d_Md_apart_7 : decode prog_13_method_4_code 7 = .ok (.isub, 1) := by decide +kernel
theorem d_Md_apart_8 : decode prog_13_method_4_code 8 = .ok (.goto 6, 3) := by decide +kernel
theorem d_Md_apart_11 : decode prog_13_method_4_code 11 = .ok (.iload_n 0, 1) := by decide +kernel
theorem d_Md_apart_12 : decode prog_13_method_4_code 12 = .ok (.iload_n 1, 1) := by decide +kernel
theorem d_Md_apart_13 : decode prog_13_method_4_code 13 = .ok (.isub, 1) := by decide +kernel
theorem d_Md_apart_14 : decode prog_13_method_4_code 14 = .ok (.ireturn, 1) := by decide +kernel
set_option maxHeartbeats 4000000 in
set_option maxRecDepth 100000 in
theorem c_Md_apart {l : Launch} {D : va_G} {ad : Nat → Nat} {cA : Nat → ClassId} {sd sv : Nat → Nat} {h : Hp} {a0 a1 : Int} {out : Int} (hI : Inj97 ad) (hM : M_Md_apart a0 a1 = some out) : Met l y_Md_apart (.code y_Md_apart prog_13_method_4_code 2 (some .int) :: TT) (rmD 0) (PC D ad cA sd sv h [.int (iZ a0), .int (iZ a1)]) (QR out) 0 0 (fun _ => False) := by
  unfold M_Md_apart at hM
  refine entM (by decide +kernel) hI (Nat.le_of_ble_eq_true rfl) ?_
  intro p e s m args below meth c C hr hlk hP ls hl
  have C : Cx p s m args c prog_13_method_4_code 2 "FeastBookModel" D ad cA sd sv (FA ad) := C
  have hl : lv_has ls 2 [(0, .int (iZ a0)), (1, .int (iZ a1))] := hl
  refine m_iload_n C hl 0 d_Md_apart_0 rfl rfl ?_
  refine m_iload_n C hl 1 d_Md_apart_1 rfl rfl ?_
  refine m_icmp_ge C hM 11 d_Md_apart_2 (by decide) (fun hM => ?_) (fun hM => ?_)
  · refine m_iload_n C hl 0 d_Md_apart_11 rfl rfl ?_
    refine m_iload_n C hl 1 d_Md_apart_12 rfl rfl ?_
    refine m_isub C d_Md_apart_13 ?_
    exact m_iretR C hr hlk hM d_Md_apart_14
  · refine m_iload_n C hl 1 d_Md_apart_5 rfl rfl ?_
    refine m_iload_n C hl 0 d_Md_apart_6 rfl rfl ?_
    refine m_isub C d_Md_apart_7 ?_
    refine m_goto C 14 d_Md_apart_8 (by decide) ?_
    exact m_iretR C hr hlk hM d_Md_apart_14
def y_Md_far : MethodName := ⟨"FeastBookModel", "far", "(I)I"⟩
theorem d_Md_far_0 : decode prog_13_method_85_code 0 = .ok (.aload_n 0, 1) := by decide +kernel
theorem d_Md_far_1 : decode prog_13_method_85_code 1 = .ok (.aload_n 0, 1) := by decide +kernel
theorem d_Md_far_2 : decode prog_13_method_85_code 2 = .ok (.iload_n 1, 1) := by decide +kernel
theorem d_Md_far_3 : decode prog_13_method_85_code 3 = .ok (.invokevirtual 311, 3) := by decide +kernel
theorem d_Md_far_6 : decode prog_13_method_85_code 6 = .ok (.ifCond .eq 7, 3) := by decide +kernel
theorem d_Md_far_9 : decode prog_13_method_85_code 9 = .ok (.iconst 0, 1) := by decide +kernel
theorem d_Md_far_10 : decode prog_13_method_85_code 10 = .ok (.goto 4, 3) := by decide +kernel
theorem d_Md_far_13 : decode prog_13_method_85_code 13 = .ok (.iconst 1, 1) := by decide +kernel
theorem d_Md_far_14 : decode prog_13_method_85_code 14 = .ok (.putfield 51, 3) := by decide +kernel
theorem d_Md_far_17 : decode prog_13_method_85_code 17 = .ok (.aload_n 0, 1) := by decide +kernel
theorem d_Md_far_18 : decode prog_13_method_85_code 18 = .ok (.getfield 51, 3) := by decide +kernel
theorem d_Md_far_21 : decode prog_13_method_85_code 21 = .ok (.ifCond .le 5, 3) := by decide +kernel
theorem d_Md_far_24 : decode prog_13_method_85_code 24 = .ok (.iconst 0, 1) := by decide +kernel
theorem d_Md_far_25 : decode prog_13_method_85_code 25 = .ok (.ireturn, 1) := by decide +kernel
theorem d_Md_far_26 : decode prog_13_method_85_code 26 = .ok (.aload_n 0, 1) := by decide +kernel
theorem d_Md_far_27 : decode prog_13_method_85_code 27 = .ok (.invokevirtual 326, 3) := by decide +kernel
theorem d_Md_far_30 : decode prog_13_method_85_code 30 = .ok (.istore_n 2, 1) := by decide +kernel
theorem d_Md_far_31 : decode prog_13_method_85_code 31 = .ok (.iconst 0, 1) := by decide +kernel
theorem d_Md_far_32 : decode prog_13_method_85_code 32 = .ok (.istore_n 3, 1) := by decide +kernel
theorem d_Md_far_33 : decode prog_13_method_85_code 33 = .ok (.iconst 0, 1) := by decide +kernel
theorem d_Md_far_34 : decode prog_13_method_85_code 34 = .ok (.istore 4, 2) := by decide +kernel
theorem d_Md_far_36 : decode prog_13_method_85_code 36 = .ok (.iload 4, 2) := by decide +kernel
theorem d_Md_far_38 : decode prog_13_method_85_code 38 = .ok (.iload_n 2, 1) := by decide +kernel
theorem d_Md_far_39 : decode prog_13_method_85_code 39 = .ok (.if_icmp .ge 55, 3) := by decide +kernel
theorem d_Md_far_42 : decode prog_13_method_85_code 42 = .ok (.aload_n 0, 1) := by decide +kernel
theorem d_Md_far_43 : decode prog_13_method_85_code 43 = .ok (.iload 4, 2) := by decide +kernel
theorem d_Md_far_45 : decode prog_13_method_85_code 45 = .ok (.invokevirtual 283, 3) := by decide +kernel
theorem d_Md_far_48 : decode prog_13_method_85_code 48 = .ok (.aload_n 0, 1) := by decide +kernel
theorem d_Md_far_49 : decode prog_13_method_85_code 49 = .ok (.getfield 35, 3) := by decide +kernel
theorem d_Md_far_52 : decode prog_13_method_85_code 52 = .ok (.iload_n 1, 1) := by decide +kernel
theorem d_Md_far_53 : decode prog_13_method_85_code 53 = .ok (.iaload, 1) := by decide +kernel
theorem d_Md_far_54 : decode prog_13_method_85_code 54 = .ok (.iconst 1, 1) := by decide +kernel
theorem d_Md_far_55 : decode prog_13_method_85_code 55 = .ok (.if_icmp .ne 21, 3) := by decide +kernel
theorem d_Md_far_58 : decode prog_13_method_85_code 58 = .ok (.aload_n 0, 1) := by decide +kernel
theorem d_Md_far_59 : decode prog_13_method_85_code 59 = .ok (.getfield 32, 3) := by decide +kernel
theorem d_Md_far_62 : decode prog_13_method_85_code 62 = .ok (.iload_n 1, 1) := by decide +kernel
theorem d_Md_far_63 : decode prog_13_method_85_code 63 = .ok (.iaload, 1) := by decide +kernel
theorem d_Md_far_64 : decode prog_13_method_85_code 64 = .ok (.aload_n 0, 1) := by decide +kernel
theorem d_Md_far_65 : decode prog_13_method_85_code 65 = .ok (.getfield 29, 3) := by decide +kernel
theorem d_Md_far_68 : decode prog_13_method_85_code 68 = .ok (.iload_n 1, 1) := by decide +kernel
theorem d_Md_far_69 : decode prog_13_method_85_code 69 = .ok (.iaload, 1) := by decide +kernel
theorem d_Md_far_70 : decode prog_13_method_85_code 70 = .ok (.invokestatic 329, 3) := by decide +kernel
theorem d_Md_far_73 : decode prog_13_method_85_code 73 = .ok (.goto 4, 3) := by decide +kernel
theorem d_Md_far_76 : decode prog_13_method_85_code 76 = .ok (.iconst 0, 1) := by decide +kernel
theorem d_Md_far_77 : decode prog_13_method_85_code 77 = .ok (.istore 5, 2) := by decide +kernel
theorem d_Md_far_79 : decode prog_13_method_85_code 79 = .ok (.iload 5, 2) := by decide +kernel
theorem d_Md_far_81 : decode prog_13_method_85_code 81 = .ok (.iload_n 3, 1) := by decide +kernel
theorem d_Md_far_82 : decode prog_13_method_85_code 82 = .ok (.if_icmp .le 6, 3) := by decide +kernel
theorem d_Md_far_85 : decode prog_13_method_85_code 85 = .ok (.iload 5, 2) := by decide +kernel
theorem d_Md_far_87 : decode prog_13_method_85_code 87 = .ok (.istore_n 3, 1) := by decide +kernel
theorem d_Md_far_88 : decode prog_13_method_85_code 88 = .ok (.iinc 4 1, 3) := by decide +kernel
theorem d_Md_far_91 : decode prog_13_method_85_code 91 = .ok (.goto (-55), 3) := by decide +kernel
theorem d_Md_far_94 : decode prog_13_method_85_code 94 = .ok (.iload_n 3, 1) := by decide +kernel
theorem d_Md_far_95 : decode prog_13_method_85_code 95 = .ok (.ireturn, 1) := by decide +kernel
theorem mb_Md_apart : MBs y_Md_apart prog_13_method_4_code 2 (some .int) 2 := ⟨mT10 47 (by decide +kernel) (by decide +kernel), mT1 10 (by decide +kernel) (by decide +kernel), mT10 48 (by decide +kernel) (by decide +kernel), by decide, by decide +kernel, by decide +kernel, by decide +kernel⟩
theorem lk_Md_329 : Cond.methodLink "FeastBookModel" 329 y_Md_apart ∈ TT := mT10 46 (by decide +kernel) (by decide +kernel)
set_option maxHeartbeats 4000000 in
set_option maxRecDepth 100000 in
theorem w_Md_far_L36 {p : Program} {l : Launch} {e : Env} {s : State} {m : MethodId} {args : Array Value} {below : List Frame} {meth : Method} {c : Code} {D : va_G} {ad : Nat → Nat} {cA : Nat → ClassId} {sd sv : Nat → Nat} {out : (Int × Hp)} (N : Nat) (hI : Inj97 ad) (C : Cx p s m args c prog_13_method_85_code 6 "FeastBookModel" D ad cA sd sv (FA ad)) (hr : meth.sig.returnType = (some .int)) (hlk : meth.locks = false) (v1 v2 : Int) : ∀ (n : Nat) (v3 v4 : Int) (h : Hp) (H : Heap) (locs : List Loc), Wd s D ad cA (FA ad) h H locs → ∀ ls : Array Slot, lv_has ls 6 [(0, .ref (ad 83)), (1, .int (iZ v1)), (2, .int (iZ v2)), (3, .int (iZ v3)), (4, .int (iZ v4))] → Md_far_L36 N v1 v2 n v3 v4 h = some out → W p l e (rmD 8) s m args below meth c H locs 0 0 (MQ below (QI D ad cA out) args s 0 0 (FA ad)) (F0 m 36 ls []) := by
  intro n
  induction n with
  | zero =>
    intro v3 v4 h H locs w ls hl hM
    rw [Md_far_L36] at hM
    cases hM
  | succ n ih =>
    intro v3 v4 h H locs w ls hl hM
    rw [Md_far_L36] at hM
    refine m_iload C hl 4 d_Md_far_36 rfl ?_
    refine m_iload_n C hl 2 d_Md_far_38 rfl rfl ?_
    refine m_icmp_ge C hM 94 d_Md_far_39 (by decide) (fun hM => ?_) (fun hM => ?_)
    · refine m_iload_n C hl 3 d_Md_far_94 rfl rfl ?_
      exact m_iretW C w hr hlk hM d_Md_far_95
    · refine m_aload_n C hl 0 d_Md_far_42 rfl rfl ?_
      refine m_iload C hl 4 d_Md_far_43 rfl ?_
      obtain ⟨h8, e7, hM⟩ := bnd_some hM
      refine aftV C w (runV C w.1 w.2 kc_Md sh_83 (Nat.le_of_ble_eq_true rfl) (c_Md_resolves hI e7) lk_Md_283 mb_Md_resolves rfl ⟨Nat.le_of_ble_eq_true rfl, Nat.le_of_ble_eq_true rfl⟩ ⟨Nat.zero_le _, Nat.zero_le _⟩ (Nat.le_of_ble_eq_true rfl) d_Md_far_45 hl.1 (rest := []) rfl) (fun H locs w => ?_)
      refine m_aload_n C hl 0 d_Md_far_48 rfl rfl ?_
      refine m_getr C w.1 kc_Md sh_83 (Nat.le_of_ble_eq_true rfl) 18 91 rfl (by decide) fk_Md_35 d_Md_far_49 ?_
      refine m_iload_n C hl 1 d_Md_far_52 rfl rfl ?_
      refine m_iald C w.1 sh_91 (Nat.le_of_ble_eq_true rfl) (Nat.le_of_ble_eq_true rfl) hM d_Md_far_53 (fun x9 hM => ?_)
      refine m_iconst C d_Md_far_54 ?_
      refine m_icmp_ne C hM 76 d_Md_far_55 (by decide) (fun hM => ?_) (fun hM => ?_)
      · refine m_iconst C d_Md_far_76 ?_
        refine m_istore C hl [(5, .int (iZ 0)), (0, .ref (ad 83)), (1, .int (iZ v1)), (2, .int (iZ v2)), (3, .int (iZ v3)), (4, .int (iZ v4))] d_Md_far_77 (by decide) rfl (fun ls hl => ?_)
        refine m_iload C hl 0 d_Md_far_79 rfl ?_
        refine m_iload_n C hl 4 d_Md_far_81 rfl rfl ?_
        refine m_icmp_le C hM 88 d_Md_far_82 (by decide) (fun hM => ?_) (fun hM => ?_)
        · refine m_iinc C hl 5 [(4, .int (iZ (v4 + 1))), (5, .int (iZ 0)), (0, .ref (ad 83)), (1, .int (iZ v1)), (2, .int (iZ v2)), (3, .int (iZ v3))] d_Md_far_88 rfl (by decide) rfl (fun ls hl => ?_)
          refine m_goto C 36 d_Md_far_91 (by decide) ?_
          exact ih v3 (v4 + 1) h8 _ _ w _ (lv_sub hl [2, 3, 4, 5, 0] rfl) hM
        · refine m_iload C hl 0 d_Md_far_85 rfl ?_
          refine m_istore_n C hl [(3, .int (iZ 0)), (5, .int (iZ 0)), (0, .ref (ad 83)), (1, .int (iZ v1)), (2, .int (iZ v2)), (4, .int (iZ v4))] d_Md_far_87 rfl (by decide) rfl (fun ls hl => ?_)
          refine m_iinc C hl 5 [(4, .int (iZ (v4 + 1))), (3, .int (iZ 0)), (5, .int (iZ 0)), (0, .ref (ad 83)), (1, .int (iZ v1)), (2, .int (iZ v2))] d_Md_far_88 rfl (by decide) rfl (fun ls hl => ?_)
          refine m_goto C 36 d_Md_far_91 (by decide) ?_
          exact ih 0 (v4 + 1) h8 _ _ w _ (lv_sub hl [3, 4, 5, 1, 0] rfl) hM
      · refine m_aload_n C hl 0 d_Md_far_58 rfl rfl ?_
        refine m_getr C w.1 kc_Md sh_83 (Nat.le_of_ble_eq_true rfl) 17 90 rfl (by decide) fk_Md_32 d_Md_far_59 ?_
        refine m_iload_n C hl 1 d_Md_far_62 rfl rfl ?_
        refine m_iald C w.1 sh_90 (Nat.le_of_ble_eq_true rfl) (Nat.le_of_ble_eq_true rfl) hM d_Md_far_63 (fun x10 hM => ?_)
        refine m_aload_n C hl 0 d_Md_far_64 rfl rfl ?_
        refine m_getr C w.1 kc_Md sh_83 (Nat.le_of_ble_eq_true rfl) 16 89 rfl (by decide) fk_Md_29 d_Md_far_65 ?_
        refine m_iload_n C hl 1 d_Md_far_68 rfl rfl ?_
        refine m_iald C w.1 sh_89 (Nat.le_of_ble_eq_true rfl) (Nat.le_of_ble_eq_true rfl) hM d_Md_far_69 (fun x11 hM => ?_)
        obtain ⟨x13, e12, hM⟩ := bnd_some hM
        refine aftR (runS C w.1 w.2 (c_Md_apart hI e12) lk_Md_329 mb_Md_apart rfl ⟨Nat.le_of_ble_eq_true rfl, Nat.le_of_ble_eq_true rfl⟩ ⟨Nat.zero_le _, Nat.zero_le _⟩ (Nat.le_of_ble_eq_true rfl) d_Md_far_70 hl.1 (rest := []) rfl) ?_
        refine m_goto C 77 d_Md_far_73 (by decide) ?_
        refine m_istore C hl [(5, .int (iZ x13)), (0, .ref (ad 83)), (1, .int (iZ v1)), (2, .int (iZ v2)), (3, .int (iZ v3)), (4, .int (iZ v4))] d_Md_far_77 (by decide) rfl (fun ls hl => ?_)
        refine m_iload C hl 0 d_Md_far_79 rfl ?_
        refine m_iload_n C hl 4 d_Md_far_81 rfl rfl ?_
        refine m_icmp_le C hM 88 d_Md_far_82 (by decide) (fun hM => ?_) (fun hM => ?_)
        · refine m_iinc C hl 5 [(4, .int (iZ (v4 + 1))), (5, .int (iZ x13)), (0, .ref (ad 83)), (1, .int (iZ v1)), (2, .int (iZ v2)), (3, .int (iZ v3))] d_Md_far_88 rfl (by decide) rfl (fun ls hl => ?_)
          refine m_goto C 36 d_Md_far_91 (by decide) ?_
          exact ih v3 (v4 + 1) h8 _ _ w _ (lv_sub hl [2, 3, 4, 5, 0] rfl) hM
        · refine m_iload C hl 0 d_Md_far_85 rfl ?_
          refine m_istore_n C hl [(3, .int (iZ x13)), (5, .int (iZ x13)), (0, .ref (ad 83)), (1, .int (iZ v1)), (2, .int (iZ v2)), (4, .int (iZ v4))] d_Md_far_87 rfl (by decide) rfl (fun ls hl => ?_)
          refine m_iinc C hl 5 [(4, .int (iZ (v4 + 1))), (3, .int (iZ x13)), (5, .int (iZ x13)), (0, .ref (ad 83)), (1, .int (iZ v1)), (2, .int (iZ v2))] d_Md_far_88 rfl (by decide) rfl (fun ls hl => ?_)
          refine m_goto C 36 d_Md_far_91 (by decide) ?_
          exact ih x13 (v4 + 1) h8 _ _ w _ (lv_sub hl [3, 4, 5, 1, 0] rfl) hM
set_option maxHeartbeats 4000000 in
set_option maxRecDepth 100000 in
theorem c_Md_far {l : Launch} {D : va_G} {ad : Nat → Nat} {cA : Nat → ClassId} {sd sv : Nat → Nat} {h : Hp} {N : Nat} {a1 : Int} {out : (Int × Hp)} (hI : Inj97 ad) (hM : M_Md_far N h a1 = some out) : Met l y_Md_far (.code y_Md_far prog_13_method_85_code 6 (some .int) :: TT) (rmD 8) (PC D ad cA sd sv h [.ref (ad 83), .int (iZ a1)]) (QI D ad cA out) 0 0 (FA ad) := by
  unfold M_Md_far at hM
  refine entM (by decide +kernel) hI (Nat.le_of_ble_eq_true rfl) ?_
  intro p e s m args below meth c C hr hlk hP ls hl
  have C : Cx p s m args c prog_13_method_85_code 6 "FeastBookModel" D ad cA sd sv (FA ad) := C
  have hl : lv_has ls 6 [(0, .ref (ad 83)), (1, .int (iZ a1))] := hl
  have w : Wd s D ad cA (FA ad) h s.heap [] := ⟨hP, va_S.rf⟩
  refine m_aload_n C hl 0 d_Md_far_0 rfl rfl ?_
  refine m_aload_n C hl 0 d_Md_far_1 rfl rfl ?_
  refine m_iload_n C hl 1 d_Md_far_2 rfl rfl ?_
  obtain ⟨x2, e1, hM⟩ := bnd_some hM
  refine aftR (runV C w.1 w.2 kc_Md sh_83 (Nat.le_of_ble_eq_true rfl) (c_Md_isFeast hI e1) lk_Md_311 mb_Md_isFeast rfl ⟨Nat.le_of_ble_eq_true rfl, Nat.le_of_ble_eq_true rfl⟩ ⟨Nat.zero_le _, Nat.zero_le _⟩ (Nat.le_of_ble_eq_true rfl) d_Md_far_3 hl.1 (rest := [.ref (ad 83)]) rfl) ?_
  refine lt_join hM (fun j3 ej hM => ?_)
  have hJ3 : ∀ (s0_3 : Int), j3 s0_3 = some out → ∀ ls : Array Slot, lv_has ls 6 [(0, .ref (ad 83)), (1, .int (iZ a1))] → W p l e (rmD 8) s m args below meth c s.heap [] 0 0 (MQ below (QI D ad cA out) args s 0 0 (FA ad)) (F0 m 14 ls [.int (iZ s0_3), .ref (ad 83)]) := by
    intro s0_3 hM ls hl
    subst ej
    dsimp only at hM
    refine m_puti C w kc_Md sh_83 (Nat.le_of_ble_eq_true rfl) 0 hM rfl (by decide) rfl rfl fk_Md_51 d_Md_far_14 (fun h4 H locs w hM => ?_)
    refine m_aload_n C hl 0 d_Md_far_17 rfl rfl ?_
    refine m_geti C w.1 kc_Md sh_83 (Nat.le_of_ble_eq_true rfl) 0 rfl (by decide) fk_Md_51 d_Md_far_18 ?_
    refine m_if_le C hM 26 d_Md_far_21 (by decide) (fun hM => ?_) (fun hM => ?_)
    · refine m_aload_n C hl 0 d_Md_far_26 rfl rfl ?_
      obtain ⟨x6, e5, hM⟩ := bnd_some hM
      refine aftR (runV C w.1 w.2 kc_Md sh_83 (Nat.le_of_ble_eq_true rfl) (c_Md_cycle0 hI e5) lk_Md_326 mb_Md_cycle0 rfl ⟨Nat.le_of_ble_eq_true rfl, Nat.le_of_ble_eq_true rfl⟩ ⟨Nat.zero_le _, Nat.zero_le _⟩ (Nat.le_of_ble_eq_true rfl) d_Md_far_27 hl.1 (rest := []) rfl) ?_
      refine m_istore_n C hl [(2, .int (iZ x6)), (0, .ref (ad 83)), (1, .int (iZ a1))] d_Md_far_30 rfl (by decide) rfl (fun ls hl => ?_)
      refine m_iconst C d_Md_far_31 ?_
      refine m_istore_n C hl [(3, .int (iZ 0)), (2, .int (iZ x6)), (0, .ref (ad 83)), (1, .int (iZ a1))] d_Md_far_32 rfl (by decide) rfl (fun ls hl => ?_)
      refine m_iconst C d_Md_far_33 ?_
      refine m_istore C hl [(4, .int (iZ 0)), (3, .int (iZ 0)), (2, .int (iZ x6)), (0, .ref (ad 83)), (1, .int (iZ a1))] d_Md_far_34 (by decide) rfl (fun ls hl => ?_)
      exact w_Md_far_L36 N hI C hr hlk a1 x6 _ 0 0 h4 _ _ w _ (lv_sub hl [3, 4, 2, 1, 0] rfl) hM
    · refine m_iconst C d_Md_far_24 ?_
      exact m_iretW C w hr hlk hM d_Md_far_25
  refine m_if_eq C hM 13 d_Md_far_6 (by decide) (fun hM => ?_) (fun hM => ?_)
  · refine m_iconst C d_Md_far_13 ?_
    exact hJ3 1 hM _ hl
  · refine m_iconst C d_Md_far_9 ?_
    refine m_goto C 14 d_Md_far_10 (by decide) ?_
    exact hJ3 0 hM _ hl
def y_Md_span : MethodName := ⟨"FeastBookModel", "span", "(IZ)I"⟩
theorem d_Md_span_0 : decode prog_13_method_86_code 0 = .ok (.aload_n 0, 1) := by decide +kernel
theorem d_Md_span_1 : decode prog_13_method_86_code 1 = .ok (.aload_n 0, 1) := by decide +kernel
theorem d_Md_span_2 : decode prog_13_method_86_code 2 = .ok (.iload_n 1, 1) := by decide +kernel
theorem d_Md_span_3 : decode prog_13_method_86_code 3 = .ok (.invokevirtual 311, 3) := by decide +kernel
theorem d_Md_span_6 : decode prog_13_method_86_code 6 = .ok (.ifCond .eq 7, 3) := by decide +kernel
theorem d_Md_span_9 : decode prog_13_method_86_code 9 = .ok (.iconst 0, 1) := by decide +kernel
theorem d_Md_span_10 : decode prog_13_method_86_code 10 = .ok (.goto 4, 3) := by decide +kernel
theorem d_Md_span_13 : decode prog_13_method_86_code 13 = .ok (.iconst 1, 1) := by decide +kernel
theorem d_Md_span_14 : decode prog_13_method_86_code 14 = .ok (.putfield 51, 3) := by decide +kernel
theorem d_Md_span_17 : decode prog_13_method_86_code 17 = .ok (.aload_n 0, 1) := by decide +kernel
theorem d_Md_span_18 : decode prog_13_method_86_code 18 = .ok (.getfield 51, 3) := by decide +kernel
theorem d_Md_span_21 : decode prog_13_method_86_code 21 = .ok (.ifCond .le 5, 3) := by decide +kernel
theorem d_Md_span_24 : decode prog_13_method_86_code 24 = .ok (.iconst 0, 1) := by decide +kernel
theorem d_Md_span_25 : decode prog_13_method_86_code 25 = .ok (.ireturn, 1) := by decide +kernel
theorem d_Md_span_26 : decode prog_13_method_86_code 26 = .ok (.aload_n 0, 1) := by decide +kernel
theorem d_Md_span_27 : decode prog_13_method_86_code 27 = .ok (.invokevirtual 326, 3) := by decide +kernel
theorem d_Md_span_30 : decode prog_13_method_86_code 30 = .ok (.istore_n 3, 1) := by decide +kernel
theorem d_Md_span_31 : decode prog_13_method_86_code 31 = .ok (.iconst (-1), 1) := by decide +kernel
theorem d_Md_span_32 : decode prog_13_method_86_code 32 = .ok (.istore 4, 2) := by decide +kernel
theorem d_Md_span_34 : decode prog_13_method_86_code 34 = .ok (.iconst 0, 1) := by decide +kernel
theorem d_Md_span_35 : decode prog_13_method_86_code 35 = .ok (.istore 5, 2) := by decide +kernel
theorem d_Md_span_37 : decode prog_13_method_86_code 37 = .ok (.iload 5, 2) := by decide +kernel
theorem d_Md_span_39 : decode prog_13_method_86_code 39 = .ok (.iload_n 3, 1) := by decide +kernel
theorem d_Md_span_40 : decode prog_13_method_86_code 40 = .ok (.if_icmp .ge 63, 3) := by decide +kernel
theorem d_Md_span_43 : decode prog_13_method_86_code 43 = .ok (.aload_n 0, 1) := by decide +kernel
theorem d_Md_span_44 : decode prog_13_method_86_code 44 = .ok (.iload 5, 2) := by decide +kernel
theorem d_Md_span_46 : decode prog_13_method_86_code 46 = .ok (.invokevirtual 283, 3) := by decide +kernel
theorem d_Md_span_49 : decode prog_13_method_86_code 49 = .ok (.aload_n 0, 1) := by decide +kernel
theorem d_Md_span_50 : decode prog_13_method_86_code 50 = .ok (.getfield 32, 3) := by decide +kernel
theorem d_Md_span_53 : decode prog_13_method_86_code 53 = .ok (.iload_n 1, 1) := by decide +kernel
theorem d_Md_span_54 : decode prog_13_method_86_code 54 = .ok (.iaload, 1) := by decide +kernel
theorem d_Md_span_55 : decode prog_13_method_86_code 55 = .ok (.istore 6, 2) := by decide +kernel
theorem d_Md_span_57 : decode prog_13_method_86_code 57 = .ok (.iload 6, 2) := by decide +kernel
theorem d_Md_span_59 : decode prog_13_method_86_code 59 = .ok (.iconst (-1), 1) := by decide +kernel
theorem d_Md_span_60 : decode prog_13_method_86_code 60 = .ok (.if_icmp .ne 6, 3) := by decide +kernel
theorem d_Md_span_63 : decode prog_13_method_86_code 63 = .ok (.goto 34, 3) := by decide +kernel
theorem d_Md_span_66 : decode prog_13_method_86_code 66 = .ok (.iload 4, 2) := by decide +kernel
theorem d_Md_span_68 : decode prog_13_method_86_code 68 = .ok (.iconst (-1), 1) := by decide +kernel
theorem d_Md_span_69 : decode prog_13_method_86_code 69 = .ok (.if_icmp .eq 24, 3) := by decide +kernel
theorem d_Md_span_72 : decode prog_13_method_86_code 72 = .ok (.iload_n 2, 1) := by decide +kernel
theorem d_Md_span_73 : decode prog_13_method_86_code 73 = .ok (.ifCond .eq 13, 3) := by decide +kernel
theorem d_Md_span_76 : decode prog_13_method_86_code 76 = .ok (.iload 6, 2) := by decide +kernel
theorem d_Md_span_78 : decode prog_13_method_86_code 78 = .ok (.iload 4, 2) := by decide +kernel
theorem d_Md_span_80 : decode prog_13_method_86_code 80 = .ok (.if_icmp .le 17, 3) := by decide +kernel
theorem d_Md_span_83 : decode prog_13_method_86_code 83 = .ok (.goto 10, 3) := by decide +kernel
theorem d_Md_span_86 : decode prog_13_method_86_code 86 = .ok (.iload 6, 2) := by decide +kernel
theorem d_Md_span_88 : decode prog_13_method_86_code 88 = .ok (.iload 4, 2) := by decide +kernel
theorem d_Md_span_90 : decode prog_13_method_86_code 90 = .ok (.if_icmp .ge 7, 3) := by decide +kernel
theorem d_Md_span_93 : decode prog_13_method_86_code 93 = .ok (.iload 6, 2) := by decide +kernel
theorem d_Md_span_95 : decode prog_13_method_86_code 95 = .ok (.istore 4, 2) := by decide +kernel
theorem d_Md_span_97 : decode prog_13_method_86_code 97 = .ok (.iinc 5 1, 3) := by decide +kernel
theorem d_Md_span_100 : decode prog_13_method_86_code 100 = .ok (.goto (-63), 3) := by decide +kernel
theorem d_Md_span_103 : decode prog_13_method_86_code 103 = .ok (.iload 4, 2) := by decide +kernel
theorem d_Md_span_105 : decode prog_13_method_86_code 105 = .ok (.ireturn, 1) := by decide +kernel
set_option maxHeartbeats 4000000 in
set_option maxRecDepth 100000 in
theorem w_Md_span_L37 {p : Program} {l : Launch} {e : Env} {s : State} {m : MethodId} {args : Array Value} {below : List Frame} {meth : Method} {c : Code} {D : va_G} {ad : Nat → Nat} {cA : Nat → ClassId} {sd sv : Nat → Nat} {out : (Int × Hp)} (N : Nat) (hI : Inj97 ad) (C : Cx p s m args c prog_13_method_86_code 7 "FeastBookModel" D ad cA sd sv (FA ad)) (hr : meth.sig.returnType = (some .int)) (hlk : meth.locks = false) (v1 v2 v3 : Int) : ∀ (n : Nat) (v4 v5 : Int) (h : Hp) (H : Heap) (locs : List Loc), Wd s D ad cA (FA ad) h H locs → ∀ ls : Array Slot, lv_has ls 7 [(0, .ref (ad 83)), (1, .int (iZ v1)), (2, .int (iZ v2)), (3, .int (iZ v3)), (4, .int (iZ v4)), (5, .int (iZ v5))] → Md_span_L37 N v1 v2 v3 n v4 v5 h = some out → W p l e (rmD 8) s m args below meth c H locs 0 0 (MQ below (QI D ad cA out) args s 0 0 (FA ad)) (F0 m 37 ls []) := by
  intro n
  induction n with
  | zero =>
    intro v4 v5 h H locs w ls hl hM
    rw [Md_span_L37] at hM
    cases hM
  | succ n ih =>
    intro v4 v5 h H locs w ls hl hM
    rw [Md_span_L37] at hM
    refine m_iload C hl 5 d_Md_span_37 rfl ?_
    refine m_iload_n C hl 3 d_Md_span_39 rfl rfl ?_
    refine m_icmp_ge C hM 103 d_Md_span_40 (by decide) (fun hM => ?_) (fun hM => ?_)
    · refine m_iload C hl 4 d_Md_span_103 rfl ?_
      exact m_iretW C w hr hlk hM d_Md_span_105
    · refine m_aload_n C hl 0 d_Md_span_43 rfl rfl ?_
      refine m_iload C hl 5 d_Md_span_44 rfl ?_
      obtain ⟨h8, e7, hM⟩ := bnd_some hM
      refine aftV C w (runV C w.1 w.2 kc_Md sh_83 (Nat.le_of_ble_eq_true rfl) (c_Md_resolves hI e7) lk_Md_283 mb_Md_resolves rfl ⟨Nat.le_of_ble_eq_true rfl, Nat.le_of_ble_eq_true rfl⟩ ⟨Nat.zero_le _, Nat.zero_le _⟩ (Nat.le_of_ble_eq_true rfl) d_Md_span_46 hl.1 (rest := []) rfl) (fun H locs w => ?_)
      refine m_aload_n C hl 0 d_Md_span_49 rfl rfl ?_
      refine m_getr C w.1 kc_Md sh_83 (Nat.le_of_ble_eq_true rfl) 17 90 rfl (by decide) fk_Md_32 d_Md_span_50 ?_
      refine m_iload_n C hl 1 d_Md_span_53 rfl rfl ?_
      refine m_iald C w.1 sh_90 (Nat.le_of_ble_eq_true rfl) (Nat.le_of_ble_eq_true rfl) hM d_Md_span_54 (fun x9 hM => ?_)
      refine m_istore C hl [(6, .int (iZ x9)), (0, .ref (ad 83)), (1, .int (iZ v1)), (2, .int (iZ v2)), (3, .int (iZ v3)), (4, .int (iZ v4)), (5, .int (iZ v5))] d_Md_span_55 (by decide) rfl (fun ls hl => ?_)
      refine m_iload C hl 0 d_Md_span_57 rfl ?_
      refine m_iconst C d_Md_span_59 ?_
      refine m_icmp_ne C hM 66 d_Md_span_60 (by decide) (fun hM => ?_) (fun hM => ?_)
      · refine m_iload C hl 5 d_Md_span_66 rfl ?_
        refine m_iconst C d_Md_span_68 ?_
        refine m_icmp_eq C hM 93 d_Md_span_69 (by decide) (fun hM => ?_) (fun hM => ?_)
        · refine m_iload C hl 0 d_Md_span_93 rfl ?_
          refine m_istore C hl [(4, .int (iZ x9)), (6, .int (iZ x9)), (0, .ref (ad 83)), (1, .int (iZ v1)), (2, .int (iZ v2)), (3, .int (iZ v3)), (5, .int (iZ v5))] d_Md_span_95 (by decide) rfl (fun ls hl => ?_)
          refine m_iinc C hl 6 [(5, .int (iZ (v5 + 1))), (4, .int (iZ x9)), (6, .int (iZ x9)), (0, .ref (ad 83)), (1, .int (iZ v1)), (2, .int (iZ v2)), (3, .int (iZ v3))] d_Md_span_97 rfl (by decide) rfl (fun ls hl => ?_)
          refine m_goto C 37 d_Md_span_100 (by decide) ?_
          exact ih x9 (v5 + 1) h8 _ _ w _ (lv_sub hl [3, 4, 5, 6, 1, 0] rfl) hM
        · refine m_iload_n C hl 3 d_Md_span_72 rfl rfl ?_
          refine m_if_eq C hM 86 d_Md_span_73 (by decide) (fun hM => ?_) (fun hM => ?_)
          · refine m_iload C hl 0 d_Md_span_86 rfl ?_
            refine m_iload C hl 5 d_Md_span_88 rfl ?_
            refine m_icmp_ge C hM 97 d_Md_span_90 (by decide) (fun hM => ?_) (fun hM => ?_)
            · refine m_iinc C hl 6 [(5, .int (iZ (v5 + 1))), (6, .int (iZ x9)), (0, .ref (ad 83)), (1, .int (iZ v1)), (2, .int (iZ v2)), (3, .int (iZ v3)), (4, .int (iZ v4))] d_Md_span_97 rfl (by decide) rfl (fun ls hl => ?_)
              refine m_goto C 37 d_Md_span_100 (by decide) ?_
              exact ih v4 (v5 + 1) h8 _ _ w _ (lv_sub hl [2, 3, 4, 5, 6, 0] rfl) hM
            · refine m_iload C hl 0 d_Md_span_93 rfl ?_
              refine m_istore C hl [(4, .int (iZ x9)), (6, .int (iZ x9)), (0, .ref (ad 83)), (1, .int (iZ v1)), (2, .int (iZ v2)), (3, .int (iZ v3)), (5, .int (iZ v5))] d_Md_span_95 (by decide) rfl (fun ls hl => ?_)
              refine m_iinc C hl 6 [(5, .int (iZ (v5 + 1))), (4, .int (iZ x9)), (6, .int (iZ x9)), (0, .ref (ad 83)), (1, .int (iZ v1)), (2, .int (iZ v2)), (3, .int (iZ v3))] d_Md_span_97 rfl (by decide) rfl (fun ls hl => ?_)
              refine m_goto C 37 d_Md_span_100 (by decide) ?_
              exact ih x9 (v5 + 1) h8 _ _ w _ (lv_sub hl [3, 4, 5, 6, 1, 0] rfl) hM
          · refine m_iload C hl 0 d_Md_span_76 rfl ?_
            refine m_iload C hl 5 d_Md_span_78 rfl ?_
            refine m_icmp_le C hM 97 d_Md_span_80 (by decide) (fun hM => ?_) (fun hM => ?_)
            · refine m_iinc C hl 6 [(5, .int (iZ (v5 + 1))), (6, .int (iZ x9)), (0, .ref (ad 83)), (1, .int (iZ v1)), (2, .int (iZ v2)), (3, .int (iZ v3)), (4, .int (iZ v4))] d_Md_span_97 rfl (by decide) rfl (fun ls hl => ?_)
              refine m_goto C 37 d_Md_span_100 (by decide) ?_
              exact ih v4 (v5 + 1) h8 _ _ w _ (lv_sub hl [2, 3, 4, 5, 6, 0] rfl) hM
            · refine m_goto C 93 d_Md_span_83 (by decide) ?_
              refine m_iload C hl 0 d_Md_span_93 rfl ?_
              refine m_istore C hl [(4, .int (iZ x9)), (6, .int (iZ x9)), (0, .ref (ad 83)), (1, .int (iZ v1)), (2, .int (iZ v2)), (3, .int (iZ v3)), (5, .int (iZ v5))] d_Md_span_95 (by decide) rfl (fun ls hl => ?_)
              refine m_iinc C hl 6 [(5, .int (iZ (v5 + 1))), (4, .int (iZ x9)), (6, .int (iZ x9)), (0, .ref (ad 83)), (1, .int (iZ v1)), (2, .int (iZ v2)), (3, .int (iZ v3))] d_Md_span_97 rfl (by decide) rfl (fun ls hl => ?_)
              refine m_goto C 37 d_Md_span_100 (by decide) ?_
              exact ih x9 (v5 + 1) h8 _ _ w _ (lv_sub hl [3, 4, 5, 6, 1, 0] rfl) hM
      · refine m_goto C 97 d_Md_span_63 (by decide) ?_
        refine m_iinc C hl 6 [(5, .int (iZ (v5 + 1))), (6, .int (iZ x9)), (0, .ref (ad 83)), (1, .int (iZ v1)), (2, .int (iZ v2)), (3, .int (iZ v3)), (4, .int (iZ v4))] d_Md_span_97 rfl (by decide) rfl (fun ls hl => ?_)
        refine m_goto C 37 d_Md_span_100 (by decide) ?_
        exact ih v4 (v5 + 1) h8 _ _ w _ (lv_sub hl [2, 3, 4, 5, 6, 0] rfl) hM
set_option maxHeartbeats 4000000 in
set_option maxRecDepth 100000 in
theorem c_Md_span {l : Launch} {D : va_G} {ad : Nat → Nat} {cA : Nat → ClassId} {sd sv : Nat → Nat} {h : Hp} {N : Nat} {a1 a2 : Int} {out : (Int × Hp)} (hI : Inj97 ad) (hM : M_Md_span N h a1 a2 = some out) : Met l y_Md_span (.code y_Md_span prog_13_method_86_code 7 (some .int) :: TT) (rmD 8) (PC D ad cA sd sv h [.ref (ad 83), .int (iZ a1), .int (iZ a2)]) (QI D ad cA out) 0 0 (FA ad) := by
  unfold M_Md_span at hM
  refine entM (by decide +kernel) hI (Nat.le_of_ble_eq_true rfl) ?_
  intro p e s m args below meth c C hr hlk hP ls hl
  have C : Cx p s m args c prog_13_method_86_code 7 "FeastBookModel" D ad cA sd sv (FA ad) := C
  have hl : lv_has ls 7 [(0, .ref (ad 83)), (1, .int (iZ a1)), (2, .int (iZ a2))] := hl
  have w : Wd s D ad cA (FA ad) h s.heap [] := ⟨hP, va_S.rf⟩
  refine m_aload_n C hl 0 d_Md_span_0 rfl rfl ?_
  refine m_aload_n C hl 0 d_Md_span_1 rfl rfl ?_
  refine m_iload_n C hl 1 d_Md_span_2 rfl rfl ?_
  obtain ⟨x2, e1, hM⟩ := bnd_some hM
  refine aftR (runV C w.1 w.2 kc_Md sh_83 (Nat.le_of_ble_eq_true rfl) (c_Md_isFeast hI e1) lk_Md_311 mb_Md_isFeast rfl ⟨Nat.le_of_ble_eq_true rfl, Nat.le_of_ble_eq_true rfl⟩ ⟨Nat.zero_le _, Nat.zero_le _⟩ (Nat.le_of_ble_eq_true rfl) d_Md_span_3 hl.1 (rest := [.ref (ad 83)]) rfl) ?_
  refine lt_join hM (fun j3 ej hM => ?_)
  have hJ3 : ∀ (s0_3 : Int), j3 s0_3 = some out → ∀ ls : Array Slot, lv_has ls 7 [(0, .ref (ad 83)), (1, .int (iZ a1)), (2, .int (iZ a2))] → W p l e (rmD 8) s m args below meth c s.heap [] 0 0 (MQ below (QI D ad cA out) args s 0 0 (FA ad)) (F0 m 14 ls [.int (iZ s0_3), .ref (ad 83)]) := by
    intro s0_3 hM ls hl
    subst ej
    dsimp only at hM
    refine m_puti C w kc_Md sh_83 (Nat.le_of_ble_eq_true rfl) 0 hM rfl (by decide) rfl rfl fk_Md_51 d_Md_span_14 (fun h4 H locs w hM => ?_)
    refine m_aload_n C hl 0 d_Md_span_17 rfl rfl ?_
    refine m_geti C w.1 kc_Md sh_83 (Nat.le_of_ble_eq_true rfl) 0 rfl (by decide) fk_Md_51 d_Md_span_18 ?_
    refine m_if_le C hM 26 d_Md_span_21 (by decide) (fun hM => ?_) (fun hM => ?_)
    · refine m_aload_n C hl 0 d_Md_span_26 rfl rfl ?_
      obtain ⟨x6, e5, hM⟩ := bnd_some hM
      refine aftR (runV C w.1 w.2 kc_Md sh_83 (Nat.le_of_ble_eq_true rfl) (c_Md_cycle0 hI e5) lk_Md_326 mb_Md_cycle0 rfl ⟨Nat.le_of_ble_eq_true rfl, Nat.le_of_ble_eq_true rfl⟩ ⟨Nat.zero_le _, Nat.zero_le _⟩ (Nat.le_of_ble_eq_true rfl) d_Md_span_27 hl.1 (rest := []) rfl) ?_
      refine m_istore_n C hl [(3, .int (iZ x6)), (0, .ref (ad 83)), (1, .int (iZ a1)), (2, .int (iZ a2))] d_Md_span_30 rfl (by decide) rfl (fun ls hl => ?_)
      refine m_iconst C d_Md_span_31 ?_
      refine m_istore C hl [(4, .int (iZ (-1))), (3, .int (iZ x6)), (0, .ref (ad 83)), (1, .int (iZ a1)), (2, .int (iZ a2))] d_Md_span_32 (by decide) rfl (fun ls hl => ?_)
      refine m_iconst C d_Md_span_34 ?_
      refine m_istore C hl [(5, .int (iZ 0)), (4, .int (iZ (-1))), (3, .int (iZ x6)), (0, .ref (ad 83)), (1, .int (iZ a1)), (2, .int (iZ a2))] d_Md_span_35 (by decide) rfl (fun ls hl => ?_)
      exact w_Md_span_L37 N hI C hr hlk a1 a2 x6 _ (-1) 0 h4 _ _ w _ (lv_sub hl [3, 4, 5, 2, 1, 0] rfl) hM
    · refine m_iconst C d_Md_span_24 ?_
      exact m_iretW C w hr hlk hM d_Md_span_25
  refine m_if_eq C hM 13 d_Md_span_6 (by decide) (fun hM => ?_) (fun hM => ?_)
  · refine m_iconst C d_Md_span_13 ?_
    exact hJ3 1 hM _ hl
  · refine m_iconst C d_Md_span_9 ?_
    refine m_goto C 14 d_Md_span_10 (by decide) ?_
    exact hJ3 0 hM _ hl
def y_Md_meets : MethodName := ⟨"FeastBookModel", "meets", "(I)I"⟩
theorem d_Md_meets_0 : decode prog_13_method_87_code 0 = .ok (.aload_n 0, 1) := by decide +kernel
theorem d_Md_meets_1 : decode prog_13_method_87_code 1 = .ok (.aload_n 0, 1) := by decide +kernel
theorem d_Md_meets_2 : decode prog_13_method_87_code 2 = .ok (.iload_n 1, 1) := by decide +kernel
theorem d_Md_meets_3 : decode prog_13_method_87_code 3 = .ok (.invokevirtual 311, 3) := by decide +kernel
theorem d_Md_meets_6 : decode prog_13_method_87_code 6 = .ok (.ifCond .eq 7, 3) := by decide +kernel
theorem d_Md_meets_9 : decode prog_13_method_87_code 9 = .ok (.iconst 0, 1) := by decide +kernel
theorem d_Md_meets_10 : decode prog_13_method_87_code 10 = .ok (.goto 4, 3) := by decide +kernel
theorem d_Md_meets_13 : decode prog_13_method_87_code 13 = .ok (.iconst 1, 1) := by decide +kernel
theorem d_Md_meets_14 : decode prog_13_method_87_code 14 = .ok (.putfield 51, 3) := by decide +kernel
theorem d_Md_meets_17 : decode prog_13_method_87_code 17 = .ok (.aload_n 0, 1) := by decide +kernel
theorem d_Md_meets_18 : decode prog_13_method_87_code 18 = .ok (.getfield 51, 3) := by decide +kernel
theorem d_Md_meets_21 : decode prog_13_method_87_code 21 = .ok (.ifCond .le 5, 3) := by decide +kernel
theorem d_Md_meets_24 : decode prog_13_method_87_code 24 = .ok (.iconst 0, 1) := by decide +kernel
theorem d_Md_meets_25 : decode prog_13_method_87_code 25 = .ok (.ireturn, 1) := by decide +kernel
theorem d_Md_meets_26 : decode prog_13_method_87_code 26 = .ok (.aload_n 0, 1) := by decide +kernel
theorem d_Md_meets_27 : decode prog_13_method_87_code 27 = .ok (.invokevirtual 326, 3) := by decide +kernel
theorem d_Md_meets_30 : decode prog_13_method_87_code 30 = .ok (.istore_n 2, 1) := by decide +kernel
theorem d_Md_meets_31 : decode prog_13_method_87_code 31 = .ok (.iconst 0, 1) := by decide +kernel
theorem d_Md_meets_32 : decode prog_13_method_87_code 32 = .ok (.istore_n 3, 1) := by decide +kernel
theorem d_Md_meets_33 : decode prog_13_method_87_code 33 = .ok (.iconst 0, 1) := by decide +kernel
theorem d_Md_meets_34 : decode prog_13_method_87_code 34 = .ok (.istore 4, 2) := by decide +kernel
theorem d_Md_meets_36 : decode prog_13_method_87_code 36 = .ok (.iload 4, 2) := by decide +kernel
theorem d_Md_meets_38 : decode prog_13_method_87_code 38 = .ok (.iload_n 2, 1) := by decide +kernel
theorem d_Md_meets_39 : decode prog_13_method_87_code 39 = .ok (.if_icmp .ge 82, 3) := by decide +kernel
theorem d_Md_meets_42 : decode prog_13_method_87_code 42 = .ok (.aload_n 0, 1) := by decide +kernel
theorem d_Md_meets_43 : decode prog_13_method_87_code 43 = .ok (.iload 4, 2) := by decide +kernel
theorem d_Md_meets_45 : decode prog_13_method_87_code 45 = .ok (.invokevirtual 283, 3) := by decide +kernel
theorem d_Md_meets_48 : decode prog_13_method_87_code 48 = .ok (.aload_n 0, 1) := by decide +kernel
theorem d_Md_meets_49 : decode prog_13_method_87_code 49 = .ok (.getfield 29, 3) := by decide +kernel
theorem d_Md_meets_52 : decode prog_13_method_87_code 52 = .ok (.iload_n 1, 1) := by decide +kernel
theorem d_Md_meets_53 : decode prog_13_method_87_code 53 = .ok (.iaload, 1) := by decide +kernel
theorem d_Md_meets_54 : decode prog_13_method_87_code 54 = .ok (.iconst (-1), 1) := by decide +kernel
theorem d_Md_meets_55 : decode prog_13_method_87_code 55 = .ok (.if_icmp .ne 6, 3) := by decide +kernel
theorem d_Md_meets_58 : decode prog_13_method_87_code 58 = .ok (.goto 57, 3) := by decide +kernel
theorem d_Md_meets_61 : decode prog_13_method_87_code 61 = .ok (.iconst 0, 1) := by decide +kernel
theorem d_Md_meets_62 : decode prog_13_method_87_code 62 = .ok (.istore 5, 2) := by decide +kernel
theorem d_Md_meets_64 : decode prog_13_method_87_code 64 = .ok (.iload 5, 2) := by decide +kernel
theorem d_Md_meets_66 : decode prog_13_method_87_code 66 = .ok (.aload_n 0, 1) := by decide +kernel
theorem d_Md_meets_67 : decode prog_13_method_87_code 67 = .ok (.getfield 7, 3) := by decide +kernel
theorem d_Md_meets_70 : decode prog_13_method_87_code 70 = .ok (.bipush 42, 2) := by decide +kernel
theorem d_Md_meets_72 : decode prog_13_method_87_code 72 = .ok (.iaload, 1) := by decide +kernel
theorem d_Md_meets_73 : decode prog_13_method_87_code 73 = .ok (.if_icmp .ge 42, 3) := by decide +kernel
theorem d_Md_meets_76 : decode prog_13_method_87_code 76 = .ok (.iload_n 3, 1) := by decide +kernel
theorem d_Md_meets_77 : decode prog_13_method_87_code 77 = .ok (.iload 5, 2) := by decide +kernel
theorem d_Md_meets_79 : decode prog_13_method_87_code 79 = .ok (.iload_n 1, 1) := by decide +kernel
theorem d_Md_meets_80 : decode prog_13_method_87_code 80 = .ok (.if_icmp .eq 26, 3) := by decide +kernel
theorem d_Md_meets_83 : decode prog_13_method_87_code 83 = .ok (.aload_n 0, 1) := by decide +kernel
theorem d_Md_meets_84 : decode prog_13_method_87_code 84 = .ok (.getfield 29, 3) := by decide +kernel
theorem d_Md_meets_87 : decode prog_13_method_87_code 87 = .ok (.iload 5, 2) := by decide +kernel
theorem d_Md_meets_89 : decode prog_13_method_87_code 89 = .ok (.iaload, 1) := by decide +kernel
theorem d_Md_meets_90 : decode prog_13_method_87_code 90 = .ok (.aload_n 0, 1) := by decide +kernel
theorem d_Md_meets_91 : decode prog_13_method_87_code 91 = .ok (.getfield 29, 3) := by decide +kernel
theorem d_Md_meets_94 : decode prog_13_method_87_code 94 = .ok (.iload_n 1, 1) := by decide +kernel
theorem d_Md_meets_95 : decode prog_13_method_87_code 95 = .ok (.iaload, 1) := by decide +kernel
theorem d_Md_meets_96 : decode prog_13_method_87_code 96 = .ok (.if_icmp .ne 10, 3) := by decide +kernel
theorem d_Md_meets_99 : decode prog_13_method_87_code 99 = .ok (.iconst 1, 1) := by decide +kernel
theorem d_Md_meets_100 : decode prog_13_method_87_code 100 = .ok (.iload 5, 2) := by decide +kernel
theorem d_Md_meets_102 : decode prog_13_method_87_code 102 = .ok (.ishl, 1) := by decide +kernel
theorem d_Md_meets_103 : decode prog_13_method_87_code 103 = .ok (.goto 4, 3) := by decide +kernel
theorem d_Md_meets_106 : decode prog_13_method_87_code 106 = .ok (.iconst 0, 1) := by decide +kernel
theorem d_Md_meets_107 : decode prog_13_method_87_code 107 = .ok (.ior, 1) := by decide +kernel
theorem d_Md_meets_108 : decode prog_13_method_87_code 108 = .ok (.istore_n 3, 1) := by decide +kernel
theorem d_Md_meets_109 : decode prog_13_method_87_code 109 = .ok (.iinc 5 1, 3) := by decide +kernel
theorem d_Md_meets_112 : decode prog_13_method_87_code 112 = .ok (.goto (-48), 3) := by decide +kernel
theorem d_Md_meets_115 : decode prog_13_method_87_code 115 = .ok (.iinc 4 1, 3) := by decide +kernel
theorem d_Md_meets_118 : decode prog_13_method_87_code 118 = .ok (.goto (-82), 3) := by decide +kernel
theorem d_Md_meets_121 : decode prog_13_method_87_code 121 = .ok (.iload_n 3, 1) := by decide +kernel
theorem d_Md_meets_122 : decode prog_13_method_87_code 122 = .ok (.ireturn, 1) := by decide +kernel
set_option maxHeartbeats 4000000 in
set_option maxRecDepth 100000 in
theorem w_Md_meets_L64 {p : Program} {l : Launch} {e : Env} {s : State} {m : MethodId} {args : Array Value} {below : List Frame} {meth : Method} {c : Code} {D : va_G} {ad : Nat → Nat} {cA : Nat → ClassId} {sd sv : Nat → Nat} {out : (Int × Hp)} (N : Nat) (hI : Inj97 ad) (C : Cx p s m args c prog_13_method_87_code 6 "FeastBookModel" D ad cA sd sv (FA ad)) (hr : meth.sig.returnType = (some .int)) (hlk : meth.locks = false) (v1 v2 v4 : Int) (h : Hp) (H : Heap) (locs : List Loc) (w : Wd s D ad cA (FA ad) h H locs) (k : Int → Int → Option (Int × Hp)) (kW : ∀ (v3 v5 : Int) , k v3 v5 = some out → ∀ ls : Array Slot, lv_has ls 6 [(0, .ref (ad 83)), (1, .int (iZ v1)), (2, .int (iZ v2)), (3, .int (iZ v3)), (4, .int (iZ v4)), (5, .int (iZ v5))] → W p l e (rmD 8) s m args below meth c H locs 0 0 (MQ below (QI D ad cA out) args s 0 0 (FA ad)) (F0 m 115 ls [])) : ∀ (n : Nat) (v3 v5 : Int), ∀ ls : Array Slot, lv_has ls 6 [(0, .ref (ad 83)), (1, .int (iZ v1)), (2, .int (iZ v2)), (3, .int (iZ v3)), (4, .int (iZ v4)), (5, .int (iZ v5))] → Md_meets_L64 N h v1 k n v3 v5 = some out → W p l e (rmD 8) s m args below meth c H locs 0 0 (MQ below (QI D ad cA out) args s 0 0 (FA ad)) (F0 m 64 ls []) := by
  intro n
  induction n with
  | zero =>
    intro v3 v5 ls hl hM
    rw [Md_meets_L64] at hM
    cases hM
  | succ n ih =>
    intro v3 v5 ls hl hM
    rw [Md_meets_L64] at hM
    refine m_iload C hl 5 d_Md_meets_64 rfl ?_
    refine m_aload_n C hl 0 d_Md_meets_66 rfl rfl ?_
    refine m_getr C w.1 kc_Md sh_83 (Nat.le_of_ble_eq_true rfl) 1 84 rfl (by decide) fk_Md_7 d_Md_meets_67 ?_
    refine m_bipush C d_Md_meets_70 (by decide) ?_
    refine m_iald C w.1 sh_84 (Nat.le_of_ble_eq_true rfl) (Nat.le_of_ble_eq_true rfl) hM d_Md_meets_72 (fun x10 hM => ?_)
    refine m_icmp_ge C hM 115 d_Md_meets_73 (by decide) (fun hM => ?_) (fun hM => ?_)
    · exact kW v3 v5 hM _ hl
    · refine m_iload_n C hl 3 d_Md_meets_76 rfl rfl ?_
      refine m_iload C hl 5 d_Md_meets_77 rfl ?_
      refine m_iload_n C hl 1 d_Md_meets_79 rfl rfl ?_
      refine m_icmp_eq C hM 106 d_Md_meets_80 (by decide) (fun hM => ?_) (fun hM => ?_)
      · refine m_iconst C d_Md_meets_106 ?_
        refine m_ior C d_Md_meets_107 ?_
        refine m_istore_n C hl [(3, .int (iZ (orI v3 0))), (0, .ref (ad 83)), (1, .int (iZ v1)), (2, .int (iZ v2)), (4, .int (iZ v4)), (5, .int (iZ v5))] d_Md_meets_108 rfl (by decide) rfl (fun ls hl => ?_)
        refine m_iinc C hl 5 [(5, .int (iZ (v5 + 1))), (3, .int (iZ (orI v3 0))), (0, .ref (ad 83)), (1, .int (iZ v1)), (2, .int (iZ v2)), (4, .int (iZ v4))] d_Md_meets_109 rfl (by decide) rfl (fun ls hl => ?_)
        refine m_goto C 64 d_Md_meets_112 (by decide) ?_
        exact ih (orI v3 0) (v5 + 1) _ (lv_sub hl [2, 3, 4, 1, 5, 0] rfl) hM
      · refine m_aload_n C hl 0 d_Md_meets_83 rfl rfl ?_
        refine m_getr C w.1 kc_Md sh_83 (Nat.le_of_ble_eq_true rfl) 16 89 rfl (by decide) fk_Md_29 d_Md_meets_84 ?_
        refine m_iload C hl 5 d_Md_meets_87 rfl ?_
        refine m_iald C w.1 sh_89 (Nat.le_of_ble_eq_true rfl) (Nat.le_of_ble_eq_true rfl) hM d_Md_meets_89 (fun x11 hM => ?_)
        refine m_aload_n C hl 0 d_Md_meets_90 rfl rfl ?_
        refine m_getr C w.1 kc_Md sh_83 (Nat.le_of_ble_eq_true rfl) 16 89 rfl (by decide) fk_Md_29 d_Md_meets_91 ?_
        refine m_iload_n C hl 1 d_Md_meets_94 rfl rfl ?_
        refine m_iald C w.1 sh_89 (Nat.le_of_ble_eq_true rfl) (Nat.le_of_ble_eq_true rfl) hM d_Md_meets_95 (fun x12 hM => ?_)
        refine m_icmp_ne C hM 106 d_Md_meets_96 (by decide) (fun hM => ?_) (fun hM => ?_)
        · refine m_iconst C d_Md_meets_106 ?_
          refine m_ior C d_Md_meets_107 ?_
          refine m_istore_n C hl [(3, .int (iZ (orI v3 0))), (0, .ref (ad 83)), (1, .int (iZ v1)), (2, .int (iZ v2)), (4, .int (iZ v4)), (5, .int (iZ v5))] d_Md_meets_108 rfl (by decide) rfl (fun ls hl => ?_)
          refine m_iinc C hl 5 [(5, .int (iZ (v5 + 1))), (3, .int (iZ (orI v3 0))), (0, .ref (ad 83)), (1, .int (iZ v1)), (2, .int (iZ v2)), (4, .int (iZ v4))] d_Md_meets_109 rfl (by decide) rfl (fun ls hl => ?_)
          refine m_goto C 64 d_Md_meets_112 (by decide) ?_
          exact ih (orI v3 0) (v5 + 1) _ (lv_sub hl [2, 3, 4, 1, 5, 0] rfl) hM
        · refine m_iconst C d_Md_meets_99 ?_
          refine m_iload C hl 5 d_Md_meets_100 rfl ?_
          refine m_ishl C d_Md_meets_102 ?_
          refine m_goto C 107 d_Md_meets_103 (by decide) ?_
          refine m_ior C d_Md_meets_107 ?_
          refine m_istore_n C hl [(3, .int (iZ (orI v3 (shlI 1 v5)))), (0, .ref (ad 83)), (1, .int (iZ v1)), (2, .int (iZ v2)), (4, .int (iZ v4)), (5, .int (iZ v5))] d_Md_meets_108 rfl (by decide) rfl (fun ls hl => ?_)
          refine m_iinc C hl 5 [(5, .int (iZ (v5 + 1))), (3, .int (iZ (orI v3 (shlI 1 v5)))), (0, .ref (ad 83)), (1, .int (iZ v1)), (2, .int (iZ v2)), (4, .int (iZ v4))] d_Md_meets_109 rfl (by decide) rfl (fun ls hl => ?_)
          refine m_goto C 64 d_Md_meets_112 (by decide) ?_
          exact ih (orI v3 (shlI 1 v5)) (v5 + 1) _ (lv_sub hl [2, 3, 4, 1, 5, 0] rfl) hM
set_option maxHeartbeats 4000000 in
set_option maxRecDepth 100000 in
theorem w_Md_meets_L36 {p : Program} {l : Launch} {e : Env} {s : State} {m : MethodId} {args : Array Value} {below : List Frame} {meth : Method} {c : Code} {D : va_G} {ad : Nat → Nat} {cA : Nat → ClassId} {sd sv : Nat → Nat} {out : (Int × Hp)} (N : Nat) (hI : Inj97 ad) (C : Cx p s m args c prog_13_method_87_code 6 "FeastBookModel" D ad cA sd sv (FA ad)) (hr : meth.sig.returnType = (some .int)) (hlk : meth.locks = false) (v1 v2 : Int) : ∀ (n : Nat) (v3 v4 : Int) (h : Hp) (H : Heap) (locs : List Loc), Wd s D ad cA (FA ad) h H locs → ∀ ls : Array Slot, lv_has ls 6 [(0, .ref (ad 83)), (1, .int (iZ v1)), (2, .int (iZ v2)), (3, .int (iZ v3)), (4, .int (iZ v4))] → Md_meets_L36 N v1 v2 n v3 v4 h = some out → W p l e (rmD 8) s m args below meth c H locs 0 0 (MQ below (QI D ad cA out) args s 0 0 (FA ad)) (F0 m 36 ls []) := by
  intro n
  induction n with
  | zero =>
    intro v3 v4 h H locs w ls hl hM
    rw [Md_meets_L36] at hM
    cases hM
  | succ n ih =>
    intro v3 v4 h H locs w ls hl hM
    rw [Md_meets_L36] at hM
    refine m_iload C hl 4 d_Md_meets_36 rfl ?_
    refine m_iload_n C hl 2 d_Md_meets_38 rfl rfl ?_
    refine m_icmp_ge C hM 121 d_Md_meets_39 (by decide) (fun hM => ?_) (fun hM => ?_)
    · refine m_iload_n C hl 3 d_Md_meets_121 rfl rfl ?_
      exact m_iretW C w hr hlk hM d_Md_meets_122
    · refine m_aload_n C hl 0 d_Md_meets_42 rfl rfl ?_
      refine m_iload C hl 4 d_Md_meets_43 rfl ?_
      obtain ⟨h8, e7, hM⟩ := bnd_some hM
      refine aftV C w (runV C w.1 w.2 kc_Md sh_83 (Nat.le_of_ble_eq_true rfl) (c_Md_resolves hI e7) lk_Md_283 mb_Md_resolves rfl ⟨Nat.le_of_ble_eq_true rfl, Nat.le_of_ble_eq_true rfl⟩ ⟨Nat.zero_le _, Nat.zero_le _⟩ (Nat.le_of_ble_eq_true rfl) d_Md_meets_45 hl.1 (rest := []) rfl) (fun H locs w => ?_)
      refine m_aload_n C hl 0 d_Md_meets_48 rfl rfl ?_
      refine m_getr C w.1 kc_Md sh_83 (Nat.le_of_ble_eq_true rfl) 16 89 rfl (by decide) fk_Md_29 d_Md_meets_49 ?_
      refine m_iload_n C hl 1 d_Md_meets_52 rfl rfl ?_
      refine m_iald C w.1 sh_89 (Nat.le_of_ble_eq_true rfl) (Nat.le_of_ble_eq_true rfl) hM d_Md_meets_53 (fun x9 hM => ?_)
      refine m_iconst C d_Md_meets_54 ?_
      refine m_icmp_ne C hM 61 d_Md_meets_55 (by decide) (fun hM => ?_) (fun hM => ?_)
      · refine m_iconst C d_Md_meets_61 ?_
        refine m_istore C hl [(5, .int (iZ 0)), (0, .ref (ad 83)), (1, .int (iZ v1)), (2, .int (iZ v2)), (3, .int (iZ v3)), (4, .int (iZ v4))] d_Md_meets_62 (by decide) rfl (fun ls hl => ?_)
        refine w_Md_meets_L64 N hI C hr hlk v1 v2 v4 h8 _ _ w _ (fun v3_13 v5_13 hM ls hl => ?_) _ v3 0 _ (lv_sub hl [1, 2, 3, 4, 5, 0] rfl) hM
        refine m_iinc C hl 4 [(4, .int (iZ (v4 + 1))), (0, .ref (ad 83)), (1, .int (iZ v1)), (2, .int (iZ v2)), (3, .int (iZ v3_13)), (5, .int (iZ v5_13))] d_Md_meets_115 rfl (by decide) rfl (fun ls hl => ?_)
        refine m_goto C 36 d_Md_meets_118 (by decide) ?_
        exact ih v3_13 (v4 + 1) h8 _ _ w _ (lv_sub hl [1, 2, 3, 4, 0] rfl) hM
      · refine m_goto C 115 d_Md_meets_58 (by decide) ?_
        refine m_iinc C hl 4 [(4, .int (iZ (v4 + 1))), (0, .ref (ad 83)), (1, .int (iZ v1)), (2, .int (iZ v2)), (3, .int (iZ v3))] d_Md_meets_115 rfl (by decide) rfl (fun ls hl => ?_)
        refine m_goto C 36 d_Md_meets_118 (by decide) ?_
        exact ih v3 (v4 + 1) h8 _ _ w _ (lv_sub hl [1, 2, 3, 4, 0] rfl) hM
set_option maxHeartbeats 4000000 in
set_option maxRecDepth 100000 in
theorem c_Md_meets {l : Launch} {D : va_G} {ad : Nat → Nat} {cA : Nat → ClassId} {sd sv : Nat → Nat} {h : Hp} {N : Nat} {a1 : Int} {out : (Int × Hp)} (hI : Inj97 ad) (hM : M_Md_meets N h a1 = some out) : Met l y_Md_meets (.code y_Md_meets prog_13_method_87_code 6 (some .int) :: TT) (rmD 8) (PC D ad cA sd sv h [.ref (ad 83), .int (iZ a1)]) (QI D ad cA out) 0 0 (FA ad) := by
  unfold M_Md_meets at hM
  refine entM (by decide +kernel) hI (Nat.le_of_ble_eq_true rfl) ?_
  intro p e s m args below meth c C hr hlk hP ls hl
  have C : Cx p s m args c prog_13_method_87_code 6 "FeastBookModel" D ad cA sd sv (FA ad) := C
  have hl : lv_has ls 6 [(0, .ref (ad 83)), (1, .int (iZ a1))] := hl
  have w : Wd s D ad cA (FA ad) h s.heap [] := ⟨hP, va_S.rf⟩
  refine m_aload_n C hl 0 d_Md_meets_0 rfl rfl ?_
  refine m_aload_n C hl 0 d_Md_meets_1 rfl rfl ?_
  refine m_iload_n C hl 1 d_Md_meets_2 rfl rfl ?_
  obtain ⟨x2, e1, hM⟩ := bnd_some hM
  refine aftR (runV C w.1 w.2 kc_Md sh_83 (Nat.le_of_ble_eq_true rfl) (c_Md_isFeast hI e1) lk_Md_311 mb_Md_isFeast rfl ⟨Nat.le_of_ble_eq_true rfl, Nat.le_of_ble_eq_true rfl⟩ ⟨Nat.zero_le _, Nat.zero_le _⟩ (Nat.le_of_ble_eq_true rfl) d_Md_meets_3 hl.1 (rest := [.ref (ad 83)]) rfl) ?_
  refine lt_join hM (fun j3 ej hM => ?_)
  have hJ3 : ∀ (s0_3 : Int), j3 s0_3 = some out → ∀ ls : Array Slot, lv_has ls 6 [(0, .ref (ad 83)), (1, .int (iZ a1))] → W p l e (rmD 8) s m args below meth c s.heap [] 0 0 (MQ below (QI D ad cA out) args s 0 0 (FA ad)) (F0 m 14 ls [.int (iZ s0_3), .ref (ad 83)]) := by
    intro s0_3 hM ls hl
    subst ej
    dsimp only at hM
    refine m_puti C w kc_Md sh_83 (Nat.le_of_ble_eq_true rfl) 0 hM rfl (by decide) rfl rfl fk_Md_51 d_Md_meets_14 (fun h4 H locs w hM => ?_)
    refine m_aload_n C hl 0 d_Md_meets_17 rfl rfl ?_
    refine m_geti C w.1 kc_Md sh_83 (Nat.le_of_ble_eq_true rfl) 0 rfl (by decide) fk_Md_51 d_Md_meets_18 ?_
    refine m_if_le C hM 26 d_Md_meets_21 (by decide) (fun hM => ?_) (fun hM => ?_)
    · refine m_aload_n C hl 0 d_Md_meets_26 rfl rfl ?_
      obtain ⟨x6, e5, hM⟩ := bnd_some hM
      refine aftR (runV C w.1 w.2 kc_Md sh_83 (Nat.le_of_ble_eq_true rfl) (c_Md_cycle0 hI e5) lk_Md_326 mb_Md_cycle0 rfl ⟨Nat.le_of_ble_eq_true rfl, Nat.le_of_ble_eq_true rfl⟩ ⟨Nat.zero_le _, Nat.zero_le _⟩ (Nat.le_of_ble_eq_true rfl) d_Md_meets_27 hl.1 (rest := []) rfl) ?_
      refine m_istore_n C hl [(2, .int (iZ x6)), (0, .ref (ad 83)), (1, .int (iZ a1))] d_Md_meets_30 rfl (by decide) rfl (fun ls hl => ?_)
      refine m_iconst C d_Md_meets_31 ?_
      refine m_istore_n C hl [(3, .int (iZ 0)), (2, .int (iZ x6)), (0, .ref (ad 83)), (1, .int (iZ a1))] d_Md_meets_32 rfl (by decide) rfl (fun ls hl => ?_)
      refine m_iconst C d_Md_meets_33 ?_
      refine m_istore C hl [(4, .int (iZ 0)), (3, .int (iZ 0)), (2, .int (iZ x6)), (0, .ref (ad 83)), (1, .int (iZ a1))] d_Md_meets_34 (by decide) rfl (fun ls hl => ?_)
      exact w_Md_meets_L36 N hI C hr hlk a1 x6 _ 0 0 h4 _ _ w _ (lv_sub hl [3, 4, 2, 1, 0] rfl) hM
    · refine m_iconst C d_Md_meets_24 ?_
      exact m_iretW C w hr hlk hM d_Md_meets_25
  refine m_if_eq C hM 13 d_Md_meets_6 (by decide) (fun hM => ?_) (fun hM => ?_)
  · refine m_iconst C d_Md_meets_13 ?_
    exact hJ3 1 hM _ hl
  · refine m_iconst C d_Md_meets_9 ?_
    refine m_goto C 14 d_Md_meets_10 (by decide) ?_
    exact hJ3 0 hM _ hl
def y_Md_beats : MethodName := ⟨"FeastBookModel", "beats", "(II)Z"⟩
theorem d_Md_beats_0 : decode prog_13_method_88_code 0 = .ok (.aload_n 0, 1) := by decide +kernel
theorem d_Md_beats_1 : decode prog_13_method_88_code 1 = .ok (.aload_n 0, 1) := by decide +kernel
theorem d_Md_beats_2 : decode prog_13_method_88_code 2 = .ok (.iload_n 1, 1) := by decide +kernel
theorem d_Md_beats_3 : decode prog_13_method_88_code 3 = .ok (.invokevirtual 311, 3) := by decide +kernel
theorem d_Md_beats_6 : decode prog_13_method_88_code 6 = .ok (.ifCond .eq 11, 3) := by decide +kernel
theorem d_Md_beats_9 : decode prog_13_method_88_code 9 = .ok (.aload_n 0, 1) := by decide +kernel
theorem d_Md_beats_10 : decode prog_13_method_88_code 10 = .ok (.iload_n 2, 1) := by decide +kernel
theorem d_Md_beats_11 : decode prog_13_method_88_code 11 = .ok (.invokevirtual 311, 3) := by decide +kernel
theorem d_Md_beats_14 : decode prog_13_method_88_code 14 = .ok (.ifCond .ne 7, 3) := by decide +kernel
theorem d_Md_beats_17 : decode prog_13_method_88_code 17 = .ok (.iconst 1, 1) := by decide +kernel
theorem d_Md_beats_18 : decode prog_13_method_88_code 18 = .ok (.goto 13, 3) := by decide +kernel
theorem d_Md_beats_21 : decode prog_13_method_88_code 21 = .ok (.iload_n 1, 1) := by decide +kernel
theorem d_Md_beats_22 : decode prog_13_method_88_code 22 = .ok (.iload_n 2, 1) := by decide +kernel
theorem d_Md_beats_23 : decode prog_13_method_88_code 23 = .ok (.if_icmp .ne 7, 3) := by decide +kernel
theorem d_Md_beats_26 : decode prog_13_method_88_code 26 = .ok (.iconst 2, 1) := by decide +kernel
theorem d_Md_beats_27 : decode prog_13_method_88_code 27 = .ok (.goto 4, 3) := by decide +kernel
theorem d_Md_beats_30 : decode prog_13_method_88_code 30 = .ok (.iconst 0, 1) := by decide +kernel
theorem d_Md_beats_31 : decode prog_13_method_88_code 31 = .ok (.putfield 51, 3) := by decide +kernel
theorem d_Md_beats_34 : decode prog_13_method_88_code 34 = .ok (.aload_n 0, 1) := by decide +kernel
theorem d_Md_beats_35 : decode prog_13_method_88_code 35 = .ok (.getfield 51, 3) := by decide +kernel
theorem d_Md_beats_38 : decode prog_13_method_88_code 38 = .ok (.ifCond .ne 16, 3) := by decide +kernel
theorem d_Md_beats_41 : decode prog_13_method_88_code 41 = .ok (.aload_n 0, 1) := by decide +kernel
theorem d_Md_beats_42 : decode prog_13_method_88_code 42 = .ok (.iload_n 1, 1) := by decide +kernel
theorem d_Md_beats_43 : decode prog_13_method_88_code 43 = .ok (.iload_n 2, 1) := by decide +kernel
theorem d_Md_beats_44 : decode prog_13_method_88_code 44 = .ok (.invokevirtual 97, 3) := by decide +kernel
theorem d_Md_beats_47 : decode prog_13_method_88_code 47 = .ok (.ifCond .eq 7, 3) := by decide +kernel
theorem d_Md_beats_50 : decode prog_13_method_88_code 50 = .ok (.iconst 1, 1) := by decide +kernel
theorem d_Md_beats_51 : decode prog_13_method_88_code 51 = .ok (.goto 4, 3) := by decide +kernel
theorem d_Md_beats_54 : decode prog_13_method_88_code 54 = .ok (.iconst 0, 1) := by decide +kernel
theorem d_Md_beats_55 : decode prog_13_method_88_code 55 = .ok (.ireturn, 1) := by decide +kernel
set_option maxHeartbeats 4000000 in
set_option maxRecDepth 100000 in
theorem c_Md_beats {l : Launch} {D : va_G} {ad : Nat → Nat} {cA : Nat → ClassId} {sd sv : Nat → Nat} {h : Hp} {a1 a2 : Int} {out : (Int × Hp)} (hI : Inj97 ad) (hM : M_Md_beats h a1 a2 = some out) : Met l y_Md_beats (.code y_Md_beats prog_13_method_88_code 3 (some .boolean) :: TT) (rmD 3) (PC D ad cA sd sv h [.ref (ad 83), .int (iZ a1), .int (iZ a2)]) (QI D ad cA out) 0 0 (FA ad) := by
  unfold M_Md_beats at hM
  refine entM (by decide +kernel) hI (Nat.le_of_ble_eq_true rfl) ?_
  intro p e s m args below meth c C hr hlk hP ls hl
  have C : Cx p s m args c prog_13_method_88_code 3 "FeastBookModel" D ad cA sd sv (FA ad) := C
  have hl : lv_has ls 3 [(0, .ref (ad 83)), (1, .int (iZ a1)), (2, .int (iZ a2))] := hl
  have w : Wd s D ad cA (FA ad) h s.heap [] := ⟨hP, va_S.rf⟩
  refine m_aload_n C hl 0 d_Md_beats_0 rfl rfl ?_
  refine m_aload_n C hl 0 d_Md_beats_1 rfl rfl ?_
  refine m_iload_n C hl 1 d_Md_beats_2 rfl rfl ?_
  obtain ⟨x2, e1, hM⟩ := bnd_some hM
  refine aftR (runV C w.1 w.2 kc_Md sh_83 (Nat.le_of_ble_eq_true rfl) (c_Md_isFeast hI e1) lk_Md_311 mb_Md_isFeast rfl ⟨Nat.le_of_ble_eq_true rfl, Nat.le_of_ble_eq_true rfl⟩ ⟨Nat.zero_le _, Nat.zero_le _⟩ (Nat.le_of_ble_eq_true rfl) d_Md_beats_3 hl.1 (rest := [.ref (ad 83)]) rfl) ?_
  refine lt_join hM (fun j5 ej hM => ?_)
  have hJ5 : ∀ (s0_5 : Int), j5 s0_5 = some out → ∀ ls : Array Slot, lv_has ls 3 [(0, .ref (ad 83)), (1, .int (iZ a1)), (2, .int (iZ a2))] → W p l e (rmD 3) s m args below meth c s.heap [] 0 0 (MQ below (QI D ad cA out) args s 0 0 (FA ad)) (F0 m 31 ls [.int (iZ s0_5), .ref (ad 83)]) := by
    intro s0_5 hM ls hl
    subst ej
    dsimp only at hM
    refine m_puti C w kc_Md sh_83 (Nat.le_of_ble_eq_true rfl) 0 hM rfl (by decide) rfl rfl fk_Md_51 d_Md_beats_31 (fun h6 H locs w hM => ?_)
    refine m_aload_n C hl 0 d_Md_beats_34 rfl rfl ?_
    refine m_geti C w.1 kc_Md sh_83 (Nat.le_of_ble_eq_true rfl) 0 rfl (by decide) fk_Md_51 d_Md_beats_35 ?_
    refine m_if_ne C hM 54 d_Md_beats_38 (by decide) (fun hM => ?_) (fun hM => ?_)
    · refine m_iconst C d_Md_beats_54 ?_
      exact m_zretW C w hr hlk hM d_Md_beats_55
    · refine m_aload_n C hl 0 d_Md_beats_41 rfl rfl ?_
      refine m_iload_n C hl 1 d_Md_beats_42 rfl rfl ?_
      refine m_iload_n C hl 2 d_Md_beats_43 rfl rfl ?_
      obtain ⟨x8, e7, hM⟩ := bnd_some hM
      refine aftR (runV C w.1 w.2 kc_Md sh_83 (Nat.le_of_ble_eq_true rfl) (c_Md_beats0 hI e7) lk_Md_97 mb_Md_beats0 rfl ⟨Nat.le_of_ble_eq_true rfl, Nat.le_of_ble_eq_true rfl⟩ ⟨Nat.zero_le _, Nat.zero_le _⟩ (Nat.le_of_ble_eq_true rfl) d_Md_beats_44 hl.1 (rest := []) rfl) ?_
      refine m_if_eq C hM 54 d_Md_beats_47 (by decide) (fun hM => ?_) (fun hM => ?_)
      · refine m_iconst C d_Md_beats_54 ?_
        exact m_zretW C w hr hlk hM d_Md_beats_55
      · refine m_iconst C d_Md_beats_50 ?_
        refine m_goto C 55 d_Md_beats_51 (by decide) ?_
        exact m_zretW C w hr hlk hM d_Md_beats_55
  refine m_if_eq C hM 17 d_Md_beats_6 (by decide) (fun hM => ?_) (fun hM => ?_)
  · refine m_iconst C d_Md_beats_17 ?_
    refine m_goto C 31 d_Md_beats_18 (by decide) ?_
    exact hJ5 1 hM _ hl
  · refine m_aload_n C hl 0 d_Md_beats_9 rfl rfl ?_
    refine m_iload_n C hl 2 d_Md_beats_10 rfl rfl ?_
    obtain ⟨x10, e9, hM⟩ := bnd_some hM
    refine aftR (runV C w.1 w.2 kc_Md sh_83 (Nat.le_of_ble_eq_true rfl) (c_Md_isFeast hI e9) lk_Md_311 mb_Md_isFeast rfl ⟨Nat.le_of_ble_eq_true rfl, Nat.le_of_ble_eq_true rfl⟩ ⟨Nat.zero_le _, Nat.zero_le _⟩ (Nat.le_of_ble_eq_true rfl) d_Md_beats_11 hl.1 (rest := [.ref (ad 83)]) rfl) ?_
    refine m_if_ne C hM 21 d_Md_beats_14 (by decide) (fun hM => ?_) (fun hM => ?_)
    · refine m_iload_n C hl 1 d_Md_beats_21 rfl rfl ?_
      refine m_iload_n C hl 2 d_Md_beats_22 rfl rfl ?_
      refine m_icmp_ne C hM 30 d_Md_beats_23 (by decide) (fun hM => ?_) (fun hM => ?_)
      · refine m_iconst C d_Md_beats_30 ?_
        exact hJ5 0 hM _ hl
      · refine m_iconst C d_Md_beats_26 ?_
        refine m_goto C 31 d_Md_beats_27 (by decide) ?_
        exact hJ5 2 hM _ hl
    · refine m_iconst C d_Md_beats_17 ?_
      refine m_goto C 31 d_Md_beats_18 (by decide) ?_
      exact hJ5 1 hM _ hl
def y_Md_isSafe : MethodName := ⟨"FeastBookModel", "isSafe", "(I)Z"⟩
theorem d_Md_isSafe_0 : decode prog_13_method_90_code 0 = .ok (.aload_n 0, 1) := by decide +kernel
theorem d_Md_isSafe_1 : decode prog_13_method_90_code 1 = .ok (.invokevirtual 326, 3) := by decide +kernel
theorem d_Md_isSafe_4 : decode prog_13_method_90_code 4 = .ok (.istore_n 2, 1) := by decide +kernel
theorem d_Md_isSafe_5 : decode prog_13_method_90_code 5 = .ok (.iconst 0, 1) := by decide +kernel
theorem d_Md_isSafe_6 : decode prog_13_method_90_code 6 = .ok (.istore_n 3, 1) := by decide +kernel
theorem d_Md_isSafe_7 : decode prog_13_method_90_code 7 = .ok (.iload_n 3, 1) := by decide +kernel
theorem d_Md_isSafe_8 : decode prog_13_method_90_code 8 = .ok (.iload_n 2, 1) := by decide +kernel
theorem d_Md_isSafe_9 : decode prog_13_method_90_code 9 = .ok (.if_icmp .ge 35, 3) := by decide +kernel
theorem d_Md_isSafe_12 : decode prog_13_method_90_code 12 = .ok (.aload_n 0, 1) := by decide +kernel
theorem d_Md_isSafe_13 : decode prog_13_method_90_code 13 = .ok (.iload_n 3, 1) := by decide +kernel
theorem d_Md_isSafe_14 : decode prog_13_method_90_code 14 = .ok (.invokevirtual 283, 3) := by decide +kernel
theorem d_Md_isSafe_17 : decode prog_13_method_90_code 17 = .ok (.aload_n 0, 1) := by decide +kernel
theorem d_Md_isSafe_18 : decode prog_13_method_90_code 18 = .ok (.getfield 35, 3) := by decide +kernel
theorem d_Md_isSafe_21 : decode prog_13_method_90_code 21 = .ok (.iload_n 1, 1) := by decide +kernel
theorem d_Md_isSafe_22 : decode prog_13_method_90_code 22 = .ok (.iaload, 1) := by decide +kernel
theorem d_Md_isSafe_23 : decode prog_13_method_90_code 23 = .ok (.ifCond .eq 15, 3) := by decide +kernel
theorem d_Md_isSafe_26 : decode prog_13_method_90_code 26 = .ok (.aload_n 0, 1) := by decide +kernel
theorem d_Md_isSafe_27 : decode prog_13_method_90_code 27 = .ok (.getfield 35, 3) := by decide +kernel
theorem d_Md_isSafe_30 : decode prog_13_method_90_code 30 = .ok (.iload_n 1, 1) := by decide +kernel
theorem d_Md_isSafe_31 : decode prog_13_method_90_code 31 = .ok (.iaload, 1) := by decide +kernel
theorem d_Md_isSafe_32 : decode prog_13_method_90_code 32 = .ok (.iconst 5, 1) := by decide +kernel
theorem d_Md_isSafe_33 : decode prog_13_method_90_code 33 = .ok (.if_icmp .eq 5, 3) := by decide +kernel
theorem d_Md_isSafe_36 : decode prog_13_method_90_code 36 = .ok (.iconst 0, 1) := by decide +kernel
theorem d_Md_isSafe_37 : decode prog_13_method_90_code 37 = .ok (.ireturn, 1) := by decide +kernel
theorem d_Md_isSafe_38 : decode prog_13_method_90_code 38 = .ok (.iinc 3 1, 3) := by decide +kernel
theorem d_Md_isSafe_41 : decode prog_13_method_90_code 41 = .ok (.goto (-34), 3) := by decide +kernel
theorem d_Md_isSafe_44 : decode prog_13_method_90_code 44 = .ok (.iconst 1, 1) := by decide +kernel
theorem d_Md_isSafe_45 : decode prog_13_method_90_code 45 = .ok (.ireturn, 1) := by decide +kernel
set_option maxHeartbeats 4000000 in
set_option maxRecDepth 100000 in
theorem w_Md_isSafe_L7 {p : Program} {l : Launch} {e : Env} {s : State} {m : MethodId} {args : Array Value} {below : List Frame} {meth : Method} {c : Code} {D : va_G} {ad : Nat → Nat} {cA : Nat → ClassId} {sd sv : Nat → Nat} {out : (Int × Hp)} (N : Nat) (hI : Inj97 ad) (C : Cx p s m args c prog_13_method_90_code 4 "FeastBookModel" D ad cA sd sv (FA ad)) (hr : meth.sig.returnType = (some .boolean)) (hlk : meth.locks = false) (v1 v2 : Int) : ∀ (n : Nat) (v3 : Int) (h : Hp) (H : Heap) (locs : List Loc), Wd s D ad cA (FA ad) h H locs → ∀ ls : Array Slot, lv_has ls 4 [(0, .ref (ad 83)), (1, .int (iZ v1)), (2, .int (iZ v2)), (3, .int (iZ v3))] → Md_isSafe_L7 N v1 v2 n v3 h = some out → W p l e (rmD 8) s m args below meth c H locs 0 0 (MQ below (QI D ad cA out) args s 0 0 (FA ad)) (F0 m 7 ls []) := by
  intro n
  induction n with
  | zero =>
    intro v3 h H locs w ls hl hM
    rw [Md_isSafe_L7] at hM
    cases hM
  | succ n ih =>
    intro v3 h H locs w ls hl hM
    rw [Md_isSafe_L7] at hM
    refine m_iload_n C hl 3 d_Md_isSafe_7 rfl rfl ?_
    refine m_iload_n C hl 2 d_Md_isSafe_8 rfl rfl ?_
    refine m_icmp_ge C hM 44 d_Md_isSafe_9 (by decide) (fun hM => ?_) (fun hM => ?_)
    · refine m_iconst C d_Md_isSafe_44 ?_
      exact m_zretW C w hr hlk hM d_Md_isSafe_45
    · refine m_aload_n C hl 0 d_Md_isSafe_12 rfl rfl ?_
      refine m_iload_n C hl 3 d_Md_isSafe_13 rfl rfl ?_
      obtain ⟨h4, e3, hM⟩ := bnd_some hM
      refine aftV C w (runV C w.1 w.2 kc_Md sh_83 (Nat.le_of_ble_eq_true rfl) (c_Md_resolves hI e3) lk_Md_283 mb_Md_resolves rfl ⟨Nat.le_of_ble_eq_true rfl, Nat.le_of_ble_eq_true rfl⟩ ⟨Nat.zero_le _, Nat.zero_le _⟩ (Nat.le_of_ble_eq_true rfl) d_Md_isSafe_14 hl.1 (rest := []) rfl) (fun H locs w => ?_)
      refine m_aload_n C hl 0 d_Md_isSafe_17 rfl rfl ?_
      refine m_getr C w.1 kc_Md sh_83 (Nat.le_of_ble_eq_true rfl) 18 91 rfl (by decide) fk_Md_35 d_Md_isSafe_18 ?_
      refine m_iload_n C hl 1 d_Md_isSafe_21 rfl rfl ?_
      refine m_iald C w.1 sh_91 (Nat.le_of_ble_eq_true rfl) (Nat.le_of_ble_eq_true rfl) hM d_Md_isSafe_22 (fun x5 hM => ?_)
      refine m_if_eq C hM 38 d_Md_isSafe_23 (by decide) (fun hM => ?_) (fun hM => ?_)
      · refine m_iinc C hl 3 [(3, .int (iZ (v3 + 1))), (0, .ref (ad 83)), (1, .int (iZ v1)), (2, .int (iZ v2))] d_Md_isSafe_38 rfl (by decide) rfl (fun ls hl => ?_)
        refine m_goto C 7 d_Md_isSafe_41 (by decide) ?_
        exact ih (v3 + 1) h4 _ _ w _ (lv_sub hl [1, 2, 3, 0] rfl) hM
      · refine m_aload_n C hl 0 d_Md_isSafe_26 rfl rfl ?_
        refine m_getr C w.1 kc_Md sh_83 (Nat.le_of_ble_eq_true rfl) 18 91 rfl (by decide) fk_Md_35 d_Md_isSafe_27 ?_
        refine m_iload_n C hl 1 d_Md_isSafe_30 rfl rfl ?_
        refine m_iald C w.1 sh_91 (Nat.le_of_ble_eq_true rfl) (Nat.le_of_ble_eq_true rfl) hM d_Md_isSafe_31 (fun x6 hM => ?_)
        refine m_iconst C d_Md_isSafe_32 ?_
        refine m_icmp_eq C hM 38 d_Md_isSafe_33 (by decide) (fun hM => ?_) (fun hM => ?_)
        · refine m_iinc C hl 3 [(3, .int (iZ (v3 + 1))), (0, .ref (ad 83)), (1, .int (iZ v1)), (2, .int (iZ v2))] d_Md_isSafe_38 rfl (by decide) rfl (fun ls hl => ?_)
          refine m_goto C 7 d_Md_isSafe_41 (by decide) ?_
          exact ih (v3 + 1) h4 _ _ w _ (lv_sub hl [1, 2, 3, 0] rfl) hM
        · refine m_iconst C d_Md_isSafe_36 ?_
          exact m_zretW C w hr hlk hM d_Md_isSafe_37
set_option maxHeartbeats 4000000 in
set_option maxRecDepth 100000 in
theorem c_Md_isSafe {l : Launch} {D : va_G} {ad : Nat → Nat} {cA : Nat → ClassId} {sd sv : Nat → Nat} {h : Hp} {N : Nat} {a1 : Int} {out : (Int × Hp)} (hI : Inj97 ad) (hM : M_Md_isSafe N h a1 = some out) : Met l y_Md_isSafe (.code y_Md_isSafe prog_13_method_90_code 4 (some .boolean) :: TT) (rmD 8) (PC D ad cA sd sv h [.ref (ad 83), .int (iZ a1)]) (QI D ad cA out) 0 0 (FA ad) := by
  unfold M_Md_isSafe at hM
  refine entM (by decide +kernel) hI (Nat.le_of_ble_eq_true rfl) ?_
  intro p e s m args below meth c C hr hlk hP ls hl
  have C : Cx p s m args c prog_13_method_90_code 4 "FeastBookModel" D ad cA sd sv (FA ad) := C
  have hl : lv_has ls 4 [(0, .ref (ad 83)), (1, .int (iZ a1))] := hl
  have w : Wd s D ad cA (FA ad) h s.heap [] := ⟨hP, va_S.rf⟩
  refine m_aload_n C hl 0 d_Md_isSafe_0 rfl rfl ?_
  obtain ⟨x2, e1, hM⟩ := bnd_some hM
  refine aftR (runV C w.1 w.2 kc_Md sh_83 (Nat.le_of_ble_eq_true rfl) (c_Md_cycle0 hI e1) lk_Md_326 mb_Md_cycle0 rfl ⟨Nat.le_of_ble_eq_true rfl, Nat.le_of_ble_eq_true rfl⟩ ⟨Nat.zero_le _, Nat.zero_le _⟩ (Nat.le_of_ble_eq_true rfl) d_Md_isSafe_1 hl.1 (rest := []) rfl) ?_
  refine m_istore_n C hl [(2, .int (iZ x2)), (0, .ref (ad 83)), (1, .int (iZ a1))] d_Md_isSafe_4 rfl (by decide) rfl (fun ls hl => ?_)
  refine m_iconst C d_Md_isSafe_5 ?_
  refine m_istore_n C hl [(3, .int (iZ 0)), (2, .int (iZ x2)), (0, .ref (ad 83)), (1, .int (iZ a1))] d_Md_isSafe_6 rfl (by decide) rfl (fun ls hl => ?_)
  exact w_Md_isSafe_L7 N hI C hr hlk a1 x2 _ 0 h _ _ w _ (lv_sub hl [2, 3, 1, 0] rfl) hM
def y_Md_safe : MethodName := ⟨"FeastBookModel", "safe", "(I)I"⟩
theorem d_Md_safe_0 : decode prog_13_method_91_code 0 = .ok (.aload_n 0, 1) := by decide +kernel
theorem d_Md_safe_1 : decode prog_13_method_91_code 1 = .ok (.aload_n 0, 1) := by decide +kernel
theorem d_Md_safe_2 : decode prog_13_method_91_code 2 = .ok (.iload_n 1, 1) := by decide +kernel
theorem d_Md_safe_3 : decode prog_13_method_91_code 3 = .ok (.invokevirtual 311, 3) := by decide +kernel
theorem d_Md_safe_6 : decode prog_13_method_91_code 6 = .ok (.ifCond .eq 7, 3) := by decide +kernel
theorem d_Md_safe_9 : decode prog_13_method_91_code 9 = .ok (.iconst 0, 1) := by decide +kernel
theorem d_Md_safe_10 : decode prog_13_method_91_code 10 = .ok (.goto 4, 3) := by decide +kernel
theorem d_Md_safe_13 : decode prog_13_method_91_code 13 = .ok (.iconst 1, 1) := by decide +kernel
theorem d_Md_safe_14 : decode prog_13_method_91_code 14 = .ok (.putfield 51, 3) := by decide +kernel
theorem d_Md_safe_17 : decode prog_13_method_91_code 17 = .ok (.aload_n 0, 1) := by decide +kernel
theorem d_Md_safe_18 : decode prog_13_method_91_code 18 = .ok (.getfield 51, 3) := by decide +kernel
theorem d_Md_safe_21 : decode prog_13_method_91_code 21 = .ok (.ifCond .le 5, 3) := by decide +kernel
theorem d_Md_safe_24 : decode prog_13_method_91_code 24 = .ok (.iconst 0, 1) := by decide +kernel
theorem d_Md_safe_25 : decode prog_13_method_91_code 25 = .ok (.ireturn, 1) := by decide +kernel
theorem d_Md_safe_26 : decode prog_13_method_91_code 26 = .ok (.bipush 43, 2) := by decide +kernel
theorem d_Md_safe_28 : decode prog_13_method_91_code 28 = .ok (.bipush 7, 2) := by decide +kernel
theorem d_Md_safe_30 : decode prog_13_method_91_code 30 = .ok (.iload_n 1, 1) := by decide +kernel
theorem d_Md_safe_31 : decode prog_13_method_91_code 31 = .ok (.imul, 1) := by decide +kernel
theorem d_Md_safe_32 : decode prog_13_method_91_code 32 = .ok (.iadd, 1) := by decide +kernel
theorem d_Md_safe_33 : decode prog_13_method_91_code 33 = .ok (.iconst 0, 1) := by decide +kernel
theorem d_Md_safe_34 : decode prog_13_method_91_code 34 = .ok (.iadd, 1) := by decide +kernel
theorem d_Md_safe_35 : decode prog_13_method_91_code 35 = .ok (.istore_n 2, 1) := by decide +kernel
theorem d_Md_safe_36 : decode prog_13_method_91_code 36 = .ok (.aload_n 0, 1) := by decide +kernel
theorem d_Md_safe_37 : decode prog_13_method_91_code 37 = .ok (.getfield 7, 3) := by decide +kernel
theorem d_Md_safe_40 : decode prog_13_method_91_code 40 = .ok (.iload_n 2, 1) := by decide +kernel
theorem d_Md_safe_41 : decode prog_13_method_91_code 41 = .ok (.iaload, 1) := by decide +kernel
theorem d_Md_safe_42 : decode prog_13_method_91_code 42 = .ok (.istore_n 3, 1) := by decide +kernel
theorem d_Md_safe_43 : decode prog_13_method_91_code 43 = .ok (.iconst 1, 1) := by decide +kernel
theorem d_Md_safe_44 : decode prog_13_method_91_code 44 = .ok (.istore 4, 2) := by decide +kernel
theorem d_Md_safe_46 : decode prog_13_method_91_code 46 = .ok (.aload_n 0, 1) := by decide +kernel
theorem d_Md_safe_47 : decode prog_13_method_91_code 47 = .ok (.getfield 7, 3) := by decide +kernel
theorem d_Md_safe_50 : decode prog_13_method_91_code 50 = .ok (.iload_n 2, 1) := by decide +kernel
theorem d_Md_safe_51 : decode prog_13_method_91_code 51 = .ok (.iload 4, 2) := by decide +kernel
theorem d_Md_safe_53 : decode prog_13_method_91_code 53 = .ok (.iastore, 1) := by decide +kernel
theorem d_Md_safe_54 : decode prog_13_method_91_code 54 = .ok (.iload 4, 2) := by decide +kernel
theorem d_Md_safe_56 : decode prog_13_method_91_code 56 = .ok (.bipush 10, 2) := by decide +kernel
theorem d_Md_safe_58 : decode prog_13_method_91_code 58 = .ok (.if_icmp .ge 25, 3) := by decide +kernel
theorem d_Md_safe_61 : decode prog_13_method_91_code 61 = .ok (.aload_n 0, 1) := by decide +kernel
theorem d_Md_safe_62 : decode prog_13_method_91_code 62 = .ok (.iload_n 1, 1) := by decide +kernel
theorem d_Md_safe_63 : decode prog_13_method_91_code 63 = .ok (.invokevirtual 332, 3) := by decide +kernel
theorem d_Md_safe_66 : decode prog_13_method_91_code 66 = .ok (.ifCond .ne 17, 3) := by decide +kernel
theorem d_Md_safe_69 : decode prog_13_method_91_code 69 = .ok (.iinc 4 1, 3) := by decide +kernel
theorem d_Md_safe_72 : decode prog_13_method_91_code 72 = .ok (.aload_n 0, 1) := by decide +kernel
theorem d_Md_safe_73 : decode prog_13_method_91_code 73 = .ok (.getfield 7, 3) := by decide +kernel
theorem d_Md_safe_76 : decode prog_13_method_91_code 76 = .ok (.iload_n 2, 1) := by decide +kernel
theorem d_Md_safe_77 : decode prog_13_method_91_code 77 = .ok (.iload 4, 2) := by decide +kernel
theorem d_Md_safe_79 : decode prog_13_method_91_code 79 = .ok (.iastore, 1) := by decide +kernel
theorem d_Md_safe_80 : decode prog_13_method_91_code 80 = .ok (.goto (-26), 3) := by decide +kernel
theorem d_Md_safe_83 : decode prog_13_method_91_code 83 = .ok (.aload_n 0, 1) := by decide +kernel
theorem d_Md_safe_84 : decode prog_13_method_91_code 84 = .ok (.getfield 7, 3) := by decide +kernel
theorem d_Md_safe_87 : decode prog_13_method_91_code 87 = .ok (.iload_n 2, 1) := by decide +kernel
theorem d_Md_safe_88 : decode prog_13_method_91_code 88 = .ok (.iload_n 3, 1) := by decide +kernel
theorem d_Md_safe_89 : decode prog_13_method_91_code 89 = .ok (.iastore, 1) := by decide +kernel
theorem d_Md_safe_90 : decode prog_13_method_91_code 90 = .ok (.iload 4, 2) := by decide +kernel
theorem d_Md_safe_92 : decode prog_13_method_91_code 92 = .ok (.bipush 9, 2) := by decide +kernel
theorem d_Md_safe_94 : decode prog_13_method_91_code 94 = .ok (.if_icmp .le 7, 3) := by decide +kernel
theorem d_Md_safe_97 : decode prog_13_method_91_code 97 = .ok (.iconst (-1), 1) := by decide +kernel
theorem d_Md_safe_98 : decode prog_13_method_91_code 98 = .ok (.goto 5, 3) := by decide +kernel
theorem d_Md_safe_101 : decode prog_13_method_91_code 101 = .ok (.iload 4, 2) := by decide +kernel
theorem d_Md_safe_103 : decode prog_13_method_91_code 103 = .ok (.ireturn, 1) := by decide +kernel
theorem mb_Md_isSafe : MBv R_Md y_Md_isSafe prog_13_method_90_code 4 (some .boolean) 1 := ⟨mT10 67 (by decide +kernel) (by decide +kernel), mTs 73 (by decide +kernel) (by decide +kernel), mT1 10 (by decide +kernel) (by decide +kernel), mT10 68 (by decide +kernel) (by decide +kernel), by decide, rfl, by decide +kernel, by decide +kernel, by decide +kernel⟩
theorem lk_Md_332 : Cond.methodLink "FeastBookModel" 332 y_Md_isSafe ∈ TT := mT10 65 (by decide +kernel) (by decide +kernel)
set_option maxHeartbeats 4000000 in
set_option maxRecDepth 100000 in
theorem w_Md_safe_L54 {p : Program} {l : Launch} {e : Env} {s : State} {m : MethodId} {args : Array Value} {below : List Frame} {meth : Method} {c : Code} {D : va_G} {ad : Nat → Nat} {cA : Nat → ClassId} {sd sv : Nat → Nat} {out : (Int × Hp)} (N : Nat) (hI : Inj97 ad) (C : Cx p s m args c prog_13_method_91_code 5 "FeastBookModel" D ad cA sd sv (FA ad)) (hr : meth.sig.returnType = (some .int)) (hlk : meth.locks = false) (v1 v2 v3 : Int) : ∀ (n : Nat) (v4 : Int) (h : Hp) (H : Heap) (locs : List Loc), Wd s D ad cA (FA ad) h H locs → ∀ ls : Array Slot, lv_has ls 5 [(0, .ref (ad 83)), (1, .int (iZ v1)), (2, .int (iZ v2)), (3, .int (iZ v3)), (4, .int (iZ v4))] → Md_safe_L54 N v1 v2 v3 n v4 h = some out → W p l e (rmD 9) s m args below meth c H locs 0 0 (MQ below (QI D ad cA out) args s 0 0 (FA ad)) (F0 m 54 ls []) := by
  intro n
  induction n with
  | zero =>
    intro v4 h H locs w ls hl hM
    rw [Md_safe_L54] at hM
    cases hM
  | succ n ih =>
    intro v4 h H locs w ls hl hM
    rw [Md_safe_L54] at hM
    refine m_iload C hl 4 d_Md_safe_54 rfl ?_
    refine m_bipush C d_Md_safe_56 (by decide) ?_
    refine m_icmp_ge C hM 83 d_Md_safe_58 (by decide) (fun hM => ?_) (fun hM => ?_)
    · refine m_aload_n C hl 0 d_Md_safe_83 rfl rfl ?_
      refine m_getr C w.1 kc_Md sh_83 (Nat.le_of_ble_eq_true rfl) 1 84 rfl (by decide) fk_Md_7 d_Md_safe_84 ?_
      refine m_iload_n C hl 2 d_Md_safe_87 rfl rfl ?_
      refine m_iload_n C hl 3 d_Md_safe_88 rfl rfl ?_
      refine m_iast C w sh_84 (Nat.le_of_ble_eq_true rfl) (Nat.le_of_ble_eq_true rfl) hM d_Md_safe_89 (fun h7 H locs w hM => ?_)
      refine m_iload C hl 4 d_Md_safe_90 rfl ?_
      refine m_bipush C d_Md_safe_92 (by decide) ?_
      refine m_icmp_le C hM 101 d_Md_safe_94 (by decide) (fun hM => ?_) (fun hM => ?_)
      · refine m_iload C hl 4 d_Md_safe_101 rfl ?_
        exact m_iretW C w hr hlk hM d_Md_safe_103
      · refine m_iconst C d_Md_safe_97 ?_
        refine m_goto C 103 d_Md_safe_98 (by decide) ?_
        exact m_iretW C w hr hlk hM d_Md_safe_103
    · refine m_aload_n C hl 0 d_Md_safe_61 rfl rfl ?_
      refine m_iload_n C hl 1 d_Md_safe_62 rfl rfl ?_
      obtain ⟨q9, e8, hM⟩ := bnd_some hM
      refine aftI C w (runV C w.1 w.2 kc_Md sh_83 (Nat.le_of_ble_eq_true rfl) (c_Md_isSafe hI e8) lk_Md_332 mb_Md_isSafe rfl ⟨Nat.le_of_ble_eq_true rfl, Nat.le_of_ble_eq_true rfl⟩ ⟨Nat.zero_le _, Nat.zero_le _⟩ (Nat.le_of_ble_eq_true rfl) d_Md_safe_63 hl.1 (rest := []) rfl) (fun H locs w => ?_)
      refine m_if_ne C hM 83 d_Md_safe_66 (by decide) (fun hM => ?_) (fun hM => ?_)
      · refine m_aload_n C hl 0 d_Md_safe_83 rfl rfl ?_
        refine m_getr C w.1 kc_Md sh_83 (Nat.le_of_ble_eq_true rfl) 1 84 rfl (by decide) fk_Md_7 d_Md_safe_84 ?_
        refine m_iload_n C hl 2 d_Md_safe_87 rfl rfl ?_
        refine m_iload_n C hl 3 d_Md_safe_88 rfl rfl ?_
        refine m_iast C w sh_84 (Nat.le_of_ble_eq_true rfl) (Nat.le_of_ble_eq_true rfl) hM d_Md_safe_89 (fun h10 H locs w hM => ?_)
        refine m_iload C hl 4 d_Md_safe_90 rfl ?_
        refine m_bipush C d_Md_safe_92 (by decide) ?_
        refine m_icmp_le C hM 101 d_Md_safe_94 (by decide) (fun hM => ?_) (fun hM => ?_)
        · refine m_iload C hl 4 d_Md_safe_101 rfl ?_
          exact m_iretW C w hr hlk hM d_Md_safe_103
        · refine m_iconst C d_Md_safe_97 ?_
          refine m_goto C 103 d_Md_safe_98 (by decide) ?_
          exact m_iretW C w hr hlk hM d_Md_safe_103
      · refine m_iinc C hl 4 [(4, .int (iZ (v4 + 1))), (0, .ref (ad 83)), (1, .int (iZ v1)), (2, .int (iZ v2)), (3, .int (iZ v3))] d_Md_safe_69 rfl (by decide) rfl (fun ls hl => ?_)
        refine m_aload_n C hl 1 d_Md_safe_72 rfl rfl ?_
        refine m_getr C w.1 kc_Md sh_83 (Nat.le_of_ble_eq_true rfl) 1 84 rfl (by decide) fk_Md_7 d_Md_safe_73 ?_
        refine m_iload_n C hl 3 d_Md_safe_76 rfl rfl ?_
        refine m_iload C hl 0 d_Md_safe_77 rfl ?_
        refine m_iast C w sh_84 (Nat.le_of_ble_eq_true rfl) (Nat.le_of_ble_eq_true rfl) hM d_Md_safe_79 (fun h11 H locs w hM => ?_)
        refine m_goto C 54 d_Md_safe_80 (by decide) ?_
        exact ih (v4 + 1) h11 _ _ w _ (lv_sub hl [1, 2, 3, 4, 0] rfl) hM
set_option maxHeartbeats 4000000 in
set_option maxRecDepth 100000 in
theorem c_Md_safe {l : Launch} {D : va_G} {ad : Nat → Nat} {cA : Nat → ClassId} {sd sv : Nat → Nat} {h : Hp} {N : Nat} {a1 : Int} {out : (Int × Hp)} (hI : Inj97 ad) (hM : M_Md_safe N h a1 = some out) : Met l y_Md_safe (.code y_Md_safe prog_13_method_91_code 5 (some .int) :: TT) (rmD 9) (PC D ad cA sd sv h [.ref (ad 83), .int (iZ a1)]) (QI D ad cA out) 0 0 (FA ad) := by
  unfold M_Md_safe at hM
  refine entM (by decide +kernel) hI (Nat.le_of_ble_eq_true rfl) ?_
  intro p e s m args below meth c C hr hlk hP ls hl
  have C : Cx p s m args c prog_13_method_91_code 5 "FeastBookModel" D ad cA sd sv (FA ad) := C
  have hl : lv_has ls 5 [(0, .ref (ad 83)), (1, .int (iZ a1))] := hl
  have w : Wd s D ad cA (FA ad) h s.heap [] := ⟨hP, va_S.rf⟩
  refine m_aload_n C hl 0 d_Md_safe_0 rfl rfl ?_
  refine m_aload_n C hl 0 d_Md_safe_1 rfl rfl ?_
  refine m_iload_n C hl 1 d_Md_safe_2 rfl rfl ?_
  obtain ⟨x2, e1, hM⟩ := bnd_some hM
  refine aftR (runV C w.1 w.2 kc_Md sh_83 (Nat.le_of_ble_eq_true rfl) (c_Md_isFeast hI e1) lk_Md_311 mb_Md_isFeast rfl ⟨Nat.le_of_ble_eq_true rfl, Nat.le_of_ble_eq_true rfl⟩ ⟨Nat.zero_le _, Nat.zero_le _⟩ (Nat.le_of_ble_eq_true rfl) d_Md_safe_3 hl.1 (rest := [.ref (ad 83)]) rfl) ?_
  refine lt_join hM (fun j3 ej hM => ?_)
  have hJ3 : ∀ (s0_3 : Int), j3 s0_3 = some out → ∀ ls : Array Slot, lv_has ls 5 [(0, .ref (ad 83)), (1, .int (iZ a1))] → W p l e (rmD 9) s m args below meth c s.heap [] 0 0 (MQ below (QI D ad cA out) args s 0 0 (FA ad)) (F0 m 14 ls [.int (iZ s0_3), .ref (ad 83)]) := by
    intro s0_3 hM ls hl
    subst ej
    dsimp only at hM
    refine m_puti C w kc_Md sh_83 (Nat.le_of_ble_eq_true rfl) 0 hM rfl (by decide) rfl rfl fk_Md_51 d_Md_safe_14 (fun h4 H locs w hM => ?_)
    refine m_aload_n C hl 0 d_Md_safe_17 rfl rfl ?_
    refine m_geti C w.1 kc_Md sh_83 (Nat.le_of_ble_eq_true rfl) 0 rfl (by decide) fk_Md_51 d_Md_safe_18 ?_
    refine m_if_le C hM 26 d_Md_safe_21 (by decide) (fun hM => ?_) (fun hM => ?_)
    · refine m_bipush C d_Md_safe_26 (by decide) ?_
      refine m_bipush C d_Md_safe_28 (by decide) ?_
      refine m_iload_n C hl 1 d_Md_safe_30 rfl rfl ?_
      refine m_imul C d_Md_safe_31 ?_
      refine m_iadd C d_Md_safe_32 ?_
      refine m_iconst C d_Md_safe_33 ?_
      refine m_iadd C d_Md_safe_34 ?_
      refine m_istore_n C hl [(2, .int (iZ ((43 + (7 * a1)) + 0))), (0, .ref (ad 83)), (1, .int (iZ a1))] d_Md_safe_35 rfl (by decide) rfl (fun ls hl => ?_)
      refine m_aload_n C hl 1 d_Md_safe_36 rfl rfl ?_
      refine m_getr C w.1 kc_Md sh_83 (Nat.le_of_ble_eq_true rfl) 1 84 rfl (by decide) fk_Md_7 d_Md_safe_37 ?_
      refine m_iload_n C hl 0 d_Md_safe_40 rfl rfl ?_
      refine m_iald C w.1 sh_84 (Nat.le_of_ble_eq_true rfl) (Nat.le_of_ble_eq_true rfl) hM d_Md_safe_41 (fun x5 hM => ?_)
      refine m_istore_n C hl [(3, .int (iZ x5)), (2, .int (iZ ((43 + (7 * a1)) + 0))), (0, .ref (ad 83)), (1, .int (iZ a1))] d_Md_safe_42 rfl (by decide) rfl (fun ls hl => ?_)
      refine m_iconst C d_Md_safe_43 ?_
      refine m_istore C hl [(4, .int (iZ 1)), (3, .int (iZ x5)), (2, .int (iZ ((43 + (7 * a1)) + 0))), (0, .ref (ad 83)), (1, .int (iZ a1))] d_Md_safe_44 (by decide) rfl (fun ls hl => ?_)
      refine m_aload_n C hl 3 d_Md_safe_46 rfl rfl ?_
      refine m_getr C w.1 kc_Md sh_83 (Nat.le_of_ble_eq_true rfl) 1 84 rfl (by decide) fk_Md_7 d_Md_safe_47 ?_
      refine m_iload_n C hl 2 d_Md_safe_50 rfl rfl ?_
      refine m_iload C hl 0 d_Md_safe_51 rfl ?_
      refine m_iast C w sh_84 (Nat.le_of_ble_eq_true rfl) (Nat.le_of_ble_eq_true rfl) hM d_Md_safe_53 (fun h6 H locs w hM => ?_)
      exact w_Md_safe_L54 N hI C hr hlk a1 ((43 + (7 * a1)) + 0) x5 _ 1 h6 _ _ w _ (lv_sub hl [3, 4, 2, 1, 0] rfl) hM
    · refine m_iconst C d_Md_safe_24 ?_
      exact m_iretW C w hr hlk hM d_Md_safe_25
  refine m_if_eq C hM 13 d_Md_safe_6 (by decide) (fun hM => ?_) (fun hM => ?_)
  · refine m_iconst C d_Md_safe_13 ?_
    exact hJ3 1 hM _ hl
  · refine m_iconst C d_Md_safe_9 ?_
    refine m_goto C 14 d_Md_safe_10 (by decide) ?_
    exact hJ3 0 hM _ hl
def y_Md_next : MethodName := ⟨"FeastBookModel", "next", "(III)I"⟩
theorem d_Md_next_0 : decode prog_13_method_92_code 0 = .ok (.aload_n 0, 1) := by decide +kernel
theorem d_Md_next_1 : decode prog_13_method_92_code 1 = .ok (.aload_n 0, 1) := by decide +kernel
theorem d_Md_next_2 : decode prog_13_method_92_code 2 = .ok (.iload_n 1, 1) := by decide +kernel
theorem d_Md_next_3 : decode prog_13_method_92_code 3 = .ok (.invokevirtual 311, 3) := by decide +kernel
theorem d_Md_next_6 : decode prog_13_method_92_code 6 = .ok (.ifCond .eq 11, 3) := by decide +kernel
theorem d_Md_next_9 : decode prog_13_method_92_code 9 = .ok (.aload_n 0, 1) := by decide +kernel
theorem d_Md_next_10 : decode prog_13_method_92_code 10 = .ok (.iload_n 3, 1) := by decide +kernel
theorem d_Md_next_11 : decode prog_13_method_92_code 11 = .ok (.invokevirtual 280, 3) := by decide +kernel
theorem d_Md_next_14 : decode prog_13_method_92_code 14 = .ok (.ifCond .ne 7, 3) := by decide +kernel
theorem d_Md_next_17 : decode prog_13_method_92_code 17 = .ok (.iconst 1, 1) := by decide +kernel
theorem d_Md_next_18 : decode prog_13_method_92_code 18 = .ok (.goto 24, 3) := by decide +kernel
theorem d_Md_next_21 : decode prog_13_method_92_code 21 = .ok (.iload_n 2, 1) := by decide +kernel
theorem d_Md_next_22 : decode prog_13_method_92_code 22 = .ok (.iconst 0, 1) := by decide +kernel
theorem d_Md_next_23 : decode prog_13_method_92_code 23 = .ok (.aload_n 0, 1) := by decide +kernel
theorem d_Md_next_24 : decode prog_13_method_92_code 24 = .ok (.getfield 7, 3) := by decide +kernel
theorem d_Md_next_27 : decode prog_13_method_92_code 27 = .ok (.iconst 0, 1) := by decide +kernel
theorem d_Md_next_28 : decode prog_13_method_92_code 28 = .ok (.iaload, 1) := by decide +kernel
theorem d_Md_next_29 : decode prog_13_method_92_code 29 = .ok (.iconst 1, 1) := by decide +kernel
theorem d_Md_next_30 : decode prog_13_method_92_code 30 = .ok (.isub, 1) := by decide +kernel
theorem d_Md_next_31 : decode prog_13_method_92_code 31 = .ok (.invokestatic 54, 3) := by decide +kernel
theorem d_Md_next_34 : decode prog_13_method_92_code 34 = .ok (.ifCond .ne 7, 3) := by decide +kernel
theorem d_Md_next_37 : decode prog_13_method_92_code 37 = .ok (.iconst 2, 1) := by decide +kernel
theorem d_Md_next_38 : decode prog_13_method_92_code 38 = .ok (.goto 4, 3) := by decide +kernel
theorem d_Md_next_41 : decode prog_13_method_92_code 41 = .ok (.iconst 0, 1) := by decide +kernel
theorem d_Md_next_42 : decode prog_13_method_92_code 42 = .ok (.putfield 51, 3) := by decide +kernel
theorem d_Md_next_45 : decode prog_13_method_92_code 45 = .ok (.aload_n 0, 1) := by decide +kernel
theorem d_Md_next_46 : decode prog_13_method_92_code 46 = .ok (.getfield 51, 3) := by decide +kernel
theorem d_Md_next_49 : decode prog_13_method_92_code 49 = .ok (.ifCond .le 5, 3) := by decide +kernel
theorem d_Md_next_52 : decode prog_13_method_92_code 52 = .ok (.iconst 0, 1) := by decide +kernel
theorem d_Md_next_53 : decode prog_13_method_92_code 53 = .ok (.ireturn, 1) := by decide +kernel
theorem d_Md_next_54 : decode prog_13_method_92_code 54 = .ok (.aload_n 0, 1) := by decide +kernel
theorem d_Md_next_55 : decode prog_13_method_92_code 55 = .ok (.invokevirtual 326, 3) := by decide +kernel
theorem d_Md_next_58 : decode prog_13_method_92_code 58 = .ok (.istore 4, 2) := by decide +kernel
theorem d_Md_next_60 : decode prog_13_method_92_code 60 = .ok (.iload_n 3, 1) := by decide +kernel
theorem d_Md_next_61 : decode prog_13_method_92_code 61 = .ok (.istore 5, 2) := by decide +kernel
theorem d_Md_next_63 : decode prog_13_method_92_code 63 = .ok (.iload 5, 2) := by decide +kernel
theorem d_Md_next_65 : decode prog_13_method_92_code 65 = .ok (.iload_n 3, 1) := by decide +kernel
theorem d_Md_next_66 : decode prog_13_method_92_code 66 = .ok (.iload 4, 2) := by decide +kernel
theorem d_Md_next_68 : decode prog_13_method_92_code 68 = .ok (.iadd, 1) := by decide +kernel
theorem d_Md_next_69 : decode prog_13_method_92_code 69 = .ok (.if_icmp .ge 58, 3) := by decide +kernel
theorem d_Md_next_72 : decode prog_13_method_92_code 72 = .ok (.iload 5, 2) := by decide +kernel
theorem d_Md_next_74 : decode prog_13_method_92_code 74 = .ok (.sipush 9999, 3) := by decide +kernel
theorem d_Md_next_77 : decode prog_13_method_92_code 77 = .ok (.if_icmp .gt 50, 3) := by decide +kernel
theorem d_Md_next_80 : decode prog_13_method_92_code 80 = .ok (.aload_n 0, 1) := by decide +kernel
theorem d_Md_next_81 : decode prog_13_method_92_code 81 = .ok (.iload 5, 2) := by decide +kernel
theorem d_Md_next_83 : decode prog_13_method_92_code 83 = .ok (.invokevirtual 283, 3) := by decide +kernel
theorem d_Md_next_86 : decode prog_13_method_92_code 86 = .ok (.aload_n 0, 1) := by decide +kernel
theorem d_Md_next_87 : decode prog_13_method_92_code 87 = .ok (.getfield 32, 3) := by decide +kernel
theorem d_Md_next_90 : decode prog_13_method_92_code 90 = .ok (.iload_n 1, 1) := by decide +kernel
theorem d_Md_next_91 : decode prog_13_method_92_code 91 = .ok (.iaload, 1) := by decide +kernel
theorem d_Md_next_92 : decode prog_13_method_92_code 92 = .ok (.iconst (-1), 1) := by decide +kernel
theorem d_Md_next_93 : decode prog_13_method_92_code 93 = .ok (.if_icmp .eq 28, 3) := by decide +kernel
theorem d_Md_next_96 : decode prog_13_method_92_code 96 = .ok (.aload_n 0, 1) := by decide +kernel
theorem d_Md_next_97 : decode prog_13_method_92_code 97 = .ok (.getfield 84, 3) := by decide +kernel
theorem d_Md_next_100 : decode prog_13_method_92_code 100 = .ok (.aload_n 0, 1) := by decide +kernel
theorem d_Md_next_101 : decode prog_13_method_92_code 101 = .ok (.getfield 32, 3) := by decide +kernel
theorem d_Md_next_104 : decode prog_13_method_92_code 104 = .ok (.iload_n 1, 1) := by decide +kernel
theorem d_Md_next_105 : decode prog_13_method_92_code 105 = .ok (.iaload, 1) := by decide +kernel
theorem d_Md_next_106 : decode prog_13_method_92_code 106 = .ok (.iadd, 1) := by decide +kernel
theorem d_Md_next_107 : decode prog_13_method_92_code 107 = .ok (.aload_n 0, 1) := by decide +kernel
theorem d_Md_next_108 : decode prog_13_method_92_code 108 = .ok (.getfield 7, 3) := by decide +kernel
theorem d_Md_next_111 : decode prog_13_method_92_code 111 = .ok (.iconst 0, 1) := by decide +kernel
theorem d_Md_next_112 : decode prog_13_method_92_code 112 = .ok (.iaload, 1) := by decide +kernel
theorem d_Md_next_113 : decode prog_13_method_92_code 113 = .ok (.irem, 1) := by decide +kernel
theorem d_Md_next_114 : decode prog_13_method_92_code 114 = .ok (.iload_n 2, 1) := by decide +kernel
theorem d_Md_next_115 : decode prog_13_method_92_code 115 = .ok (.if_icmp .ne 6, 3) := by decide +kernel
theorem d_Md_next_118 : decode prog_13_method_92_code 118 = .ok (.iload 5, 2) := by decide +kernel
theorem d_Md_next_120 : decode prog_13_method_92_code 120 = .ok (.ireturn, 1) := by decide +kernel
theorem d_Md_next_121 : decode prog_13_method_92_code 121 = .ok (.iinc 5 1, 3) := by decide +kernel
theorem d_Md_next_124 : decode prog_13_method_92_code 124 = .ok (.goto (-61), 3) := by decide +kernel
theorem d_Md_next_127 : decode prog_13_method_92_code 127 = .ok (.iconst (-1), 1) := by decide +kernel
theorem d_Md_next_128 : decode prog_13_method_92_code 128 = .ok (.ireturn, 1) := by decide +kernel
set_option maxHeartbeats 4000000 in
set_option maxRecDepth 100000 in
theorem w_Md_next_L63 {p : Program} {l : Launch} {e : Env} {s : State} {m : MethodId} {args : Array Value} {below : List Frame} {meth : Method} {c : Code} {D : va_G} {ad : Nat → Nat} {cA : Nat → ClassId} {sd sv : Nat → Nat} {out : (Int × Hp)} (N : Nat) (hI : Inj97 ad) (C : Cx p s m args c prog_13_method_92_code 6 "FeastBookModel" D ad cA sd sv (FA ad)) (hr : meth.sig.returnType = (some .int)) (hlk : meth.locks = false) (v1 v2 v3 v4 : Int) : ∀ (n : Nat) (v5 : Int) (h : Hp) (H : Heap) (locs : List Loc), Wd s D ad cA (FA ad) h H locs → ∀ ls : Array Slot, lv_has ls 6 [(0, .ref (ad 83)), (1, .int (iZ v1)), (2, .int (iZ v2)), (3, .int (iZ v3)), (4, .int (iZ v4)), (5, .int (iZ v5))] → Md_next_L63 N v1 v2 v3 v4 n v5 h = some out → W p l e (rmD 8) s m args below meth c H locs 0 0 (MQ below (QI D ad cA out) args s 0 0 (FA ad)) (F0 m 63 ls []) := by
  intro n
  induction n with
  | zero =>
    intro v5 h H locs w ls hl hM
    rw [Md_next_L63] at hM
    cases hM
  | succ n ih =>
    intro v5 h H locs w ls hl hM
    rw [Md_next_L63] at hM
    refine m_iload C hl 5 d_Md_next_63 rfl ?_
    refine m_iload_n C hl 3 d_Md_next_65 rfl rfl ?_
    refine m_iload C hl 4 d_Md_next_66 rfl ?_
    refine m_iadd C d_Md_next_68 ?_
    refine m_icmp_ge C hM 127 d_Md_next_69 (by decide) (fun hM => ?_) (fun hM => ?_)
    · refine m_iconst C d_Md_next_127 ?_
      exact m_iretW C w hr hlk hM d_Md_next_128
    · refine m_iload C hl 5 d_Md_next_72 rfl ?_
      refine m_sipush C d_Md_next_74 (by decide) ?_
      refine m_icmp_gt C hM 127 d_Md_next_77 (by decide) (fun hM => ?_) (fun hM => ?_)
      · refine m_iconst C d_Md_next_127 ?_
        exact m_iretW C w hr hlk hM d_Md_next_128
      · refine m_aload_n C hl 0 d_Md_next_80 rfl rfl ?_
        refine m_iload C hl 5 d_Md_next_81 rfl ?_
        obtain ⟨h13, e12, hM⟩ := bnd_some hM
        refine aftV C w (runV C w.1 w.2 kc_Md sh_83 (Nat.le_of_ble_eq_true rfl) (c_Md_resolves hI e12) lk_Md_283 mb_Md_resolves rfl ⟨Nat.le_of_ble_eq_true rfl, Nat.le_of_ble_eq_true rfl⟩ ⟨Nat.zero_le _, Nat.zero_le _⟩ (Nat.le_of_ble_eq_true rfl) d_Md_next_83 hl.1 (rest := []) rfl) (fun H locs w => ?_)
        refine m_aload_n C hl 0 d_Md_next_86 rfl rfl ?_
        refine m_getr C w.1 kc_Md sh_83 (Nat.le_of_ble_eq_true rfl) 17 90 rfl (by decide) fk_Md_32 d_Md_next_87 ?_
        refine m_iload_n C hl 1 d_Md_next_90 rfl rfl ?_
        refine m_iald C w.1 sh_90 (Nat.le_of_ble_eq_true rfl) (Nat.le_of_ble_eq_true rfl) hM d_Md_next_91 (fun x14 hM => ?_)
        refine m_iconst C d_Md_next_92 ?_
        refine m_icmp_eq C hM 121 d_Md_next_93 (by decide) (fun hM => ?_) (fun hM => ?_)
        · refine m_iinc C hl 5 [(5, .int (iZ (v5 + 1))), (0, .ref (ad 83)), (1, .int (iZ v1)), (2, .int (iZ v2)), (3, .int (iZ v3)), (4, .int (iZ v4))] d_Md_next_121 rfl (by decide) rfl (fun ls hl => ?_)
          refine m_goto C 63 d_Md_next_124 (by decide) ?_
          exact ih (v5 + 1) h13 _ _ w _ (lv_sub hl [1, 2, 3, 4, 5, 0] rfl) hM
        · refine m_aload_n C hl 0 d_Md_next_96 rfl rfl ?_
          refine m_geti C w.1 kc_Md sh_83 (Nat.le_of_ble_eq_true rfl) 14 rfl (by decide) fk_Md_84 d_Md_next_97 ?_
          refine m_aload_n C hl 0 d_Md_next_100 rfl rfl ?_
          refine m_getr C w.1 kc_Md sh_83 (Nat.le_of_ble_eq_true rfl) 17 90 rfl (by decide) fk_Md_32 d_Md_next_101 ?_
          refine m_iload_n C hl 1 d_Md_next_104 rfl rfl ?_
          refine m_iald C w.1 sh_90 (Nat.le_of_ble_eq_true rfl) (Nat.le_of_ble_eq_true rfl) hM d_Md_next_105 (fun x15 hM => ?_)
          refine m_iadd C d_Md_next_106 ?_
          refine m_aload_n C hl 0 d_Md_next_107 rfl rfl ?_
          refine m_getr C w.1 kc_Md sh_83 (Nat.le_of_ble_eq_true rfl) 1 84 rfl (by decide) fk_Md_7 d_Md_next_108 ?_
          refine m_iconst C d_Md_next_111 ?_
          refine m_iald C w.1 sh_84 (Nat.le_of_ble_eq_true rfl) (Nat.le_of_ble_eq_true rfl) hM d_Md_next_112 (fun x16 hM => ?_)
          refine m_irem C hM d_Md_next_113 (fun x17 hM => ?_)
          refine m_iload_n C hl 2 d_Md_next_114 rfl rfl ?_
          refine m_icmp_ne C hM 121 d_Md_next_115 (by decide) (fun hM => ?_) (fun hM => ?_)
          · refine m_iinc C hl 5 [(5, .int (iZ (v5 + 1))), (0, .ref (ad 83)), (1, .int (iZ v1)), (2, .int (iZ v2)), (3, .int (iZ v3)), (4, .int (iZ v4))] d_Md_next_121 rfl (by decide) rfl (fun ls hl => ?_)
            refine m_goto C 63 d_Md_next_124 (by decide) ?_
            exact ih (v5 + 1) h13 _ _ w _ (lv_sub hl [1, 2, 3, 4, 5, 0] rfl) hM
          · refine m_iload C hl 5 d_Md_next_118 rfl ?_
            exact m_iretW C w hr hlk hM d_Md_next_120
set_option maxHeartbeats 4000000 in
set_option maxRecDepth 100000 in
theorem c_Md_next {l : Launch} {D : va_G} {ad : Nat → Nat} {cA : Nat → ClassId} {sd sv : Nat → Nat} {h : Hp} {N : Nat} {a1 a2 a3 : Int} {out : (Int × Hp)} (hI : Inj97 ad) (hM : M_Md_next N h a1 a2 a3 = some out) : Met l y_Md_next (.code y_Md_next prog_13_method_92_code 6 (some .int) :: TT) (rmD 8) (PC D ad cA sd sv h [.ref (ad 83), .int (iZ a1), .int (iZ a2), .int (iZ a3)]) (QI D ad cA out) 0 0 (FA ad) := by
  unfold M_Md_next at hM
  refine entM (by decide +kernel) hI (Nat.le_of_ble_eq_true rfl) ?_
  intro p e s m args below meth c C hr hlk hP ls hl
  have C : Cx p s m args c prog_13_method_92_code 6 "FeastBookModel" D ad cA sd sv (FA ad) := C
  have hl : lv_has ls 6 [(0, .ref (ad 83)), (1, .int (iZ a1)), (2, .int (iZ a2)), (3, .int (iZ a3))] := hl
  have w : Wd s D ad cA (FA ad) h s.heap [] := ⟨hP, va_S.rf⟩
  refine m_aload_n C hl 0 d_Md_next_0 rfl rfl ?_
  refine m_aload_n C hl 0 d_Md_next_1 rfl rfl ?_
  refine m_iload_n C hl 1 d_Md_next_2 rfl rfl ?_
  obtain ⟨x2, e1, hM⟩ := bnd_some hM
  refine aftR (runV C w.1 w.2 kc_Md sh_83 (Nat.le_of_ble_eq_true rfl) (c_Md_isFeast hI e1) lk_Md_311 mb_Md_isFeast rfl ⟨Nat.le_of_ble_eq_true rfl, Nat.le_of_ble_eq_true rfl⟩ ⟨Nat.zero_le _, Nat.zero_le _⟩ (Nat.le_of_ble_eq_true rfl) d_Md_next_3 hl.1 (rest := [.ref (ad 83)]) rfl) ?_
  refine lt_join hM (fun j8 ej hM => ?_)
  have hJ8 : ∀ (s0_8 : Int), j8 s0_8 = some out → ∀ ls : Array Slot, lv_has ls 6 [(0, .ref (ad 83)), (1, .int (iZ a1)), (2, .int (iZ a2)), (3, .int (iZ a3))] → W p l e (rmD 8) s m args below meth c s.heap [] 0 0 (MQ below (QI D ad cA out) args s 0 0 (FA ad)) (F0 m 42 ls [.int (iZ s0_8), .ref (ad 83)]) := by
    intro s0_8 hM ls hl
    subst ej
    dsimp only at hM
    refine m_puti C w kc_Md sh_83 (Nat.le_of_ble_eq_true rfl) 0 hM rfl (by decide) rfl rfl fk_Md_51 d_Md_next_42 (fun h9 H locs w hM => ?_)
    refine m_aload_n C hl 0 d_Md_next_45 rfl rfl ?_
    refine m_geti C w.1 kc_Md sh_83 (Nat.le_of_ble_eq_true rfl) 0 rfl (by decide) fk_Md_51 d_Md_next_46 ?_
    refine m_if_le C hM 54 d_Md_next_49 (by decide) (fun hM => ?_) (fun hM => ?_)
    · refine m_aload_n C hl 0 d_Md_next_54 rfl rfl ?_
      obtain ⟨x11, e10, hM⟩ := bnd_some hM
      refine aftR (runV C w.1 w.2 kc_Md sh_83 (Nat.le_of_ble_eq_true rfl) (c_Md_cycle0 hI e10) lk_Md_326 mb_Md_cycle0 rfl ⟨Nat.le_of_ble_eq_true rfl, Nat.le_of_ble_eq_true rfl⟩ ⟨Nat.zero_le _, Nat.zero_le _⟩ (Nat.le_of_ble_eq_true rfl) d_Md_next_55 hl.1 (rest := []) rfl) ?_
      refine m_istore C hl [(4, .int (iZ x11)), (0, .ref (ad 83)), (1, .int (iZ a1)), (2, .int (iZ a2)), (3, .int (iZ a3))] d_Md_next_58 (by decide) rfl (fun ls hl => ?_)
      refine m_iload_n C hl 4 d_Md_next_60 rfl rfl ?_
      refine m_istore C hl [(5, .int (iZ a3)), (4, .int (iZ x11)), (0, .ref (ad 83)), (1, .int (iZ a1)), (2, .int (iZ a2)), (3, .int (iZ a3))] d_Md_next_61 (by decide) rfl (fun ls hl => ?_)
      exact w_Md_next_L63 N hI C hr hlk a1 a2 a3 x11 _ a3 h9 _ _ w _ (lv_sub hl [2, 3, 4, 5, 1, 0] rfl) hM
    · refine m_iconst C d_Md_next_52 ?_
      exact m_iretW C w hr hlk hM d_Md_next_53
  refine m_if_eq C hM 17 d_Md_next_6 (by decide) (fun hM => ?_) (fun hM => ?_)
  · refine m_iconst C d_Md_next_17 ?_
    refine m_goto C 42 d_Md_next_18 (by decide) ?_
    exact hJ8 1 hM _ hl
  · refine m_aload_n C hl 0 d_Md_next_9 rfl rfl ?_
    refine m_iload_n C hl 3 d_Md_next_10 rfl rfl ?_
    obtain ⟨x19, e18, hM⟩ := bnd_some hM
    refine aftR (runV C w.1 w.2 kc_Md sh_83 (Nat.le_of_ble_eq_true rfl) (c_Md_isYear hI e18) lk_Md_280 mb_Md_isYear rfl ⟨Nat.le_of_ble_eq_true rfl, Nat.le_of_ble_eq_true rfl⟩ ⟨Nat.zero_le _, Nat.zero_le _⟩ (Nat.le_of_ble_eq_true rfl) d_Md_next_11 hl.1 (rest := [.ref (ad 83)]) rfl) ?_
    refine m_if_ne C hM 21 d_Md_next_14 (by decide) (fun hM => ?_) (fun hM => ?_)
    · refine m_iload_n C hl 2 d_Md_next_21 rfl rfl ?_
      refine m_iconst C d_Md_next_22 ?_
      refine m_aload_n C hl 0 d_Md_next_23 rfl rfl ?_
      refine m_getr C w.1 kc_Md sh_83 (Nat.le_of_ble_eq_true rfl) 1 84 rfl (by decide) fk_Md_7 d_Md_next_24 ?_
      refine m_iconst C d_Md_next_27 ?_
      refine m_iald C w.1 sh_84 (Nat.le_of_ble_eq_true rfl) (Nat.le_of_ble_eq_true rfl) hM d_Md_next_28 (fun x20 hM => ?_)
      refine m_iconst C d_Md_next_29 ?_
      refine m_isub C d_Md_next_30 ?_
      obtain ⟨x22, e21, hM⟩ := bnd_some hM
      refine aftR (runS C w.1 w.2 (c_Md_isIn hI e21) lk_Md_54 mb_Md_isIn rfl ⟨Nat.le_of_ble_eq_true rfl, Nat.le_of_ble_eq_true rfl⟩ ⟨Nat.zero_le _, Nat.zero_le _⟩ (Nat.le_of_ble_eq_true rfl) d_Md_next_31 hl.1 (rest := [.ref (ad 83)]) rfl) ?_
      refine m_if_ne C hM 41 d_Md_next_34 (by decide) (fun hM => ?_) (fun hM => ?_)
      · refine m_iconst C d_Md_next_41 ?_
        exact hJ8 0 hM _ hl
      · refine m_iconst C d_Md_next_37 ?_
        refine m_goto C 42 d_Md_next_38 (by decide) ?_
        exact hJ8 2 hM _ hl
    · refine m_iconst C d_Md_next_17 ?_
      refine m_goto C 42 d_Md_next_18 (by decide) ?_
      exact hJ8 1 hM _ hl
def y_Md_unresolved : MethodName := ⟨"FeastBookModel", "unresolved", "()I"⟩
theorem d_Md_unresolved_0 : decode prog_13_method_93_code 0 = .ok (.aload_n 0, 1) := by decide +kernel
theorem d_Md_unresolved_1 : decode prog_13_method_93_code 1 = .ok (.aload_n 0, 1) := by decide +kernel
theorem d_Md_unresolved_2 : decode prog_13_method_93_code 2 = .ok (.invokevirtual 58, 3) := by decide +kernel
theorem d_Md_unresolved_5 : decode prog_13_method_93_code 5 = .ok (.ifCond .eq 7, 3) := by decide +kernel
theorem d_Md_unresolved_8 : decode prog_13_method_93_code 8 = .ok (.iconst 0, 1) := by decide +kernel
theorem d_Md_unresolved_9 : decode prog_13_method_93_code 9 = .ok (.goto 4, 3) := by decide +kernel
theorem d_Md_unresolved_12 : decode prog_13_method_93_code 12 = .ok (.iconst 1, 1) := by decide +kernel
theorem d_Md_unresolved_13 : decode prog_13_method_93_code 13 = .ok (.putfield 51, 3) := by decide +kernel
theorem d_Md_unresolved_16 : decode prog_13_method_93_code 16 = .ok (.aload_n 0, 1) := by decide +kernel
theorem d_Md_unresolved_17 : decode prog_13_method_93_code 17 = .ok (.getfield 51, 3) := by decide +kernel
theorem d_Md_unresolved_20 : decode prog_13_method_93_code 20 = .ok (.ifCond .le 5, 3) := by decide +kernel
theorem d_Md_unresolved_23 : decode prog_13_method_93_code 23 = .ok (.iconst 0, 1) := by decide +kernel
theorem d_Md_unresolved_24 : decode prog_13_method_93_code 24 = .ok (.ireturn, 1) := by decide +kernel
theorem d_Md_unresolved_25 : decode prog_13_method_93_code 25 = .ok (.aload_n 0, 1) := by decide +kernel
theorem d_Md_unresolved_26 : decode prog_13_method_93_code 26 = .ok (.invokevirtual 326, 3) := by decide +kernel
theorem d_Md_unresolved_29 : decode prog_13_method_93_code 29 = .ok (.istore_n 1, 1) := by decide +kernel
theorem d_Md_unresolved_30 : decode prog_13_method_93_code 30 = .ok (.iconst 0, 1) := by decide +kernel
theorem d_Md_unresolved_31 : decode prog_13_method_93_code 31 = .ok (.istore_n 2, 1) := by decide +kernel
theorem d_Md_unresolved_32 : decode prog_13_method_93_code 32 = .ok (.iload_n 2, 1) := by decide +kernel
theorem d_Md_unresolved_33 : decode prog_13_method_93_code 33 = .ok (.iload_n 1, 1) := by decide +kernel
theorem d_Md_unresolved_34 : decode prog_13_method_93_code 34 = .ok (.if_icmp .ge 45, 3) := by decide +kernel
theorem d_Md_unresolved_37 : decode prog_13_method_93_code 37 = .ok (.aload_n 0, 1) := by decide +kernel
theorem d_Md_unresolved_38 : decode prog_13_method_93_code 38 = .ok (.iload_n 2, 1) := by decide +kernel
theorem d_Md_unresolved_39 : decode prog_13_method_93_code 39 = .ok (.invokevirtual 283, 3) := by decide +kernel
theorem d_Md_unresolved_42 : decode prog_13_method_93_code 42 = .ok (.iconst 0, 1) := by decide +kernel
theorem d_Md_unresolved_43 : decode prog_13_method_93_code 43 = .ok (.istore_n 3, 1) := by decide +kernel
theorem d_Md_unresolved_44 : decode prog_13_method_93_code 44 = .ok (.iload_n 3, 1) := by decide +kernel
theorem d_Md_unresolved_45 : decode prog_13_method_93_code 45 = .ok (.aload_n 0, 1) := by decide +kernel
theorem d_Md_unresolved_46 : decode prog_13_method_93_code 46 = .ok (.getfield 7, 3) := by decide +kernel
theorem d_Md_unresolved_49 : decode prog_13_method_93_code 49 = .ok (.bipush 42, 2) := by decide +kernel
theorem d_Md_unresolved_51 : decode prog_13_method_93_code 51 = .ok (.iaload, 1) := by decide +kernel
theorem d_Md_unresolved_52 : decode prog_13_method_93_code 52 = .ok (.if_icmp .ge 21, 3) := by decide +kernel
theorem d_Md_unresolved_55 : decode prog_13_method_93_code 55 = .ok (.aload_n 0, 1) := by decide +kernel
theorem d_Md_unresolved_56 : decode prog_13_method_93_code 56 = .ok (.getfield 35, 3) := by decide +kernel
theorem d_Md_unresolved_59 : decode prog_13_method_93_code 59 = .ok (.iload_n 3, 1) := by decide +kernel
theorem d_Md_unresolved_60 : decode prog_13_method_93_code 60 = .ok (.iaload, 1) := by decide +kernel
theorem d_Md_unresolved_61 : decode prog_13_method_93_code 61 = .ok (.iconst 4, 1) := by decide +kernel
theorem d_Md_unresolved_62 : decode prog_13_method_93_code 62 = .ok (.if_icmp .ne 5, 3) := by decide +kernel
theorem d_Md_unresolved_65 : decode prog_13_method_93_code 65 = .ok (.iload_n 2, 1) := by decide +kernel
theorem d_Md_unresolved_66 : decode prog_13_method_93_code 66 = .ok (.ireturn, 1) := by decide +kernel
theorem d_Md_unresolved_67 : decode prog_13_method_93_code 67 = .ok (.iinc 3 1, 3) := by decide +kernel
theorem d_Md_unresolved_70 : decode prog_13_method_93_code 70 = .ok (.goto (-26), 3) := by decide +kernel
theorem d_Md_unresolved_73 : decode prog_13_method_93_code 73 = .ok (.iinc 2 1, 3) := by decide +kernel
theorem d_Md_unresolved_76 : decode prog_13_method_93_code 76 = .ok (.goto (-44), 3) := by decide +kernel
theorem d_Md_unresolved_79 : decode prog_13_method_93_code 79 = .ok (.iconst (-1), 1) := by decide +kernel
theorem d_Md_unresolved_80 : decode prog_13_method_93_code 80 = .ok (.ireturn, 1) := by decide +kernel
set_option maxHeartbeats 4000000 in
set_option maxRecDepth 100000 in
theorem w_Md_unresolved_L44 {p : Program} {l : Launch} {e : Env} {s : State} {m : MethodId} {args : Array Value} {below : List Frame} {meth : Method} {c : Code} {D : va_G} {ad : Nat → Nat} {cA : Nat → ClassId} {sd sv : Nat → Nat} {out : (Int × Hp)} (N : Nat) (hI : Inj97 ad) (C : Cx p s m args c prog_13_method_93_code 4 "FeastBookModel" D ad cA sd sv (FA ad)) (hr : meth.sig.returnType = (some .int)) (hlk : meth.locks = false) (v1 v2 : Int) (h : Hp) (H : Heap) (locs : List Loc) (w : Wd s D ad cA (FA ad) h H locs) (k : Int → Option (Int × Hp)) (kW : ∀ (v3 : Int) , k v3 = some out → ∀ ls : Array Slot, lv_has ls 4 [(0, .ref (ad 83)), (1, .int (iZ v1)), (2, .int (iZ v2)), (3, .int (iZ v3))] → W p l e (rmD 8) s m args below meth c H locs 0 0 (MQ below (QI D ad cA out) args s 0 0 (FA ad)) (F0 m 73 ls [])) : ∀ (n : Nat) (v3 : Int), ∀ ls : Array Slot, lv_has ls 4 [(0, .ref (ad 83)), (1, .int (iZ v1)), (2, .int (iZ v2)), (3, .int (iZ v3))] → Md_unresolved_L44 N h v2 k n v3 = some out → W p l e (rmD 8) s m args below meth c H locs 0 0 (MQ below (QI D ad cA out) args s 0 0 (FA ad)) (F0 m 44 ls []) := by
  intro n
  induction n with
  | zero =>
    intro v3 ls hl hM
    rw [Md_unresolved_L44] at hM
    cases hM
  | succ n ih =>
    intro v3 ls hl hM
    rw [Md_unresolved_L44] at hM
    refine m_iload_n C hl 3 d_Md_unresolved_44 rfl rfl ?_
    refine m_aload_n C hl 0 d_Md_unresolved_45 rfl rfl ?_
    refine m_getr C w.1 kc_Md sh_83 (Nat.le_of_ble_eq_true rfl) 1 84 rfl (by decide) fk_Md_7 d_Md_unresolved_46 ?_
    refine m_bipush C d_Md_unresolved_49 (by decide) ?_
    refine m_iald C w.1 sh_84 (Nat.le_of_ble_eq_true rfl) (Nat.le_of_ble_eq_true rfl) hM d_Md_unresolved_51 (fun x9 hM => ?_)
    refine m_icmp_ge C hM 73 d_Md_unresolved_52 (by decide) (fun hM => ?_) (fun hM => ?_)
    · exact kW v3 hM _ hl
    · refine m_aload_n C hl 0 d_Md_unresolved_55 rfl rfl ?_
      refine m_getr C w.1 kc_Md sh_83 (Nat.le_of_ble_eq_true rfl) 18 91 rfl (by decide) fk_Md_35 d_Md_unresolved_56 ?_
      refine m_iload_n C hl 3 d_Md_unresolved_59 rfl rfl ?_
      refine m_iald C w.1 sh_91 (Nat.le_of_ble_eq_true rfl) (Nat.le_of_ble_eq_true rfl) hM d_Md_unresolved_60 (fun x10 hM => ?_)
      refine m_iconst C d_Md_unresolved_61 ?_
      refine m_icmp_ne C hM 67 d_Md_unresolved_62 (by decide) (fun hM => ?_) (fun hM => ?_)
      · refine m_iinc C hl 3 [(3, .int (iZ (v3 + 1))), (0, .ref (ad 83)), (1, .int (iZ v1)), (2, .int (iZ v2))] d_Md_unresolved_67 rfl (by decide) rfl (fun ls hl => ?_)
        refine m_goto C 44 d_Md_unresolved_70 (by decide) ?_
        exact ih (v3 + 1) _ (lv_sub hl [1, 2, 3, 0] rfl) hM
      · refine m_iload_n C hl 2 d_Md_unresolved_65 rfl rfl ?_
        exact m_iretW C w hr hlk hM d_Md_unresolved_66
set_option maxHeartbeats 4000000 in
set_option maxRecDepth 100000 in
theorem w_Md_unresolved_L32 {p : Program} {l : Launch} {e : Env} {s : State} {m : MethodId} {args : Array Value} {below : List Frame} {meth : Method} {c : Code} {D : va_G} {ad : Nat → Nat} {cA : Nat → ClassId} {sd sv : Nat → Nat} {out : (Int × Hp)} (N : Nat) (hI : Inj97 ad) (C : Cx p s m args c prog_13_method_93_code 4 "FeastBookModel" D ad cA sd sv (FA ad)) (hr : meth.sig.returnType = (some .int)) (hlk : meth.locks = false) (v1 : Int) : ∀ (n : Nat) (v2 : Int) (h : Hp) (H : Heap) (locs : List Loc), Wd s D ad cA (FA ad) h H locs → ∀ ls : Array Slot, lv_has ls 4 [(0, .ref (ad 83)), (1, .int (iZ v1)), (2, .int (iZ v2))] → Md_unresolved_L32 N v1 n v2 h = some out → W p l e (rmD 8) s m args below meth c H locs 0 0 (MQ below (QI D ad cA out) args s 0 0 (FA ad)) (F0 m 32 ls []) := by
  intro n
  induction n with
  | zero =>
    intro v2 h H locs w ls hl hM
    rw [Md_unresolved_L32] at hM
    cases hM
  | succ n ih =>
    intro v2 h H locs w ls hl hM
    rw [Md_unresolved_L32] at hM
    refine m_iload_n C hl 2 d_Md_unresolved_32 rfl rfl ?_
    refine m_iload_n C hl 1 d_Md_unresolved_33 rfl rfl ?_
    refine m_icmp_ge C hM 79 d_Md_unresolved_34 (by decide) (fun hM => ?_) (fun hM => ?_)
    · refine m_iconst C d_Md_unresolved_79 ?_
      exact m_iretW C w hr hlk hM d_Md_unresolved_80
    · refine m_aload_n C hl 0 d_Md_unresolved_37 rfl rfl ?_
      refine m_iload_n C hl 2 d_Md_unresolved_38 rfl rfl ?_
      obtain ⟨h8, e7, hM⟩ := bnd_some hM
      refine aftV C w (runV C w.1 w.2 kc_Md sh_83 (Nat.le_of_ble_eq_true rfl) (c_Md_resolves hI e7) lk_Md_283 mb_Md_resolves rfl ⟨Nat.le_of_ble_eq_true rfl, Nat.le_of_ble_eq_true rfl⟩ ⟨Nat.zero_le _, Nat.zero_le _⟩ (Nat.le_of_ble_eq_true rfl) d_Md_unresolved_39 hl.1 (rest := []) rfl) (fun H locs w => ?_)
      refine m_iconst C d_Md_unresolved_42 ?_
      refine m_istore_n C hl [(3, .int (iZ 0)), (0, .ref (ad 83)), (1, .int (iZ v1)), (2, .int (iZ v2))] d_Md_unresolved_43 rfl (by decide) rfl (fun ls hl => ?_)
      refine w_Md_unresolved_L44 N hI C hr hlk v1 v2 h8 _ _ w _ (fun v3_11 hM ls hl => ?_) _ 0 _ (lv_sub hl [1, 2, 3, 0] rfl) hM
      refine m_iinc C hl 2 [(2, .int (iZ (v2 + 1))), (0, .ref (ad 83)), (1, .int (iZ v1)), (3, .int (iZ v3_11))] d_Md_unresolved_73 rfl (by decide) rfl (fun ls hl => ?_)
      refine m_goto C 32 d_Md_unresolved_76 (by decide) ?_
      exact ih (v2 + 1) h8 _ _ w _ (lv_sub hl [1, 2, 0] rfl) hM
set_option maxHeartbeats 4000000 in
set_option maxRecDepth 100000 in
theorem c_Md_unresolved {l : Launch} {D : va_G} {ad : Nat → Nat} {cA : Nat → ClassId} {sd sv : Nat → Nat} {h : Hp} {N : Nat} {out : (Int × Hp)} (hI : Inj97 ad) (hM : M_Md_unresolved N h = some out) : Met l y_Md_unresolved (.code y_Md_unresolved prog_13_method_93_code 4 (some .int) :: TT) (rmD 8) (PC D ad cA sd sv h [.ref (ad 83)]) (QI D ad cA out) 0 0 (FA ad) := by
  unfold M_Md_unresolved at hM
  refine entM (by decide +kernel) hI (Nat.le_of_ble_eq_true rfl) ?_
  intro p e s m args below meth c C hr hlk hP ls hl
  have C : Cx p s m args c prog_13_method_93_code 4 "FeastBookModel" D ad cA sd sv (FA ad) := C
  have hl : lv_has ls 4 [(0, .ref (ad 83))] := hl
  have w : Wd s D ad cA (FA ad) h s.heap [] := ⟨hP, va_S.rf⟩
  refine m_aload_n C hl 0 d_Md_unresolved_0 rfl rfl ?_
  refine m_aload_n C hl 0 d_Md_unresolved_1 rfl rfl ?_
  obtain ⟨x2, e1, hM⟩ := bnd_some hM
  refine aftR (runV C w.1 w.2 kc_Md sh_83 (Nat.le_of_ble_eq_true rfl) (c_Md_hasBook hI e1) lk_Md_58 mb_Md_hasBook rfl ⟨Nat.le_of_ble_eq_true rfl, Nat.le_of_ble_eq_true rfl⟩ ⟨Nat.zero_le _, Nat.zero_le _⟩ (Nat.le_of_ble_eq_true rfl) d_Md_unresolved_2 hl.1 (rest := [.ref (ad 83)]) rfl) ?_
  refine lt_join hM (fun j3 ej hM => ?_)
  have hJ3 : ∀ (s0_3 : Int), j3 s0_3 = some out → ∀ ls : Array Slot, lv_has ls 4 [(0, .ref (ad 83))] → W p l e (rmD 8) s m args below meth c s.heap [] 0 0 (MQ below (QI D ad cA out) args s 0 0 (FA ad)) (F0 m 13 ls [.int (iZ s0_3), .ref (ad 83)]) := by
    intro s0_3 hM ls hl
    subst ej
    dsimp only at hM
    refine m_puti C w kc_Md sh_83 (Nat.le_of_ble_eq_true rfl) 0 hM rfl (by decide) rfl rfl fk_Md_51 d_Md_unresolved_13 (fun h4 H locs w hM => ?_)
    refine m_aload_n C hl 0 d_Md_unresolved_16 rfl rfl ?_
    refine m_geti C w.1 kc_Md sh_83 (Nat.le_of_ble_eq_true rfl) 0 rfl (by decide) fk_Md_51 d_Md_unresolved_17 ?_
    refine m_if_le C hM 25 d_Md_unresolved_20 (by decide) (fun hM => ?_) (fun hM => ?_)
    · refine m_aload_n C hl 0 d_Md_unresolved_25 rfl rfl ?_
      obtain ⟨x6, e5, hM⟩ := bnd_some hM
      refine aftR (runV C w.1 w.2 kc_Md sh_83 (Nat.le_of_ble_eq_true rfl) (c_Md_cycle0 hI e5) lk_Md_326 mb_Md_cycle0 rfl ⟨Nat.le_of_ble_eq_true rfl, Nat.le_of_ble_eq_true rfl⟩ ⟨Nat.zero_le _, Nat.zero_le _⟩ (Nat.le_of_ble_eq_true rfl) d_Md_unresolved_26 hl.1 (rest := []) rfl) ?_
      refine m_istore_n C hl [(1, .int (iZ x6)), (0, .ref (ad 83))] d_Md_unresolved_29 rfl (by decide) rfl (fun ls hl => ?_)
      refine m_iconst C d_Md_unresolved_30 ?_
      refine m_istore_n C hl [(2, .int (iZ 0)), (1, .int (iZ x6)), (0, .ref (ad 83))] d_Md_unresolved_31 rfl (by decide) rfl (fun ls hl => ?_)
      exact w_Md_unresolved_L32 N hI C hr hlk x6 _ 0 h4 _ _ w _ (lv_sub hl [2, 1, 0] rfl) hM
    · refine m_iconst C d_Md_unresolved_23 ?_
      exact m_iretW C w hr hlk hM d_Md_unresolved_24
  refine m_if_eq C hM 12 d_Md_unresolved_5 (by decide) (fun hM => ?_) (fun hM => ?_)
  · refine m_iconst C d_Md_unresolved_12 ?_
    exact hJ3 1 hM _ hl
  · refine m_iconst C d_Md_unresolved_8 ?_
    refine m_goto C 13 d_Md_unresolved_9 (by decide) ?_
    exact hJ3 0 hM _ hl
def y_Md_paschs : MethodName := ⟨"FeastBookModel", "paschs", "(I)I"⟩
theorem d_Md_paschs_0 : decode prog_13_method_94_code 0 = .ok (.aload_n 0, 1) := by decide +kernel
theorem d_Md_paschs_1 : decode prog_13_method_94_code 1 = .ok (.aload_n 0, 1) := by decide +kernel
theorem d_Md_paschs_2 : decode prog_13_method_94_code 2 = .ok (.invokevirtual 58, 3) := by decide +kernel
theorem d_Md_paschs_5 : decode prog_13_method_94_code 5 = .ok (.ifCond .eq 7, 3) := by decide +kernel
theorem d_Md_paschs_8 : decode prog_13_method_94_code 8 = .ok (.iconst 0, 1) := by decide +kernel
theorem d_Md_paschs_9 : decode prog_13_method_94_code 9 = .ok (.goto 4, 3) := by decide +kernel
theorem d_Md_paschs_12 : decode prog_13_method_94_code 12 = .ok (.iconst 1, 1) := by decide +kernel
theorem d_Md_paschs_13 : decode prog_13_method_94_code 13 = .ok (.putfield 51, 3) := by decide +kernel
theorem d_Md_paschs_16 : decode prog_13_method_94_code 16 = .ok (.aload_n 0, 1) := by decide +kernel
theorem d_Md_paschs_17 : decode prog_13_method_94_code 17 = .ok (.getfield 51, 3) := by decide +kernel
theorem d_Md_paschs_20 : decode prog_13_method_94_code 20 = .ok (.ifCond .le 5, 3) := by decide +kernel
theorem d_Md_paschs_23 : decode prog_13_method_94_code 23 = .ok (.iconst 0, 1) := by decide +kernel
theorem d_Md_paschs_24 : decode prog_13_method_94_code 24 = .ok (.ireturn, 1) := by decide +kernel
theorem d_Md_paschs_25 : decode prog_13_method_94_code 25 = .ok (.aload_n 0, 1) := by decide +kernel
theorem d_Md_paschs_26 : decode prog_13_method_94_code 26 = .ok (.invokevirtual 326, 3) := by decide +kernel
theorem d_Md_paschs_29 : decode prog_13_method_94_code 29 = .ok (.istore_n 2, 1) := by decide +kernel
theorem d_Md_paschs_30 : decode prog_13_method_94_code 30 = .ok (.iconst 0, 1) := by decide +kernel
theorem d_Md_paschs_31 : decode prog_13_method_94_code 31 = .ok (.istore_n 3, 1) := by decide +kernel
theorem d_Md_paschs_32 : decode prog_13_method_94_code 32 = .ok (.iconst 0, 1) := by decide +kernel
theorem d_Md_paschs_33 : decode prog_13_method_94_code 33 = .ok (.istore 4, 2) := by decide +kernel
theorem d_Md_paschs_35 : decode prog_13_method_94_code 35 = .ok (.iload 4, 2) := by decide +kernel
theorem d_Md_paschs_37 : decode prog_13_method_94_code 37 = .ok (.iload_n 2, 1) := by decide +kernel
theorem d_Md_paschs_38 : decode prog_13_method_94_code 38 = .ok (.if_icmp .ge 27, 3) := by decide +kernel
theorem d_Md_paschs_41 : decode prog_13_method_94_code 41 = .ok (.iload_n 3, 1) := by decide +kernel
theorem d_Md_paschs_42 : decode prog_13_method_94_code 42 = .ok (.aload_n 0, 1) := by decide +kernel
theorem d_Md_paschs_43 : decode prog_13_method_94_code 43 = .ok (.iload 4, 2) := by decide +kernel
theorem d_Md_paschs_45 : decode prog_13_method_94_code 45 = .ok (.invokevirtual 142, 3) := by decide +kernel
theorem d_Md_paschs_48 : decode prog_13_method_94_code 48 = .ok (.iload_n 1, 1) := by decide +kernel
theorem d_Md_paschs_49 : decode prog_13_method_94_code 49 = .ok (.if_icmp .ne 7, 3) := by decide +kernel
theorem d_Md_paschs_52 : decode prog_13_method_94_code 52 = .ok (.iconst 1, 1) := by decide +kernel
theorem d_Md_paschs_53 : decode prog_13_method_94_code 53 = .ok (.goto 4, 3) := by decide +kernel
theorem d_Md_paschs_56 : decode prog_13_method_94_code 56 = .ok (.iconst 0, 1) := by decide +kernel
theorem d_Md_paschs_57 : decode prog_13_method_94_code 57 = .ok (.iadd, 1) := by decide +kernel
theorem d_Md_paschs_58 : decode prog_13_method_94_code 58 = .ok (.istore_n 3, 1) := by decide +kernel
theorem d_Md_paschs_59 : decode prog_13_method_94_code 59 = .ok (.iinc 4 1, 3) := by decide +kernel
theorem d_Md_paschs_62 : decode prog_13_method_94_code 62 = .ok (.goto (-27), 3) := by decide +kernel
theorem d_Md_paschs_65 : decode prog_13_method_94_code 65 = .ok (.iload_n 3, 1) := by decide +kernel
theorem d_Md_paschs_66 : decode prog_13_method_94_code 66 = .ok (.ireturn, 1) := by decide +kernel
set_option maxHeartbeats 4000000 in
set_option maxRecDepth 100000 in
theorem w_Md_paschs_L35 {p : Program} {l : Launch} {e : Env} {s : State} {m : MethodId} {args : Array Value} {below : List Frame} {meth : Method} {c : Code} {D : va_G} {ad : Nat → Nat} {cA : Nat → ClassId} {sd sv : Nat → Nat} {out : (Int × Hp)} (N : Nat) (hI : Inj97 ad) (C : Cx p s m args c prog_13_method_94_code 5 "FeastBookModel" D ad cA sd sv (FA ad)) (hr : meth.sig.returnType = (some .int)) (hlk : meth.locks = false) (v1 v2 : Int) (h : Hp) (H : Heap) (locs : List Loc) (w : Wd s D ad cA (FA ad) h H locs) : ∀ (n : Nat) (v3 v4 : Int), ∀ ls : Array Slot, lv_has ls 5 [(0, .ref (ad 83)), (1, .int (iZ v1)), (2, .int (iZ v2)), (3, .int (iZ v3)), (4, .int (iZ v4))] → Md_paschs_L35 N h v1 v2 n v3 v4 = some out → W p l e (rmD 3) s m args below meth c H locs 0 0 (MQ below (QI D ad cA out) args s 0 0 (FA ad)) (F0 m 35 ls []) := by
  intro n
  induction n with
  | zero =>
    intro v3 v4 ls hl hM
    rw [Md_paschs_L35] at hM
    cases hM
  | succ n ih =>
    intro v3 v4 ls hl hM
    rw [Md_paschs_L35] at hM
    refine m_iload C hl 4 d_Md_paschs_35 rfl ?_
    refine m_iload_n C hl 2 d_Md_paschs_37 rfl rfl ?_
    refine m_icmp_ge C hM 65 d_Md_paschs_38 (by decide) (fun hM => ?_) (fun hM => ?_)
    · refine m_iload_n C hl 3 d_Md_paschs_65 rfl rfl ?_
      exact m_iretW C w hr hlk hM d_Md_paschs_66
    · refine m_iload_n C hl 3 d_Md_paschs_41 rfl rfl ?_
      refine m_aload_n C hl 0 d_Md_paschs_42 rfl rfl ?_
      refine m_iload C hl 4 d_Md_paschs_43 rfl ?_
      obtain ⟨x8, e7, hM⟩ := bnd_some hM
      refine aftR (runV C w.1 w.2 kc_Md sh_83 (Nat.le_of_ble_eq_true rfl) (c_Md_paschOf hI e7) lk_Md_142 mb_Md_paschOf rfl ⟨Nat.le_of_ble_eq_true rfl, Nat.le_of_ble_eq_true rfl⟩ ⟨Nat.zero_le _, Nat.zero_le _⟩ (Nat.le_of_ble_eq_true rfl) d_Md_paschs_45 hl.1 (rest := [.int (iZ v3)]) rfl) ?_
      refine m_iload_n C hl 1 d_Md_paschs_48 rfl rfl ?_
      refine m_icmp_ne C hM 56 d_Md_paschs_49 (by decide) (fun hM => ?_) (fun hM => ?_)
      · refine m_iconst C d_Md_paschs_56 ?_
        refine m_iadd C d_Md_paschs_57 ?_
        refine m_istore_n C hl [(3, .int (iZ (v3 + 0))), (0, .ref (ad 83)), (1, .int (iZ v1)), (2, .int (iZ v2)), (4, .int (iZ v4))] d_Md_paschs_58 rfl (by decide) rfl (fun ls hl => ?_)
        refine m_iinc C hl 4 [(4, .int (iZ (v4 + 1))), (3, .int (iZ (v3 + 0))), (0, .ref (ad 83)), (1, .int (iZ v1)), (2, .int (iZ v2))] d_Md_paschs_59 rfl (by decide) rfl (fun ls hl => ?_)
        refine m_goto C 35 d_Md_paschs_62 (by decide) ?_
        exact ih (v3 + 0) (v4 + 1) _ (lv_sub hl [2, 3, 4, 1, 0] rfl) hM
      · refine m_iconst C d_Md_paschs_52 ?_
        refine m_goto C 57 d_Md_paschs_53 (by decide) ?_
        refine m_iadd C d_Md_paschs_57 ?_
        refine m_istore_n C hl [(3, .int (iZ (v3 + 1))), (0, .ref (ad 83)), (1, .int (iZ v1)), (2, .int (iZ v2)), (4, .int (iZ v4))] d_Md_paschs_58 rfl (by decide) rfl (fun ls hl => ?_)
        refine m_iinc C hl 4 [(4, .int (iZ (v4 + 1))), (3, .int (iZ (v3 + 1))), (0, .ref (ad 83)), (1, .int (iZ v1)), (2, .int (iZ v2))] d_Md_paschs_59 rfl (by decide) rfl (fun ls hl => ?_)
        refine m_goto C 35 d_Md_paschs_62 (by decide) ?_
        exact ih (v3 + 1) (v4 + 1) _ (lv_sub hl [2, 3, 4, 1, 0] rfl) hM
set_option maxHeartbeats 4000000 in
set_option maxRecDepth 100000 in
theorem c_Md_paschs {l : Launch} {D : va_G} {ad : Nat → Nat} {cA : Nat → ClassId} {sd sv : Nat → Nat} {h : Hp} {N : Nat} {a1 : Int} {out : (Int × Hp)} (hI : Inj97 ad) (hM : M_Md_paschs N h a1 = some out) : Met l y_Md_paschs (.code y_Md_paschs prog_13_method_94_code 5 (some .int) :: TT) (rmD 3) (PC D ad cA sd sv h [.ref (ad 83), .int (iZ a1)]) (QI D ad cA out) 0 0 (FA ad) := by
  unfold M_Md_paschs at hM
  refine entM (by decide +kernel) hI (Nat.le_of_ble_eq_true rfl) ?_
  intro p e s m args below meth c C hr hlk hP ls hl
  have C : Cx p s m args c prog_13_method_94_code 5 "FeastBookModel" D ad cA sd sv (FA ad) := C
  have hl : lv_has ls 5 [(0, .ref (ad 83)), (1, .int (iZ a1))] := hl
  have w : Wd s D ad cA (FA ad) h s.heap [] := ⟨hP, va_S.rf⟩
  refine m_aload_n C hl 0 d_Md_paschs_0 rfl rfl ?_
  refine m_aload_n C hl 0 d_Md_paschs_1 rfl rfl ?_
  obtain ⟨x2, e1, hM⟩ := bnd_some hM
  refine aftR (runV C w.1 w.2 kc_Md sh_83 (Nat.le_of_ble_eq_true rfl) (c_Md_hasBook hI e1) lk_Md_58 mb_Md_hasBook rfl ⟨Nat.le_of_ble_eq_true rfl, Nat.le_of_ble_eq_true rfl⟩ ⟨Nat.zero_le _, Nat.zero_le _⟩ (Nat.le_of_ble_eq_true rfl) d_Md_paschs_2 hl.1 (rest := [.ref (ad 83)]) rfl) ?_
  refine lt_join hM (fun j3 ej hM => ?_)
  have hJ3 : ∀ (s0_3 : Int), j3 s0_3 = some out → ∀ ls : Array Slot, lv_has ls 5 [(0, .ref (ad 83)), (1, .int (iZ a1))] → W p l e (rmD 3) s m args below meth c s.heap [] 0 0 (MQ below (QI D ad cA out) args s 0 0 (FA ad)) (F0 m 13 ls [.int (iZ s0_3), .ref (ad 83)]) := by
    intro s0_3 hM ls hl
    subst ej
    dsimp only at hM
    refine m_puti C w kc_Md sh_83 (Nat.le_of_ble_eq_true rfl) 0 hM rfl (by decide) rfl rfl fk_Md_51 d_Md_paschs_13 (fun h4 H locs w hM => ?_)
    refine m_aload_n C hl 0 d_Md_paschs_16 rfl rfl ?_
    refine m_geti C w.1 kc_Md sh_83 (Nat.le_of_ble_eq_true rfl) 0 rfl (by decide) fk_Md_51 d_Md_paschs_17 ?_
    refine m_if_le C hM 25 d_Md_paschs_20 (by decide) (fun hM => ?_) (fun hM => ?_)
    · refine m_aload_n C hl 0 d_Md_paschs_25 rfl rfl ?_
      obtain ⟨x6, e5, hM⟩ := bnd_some hM
      refine aftR (runV C w.1 w.2 kc_Md sh_83 (Nat.le_of_ble_eq_true rfl) (c_Md_cycle0 hI e5) lk_Md_326 mb_Md_cycle0 rfl ⟨Nat.le_of_ble_eq_true rfl, Nat.le_of_ble_eq_true rfl⟩ ⟨Nat.zero_le _, Nat.zero_le _⟩ (Nat.le_of_ble_eq_true rfl) d_Md_paschs_26 hl.1 (rest := []) rfl) ?_
      refine m_istore_n C hl [(2, .int (iZ x6)), (0, .ref (ad 83)), (1, .int (iZ a1))] d_Md_paschs_29 rfl (by decide) rfl (fun ls hl => ?_)
      refine m_iconst C d_Md_paschs_30 ?_
      refine m_istore_n C hl [(3, .int (iZ 0)), (2, .int (iZ x6)), (0, .ref (ad 83)), (1, .int (iZ a1))] d_Md_paschs_31 rfl (by decide) rfl (fun ls hl => ?_)
      refine m_iconst C d_Md_paschs_32 ?_
      refine m_istore C hl [(4, .int (iZ 0)), (3, .int (iZ 0)), (2, .int (iZ x6)), (0, .ref (ad 83)), (1, .int (iZ a1))] d_Md_paschs_33 (by decide) rfl (fun ls hl => ?_)
      exact w_Md_paschs_L35 N hI C hr hlk a1 x6 h4 _ _ w _ 0 0 _ (lv_sub hl [3, 4, 2, 1, 0] rfl) hM
    · refine m_iconst C d_Md_paschs_23 ?_
      exact m_iretW C w hr hlk hM d_Md_paschs_24
  refine m_if_eq C hM 12 d_Md_paschs_5 (by decide) (fun hM => ?_) (fun hM => ?_)
  · refine m_iconst C d_Md_paschs_12 ?_
    exact hJ3 1 hM _ hl
  · refine m_iconst C d_Md_paschs_8 ?_
    refine m_goto C 13 d_Md_paschs_9 (by decide) ?_
    exact hJ3 0 hM _ hl
def y_Md_alike : MethodName := ⟨"FeastBookModel", "alike", "(II)Z"⟩
theorem d_Md_alike_0 : decode prog_13_method_95_code 0 = .ok (.aload_n 0, 1) := by decide +kernel
theorem d_Md_alike_1 : decode prog_13_method_95_code 1 = .ok (.aload_n 0, 1) := by decide +kernel
theorem d_Md_alike_2 : decode prog_13_method_95_code 2 = .ok (.iload_n 1, 1) := by decide +kernel
theorem d_Md_alike_3 : decode prog_13_method_95_code 3 = .ok (.invokevirtual 280, 3) := by decide +kernel
theorem d_Md_alike_6 : decode prog_13_method_95_code 6 = .ok (.ifCond .eq 15, 3) := by decide +kernel
theorem d_Md_alike_9 : decode prog_13_method_95_code 9 = .ok (.aload_n 0, 1) := by decide +kernel
theorem d_Md_alike_10 : decode prog_13_method_95_code 10 = .ok (.iload_n 2, 1) := by decide +kernel
theorem d_Md_alike_11 : decode prog_13_method_95_code 11 = .ok (.invokevirtual 280, 3) := by decide +kernel
theorem d_Md_alike_14 : decode prog_13_method_95_code 14 = .ok (.ifCond .eq 7, 3) := by decide +kernel
theorem d_Md_alike_17 : decode prog_13_method_95_code 17 = .ok (.iconst 0, 1) := by decide +kernel
theorem d_Md_alike_18 : decode prog_13_method_95_code 18 = .ok (.goto 4, 3) := by decide +kernel
theorem d_Md_alike_21 : decode prog_13_method_95_code 21 = .ok (.iconst 1, 1) := by decide +kernel
theorem d_Md_alike_22 : decode prog_13_method_95_code 22 = .ok (.putfield 51, 3) := by decide +kernel
theorem d_Md_alike_25 : decode prog_13_method_95_code 25 = .ok (.aload_n 0, 1) := by decide +kernel
theorem d_Md_alike_26 : decode prog_13_method_95_code 26 = .ok (.getfield 51, 3) := by decide +kernel
theorem d_Md_alike_29 : decode prog_13_method_95_code 29 = .ok (.ifCond .ne 46, 3) := by decide +kernel
theorem d_Md_alike_32 : decode prog_13_method_95_code 32 = .ok (.aload_n 0, 1) := by decide +kernel
theorem d_Md_alike_33 : decode prog_13_method_95_code 33 = .ok (.iload_n 1, 1) := by decide +kernel
theorem d_Md_alike_34 : decode prog_13_method_95_code 34 = .ok (.invokevirtual 139, 3) := by decide +kernel
theorem d_Md_alike_37 : decode prog_13_method_95_code 37 = .ok (.aload_n 0, 1) := by decide +kernel
theorem d_Md_alike_38 : decode prog_13_method_95_code 38 = .ok (.iload_n 2, 1) := by decide +kernel
theorem d_Md_alike_39 : decode prog_13_method_95_code 39 = .ok (.invokevirtual 139, 3) := by decide +kernel
theorem d_Md_alike_42 : decode prog_13_method_95_code 42 = .ok (.if_icmp .ne 33, 3) := by decide +kernel
theorem d_Md_alike_45 : decode prog_13_method_95_code 45 = .ok (.aload_n 0, 1) := by decide +kernel
theorem d_Md_alike_46 : decode prog_13_method_95_code 46 = .ok (.iload_n 1, 1) := by decide +kernel
theorem d_Md_alike_47 : decode prog_13_method_95_code 47 = .ok (.invokevirtual 74, 3) := by decide +kernel
theorem d_Md_alike_50 : decode prog_13_method_95_code 50 = .ok (.aload_n 0, 1) := by decide +kernel
theorem d_Md_alike_51 : decode prog_13_method_95_code 51 = .ok (.iload_n 2, 1) := by decide +kernel
theorem d_Md_alike_52 : decode prog_13_method_95_code 52 = .ok (.invokevirtual 74, 3) := by decide +kernel
theorem d_Md_alike_55 : decode prog_13_method_95_code 55 = .ok (.if_icmp .ne 20, 3) := by decide +kernel
theorem d_Md_alike_58 : decode prog_13_method_95_code 58 = .ok (.aload_n 0, 1) := by decide +kernel
theorem d_Md_alike_59 : decode prog_13_method_95_code 59 = .ok (.iload_n 1, 1) := by decide +kernel
theorem d_Md_alike_60 : decode prog_13_method_95_code 60 = .ok (.invokevirtual 142, 3) := by decide +kernel
theorem d_Md_alike_63 : decode prog_13_method_95_code 63 = .ok (.aload_n 0, 1) := by decide +kernel
theorem d_Md_alike_64 : decode prog_13_method_95_code 64 = .ok (.iload_n 2, 1) := by decide +kernel
theorem d_Md_alike_65 : decode prog_13_method_95_code 65 = .ok (.invokevirtual 142, 3) := by decide +kernel
theorem d_Md_alike_68 : decode prog_13_method_95_code 68 = .ok (.if_icmp .ne 7, 3) := by decide +kernel
theorem d_Md_alike_71 : decode prog_13_method_95_code 71 = .ok (.iconst 1, 1) := by decide +kernel
theorem d_Md_alike_72 : decode prog_13_method_95_code 72 = .ok (.goto 4, 3) := by decide +kernel
theorem d_Md_alike_75 : decode prog_13_method_95_code 75 = .ok (.iconst 0, 1) := by decide +kernel
theorem d_Md_alike_76 : decode prog_13_method_95_code 76 = .ok (.ireturn, 1) := by decide +kernel
set_option maxHeartbeats 4000000 in
set_option maxRecDepth 100000 in
theorem c_Md_alike {l : Launch} {D : va_G} {ad : Nat → Nat} {cA : Nat → ClassId} {sd sv : Nat → Nat} {h : Hp} {N : Nat} {a1 a2 : Int} {out : (Int × Hp)} (hI : Inj97 ad) (hM : M_Md_alike N h a1 a2 = some out) : Met l y_Md_alike (.code y_Md_alike prog_13_method_95_code 3 (some .boolean) :: TT) (rmD 3) (PC D ad cA sd sv h [.ref (ad 83), .int (iZ a1), .int (iZ a2)]) (QI D ad cA out) 0 0 (FA ad) := by
  unfold M_Md_alike at hM
  refine entM (by decide +kernel) hI (Nat.le_of_ble_eq_true rfl) ?_
  intro p e s m args below meth c C hr hlk hP ls hl
  have C : Cx p s m args c prog_13_method_95_code 3 "FeastBookModel" D ad cA sd sv (FA ad) := C
  have hl : lv_has ls 3 [(0, .ref (ad 83)), (1, .int (iZ a1)), (2, .int (iZ a2))] := hl
  have w : Wd s D ad cA (FA ad) h s.heap [] := ⟨hP, va_S.rf⟩
  refine m_aload_n C hl 0 d_Md_alike_0 rfl rfl ?_
  refine m_aload_n C hl 0 d_Md_alike_1 rfl rfl ?_
  refine m_iload_n C hl 1 d_Md_alike_2 rfl rfl ?_
  obtain ⟨x2, e1, hM⟩ := bnd_some hM
  refine aftR (runV C w.1 w.2 kc_Md sh_83 (Nat.le_of_ble_eq_true rfl) (c_Md_isYear hI e1) lk_Md_280 mb_Md_isYear rfl ⟨Nat.le_of_ble_eq_true rfl, Nat.le_of_ble_eq_true rfl⟩ ⟨Nat.zero_le _, Nat.zero_le _⟩ (Nat.le_of_ble_eq_true rfl) d_Md_alike_3 hl.1 (rest := [.ref (ad 83)]) rfl) ?_
  refine lt_join hM (fun j5 ej hM => ?_)
  have hJ5 : ∀ (s0_5 : Int), j5 s0_5 = some out → ∀ ls : Array Slot, lv_has ls 3 [(0, .ref (ad 83)), (1, .int (iZ a1)), (2, .int (iZ a2))] → W p l e (rmD 3) s m args below meth c s.heap [] 0 0 (MQ below (QI D ad cA out) args s 0 0 (FA ad)) (F0 m 22 ls [.int (iZ s0_5), .ref (ad 83)]) := by
    intro s0_5 hM ls hl
    subst ej
    dsimp only at hM
    refine m_puti C w kc_Md sh_83 (Nat.le_of_ble_eq_true rfl) 0 hM rfl (by decide) rfl rfl fk_Md_51 d_Md_alike_22 (fun h6 H locs w hM => ?_)
    refine m_aload_n C hl 0 d_Md_alike_25 rfl rfl ?_
    refine m_geti C w.1 kc_Md sh_83 (Nat.le_of_ble_eq_true rfl) 0 rfl (by decide) fk_Md_51 d_Md_alike_26 ?_
    refine m_if_ne C hM 75 d_Md_alike_29 (by decide) (fun hM => ?_) (fun hM => ?_)
    · refine m_iconst C d_Md_alike_75 ?_
      exact m_zretW C w hr hlk hM d_Md_alike_76
    · refine m_aload_n C hl 0 d_Md_alike_32 rfl rfl ?_
      refine m_iload_n C hl 1 d_Md_alike_33 rfl rfl ?_
      obtain ⟨x8, e7, hM⟩ := bnd_some hM
      refine aftR (runV C w.1 w.2 kc_Md sh_83 (Nat.le_of_ble_eq_true rfl) (c_Md_lengthOf hI e7) lk_Md_139 mb_Md_lengthOf rfl ⟨Nat.le_of_ble_eq_true rfl, Nat.le_of_ble_eq_true rfl⟩ ⟨Nat.zero_le _, Nat.zero_le _⟩ (Nat.le_of_ble_eq_true rfl) d_Md_alike_34 hl.1 (rest := []) rfl) ?_
      refine m_aload_n C hl 0 d_Md_alike_37 rfl rfl ?_
      refine m_iload_n C hl 2 d_Md_alike_38 rfl rfl ?_
      obtain ⟨x10, e9, hM⟩ := bnd_some hM
      refine aftR (runV C w.1 w.2 kc_Md sh_83 (Nat.le_of_ble_eq_true rfl) (c_Md_lengthOf hI e9) lk_Md_139 mb_Md_lengthOf rfl ⟨Nat.le_of_ble_eq_true rfl, Nat.le_of_ble_eq_true rfl⟩ ⟨Nat.zero_le _, Nat.zero_le _⟩ (Nat.le_of_ble_eq_true rfl) d_Md_alike_39 hl.1 (rest := [.int (iZ x8)]) rfl) ?_
      refine m_icmp_ne C hM 75 d_Md_alike_42 (by decide) (fun hM => ?_) (fun hM => ?_)
      · refine m_iconst C d_Md_alike_75 ?_
        exact m_zretW C w hr hlk hM d_Md_alike_76
      · refine m_aload_n C hl 0 d_Md_alike_45 rfl rfl ?_
        refine m_iload_n C hl 1 d_Md_alike_46 rfl rfl ?_
        obtain ⟨x12, e11, hM⟩ := bnd_some hM
        refine aftR (runV C w.1 w.2 kc_Md sh_83 (Nat.le_of_ble_eq_true rfl) (c_Md_weekdayOf hI e11) lk_Md_74 mb_Md_weekdayOf rfl ⟨Nat.le_of_ble_eq_true rfl, Nat.le_of_ble_eq_true rfl⟩ ⟨Nat.zero_le _, Nat.zero_le _⟩ (Nat.le_of_ble_eq_true rfl) d_Md_alike_47 hl.1 (rest := []) rfl) ?_
        refine m_aload_n C hl 0 d_Md_alike_50 rfl rfl ?_
        refine m_iload_n C hl 2 d_Md_alike_51 rfl rfl ?_
        obtain ⟨x14, e13, hM⟩ := bnd_some hM
        refine aftR (runV C w.1 w.2 kc_Md sh_83 (Nat.le_of_ble_eq_true rfl) (c_Md_weekdayOf hI e13) lk_Md_74 mb_Md_weekdayOf rfl ⟨Nat.le_of_ble_eq_true rfl, Nat.le_of_ble_eq_true rfl⟩ ⟨Nat.zero_le _, Nat.zero_le _⟩ (Nat.le_of_ble_eq_true rfl) d_Md_alike_52 hl.1 (rest := [.int (iZ x12)]) rfl) ?_
        refine m_icmp_ne C hM 75 d_Md_alike_55 (by decide) (fun hM => ?_) (fun hM => ?_)
        · refine m_iconst C d_Md_alike_75 ?_
          exact m_zretW C w hr hlk hM d_Md_alike_76
        · refine m_aload_n C hl 0 d_Md_alike_58 rfl rfl ?_
          refine m_iload_n C hl 1 d_Md_alike_59 rfl rfl ?_
          obtain ⟨x16, e15, hM⟩ := bnd_some hM
          refine aftR (runV C w.1 w.2 kc_Md sh_83 (Nat.le_of_ble_eq_true rfl) (c_Md_paschOf hI e15) lk_Md_142 mb_Md_paschOf rfl ⟨Nat.le_of_ble_eq_true rfl, Nat.le_of_ble_eq_true rfl⟩ ⟨Nat.zero_le _, Nat.zero_le _⟩ (Nat.le_of_ble_eq_true rfl) d_Md_alike_60 hl.1 (rest := []) rfl) ?_
          refine m_aload_n C hl 0 d_Md_alike_63 rfl rfl ?_
          refine m_iload_n C hl 2 d_Md_alike_64 rfl rfl ?_
          obtain ⟨x18, e17, hM⟩ := bnd_some hM
          refine aftR (runV C w.1 w.2 kc_Md sh_83 (Nat.le_of_ble_eq_true rfl) (c_Md_paschOf hI e17) lk_Md_142 mb_Md_paschOf rfl ⟨Nat.le_of_ble_eq_true rfl, Nat.le_of_ble_eq_true rfl⟩ ⟨Nat.zero_le _, Nat.zero_le _⟩ (Nat.le_of_ble_eq_true rfl) d_Md_alike_65 hl.1 (rest := [.int (iZ x16)]) rfl) ?_
          refine m_icmp_ne C hM 75 d_Md_alike_68 (by decide) (fun hM => ?_) (fun hM => ?_)
          · refine m_iconst C d_Md_alike_75 ?_
            exact m_zretW C w hr hlk hM d_Md_alike_76
          · refine m_iconst C d_Md_alike_71 ?_
            refine m_goto C 76 d_Md_alike_72 (by decide) ?_
            exact m_zretW C w hr hlk hM d_Md_alike_76
  refine m_if_eq C hM 21 d_Md_alike_6 (by decide) (fun hM => ?_) (fun hM => ?_)
  · refine m_iconst C d_Md_alike_21 ?_
    exact hJ5 1 hM _ hl
  · refine m_aload_n C hl 0 d_Md_alike_9 rfl rfl ?_
    refine m_iload_n C hl 2 d_Md_alike_10 rfl rfl ?_
    obtain ⟨x20, e19, hM⟩ := bnd_some hM
    refine aftR (runV C w.1 w.2 kc_Md sh_83 (Nat.le_of_ble_eq_true rfl) (c_Md_isYear hI e19) lk_Md_280 mb_Md_isYear rfl ⟨Nat.le_of_ble_eq_true rfl, Nat.le_of_ble_eq_true rfl⟩ ⟨Nat.zero_le _, Nat.zero_le _⟩ (Nat.le_of_ble_eq_true rfl) d_Md_alike_11 hl.1 (rest := [.ref (ad 83)]) rfl) ?_
    refine m_if_eq C hM 21 d_Md_alike_14 (by decide) (fun hM => ?_) (fun hM => ?_)
    · refine m_iconst C d_Md_alike_21 ?_
      exact hJ5 1 hM _ hl
    · refine m_iconst C d_Md_alike_17 ?_
      refine m_goto C 22 d_Md_alike_18 (by decide) ?_
      exact hJ5 0 hM _ hl
def y_Md_sorts : MethodName := ⟨"FeastBookModel", "sorts", "()I"⟩
theorem d_Md_sorts_0 : decode prog_13_method_96_code 0 = .ok (.aload_n 0, 1) := by decide +kernel
theorem d_Md_sorts_1 : decode prog_13_method_96_code 1 = .ok (.aload_n 0, 1) := by decide +kernel
theorem d_Md_sorts_2 : decode prog_13_method_96_code 2 = .ok (.invokevirtual 58, 3) := by decide +kernel
theorem d_Md_sorts_5 : decode prog_13_method_96_code 5 = .ok (.ifCond .eq 7, 3) := by decide +kernel
theorem d_Md_sorts_8 : decode prog_13_method_96_code 8 = .ok (.iconst 0, 1) := by decide +kernel
theorem d_Md_sorts_9 : decode prog_13_method_96_code 9 = .ok (.goto 4, 3) := by decide +kernel
theorem d_Md_sorts_12 : decode prog_13_method_96_code 12 = .ok (.iconst 1, 1) := by decide +kernel
theorem d_Md_sorts_13 : decode prog_13_method_96_code 13 = .ok (.putfield 51, 3) := by decide +kernel
theorem d_Md_sorts_16 : decode prog_13_method_96_code 16 = .ok (.aload_n 0, 1) := by decide +kernel
theorem d_Md_sorts_17 : decode prog_13_method_96_code 17 = .ok (.getfield 51, 3) := by decide +kernel
theorem d_Md_sorts_20 : decode prog_13_method_96_code 20 = .ok (.ifCond .le 5, 3) := by decide +kernel
theorem d_Md_sorts_23 : decode prog_13_method_96_code 23 = .ok (.iconst 0, 1) := by decide +kernel
theorem d_Md_sorts_24 : decode prog_13_method_96_code 24 = .ok (.ireturn, 1) := by decide +kernel
theorem d_Md_sorts_25 : decode prog_13_method_96_code 25 = .ok (.iconst 0, 1) := by decide +kernel
theorem d_Md_sorts_26 : decode prog_13_method_96_code 26 = .ok (.istore_n 1, 1) := by decide +kernel
theorem d_Md_sorts_27 : decode prog_13_method_96_code 27 = .ok (.iload_n 1, 1) := by decide +kernel
theorem d_Md_sorts_28 : decode prog_13_method_96_code 28 = .ok (.sipush 5200, 3) := by decide +kernel
theorem d_Md_sorts_31 : decode prog_13_method_96_code 31 = .ok (.if_icmp .ge 16, 3) := by decide +kernel
theorem d_Md_sorts_34 : decode prog_13_method_96_code 34 = .ok (.aload_n 0, 1) := by decide +kernel
theorem d_Md_sorts_35 : decode prog_13_method_96_code 35 = .ok (.getfield 47, 3) := by decide +kernel
theorem d_Md_sorts_38 : decode prog_13_method_96_code 38 = .ok (.iload_n 1, 1) := by decide +kernel
theorem d_Md_sorts_39 : decode prog_13_method_96_code 39 = .ok (.iconst 0, 1) := by decide +kernel
theorem d_Md_sorts_40 : decode prog_13_method_96_code 40 = .ok (.bastore, 1) := by decide +kernel
theorem d_Md_sorts_41 : decode prog_13_method_96_code 41 = .ok (.iinc 1 1, 3) := by decide +kernel
theorem d_Md_sorts_44 : decode prog_13_method_96_code 44 = .ok (.goto (-17), 3) := by decide +kernel
theorem d_Md_sorts_47 : decode prog_13_method_96_code 47 = .ok (.aload_n 0, 1) := by decide +kernel
theorem d_Md_sorts_48 : decode prog_13_method_96_code 48 = .ok (.invokevirtual 326, 3) := by decide +kernel
theorem d_Md_sorts_51 : decode prog_13_method_96_code 51 = .ok (.istore_n 1, 1) := by decide +kernel
theorem d_Md_sorts_52 : decode prog_13_method_96_code 52 = .ok (.iconst 0, 1) := by decide +kernel
theorem d_Md_sorts_53 : decode prog_13_method_96_code 53 = .ok (.istore_n 2, 1) := by decide +kernel
theorem d_Md_sorts_54 : decode prog_13_method_96_code 54 = .ok (.iconst 0, 1) := by decide +kernel
theorem d_Md_sorts_55 : decode prog_13_method_96_code 55 = .ok (.istore_n 3, 1) := by decide +kernel
theorem d_Md_sorts_56 : decode prog_13_method_96_code 56 = .ok (.iload_n 3, 1) := by decide +kernel
theorem d_Md_sorts_57 : decode prog_13_method_96_code 57 = .ok (.iload_n 1, 1) := by decide +kernel
theorem d_Md_sorts_58 : decode prog_13_method_96_code 58 = .ok (.if_icmp .ge 67, 3) := by decide +kernel
theorem d_Md_sorts_61 : decode prog_13_method_96_code 61 = .ok (.aload_n 0, 1) := by decide +kernel
theorem d_Md_sorts_62 : decode prog_13_method_96_code 62 = .ok (.iload_n 3, 1) := by decide +kernel
theorem d_Md_sorts_63 : decode prog_13_method_96_code 63 = .ok (.invokevirtual 142, 3) := by decide +kernel
theorem d_Md_sorts_66 : decode prog_13_method_96_code 66 = .ok (.bipush 10, 2) := by decide +kernel
theorem d_Md_sorts_68 : decode prog_13_method_96_code 68 = .ok (.imul, 1) := by decide +kernel
theorem d_Md_sorts_69 : decode prog_13_method_96_code 69 = .ok (.aload_n 0, 1) := by decide +kernel
theorem d_Md_sorts_70 : decode prog_13_method_96_code 70 = .ok (.iload_n 3, 1) := by decide +kernel
theorem d_Md_sorts_71 : decode prog_13_method_96_code 71 = .ok (.invokevirtual 74, 3) := by decide +kernel
theorem d_Md_sorts_74 : decode prog_13_method_96_code 74 = .ok (.iadd, 1) := by decide +kernel
theorem d_Md_sorts_75 : decode prog_13_method_96_code 75 = .ok (.iconst 2, 1) := by decide +kernel
theorem d_Md_sorts_76 : decode prog_13_method_96_code 76 = .ok (.imul, 1) := by decide +kernel
theorem d_Md_sorts_77 : decode prog_13_method_96_code 77 = .ok (.aload_n 0, 1) := by decide +kernel
theorem d_Md_sorts_78 : decode prog_13_method_96_code 78 = .ok (.iload_n 3, 1) := by decide +kernel
theorem d_Md_sorts_79 : decode prog_13_method_96_code 79 = .ok (.invokevirtual 66, 3) := by decide +kernel
theorem d_Md_sorts_82 : decode prog_13_method_96_code 82 = .ok (.ifCond .eq 7, 3) := by decide +kernel
theorem d_Md_sorts_85 : decode prog_13_method_96_code 85 = .ok (.iconst 1, 1) := by decide +kernel
theorem d_Md_sorts_86 : decode prog_13_method_96_code 86 = .ok (.goto 4, 3) := by decide +kernel
theorem d_Md_sorts_89 : decode prog_13_method_96_code 89 = .ok (.iconst 0, 1) := by decide +kernel
theorem d_Md_sorts_90 : decode prog_13_method_96_code 90 = .ok (.iadd, 1) := by decide +kernel
theorem d_Md_sorts_91 : decode prog_13_method_96_code 91 = .ok (.istore 4, 2) := by decide +kernel
theorem d_Md_sorts_93 : decode prog_13_method_96_code 93 = .ok (.iload_n 2, 1) := by decide +kernel
theorem d_Md_sorts_94 : decode prog_13_method_96_code 94 = .ok (.aload_n 0, 1) := by decide +kernel
theorem d_Md_sorts_95 : decode prog_13_method_96_code 95 = .ok (.getfield 47, 3) := by decide +kernel
theorem d_Md_sorts_98 : decode prog_13_method_96_code 98 = .ok (.iload 4, 2) := by decide +kernel
theorem d_Md_sorts_100 : decode prog_13_method_96_code 100 = .ok (.baload, 1) := by decide +kernel
theorem d_Md_sorts_101 : decode prog_13_method_96_code 101 = .ok (.ifCond .eq 7, 3) := by decide +kernel
theorem d_Md_sorts_104 : decode prog_13_method_96_code 104 = .ok (.iconst 0, 1) := by decide +kernel
theorem d_Md_sorts_105 : decode prog_13_method_96_code 105 = .ok (.goto 4, 3) := by decide +kernel
theorem d_Md_sorts_108 : decode prog_13_method_96_code 108 = .ok (.iconst 1, 1) := by decide +kernel
theorem d_Md_sorts_109 : decode prog_13_method_96_code 109 = .ok (.iadd, 1) := by decide +kernel
theorem d_Md_sorts_110 : decode prog_13_method_96_code 110 = .ok (.istore_n 2, 1) := by decide +kernel
theorem d_Md_sorts_111 : decode prog_13_method_96_code 111 = .ok (.aload_n 0, 1) := by decide +kernel
theorem d_Md_sorts_112 : decode prog_13_method_96_code 112 = .ok (.getfield 47, 3) := by decide +kernel
theorem d_Md_sorts_115 : decode prog_13_method_96_code 115 = .ok (.iload 4, 2) := by decide +kernel
theorem d_Md_sorts_117 : decode prog_13_method_96_code 117 = .ok (.iconst 1, 1) := by decide +kernel
theorem d_Md_sorts_118 : decode prog_13_method_96_code 118 = .ok (.bastore, 1) := by decide +kernel
theorem d_Md_sorts_119 : decode prog_13_method_96_code 119 = .ok (.iinc 3 1, 3) := by decide +kernel
theorem d_Md_sorts_122 : decode prog_13_method_96_code 122 = .ok (.goto (-66), 3) := by decide +kernel
theorem d_Md_sorts_125 : decode prog_13_method_96_code 125 = .ok (.iload_n 2, 1) := by decide +kernel
theorem d_Md_sorts_126 : decode prog_13_method_96_code 126 = .ok (.ireturn, 1) := by decide +kernel
theorem fk_Md_47 : Cond.fieldLink "FeastBookModel" 47 (T_Md 25).1 (T_Md 25).2.1 (T_Md 25).2.2.1 ∈ TT := mT8 121 (by decide +kernel) (by decide +kernel)
set_option maxHeartbeats 4000000 in
set_option maxRecDepth 100000 in
theorem w_Md_sorts_L27 {p : Program} {l : Launch} {e : Env} {s : State} {m : MethodId} {args : Array Value} {below : List Frame} {meth : Method} {c : Code} {D : va_G} {ad : Nat → Nat} {cA : Nat → ClassId} {sd sv : Nat → Nat} {out : (Int × Hp)} (N : Nat) (hI : Inj97 ad) (C : Cx p s m args c prog_13_method_96_code 5 "FeastBookModel" D ad cA sd sv (FA ad)) (hr : meth.sig.returnType = (some .int)) (hlk : meth.locks = false) (k : Int → Hp → Option (Int × Hp)) (kW : ∀ (v1 : Int) (h : Hp), k v1 h = some out → ∀ (H : Heap) (locs : List Loc), Wd s D ad cA (FA ad) h H locs → ∀ ls : Array Slot, lv_has ls 5 [(0, .ref (ad 83)), (1, .int (iZ v1))] → W p l e (rmD 3) s m args below meth c H locs 0 0 (MQ below (QI D ad cA out) args s 0 0 (FA ad)) (F0 m 47 ls [])) : ∀ (n : Nat) (v1 : Int) (h : Hp) (H : Heap) (locs : List Loc), Wd s D ad cA (FA ad) h H locs → ∀ ls : Array Slot, lv_has ls 5 [(0, .ref (ad 83)), (1, .int (iZ v1))] → Md_sorts_L27 N k n v1 h = some out → W p l e (rmD 3) s m args below meth c H locs 0 0 (MQ below (QI D ad cA out) args s 0 0 (FA ad)) (F0 m 27 ls []) := by
  intro n
  induction n with
  | zero =>
    intro v1 h H locs w ls hl hM
    rw [Md_sorts_L27] at hM
    cases hM
  | succ n ih =>
    intro v1 h H locs w ls hl hM
    rw [Md_sorts_L27] at hM
    refine m_iload_n C hl 1 d_Md_sorts_27 rfl rfl ?_
    refine m_sipush C d_Md_sorts_28 (by decide) ?_
    refine m_icmp_ge C hM 47 d_Md_sorts_31 (by decide) (fun hM => ?_) (fun hM => ?_)
    · exact kW v1 h hM _ _ w _ hl
    · refine m_aload_n C hl 0 d_Md_sorts_34 rfl rfl ?_
      refine m_getr C w.1 kc_Md sh_83 (Nat.le_of_ble_eq_true rfl) 25 95 rfl (by decide) fk_Md_47 d_Md_sorts_35 ?_
      refine m_iload_n C hl 1 d_Md_sorts_38 rfl rfl ?_
      refine m_iconst C d_Md_sorts_39 ?_
      refine m_zast C w sh_95 (Nat.le_of_ble_eq_true rfl) (Nat.le_of_ble_eq_true rfl) hM d_Md_sorts_40 (fun h5 H locs w hM => ?_)
      refine m_iinc C hl 1 [(1, .int (iZ (v1 + 1))), (0, .ref (ad 83))] d_Md_sorts_41 rfl (by decide) rfl (fun ls hl => ?_)
      refine m_goto C 27 d_Md_sorts_44 (by decide) ?_
      exact ih (v1 + 1) h5 _ _ w _ (lv_sub hl [1, 0] rfl) hM
set_option maxHeartbeats 4000000 in
set_option maxRecDepth 100000 in
theorem w_Md_sorts_L56 {p : Program} {l : Launch} {e : Env} {s : State} {m : MethodId} {args : Array Value} {below : List Frame} {meth : Method} {c : Code} {D : va_G} {ad : Nat → Nat} {cA : Nat → ClassId} {sd sv : Nat → Nat} {out : (Int × Hp)} (N : Nat) (hI : Inj97 ad) (C : Cx p s m args c prog_13_method_96_code 5 "FeastBookModel" D ad cA sd sv (FA ad)) (hr : meth.sig.returnType = (some .int)) (hlk : meth.locks = false) (v1 : Int) : ∀ (n : Nat) (v2 v3 : Int) (h : Hp) (H : Heap) (locs : List Loc), Wd s D ad cA (FA ad) h H locs → ∀ ls : Array Slot, lv_has ls 5 [(0, .ref (ad 83)), (1, .int (iZ v1)), (2, .int (iZ v2)), (3, .int (iZ v3))] → Md_sorts_L56 N v1 n v2 v3 h = some out → W p l e (rmD 3) s m args below meth c H locs 0 0 (MQ below (QI D ad cA out) args s 0 0 (FA ad)) (F0 m 56 ls []) := by
  intro n
  induction n with
  | zero =>
    intro v2 v3 h H locs w ls hl hM
    rw [Md_sorts_L56] at hM
    cases hM
  | succ n ih =>
    intro v2 v3 h H locs w ls hl hM
    rw [Md_sorts_L56] at hM
    refine m_iload_n C hl 3 d_Md_sorts_56 rfl rfl ?_
    refine m_iload_n C hl 1 d_Md_sorts_57 rfl rfl ?_
    refine m_icmp_ge C hM 125 d_Md_sorts_58 (by decide) (fun hM => ?_) (fun hM => ?_)
    · refine m_iload_n C hl 2 d_Md_sorts_125 rfl rfl ?_
      exact m_iretW C w hr hlk hM d_Md_sorts_126
    · refine m_aload_n C hl 0 d_Md_sorts_61 rfl rfl ?_
      refine m_iload_n C hl 3 d_Md_sorts_62 rfl rfl ?_
      obtain ⟨x10, e9, hM⟩ := bnd_some hM
      refine aftR (runV C w.1 w.2 kc_Md sh_83 (Nat.le_of_ble_eq_true rfl) (c_Md_paschOf hI e9) lk_Md_142 mb_Md_paschOf rfl ⟨Nat.le_of_ble_eq_true rfl, Nat.le_of_ble_eq_true rfl⟩ ⟨Nat.zero_le _, Nat.zero_le _⟩ (Nat.le_of_ble_eq_true rfl) d_Md_sorts_63 hl.1 (rest := []) rfl) ?_
      refine m_bipush C d_Md_sorts_66 (by decide) ?_
      refine m_imul C d_Md_sorts_68 ?_
      refine m_aload_n C hl 0 d_Md_sorts_69 rfl rfl ?_
      refine m_iload_n C hl 3 d_Md_sorts_70 rfl rfl ?_
      obtain ⟨x12, e11, hM⟩ := bnd_some hM
      refine aftR (runV C w.1 w.2 kc_Md sh_83 (Nat.le_of_ble_eq_true rfl) (c_Md_weekdayOf hI e11) lk_Md_74 mb_Md_weekdayOf rfl ⟨Nat.le_of_ble_eq_true rfl, Nat.le_of_ble_eq_true rfl⟩ ⟨Nat.zero_le _, Nat.zero_le _⟩ (Nat.le_of_ble_eq_true rfl) d_Md_sorts_71 hl.1 (rest := [.int (iZ (x10 * 10))]) rfl) ?_
      refine m_iadd C d_Md_sorts_74 ?_
      refine m_iconst C d_Md_sorts_75 ?_
      refine m_imul C d_Md_sorts_76 ?_
      refine m_aload_n C hl 0 d_Md_sorts_77 rfl rfl ?_
      refine m_iload_n C hl 3 d_Md_sorts_78 rfl rfl ?_
      obtain ⟨x14, e13, hM⟩ := bnd_some hM
      refine aftR (runV C w.1 w.2 kc_Md sh_83 (Nat.le_of_ble_eq_true rfl) (c_Md_isLong hI e13) lk_Md_66 mb_Md_isLong rfl ⟨Nat.le_of_ble_eq_true rfl, Nat.le_of_ble_eq_true rfl⟩ ⟨Nat.zero_le _, Nat.zero_le _⟩ (Nat.le_of_ble_eq_true rfl) d_Md_sorts_79 hl.1 (rest := [.int (iZ (((x10 * 10) + x12) * 2))]) rfl) ?_
      refine lt_join hM (fun j15 ej hM => ?_)
      have hJ15 : ∀ (s0_15 : Int), j15 s0_15 = some out → ∀ ls : Array Slot, lv_has ls 5 [(0, .ref (ad 83)), (1, .int (iZ v1)), (2, .int (iZ v2)), (3, .int (iZ v3))] → W p l e (rmD 3) s m args below meth c H locs 0 0 (MQ below (QI D ad cA out) args s 0 0 (FA ad)) (F0 m 90 ls [.int (iZ s0_15), .int (iZ (((x10 * 10) + x12) * 2))]) := by
        intro s0_15 hM ls hl
        subst ej
        dsimp only at hM
        refine m_iadd C d_Md_sorts_90 ?_
        refine m_istore C hl [(4, .int (iZ ((((x10 * 10) + x12) * 2) + s0_15))), (0, .ref (ad 83)), (1, .int (iZ v1)), (2, .int (iZ v2)), (3, .int (iZ v3))] d_Md_sorts_91 (by decide) rfl (fun ls hl => ?_)
        refine m_iload_n C hl 3 d_Md_sorts_93 rfl rfl ?_
        refine m_aload_n C hl 1 d_Md_sorts_94 rfl rfl ?_
        refine m_getr C w.1 kc_Md sh_83 (Nat.le_of_ble_eq_true rfl) 25 95 rfl (by decide) fk_Md_47 d_Md_sorts_95 ?_
        refine m_iload C hl 0 d_Md_sorts_98 rfl ?_
        refine m_zald C w.1 sh_95 (Nat.le_of_ble_eq_true rfl) (Nat.le_of_ble_eq_true rfl) hM d_Md_sorts_100 (fun x16 hM => ?_)
        refine m_if_eq C hM 108 d_Md_sorts_101 (by decide) (fun hM => ?_) (fun hM => ?_)
        · refine m_iconst C d_Md_sorts_108 ?_
          refine m_iadd C d_Md_sorts_109 ?_
          refine m_istore_n C hl [(2, .int (iZ (v2 + 1))), (4, .int (iZ ((((x10 * 10) + x12) * 2) + s0_15))), (0, .ref (ad 83)), (1, .int (iZ v1)), (3, .int (iZ v3))] d_Md_sorts_110 rfl (by decide) rfl (fun ls hl => ?_)
          refine m_aload_n C hl 2 d_Md_sorts_111 rfl rfl ?_
          refine m_getr C w.1 kc_Md sh_83 (Nat.le_of_ble_eq_true rfl) 25 95 rfl (by decide) fk_Md_47 d_Md_sorts_112 ?_
          refine m_iload C hl 1 d_Md_sorts_115 rfl ?_
          refine m_iconst C d_Md_sorts_117 ?_
          refine m_zast C w sh_95 (Nat.le_of_ble_eq_true rfl) (Nat.le_of_ble_eq_true rfl) hM d_Md_sorts_118 (fun h17 H locs w hM => ?_)
          refine m_iinc C hl 4 [(3, .int (iZ (v3 + 1))), (2, .int (iZ (v2 + 1))), (4, .int (iZ ((((x10 * 10) + x12) * 2) + s0_15))), (0, .ref (ad 83)), (1, .int (iZ v1))] d_Md_sorts_119 rfl (by decide) rfl (fun ls hl => ?_)
          refine m_goto C 56 d_Md_sorts_122 (by decide) ?_
          exact ih (v2 + 1) (v3 + 1) h17 _ _ w _ (lv_sub hl [3, 4, 1, 0] rfl) hM
        · refine m_iconst C d_Md_sorts_104 ?_
          refine m_goto C 109 d_Md_sorts_105 (by decide) ?_
          refine m_iadd C d_Md_sorts_109 ?_
          refine m_istore_n C hl [(2, .int (iZ (v2 + 0))), (4, .int (iZ ((((x10 * 10) + x12) * 2) + s0_15))), (0, .ref (ad 83)), (1, .int (iZ v1)), (3, .int (iZ v3))] d_Md_sorts_110 rfl (by decide) rfl (fun ls hl => ?_)
          refine m_aload_n C hl 2 d_Md_sorts_111 rfl rfl ?_
          refine m_getr C w.1 kc_Md sh_83 (Nat.le_of_ble_eq_true rfl) 25 95 rfl (by decide) fk_Md_47 d_Md_sorts_112 ?_
          refine m_iload C hl 1 d_Md_sorts_115 rfl ?_
          refine m_iconst C d_Md_sorts_117 ?_
          refine m_zast C w sh_95 (Nat.le_of_ble_eq_true rfl) (Nat.le_of_ble_eq_true rfl) hM d_Md_sorts_118 (fun h18 H locs w hM => ?_)
          refine m_iinc C hl 4 [(3, .int (iZ (v3 + 1))), (2, .int (iZ (v2 + 0))), (4, .int (iZ ((((x10 * 10) + x12) * 2) + s0_15))), (0, .ref (ad 83)), (1, .int (iZ v1))] d_Md_sorts_119 rfl (by decide) rfl (fun ls hl => ?_)
          refine m_goto C 56 d_Md_sorts_122 (by decide) ?_
          exact ih (v2 + 0) (v3 + 1) h18 _ _ w _ (lv_sub hl [3, 4, 1, 0] rfl) hM
      refine m_if_eq C hM 89 d_Md_sorts_82 (by decide) (fun hM => ?_) (fun hM => ?_)
      · refine m_iconst C d_Md_sorts_89 ?_
        exact hJ15 0 hM _ hl
      · refine m_iconst C d_Md_sorts_85 ?_
        refine m_goto C 90 d_Md_sorts_86 (by decide) ?_
        exact hJ15 1 hM _ hl
set_option maxHeartbeats 4000000 in
set_option maxRecDepth 100000 in
theorem c_Md_sorts {l : Launch} {D : va_G} {ad : Nat → Nat} {cA : Nat → ClassId} {sd sv : Nat → Nat} {h : Hp} {N : Nat} {out : (Int × Hp)} (hI : Inj97 ad) (hM : M_Md_sorts N h = some out) : Met l y_Md_sorts (.code y_Md_sorts prog_13_method_96_code 5 (some .int) :: TT) (rmD 3) (PC D ad cA sd sv h [.ref (ad 83)]) (QI D ad cA out) 0 0 (FA ad) := by
  unfold M_Md_sorts at hM
  refine entM (by decide +kernel) hI (Nat.le_of_ble_eq_true rfl) ?_
  intro p e s m args below meth c C hr hlk hP ls hl
  have C : Cx p s m args c prog_13_method_96_code 5 "FeastBookModel" D ad cA sd sv (FA ad) := C
  have hl : lv_has ls 5 [(0, .ref (ad 83))] := hl
  have w : Wd s D ad cA (FA ad) h s.heap [] := ⟨hP, va_S.rf⟩
  refine m_aload_n C hl 0 d_Md_sorts_0 rfl rfl ?_
  refine m_aload_n C hl 0 d_Md_sorts_1 rfl rfl ?_
  obtain ⟨x2, e1, hM⟩ := bnd_some hM
  refine aftR (runV C w.1 w.2 kc_Md sh_83 (Nat.le_of_ble_eq_true rfl) (c_Md_hasBook hI e1) lk_Md_58 mb_Md_hasBook rfl ⟨Nat.le_of_ble_eq_true rfl, Nat.le_of_ble_eq_true rfl⟩ ⟨Nat.zero_le _, Nat.zero_le _⟩ (Nat.le_of_ble_eq_true rfl) d_Md_sorts_2 hl.1 (rest := [.ref (ad 83)]) rfl) ?_
  refine lt_join hM (fun j3 ej hM => ?_)
  have hJ3 : ∀ (s0_3 : Int), j3 s0_3 = some out → ∀ ls : Array Slot, lv_has ls 5 [(0, .ref (ad 83))] → W p l e (rmD 3) s m args below meth c s.heap [] 0 0 (MQ below (QI D ad cA out) args s 0 0 (FA ad)) (F0 m 13 ls [.int (iZ s0_3), .ref (ad 83)]) := by
    intro s0_3 hM ls hl
    subst ej
    dsimp only at hM
    refine m_puti C w kc_Md sh_83 (Nat.le_of_ble_eq_true rfl) 0 hM rfl (by decide) rfl rfl fk_Md_51 d_Md_sorts_13 (fun h4 H locs w hM => ?_)
    refine m_aload_n C hl 0 d_Md_sorts_16 rfl rfl ?_
    refine m_geti C w.1 kc_Md sh_83 (Nat.le_of_ble_eq_true rfl) 0 rfl (by decide) fk_Md_51 d_Md_sorts_17 ?_
    refine m_if_le C hM 25 d_Md_sorts_20 (by decide) (fun hM => ?_) (fun hM => ?_)
    · refine m_iconst C d_Md_sorts_25 ?_
      refine m_istore_n C hl [(1, .int (iZ 0)), (0, .ref (ad 83))] d_Md_sorts_26 rfl (by decide) rfl (fun ls hl => ?_)
      refine w_Md_sorts_L27 N hI C hr hlk  _ (fun v1_6 h_6 hM H locs w ls hl => ?_) _ 0 h4 _ _ w _ (lv_sub hl [1, 0] rfl) hM
      refine m_aload_n C hl 0 d_Md_sorts_47 rfl rfl ?_
      obtain ⟨x8, e7, hM⟩ := bnd_some hM
      refine aftR (runV C w.1 w.2 kc_Md sh_83 (Nat.le_of_ble_eq_true rfl) (c_Md_cycle0 hI e7) lk_Md_326 mb_Md_cycle0 rfl ⟨Nat.le_of_ble_eq_true rfl, Nat.le_of_ble_eq_true rfl⟩ ⟨Nat.zero_le _, Nat.zero_le _⟩ (Nat.le_of_ble_eq_true rfl) d_Md_sorts_48 hl.1 (rest := []) rfl) ?_
      refine m_istore_n C hl [(1, .int (iZ x8)), (0, .ref (ad 83))] d_Md_sorts_51 rfl (by decide) rfl (fun ls hl => ?_)
      refine m_iconst C d_Md_sorts_52 ?_
      refine m_istore_n C hl [(2, .int (iZ 0)), (1, .int (iZ x8)), (0, .ref (ad 83))] d_Md_sorts_53 rfl (by decide) rfl (fun ls hl => ?_)
      refine m_iconst C d_Md_sorts_54 ?_
      refine m_istore_n C hl [(3, .int (iZ 0)), (2, .int (iZ 0)), (1, .int (iZ x8)), (0, .ref (ad 83))] d_Md_sorts_55 rfl (by decide) rfl (fun ls hl => ?_)
      exact w_Md_sorts_L56 N hI C hr hlk x8 _ 0 0 h_6 _ _ w _ (lv_sub hl [3, 2, 1, 0] rfl) hM
    · refine m_iconst C d_Md_sorts_23 ?_
      exact m_iretW C w hr hlk hM d_Md_sorts_24
  refine m_if_eq C hM 12 d_Md_sorts_5 (by decide) (fun hM => ?_) (fun hM => ?_)
  · refine m_iconst C d_Md_sorts_12 ?_
    exact hJ3 1 hM _ hl
  · refine m_iconst C d_Md_sorts_8 ?_
    refine m_goto C 13 d_Md_sorts_9 (by decide) ?_
    exact hJ3 0 hM _ hl
def y_Md_yields0 : MethodName := ⟨"FeastBookModel", "yields0", "(II)I"⟩
theorem d_Md_yields0_0 : decode prog_13_method_98_code 0 = .ok (.aload_n 0, 1) := by decide +kernel
theorem d_Md_yields0_1 : decode prog_13_method_98_code 1 = .ok (.invokevirtual 326, 3) := by decide +kernel
theorem d_Md_yields0_4 : decode prog_13_method_98_code 4 = .ok (.istore_n 3, 1) := by decide +kernel
theorem d_Md_yields0_5 : decode prog_13_method_98_code 5 = .ok (.iconst 0, 1) := by decide +kernel
theorem d_Md_yields0_6 : decode prog_13_method_98_code 6 = .ok (.istore 4, 2) := by decide +kernel
theorem d_Md_yields0_8 : decode prog_13_method_98_code 8 = .ok (.iconst 0, 1) := by decide +kernel
theorem d_Md_yields0_9 : decode prog_13_method_98_code 9 = .ok (.istore 5, 2) := by decide +kernel
theorem d_Md_yields0_11 : decode prog_13_method_98_code 11 = .ok (.iload 5, 2) := by decide +kernel
theorem d_Md_yields0_13 : decode prog_13_method_98_code 13 = .ok (.iload_n 3, 1) := by decide +kernel
theorem d_Md_yields0_14 : decode prog_13_method_98_code 14 = .ok (.if_icmp .ge 58, 3) := by decide +kernel
theorem d_Md_yields0_17 : decode prog_13_method_98_code 17 = .ok (.aload_n 0, 1) := by decide +kernel
theorem d_Md_yields0_18 : decode prog_13_method_98_code 18 = .ok (.iload 5, 2) := by decide +kernel
theorem d_Md_yields0_20 : decode prog_13_method_98_code 20 = .ok (.invokevirtual 283, 3) := by decide +kernel
theorem d_Md_yields0_23 : decode prog_13_method_98_code 23 = .ok (.iload 4, 2) := by decide +kernel
theorem d_Md_yields0_25 : decode prog_13_method_98_code 25 = .ok (.aload_n 0, 1) := by decide +kernel
theorem d_Md_yields0_26 : decode prog_13_method_98_code 26 = .ok (.getfield 35, 3) := by decide +kernel
theorem d_Md_yields0_29 : decode prog_13_method_98_code 29 = .ok (.iload_n 2, 1) := by decide +kernel
theorem d_Md_yields0_30 : decode prog_13_method_98_code 30 = .ok (.iaload, 1) := by decide +kernel
theorem d_Md_yields0_31 : decode prog_13_method_98_code 31 = .ok (.ifCond .ne 31, 3) := by decide +kernel
theorem d_Md_yields0_34 : decode prog_13_method_98_code 34 = .ok (.aload_n 0, 1) := by decide +kernel
theorem d_Md_yields0_35 : decode prog_13_method_98_code 35 = .ok (.getfield 35, 3) := by decide +kernel
theorem d_Md_yields0_38 : decode prog_13_method_98_code 38 = .ok (.iload_n 1, 1) := by decide +kernel
theorem d_Md_yields0_39 : decode prog_13_method_98_code 39 = .ok (.iaload, 1) := by decide +kernel
theorem d_Md_yields0_40 : decode prog_13_method_98_code 40 = .ok (.ifCond .eq 22, 3) := by decide +kernel
theorem d_Md_yields0_43 : decode prog_13_method_98_code 43 = .ok (.aload_n 0, 1) := by decide +kernel
theorem d_Md_yields0_44 : decode prog_13_method_98_code 44 = .ok (.getfield 29, 3) := by decide +kernel
theorem d_Md_yields0_47 : decode prog_13_method_98_code 47 = .ok (.iload_n 2, 1) := by decide +kernel
theorem d_Md_yields0_48 : decode prog_13_method_98_code 48 = .ok (.iaload, 1) := by decide +kernel
theorem d_Md_yields0_49 : decode prog_13_method_98_code 49 = .ok (.aload_n 0, 1) := by decide +kernel
theorem d_Md_yields0_50 : decode prog_13_method_98_code 50 = .ok (.getfield 29, 3) := by decide +kernel
theorem d_Md_yields0_53 : decode prog_13_method_98_code 53 = .ok (.iload_n 1, 1) := by decide +kernel
theorem d_Md_yields0_54 : decode prog_13_method_98_code 54 = .ok (.iaload, 1) := by decide +kernel
theorem d_Md_yields0_55 : decode prog_13_method_98_code 55 = .ok (.if_icmp .ne 7, 3) := by decide +kernel
theorem d_Md_yields0_58 : decode prog_13_method_98_code 58 = .ok (.iconst 1, 1) := by decide +kernel
theorem d_Md_yields0_59 : decode prog_13_method_98_code 59 = .ok (.goto 4, 3) := by decide +kernel
theorem d_Md_yields0_62 : decode prog_13_method_98_code 62 = .ok (.iconst 0, 1) := by decide +kernel
theorem d_Md_yields0_63 : decode prog_13_method_98_code 63 = .ok (.iadd, 1) := by decide +kernel
theorem d_Md_yields0_64 : decode prog_13_method_98_code 64 = .ok (.istore 4, 2) := by decide +kernel
theorem d_Md_yields0_66 : decode prog_13_method_98_code 66 = .ok (.iinc 5 1, 3) := by decide +kernel
theorem d_Md_yields0_69 : decode prog_13_method_98_code 69 = .ok (.goto (-58), 3) := by decide +kernel
theorem d_Md_yields0_72 : decode prog_13_method_98_code 72 = .ok (.iload 4, 2) := by decide +kernel
theorem d_Md_yields0_74 : decode prog_13_method_98_code 74 = .ok (.ireturn, 1) := by decide +kernel
set_option maxHeartbeats 4000000 in
set_option maxRecDepth 100000 in
theorem w_Md_yields0_L11 {p : Program} {l : Launch} {e : Env} {s : State} {m : MethodId} {args : Array Value} {below : List Frame} {meth : Method} {c : Code} {D : va_G} {ad : Nat → Nat} {cA : Nat → ClassId} {sd sv : Nat → Nat} {out : (Int × Hp)} (N : Nat) (hI : Inj97 ad) (C : Cx p s m args c prog_13_method_98_code 6 "FeastBookModel" D ad cA sd sv (FA ad)) (hr : meth.sig.returnType = (some .int)) (hlk : meth.locks = false) (v1 v2 v3 : Int) : ∀ (n : Nat) (v4 v5 : Int) (h : Hp) (H : Heap) (locs : List Loc), Wd s D ad cA (FA ad) h H locs → ∀ ls : Array Slot, lv_has ls 6 [(0, .ref (ad 83)), (1, .int (iZ v1)), (2, .int (iZ v2)), (3, .int (iZ v3)), (4, .int (iZ v4)), (5, .int (iZ v5))] → Md_yields0_L11 N v1 v2 v3 n v4 v5 h = some out → W p l e (rmD 8) s m args below meth c H locs 0 0 (MQ below (QI D ad cA out) args s 0 0 (FA ad)) (F0 m 11 ls []) := by
  intro n
  induction n with
  | zero =>
    intro v4 v5 h H locs w ls hl hM
    rw [Md_yields0_L11] at hM
    cases hM
  | succ n ih =>
    intro v4 v5 h H locs w ls hl hM
    rw [Md_yields0_L11] at hM
    refine m_iload C hl 5 d_Md_yields0_11 rfl ?_
    refine m_iload_n C hl 3 d_Md_yields0_13 rfl rfl ?_
    refine m_icmp_ge C hM 72 d_Md_yields0_14 (by decide) (fun hM => ?_) (fun hM => ?_)
    · refine m_iload C hl 4 d_Md_yields0_72 rfl ?_
      exact m_iretW C w hr hlk hM d_Md_yields0_74
    · refine m_aload_n C hl 0 d_Md_yields0_17 rfl rfl ?_
      refine m_iload C hl 5 d_Md_yields0_18 rfl ?_
      obtain ⟨h4, e3, hM⟩ := bnd_some hM
      refine aftV C w (runV C w.1 w.2 kc_Md sh_83 (Nat.le_of_ble_eq_true rfl) (c_Md_resolves hI e3) lk_Md_283 mb_Md_resolves rfl ⟨Nat.le_of_ble_eq_true rfl, Nat.le_of_ble_eq_true rfl⟩ ⟨Nat.zero_le _, Nat.zero_le _⟩ (Nat.le_of_ble_eq_true rfl) d_Md_yields0_20 hl.1 (rest := []) rfl) (fun H locs w => ?_)
      refine m_iload C hl 4 d_Md_yields0_23 rfl ?_
      refine m_aload_n C hl 0 d_Md_yields0_25 rfl rfl ?_
      refine m_getr C w.1 kc_Md sh_83 (Nat.le_of_ble_eq_true rfl) 18 91 rfl (by decide) fk_Md_35 d_Md_yields0_26 ?_
      refine m_iload_n C hl 2 d_Md_yields0_29 rfl rfl ?_
      refine m_iald C w.1 sh_91 (Nat.le_of_ble_eq_true rfl) (Nat.le_of_ble_eq_true rfl) hM d_Md_yields0_30 (fun x5 hM => ?_)
      refine m_if_ne C hM 62 d_Md_yields0_31 (by decide) (fun hM => ?_) (fun hM => ?_)
      · refine m_iconst C d_Md_yields0_62 ?_
        refine m_iadd C d_Md_yields0_63 ?_
        refine m_istore C hl [(4, .int (iZ (v4 + 0))), (0, .ref (ad 83)), (1, .int (iZ v1)), (2, .int (iZ v2)), (3, .int (iZ v3)), (5, .int (iZ v5))] d_Md_yields0_64 (by decide) rfl (fun ls hl => ?_)
        refine m_iinc C hl 5 [(5, .int (iZ (v5 + 1))), (4, .int (iZ (v4 + 0))), (0, .ref (ad 83)), (1, .int (iZ v1)), (2, .int (iZ v2)), (3, .int (iZ v3))] d_Md_yields0_66 rfl (by decide) rfl (fun ls hl => ?_)
        refine m_goto C 11 d_Md_yields0_69 (by decide) ?_
        exact ih (v4 + 0) (v5 + 1) h4 _ _ w _ (lv_sub hl [2, 3, 4, 5, 1, 0] rfl) hM
      · refine m_aload_n C hl 0 d_Md_yields0_34 rfl rfl ?_
        refine m_getr C w.1 kc_Md sh_83 (Nat.le_of_ble_eq_true rfl) 18 91 rfl (by decide) fk_Md_35 d_Md_yields0_35 ?_
        refine m_iload_n C hl 1 d_Md_yields0_38 rfl rfl ?_
        refine m_iald C w.1 sh_91 (Nat.le_of_ble_eq_true rfl) (Nat.le_of_ble_eq_true rfl) hM d_Md_yields0_39 (fun x6 hM => ?_)
        refine m_if_eq C hM 62 d_Md_yields0_40 (by decide) (fun hM => ?_) (fun hM => ?_)
        · refine m_iconst C d_Md_yields0_62 ?_
          refine m_iadd C d_Md_yields0_63 ?_
          refine m_istore C hl [(4, .int (iZ (v4 + 0))), (0, .ref (ad 83)), (1, .int (iZ v1)), (2, .int (iZ v2)), (3, .int (iZ v3)), (5, .int (iZ v5))] d_Md_yields0_64 (by decide) rfl (fun ls hl => ?_)
          refine m_iinc C hl 5 [(5, .int (iZ (v5 + 1))), (4, .int (iZ (v4 + 0))), (0, .ref (ad 83)), (1, .int (iZ v1)), (2, .int (iZ v2)), (3, .int (iZ v3))] d_Md_yields0_66 rfl (by decide) rfl (fun ls hl => ?_)
          refine m_goto C 11 d_Md_yields0_69 (by decide) ?_
          exact ih (v4 + 0) (v5 + 1) h4 _ _ w _ (lv_sub hl [2, 3, 4, 5, 1, 0] rfl) hM
        · refine m_aload_n C hl 0 d_Md_yields0_43 rfl rfl ?_
          refine m_getr C w.1 kc_Md sh_83 (Nat.le_of_ble_eq_true rfl) 16 89 rfl (by decide) fk_Md_29 d_Md_yields0_44 ?_
          refine m_iload_n C hl 2 d_Md_yields0_47 rfl rfl ?_
          refine m_iald C w.1 sh_89 (Nat.le_of_ble_eq_true rfl) (Nat.le_of_ble_eq_true rfl) hM d_Md_yields0_48 (fun x7 hM => ?_)
          refine m_aload_n C hl 0 d_Md_yields0_49 rfl rfl ?_
          refine m_getr C w.1 kc_Md sh_83 (Nat.le_of_ble_eq_true rfl) 16 89 rfl (by decide) fk_Md_29 d_Md_yields0_50 ?_
          refine m_iload_n C hl 1 d_Md_yields0_53 rfl rfl ?_
          refine m_iald C w.1 sh_89 (Nat.le_of_ble_eq_true rfl) (Nat.le_of_ble_eq_true rfl) hM d_Md_yields0_54 (fun x8 hM => ?_)
          refine m_icmp_ne C hM 62 d_Md_yields0_55 (by decide) (fun hM => ?_) (fun hM => ?_)
          · refine m_iconst C d_Md_yields0_62 ?_
            refine m_iadd C d_Md_yields0_63 ?_
            refine m_istore C hl [(4, .int (iZ (v4 + 0))), (0, .ref (ad 83)), (1, .int (iZ v1)), (2, .int (iZ v2)), (3, .int (iZ v3)), (5, .int (iZ v5))] d_Md_yields0_64 (by decide) rfl (fun ls hl => ?_)
            refine m_iinc C hl 5 [(5, .int (iZ (v5 + 1))), (4, .int (iZ (v4 + 0))), (0, .ref (ad 83)), (1, .int (iZ v1)), (2, .int (iZ v2)), (3, .int (iZ v3))] d_Md_yields0_66 rfl (by decide) rfl (fun ls hl => ?_)
            refine m_goto C 11 d_Md_yields0_69 (by decide) ?_
            exact ih (v4 + 0) (v5 + 1) h4 _ _ w _ (lv_sub hl [2, 3, 4, 5, 1, 0] rfl) hM
          · refine m_iconst C d_Md_yields0_58 ?_
            refine m_goto C 63 d_Md_yields0_59 (by decide) ?_
            refine m_iadd C d_Md_yields0_63 ?_
            refine m_istore C hl [(4, .int (iZ (v4 + 1))), (0, .ref (ad 83)), (1, .int (iZ v1)), (2, .int (iZ v2)), (3, .int (iZ v3)), (5, .int (iZ v5))] d_Md_yields0_64 (by decide) rfl (fun ls hl => ?_)
            refine m_iinc C hl 5 [(5, .int (iZ (v5 + 1))), (4, .int (iZ (v4 + 1))), (0, .ref (ad 83)), (1, .int (iZ v1)), (2, .int (iZ v2)), (3, .int (iZ v3))] d_Md_yields0_66 rfl (by decide) rfl (fun ls hl => ?_)
            refine m_goto C 11 d_Md_yields0_69 (by decide) ?_
            exact ih (v4 + 1) (v5 + 1) h4 _ _ w _ (lv_sub hl [2, 3, 4, 5, 1, 0] rfl) hM
set_option maxHeartbeats 4000000 in
set_option maxRecDepth 100000 in
theorem c_Md_yields0 {l : Launch} {D : va_G} {ad : Nat → Nat} {cA : Nat → ClassId} {sd sv : Nat → Nat} {h : Hp} {N : Nat} {a1 a2 : Int} {out : (Int × Hp)} (hI : Inj97 ad) (hM : M_Md_yields0 N h a1 a2 = some out) : Met l y_Md_yields0 (.code y_Md_yields0 prog_13_method_98_code 6 (some .int) :: TT) (rmD 8) (PC D ad cA sd sv h [.ref (ad 83), .int (iZ a1), .int (iZ a2)]) (QI D ad cA out) 0 0 (FA ad) := by
  unfold M_Md_yields0 at hM
  refine entM (by decide +kernel) hI (Nat.le_of_ble_eq_true rfl) ?_
  intro p e s m args below meth c C hr hlk hP ls hl
  have C : Cx p s m args c prog_13_method_98_code 6 "FeastBookModel" D ad cA sd sv (FA ad) := C
  have hl : lv_has ls 6 [(0, .ref (ad 83)), (1, .int (iZ a1)), (2, .int (iZ a2))] := hl
  have w : Wd s D ad cA (FA ad) h s.heap [] := ⟨hP, va_S.rf⟩
  refine m_aload_n C hl 0 d_Md_yields0_0 rfl rfl ?_
  obtain ⟨x2, e1, hM⟩ := bnd_some hM
  refine aftR (runV C w.1 w.2 kc_Md sh_83 (Nat.le_of_ble_eq_true rfl) (c_Md_cycle0 hI e1) lk_Md_326 mb_Md_cycle0 rfl ⟨Nat.le_of_ble_eq_true rfl, Nat.le_of_ble_eq_true rfl⟩ ⟨Nat.zero_le _, Nat.zero_le _⟩ (Nat.le_of_ble_eq_true rfl) d_Md_yields0_1 hl.1 (rest := []) rfl) ?_
  refine m_istore_n C hl [(3, .int (iZ x2)), (0, .ref (ad 83)), (1, .int (iZ a1)), (2, .int (iZ a2))] d_Md_yields0_4 rfl (by decide) rfl (fun ls hl => ?_)
  refine m_iconst C d_Md_yields0_5 ?_
  refine m_istore C hl [(4, .int (iZ 0)), (3, .int (iZ x2)), (0, .ref (ad 83)), (1, .int (iZ a1)), (2, .int (iZ a2))] d_Md_yields0_6 (by decide) rfl (fun ls hl => ?_)
  refine m_iconst C d_Md_yields0_8 ?_
  refine m_istore C hl [(5, .int (iZ 0)), (4, .int (iZ 0)), (3, .int (iZ x2)), (0, .ref (ad 83)), (1, .int (iZ a1)), (2, .int (iZ a2))] d_Md_yields0_9 (by decide) rfl (fun ls hl => ?_)
  exact w_Md_yields0_L11 N hI C hr hlk a1 a2 x2 _ 0 0 h _ _ w _ (lv_sub hl [3, 4, 5, 2, 1, 0] rfl) hM
def y_Md_yields : MethodName := ⟨"FeastBookModel", "yields", "(II)I"⟩
theorem d_Md_yields_0 : decode prog_13_method_97_code 0 = .ok (.aload_n 0, 1) := by decide +kernel
theorem d_Md_yields_1 : decode prog_13_method_97_code 1 = .ok (.aload_n 0, 1) := by decide +kernel
theorem d_Md_yields_2 : decode prog_13_method_97_code 2 = .ok (.iload_n 1, 1) := by decide +kernel
theorem d_Md_yields_3 : decode prog_13_method_97_code 3 = .ok (.invokevirtual 311, 3) := by decide +kernel
theorem d_Md_yields_6 : decode prog_13_method_97_code 6 = .ok (.ifCond .eq 11, 3) := by decide +kernel
theorem d_Md_yields_9 : decode prog_13_method_97_code 9 = .ok (.aload_n 0, 1) := by decide +kernel
theorem d_Md_yields_10 : decode prog_13_method_97_code 10 = .ok (.iload_n 2, 1) := by decide +kernel
theorem d_Md_yields_11 : decode prog_13_method_97_code 11 = .ok (.invokevirtual 311, 3) := by decide +kernel
theorem d_Md_yields_14 : decode prog_13_method_97_code 14 = .ok (.ifCond .ne 7, 3) := by decide +kernel
theorem d_Md_yields_17 : decode prog_13_method_97_code 17 = .ok (.iconst 1, 1) := by decide +kernel
theorem d_Md_yields_18 : decode prog_13_method_97_code 18 = .ok (.goto 13, 3) := by decide +kernel
theorem d_Md_yields_21 : decode prog_13_method_97_code 21 = .ok (.iload_n 1, 1) := by decide +kernel
theorem d_Md_yields_22 : decode prog_13_method_97_code 22 = .ok (.iload_n 2, 1) := by decide +kernel
theorem d_Md_yields_23 : decode prog_13_method_97_code 23 = .ok (.if_icmp .ne 7, 3) := by decide +kernel
theorem d_Md_yields_26 : decode prog_13_method_97_code 26 = .ok (.iconst 2, 1) := by decide +kernel
theorem d_Md_yields_27 : decode prog_13_method_97_code 27 = .ok (.goto 4, 3) := by decide +kernel
theorem d_Md_yields_30 : decode prog_13_method_97_code 30 = .ok (.iconst 0, 1) := by decide +kernel
theorem d_Md_yields_31 : decode prog_13_method_97_code 31 = .ok (.putfield 51, 3) := by decide +kernel
theorem d_Md_yields_34 : decode prog_13_method_97_code 34 = .ok (.aload_n 0, 1) := by decide +kernel
theorem d_Md_yields_35 : decode prog_13_method_97_code 35 = .ok (.getfield 51, 3) := by decide +kernel
theorem d_Md_yields_38 : decode prog_13_method_97_code 38 = .ok (.ifCond .le 7, 3) := by decide +kernel
theorem d_Md_yields_41 : decode prog_13_method_97_code 41 = .ok (.iconst 0, 1) := by decide +kernel
theorem d_Md_yields_42 : decode prog_13_method_97_code 42 = .ok (.goto 9, 3) := by decide +kernel
theorem d_Md_yields_45 : decode prog_13_method_97_code 45 = .ok (.aload_n 0, 1) := by decide +kernel
theorem d_Md_yields_46 : decode prog_13_method_97_code 46 = .ok (.iload_n 1, 1) := by decide +kernel
theorem d_Md_yields_47 : decode prog_13_method_97_code 47 = .ok (.iload_n 2, 1) := by decide +kernel
theorem d_Md_yields_48 : decode prog_13_method_97_code 48 = .ok (.invokevirtual 335, 3) := by decide +kernel
theorem d_Md_yields_51 : decode prog_13_method_97_code 51 = .ok (.ireturn, 1) := by decide +kernel
theorem mb_Md_yields0 : MBv R_Md y_Md_yields0 prog_13_method_98_code 6 (some .int) 2 := ⟨mT10 95 (by decide +kernel) (by decide +kernel), mTs 74 (by decide +kernel) (by decide +kernel), mT1 10 (by decide +kernel) (by decide +kernel), mT10 96 (by decide +kernel) (by decide +kernel), by decide, rfl, by decide +kernel, by decide +kernel, by decide +kernel⟩
theorem lk_Md_335 : Cond.methodLink "FeastBookModel" 335 y_Md_yields0 ∈ TT := mT10 93 (by decide +kernel) (by decide +kernel)
set_option maxHeartbeats 4000000 in
set_option maxRecDepth 100000 in
theorem c_Md_yields {l : Launch} {D : va_G} {ad : Nat → Nat} {cA : Nat → ClassId} {sd sv : Nat → Nat} {h : Hp} {N : Nat} {a1 a2 : Int} {out : (Int × Hp)} (hI : Inj97 ad) (hM : M_Md_yields N h a1 a2 = some out) : Met l y_Md_yields (.code y_Md_yields prog_13_method_97_code 3 (some .int) :: TT) (rmD 9) (PC D ad cA sd sv h [.ref (ad 83), .int (iZ a1), .int (iZ a2)]) (QI D ad cA out) 0 0 (FA ad) := by
  unfold M_Md_yields at hM
  refine entM (by decide +kernel) hI (Nat.le_of_ble_eq_true rfl) ?_
  intro p e s m args below meth c C hr hlk hP ls hl
  have C : Cx p s m args c prog_13_method_97_code 3 "FeastBookModel" D ad cA sd sv (FA ad) := C
  have hl : lv_has ls 3 [(0, .ref (ad 83)), (1, .int (iZ a1)), (2, .int (iZ a2))] := hl
  have w : Wd s D ad cA (FA ad) h s.heap [] := ⟨hP, va_S.rf⟩
  refine m_aload_n C hl 0 d_Md_yields_0 rfl rfl ?_
  refine m_aload_n C hl 0 d_Md_yields_1 rfl rfl ?_
  refine m_iload_n C hl 1 d_Md_yields_2 rfl rfl ?_
  obtain ⟨x2, e1, hM⟩ := bnd_some hM
  refine aftR (runV C w.1 w.2 kc_Md sh_83 (Nat.le_of_ble_eq_true rfl) (c_Md_isFeast hI e1) lk_Md_311 mb_Md_isFeast rfl ⟨Nat.le_of_ble_eq_true rfl, Nat.le_of_ble_eq_true rfl⟩ ⟨Nat.zero_le _, Nat.zero_le _⟩ (Nat.le_of_ble_eq_true rfl) d_Md_yields_3 hl.1 (rest := [.ref (ad 83)]) rfl) ?_
  refine lt_join hM (fun j11 ej hM => ?_)
  have hJ11 : j11  = some out → ∀ ls : Array Slot, lv_has ls 3 [(0, .ref (ad 83)), (1, .int (iZ a1)), (2, .int (iZ a2))] → W p l e (rmD 9) s m args below meth c s.heap [] 0 0 (MQ below (QI D ad cA out) args s 0 0 (FA ad)) (F0 m 17 ls [.ref (ad 83)]) := by
    intro  hM ls hl
    subst ej
    skip
    refine m_iconst C d_Md_yields_17 ?_
    refine m_goto C 31 d_Md_yields_18 (by decide) ?_
    refine m_puti C w kc_Md sh_83 (Nat.le_of_ble_eq_true rfl) 0 hM rfl (by decide) rfl rfl fk_Md_51 d_Md_yields_31 (fun h12 H locs w hM => ?_)
    refine m_aload_n C hl 0 d_Md_yields_34 rfl rfl ?_
    refine m_geti C w.1 kc_Md sh_83 (Nat.le_of_ble_eq_true rfl) 0 rfl (by decide) fk_Md_51 d_Md_yields_35 ?_
    refine m_if_le C hM 45 d_Md_yields_38 (by decide) (fun hM => ?_) (fun hM => ?_)
    · refine m_aload_n C hl 0 d_Md_yields_45 rfl rfl ?_
      refine m_iload_n C hl 1 d_Md_yields_46 rfl rfl ?_
      refine m_iload_n C hl 2 d_Md_yields_47 rfl rfl ?_
      obtain ⟨q14, e13, hM⟩ := bnd_some hM
      refine aftI C w (runV C w.1 w.2 kc_Md sh_83 (Nat.le_of_ble_eq_true rfl) (c_Md_yields0 hI e13) lk_Md_335 mb_Md_yields0 rfl ⟨Nat.le_of_ble_eq_true rfl, Nat.le_of_ble_eq_true rfl⟩ ⟨Nat.zero_le _, Nat.zero_le _⟩ (Nat.le_of_ble_eq_true rfl) d_Md_yields_48 hl.1 (rest := []) rfl) (fun H locs w => ?_)
      exact m_iretW C w hr hlk hM d_Md_yields_51
    · refine m_iconst C d_Md_yields_41 ?_
      refine m_goto C 51 d_Md_yields_42 (by decide) ?_
      exact m_iretW C w hr hlk hM d_Md_yields_51
  refine m_if_eq C hM 17 d_Md_yields_6 (by decide) (fun hM => ?_) (fun hM => ?_)
  · exact hJ11  hM _ hl
  · refine m_aload_n C hl 0 d_Md_yields_9 rfl rfl ?_
    refine m_iload_n C hl 2 d_Md_yields_10 rfl rfl ?_
    obtain ⟨x16, e15, hM⟩ := bnd_some hM
    refine aftR (runV C w.1 w.2 kc_Md sh_83 (Nat.le_of_ble_eq_true rfl) (c_Md_isFeast hI e15) lk_Md_311 mb_Md_isFeast rfl ⟨Nat.le_of_ble_eq_true rfl, Nat.le_of_ble_eq_true rfl⟩ ⟨Nat.zero_le _, Nat.zero_le _⟩ (Nat.le_of_ble_eq_true rfl) d_Md_yields_11 hl.1 (rest := [.ref (ad 83)]) rfl) ?_
    refine m_if_ne C hM 21 d_Md_yields_14 (by decide) (fun hM => ?_) (fun hM => ?_)
    · refine m_iload_n C hl 1 d_Md_yields_21 rfl rfl ?_
      refine m_iload_n C hl 2 d_Md_yields_22 rfl rfl ?_
      refine m_icmp_ne C hM 30 d_Md_yields_23 (by decide) (fun hM => ?_) (fun hM => ?_)
      · refine m_iconst C d_Md_yields_30 ?_
        refine m_puti C w kc_Md sh_83 (Nat.le_of_ble_eq_true rfl) 0 hM rfl (by decide) rfl rfl fk_Md_51 d_Md_yields_31 (fun h17 H locs w hM => ?_)
        refine m_aload_n C hl 0 d_Md_yields_34 rfl rfl ?_
        refine m_geti C w.1 kc_Md sh_83 (Nat.le_of_ble_eq_true rfl) 0 rfl (by decide) fk_Md_51 d_Md_yields_35 ?_
        refine m_if_le C hM 45 d_Md_yields_38 (by decide) (fun hM => ?_) (fun hM => ?_)
        · refine m_aload_n C hl 0 d_Md_yields_45 rfl rfl ?_
          refine m_iload_n C hl 1 d_Md_yields_46 rfl rfl ?_
          refine m_iload_n C hl 2 d_Md_yields_47 rfl rfl ?_
          obtain ⟨q19, e18, hM⟩ := bnd_some hM
          refine aftI C w (runV C w.1 w.2 kc_Md sh_83 (Nat.le_of_ble_eq_true rfl) (c_Md_yields0 hI e18) lk_Md_335 mb_Md_yields0 rfl ⟨Nat.le_of_ble_eq_true rfl, Nat.le_of_ble_eq_true rfl⟩ ⟨Nat.zero_le _, Nat.zero_le _⟩ (Nat.le_of_ble_eq_true rfl) d_Md_yields_48 hl.1 (rest := []) rfl) (fun H locs w => ?_)
          exact m_iretW C w hr hlk hM d_Md_yields_51
        · refine m_iconst C d_Md_yields_41 ?_
          refine m_goto C 51 d_Md_yields_42 (by decide) ?_
          exact m_iretW C w hr hlk hM d_Md_yields_51
      · refine m_iconst C d_Md_yields_26 ?_
        refine m_goto C 31 d_Md_yields_27 (by decide) ?_
        refine m_puti C w kc_Md sh_83 (Nat.le_of_ble_eq_true rfl) 0 hM rfl (by decide) rfl rfl fk_Md_51 d_Md_yields_31 (fun h20 H locs w hM => ?_)
        refine m_aload_n C hl 0 d_Md_yields_34 rfl rfl ?_
        refine m_geti C w.1 kc_Md sh_83 (Nat.le_of_ble_eq_true rfl) 0 rfl (by decide) fk_Md_51 d_Md_yields_35 ?_
        refine m_if_le C hM 45 d_Md_yields_38 (by decide) (fun hM => ?_) (fun hM => ?_)
        · refine m_aload_n C hl 0 d_Md_yields_45 rfl rfl ?_
          refine m_iload_n C hl 1 d_Md_yields_46 rfl rfl ?_
          refine m_iload_n C hl 2 d_Md_yields_47 rfl rfl ?_
          obtain ⟨q22, e21, hM⟩ := bnd_some hM
          refine aftI C w (runV C w.1 w.2 kc_Md sh_83 (Nat.le_of_ble_eq_true rfl) (c_Md_yields0 hI e21) lk_Md_335 mb_Md_yields0 rfl ⟨Nat.le_of_ble_eq_true rfl, Nat.le_of_ble_eq_true rfl⟩ ⟨Nat.zero_le _, Nat.zero_le _⟩ (Nat.le_of_ble_eq_true rfl) d_Md_yields_48 hl.1 (rest := []) rfl) (fun H locs w => ?_)
          exact m_iretW C w hr hlk hM d_Md_yields_51
        · refine m_iconst C d_Md_yields_41 ?_
          refine m_goto C 51 d_Md_yields_42 (by decide) ?_
          exact m_iretW C w hr hlk hM d_Md_yields_51
    · exact hJ11  hM _ hl
def y_Md_rival : MethodName := ⟨"FeastBookModel", "rival", "(I)I"⟩
theorem d_Md_rival_0 : decode prog_13_method_99_code 0 = .ok (.aload_n 0, 1) := by decide +kernel
theorem d_Md_rival_1 : decode prog_13_method_99_code 1 = .ok (.aload_n 0, 1) := by decide +kernel
theorem d_Md_rival_2 : decode prog_13_method_99_code 2 = .ok (.iload_n 1, 1) := by decide +kernel
theorem d_Md_rival_3 : decode prog_13_method_99_code 3 = .ok (.invokevirtual 311, 3) := by decide +kernel
theorem d_Md_rival_6 : decode prog_13_method_99_code 6 = .ok (.ifCond .eq 7, 3) := by decide +kernel
theorem d_Md_rival_9 : decode prog_13_method_99_code 9 = .ok (.iconst 0, 1) := by decide +kernel
theorem d_Md_rival_10 : decode prog_13_method_99_code 10 = .ok (.goto 4, 3) := by decide +kernel
theorem d_Md_rival_13 : decode prog_13_method_99_code 13 = .ok (.iconst 1, 1) := by decide +kernel
theorem d_Md_rival_14 : decode prog_13_method_99_code 14 = .ok (.putfield 51, 3) := by decide +kernel
theorem d_Md_rival_17 : decode prog_13_method_99_code 17 = .ok (.aload_n 0, 1) := by decide +kernel
theorem d_Md_rival_18 : decode prog_13_method_99_code 18 = .ok (.getfield 51, 3) := by decide +kernel
theorem d_Md_rival_21 : decode prog_13_method_99_code 21 = .ok (.ifCond .le 5, 3) := by decide +kernel
theorem d_Md_rival_24 : decode prog_13_method_99_code 24 = .ok (.iconst 0, 1) := by decide +kernel
theorem d_Md_rival_25 : decode prog_13_method_99_code 25 = .ok (.ireturn, 1) := by decide +kernel
theorem d_Md_rival_26 : decode prog_13_method_99_code 26 = .ok (.iconst (-1), 1) := by decide +kernel
theorem d_Md_rival_27 : decode prog_13_method_99_code 27 = .ok (.istore_n 2, 1) := by decide +kernel
theorem d_Md_rival_28 : decode prog_13_method_99_code 28 = .ok (.iconst 0, 1) := by decide +kernel
theorem d_Md_rival_29 : decode prog_13_method_99_code 29 = .ok (.istore_n 3, 1) := by decide +kernel
theorem d_Md_rival_30 : decode prog_13_method_99_code 30 = .ok (.iconst 0, 1) := by decide +kernel
theorem d_Md_rival_31 : decode prog_13_method_99_code 31 = .ok (.istore 4, 2) := by decide +kernel
theorem d_Md_rival_33 : decode prog_13_method_99_code 33 = .ok (.iload 4, 2) := by decide +kernel
theorem d_Md_rival_35 : decode prog_13_method_99_code 35 = .ok (.aload_n 0, 1) := by decide +kernel
theorem d_Md_rival_36 : decode prog_13_method_99_code 36 = .ok (.getfield 7, 3) := by decide +kernel
theorem d_Md_rival_39 : decode prog_13_method_99_code 39 = .ok (.bipush 42, 2) := by decide +kernel
theorem d_Md_rival_41 : decode prog_13_method_99_code 41 = .ok (.iaload, 1) := by decide +kernel
theorem d_Md_rival_42 : decode prog_13_method_99_code 42 = .ok (.if_icmp .ge 43, 3) := by decide +kernel
theorem d_Md_rival_45 : decode prog_13_method_99_code 45 = .ok (.iload 4, 2) := by decide +kernel
theorem d_Md_rival_47 : decode prog_13_method_99_code 47 = .ok (.iload_n 1, 1) := by decide +kernel
theorem d_Md_rival_48 : decode prog_13_method_99_code 48 = .ok (.if_icmp .ne 7, 3) := by decide +kernel
theorem d_Md_rival_51 : decode prog_13_method_99_code 51 = .ok (.iconst 0, 1) := by decide +kernel
theorem d_Md_rival_52 : decode prog_13_method_99_code 52 = .ok (.goto 10, 3) := by decide +kernel
theorem d_Md_rival_55 : decode prog_13_method_99_code 55 = .ok (.aload_n 0, 1) := by decide +kernel
theorem d_Md_rival_56 : decode prog_13_method_99_code 56 = .ok (.iload_n 1, 1) := by decide +kernel
theorem d_Md_rival_57 : decode prog_13_method_99_code 57 = .ok (.iload 4, 2) := by decide +kernel
theorem d_Md_rival_59 : decode prog_13_method_99_code 59 = .ok (.invokevirtual 335, 3) := by decide +kernel
theorem d_Md_rival_62 : decode prog_13_method_99_code 62 = .ok (.istore 5, 2) := by decide +kernel
theorem d_Md_rival_64 : decode prog_13_method_99_code 64 = .ok (.iload 5, 2) := by decide +kernel
theorem d_Md_rival_66 : decode prog_13_method_99_code 66 = .ok (.iload_n 3, 1) := by decide +kernel
theorem d_Md_rival_67 : decode prog_13_method_99_code 67 = .ok (.if_icmp .gt 6, 3) := by decide +kernel
theorem d_Md_rival_70 : decode prog_13_method_99_code 70 = .ok (.goto 9, 3) := by decide +kernel
theorem d_Md_rival_73 : decode prog_13_method_99_code 73 = .ok (.iload 4, 2) := by decide +kernel
theorem d_Md_rival_75 : decode prog_13_method_99_code 75 = .ok (.istore_n 2, 1) := by decide +kernel
theorem d_Md_rival_76 : decode prog_13_method_99_code 76 = .ok (.iload 5, 2) := by decide +kernel
theorem d_Md_rival_78 : decode prog_13_method_99_code 78 = .ok (.istore_n 3, 1) := by decide +kernel
theorem d_Md_rival_79 : decode prog_13_method_99_code 79 = .ok (.iinc 4 1, 3) := by decide +kernel
theorem d_Md_rival_82 : decode prog_13_method_99_code 82 = .ok (.goto (-49), 3) := by decide +kernel
theorem d_Md_rival_85 : decode prog_13_method_99_code 85 = .ok (.iload_n 2, 1) := by decide +kernel
theorem d_Md_rival_86 : decode prog_13_method_99_code 86 = .ok (.ireturn, 1) := by decide +kernel
set_option maxHeartbeats 4000000 in
set_option maxRecDepth 100000 in
theorem w_Md_rival_L33 {p : Program} {l : Launch} {e : Env} {s : State} {m : MethodId} {args : Array Value} {below : List Frame} {meth : Method} {c : Code} {D : va_G} {ad : Nat → Nat} {cA : Nat → ClassId} {sd sv : Nat → Nat} {out : (Int × Hp)} (N : Nat) (hI : Inj97 ad) (C : Cx p s m args c prog_13_method_99_code 6 "FeastBookModel" D ad cA sd sv (FA ad)) (hr : meth.sig.returnType = (some .int)) (hlk : meth.locks = false) (v1 : Int) : ∀ (n : Nat) (v2 v3 v4 : Int) (h : Hp) (H : Heap) (locs : List Loc), Wd s D ad cA (FA ad) h H locs → ∀ ls : Array Slot, lv_has ls 6 [(0, .ref (ad 83)), (1, .int (iZ v1)), (2, .int (iZ v2)), (3, .int (iZ v3)), (4, .int (iZ v4))] → Md_rival_L33 N v1 n v2 v3 v4 h = some out → W p l e (rmD 9) s m args below meth c H locs 0 0 (MQ below (QI D ad cA out) args s 0 0 (FA ad)) (F0 m 33 ls []) := by
  intro n
  induction n with
  | zero =>
    intro v2 v3 v4 h H locs w ls hl hM
    rw [Md_rival_L33] at hM
    cases hM
  | succ n ih =>
    intro v2 v3 v4 h H locs w ls hl hM
    rw [Md_rival_L33] at hM
    refine m_iload C hl 4 d_Md_rival_33 rfl ?_
    refine m_aload_n C hl 0 d_Md_rival_35 rfl rfl ?_
    refine m_getr C w.1 kc_Md sh_83 (Nat.le_of_ble_eq_true rfl) 1 84 rfl (by decide) fk_Md_7 d_Md_rival_36 ?_
    refine m_bipush C d_Md_rival_39 (by decide) ?_
    refine m_iald C w.1 sh_84 (Nat.le_of_ble_eq_true rfl) (Nat.le_of_ble_eq_true rfl) hM d_Md_rival_41 (fun x5 hM => ?_)
    refine m_icmp_ge C hM 85 d_Md_rival_42 (by decide) (fun hM => ?_) (fun hM => ?_)
    · refine m_iload_n C hl 2 d_Md_rival_85 rfl rfl ?_
      exact m_iretW C w hr hlk hM d_Md_rival_86
    · refine m_iload C hl 4 d_Md_rival_45 rfl ?_
      refine m_iload_n C hl 1 d_Md_rival_47 rfl rfl ?_
      refine m_icmp_ne C hM 55 d_Md_rival_48 (by decide) (fun hM => ?_) (fun hM => ?_)
      · refine m_aload_n C hl 0 d_Md_rival_55 rfl rfl ?_
        refine m_iload_n C hl 1 d_Md_rival_56 rfl rfl ?_
        refine m_iload C hl 4 d_Md_rival_57 rfl ?_
        obtain ⟨q7, e6, hM⟩ := bnd_some hM
        refine aftI C w (runV C w.1 w.2 kc_Md sh_83 (Nat.le_of_ble_eq_true rfl) (c_Md_yields0 hI e6) lk_Md_335 mb_Md_yields0 rfl ⟨Nat.le_of_ble_eq_true rfl, Nat.le_of_ble_eq_true rfl⟩ ⟨Nat.zero_le _, Nat.zero_le _⟩ (Nat.le_of_ble_eq_true rfl) d_Md_rival_59 hl.1 (rest := []) rfl) (fun H locs w => ?_)
        refine m_istore C hl [(5, .int (iZ q7.1)), (0, .ref (ad 83)), (1, .int (iZ v1)), (2, .int (iZ v2)), (3, .int (iZ v3)), (4, .int (iZ v4))] d_Md_rival_62 (by decide) rfl (fun ls hl => ?_)
        refine m_iload C hl 0 d_Md_rival_64 rfl ?_
        refine m_iload_n C hl 4 d_Md_rival_66 rfl rfl ?_
        refine m_icmp_gt C hM 73 d_Md_rival_67 (by decide) (fun hM => ?_) (fun hM => ?_)
        · refine m_iload C hl 5 d_Md_rival_73 rfl ?_
          refine m_istore_n C hl [(2, .int (iZ v4)), (5, .int (iZ q7.1)), (0, .ref (ad 83)), (1, .int (iZ v1)), (3, .int (iZ v3)), (4, .int (iZ v4))] d_Md_rival_75 rfl (by decide) rfl (fun ls hl => ?_)
          refine m_iload C hl 1 d_Md_rival_76 rfl ?_
          refine m_istore_n C hl [(3, .int (iZ q7.1)), (2, .int (iZ v4)), (5, .int (iZ q7.1)), (0, .ref (ad 83)), (1, .int (iZ v1)), (4, .int (iZ v4))] d_Md_rival_78 rfl (by decide) rfl (fun ls hl => ?_)
          refine m_iinc C hl 5 [(4, .int (iZ (v4 + 1))), (3, .int (iZ q7.1)), (2, .int (iZ v4)), (5, .int (iZ q7.1)), (0, .ref (ad 83)), (1, .int (iZ v1))] d_Md_rival_79 rfl (by decide) rfl (fun ls hl => ?_)
          refine m_goto C 33 d_Md_rival_82 (by decide) ?_
          exact ih v4 q7.1 (v4 + 1) q7.2 _ _ w _ (lv_sub hl [4, 5, 2, 1, 0] rfl) hM
        · refine m_goto C 79 d_Md_rival_70 (by decide) ?_
          refine m_iinc C hl 5 [(4, .int (iZ (v4 + 1))), (5, .int (iZ q7.1)), (0, .ref (ad 83)), (1, .int (iZ v1)), (2, .int (iZ v2)), (3, .int (iZ v3))] d_Md_rival_79 rfl (by decide) rfl (fun ls hl => ?_)
          refine m_goto C 33 d_Md_rival_82 (by decide) ?_
          exact ih v2 v3 (v4 + 1) q7.2 _ _ w _ (lv_sub hl [2, 3, 4, 5, 0] rfl) hM
      · refine m_iconst C d_Md_rival_51 ?_
        refine m_goto C 62 d_Md_rival_52 (by decide) ?_
        refine m_istore C hl [(5, .int (iZ 0)), (0, .ref (ad 83)), (1, .int (iZ v1)), (2, .int (iZ v2)), (3, .int (iZ v3)), (4, .int (iZ v4))] d_Md_rival_62 (by decide) rfl (fun ls hl => ?_)
        refine m_iload C hl 0 d_Md_rival_64 rfl ?_
        refine m_iload_n C hl 4 d_Md_rival_66 rfl rfl ?_
        refine m_icmp_gt C hM 73 d_Md_rival_67 (by decide) (fun hM => ?_) (fun hM => ?_)
        · refine m_iload C hl 5 d_Md_rival_73 rfl ?_
          refine m_istore_n C hl [(2, .int (iZ v4)), (5, .int (iZ 0)), (0, .ref (ad 83)), (1, .int (iZ v1)), (3, .int (iZ v3)), (4, .int (iZ v4))] d_Md_rival_75 rfl (by decide) rfl (fun ls hl => ?_)
          refine m_iload C hl 1 d_Md_rival_76 rfl ?_
          refine m_istore_n C hl [(3, .int (iZ 0)), (2, .int (iZ v4)), (5, .int (iZ 0)), (0, .ref (ad 83)), (1, .int (iZ v1)), (4, .int (iZ v4))] d_Md_rival_78 rfl (by decide) rfl (fun ls hl => ?_)
          refine m_iinc C hl 5 [(4, .int (iZ (v4 + 1))), (3, .int (iZ 0)), (2, .int (iZ v4)), (5, .int (iZ 0)), (0, .ref (ad 83)), (1, .int (iZ v1))] d_Md_rival_79 rfl (by decide) rfl (fun ls hl => ?_)
          refine m_goto C 33 d_Md_rival_82 (by decide) ?_
          exact ih v4 0 (v4 + 1) h _ _ w _ (lv_sub hl [4, 5, 2, 1, 0] rfl) hM
        · refine m_goto C 79 d_Md_rival_70 (by decide) ?_
          refine m_iinc C hl 5 [(4, .int (iZ (v4 + 1))), (5, .int (iZ 0)), (0, .ref (ad 83)), (1, .int (iZ v1)), (2, .int (iZ v2)), (3, .int (iZ v3))] d_Md_rival_79 rfl (by decide) rfl (fun ls hl => ?_)
          refine m_goto C 33 d_Md_rival_82 (by decide) ?_
          exact ih v2 v3 (v4 + 1) h _ _ w _ (lv_sub hl [2, 3, 4, 5, 0] rfl) hM
set_option maxHeartbeats 4000000 in
set_option maxRecDepth 100000 in
theorem c_Md_rival {l : Launch} {D : va_G} {ad : Nat → Nat} {cA : Nat → ClassId} {sd sv : Nat → Nat} {h : Hp} {N : Nat} {a1 : Int} {out : (Int × Hp)} (hI : Inj97 ad) (hM : M_Md_rival N h a1 = some out) : Met l y_Md_rival (.code y_Md_rival prog_13_method_99_code 6 (some .int) :: TT) (rmD 9) (PC D ad cA sd sv h [.ref (ad 83), .int (iZ a1)]) (QI D ad cA out) 0 0 (FA ad) := by
  unfold M_Md_rival at hM
  refine entM (by decide +kernel) hI (Nat.le_of_ble_eq_true rfl) ?_
  intro p e s m args below meth c C hr hlk hP ls hl
  have C : Cx p s m args c prog_13_method_99_code 6 "FeastBookModel" D ad cA sd sv (FA ad) := C
  have hl : lv_has ls 6 [(0, .ref (ad 83)), (1, .int (iZ a1))] := hl
  have w : Wd s D ad cA (FA ad) h s.heap [] := ⟨hP, va_S.rf⟩
  refine m_aload_n C hl 0 d_Md_rival_0 rfl rfl ?_
  refine m_aload_n C hl 0 d_Md_rival_1 rfl rfl ?_
  refine m_iload_n C hl 1 d_Md_rival_2 rfl rfl ?_
  obtain ⟨x2, e1, hM⟩ := bnd_some hM
  refine aftR (runV C w.1 w.2 kc_Md sh_83 (Nat.le_of_ble_eq_true rfl) (c_Md_isFeast hI e1) lk_Md_311 mb_Md_isFeast rfl ⟨Nat.le_of_ble_eq_true rfl, Nat.le_of_ble_eq_true rfl⟩ ⟨Nat.zero_le _, Nat.zero_le _⟩ (Nat.le_of_ble_eq_true rfl) d_Md_rival_3 hl.1 (rest := [.ref (ad 83)]) rfl) ?_
  refine lt_join hM (fun j3 ej hM => ?_)
  have hJ3 : ∀ (s0_3 : Int), j3 s0_3 = some out → ∀ ls : Array Slot, lv_has ls 6 [(0, .ref (ad 83)), (1, .int (iZ a1))] → W p l e (rmD 9) s m args below meth c s.heap [] 0 0 (MQ below (QI D ad cA out) args s 0 0 (FA ad)) (F0 m 14 ls [.int (iZ s0_3), .ref (ad 83)]) := by
    intro s0_3 hM ls hl
    subst ej
    dsimp only at hM
    refine m_puti C w kc_Md sh_83 (Nat.le_of_ble_eq_true rfl) 0 hM rfl (by decide) rfl rfl fk_Md_51 d_Md_rival_14 (fun h4 H locs w hM => ?_)
    refine m_aload_n C hl 0 d_Md_rival_17 rfl rfl ?_
    refine m_geti C w.1 kc_Md sh_83 (Nat.le_of_ble_eq_true rfl) 0 rfl (by decide) fk_Md_51 d_Md_rival_18 ?_
    refine m_if_le C hM 26 d_Md_rival_21 (by decide) (fun hM => ?_) (fun hM => ?_)
    · refine m_iconst C d_Md_rival_26 ?_
      refine m_istore_n C hl [(2, .int (iZ (-1))), (0, .ref (ad 83)), (1, .int (iZ a1))] d_Md_rival_27 rfl (by decide) rfl (fun ls hl => ?_)
      refine m_iconst C d_Md_rival_28 ?_
      refine m_istore_n C hl [(3, .int (iZ 0)), (2, .int (iZ (-1))), (0, .ref (ad 83)), (1, .int (iZ a1))] d_Md_rival_29 rfl (by decide) rfl (fun ls hl => ?_)
      refine m_iconst C d_Md_rival_30 ?_
      refine m_istore C hl [(4, .int (iZ 0)), (3, .int (iZ 0)), (2, .int (iZ (-1))), (0, .ref (ad 83)), (1, .int (iZ a1))] d_Md_rival_31 (by decide) rfl (fun ls hl => ?_)
      exact w_Md_rival_L33 N hI C hr hlk a1 _ (-1) 0 0 h4 _ _ w _ (lv_sub hl [3, 4, 2, 1, 0] rfl) hM
    · refine m_iconst C d_Md_rival_24 ?_
      exact m_iretW C w hr hlk hM d_Md_rival_25
  refine m_if_eq C hM 13 d_Md_rival_6 (by decide) (fun hM => ?_) (fun hM => ?_)
  · refine m_iconst C d_Md_rival_13 ?_
    exact hJ3 1 hM _ hl
  · refine m_iconst C d_Md_rival_9 ?_
    refine m_goto C 14 d_Md_rival_10 (by decide) ?_
    exact hJ3 0 hM _ hl
def y_Md_lull : MethodName := ⟨"FeastBookModel", "lull", "(I)I"⟩
theorem d_Md_lull_0 : decode prog_13_method_100_code 0 = .ok (.aload_n 0, 1) := by decide +kernel
theorem d_Md_lull_1 : decode prog_13_method_100_code 1 = .ok (.aload_n 0, 1) := by decide +kernel
theorem d_Md_lull_2 : decode prog_13_method_100_code 2 = .ok (.invokevirtual 58, 3) := by decide +kernel
theorem d_Md_lull_5 : decode prog_13_method_100_code 5 = .ok (.ifCond .ne 7, 3) := by decide +kernel
theorem d_Md_lull_8 : decode prog_13_method_100_code 8 = .ok (.iconst 1, 1) := by decide +kernel
theorem d_Md_lull_9 : decode prog_13_method_100_code 9 = .ok (.goto 18, 3) := by decide +kernel
theorem d_Md_lull_12 : decode prog_13_method_100_code 12 = .ok (.iload_n 1, 1) := by decide +kernel
theorem d_Md_lull_13 : decode prog_13_method_100_code 13 = .ok (.iconst 1, 1) := by decide +kernel
theorem d_Md_lull_14 : decode prog_13_method_100_code 14 = .ok (.bipush 60, 2) := by decide +kernel
theorem d_Md_lull_16 : decode prog_13_method_100_code 16 = .ok (.invokestatic 54, 3) := by decide +kernel
theorem d_Md_lull_19 : decode prog_13_method_100_code 19 = .ok (.ifCond .ne 7, 3) := by decide +kernel
theorem d_Md_lull_22 : decode prog_13_method_100_code 22 = .ok (.iconst 2, 1) := by decide +kernel
theorem d_Md_lull_23 : decode prog_13_method_100_code 23 = .ok (.goto 4, 3) := by decide +kernel
theorem d_Md_lull_26 : decode prog_13_method_100_code 26 = .ok (.iconst 0, 1) := by decide +kernel
theorem d_Md_lull_27 : decode prog_13_method_100_code 27 = .ok (.putfield 51, 3) := by decide +kernel
theorem d_Md_lull_30 : decode prog_13_method_100_code 30 = .ok (.aload_n 0, 1) := by decide +kernel
theorem d_Md_lull_31 : decode prog_13_method_100_code 31 = .ok (.getfield 51, 3) := by decide +kernel
theorem d_Md_lull_34 : decode prog_13_method_100_code 34 = .ok (.ifCond .le 5, 3) := by decide +kernel
theorem d_Md_lull_37 : decode prog_13_method_100_code 37 = .ok (.iconst 0, 1) := by decide +kernel
theorem d_Md_lull_38 : decode prog_13_method_100_code 38 = .ok (.ireturn, 1) := by decide +kernel
theorem d_Md_lull_39 : decode prog_13_method_100_code 39 = .ok (.aload_n 0, 1) := by decide +kernel
theorem d_Md_lull_40 : decode prog_13_method_100_code 40 = .ok (.invokevirtual 326, 3) := by decide +kernel
theorem d_Md_lull_43 : decode prog_13_method_100_code 43 = .ok (.istore_n 2, 1) := by decide +kernel
theorem d_Md_lull_44 : decode prog_13_method_100_code 44 = .ok (.iconst 0, 1) := by decide +kernel
theorem d_Md_lull_45 : decode prog_13_method_100_code 45 = .ok (.istore_n 3, 1) := by decide +kernel
theorem d_Md_lull_46 : decode prog_13_method_100_code 46 = .ok (.iload_n 3, 1) := by decide +kernel
theorem d_Md_lull_47 : decode prog_13_method_100_code 47 = .ok (.iload_n 2, 1) := by decide +kernel
theorem d_Md_lull_48 : decode prog_13_method_100_code 48 = .ok (.if_icmp .ge 25, 3) := by decide +kernel
theorem d_Md_lull_51 : decode prog_13_method_100_code 51 = .ok (.aload_n 0, 1) := by decide +kernel
theorem d_Md_lull_52 : decode prog_13_method_100_code 52 = .ok (.iload_n 3, 1) := by decide +kernel
theorem d_Md_lull_53 : decode prog_13_method_100_code 53 = .ok (.invokevirtual 283, 3) := by decide +kernel
theorem d_Md_lull_56 : decode prog_13_method_100_code 56 = .ok (.aload_n 0, 1) := by decide +kernel
theorem d_Md_lull_57 : decode prog_13_method_100_code 57 = .ok (.iconst 0, 1) := by decide +kernel
theorem d_Md_lull_58 : decode prog_13_method_100_code 58 = .ok (.invokevirtual 289, 3) := by decide +kernel
theorem d_Md_lull_61 : decode prog_13_method_100_code 61 = .ok (.iload_n 1, 1) := by decide +kernel
theorem d_Md_lull_62 : decode prog_13_method_100_code 62 = .ok (.if_icmp .lt 5, 3) := by decide +kernel
theorem d_Md_lull_65 : decode prog_13_method_100_code 65 = .ok (.iload_n 3, 1) := by decide +kernel
theorem d_Md_lull_66 : decode prog_13_method_100_code 66 = .ok (.ireturn, 1) := by decide +kernel
theorem d_Md_lull_67 : decode prog_13_method_100_code 67 = .ok (.iinc 3 1, 3) := by decide +kernel
theorem d_Md_lull_70 : decode prog_13_method_100_code 70 = .ok (.goto (-24), 3) := by decide +kernel
theorem d_Md_lull_73 : decode prog_13_method_100_code 73 = .ok (.iconst (-1), 1) := by decide +kernel
theorem d_Md_lull_74 : decode prog_13_method_100_code 74 = .ok (.ireturn, 1) := by decide +kernel
set_option maxHeartbeats 4000000 in
set_option maxRecDepth 100000 in
theorem w_Md_lull_L46 {p : Program} {l : Launch} {e : Env} {s : State} {m : MethodId} {args : Array Value} {below : List Frame} {meth : Method} {c : Code} {D : va_G} {ad : Nat → Nat} {cA : Nat → ClassId} {sd sv : Nat → Nat} {out : (Int × Hp)} (N : Nat) (hI : Inj97 ad) (C : Cx p s m args c prog_13_method_100_code 4 "FeastBookModel" D ad cA sd sv (FA ad)) (hr : meth.sig.returnType = (some .int)) (hlk : meth.locks = false) (v1 v2 : Int) : ∀ (n : Nat) (v3 : Int) (h : Hp) (H : Heap) (locs : List Loc), Wd s D ad cA (FA ad) h H locs → ∀ ls : Array Slot, lv_has ls 4 [(0, .ref (ad 83)), (1, .int (iZ v1)), (2, .int (iZ v2)), (3, .int (iZ v3))] → Md_lull_L46 N v1 v2 n v3 h = some out → W p l e (rmD 8) s m args below meth c H locs 0 0 (MQ below (QI D ad cA out) args s 0 0 (FA ad)) (F0 m 46 ls []) := by
  intro n
  induction n with
  | zero =>
    intro v3 h H locs w ls hl hM
    rw [Md_lull_L46] at hM
    cases hM
  | succ n ih =>
    intro v3 h H locs w ls hl hM
    rw [Md_lull_L46] at hM
    refine m_iload_n C hl 3 d_Md_lull_46 rfl rfl ?_
    refine m_iload_n C hl 2 d_Md_lull_47 rfl rfl ?_
    refine m_icmp_ge C hM 73 d_Md_lull_48 (by decide) (fun hM => ?_) (fun hM => ?_)
    · refine m_iconst C d_Md_lull_73 ?_
      exact m_iretW C w hr hlk hM d_Md_lull_74
    · refine m_aload_n C hl 0 d_Md_lull_51 rfl rfl ?_
      refine m_iload_n C hl 3 d_Md_lull_52 rfl rfl ?_
      obtain ⟨h10, e9, hM⟩ := bnd_some hM
      refine aftV C w (runV C w.1 w.2 kc_Md sh_83 (Nat.le_of_ble_eq_true rfl) (c_Md_resolves hI e9) lk_Md_283 mb_Md_resolves rfl ⟨Nat.le_of_ble_eq_true rfl, Nat.le_of_ble_eq_true rfl⟩ ⟨Nat.zero_le _, Nat.zero_le _⟩ (Nat.le_of_ble_eq_true rfl) d_Md_lull_53 hl.1 (rest := []) rfl) (fun H locs w => ?_)
      refine m_aload_n C hl 0 d_Md_lull_56 rfl rfl ?_
      refine m_iconst C d_Md_lull_57 ?_
      obtain ⟨q12, e11, hM⟩ := bnd_some hM
      refine aftI C w (runV C w.1 w.2 kc_Md sh_83 (Nat.le_of_ble_eq_true rfl) (c_Md_run hI e11) lk_Md_289 mb_Md_run rfl ⟨Nat.le_of_ble_eq_true rfl, Nat.le_of_ble_eq_true rfl⟩ ⟨Nat.zero_le _, Nat.zero_le _⟩ (Nat.le_of_ble_eq_true rfl) d_Md_lull_58 hl.1 (rest := []) rfl) (fun H locs w => ?_)
      refine m_iload_n C hl 1 d_Md_lull_61 rfl rfl ?_
      refine m_icmp_lt C hM 67 d_Md_lull_62 (by decide) (fun hM => ?_) (fun hM => ?_)
      · refine m_iinc C hl 3 [(3, .int (iZ (v3 + 1))), (0, .ref (ad 83)), (1, .int (iZ v1)), (2, .int (iZ v2))] d_Md_lull_67 rfl (by decide) rfl (fun ls hl => ?_)
        refine m_goto C 46 d_Md_lull_70 (by decide) ?_
        exact ih (v3 + 1) q12.2 _ _ w _ (lv_sub hl [1, 2, 3, 0] rfl) hM
      · refine m_iload_n C hl 3 d_Md_lull_65 rfl rfl ?_
        exact m_iretW C w hr hlk hM d_Md_lull_66
set_option maxHeartbeats 4000000 in
set_option maxRecDepth 100000 in
theorem c_Md_lull {l : Launch} {D : va_G} {ad : Nat → Nat} {cA : Nat → ClassId} {sd sv : Nat → Nat} {h : Hp} {N : Nat} {a1 : Int} {out : (Int × Hp)} (hI : Inj97 ad) (hM : M_Md_lull N h a1 = some out) : Met l y_Md_lull (.code y_Md_lull prog_13_method_100_code 4 (some .int) :: TT) (rmD 8) (PC D ad cA sd sv h [.ref (ad 83), .int (iZ a1)]) (QI D ad cA out) 0 0 (FA ad) := by
  unfold M_Md_lull at hM
  refine entM (by decide +kernel) hI (Nat.le_of_ble_eq_true rfl) ?_
  intro p e s m args below meth c C hr hlk hP ls hl
  have C : Cx p s m args c prog_13_method_100_code 4 "FeastBookModel" D ad cA sd sv (FA ad) := C
  have hl : lv_has ls 4 [(0, .ref (ad 83)), (1, .int (iZ a1))] := hl
  have w : Wd s D ad cA (FA ad) h s.heap [] := ⟨hP, va_S.rf⟩
  refine m_aload_n C hl 0 d_Md_lull_0 rfl rfl ?_
  refine m_aload_n C hl 0 d_Md_lull_1 rfl rfl ?_
  obtain ⟨x2, e1, hM⟩ := bnd_some hM
  refine aftR (runV C w.1 w.2 kc_Md sh_83 (Nat.le_of_ble_eq_true rfl) (c_Md_hasBook hI e1) lk_Md_58 mb_Md_hasBook rfl ⟨Nat.le_of_ble_eq_true rfl, Nat.le_of_ble_eq_true rfl⟩ ⟨Nat.zero_le _, Nat.zero_le _⟩ (Nat.le_of_ble_eq_true rfl) d_Md_lull_2 hl.1 (rest := [.ref (ad 83)]) rfl) ?_
  refine lt_join hM (fun j5 ej hM => ?_)
  have hJ5 : ∀ (s0_5 : Int), j5 s0_5 = some out → ∀ ls : Array Slot, lv_has ls 4 [(0, .ref (ad 83)), (1, .int (iZ a1))] → W p l e (rmD 8) s m args below meth c s.heap [] 0 0 (MQ below (QI D ad cA out) args s 0 0 (FA ad)) (F0 m 27 ls [.int (iZ s0_5), .ref (ad 83)]) := by
    intro s0_5 hM ls hl
    subst ej
    dsimp only at hM
    refine m_puti C w kc_Md sh_83 (Nat.le_of_ble_eq_true rfl) 0 hM rfl (by decide) rfl rfl fk_Md_51 d_Md_lull_27 (fun h6 H locs w hM => ?_)
    refine m_aload_n C hl 0 d_Md_lull_30 rfl rfl ?_
    refine m_geti C w.1 kc_Md sh_83 (Nat.le_of_ble_eq_true rfl) 0 rfl (by decide) fk_Md_51 d_Md_lull_31 ?_
    refine m_if_le C hM 39 d_Md_lull_34 (by decide) (fun hM => ?_) (fun hM => ?_)
    · refine m_aload_n C hl 0 d_Md_lull_39 rfl rfl ?_
      obtain ⟨x8, e7, hM⟩ := bnd_some hM
      refine aftR (runV C w.1 w.2 kc_Md sh_83 (Nat.le_of_ble_eq_true rfl) (c_Md_cycle0 hI e7) lk_Md_326 mb_Md_cycle0 rfl ⟨Nat.le_of_ble_eq_true rfl, Nat.le_of_ble_eq_true rfl⟩ ⟨Nat.zero_le _, Nat.zero_le _⟩ (Nat.le_of_ble_eq_true rfl) d_Md_lull_40 hl.1 (rest := []) rfl) ?_
      refine m_istore_n C hl [(2, .int (iZ x8)), (0, .ref (ad 83)), (1, .int (iZ a1))] d_Md_lull_43 rfl (by decide) rfl (fun ls hl => ?_)
      refine m_iconst C d_Md_lull_44 ?_
      refine m_istore_n C hl [(3, .int (iZ 0)), (2, .int (iZ x8)), (0, .ref (ad 83)), (1, .int (iZ a1))] d_Md_lull_45 rfl (by decide) rfl (fun ls hl => ?_)
      exact w_Md_lull_L46 N hI C hr hlk a1 x8 _ 0 h6 _ _ w _ (lv_sub hl [2, 3, 1, 0] rfl) hM
    · refine m_iconst C d_Md_lull_37 ?_
      exact m_iretW C w hr hlk hM d_Md_lull_38
  refine m_if_ne C hM 12 d_Md_lull_5 (by decide) (fun hM => ?_) (fun hM => ?_)
  · refine m_iload_n C hl 1 d_Md_lull_12 rfl rfl ?_
    refine m_iconst C d_Md_lull_13 ?_
    refine m_bipush C d_Md_lull_14 (by decide) ?_
    obtain ⟨x14, e13, hM⟩ := bnd_some hM
    refine aftR (runS C w.1 w.2 (c_Md_isIn hI e13) lk_Md_54 mb_Md_isIn rfl ⟨Nat.le_of_ble_eq_true rfl, Nat.le_of_ble_eq_true rfl⟩ ⟨Nat.zero_le _, Nat.zero_le _⟩ (Nat.le_of_ble_eq_true rfl) d_Md_lull_16 hl.1 (rest := [.ref (ad 83)]) rfl) ?_
    refine m_if_ne C hM 26 d_Md_lull_19 (by decide) (fun hM => ?_) (fun hM => ?_)
    · refine m_iconst C d_Md_lull_26 ?_
      exact hJ5 0 hM _ hl
    · refine m_iconst C d_Md_lull_22 ?_
      refine m_goto C 27 d_Md_lull_23 (by decide) ?_
      exact hJ5 2 hM _ hl
  · refine m_iconst C d_Md_lull_8 ?_
    refine m_goto C 27 d_Md_lull_9 (by decide) ?_
    exact hJ5 1 hM _ hl
def y_Md_tally : MethodName := ⟨"FeastBookModel", "tally", "(II)I"⟩
theorem d_Md_tally_0 : decode prog_13_method_101_code 0 = .ok (.aload_n 0, 1) := by decide +kernel
theorem d_Md_tally_1 : decode prog_13_method_101_code 1 = .ok (.aload_n 0, 1) := by decide +kernel
theorem d_Md_tally_2 : decode prog_13_method_101_code 2 = .ok (.iload_n 1, 1) := by decide +kernel
theorem d_Md_tally_3 : decode prog_13_method_101_code 3 = .ok (.invokevirtual 280, 3) := by decide +kernel
theorem d_Md_tally_6 : decode prog_13_method_101_code 6 = .ok (.ifCond .ne 7, 3) := by decide +kernel
theorem d_Md_tally_9 : decode prog_13_method_101_code 9 = .ok (.iconst 1, 1) := by decide +kernel
theorem d_Md_tally_10 : decode prog_13_method_101_code 10 = .ok (.goto 17, 3) := by decide +kernel
theorem d_Md_tally_13 : decode prog_13_method_101_code 13 = .ok (.iload_n 2, 1) := by decide +kernel
theorem d_Md_tally_14 : decode prog_13_method_101_code 14 = .ok (.iconst 0, 1) := by decide +kernel
theorem d_Md_tally_15 : decode prog_13_method_101_code 15 = .ok (.iconst 5, 1) := by decide +kernel
theorem d_Md_tally_16 : decode prog_13_method_101_code 16 = .ok (.invokestatic 54, 3) := by decide +kernel
theorem d_Md_tally_19 : decode prog_13_method_101_code 19 = .ok (.ifCond .ne 7, 3) := by decide +kernel
theorem d_Md_tally_22 : decode prog_13_method_101_code 22 = .ok (.iconst 2, 1) := by decide +kernel
theorem d_Md_tally_23 : decode prog_13_method_101_code 23 = .ok (.goto 4, 3) := by decide +kernel
theorem d_Md_tally_26 : decode prog_13_method_101_code 26 = .ok (.iconst 0, 1) := by decide +kernel
theorem d_Md_tally_27 : decode prog_13_method_101_code 27 = .ok (.putfield 51, 3) := by decide +kernel
theorem d_Md_tally_30 : decode prog_13_method_101_code 30 = .ok (.aload_n 0, 1) := by decide +kernel
theorem d_Md_tally_31 : decode prog_13_method_101_code 31 = .ok (.getfield 51, 3) := by decide +kernel
theorem d_Md_tally_34 : decode prog_13_method_101_code 34 = .ok (.ifCond .le 5, 3) := by decide +kernel
theorem d_Md_tally_37 : decode prog_13_method_101_code 37 = .ok (.iconst 0, 1) := by decide +kernel
theorem d_Md_tally_38 : decode prog_13_method_101_code 38 = .ok (.ireturn, 1) := by decide +kernel
theorem d_Md_tally_39 : decode prog_13_method_101_code 39 = .ok (.aload_n 0, 1) := by decide +kernel
theorem d_Md_tally_40 : decode prog_13_method_101_code 40 = .ok (.iload_n 1, 1) := by decide +kernel
theorem d_Md_tally_41 : decode prog_13_method_101_code 41 = .ok (.invokevirtual 283, 3) := by decide +kernel
theorem d_Md_tally_44 : decode prog_13_method_101_code 44 = .ok (.iconst 0, 1) := by decide +kernel
theorem d_Md_tally_45 : decode prog_13_method_101_code 45 = .ok (.istore_n 3, 1) := by decide +kernel
theorem d_Md_tally_46 : decode prog_13_method_101_code 46 = .ok (.iconst 0, 1) := by decide +kernel
theorem d_Md_tally_47 : decode prog_13_method_101_code 47 = .ok (.istore 4, 2) := by decide +kernel
theorem d_Md_tally_49 : decode prog_13_method_101_code 49 = .ok (.iload 4, 2) := by decide +kernel
theorem d_Md_tally_51 : decode prog_13_method_101_code 51 = .ok (.aload_n 0, 1) := by decide +kernel
theorem d_Md_tally_52 : decode prog_13_method_101_code 52 = .ok (.getfield 7, 3) := by decide +kernel
theorem d_Md_tally_55 : decode prog_13_method_101_code 55 = .ok (.bipush 42, 2) := by decide +kernel
theorem d_Md_tally_57 : decode prog_13_method_101_code 57 = .ok (.iaload, 1) := by decide +kernel
theorem d_Md_tally_58 : decode prog_13_method_101_code 58 = .ok (.if_icmp .ge 28, 3) := by decide +kernel
theorem d_Md_tally_61 : decode prog_13_method_101_code 61 = .ok (.iload_n 3, 1) := by decide +kernel
theorem d_Md_tally_62 : decode prog_13_method_101_code 62 = .ok (.aload_n 0, 1) := by decide +kernel
theorem d_Md_tally_63 : decode prog_13_method_101_code 63 = .ok (.getfield 35, 3) := by decide +kernel
theorem d_Md_tally_66 : decode prog_13_method_101_code 66 = .ok (.iload 4, 2) := by decide +kernel
theorem d_Md_tally_68 : decode prog_13_method_101_code 68 = .ok (.iaload, 1) := by decide +kernel
theorem d_Md_tally_69 : decode prog_13_method_101_code 69 = .ok (.iload_n 2, 1) := by decide +kernel
theorem d_Md_tally_70 : decode prog_13_method_101_code 70 = .ok (.if_icmp .ne 7, 3) := by decide +kernel
theorem d_Md_tally_73 : decode prog_13_method_101_code 73 = .ok (.iconst 1, 1) := by decide +kernel
theorem d_Md_tally_74 : decode prog_13_method_101_code 74 = .ok (.goto 4, 3) := by decide +kernel
theorem d_Md_tally_77 : decode prog_13_method_101_code 77 = .ok (.iconst 0, 1) := by decide +kernel
theorem d_Md_tally_78 : decode prog_13_method_101_code 78 = .ok (.iadd, 1) := by decide +kernel
theorem d_Md_tally_79 : decode prog_13_method_101_code 79 = .ok (.istore_n 3, 1) := by decide +kernel
theorem d_Md_tally_80 : decode prog_13_method_101_code 80 = .ok (.iinc 4 1, 3) := by decide +kernel
theorem d_Md_tally_83 : decode prog_13_method_101_code 83 = .ok (.goto (-34), 3) := by decide +kernel
theorem d_Md_tally_86 : decode prog_13_method_101_code 86 = .ok (.iload_n 3, 1) := by decide +kernel
theorem d_Md_tally_87 : decode prog_13_method_101_code 87 = .ok (.ireturn, 1) := by decide +kernel
set_option maxHeartbeats 4000000 in
set_option maxRecDepth 100000 in
theorem w_Md_tally_L49 {p : Program} {l : Launch} {e : Env} {s : State} {m : MethodId} {args : Array Value} {below : List Frame} {meth : Method} {c : Code} {D : va_G} {ad : Nat → Nat} {cA : Nat → ClassId} {sd sv : Nat → Nat} {out : (Int × Hp)} (N : Nat) (hI : Inj97 ad) (C : Cx p s m args c prog_13_method_101_code 5 "FeastBookModel" D ad cA sd sv (FA ad)) (hr : meth.sig.returnType = (some .int)) (hlk : meth.locks = false) (v1 v2 : Int) (h : Hp) (H : Heap) (locs : List Loc) (w : Wd s D ad cA (FA ad) h H locs) : ∀ (n : Nat) (v3 v4 : Int), ∀ ls : Array Slot, lv_has ls 5 [(0, .ref (ad 83)), (1, .int (iZ v1)), (2, .int (iZ v2)), (3, .int (iZ v3)), (4, .int (iZ v4))] → Md_tally_L49 N h v2 n v3 v4 = some out → W p l e (rmD 8) s m args below meth c H locs 0 0 (MQ below (QI D ad cA out) args s 0 0 (FA ad)) (F0 m 49 ls []) := by
  intro n
  induction n with
  | zero =>
    intro v3 v4 ls hl hM
    rw [Md_tally_L49] at hM
    cases hM
  | succ n ih =>
    intro v3 v4 ls hl hM
    rw [Md_tally_L49] at hM
    refine m_iload C hl 4 d_Md_tally_49 rfl ?_
    refine m_aload_n C hl 0 d_Md_tally_51 rfl rfl ?_
    refine m_getr C w.1 kc_Md sh_83 (Nat.le_of_ble_eq_true rfl) 1 84 rfl (by decide) fk_Md_7 d_Md_tally_52 ?_
    refine m_bipush C d_Md_tally_55 (by decide) ?_
    refine m_iald C w.1 sh_84 (Nat.le_of_ble_eq_true rfl) (Nat.le_of_ble_eq_true rfl) hM d_Md_tally_57 (fun x9 hM => ?_)
    refine m_icmp_ge C hM 86 d_Md_tally_58 (by decide) (fun hM => ?_) (fun hM => ?_)
    · refine m_iload_n C hl 3 d_Md_tally_86 rfl rfl ?_
      exact m_iretW C w hr hlk hM d_Md_tally_87
    · refine m_iload_n C hl 3 d_Md_tally_61 rfl rfl ?_
      refine m_aload_n C hl 0 d_Md_tally_62 rfl rfl ?_
      refine m_getr C w.1 kc_Md sh_83 (Nat.le_of_ble_eq_true rfl) 18 91 rfl (by decide) fk_Md_35 d_Md_tally_63 ?_
      refine m_iload C hl 4 d_Md_tally_66 rfl ?_
      refine m_iald C w.1 sh_91 (Nat.le_of_ble_eq_true rfl) (Nat.le_of_ble_eq_true rfl) hM d_Md_tally_68 (fun x10 hM => ?_)
      refine m_iload_n C hl 2 d_Md_tally_69 rfl rfl ?_
      refine m_icmp_ne C hM 77 d_Md_tally_70 (by decide) (fun hM => ?_) (fun hM => ?_)
      · refine m_iconst C d_Md_tally_77 ?_
        refine m_iadd C d_Md_tally_78 ?_
        refine m_istore_n C hl [(3, .int (iZ (v3 + 0))), (0, .ref (ad 83)), (1, .int (iZ v1)), (2, .int (iZ v2)), (4, .int (iZ v4))] d_Md_tally_79 rfl (by decide) rfl (fun ls hl => ?_)
        refine m_iinc C hl 4 [(4, .int (iZ (v4 + 1))), (3, .int (iZ (v3 + 0))), (0, .ref (ad 83)), (1, .int (iZ v1)), (2, .int (iZ v2))] d_Md_tally_80 rfl (by decide) rfl (fun ls hl => ?_)
        refine m_goto C 49 d_Md_tally_83 (by decide) ?_
        exact ih (v3 + 0) (v4 + 1) _ (lv_sub hl [2, 3, 4, 1, 0] rfl) hM
      · refine m_iconst C d_Md_tally_73 ?_
        refine m_goto C 78 d_Md_tally_74 (by decide) ?_
        refine m_iadd C d_Md_tally_78 ?_
        refine m_istore_n C hl [(3, .int (iZ (v3 + 1))), (0, .ref (ad 83)), (1, .int (iZ v1)), (2, .int (iZ v2)), (4, .int (iZ v4))] d_Md_tally_79 rfl (by decide) rfl (fun ls hl => ?_)
        refine m_iinc C hl 4 [(4, .int (iZ (v4 + 1))), (3, .int (iZ (v3 + 1))), (0, .ref (ad 83)), (1, .int (iZ v1)), (2, .int (iZ v2))] d_Md_tally_80 rfl (by decide) rfl (fun ls hl => ?_)
        refine m_goto C 49 d_Md_tally_83 (by decide) ?_
        exact ih (v3 + 1) (v4 + 1) _ (lv_sub hl [2, 3, 4, 1, 0] rfl) hM
set_option maxHeartbeats 4000000 in
set_option maxRecDepth 100000 in
theorem c_Md_tally {l : Launch} {D : va_G} {ad : Nat → Nat} {cA : Nat → ClassId} {sd sv : Nat → Nat} {h : Hp} {N : Nat} {a1 a2 : Int} {out : (Int × Hp)} (hI : Inj97 ad) (hM : M_Md_tally N h a1 a2 = some out) : Met l y_Md_tally (.code y_Md_tally prog_13_method_101_code 5 (some .int) :: TT) (rmD 8) (PC D ad cA sd sv h [.ref (ad 83), .int (iZ a1), .int (iZ a2)]) (QI D ad cA out) 0 0 (FA ad) := by
  unfold M_Md_tally at hM
  refine entM (by decide +kernel) hI (Nat.le_of_ble_eq_true rfl) ?_
  intro p e s m args below meth c C hr hlk hP ls hl
  have C : Cx p s m args c prog_13_method_101_code 5 "FeastBookModel" D ad cA sd sv (FA ad) := C
  have hl : lv_has ls 5 [(0, .ref (ad 83)), (1, .int (iZ a1)), (2, .int (iZ a2))] := hl
  have w : Wd s D ad cA (FA ad) h s.heap [] := ⟨hP, va_S.rf⟩
  refine m_aload_n C hl 0 d_Md_tally_0 rfl rfl ?_
  refine m_aload_n C hl 0 d_Md_tally_1 rfl rfl ?_
  refine m_iload_n C hl 1 d_Md_tally_2 rfl rfl ?_
  obtain ⟨x2, e1, hM⟩ := bnd_some hM
  refine aftR (runV C w.1 w.2 kc_Md sh_83 (Nat.le_of_ble_eq_true rfl) (c_Md_isYear hI e1) lk_Md_280 mb_Md_isYear rfl ⟨Nat.le_of_ble_eq_true rfl, Nat.le_of_ble_eq_true rfl⟩ ⟨Nat.zero_le _, Nat.zero_le _⟩ (Nat.le_of_ble_eq_true rfl) d_Md_tally_3 hl.1 (rest := [.ref (ad 83)]) rfl) ?_
  refine lt_join hM (fun j5 ej hM => ?_)
  have hJ5 : ∀ (s0_5 : Int), j5 s0_5 = some out → ∀ ls : Array Slot, lv_has ls 5 [(0, .ref (ad 83)), (1, .int (iZ a1)), (2, .int (iZ a2))] → W p l e (rmD 8) s m args below meth c s.heap [] 0 0 (MQ below (QI D ad cA out) args s 0 0 (FA ad)) (F0 m 27 ls [.int (iZ s0_5), .ref (ad 83)]) := by
    intro s0_5 hM ls hl
    subst ej
    dsimp only at hM
    refine m_puti C w kc_Md sh_83 (Nat.le_of_ble_eq_true rfl) 0 hM rfl (by decide) rfl rfl fk_Md_51 d_Md_tally_27 (fun h6 H locs w hM => ?_)
    refine m_aload_n C hl 0 d_Md_tally_30 rfl rfl ?_
    refine m_geti C w.1 kc_Md sh_83 (Nat.le_of_ble_eq_true rfl) 0 rfl (by decide) fk_Md_51 d_Md_tally_31 ?_
    refine m_if_le C hM 39 d_Md_tally_34 (by decide) (fun hM => ?_) (fun hM => ?_)
    · refine m_aload_n C hl 0 d_Md_tally_39 rfl rfl ?_
      refine m_iload_n C hl 1 d_Md_tally_40 rfl rfl ?_
      obtain ⟨h8, e7, hM⟩ := bnd_some hM
      refine aftV C w (runV C w.1 w.2 kc_Md sh_83 (Nat.le_of_ble_eq_true rfl) (c_Md_resolves hI e7) lk_Md_283 mb_Md_resolves rfl ⟨Nat.le_of_ble_eq_true rfl, Nat.le_of_ble_eq_true rfl⟩ ⟨Nat.zero_le _, Nat.zero_le _⟩ (Nat.le_of_ble_eq_true rfl) d_Md_tally_41 hl.1 (rest := []) rfl) (fun H locs w => ?_)
      refine m_iconst C d_Md_tally_44 ?_
      refine m_istore_n C hl [(3, .int (iZ 0)), (0, .ref (ad 83)), (1, .int (iZ a1)), (2, .int (iZ a2))] d_Md_tally_45 rfl (by decide) rfl (fun ls hl => ?_)
      refine m_iconst C d_Md_tally_46 ?_
      refine m_istore C hl [(4, .int (iZ 0)), (3, .int (iZ 0)), (0, .ref (ad 83)), (1, .int (iZ a1)), (2, .int (iZ a2))] d_Md_tally_47 (by decide) rfl (fun ls hl => ?_)
      exact w_Md_tally_L49 N hI C hr hlk a1 a2 h8 _ _ w _ 0 0 _ (lv_sub hl [2, 3, 4, 1, 0] rfl) hM
    · refine m_iconst C d_Md_tally_37 ?_
      exact m_iretW C w hr hlk hM d_Md_tally_38
  refine m_if_ne C hM 13 d_Md_tally_6 (by decide) (fun hM => ?_) (fun hM => ?_)
  · refine m_iload_n C hl 2 d_Md_tally_13 rfl rfl ?_
    refine m_iconst C d_Md_tally_14 ?_
    refine m_iconst C d_Md_tally_15 ?_
    obtain ⟨x12, e11, hM⟩ := bnd_some hM
    refine aftR (runS C w.1 w.2 (c_Md_isIn hI e11) lk_Md_54 mb_Md_isIn rfl ⟨Nat.le_of_ble_eq_true rfl, Nat.le_of_ble_eq_true rfl⟩ ⟨Nat.zero_le _, Nat.zero_le _⟩ (Nat.le_of_ble_eq_true rfl) d_Md_tally_16 hl.1 (rest := [.ref (ad 83)]) rfl) ?_
    refine m_if_ne C hM 26 d_Md_tally_19 (by decide) (fun hM => ?_) (fun hM => ?_)
    · refine m_iconst C d_Md_tally_26 ?_
      exact hJ5 0 hM _ hl
    · refine m_iconst C d_Md_tally_22 ?_
      refine m_goto C 27 d_Md_tally_23 (by decide) ?_
      exact hJ5 2 hM _ hl
  · refine m_iconst C d_Md_tally_9 ?_
    refine m_goto C 27 d_Md_tally_10 (by decide) ?_
    exact hJ5 1 hM _ hl
def y_Md_lessons : MethodName := ⟨"FeastBookModel", "lessons", "(II)I"⟩
theorem d_Md_lessons_0 : decode prog_13_method_102_code 0 = .ok (.iconst 0, 1) := by decide +kernel
theorem d_Md_lessons_1 : decode prog_13_method_102_code 1 = .ok (.istore_n 3, 1) := by decide +kernel
theorem d_Md_lessons_2 : decode prog_13_method_102_code 2 = .ok (.iload_n 1, 1) := by decide +kernel
theorem d_Md_lessons_3 : decode prog_13_method_102_code 3 = .ok (.istore 4, 2) := by decide +kernel
theorem d_Md_lessons_5 : decode prog_13_method_102_code 5 = .ok (.iload 4, 2) := by decide +kernel
theorem d_Md_lessons_7 : decode prog_13_method_102_code 7 = .ok (.iload_n 2, 1) := by decide +kernel
theorem d_Md_lessons_8 : decode prog_13_method_102_code 8 = .ok (.if_icmp .ge 26, 3) := by decide +kernel
theorem d_Md_lessons_11 : decode prog_13_method_102_code 11 = .ok (.iload_n 3, 1) := by decide +kernel
theorem d_Md_lessons_12 : decode prog_13_method_102_code 12 = .ok (.aload_n 0, 1) := by decide +kernel
theorem d_Md_lessons_13 : decode prog_13_method_102_code 13 = .ok (.iload 4, 2) := by decide +kernel
theorem d_Md_lessons_15 : decode prog_13_method_102_code 15 = .ok (.invokevirtual 271, 3) := by decide +kernel
theorem d_Md_lessons_18 : decode prog_13_method_102_code 18 = .ok (.ifCond .eq 7, 3) := by decide +kernel
theorem d_Md_lessons_21 : decode prog_13_method_102_code 21 = .ok (.iconst 1, 1) := by decide +kernel
theorem d_Md_lessons_22 : decode prog_13_method_102_code 22 = .ok (.goto 4, 3) := by decide +kernel
theorem d_Md_lessons_25 : decode prog_13_method_102_code 25 = .ok (.iconst 0, 1) := by decide +kernel
theorem d_Md_lessons_26 : decode prog_13_method_102_code 26 = .ok (.iadd, 1) := by decide +kernel
theorem d_Md_lessons_27 : decode prog_13_method_102_code 27 = .ok (.istore_n 3, 1) := by decide +kernel
theorem d_Md_lessons_28 : decode prog_13_method_102_code 28 = .ok (.iinc 4 1, 3) := by decide +kernel
theorem d_Md_lessons_31 : decode prog_13_method_102_code 31 = .ok (.goto (-26), 3) := by decide +kernel
theorem d_Md_lessons_34 : decode prog_13_method_102_code 34 = .ok (.iload_n 3, 1) := by decide +kernel
theorem d_Md_lessons_35 : decode prog_13_method_102_code 35 = .ok (.ireturn, 1) := by decide +kernel
set_option maxHeartbeats 4000000 in
set_option maxRecDepth 100000 in
theorem w_Md_lessons_L5 {p : Program} {l : Launch} {e : Env} {s : State} {m : MethodId} {args : Array Value} {below : List Frame} {meth : Method} {c : Code} {D : va_G} {ad : Nat → Nat} {cA : Nat → ClassId} {sd sv : Nat → Nat} {out : (Int × Hp)} (N : Nat) (hI : Inj97 ad) (C : Cx p s m args c prog_13_method_102_code 5 "FeastBookModel" D ad cA sd sv (FA ad)) (hr : meth.sig.returnType = (some .int)) (hlk : meth.locks = false) (v1 v2 : Int) : ∀ (n : Nat) (v3 v4 : Int) (h : Hp) (H : Heap) (locs : List Loc), Wd s D ad cA (FA ad) h H locs → ∀ ls : Array Slot, lv_has ls 5 [(0, .ref (ad 83)), (1, .int (iZ v1)), (2, .int (iZ v2)), (3, .int (iZ v3)), (4, .int (iZ v4))] → Md_lessons_L5 N v2 n v3 v4 h = some out → W p l e (rmD 5) s m args below meth c H locs 0 0 (MQ below (QI D ad cA out) args s 0 0 (FA ad)) (F0 m 5 ls []) := by
  intro n
  induction n with
  | zero =>
    intro v3 v4 h H locs w ls hl hM
    rw [Md_lessons_L5] at hM
    cases hM
  | succ n ih =>
    intro v3 v4 h H locs w ls hl hM
    rw [Md_lessons_L5] at hM
    refine m_iload C hl 4 d_Md_lessons_5 rfl ?_
    refine m_iload_n C hl 2 d_Md_lessons_7 rfl rfl ?_
    refine m_icmp_ge C hM 34 d_Md_lessons_8 (by decide) (fun hM => ?_) (fun hM => ?_)
    · refine m_iload_n C hl 3 d_Md_lessons_34 rfl rfl ?_
      exact m_iretW C w hr hlk hM d_Md_lessons_35
    · refine m_iload_n C hl 3 d_Md_lessons_11 rfl rfl ?_
      refine m_aload_n C hl 0 d_Md_lessons_12 rfl rfl ?_
      refine m_iload C hl 4 d_Md_lessons_13 rfl ?_
      obtain ⟨q2, e1, hM⟩ := bnd_some hM
      refine aftI C w (runV C w.1 w.2 kc_Md sh_83 (Nat.le_of_ble_eq_true rfl) (c_Md_isPlain hI e1) lk_Md_271 mb_Md_isPlain rfl ⟨Nat.le_of_ble_eq_true rfl, Nat.le_of_ble_eq_true rfl⟩ ⟨Nat.zero_le _, Nat.zero_le _⟩ (Nat.le_of_ble_eq_true rfl) d_Md_lessons_15 hl.1 (rest := [.int (iZ v3)]) rfl) (fun H locs w => ?_)
      refine m_if_eq C hM 25 d_Md_lessons_18 (by decide) (fun hM => ?_) (fun hM => ?_)
      · refine m_iconst C d_Md_lessons_25 ?_
        refine m_iadd C d_Md_lessons_26 ?_
        refine m_istore_n C hl [(3, .int (iZ (v3 + 0))), (0, .ref (ad 83)), (1, .int (iZ v1)), (2, .int (iZ v2)), (4, .int (iZ v4))] d_Md_lessons_27 rfl (by decide) rfl (fun ls hl => ?_)
        refine m_iinc C hl 4 [(4, .int (iZ (v4 + 1))), (3, .int (iZ (v3 + 0))), (0, .ref (ad 83)), (1, .int (iZ v1)), (2, .int (iZ v2))] d_Md_lessons_28 rfl (by decide) rfl (fun ls hl => ?_)
        refine m_goto C 5 d_Md_lessons_31 (by decide) ?_
        exact ih (v3 + 0) (v4 + 1) q2.2 _ _ w _ (lv_sub hl [2, 3, 4, 1, 0] rfl) hM
      · refine m_iconst C d_Md_lessons_21 ?_
        refine m_goto C 26 d_Md_lessons_22 (by decide) ?_
        refine m_iadd C d_Md_lessons_26 ?_
        refine m_istore_n C hl [(3, .int (iZ (v3 + 1))), (0, .ref (ad 83)), (1, .int (iZ v1)), (2, .int (iZ v2)), (4, .int (iZ v4))] d_Md_lessons_27 rfl (by decide) rfl (fun ls hl => ?_)
        refine m_iinc C hl 4 [(4, .int (iZ (v4 + 1))), (3, .int (iZ (v3 + 1))), (0, .ref (ad 83)), (1, .int (iZ v1)), (2, .int (iZ v2))] d_Md_lessons_28 rfl (by decide) rfl (fun ls hl => ?_)
        refine m_goto C 5 d_Md_lessons_31 (by decide) ?_
        exact ih (v3 + 1) (v4 + 1) q2.2 _ _ w _ (lv_sub hl [2, 3, 4, 1, 0] rfl) hM
set_option maxHeartbeats 4000000 in
set_option maxRecDepth 100000 in
theorem c_Md_lessons {l : Launch} {D : va_G} {ad : Nat → Nat} {cA : Nat → ClassId} {sd sv : Nat → Nat} {h : Hp} {N : Nat} {a1 a2 : Int} {out : (Int × Hp)} (hI : Inj97 ad) (hM : M_Md_lessons N h a1 a2 = some out) : Met l y_Md_lessons (.code y_Md_lessons prog_13_method_102_code 5 (some .int) :: TT) (rmD 5) (PC D ad cA sd sv h [.ref (ad 83), .int (iZ a1), .int (iZ a2)]) (QI D ad cA out) 0 0 (FA ad) := by
  unfold M_Md_lessons at hM
  refine entM (by decide +kernel) hI (Nat.le_of_ble_eq_true rfl) ?_
  intro p e s m args below meth c C hr hlk hP ls hl
  have C : Cx p s m args c prog_13_method_102_code 5 "FeastBookModel" D ad cA sd sv (FA ad) := C
  have hl : lv_has ls 5 [(0, .ref (ad 83)), (1, .int (iZ a1)), (2, .int (iZ a2))] := hl
  have w : Wd s D ad cA (FA ad) h s.heap [] := ⟨hP, va_S.rf⟩
  refine m_iconst C d_Md_lessons_0 ?_
  refine m_istore_n C hl [(3, .int (iZ 0)), (0, .ref (ad 83)), (1, .int (iZ a1)), (2, .int (iZ a2))] d_Md_lessons_1 rfl (by decide) rfl (fun ls hl => ?_)
  refine m_iload_n C hl 2 d_Md_lessons_2 rfl rfl ?_
  refine m_istore C hl [(4, .int (iZ a1)), (3, .int (iZ 0)), (0, .ref (ad 83)), (1, .int (iZ a1)), (2, .int (iZ a2))] d_Md_lessons_3 (by decide) rfl (fun ls hl => ?_)
  exact w_Md_lessons_L5 N hI C hr hlk a1 a2 _ 0 a1 h _ _ w _ (lv_sub hl [2, 3, 4, 1, 0] rfl) hM
def y_Md_course : MethodName := ⟨"FeastBookModel", "course", "(I)I"⟩
theorem d_Md_course_0 : decode prog_13_method_103_code 0 = .ok (.aload_n 0, 1) := by decide +kernel
theorem d_Md_course_1 : decode prog_13_method_103_code 1 = .ok (.aload_n 0, 1) := by decide +kernel
theorem d_Md_course_2 : decode prog_13_method_103_code 2 = .ok (.invokevirtual 58, 3) := by decide +kernel
theorem d_Md_course_5 : decode prog_13_method_103_code 5 = .ok (.ifCond .ne 7, 3) := by decide +kernel
theorem d_Md_course_8 : decode prog_13_method_103_code 8 = .ok (.iconst 1, 1) := by decide +kernel
theorem d_Md_course_9 : decode prog_13_method_103_code 9 = .ok (.goto 17, 3) := by decide +kernel
theorem d_Md_course_12 : decode prog_13_method_103_code 12 = .ok (.iload_n 1, 1) := by decide +kernel
theorem d_Md_course_13 : decode prog_13_method_103_code 13 = .ok (.iconst 0, 1) := by decide +kernel
theorem d_Md_course_14 : decode prog_13_method_103_code 14 = .ok (.iconst 3, 1) := by decide +kernel
theorem d_Md_course_15 : decode prog_13_method_103_code 15 = .ok (.invokestatic 54, 3) := by decide +kernel
theorem d_Md_course_18 : decode prog_13_method_103_code 18 = .ok (.ifCond .ne 7, 3) := by decide +kernel
theorem d_Md_course_21 : decode prog_13_method_103_code 21 = .ok (.iconst 2, 1) := by decide +kernel
theorem d_Md_course_22 : decode prog_13_method_103_code 22 = .ok (.goto 4, 3) := by decide +kernel
theorem d_Md_course_25 : decode prog_13_method_103_code 25 = .ok (.iconst 0, 1) := by decide +kernel
theorem d_Md_course_26 : decode prog_13_method_103_code 26 = .ok (.putfield 51, 3) := by decide +kernel
theorem d_Md_course_29 : decode prog_13_method_103_code 29 = .ok (.aload_n 0, 1) := by decide +kernel
theorem d_Md_course_30 : decode prog_13_method_103_code 30 = .ok (.getfield 51, 3) := by decide +kernel
theorem d_Md_course_33 : decode prog_13_method_103_code 33 = .ok (.ifCond .le 5, 3) := by decide +kernel
theorem d_Md_course_36 : decode prog_13_method_103_code 36 = .ok (.iconst 0, 1) := by decide +kernel
theorem d_Md_course_37 : decode prog_13_method_103_code 37 = .ok (.ireturn, 1) := by decide +kernel
theorem d_Md_course_38 : decode prog_13_method_103_code 38 = .ok (.aload_n 0, 1) := by decide +kernel
theorem d_Md_course_39 : decode prog_13_method_103_code 39 = .ok (.invokevirtual 326, 3) := by decide +kernel
theorem d_Md_course_42 : decode prog_13_method_103_code 42 = .ok (.istore_n 2, 1) := by decide +kernel
theorem d_Md_course_43 : decode prog_13_method_103_code 43 = .ok (.iconst (-1), 1) := by decide +kernel
theorem d_Md_course_44 : decode prog_13_method_103_code 44 = .ok (.istore_n 3, 1) := by decide +kernel
theorem d_Md_course_45 : decode prog_13_method_103_code 45 = .ok (.iconst 0, 1) := by decide +kernel
theorem d_Md_course_46 : decode prog_13_method_103_code 46 = .ok (.istore 4, 2) := by decide +kernel
theorem d_Md_course_48 : decode prog_13_method_103_code 48 = .ok (.iload 4, 2) := by decide +kernel
theorem d_Md_course_50 : decode prog_13_method_103_code 50 = .ok (.iload_n 2, 1) := by decide +kernel
theorem d_Md_course_51 : decode prog_13_method_103_code 51 = .ok (.if_icmp .ge 75, 3) := by decide +kernel
theorem d_Md_course_54 : decode prog_13_method_103_code 54 = .ok (.aload_n 0, 1) := by decide +kernel
theorem d_Md_course_55 : decode prog_13_method_103_code 55 = .ok (.iload 4, 2) := by decide +kernel
theorem d_Md_course_57 : decode prog_13_method_103_code 57 = .ok (.invokevirtual 283, 3) := by decide +kernel
theorem d_Md_course_60 : decode prog_13_method_103_code 60 = .ok (.iload_n 1, 1) := by decide +kernel
theorem d_Md_course_61 : decode prog_13_method_103_code 61 = .ok (.iconst 2, 1) := by decide +kernel
theorem d_Md_course_62 : decode prog_13_method_103_code 62 = .ok (.if_icmp .ge 15, 3) := by decide +kernel
theorem d_Md_course_65 : decode prog_13_method_103_code 65 = .ok (.aload_n 0, 1) := by decide +kernel
theorem d_Md_course_66 : decode prog_13_method_103_code 66 = .ok (.iconst 0, 1) := by decide +kernel
theorem d_Md_course_67 : decode prog_13_method_103_code 67 = .ok (.aload_n 0, 1) := by decide +kernel
theorem d_Md_course_68 : decode prog_13_method_103_code 68 = .ok (.getfield 87, 3) := by decide +kernel
theorem d_Md_course_71 : decode prog_13_method_103_code 71 = .ok (.invokevirtual 338, 3) := by decide +kernel
theorem d_Md_course_74 : decode prog_13_method_103_code 74 = .ok (.goto 15, 3) := by decide +kernel
theorem d_Md_course_77 : decode prog_13_method_103_code 77 = .ok (.aload_n 0, 1) := by decide +kernel
theorem d_Md_course_78 : decode prog_13_method_103_code 78 = .ok (.aload_n 0, 1) := by decide +kernel
theorem d_Md_course_79 : decode prog_13_method_103_code 79 = .ok (.getfield 87, 3) := by decide +kernel
theorem d_Md_course_82 : decode prog_13_method_103_code 82 = .ok (.aload_n 0, 1) := by decide +kernel
theorem d_Md_course_83 : decode prog_13_method_103_code 83 = .ok (.getfield 122, 3) := by decide +kernel
theorem d_Md_course_86 : decode prog_13_method_103_code 86 = .ok (.invokevirtual 338, 3) := by decide +kernel
theorem d_Md_course_89 : decode prog_13_method_103_code 89 = .ok (.istore 5, 2) := by decide +kernel
theorem d_Md_course_91 : decode prog_13_method_103_code 91 = .ok (.iload_n 3, 1) := by decide +kernel
theorem d_Md_course_92 : decode prog_13_method_103_code 92 = .ok (.iconst (-1), 1) := by decide +kernel
theorem d_Md_course_93 : decode prog_13_method_103_code 93 = .ok (.if_icmp .eq 24, 3) := by decide +kernel
theorem d_Md_course_96 : decode prog_13_method_103_code 96 = .ok (.iload_n 1, 1) := by decide +kernel
theorem d_Md_course_97 : decode prog_13_method_103_code 97 = .ok (.iconst 2, 1) := by decide +kernel
theorem d_Md_course_98 : decode prog_13_method_103_code 98 = .ok (.irem, 1) := by decide +kernel
theorem d_Md_course_99 : decode prog_13_method_103_code 99 = .ok (.ifCond .ne 12, 3) := by decide +kernel
theorem d_Md_course_102 : decode prog_13_method_103_code 102 = .ok (.iload 5, 2) := by decide +kernel
theorem d_Md_course_104 : decode prog_13_method_103_code 104 = .ok (.iload_n 3, 1) := by decide +kernel
theorem d_Md_course_105 : decode prog_13_method_103_code 105 = .ok (.if_icmp .ge 15, 3) := by decide +kernel
theorem d_Md_course_108 : decode prog_13_method_103_code 108 = .ok (.goto 9, 3) := by decide +kernel
theorem d_Md_course_111 : decode prog_13_method_103_code 111 = .ok (.iload 5, 2) := by decide +kernel
theorem d_Md_course_113 : decode prog_13_method_103_code 113 = .ok (.iload_n 3, 1) := by decide +kernel
theorem d_Md_course_114 : decode prog_13_method_103_code 114 = .ok (.if_icmp .le 6, 3) := by decide +kernel
theorem d_Md_course_117 : decode prog_13_method_103_code 117 = .ok (.iload 5, 2) := by decide +kernel
theorem d_Md_course_119 : decode prog_13_method_103_code 119 = .ok (.istore_n 3, 1) := by decide +kernel
theorem d_Md_course_120 : decode prog_13_method_103_code 120 = .ok (.iinc 4 1, 3) := by decide +kernel
theorem d_Md_course_123 : decode prog_13_method_103_code 123 = .ok (.goto (-75), 3) := by decide +kernel
theorem d_Md_course_126 : decode prog_13_method_103_code 126 = .ok (.iload_n 3, 1) := by decide +kernel
theorem d_Md_course_127 : decode prog_13_method_103_code 127 = .ok (.ireturn, 1) := by decide +kernel
theorem mb_Md_lessons : MBv R_Md y_Md_lessons prog_13_method_102_code 5 (some .int) 2 := ⟨mT10 115 (by decide +kernel) (by decide +kernel), mTs 75 (by decide +kernel) (by decide +kernel), mT1 10 (by decide +kernel) (by decide +kernel), mT10 116 (by decide +kernel) (by decide +kernel), by decide, rfl, by decide +kernel, by decide +kernel, by decide +kernel⟩
theorem lk_Md_338 : Cond.methodLink "FeastBookModel" 338 y_Md_lessons ∈ TT := mT10 113 (by decide +kernel) (by decide +kernel)
set_option maxHeartbeats 4000000 in
set_option maxRecDepth 100000 in
theorem w_Md_course_L48 {p : Program} {l : Launch} {e : Env} {s : State} {m : MethodId} {args : Array Value} {below : List Frame} {meth : Method} {c : Code} {D : va_G} {ad : Nat → Nat} {cA : Nat → ClassId} {sd sv : Nat → Nat} {out : (Int × Hp)} (N : Nat) (hI : Inj97 ad) (C : Cx p s m args c prog_13_method_103_code 6 "FeastBookModel" D ad cA sd sv (FA ad)) (hr : meth.sig.returnType = (some .int)) (hlk : meth.locks = false) (v1 v2 : Int) : ∀ (n : Nat) (v3 v4 : Int) (h : Hp) (H : Heap) (locs : List Loc), Wd s D ad cA (FA ad) h H locs → ∀ ls : Array Slot, lv_has ls 6 [(0, .ref (ad 83)), (1, .int (iZ v1)), (2, .int (iZ v2)), (3, .int (iZ v3)), (4, .int (iZ v4))] → Md_course_L48 N v1 v2 n v3 v4 h = some out → W p l e (rmD 8) s m args below meth c H locs 0 0 (MQ below (QI D ad cA out) args s 0 0 (FA ad)) (F0 m 48 ls []) := by
  intro n
  induction n with
  | zero =>
    intro v3 v4 h H locs w ls hl hM
    rw [Md_course_L48] at hM
    cases hM
  | succ n ih =>
    intro v3 v4 h H locs w ls hl hM
    rw [Md_course_L48] at hM
    refine m_iload C hl 4 d_Md_course_48 rfl ?_
    refine m_iload_n C hl 2 d_Md_course_50 rfl rfl ?_
    refine m_icmp_ge C hM 126 d_Md_course_51 (by decide) (fun hM => ?_) (fun hM => ?_)
    · refine m_iload_n C hl 3 d_Md_course_126 rfl rfl ?_
      exact m_iretW C w hr hlk hM d_Md_course_127
    · refine m_aload_n C hl 0 d_Md_course_54 rfl rfl ?_
      refine m_iload C hl 4 d_Md_course_55 rfl ?_
      obtain ⟨h10, e9, hM⟩ := bnd_some hM
      refine aftV C w (runV C w.1 w.2 kc_Md sh_83 (Nat.le_of_ble_eq_true rfl) (c_Md_resolves hI e9) lk_Md_283 mb_Md_resolves rfl ⟨Nat.le_of_ble_eq_true rfl, Nat.le_of_ble_eq_true rfl⟩ ⟨Nat.zero_le _, Nat.zero_le _⟩ (Nat.le_of_ble_eq_true rfl) d_Md_course_57 hl.1 (rest := []) rfl) (fun H locs w => ?_)
      refine m_iload_n C hl 1 d_Md_course_60 rfl rfl ?_
      refine m_iconst C d_Md_course_61 ?_
      refine lt_join hM (fun j15 ej hM => ?_)
      have hJ15 : ∀ (s0_15 : Int) (h_15 : Hp), j15 s0_15 h_15 = some out → ∀ (H : Heap) (locs : List Loc), Wd s D ad cA (FA ad) h_15 H locs → ∀ ls : Array Slot, lv_has ls 6 [(0, .ref (ad 83)), (1, .int (iZ v1)), (2, .int (iZ v2)), (3, .int (iZ v3)), (4, .int (iZ v4))] → W p l e (rmD 8) s m args below meth c H locs 0 0 (MQ below (QI D ad cA out) args s 0 0 (FA ad)) (F0 m 89 ls [.int (iZ s0_15)]) := by
        intro s0_15 h_15 hM H locs w ls hl
        subst ej
        dsimp only at hM
        refine m_istore C hl [(5, .int (iZ s0_15)), (0, .ref (ad 83)), (1, .int (iZ v1)), (2, .int (iZ v2)), (3, .int (iZ v3)), (4, .int (iZ v4))] d_Md_course_89 (by decide) rfl (fun ls hl => ?_)
        refine m_iload_n C hl 4 d_Md_course_91 rfl rfl ?_
        refine m_iconst C d_Md_course_92 ?_
        refine m_icmp_eq C hM 117 d_Md_course_93 (by decide) (fun hM => ?_) (fun hM => ?_)
        · refine m_iload C hl 0 d_Md_course_117 rfl ?_
          refine m_istore_n C hl [(3, .int (iZ s0_15)), (5, .int (iZ s0_15)), (0, .ref (ad 83)), (1, .int (iZ v1)), (2, .int (iZ v2)), (4, .int (iZ v4))] d_Md_course_119 rfl (by decide) rfl (fun ls hl => ?_)
          refine m_iinc C hl 5 [(4, .int (iZ (v4 + 1))), (3, .int (iZ s0_15)), (5, .int (iZ s0_15)), (0, .ref (ad 83)), (1, .int (iZ v1)), (2, .int (iZ v2))] d_Md_course_120 rfl (by decide) rfl (fun ls hl => ?_)
          refine m_goto C 48 d_Md_course_123 (by decide) ?_
          exact ih s0_15 (v4 + 1) h_15 _ _ w _ (lv_sub hl [3, 4, 5, 1, 0] rfl) hM
        · refine m_iload_n C hl 2 d_Md_course_96 rfl rfl ?_
          refine m_iconst C d_Md_course_97 ?_
          refine m_irem C hM d_Md_course_98 (fun x16 hM => ?_)
          refine m_if_ne C hM 111 d_Md_course_99 (by decide) (fun hM => ?_) (fun hM => ?_)
          · refine m_iload C hl 0 d_Md_course_111 rfl ?_
            refine m_iload_n C hl 4 d_Md_course_113 rfl rfl ?_
            refine m_icmp_le C hM 120 d_Md_course_114 (by decide) (fun hM => ?_) (fun hM => ?_)
            · refine m_iinc C hl 5 [(4, .int (iZ (v4 + 1))), (5, .int (iZ s0_15)), (0, .ref (ad 83)), (1, .int (iZ v1)), (2, .int (iZ v2)), (3, .int (iZ v3))] d_Md_course_120 rfl (by decide) rfl (fun ls hl => ?_)
              refine m_goto C 48 d_Md_course_123 (by decide) ?_
              exact ih v3 (v4 + 1) h_15 _ _ w _ (lv_sub hl [2, 3, 4, 5, 0] rfl) hM
            · refine m_iload C hl 0 d_Md_course_117 rfl ?_
              refine m_istore_n C hl [(3, .int (iZ s0_15)), (5, .int (iZ s0_15)), (0, .ref (ad 83)), (1, .int (iZ v1)), (2, .int (iZ v2)), (4, .int (iZ v4))] d_Md_course_119 rfl (by decide) rfl (fun ls hl => ?_)
              refine m_iinc C hl 5 [(4, .int (iZ (v4 + 1))), (3, .int (iZ s0_15)), (5, .int (iZ s0_15)), (0, .ref (ad 83)), (1, .int (iZ v1)), (2, .int (iZ v2))] d_Md_course_120 rfl (by decide) rfl (fun ls hl => ?_)
              refine m_goto C 48 d_Md_course_123 (by decide) ?_
              exact ih s0_15 (v4 + 1) h_15 _ _ w _ (lv_sub hl [3, 4, 5, 1, 0] rfl) hM
          · refine m_iload C hl 0 d_Md_course_102 rfl ?_
            refine m_iload_n C hl 4 d_Md_course_104 rfl rfl ?_
            refine m_icmp_ge C hM 120 d_Md_course_105 (by decide) (fun hM => ?_) (fun hM => ?_)
            · refine m_iinc C hl 5 [(4, .int (iZ (v4 + 1))), (5, .int (iZ s0_15)), (0, .ref (ad 83)), (1, .int (iZ v1)), (2, .int (iZ v2)), (3, .int (iZ v3))] d_Md_course_120 rfl (by decide) rfl (fun ls hl => ?_)
              refine m_goto C 48 d_Md_course_123 (by decide) ?_
              exact ih v3 (v4 + 1) h_15 _ _ w _ (lv_sub hl [2, 3, 4, 5, 0] rfl) hM
            · refine m_goto C 117 d_Md_course_108 (by decide) ?_
              refine m_iload C hl 0 d_Md_course_117 rfl ?_
              refine m_istore_n C hl [(3, .int (iZ s0_15)), (5, .int (iZ s0_15)), (0, .ref (ad 83)), (1, .int (iZ v1)), (2, .int (iZ v2)), (4, .int (iZ v4))] d_Md_course_119 rfl (by decide) rfl (fun ls hl => ?_)
              refine m_iinc C hl 5 [(4, .int (iZ (v4 + 1))), (3, .int (iZ s0_15)), (5, .int (iZ s0_15)), (0, .ref (ad 83)), (1, .int (iZ v1)), (2, .int (iZ v2))] d_Md_course_120 rfl (by decide) rfl (fun ls hl => ?_)
              refine m_goto C 48 d_Md_course_123 (by decide) ?_
              exact ih s0_15 (v4 + 1) h_15 _ _ w _ (lv_sub hl [3, 4, 5, 1, 0] rfl) hM
      refine m_icmp_ge C hM 77 d_Md_course_62 (by decide) (fun hM => ?_) (fun hM => ?_)
      · refine m_aload_n C hl 0 d_Md_course_77 rfl rfl ?_
        refine m_aload_n C hl 0 d_Md_course_78 rfl rfl ?_
        refine m_geti C w.1 kc_Md sh_83 (Nat.le_of_ble_eq_true rfl) 15 rfl (by decide) fk_Md_87 d_Md_course_79 ?_
        refine m_aload_n C hl 0 d_Md_course_82 rfl rfl ?_
        refine m_geti C w.1 kc_Md sh_83 (Nat.le_of_ble_eq_true rfl) 13 rfl (by decide) fk_Md_122 d_Md_course_83 ?_
        obtain ⟨q18, e17, hM⟩ := bnd_some hM
        refine aftI C w (runV C w.1 w.2 kc_Md sh_83 (Nat.le_of_ble_eq_true rfl) (c_Md_lessons hI e17) lk_Md_338 mb_Md_lessons rfl ⟨Nat.le_of_ble_eq_true rfl, Nat.le_of_ble_eq_true rfl⟩ ⟨Nat.zero_le _, Nat.zero_le _⟩ (Nat.le_of_ble_eq_true rfl) d_Md_course_86 hl.1 (rest := []) rfl) (fun H locs w => ?_)
        exact hJ15 q18.1 q18.2 hM _ _ w _ hl
      · refine m_aload_n C hl 0 d_Md_course_65 rfl rfl ?_
        refine m_iconst C d_Md_course_66 ?_
        refine m_aload_n C hl 0 d_Md_course_67 rfl rfl ?_
        refine m_geti C w.1 kc_Md sh_83 (Nat.le_of_ble_eq_true rfl) 15 rfl (by decide) fk_Md_87 d_Md_course_68 ?_
        obtain ⟨q20, e19, hM⟩ := bnd_some hM
        refine aftI C w (runV C w.1 w.2 kc_Md sh_83 (Nat.le_of_ble_eq_true rfl) (c_Md_lessons hI e19) lk_Md_338 mb_Md_lessons rfl ⟨Nat.le_of_ble_eq_true rfl, Nat.le_of_ble_eq_true rfl⟩ ⟨Nat.zero_le _, Nat.zero_le _⟩ (Nat.le_of_ble_eq_true rfl) d_Md_course_71 hl.1 (rest := []) rfl) (fun H locs w => ?_)
        refine m_goto C 89 d_Md_course_74 (by decide) ?_
        exact hJ15 q20.1 q20.2 hM _ _ w _ hl
set_option maxHeartbeats 4000000 in
set_option maxRecDepth 100000 in
theorem c_Md_course {l : Launch} {D : va_G} {ad : Nat → Nat} {cA : Nat → ClassId} {sd sv : Nat → Nat} {h : Hp} {N : Nat} {a1 : Int} {out : (Int × Hp)} (hI : Inj97 ad) (hM : M_Md_course N h a1 = some out) : Met l y_Md_course (.code y_Md_course prog_13_method_103_code 6 (some .int) :: TT) (rmD 8) (PC D ad cA sd sv h [.ref (ad 83), .int (iZ a1)]) (QI D ad cA out) 0 0 (FA ad) := by
  unfold M_Md_course at hM
  refine entM (by decide +kernel) hI (Nat.le_of_ble_eq_true rfl) ?_
  intro p e s m args below meth c C hr hlk hP ls hl
  have C : Cx p s m args c prog_13_method_103_code 6 "FeastBookModel" D ad cA sd sv (FA ad) := C
  have hl : lv_has ls 6 [(0, .ref (ad 83)), (1, .int (iZ a1))] := hl
  have w : Wd s D ad cA (FA ad) h s.heap [] := ⟨hP, va_S.rf⟩
  refine m_aload_n C hl 0 d_Md_course_0 rfl rfl ?_
  refine m_aload_n C hl 0 d_Md_course_1 rfl rfl ?_
  obtain ⟨x2, e1, hM⟩ := bnd_some hM
  refine aftR (runV C w.1 w.2 kc_Md sh_83 (Nat.le_of_ble_eq_true rfl) (c_Md_hasBook hI e1) lk_Md_58 mb_Md_hasBook rfl ⟨Nat.le_of_ble_eq_true rfl, Nat.le_of_ble_eq_true rfl⟩ ⟨Nat.zero_le _, Nat.zero_le _⟩ (Nat.le_of_ble_eq_true rfl) d_Md_course_2 hl.1 (rest := [.ref (ad 83)]) rfl) ?_
  refine lt_join hM (fun j5 ej hM => ?_)
  have hJ5 : ∀ (s0_5 : Int), j5 s0_5 = some out → ∀ ls : Array Slot, lv_has ls 6 [(0, .ref (ad 83)), (1, .int (iZ a1))] → W p l e (rmD 8) s m args below meth c s.heap [] 0 0 (MQ below (QI D ad cA out) args s 0 0 (FA ad)) (F0 m 26 ls [.int (iZ s0_5), .ref (ad 83)]) := by
    intro s0_5 hM ls hl
    subst ej
    dsimp only at hM
    refine m_puti C w kc_Md sh_83 (Nat.le_of_ble_eq_true rfl) 0 hM rfl (by decide) rfl rfl fk_Md_51 d_Md_course_26 (fun h6 H locs w hM => ?_)
    refine m_aload_n C hl 0 d_Md_course_29 rfl rfl ?_
    refine m_geti C w.1 kc_Md sh_83 (Nat.le_of_ble_eq_true rfl) 0 rfl (by decide) fk_Md_51 d_Md_course_30 ?_
    refine m_if_le C hM 38 d_Md_course_33 (by decide) (fun hM => ?_) (fun hM => ?_)
    · refine m_aload_n C hl 0 d_Md_course_38 rfl rfl ?_
      obtain ⟨x8, e7, hM⟩ := bnd_some hM
      refine aftR (runV C w.1 w.2 kc_Md sh_83 (Nat.le_of_ble_eq_true rfl) (c_Md_cycle0 hI e7) lk_Md_326 mb_Md_cycle0 rfl ⟨Nat.le_of_ble_eq_true rfl, Nat.le_of_ble_eq_true rfl⟩ ⟨Nat.zero_le _, Nat.zero_le _⟩ (Nat.le_of_ble_eq_true rfl) d_Md_course_39 hl.1 (rest := []) rfl) ?_
      refine m_istore_n C hl [(2, .int (iZ x8)), (0, .ref (ad 83)), (1, .int (iZ a1))] d_Md_course_42 rfl (by decide) rfl (fun ls hl => ?_)
      refine m_iconst C d_Md_course_43 ?_
      refine m_istore_n C hl [(3, .int (iZ (-1))), (2, .int (iZ x8)), (0, .ref (ad 83)), (1, .int (iZ a1))] d_Md_course_44 rfl (by decide) rfl (fun ls hl => ?_)
      refine m_iconst C d_Md_course_45 ?_
      refine m_istore C hl [(4, .int (iZ 0)), (3, .int (iZ (-1))), (2, .int (iZ x8)), (0, .ref (ad 83)), (1, .int (iZ a1))] d_Md_course_46 (by decide) rfl (fun ls hl => ?_)
      exact w_Md_course_L48 N hI C hr hlk a1 x8 _ (-1) 0 h6 _ _ w _ (lv_sub hl [3, 4, 2, 1, 0] rfl) hM
    · refine m_iconst C d_Md_course_36 ?_
      exact m_iretW C w hr hlk hM d_Md_course_37
  refine m_if_ne C hM 12 d_Md_course_5 (by decide) (fun hM => ?_) (fun hM => ?_)
  · refine m_iload_n C hl 1 d_Md_course_12 rfl rfl ?_
    refine m_iconst C d_Md_course_13 ?_
    refine m_iconst C d_Md_course_14 ?_
    obtain ⟨x22, e21, hM⟩ := bnd_some hM
    refine aftR (runS C w.1 w.2 (c_Md_isIn hI e21) lk_Md_54 mb_Md_isIn rfl ⟨Nat.le_of_ble_eq_true rfl, Nat.le_of_ble_eq_true rfl⟩ ⟨Nat.zero_le _, Nat.zero_le _⟩ (Nat.le_of_ble_eq_true rfl) d_Md_course_15 hl.1 (rest := [.ref (ad 83)]) rfl) ?_
    refine m_if_ne C hM 25 d_Md_course_18 (by decide) (fun hM => ?_) (fun hM => ?_)
    · refine m_iconst C d_Md_course_25 ?_
      exact hJ5 0 hM _ hl
    · refine m_iconst C d_Md_course_21 ?_
      refine m_goto C 26 d_Md_course_22 (by decide) ?_
      exact hJ5 2 hM _ hl
  · refine m_iconst C d_Md_course_8 ?_
    refine m_goto C 26 d_Md_course_9 (by decide) ?_
    exact hJ5 1 hM _ hl
def y_Md_heaviest : MethodName := ⟨"FeastBookModel", "heaviest", "(IIZ)I"⟩
theorem d_Md_heaviest_0 : decode prog_13_method_104_code 0 = .ok (.aload_n 0, 1) := by decide +kernel
theorem d_Md_heaviest_1 : decode prog_13_method_104_code 1 = .ok (.aload_n 0, 1) := by decide +kernel
theorem d_Md_heaviest_2 : decode prog_13_method_104_code 2 = .ok (.iload_n 1, 1) := by decide +kernel
theorem d_Md_heaviest_3 : decode prog_13_method_104_code 3 = .ok (.invokevirtual 280, 3) := by decide +kernel
theorem d_Md_heaviest_6 : decode prog_13_method_104_code 6 = .ok (.ifCond .ne 7, 3) := by decide +kernel
theorem d_Md_heaviest_9 : decode prog_13_method_104_code 9 = .ok (.iconst 1, 1) := by decide +kernel
theorem d_Md_heaviest_10 : decode prog_13_method_104_code 10 = .ok (.goto 18, 3) := by decide +kernel
theorem d_Md_heaviest_13 : decode prog_13_method_104_code 13 = .ok (.iload_n 2, 1) := by decide +kernel
theorem d_Md_heaviest_14 : decode prog_13_method_104_code 14 = .ok (.iconst 1, 1) := by decide +kernel
theorem d_Md_heaviest_15 : decode prog_13_method_104_code 15 = .ok (.bipush 60, 2) := by decide +kernel
theorem d_Md_heaviest_17 : decode prog_13_method_104_code 17 = .ok (.invokestatic 54, 3) := by decide +kernel
theorem d_Md_heaviest_20 : decode prog_13_method_104_code 20 = .ok (.ifCond .ne 7, 3) := by decide +kernel
theorem d_Md_heaviest_23 : decode prog_13_method_104_code 23 = .ok (.iconst 2, 1) := by decide +kernel
theorem d_Md_heaviest_24 : decode prog_13_method_104_code 24 = .ok (.goto 4, 3) := by decide +kernel
theorem d_Md_heaviest_27 : decode prog_13_method_104_code 27 = .ok (.iconst 0, 1) := by decide +kernel
theorem d_Md_heaviest_28 : decode prog_13_method_104_code 28 = .ok (.putfield 51, 3) := by decide +kernel
theorem d_Md_heaviest_31 : decode prog_13_method_104_code 31 = .ok (.aload_n 0, 1) := by decide +kernel
theorem d_Md_heaviest_32 : decode prog_13_method_104_code 32 = .ok (.getfield 51, 3) := by decide +kernel
theorem d_Md_heaviest_35 : decode prog_13_method_104_code 35 = .ok (.ifCond .le 5, 3) := by decide +kernel
theorem d_Md_heaviest_38 : decode prog_13_method_104_code 38 = .ok (.iconst 0, 1) := by decide +kernel
theorem d_Md_heaviest_39 : decode prog_13_method_104_code 39 = .ok (.ireturn, 1) := by decide +kernel
theorem d_Md_heaviest_40 : decode prog_13_method_104_code 40 = .ok (.aload_n 0, 1) := by decide +kernel
theorem d_Md_heaviest_41 : decode prog_13_method_104_code 41 = .ok (.iload_n 1, 1) := by decide +kernel
theorem d_Md_heaviest_42 : decode prog_13_method_104_code 42 = .ok (.invokevirtual 283, 3) := by decide +kernel
theorem d_Md_heaviest_45 : decode prog_13_method_104_code 45 = .ok (.iconst (-1), 1) := by decide +kernel
theorem d_Md_heaviest_46 : decode prog_13_method_104_code 46 = .ok (.istore 4, 2) := by decide +kernel
theorem d_Md_heaviest_48 : decode prog_13_method_104_code 48 = .ok (.iconst (-1), 1) := by decide +kernel
theorem d_Md_heaviest_49 : decode prog_13_method_104_code 49 = .ok (.istore 5, 2) := by decide +kernel
theorem d_Md_heaviest_51 : decode prog_13_method_104_code 51 = .ok (.iconst 0, 1) := by decide +kernel
theorem d_Md_heaviest_52 : decode prog_13_method_104_code 52 = .ok (.istore 6, 2) := by decide +kernel
theorem d_Md_heaviest_54 : decode prog_13_method_104_code 54 = .ok (.iload 6, 2) := by decide +kernel
theorem d_Md_heaviest_56 : decode prog_13_method_104_code 56 = .ok (.iload_n 2, 1) := by decide +kernel
theorem d_Md_heaviest_57 : decode prog_13_method_104_code 57 = .ok (.iadd, 1) := by decide +kernel
theorem d_Md_heaviest_58 : decode prog_13_method_104_code 58 = .ok (.aload_n 0, 1) := by decide +kernel
theorem d_Md_heaviest_59 : decode prog_13_method_104_code 59 = .ok (.getfield 122, 3) := by decide +kernel
theorem d_Md_heaviest_62 : decode prog_13_method_104_code 62 = .ok (.if_icmp .gt 36, 3) := by decide +kernel
theorem d_Md_heaviest_65 : decode prog_13_method_104_code 65 = .ok (.aload_n 0, 1) := by decide +kernel
theorem d_Md_heaviest_66 : decode prog_13_method_104_code 66 = .ok (.iload 6, 2) := by decide +kernel
theorem d_Md_heaviest_68 : decode prog_13_method_104_code 68 = .ok (.iload_n 2, 1) := by decide +kernel
theorem d_Md_heaviest_69 : decode prog_13_method_104_code 69 = .ok (.invokevirtual 299, 3) := by decide +kernel
theorem d_Md_heaviest_72 : decode prog_13_method_104_code 72 = .ok (.istore 7, 2) := by decide +kernel
theorem d_Md_heaviest_74 : decode prog_13_method_104_code 74 = .ok (.iload 7, 2) := by decide +kernel
theorem d_Md_heaviest_76 : decode prog_13_method_104_code 76 = .ok (.iload 5, 2) := by decide +kernel
theorem d_Md_heaviest_78 : decode prog_13_method_104_code 78 = .ok (.if_icmp .gt 6, 3) := by decide +kernel
theorem d_Md_heaviest_81 : decode prog_13_method_104_code 81 = .ok (.goto 11, 3) := by decide +kernel
theorem d_Md_heaviest_84 : decode prog_13_method_104_code 84 = .ok (.iload 6, 2) := by decide +kernel
theorem d_Md_heaviest_86 : decode prog_13_method_104_code 86 = .ok (.istore 4, 2) := by decide +kernel
theorem d_Md_heaviest_88 : decode prog_13_method_104_code 88 = .ok (.iload 7, 2) := by decide +kernel
theorem d_Md_heaviest_90 : decode prog_13_method_104_code 90 = .ok (.istore 5, 2) := by decide +kernel
theorem d_Md_heaviest_92 : decode prog_13_method_104_code 92 = .ok (.iinc 6 1, 3) := by decide +kernel
theorem d_Md_heaviest_95 : decode prog_13_method_104_code 95 = .ok (.goto (-41), 3) := by decide +kernel
theorem d_Md_heaviest_98 : decode prog_13_method_104_code 98 = .ok (.iload_n 3, 1) := by decide +kernel
theorem d_Md_heaviest_99 : decode prog_13_method_104_code 99 = .ok (.ifCond .eq 8, 3) := by decide +kernel
theorem d_Md_heaviest_102 : decode prog_13_method_104_code 102 = .ok (.iload 5, 2) := by decide +kernel
theorem d_Md_heaviest_104 : decode prog_13_method_104_code 104 = .ok (.goto 5, 3) := by decide +kernel
theorem d_Md_heaviest_107 : decode prog_13_method_104_code 107 = .ok (.iload 4, 2) := by decide +kernel
theorem d_Md_heaviest_109 : decode prog_13_method_104_code 109 = .ok (.ireturn, 1) := by decide +kernel
set_option maxHeartbeats 4000000 in
set_option maxRecDepth 100000 in
theorem w_Md_heaviest_L54 {p : Program} {l : Launch} {e : Env} {s : State} {m : MethodId} {args : Array Value} {below : List Frame} {meth : Method} {c : Code} {D : va_G} {ad : Nat → Nat} {cA : Nat → ClassId} {sd sv : Nat → Nat} {out : (Int × Hp)} (N : Nat) (hI : Inj97 ad) (C : Cx p s m args c prog_13_method_104_code 8 "FeastBookModel" D ad cA sd sv (FA ad)) (hr : meth.sig.returnType = (some .int)) (hlk : meth.locks = false) (v1 v2 v3 : Int) : ∀ (n : Nat) (v4 v5 v6 : Int) (h : Hp) (H : Heap) (locs : List Loc), Wd s D ad cA (FA ad) h H locs → ∀ ls : Array Slot, lv_has ls 8 [(0, .ref (ad 83)), (1, .int (iZ v1)), (2, .int (iZ v2)), (3, .int (iZ v3)), (4, .int (iZ v4)), (5, .int (iZ v5)), (6, .int (iZ v6))] → Md_heaviest_L54 N v2 v3 n v4 v5 v6 h = some out → W p l e (rmD 8) s m args below meth c H locs 0 0 (MQ below (QI D ad cA out) args s 0 0 (FA ad)) (F0 m 54 ls []) := by
  intro n
  induction n with
  | zero =>
    intro v4 v5 v6 h H locs w ls hl hM
    rw [Md_heaviest_L54] at hM
    cases hM
  | succ n ih =>
    intro v4 v5 v6 h H locs w ls hl hM
    rw [Md_heaviest_L54] at hM
    refine m_iload C hl 6 d_Md_heaviest_54 rfl ?_
    refine m_iload_n C hl 2 d_Md_heaviest_56 rfl rfl ?_
    refine m_iadd C d_Md_heaviest_57 ?_
    refine m_aload_n C hl 0 d_Md_heaviest_58 rfl rfl ?_
    refine m_geti C w.1 kc_Md sh_83 (Nat.le_of_ble_eq_true rfl) 13 rfl (by decide) fk_Md_122 d_Md_heaviest_59 ?_
    refine m_icmp_gt C hM 98 d_Md_heaviest_62 (by decide) (fun hM => ?_) (fun hM => ?_)
    · refine m_iload_n C hl 3 d_Md_heaviest_98 rfl rfl ?_
      refine m_if_eq C hM 107 d_Md_heaviest_99 (by decide) (fun hM => ?_) (fun hM => ?_)
      · refine m_iload C hl 4 d_Md_heaviest_107 rfl ?_
        exact m_iretW C w hr hlk hM d_Md_heaviest_109
      · refine m_iload C hl 5 d_Md_heaviest_102 rfl ?_
        refine m_goto C 109 d_Md_heaviest_104 (by decide) ?_
        exact m_iretW C w hr hlk hM d_Md_heaviest_109
    · refine m_aload_n C hl 0 d_Md_heaviest_65 rfl rfl ?_
      refine m_iload C hl 6 d_Md_heaviest_66 rfl ?_
      refine m_iload_n C hl 2 d_Md_heaviest_68 rfl rfl ?_
      obtain ⟨q10, e9, hM⟩ := bnd_some hM
      refine aftI C w (runV C w.1 w.2 kc_Md sh_83 (Nat.le_of_ble_eq_true rfl) (c_Md_weight hI e9) lk_Md_299 mb_Md_weight rfl ⟨Nat.le_of_ble_eq_true rfl, Nat.le_of_ble_eq_true rfl⟩ ⟨Nat.zero_le _, Nat.zero_le _⟩ (Nat.le_of_ble_eq_true rfl) d_Md_heaviest_69 hl.1 (rest := []) rfl) (fun H locs w => ?_)
      refine m_istore C hl [(7, .int (iZ q10.1)), (0, .ref (ad 83)), (1, .int (iZ v1)), (2, .int (iZ v2)), (3, .int (iZ v3)), (4, .int (iZ v4)), (5, .int (iZ v5)), (6, .int (iZ v6))] d_Md_heaviest_72 (by decide) rfl (fun ls hl => ?_)
      refine m_iload C hl 0 d_Md_heaviest_74 rfl ?_
      refine m_iload C hl 6 d_Md_heaviest_76 rfl ?_
      refine m_icmp_gt C hM 84 d_Md_heaviest_78 (by decide) (fun hM => ?_) (fun hM => ?_)
      · refine m_iload C hl 7 d_Md_heaviest_84 rfl ?_
        refine m_istore C hl [(4, .int (iZ v6)), (7, .int (iZ q10.1)), (0, .ref (ad 83)), (1, .int (iZ v1)), (2, .int (iZ v2)), (3, .int (iZ v3)), (5, .int (iZ v5)), (6, .int (iZ v6))] d_Md_heaviest_86 (by decide) rfl (fun ls hl => ?_)
        refine m_iload C hl 1 d_Md_heaviest_88 rfl ?_
        refine m_istore C hl [(5, .int (iZ q10.1)), (4, .int (iZ v6)), (7, .int (iZ q10.1)), (0, .ref (ad 83)), (1, .int (iZ v1)), (2, .int (iZ v2)), (3, .int (iZ v3)), (6, .int (iZ v6))] d_Md_heaviest_90 (by decide) rfl (fun ls hl => ?_)
        refine m_iinc C hl 7 [(6, .int (iZ (v6 + 1))), (5, .int (iZ q10.1)), (4, .int (iZ v6)), (7, .int (iZ q10.1)), (0, .ref (ad 83)), (1, .int (iZ v1)), (2, .int (iZ v2)), (3, .int (iZ v3))] d_Md_heaviest_92 rfl (by decide) rfl (fun ls hl => ?_)
        refine m_goto C 54 d_Md_heaviest_95 (by decide) ?_
        exact ih v6 q10.1 (v6 + 1) q10.2 _ _ w _ (lv_sub hl [4, 5, 6, 7, 2, 1, 0] rfl) hM
      · refine m_goto C 92 d_Md_heaviest_81 (by decide) ?_
        refine m_iinc C hl 7 [(6, .int (iZ (v6 + 1))), (7, .int (iZ q10.1)), (0, .ref (ad 83)), (1, .int (iZ v1)), (2, .int (iZ v2)), (3, .int (iZ v3)), (4, .int (iZ v4)), (5, .int (iZ v5))] d_Md_heaviest_92 rfl (by decide) rfl (fun ls hl => ?_)
        refine m_goto C 54 d_Md_heaviest_95 (by decide) ?_
        exact ih v4 v5 (v6 + 1) q10.2 _ _ w _ (lv_sub hl [2, 3, 4, 5, 6, 7, 0] rfl) hM
set_option maxHeartbeats 4000000 in
set_option maxRecDepth 100000 in
theorem c_Md_heaviest {l : Launch} {D : va_G} {ad : Nat → Nat} {cA : Nat → ClassId} {sd sv : Nat → Nat} {h : Hp} {N : Nat} {a1 a2 a3 : Int} {out : (Int × Hp)} (hI : Inj97 ad) (hM : M_Md_heaviest N h a1 a2 a3 = some out) : Met l y_Md_heaviest (.code y_Md_heaviest prog_13_method_104_code 8 (some .int) :: TT) (rmD 8) (PC D ad cA sd sv h [.ref (ad 83), .int (iZ a1), .int (iZ a2), .int (iZ a3)]) (QI D ad cA out) 0 0 (FA ad) := by
  unfold M_Md_heaviest at hM
  refine entM (by decide +kernel) hI (Nat.le_of_ble_eq_true rfl) ?_
  intro p e s m args below meth c C hr hlk hP ls hl
  have C : Cx p s m args c prog_13_method_104_code 8 "FeastBookModel" D ad cA sd sv (FA ad) := C
  have hl : lv_has ls 8 [(0, .ref (ad 83)), (1, .int (iZ a1)), (2, .int (iZ a2)), (3, .int (iZ a3))] := hl
  have w : Wd s D ad cA (FA ad) h s.heap [] := ⟨hP, va_S.rf⟩
  refine m_aload_n C hl 0 d_Md_heaviest_0 rfl rfl ?_
  refine m_aload_n C hl 0 d_Md_heaviest_1 rfl rfl ?_
  refine m_iload_n C hl 1 d_Md_heaviest_2 rfl rfl ?_
  obtain ⟨x2, e1, hM⟩ := bnd_some hM
  refine aftR (runV C w.1 w.2 kc_Md sh_83 (Nat.le_of_ble_eq_true rfl) (c_Md_isYear hI e1) lk_Md_280 mb_Md_isYear rfl ⟨Nat.le_of_ble_eq_true rfl, Nat.le_of_ble_eq_true rfl⟩ ⟨Nat.zero_le _, Nat.zero_le _⟩ (Nat.le_of_ble_eq_true rfl) d_Md_heaviest_3 hl.1 (rest := [.ref (ad 83)]) rfl) ?_
  refine lt_join hM (fun j5 ej hM => ?_)
  have hJ5 : ∀ (s0_5 : Int), j5 s0_5 = some out → ∀ ls : Array Slot, lv_has ls 8 [(0, .ref (ad 83)), (1, .int (iZ a1)), (2, .int (iZ a2)), (3, .int (iZ a3))] → W p l e (rmD 8) s m args below meth c s.heap [] 0 0 (MQ below (QI D ad cA out) args s 0 0 (FA ad)) (F0 m 28 ls [.int (iZ s0_5), .ref (ad 83)]) := by
    intro s0_5 hM ls hl
    subst ej
    dsimp only at hM
    refine m_puti C w kc_Md sh_83 (Nat.le_of_ble_eq_true rfl) 0 hM rfl (by decide) rfl rfl fk_Md_51 d_Md_heaviest_28 (fun h6 H locs w hM => ?_)
    refine m_aload_n C hl 0 d_Md_heaviest_31 rfl rfl ?_
    refine m_geti C w.1 kc_Md sh_83 (Nat.le_of_ble_eq_true rfl) 0 rfl (by decide) fk_Md_51 d_Md_heaviest_32 ?_
    refine m_if_le C hM 40 d_Md_heaviest_35 (by decide) (fun hM => ?_) (fun hM => ?_)
    · refine m_aload_n C hl 0 d_Md_heaviest_40 rfl rfl ?_
      refine m_iload_n C hl 1 d_Md_heaviest_41 rfl rfl ?_
      obtain ⟨h8, e7, hM⟩ := bnd_some hM
      refine aftV C w (runV C w.1 w.2 kc_Md sh_83 (Nat.le_of_ble_eq_true rfl) (c_Md_resolves hI e7) lk_Md_283 mb_Md_resolves rfl ⟨Nat.le_of_ble_eq_true rfl, Nat.le_of_ble_eq_true rfl⟩ ⟨Nat.zero_le _, Nat.zero_le _⟩ (Nat.le_of_ble_eq_true rfl) d_Md_heaviest_42 hl.1 (rest := []) rfl) (fun H locs w => ?_)
      refine m_iconst C d_Md_heaviest_45 ?_
      refine m_istore C hl [(4, .int (iZ (-1))), (0, .ref (ad 83)), (1, .int (iZ a1)), (2, .int (iZ a2)), (3, .int (iZ a3))] d_Md_heaviest_46 (by decide) rfl (fun ls hl => ?_)
      refine m_iconst C d_Md_heaviest_48 ?_
      refine m_istore C hl [(5, .int (iZ (-1))), (4, .int (iZ (-1))), (0, .ref (ad 83)), (1, .int (iZ a1)), (2, .int (iZ a2)), (3, .int (iZ a3))] d_Md_heaviest_49 (by decide) rfl (fun ls hl => ?_)
      refine m_iconst C d_Md_heaviest_51 ?_
      refine m_istore C hl [(6, .int (iZ 0)), (5, .int (iZ (-1))), (4, .int (iZ (-1))), (0, .ref (ad 83)), (1, .int (iZ a1)), (2, .int (iZ a2)), (3, .int (iZ a3))] d_Md_heaviest_52 (by decide) rfl (fun ls hl => ?_)
      exact w_Md_heaviest_L54 N hI C hr hlk a1 a2 a3 _ (-1) (-1) 0 h8 _ _ w _ (lv_sub hl [3, 4, 5, 6, 2, 1, 0] rfl) hM
    · refine m_iconst C d_Md_heaviest_38 ?_
      exact m_iretW C w hr hlk hM d_Md_heaviest_39
  refine m_if_ne C hM 13 d_Md_heaviest_6 (by decide) (fun hM => ?_) (fun hM => ?_)
  · refine m_iload_n C hl 2 d_Md_heaviest_13 rfl rfl ?_
    refine m_iconst C d_Md_heaviest_14 ?_
    refine m_bipush C d_Md_heaviest_15 (by decide) ?_
    obtain ⟨x12, e11, hM⟩ := bnd_some hM
    refine aftR (runS C w.1 w.2 (c_Md_isIn hI e11) lk_Md_54 mb_Md_isIn rfl ⟨Nat.le_of_ble_eq_true rfl, Nat.le_of_ble_eq_true rfl⟩ ⟨Nat.zero_le _, Nat.zero_le _⟩ (Nat.le_of_ble_eq_true rfl) d_Md_heaviest_17 hl.1 (rest := [.ref (ad 83)]) rfl) ?_
    refine m_if_ne C hM 27 d_Md_heaviest_20 (by decide) (fun hM => ?_) (fun hM => ?_)
    · refine m_iconst C d_Md_heaviest_27 ?_
      exact hJ5 0 hM _ hl
    · refine m_iconst C d_Md_heaviest_23 ?_
      refine m_goto C 28 d_Md_heaviest_24 (by decide) ?_
      exact hJ5 2 hM _ hl
  · refine m_iconst C d_Md_heaviest_9 ?_
    refine m_goto C 28 d_Md_heaviest_10 (by decide) ?_
    exact hJ5 1 hM _ hl
def y_Md_interval : MethodName := ⟨"FeastBookModel", "interval", "(IZ)I"⟩
theorem d_Md_interval_0 : decode prog_13_method_105_code 0 = .ok (.aload_n 0, 1) := by decide +kernel
theorem d_Md_interval_1 : decode prog_13_method_105_code 1 = .ok (.aload_n 0, 1) := by decide +kernel
theorem d_Md_interval_2 : decode prog_13_method_105_code 2 = .ok (.iload_n 1, 1) := by decide +kernel
theorem d_Md_interval_3 : decode prog_13_method_105_code 3 = .ok (.invokevirtual 311, 3) := by decide +kernel
theorem d_Md_interval_6 : decode prog_13_method_105_code 6 = .ok (.ifCond .eq 7, 3) := by decide +kernel
theorem d_Md_interval_9 : decode prog_13_method_105_code 9 = .ok (.iconst 0, 1) := by decide +kernel
theorem d_Md_interval_10 : decode prog_13_method_105_code 10 = .ok (.goto 4, 3) := by decide +kernel
theorem d_Md_interval_13 : decode prog_13_method_105_code 13 = .ok (.iconst 1, 1) := by decide +kernel
theorem d_Md_interval_14 : decode prog_13_method_105_code 14 = .ok (.putfield 51, 3) := by decide +kernel
theorem d_Md_interval_17 : decode prog_13_method_105_code 17 = .ok (.aload_n 0, 1) := by decide +kernel
theorem d_Md_interval_18 : decode prog_13_method_105_code 18 = .ok (.getfield 51, 3) := by decide +kernel
theorem d_Md_interval_21 : decode prog_13_method_105_code 21 = .ok (.ifCond .le 5, 3) := by decide +kernel
theorem d_Md_interval_24 : decode prog_13_method_105_code 24 = .ok (.iconst 0, 1) := by decide +kernel
theorem d_Md_interval_25 : decode prog_13_method_105_code 25 = .ok (.ireturn, 1) := by decide +kernel
theorem d_Md_interval_26 : decode prog_13_method_105_code 26 = .ok (.aload_n 0, 1) := by decide +kernel
theorem d_Md_interval_27 : decode prog_13_method_105_code 27 = .ok (.invokevirtual 326, 3) := by decide +kernel
theorem d_Md_interval_30 : decode prog_13_method_105_code 30 = .ok (.istore_n 3, 1) := by decide +kernel
theorem d_Md_interval_31 : decode prog_13_method_105_code 31 = .ok (.iconst (-1), 1) := by decide +kernel
theorem d_Md_interval_32 : decode prog_13_method_105_code 32 = .ok (.istore 4, 2) := by decide +kernel
theorem d_Md_interval_34 : decode prog_13_method_105_code 34 = .ok (.iconst (-1), 1) := by decide +kernel
theorem d_Md_interval_35 : decode prog_13_method_105_code 35 = .ok (.istore 5, 2) := by decide +kernel
theorem d_Md_interval_37 : decode prog_13_method_105_code 37 = .ok (.iconst 0, 1) := by decide +kernel
theorem d_Md_interval_38 : decode prog_13_method_105_code 38 = .ok (.istore 6, 2) := by decide +kernel
theorem d_Md_interval_40 : decode prog_13_method_105_code 40 = .ok (.iload 6, 2) := by decide +kernel
theorem d_Md_interval_42 : decode prog_13_method_105_code 42 = .ok (.iload_n 3, 1) := by decide +kernel
theorem d_Md_interval_43 : decode prog_13_method_105_code 43 = .ok (.if_icmp .gt 92, 3) := by decide +kernel
theorem d_Md_interval_46 : decode prog_13_method_105_code 46 = .ok (.aload_n 0, 1) := by decide +kernel
theorem d_Md_interval_47 : decode prog_13_method_105_code 47 = .ok (.iload 6, 2) := by decide +kernel
theorem d_Md_interval_49 : decode prog_13_method_105_code 49 = .ok (.invokevirtual 283, 3) := by decide +kernel
theorem d_Md_interval_52 : decode prog_13_method_105_code 52 = .ok (.aload_n 0, 1) := by decide +kernel
theorem d_Md_interval_53 : decode prog_13_method_105_code 53 = .ok (.getfield 32, 3) := by decide +kernel
theorem d_Md_interval_56 : decode prog_13_method_105_code 56 = .ok (.iload_n 1, 1) := by decide +kernel
theorem d_Md_interval_57 : decode prog_13_method_105_code 57 = .ok (.iaload, 1) := by decide +kernel
theorem d_Md_interval_58 : decode prog_13_method_105_code 58 = .ok (.istore 7, 2) := by decide +kernel
theorem d_Md_interval_60 : decode prog_13_method_105_code 60 = .ok (.iload 5, 2) := by decide +kernel
theorem d_Md_interval_62 : decode prog_13_method_105_code 62 = .ok (.iconst (-1), 1) := by decide +kernel
theorem d_Md_interval_63 : decode prog_13_method_105_code 63 = .ok (.if_icmp .eq 47, 3) := by decide +kernel
theorem d_Md_interval_66 : decode prog_13_method_105_code 66 = .ok (.iload 7, 2) := by decide +kernel
theorem d_Md_interval_68 : decode prog_13_method_105_code 68 = .ok (.iconst (-1), 1) := by decide +kernel
theorem d_Md_interval_69 : decode prog_13_method_105_code 69 = .ok (.if_icmp .eq 41, 3) := by decide +kernel
theorem d_Md_interval_72 : decode prog_13_method_105_code 72 = .ok (.iload 5, 2) := by decide +kernel
theorem d_Md_interval_74 : decode prog_13_method_105_code 74 = .ok (.iload 7, 2) := by decide +kernel
theorem d_Md_interval_76 : decode prog_13_method_105_code 76 = .ok (.iadd, 1) := by decide +kernel
theorem d_Md_interval_77 : decode prog_13_method_105_code 77 = .ok (.istore 8, 2) := by decide +kernel
theorem d_Md_interval_79 : decode prog_13_method_105_code 79 = .ok (.iload 4, 2) := by decide +kernel
theorem d_Md_interval_81 : decode prog_13_method_105_code 81 = .ok (.iconst (-1), 1) := by decide +kernel
theorem d_Md_interval_82 : decode prog_13_method_105_code 82 = .ok (.if_icmp .eq 24, 3) := by decide +kernel
theorem d_Md_interval_85 : decode prog_13_method_105_code 85 = .ok (.iload_n 2, 1) := by decide +kernel
theorem d_Md_interval_86 : decode prog_13_method_105_code 86 = .ok (.ifCond .eq 13, 3) := by decide +kernel
theorem d_Md_interval_89 : decode prog_13_method_105_code 89 = .ok (.iload 8, 2) := by decide +kernel
theorem d_Md_interval_91 : decode prog_13_method_105_code 91 = .ok (.iload 4, 2) := by decide +kernel
theorem d_Md_interval_93 : decode prog_13_method_105_code 93 = .ok (.if_icmp .le 17, 3) := by decide +kernel
theorem d_Md_interval_96 : decode prog_13_method_105_code 96 = .ok (.goto 10, 3) := by decide +kernel
theorem d_Md_interval_99 : decode prog_13_method_105_code 99 = .ok (.iload 8, 2) := by decide +kernel
theorem d_Md_interval_101 : decode prog_13_method_105_code 101 = .ok (.iload 4, 2) := by decide +kernel
theorem d_Md_interval_103 : decode prog_13_method_105_code 103 = .ok (.if_icmp .ge 7, 3) := by decide +kernel
theorem d_Md_interval_106 : decode prog_13_method_105_code 106 = .ok (.iload 8, 2) := by decide +kernel
theorem d_Md_interval_108 : decode prog_13_method_105_code 108 = .ok (.istore 4, 2) := by decide +kernel
theorem d_Md_interval_110 : decode prog_13_method_105_code 110 = .ok (.iload 7, 2) := by decide +kernel
theorem d_Md_interval_112 : decode prog_13_method_105_code 112 = .ok (.iconst (-1), 1) := by decide +kernel
theorem d_Md_interval_113 : decode prog_13_method_105_code 113 = .ok (.if_icmp .ne 7, 3) := by decide +kernel
theorem d_Md_interval_116 : decode prog_13_method_105_code 116 = .ok (.iconst (-1), 1) := by decide +kernel
theorem d_Md_interval_117 : decode prog_13_method_105_code 117 = .ok (.goto 10, 3) := by decide +kernel
theorem d_Md_interval_120 : decode prog_13_method_105_code 120 = .ok (.aload_n 0, 1) := by decide +kernel
theorem d_Md_interval_121 : decode prog_13_method_105_code 121 = .ok (.getfield 122, 3) := by decide +kernel
theorem d_Md_interval_124 : decode prog_13_method_105_code 124 = .ok (.iload 7, 2) := by decide +kernel
theorem d_Md_interval_126 : decode prog_13_method_105_code 126 = .ok (.isub, 1) := by decide +kernel
theorem d_Md_interval_127 : decode prog_13_method_105_code 127 = .ok (.istore 5, 2) := by decide +kernel
theorem d_Md_interval_129 : decode prog_13_method_105_code 129 = .ok (.iinc 6 1, 3) := by decide +kernel
theorem d_Md_interval_132 : decode prog_13_method_105_code 132 = .ok (.goto (-92), 3) := by decide +kernel
theorem d_Md_interval_135 : decode prog_13_method_105_code 135 = .ok (.iload 4, 2) := by decide +kernel
theorem d_Md_interval_137 : decode prog_13_method_105_code 137 = .ok (.ireturn, 1) := by decide +kernel
set_option maxHeartbeats 4000000 in
set_option maxRecDepth 100000 in
theorem w_Md_interval_L40 {p : Program} {l : Launch} {e : Env} {s : State} {m : MethodId} {args : Array Value} {below : List Frame} {meth : Method} {c : Code} {D : va_G} {ad : Nat → Nat} {cA : Nat → ClassId} {sd sv : Nat → Nat} {out : (Int × Hp)} (N : Nat) (hI : Inj97 ad) (C : Cx p s m args c prog_13_method_105_code 9 "FeastBookModel" D ad cA sd sv (FA ad)) (hr : meth.sig.returnType = (some .int)) (hlk : meth.locks = false) (v1 v2 v3 : Int) : ∀ (n : Nat) (v4 v5 v6 : Int) (h : Hp) (H : Heap) (locs : List Loc), Wd s D ad cA (FA ad) h H locs → ∀ ls : Array Slot, lv_has ls 9 [(0, .ref (ad 83)), (1, .int (iZ v1)), (2, .int (iZ v2)), (3, .int (iZ v3)), (4, .int (iZ v4)), (5, .int (iZ v5)), (6, .int (iZ v6))] → Md_interval_L40 N v1 v2 v3 n v4 v5 v6 h = some out → W p l e (rmD 8) s m args below meth c H locs 0 0 (MQ below (QI D ad cA out) args s 0 0 (FA ad)) (F0 m 40 ls []) := by
  intro n
  induction n with
  | zero =>
    intro v4 v5 v6 h H locs w ls hl hM
    rw [Md_interval_L40] at hM
    cases hM
  | succ n ih =>
    intro v4 v5 v6 h H locs w ls hl hM
    rw [Md_interval_L40] at hM
    refine m_iload C hl 6 d_Md_interval_40 rfl ?_
    refine m_iload_n C hl 3 d_Md_interval_42 rfl rfl ?_
    refine m_icmp_gt C hM 135 d_Md_interval_43 (by decide) (fun hM => ?_) (fun hM => ?_)
    · refine m_iload C hl 4 d_Md_interval_135 rfl ?_
      exact m_iretW C w hr hlk hM d_Md_interval_137
    · refine m_aload_n C hl 0 d_Md_interval_46 rfl rfl ?_
      refine m_iload C hl 6 d_Md_interval_47 rfl ?_
      obtain ⟨h8, e7, hM⟩ := bnd_some hM
      refine aftV C w (runV C w.1 w.2 kc_Md sh_83 (Nat.le_of_ble_eq_true rfl) (c_Md_resolves hI e7) lk_Md_283 mb_Md_resolves rfl ⟨Nat.le_of_ble_eq_true rfl, Nat.le_of_ble_eq_true rfl⟩ ⟨Nat.zero_le _, Nat.zero_le _⟩ (Nat.le_of_ble_eq_true rfl) d_Md_interval_49 hl.1 (rest := []) rfl) (fun H locs w => ?_)
      refine m_aload_n C hl 0 d_Md_interval_52 rfl rfl ?_
      refine m_getr C w.1 kc_Md sh_83 (Nat.le_of_ble_eq_true rfl) 17 90 rfl (by decide) fk_Md_32 d_Md_interval_53 ?_
      refine m_iload_n C hl 1 d_Md_interval_56 rfl rfl ?_
      refine m_iald C w.1 sh_90 (Nat.le_of_ble_eq_true rfl) (Nat.le_of_ble_eq_true rfl) hM d_Md_interval_57 (fun x9 hM => ?_)
      refine m_istore C hl [(7, .int (iZ x9)), (0, .ref (ad 83)), (1, .int (iZ v1)), (2, .int (iZ v2)), (3, .int (iZ v3)), (4, .int (iZ v4)), (5, .int (iZ v5)), (6, .int (iZ v6))] d_Md_interval_58 (by decide) rfl (fun ls hl => ?_)
      refine m_iload C hl 6 d_Md_interval_60 rfl ?_
      refine m_iconst C d_Md_interval_62 ?_
      refine m_icmp_eq C hM 110 d_Md_interval_63 (by decide) (fun hM => ?_) (fun hM => ?_)
      · refine m_iload C hl 0 d_Md_interval_110 rfl ?_
        refine m_iconst C d_Md_interval_112 ?_
        refine m_icmp_ne C hM 120 d_Md_interval_113 (by decide) (fun hM => ?_) (fun hM => ?_)
        · refine m_aload_n C hl 1 d_Md_interval_120 rfl rfl ?_
          refine m_geti C w.1 kc_Md sh_83 (Nat.le_of_ble_eq_true rfl) 13 rfl (by decide) fk_Md_122 d_Md_interval_121 ?_
          refine m_iload C hl 0 d_Md_interval_124 rfl ?_
          refine m_isub C d_Md_interval_126 ?_
          refine m_istore C hl [(5, .int (iZ ((h8 83 13) - x9))), (7, .int (iZ x9)), (0, .ref (ad 83)), (1, .int (iZ v1)), (2, .int (iZ v2)), (3, .int (iZ v3)), (4, .int (iZ v4)), (6, .int (iZ v6))] d_Md_interval_127 (by decide) rfl (fun ls hl => ?_)
          refine m_iinc C hl 7 [(6, .int (iZ (v6 + 1))), (5, .int (iZ ((h8 83 13) - x9))), (7, .int (iZ x9)), (0, .ref (ad 83)), (1, .int (iZ v1)), (2, .int (iZ v2)), (3, .int (iZ v3)), (4, .int (iZ v4))] d_Md_interval_129 rfl (by decide) rfl (fun ls hl => ?_)
          refine m_goto C 40 d_Md_interval_132 (by decide) ?_
          exact ih v4 ((h8 83 13) - x9) (v6 + 1) h8 _ _ w _ (lv_sub hl [3, 4, 5, 6, 7, 1, 0] rfl) hM
        · refine m_iconst C d_Md_interval_116 ?_
          refine m_goto C 127 d_Md_interval_117 (by decide) ?_
          refine m_istore C hl [(5, .int (iZ (-1))), (7, .int (iZ x9)), (0, .ref (ad 83)), (1, .int (iZ v1)), (2, .int (iZ v2)), (3, .int (iZ v3)), (4, .int (iZ v4)), (6, .int (iZ v6))] d_Md_interval_127 (by decide) rfl (fun ls hl => ?_)
          refine m_iinc C hl 7 [(6, .int (iZ (v6 + 1))), (5, .int (iZ (-1))), (7, .int (iZ x9)), (0, .ref (ad 83)), (1, .int (iZ v1)), (2, .int (iZ v2)), (3, .int (iZ v3)), (4, .int (iZ v4))] d_Md_interval_129 rfl (by decide) rfl (fun ls hl => ?_)
          refine m_goto C 40 d_Md_interval_132 (by decide) ?_
          exact ih v4 (-1) (v6 + 1) h8 _ _ w _ (lv_sub hl [3, 4, 5, 6, 7, 1, 0] rfl) hM
      · refine m_iload C hl 0 d_Md_interval_66 rfl ?_
        refine m_iconst C d_Md_interval_68 ?_
        refine m_icmp_eq C hM 110 d_Md_interval_69 (by decide) (fun hM => ?_) (fun hM => ?_)
        · refine m_iload C hl 0 d_Md_interval_110 rfl ?_
          refine m_iconst C d_Md_interval_112 ?_
          refine m_icmp_ne C hM 120 d_Md_interval_113 (by decide) (fun hM => ?_) (fun hM => ?_)
          · refine m_aload_n C hl 1 d_Md_interval_120 rfl rfl ?_
            refine m_geti C w.1 kc_Md sh_83 (Nat.le_of_ble_eq_true rfl) 13 rfl (by decide) fk_Md_122 d_Md_interval_121 ?_
            refine m_iload C hl 0 d_Md_interval_124 rfl ?_
            refine m_isub C d_Md_interval_126 ?_
            refine m_istore C hl [(5, .int (iZ ((h8 83 13) - x9))), (7, .int (iZ x9)), (0, .ref (ad 83)), (1, .int (iZ v1)), (2, .int (iZ v2)), (3, .int (iZ v3)), (4, .int (iZ v4)), (6, .int (iZ v6))] d_Md_interval_127 (by decide) rfl (fun ls hl => ?_)
            refine m_iinc C hl 7 [(6, .int (iZ (v6 + 1))), (5, .int (iZ ((h8 83 13) - x9))), (7, .int (iZ x9)), (0, .ref (ad 83)), (1, .int (iZ v1)), (2, .int (iZ v2)), (3, .int (iZ v3)), (4, .int (iZ v4))] d_Md_interval_129 rfl (by decide) rfl (fun ls hl => ?_)
            refine m_goto C 40 d_Md_interval_132 (by decide) ?_
            exact ih v4 ((h8 83 13) - x9) (v6 + 1) h8 _ _ w _ (lv_sub hl [3, 4, 5, 6, 7, 1, 0] rfl) hM
          · refine m_iconst C d_Md_interval_116 ?_
            refine m_goto C 127 d_Md_interval_117 (by decide) ?_
            refine m_istore C hl [(5, .int (iZ (-1))), (7, .int (iZ x9)), (0, .ref (ad 83)), (1, .int (iZ v1)), (2, .int (iZ v2)), (3, .int (iZ v3)), (4, .int (iZ v4)), (6, .int (iZ v6))] d_Md_interval_127 (by decide) rfl (fun ls hl => ?_)
            refine m_iinc C hl 7 [(6, .int (iZ (v6 + 1))), (5, .int (iZ (-1))), (7, .int (iZ x9)), (0, .ref (ad 83)), (1, .int (iZ v1)), (2, .int (iZ v2)), (3, .int (iZ v3)), (4, .int (iZ v4))] d_Md_interval_129 rfl (by decide) rfl (fun ls hl => ?_)
            refine m_goto C 40 d_Md_interval_132 (by decide) ?_
            exact ih v4 (-1) (v6 + 1) h8 _ _ w _ (lv_sub hl [3, 4, 5, 6, 7, 1, 0] rfl) hM
        · refine m_iload C hl 6 d_Md_interval_72 rfl ?_
          refine m_iload C hl 0 d_Md_interval_74 rfl ?_
          refine m_iadd C d_Md_interval_76 ?_
          refine m_istore C hl [(8, .int (iZ (v5 + x9))), (7, .int (iZ x9)), (0, .ref (ad 83)), (1, .int (iZ v1)), (2, .int (iZ v2)), (3, .int (iZ v3)), (4, .int (iZ v4)), (5, .int (iZ v5)), (6, .int (iZ v6))] d_Md_interval_77 (by decide) rfl (fun ls hl => ?_)
          refine m_iload C hl 6 d_Md_interval_79 rfl ?_
          refine m_iconst C d_Md_interval_81 ?_
          refine lt_join hM (fun j10 ej hM => ?_)
          have hJ10 : j10  = some out → ∀ ls : Array Slot, lv_has ls 9 [(0, .ref (ad 83)), (1, .int (iZ v1)), (2, .int (iZ v2)), (3, .int (iZ v3)), (4, .int (iZ v4)), (5, .int (iZ v5)), (6, .int (iZ v6)), (7, .int (iZ x9)), (8, .int (iZ (v5 + x9)))] → W p l e (rmD 8) s m args below meth c H locs 0 0 (MQ below (QI D ad cA out) args s 0 0 (FA ad)) (F0 m 106 ls []) := by
            intro  hM ls hl
            subst ej
            skip
            refine m_iload C hl 8 d_Md_interval_106 rfl ?_
            refine m_istore C hl [(4, .int (iZ (v5 + x9))), (0, .ref (ad 83)), (1, .int (iZ v1)), (2, .int (iZ v2)), (3, .int (iZ v3)), (5, .int (iZ v5)), (6, .int (iZ v6)), (7, .int (iZ x9)), (8, .int (iZ (v5 + x9)))] d_Md_interval_108 (by decide) rfl (fun ls hl => ?_)
            refine m_iload C hl 7 d_Md_interval_110 rfl ?_
            refine m_iconst C d_Md_interval_112 ?_
            refine m_icmp_ne C hM 120 d_Md_interval_113 (by decide) (fun hM => ?_) (fun hM => ?_)
            · refine m_aload_n C hl 1 d_Md_interval_120 rfl rfl ?_
              refine m_geti C w.1 kc_Md sh_83 (Nat.le_of_ble_eq_true rfl) 13 rfl (by decide) fk_Md_122 d_Md_interval_121 ?_
              refine m_iload C hl 7 d_Md_interval_124 rfl ?_
              refine m_isub C d_Md_interval_126 ?_
              refine m_istore C hl [(5, .int (iZ ((h8 83 13) - x9))), (4, .int (iZ (v5 + x9))), (0, .ref (ad 83)), (1, .int (iZ v1)), (2, .int (iZ v2)), (3, .int (iZ v3)), (6, .int (iZ v6)), (7, .int (iZ x9)), (8, .int (iZ (v5 + x9)))] d_Md_interval_127 (by decide) rfl (fun ls hl => ?_)
              refine m_iinc C hl 6 [(6, .int (iZ (v6 + 1))), (5, .int (iZ ((h8 83 13) - x9))), (4, .int (iZ (v5 + x9))), (0, .ref (ad 83)), (1, .int (iZ v1)), (2, .int (iZ v2)), (3, .int (iZ v3)), (7, .int (iZ x9)), (8, .int (iZ (v5 + x9)))] d_Md_interval_129 rfl (by decide) rfl (fun ls hl => ?_)
              refine m_goto C 40 d_Md_interval_132 (by decide) ?_
              exact ih (v5 + x9) ((h8 83 13) - x9) (v6 + 1) h8 _ _ w _ (lv_sub hl [3, 4, 5, 6, 2, 1, 0] rfl) hM
            · refine m_iconst C d_Md_interval_116 ?_
              refine m_goto C 127 d_Md_interval_117 (by decide) ?_
              refine m_istore C hl [(5, .int (iZ (-1))), (4, .int (iZ (v5 + x9))), (0, .ref (ad 83)), (1, .int (iZ v1)), (2, .int (iZ v2)), (3, .int (iZ v3)), (6, .int (iZ v6)), (7, .int (iZ x9)), (8, .int (iZ (v5 + x9)))] d_Md_interval_127 (by decide) rfl (fun ls hl => ?_)
              refine m_iinc C hl 6 [(6, .int (iZ (v6 + 1))), (5, .int (iZ (-1))), (4, .int (iZ (v5 + x9))), (0, .ref (ad 83)), (1, .int (iZ v1)), (2, .int (iZ v2)), (3, .int (iZ v3)), (7, .int (iZ x9)), (8, .int (iZ (v5 + x9)))] d_Md_interval_129 rfl (by decide) rfl (fun ls hl => ?_)
              refine m_goto C 40 d_Md_interval_132 (by decide) ?_
              exact ih (v5 + x9) (-1) (v6 + 1) h8 _ _ w _ (lv_sub hl [3, 4, 5, 6, 2, 1, 0] rfl) hM
          refine m_icmp_eq C hM 106 d_Md_interval_82 (by decide) (fun hM => ?_) (fun hM => ?_)
          · exact hJ10  hM _ (lv_sub hl [2, 3, 4, 5, 6, 7, 8, 1, 0] rfl)
          · refine m_iload_n C hl 4 d_Md_interval_85 rfl rfl ?_
            refine m_if_eq C hM 99 d_Md_interval_86 (by decide) (fun hM => ?_) (fun hM => ?_)
            · refine m_iload C hl 0 d_Md_interval_99 rfl ?_
              refine m_iload C hl 6 d_Md_interval_101 rfl ?_
              refine m_icmp_ge C hM 110 d_Md_interval_103 (by decide) (fun hM => ?_) (fun hM => ?_)
              · refine m_iload C hl 1 d_Md_interval_110 rfl ?_
                refine m_iconst C d_Md_interval_112 ?_
                refine m_icmp_ne C hM 120 d_Md_interval_113 (by decide) (fun hM => ?_) (fun hM => ?_)
                · refine m_aload_n C hl 2 d_Md_interval_120 rfl rfl ?_
                  refine m_geti C w.1 kc_Md sh_83 (Nat.le_of_ble_eq_true rfl) 13 rfl (by decide) fk_Md_122 d_Md_interval_121 ?_
                  refine m_iload C hl 1 d_Md_interval_124 rfl ?_
                  refine m_isub C d_Md_interval_126 ?_
                  refine m_istore C hl [(5, .int (iZ ((h8 83 13) - x9))), (8, .int (iZ (v5 + x9))), (7, .int (iZ x9)), (0, .ref (ad 83)), (1, .int (iZ v1)), (2, .int (iZ v2)), (3, .int (iZ v3)), (4, .int (iZ v4)), (6, .int (iZ v6))] d_Md_interval_127 (by decide) rfl (fun ls hl => ?_)
                  refine m_iinc C hl 8 [(6, .int (iZ (v6 + 1))), (5, .int (iZ ((h8 83 13) - x9))), (8, .int (iZ (v5 + x9))), (7, .int (iZ x9)), (0, .ref (ad 83)), (1, .int (iZ v1)), (2, .int (iZ v2)), (3, .int (iZ v3)), (4, .int (iZ v4))] d_Md_interval_129 rfl (by decide) rfl (fun ls hl => ?_)
                  refine m_goto C 40 d_Md_interval_132 (by decide) ?_
                  exact ih v4 ((h8 83 13) - x9) (v6 + 1) h8 _ _ w _ (lv_sub hl [4, 5, 6, 7, 8, 1, 0] rfl) hM
                · refine m_iconst C d_Md_interval_116 ?_
                  refine m_goto C 127 d_Md_interval_117 (by decide) ?_
                  refine m_istore C hl [(5, .int (iZ (-1))), (8, .int (iZ (v5 + x9))), (7, .int (iZ x9)), (0, .ref (ad 83)), (1, .int (iZ v1)), (2, .int (iZ v2)), (3, .int (iZ v3)), (4, .int (iZ v4)), (6, .int (iZ v6))] d_Md_interval_127 (by decide) rfl (fun ls hl => ?_)
                  refine m_iinc C hl 8 [(6, .int (iZ (v6 + 1))), (5, .int (iZ (-1))), (8, .int (iZ (v5 + x9))), (7, .int (iZ x9)), (0, .ref (ad 83)), (1, .int (iZ v1)), (2, .int (iZ v2)), (3, .int (iZ v3)), (4, .int (iZ v4))] d_Md_interval_129 rfl (by decide) rfl (fun ls hl => ?_)
                  refine m_goto C 40 d_Md_interval_132 (by decide) ?_
                  exact ih v4 (-1) (v6 + 1) h8 _ _ w _ (lv_sub hl [4, 5, 6, 7, 8, 1, 0] rfl) hM
              · exact hJ10  hM _ (lv_sub hl [2, 3, 4, 5, 6, 7, 8, 1, 0] rfl)
            · refine m_iload C hl 0 d_Md_interval_89 rfl ?_
              refine m_iload C hl 6 d_Md_interval_91 rfl ?_
              refine m_icmp_le C hM 110 d_Md_interval_93 (by decide) (fun hM => ?_) (fun hM => ?_)
              · refine m_iload C hl 1 d_Md_interval_110 rfl ?_
                refine m_iconst C d_Md_interval_112 ?_
                refine m_icmp_ne C hM 120 d_Md_interval_113 (by decide) (fun hM => ?_) (fun hM => ?_)
                · refine m_aload_n C hl 2 d_Md_interval_120 rfl rfl ?_
                  refine m_geti C w.1 kc_Md sh_83 (Nat.le_of_ble_eq_true rfl) 13 rfl (by decide) fk_Md_122 d_Md_interval_121 ?_
                  refine m_iload C hl 1 d_Md_interval_124 rfl ?_
                  refine m_isub C d_Md_interval_126 ?_
                  refine m_istore C hl [(5, .int (iZ ((h8 83 13) - x9))), (8, .int (iZ (v5 + x9))), (7, .int (iZ x9)), (0, .ref (ad 83)), (1, .int (iZ v1)), (2, .int (iZ v2)), (3, .int (iZ v3)), (4, .int (iZ v4)), (6, .int (iZ v6))] d_Md_interval_127 (by decide) rfl (fun ls hl => ?_)
                  refine m_iinc C hl 8 [(6, .int (iZ (v6 + 1))), (5, .int (iZ ((h8 83 13) - x9))), (8, .int (iZ (v5 + x9))), (7, .int (iZ x9)), (0, .ref (ad 83)), (1, .int (iZ v1)), (2, .int (iZ v2)), (3, .int (iZ v3)), (4, .int (iZ v4))] d_Md_interval_129 rfl (by decide) rfl (fun ls hl => ?_)
                  refine m_goto C 40 d_Md_interval_132 (by decide) ?_
                  exact ih v4 ((h8 83 13) - x9) (v6 + 1) h8 _ _ w _ (lv_sub hl [4, 5, 6, 7, 8, 1, 0] rfl) hM
                · refine m_iconst C d_Md_interval_116 ?_
                  refine m_goto C 127 d_Md_interval_117 (by decide) ?_
                  refine m_istore C hl [(5, .int (iZ (-1))), (8, .int (iZ (v5 + x9))), (7, .int (iZ x9)), (0, .ref (ad 83)), (1, .int (iZ v1)), (2, .int (iZ v2)), (3, .int (iZ v3)), (4, .int (iZ v4)), (6, .int (iZ v6))] d_Md_interval_127 (by decide) rfl (fun ls hl => ?_)
                  refine m_iinc C hl 8 [(6, .int (iZ (v6 + 1))), (5, .int (iZ (-1))), (8, .int (iZ (v5 + x9))), (7, .int (iZ x9)), (0, .ref (ad 83)), (1, .int (iZ v1)), (2, .int (iZ v2)), (3, .int (iZ v3)), (4, .int (iZ v4))] d_Md_interval_129 rfl (by decide) rfl (fun ls hl => ?_)
                  refine m_goto C 40 d_Md_interval_132 (by decide) ?_
                  exact ih v4 (-1) (v6 + 1) h8 _ _ w _ (lv_sub hl [4, 5, 6, 7, 8, 1, 0] rfl) hM
              · refine m_goto C 106 d_Md_interval_96 (by decide) ?_
                exact hJ10  hM _ (lv_sub hl [2, 3, 4, 5, 6, 7, 8, 1, 0] rfl)
set_option maxHeartbeats 4000000 in
set_option maxRecDepth 100000 in
theorem c_Md_interval {l : Launch} {D : va_G} {ad : Nat → Nat} {cA : Nat → ClassId} {sd sv : Nat → Nat} {h : Hp} {N : Nat} {a1 a2 : Int} {out : (Int × Hp)} (hI : Inj97 ad) (hM : M_Md_interval N h a1 a2 = some out) : Met l y_Md_interval (.code y_Md_interval prog_13_method_105_code 9 (some .int) :: TT) (rmD 8) (PC D ad cA sd sv h [.ref (ad 83), .int (iZ a1), .int (iZ a2)]) (QI D ad cA out) 0 0 (FA ad) := by
  unfold M_Md_interval at hM
  refine entM (by decide +kernel) hI (Nat.le_of_ble_eq_true rfl) ?_
  intro p e s m args below meth c C hr hlk hP ls hl
  have C : Cx p s m args c prog_13_method_105_code 9 "FeastBookModel" D ad cA sd sv (FA ad) := C
  have hl : lv_has ls 9 [(0, .ref (ad 83)), (1, .int (iZ a1)), (2, .int (iZ a2))] := hl
  have w : Wd s D ad cA (FA ad) h s.heap [] := ⟨hP, va_S.rf⟩
  refine m_aload_n C hl 0 d_Md_interval_0 rfl rfl ?_
  refine m_aload_n C hl 0 d_Md_interval_1 rfl rfl ?_
  refine m_iload_n C hl 1 d_Md_interval_2 rfl rfl ?_
  obtain ⟨x2, e1, hM⟩ := bnd_some hM
  refine aftR (runV C w.1 w.2 kc_Md sh_83 (Nat.le_of_ble_eq_true rfl) (c_Md_isFeast hI e1) lk_Md_311 mb_Md_isFeast rfl ⟨Nat.le_of_ble_eq_true rfl, Nat.le_of_ble_eq_true rfl⟩ ⟨Nat.zero_le _, Nat.zero_le _⟩ (Nat.le_of_ble_eq_true rfl) d_Md_interval_3 hl.1 (rest := [.ref (ad 83)]) rfl) ?_
  refine lt_join hM (fun j3 ej hM => ?_)
  have hJ3 : ∀ (s0_3 : Int), j3 s0_3 = some out → ∀ ls : Array Slot, lv_has ls 9 [(0, .ref (ad 83)), (1, .int (iZ a1)), (2, .int (iZ a2))] → W p l e (rmD 8) s m args below meth c s.heap [] 0 0 (MQ below (QI D ad cA out) args s 0 0 (FA ad)) (F0 m 14 ls [.int (iZ s0_3), .ref (ad 83)]) := by
    intro s0_3 hM ls hl
    subst ej
    dsimp only at hM
    refine m_puti C w kc_Md sh_83 (Nat.le_of_ble_eq_true rfl) 0 hM rfl (by decide) rfl rfl fk_Md_51 d_Md_interval_14 (fun h4 H locs w hM => ?_)
    refine m_aload_n C hl 0 d_Md_interval_17 rfl rfl ?_
    refine m_geti C w.1 kc_Md sh_83 (Nat.le_of_ble_eq_true rfl) 0 rfl (by decide) fk_Md_51 d_Md_interval_18 ?_
    refine m_if_le C hM 26 d_Md_interval_21 (by decide) (fun hM => ?_) (fun hM => ?_)
    · refine m_aload_n C hl 0 d_Md_interval_26 rfl rfl ?_
      obtain ⟨x6, e5, hM⟩ := bnd_some hM
      refine aftR (runV C w.1 w.2 kc_Md sh_83 (Nat.le_of_ble_eq_true rfl) (c_Md_cycle0 hI e5) lk_Md_326 mb_Md_cycle0 rfl ⟨Nat.le_of_ble_eq_true rfl, Nat.le_of_ble_eq_true rfl⟩ ⟨Nat.zero_le _, Nat.zero_le _⟩ (Nat.le_of_ble_eq_true rfl) d_Md_interval_27 hl.1 (rest := []) rfl) ?_
      refine m_istore_n C hl [(3, .int (iZ x6)), (0, .ref (ad 83)), (1, .int (iZ a1)), (2, .int (iZ a2))] d_Md_interval_30 rfl (by decide) rfl (fun ls hl => ?_)
      refine m_iconst C d_Md_interval_31 ?_
      refine m_istore C hl [(4, .int (iZ (-1))), (3, .int (iZ x6)), (0, .ref (ad 83)), (1, .int (iZ a1)), (2, .int (iZ a2))] d_Md_interval_32 (by decide) rfl (fun ls hl => ?_)
      refine m_iconst C d_Md_interval_34 ?_
      refine m_istore C hl [(5, .int (iZ (-1))), (4, .int (iZ (-1))), (3, .int (iZ x6)), (0, .ref (ad 83)), (1, .int (iZ a1)), (2, .int (iZ a2))] d_Md_interval_35 (by decide) rfl (fun ls hl => ?_)
      refine m_iconst C d_Md_interval_37 ?_
      refine m_istore C hl [(6, .int (iZ 0)), (5, .int (iZ (-1))), (4, .int (iZ (-1))), (3, .int (iZ x6)), (0, .ref (ad 83)), (1, .int (iZ a1)), (2, .int (iZ a2))] d_Md_interval_38 (by decide) rfl (fun ls hl => ?_)
      exact w_Md_interval_L40 N hI C hr hlk a1 a2 x6 _ (-1) (-1) 0 h4 _ _ w _ (lv_sub hl [4, 5, 6, 3, 2, 1, 0] rfl) hM
    · refine m_iconst C d_Md_interval_24 ?_
      exact m_iretW C w hr hlk hM d_Md_interval_25
  refine m_if_eq C hM 13 d_Md_interval_6 (by decide) (fun hM => ?_) (fun hM => ?_)
  · refine m_iconst C d_Md_interval_13 ?_
    exact hJ3 1 hM _ hl
  · refine m_iconst C d_Md_interval_9 ?_
    refine m_goto C 14 d_Md_interval_10 (by decide) ?_
    exact hJ3 0 hM _ hl
def y_Md_order : MethodName := ⟨"FeastBookModel", "order", "(I)I"⟩
theorem d_Md_order_0 : decode prog_13_method_106_code 0 = .ok (.aload_n 0, 1) := by decide +kernel
theorem d_Md_order_1 : decode prog_13_method_106_code 1 = .ok (.iconst 0, 1) := by decide +kernel
theorem d_Md_order_2 : decode prog_13_method_106_code 2 = .ok (.putfield 51, 3) := by decide +kernel
theorem d_Md_order_5 : decode prog_13_method_106_code 5 = .ok (.aload_n 0, 1) := by decide +kernel
theorem d_Md_order_6 : decode prog_13_method_106_code 6 = .ok (.invokevirtual 148, 3) := by decide +kernel
theorem d_Md_order_9 : decode prog_13_method_106_code 9 = .ok (.iload_n 1, 1) := by decide +kernel
theorem d_Md_order_10 : decode prog_13_method_106_code 10 = .ok (.iconst 0, 1) := by decide +kernel
theorem d_Md_order_11 : decode prog_13_method_106_code 11 = .ok (.aload_n 0, 1) := by decide +kernel
theorem d_Md_order_12 : decode prog_13_method_106_code 12 = .ok (.getfield 7, 3) := by decide +kernel
theorem d_Md_order_15 : decode prog_13_method_106_code 15 = .ok (.bipush 42, 2) := by decide +kernel
theorem d_Md_order_17 : decode prog_13_method_106_code 17 = .ok (.iaload, 1) := by decide +kernel
theorem d_Md_order_18 : decode prog_13_method_106_code 18 = .ok (.iconst 1, 1) := by decide +kernel
theorem d_Md_order_19 : decode prog_13_method_106_code 19 = .ok (.isub, 1) := by decide +kernel
theorem d_Md_order_20 : decode prog_13_method_106_code 20 = .ok (.invokestatic 54, 3) := by decide +kernel
theorem d_Md_order_23 : decode prog_13_method_106_code 23 = .ok (.ifCond .eq 12, 3) := by decide +kernel
theorem d_Md_order_26 : decode prog_13_method_106_code 26 = .ok (.aload_n 0, 1) := by decide +kernel
theorem d_Md_order_27 : decode prog_13_method_106_code 27 = .ok (.getfield 44, 3) := by decide +kernel
theorem d_Md_order_30 : decode prog_13_method_106_code 30 = .ok (.iload_n 1, 1) := by decide +kernel
theorem d_Md_order_31 : decode prog_13_method_106_code 31 = .ok (.iaload, 1) := by decide +kernel
theorem d_Md_order_32 : decode prog_13_method_106_code 32 = .ok (.goto 4, 3) := by decide +kernel
theorem d_Md_order_35 : decode prog_13_method_106_code 35 = .ok (.iconst (-1), 1) := by decide +kernel
theorem d_Md_order_36 : decode prog_13_method_106_code 36 = .ok (.ireturn, 1) := by decide +kernel
set_option maxHeartbeats 4000000 in
set_option maxRecDepth 100000 in
theorem c_Md_order {l : Launch} {D : va_G} {ad : Nat → Nat} {cA : Nat → ClassId} {sd sv : Nat → Nat} {h : Hp} {N : Nat} {a1 : Int} {out : (Int × Hp)} (hI : Inj97 ad) (hM : M_Md_order N h a1 = some out) : Met l y_Md_order (.code y_Md_order prog_13_method_106_code 2 (some .int) :: TT) (rmD 4) (PC D ad cA sd sv h [.ref (ad 83), .int (iZ a1)]) (QI D ad cA out) 0 0 (FA ad) := by
  unfold M_Md_order at hM
  refine entM (by decide +kernel) hI (Nat.le_of_ble_eq_true rfl) ?_
  intro p e s m args below meth c C hr hlk hP ls hl
  have C : Cx p s m args c prog_13_method_106_code 2 "FeastBookModel" D ad cA sd sv (FA ad) := C
  have hl : lv_has ls 2 [(0, .ref (ad 83)), (1, .int (iZ a1))] := hl
  have w : Wd s D ad cA (FA ad) h s.heap [] := ⟨hP, va_S.rf⟩
  refine m_aload_n C hl 0 d_Md_order_0 rfl rfl ?_
  refine m_iconst C d_Md_order_1 ?_
  refine m_puti C w kc_Md sh_83 (Nat.le_of_ble_eq_true rfl) 0 hM rfl (by decide) rfl rfl fk_Md_51 d_Md_order_2 (fun h1 H locs w hM => ?_)
  refine m_aload_n C hl 0 d_Md_order_5 rfl rfl ?_
  obtain ⟨h3, e2, hM⟩ := bnd_some hM
  refine aftV C w (runV C w.1 w.2 kc_Md sh_83 (Nat.le_of_ble_eq_true rfl) (c_Md_laysRow hI e2) lk_Md_148 mb_Md_laysRow rfl ⟨Nat.le_of_ble_eq_true rfl, Nat.le_of_ble_eq_true rfl⟩ ⟨Nat.zero_le _, Nat.zero_le _⟩ (Nat.le_of_ble_eq_true rfl) d_Md_order_6 hl.1 (rest := []) rfl) (fun H locs w => ?_)
  refine m_iload_n C hl 1 d_Md_order_9 rfl rfl ?_
  refine m_iconst C d_Md_order_10 ?_
  refine m_aload_n C hl 0 d_Md_order_11 rfl rfl ?_
  refine m_getr C w.1 kc_Md sh_83 (Nat.le_of_ble_eq_true rfl) 1 84 rfl (by decide) fk_Md_7 d_Md_order_12 ?_
  refine m_bipush C d_Md_order_15 (by decide) ?_
  refine m_iald C w.1 sh_84 (Nat.le_of_ble_eq_true rfl) (Nat.le_of_ble_eq_true rfl) hM d_Md_order_17 (fun x4 hM => ?_)
  refine m_iconst C d_Md_order_18 ?_
  refine m_isub C d_Md_order_19 ?_
  obtain ⟨x6, e5, hM⟩ := bnd_some hM
  refine aftR (runS C w.1 w.2 (c_Md_isIn hI e5) lk_Md_54 mb_Md_isIn rfl ⟨Nat.le_of_ble_eq_true rfl, Nat.le_of_ble_eq_true rfl⟩ ⟨Nat.zero_le _, Nat.zero_le _⟩ (Nat.le_of_ble_eq_true rfl) d_Md_order_20 hl.1 (rest := []) rfl) ?_
  refine m_if_eq C hM 35 d_Md_order_23 (by decide) (fun hM => ?_) (fun hM => ?_)
  · refine m_iconst C d_Md_order_35 ?_
    exact m_iretW C w hr hlk hM d_Md_order_36
  · refine m_aload_n C hl 0 d_Md_order_26 rfl rfl ?_
    refine m_getr C w.1 kc_Md sh_83 (Nat.le_of_ble_eq_true rfl) 21 94 rfl (by decide) fk_Md_44 d_Md_order_27 ?_
    refine m_iload_n C hl 1 d_Md_order_30 rfl rfl ?_
    refine m_iald C w.1 sh_94 (Nat.le_of_ble_eq_true rfl) (Nat.le_of_ble_eq_true rfl) hM d_Md_order_31 (fun x7 hM => ?_)
    refine m_goto C 36 d_Md_order_32 (by decide) ?_
    exact m_iretW C w hr hlk hM d_Md_order_36
def y_Md_canTell : MethodName := ⟨"FeastBookModel", "canTell", "(II)Z"⟩
theorem d_Md_canTell_0 : decode prog_13_method_107_code 0 = .ok (.aload_n 0, 1) := by decide +kernel
theorem d_Md_canTell_1 : decode prog_13_method_107_code 1 = .ok (.iload_n 1, 1) := by decide +kernel
theorem d_Md_canTell_2 : decode prog_13_method_107_code 2 = .ok (.iconst 1, 1) := by decide +kernel
theorem d_Md_canTell_3 : decode prog_13_method_107_code 3 = .ok (.invokevirtual 90, 3) := by decide +kernel
theorem d_Md_canTell_6 : decode prog_13_method_107_code 6 = .ok (.iconst 1, 1) := by decide +kernel
theorem d_Md_canTell_7 : decode prog_13_method_107_code 7 = .ok (.if_icmp .ne 12, 3) := by decide +kernel
theorem d_Md_canTell_10 : decode prog_13_method_107_code 10 = .ok (.iload_n 2, 1) := by decide +kernel
theorem d_Md_canTell_11 : decode prog_13_method_107_code 11 = .ok (.bipush (-99), 2) := by decide +kernel
theorem d_Md_canTell_13 : decode prog_13_method_107_code 13 = .ok (.bipush 99, 2) := by decide +kernel
theorem d_Md_canTell_15 : decode prog_13_method_107_code 15 = .ok (.invokestatic 54, 3) := by decide +kernel
theorem d_Md_canTell_18 : decode prog_13_method_107_code 18 = .ok (.ireturn, 1) := by decide +kernel
theorem d_Md_canTell_19 : decode prog_13_method_107_code 19 = .ok (.iload_n 2, 1) := by decide +kernel
theorem d_Md_canTell_20 : decode prog_13_method_107_code 20 = .ok (.iconst 0, 1) := by decide +kernel
theorem d_Md_canTell_21 : decode prog_13_method_107_code 21 = .ok (.aload_n 0, 1) := by decide +kernel
theorem d_Md_canTell_22 : decode prog_13_method_107_code 22 = .ok (.getfield 7, 3) := by decide +kernel
theorem d_Md_canTell_25 : decode prog_13_method_107_code 25 = .ok (.iconst 2, 1) := by decide +kernel
theorem d_Md_canTell_26 : decode prog_13_method_107_code 26 = .ok (.aload_n 0, 1) := by decide +kernel
theorem d_Md_canTell_27 : decode prog_13_method_107_code 27 = .ok (.iload_n 1, 1) := by decide +kernel
theorem d_Md_canTell_28 : decode prog_13_method_107_code 28 = .ok (.iconst 2, 1) := by decide +kernel
theorem d_Md_canTell_29 : decode prog_13_method_107_code 29 = .ok (.invokevirtual 90, 3) := by decide +kernel
theorem d_Md_canTell_32 : decode prog_13_method_107_code 32 = .ok (.iadd, 1) := by decide +kernel
theorem d_Md_canTell_33 : decode prog_13_method_107_code 33 = .ok (.iaload, 1) := by decide +kernel
theorem d_Md_canTell_34 : decode prog_13_method_107_code 34 = .ok (.iconst 1, 1) := by decide +kernel
theorem d_Md_canTell_35 : decode prog_13_method_107_code 35 = .ok (.isub, 1) := by decide +kernel
theorem d_Md_canTell_36 : decode prog_13_method_107_code 36 = .ok (.invokestatic 54, 3) := by decide +kernel
theorem d_Md_canTell_39 : decode prog_13_method_107_code 39 = .ok (.ireturn, 1) := by decide +kernel
set_option maxHeartbeats 4000000 in
set_option maxRecDepth 100000 in
theorem c_Md_canTell {l : Launch} {D : va_G} {ad : Nat → Nat} {cA : Nat → ClassId} {sd sv : Nat → Nat} {h : Hp} {a1 a2 : Int} {out : Int} (hI : Inj97 ad) (hM : M_Md_canTell h a1 a2 = some out) : Met l y_Md_canTell (.code y_Md_canTell prog_13_method_107_code 3 (some .boolean) :: TT) (rmD 1) (PC D ad cA sd sv h [.ref (ad 83), .int (iZ a1), .int (iZ a2)]) (QR out) 0 0 (fun _ => False) := by
  unfold M_Md_canTell at hM
  refine entM (by decide +kernel) hI (Nat.le_of_ble_eq_true rfl) ?_
  intro p e s m args below meth c C hr hlk hP ls hl
  have C : Cx p s m args c prog_13_method_107_code 3 "FeastBookModel" D ad cA sd sv (FA ad) := C
  have hl : lv_has ls 3 [(0, .ref (ad 83)), (1, .int (iZ a1)), (2, .int (iZ a2))] := hl
  refine m_aload_n C hl 0 d_Md_canTell_0 rfl rfl ?_
  refine m_iload_n C hl 1 d_Md_canTell_1 rfl rfl ?_
  refine m_iconst C d_Md_canTell_2 ?_
  obtain ⟨x2, e1, hM⟩ := bnd_some hM
  refine aftR (runV C hP va_S.rf kc_Md sh_83 (Nat.le_of_ble_eq_true rfl) (c_Md_of0 hI e1) lk_Md_90 mb_Md_of0 rfl ⟨Nat.le_of_ble_eq_true rfl, Nat.le_of_ble_eq_true rfl⟩ ⟨Nat.zero_le _, Nat.zero_le _⟩ (Nat.le_of_ble_eq_true rfl) d_Md_canTell_3 hl.1 (rest := []) rfl) ?_
  refine m_iconst C d_Md_canTell_6 ?_
  refine m_icmp_ne C hM 19 d_Md_canTell_7 (by decide) (fun hM => ?_) (fun hM => ?_)
  · refine m_iload_n C hl 2 d_Md_canTell_19 rfl rfl ?_
    refine m_iconst C d_Md_canTell_20 ?_
    refine m_aload_n C hl 0 d_Md_canTell_21 rfl rfl ?_
    refine m_getr C hP kc_Md sh_83 (Nat.le_of_ble_eq_true rfl) 1 84 rfl (by decide) fk_Md_7 d_Md_canTell_22 ?_
    refine m_iconst C d_Md_canTell_25 ?_
    refine m_aload_n C hl 0 d_Md_canTell_26 rfl rfl ?_
    refine m_iload_n C hl 1 d_Md_canTell_27 rfl rfl ?_
    refine m_iconst C d_Md_canTell_28 ?_
    obtain ⟨x4, e3, hM⟩ := bnd_some hM
    refine aftR (runV C hP va_S.rf kc_Md sh_83 (Nat.le_of_ble_eq_true rfl) (c_Md_of0 hI e3) lk_Md_90 mb_Md_of0 rfl ⟨Nat.le_of_ble_eq_true rfl, Nat.le_of_ble_eq_true rfl⟩ ⟨Nat.zero_le _, Nat.zero_le _⟩ (Nat.le_of_ble_eq_true rfl) d_Md_canTell_29 hl.1 (rest := [.int (iZ 2), .ref (ad 84), .int (iZ 0), .int (iZ a2)]) rfl) ?_
    refine m_iadd C d_Md_canTell_32 ?_
    refine m_iald C hP sh_84 (Nat.le_of_ble_eq_true rfl) (Nat.le_of_ble_eq_true rfl) hM d_Md_canTell_33 (fun x5 hM => ?_)
    refine m_iconst C d_Md_canTell_34 ?_
    refine m_isub C d_Md_canTell_35 ?_
    obtain ⟨x7, e6, hM⟩ := bnd_some hM
    refine aftR (runS C hP va_S.rf (c_Md_isIn hI e6) lk_Md_54 mb_Md_isIn rfl ⟨Nat.le_of_ble_eq_true rfl, Nat.le_of_ble_eq_true rfl⟩ ⟨Nat.zero_le _, Nat.zero_le _⟩ (Nat.le_of_ble_eq_true rfl) d_Md_canTell_36 hl.1 (rest := []) rfl) ?_
    exact m_zretR C hr hlk hM d_Md_canTell_39
  · refine m_iload_n C hl 2 d_Md_canTell_10 rfl rfl ?_
    refine m_bipush C d_Md_canTell_11 (by decide) ?_
    refine m_bipush C d_Md_canTell_13 (by decide) ?_
    obtain ⟨x9, e8, hM⟩ := bnd_some hM
    refine aftR (runS C hP va_S.rf (c_Md_isIn hI e8) lk_Md_54 mb_Md_isIn rfl ⟨Nat.le_of_ble_eq_true rfl, Nat.le_of_ble_eq_true rfl⟩ ⟨Nat.zero_le _, Nat.zero_le _⟩ (Nat.le_of_ble_eq_true rfl) d_Md_canTell_15 hl.1 (rest := []) rfl) ?_
    exact m_zretR C hr hlk hM d_Md_canTell_18

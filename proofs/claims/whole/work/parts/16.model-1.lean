def y_Md_thrown : MethodName := ⟨"FeastBookModel", "thrown", "()I"⟩
theorem d_Md_thrown_0 : decode prog_13_method_2_code 0 = .ok (.aload_n 0, 1) := by decide +kernel
theorem d_Md_thrown_1 : decode prog_13_method_2_code 1 = .ok (.getfield 51, 3) := by decide +kernel
theorem d_Md_thrown_4 : decode prog_13_method_2_code 4 = .ok (.ireturn, 1) := by decide +kernel
theorem fk_Md_51 : Cond.fieldLink "FeastBookModel" 51 (T_Md 0).1 (T_Md 0).2.1 (T_Md 0).2.2.1 ∈ TT := mT8 96 (by decide +kernel) (by decide +kernel)
def M_Md_thrown (h : Hp) : Option Int := some (h 83 0)
set_option maxHeartbeats 4000000 in
set_option maxRecDepth 100000 in
theorem c_Md_thrown {l : Launch} {D : va_G} {ad : Nat → Nat} {cA : Nat → ClassId} {sd sv : Nat → Nat} {h : Hp} {out : Int} (hI : Inj97 ad) (hM : M_Md_thrown h = some out) : Met l y_Md_thrown (.code y_Md_thrown prog_13_method_2_code 1 (some .int) :: TT) (rmD 0) (PC D ad cA sd sv h [.ref (ad 83)]) (QR out) 0 0 (fun _ => False) := by
  unfold M_Md_thrown at hM
  refine entM (by decide +kernel) hI (Nat.le_of_ble_eq_true rfl) ?_
  intro p e s m args below meth c C hr hlk hP ls hl
  have C : Cx p s m args c prog_13_method_2_code 1 "FeastBookModel" D ad cA sd sv (FA ad) := C
  have hl : lv_has ls 1 [(0, .ref (ad 83))] := hl
  refine m_aload_n C hl 0 d_Md_thrown_0 rfl rfl ?_
  refine m_geti C hP kc_Md sh_83 (Nat.le_of_ble_eq_true rfl) 0 rfl (by decide) fk_Md_51 d_Md_thrown_1 ?_
  exact m_iretR C hr hlk hM d_Md_thrown_4
def y_Md_feed : MethodName := ⟨"FeastBookModel", "feed", "(IIIII)I"⟩
theorem d_Md_feed_0 : decode prog_13_method_37_code 0 = .ok (.aload_n 0, 1) := by decide +kernel
theorem d_Md_feed_1 : decode prog_13_method_37_code 1 = .ok (.iconst 0, 1) := by decide +kernel
theorem d_Md_feed_2 : decode prog_13_method_37_code 2 = .ok (.putfield 51, 3) := by decide +kernel
theorem d_Md_feed_5 : decode prog_13_method_37_code 5 = .ok (.aload_n 0, 1) := by decide +kernel
theorem d_Md_feed_6 : decode prog_13_method_37_code 6 = .ok (.getfield 160, 3) := by decide +kernel
theorem d_Md_feed_9 : decode prog_13_method_37_code 9 = .ok (.bipush 20, 2) := by decide +kernel
theorem d_Md_feed_11 : decode prog_13_method_37_code 11 = .ok (.iadd, 1) := by decide +kernel
theorem d_Md_feed_12 : decode prog_13_method_37_code 12 = .ok (.sipush 400, 3) := by decide +kernel
theorem d_Md_feed_15 : decode prog_13_method_37_code 15 = .ok (.if_icmp .le 5, 3) := by decide +kernel
theorem d_Md_feed_18 : decode prog_13_method_37_code 18 = .ok (.iconst (-1), 1) := by decide +kernel
theorem d_Md_feed_19 : decode prog_13_method_37_code 19 = .ok (.ireturn, 1) := by decide +kernel
theorem d_Md_feed_20 : decode prog_13_method_37_code 20 = .ok (.iconst 0, 1) := by decide +kernel
theorem d_Md_feed_21 : decode prog_13_method_37_code 21 = .ok (.istore 6, 2) := by decide +kernel
theorem d_Md_feed_23 : decode prog_13_method_37_code 23 = .ok (.iload 6, 2) := by decide +kernel
theorem d_Md_feed_25 : decode prog_13_method_37_code 25 = .ok (.bipush 20, 2) := by decide +kernel
theorem d_Md_feed_27 : decode prog_13_method_37_code 27 = .ok (.if_icmp .ge 93, 3) := by decide +kernel
theorem d_Md_feed_30 : decode prog_13_method_37_code 30 = .ok (.iload 6, 2) := by decide +kernel
theorem d_Md_feed_32 : decode prog_13_method_37_code 32 = .ok (.iconst 4, 1) := by decide +kernel
theorem d_Md_feed_33 : decode prog_13_method_37_code 33 = .ok (.if_icmp .ge 7, 3) := by decide +kernel
theorem d_Md_feed_36 : decode prog_13_method_37_code 36 = .ok (.iload_n 1, 1) := by decide +kernel
theorem d_Md_feed_37 : decode prog_13_method_37_code 37 = .ok (.goto 39, 3) := by decide +kernel
theorem d_Md_feed_40 : decode prog_13_method_37_code 40 = .ok (.iload 6, 2) := by decide +kernel
theorem d_Md_feed_42 : decode prog_13_method_37_code 42 = .ok (.bipush 8, 2) := by decide +kernel
theorem d_Md_feed_44 : decode prog_13_method_37_code 44 = .ok (.if_icmp .ge 7, 3) := by decide +kernel
theorem d_Md_feed_47 : decode prog_13_method_37_code 47 = .ok (.iload_n 2, 1) := by decide +kernel
theorem d_Md_feed_48 : decode prog_13_method_37_code 48 = .ok (.goto 28, 3) := by decide +kernel
theorem d_Md_feed_51 : decode prog_13_method_37_code 51 = .ok (.iload 6, 2) := by decide +kernel
theorem d_Md_feed_53 : decode prog_13_method_37_code 53 = .ok (.bipush 12, 2) := by decide +kernel
theorem d_Md_feed_55 : decode prog_13_method_37_code 55 = .ok (.if_icmp .ge 7, 3) := by decide +kernel
theorem d_Md_feed_58 : decode prog_13_method_37_code 58 = .ok (.iload_n 3, 1) := by decide +kernel
theorem d_Md_feed_59 : decode prog_13_method_37_code 59 = .ok (.goto 17, 3) := by decide +kernel
theorem d_Md_feed_62 : decode prog_13_method_37_code 62 = .ok (.iload 6, 2) := by decide +kernel
theorem d_Md_feed_64 : decode prog_13_method_37_code 64 = .ok (.bipush 16, 2) := by decide +kernel
theorem d_Md_feed_66 : decode prog_13_method_37_code 66 = .ok (.if_icmp .ge 8, 3) := by decide +kernel
theorem d_Md_feed_69 : decode prog_13_method_37_code 69 = .ok (.iload 4, 2) := by decide +kernel
theorem d_Md_feed_71 : decode prog_13_method_37_code 71 = .ok (.goto 5, 3) := by decide +kernel
theorem d_Md_feed_74 : decode prog_13_method_37_code 74 = .ok (.iload 5, 2) := by decide +kernel
theorem d_Md_feed_76 : decode prog_13_method_37_code 76 = .ok (.istore 7, 2) := by decide +kernel
theorem d_Md_feed_78 : decode prog_13_method_37_code 78 = .ok (.aload_n 0, 1) := by decide +kernel
theorem d_Md_feed_79 : decode prog_13_method_37_code 79 = .ok (.getfield 19, 3) := by decide +kernel
theorem d_Md_feed_82 : decode prog_13_method_37_code 82 = .ok (.aload_n 0, 1) := by decide +kernel
theorem d_Md_feed_83 : decode prog_13_method_37_code 83 = .ok (.getfield 160, 3) := by decide +kernel
theorem d_Md_feed_86 : decode prog_13_method_37_code 86 = .ok (.iload 7, 2) := by decide +kernel
theorem d_Md_feed_88 : decode prog_13_method_37_code 88 = .ok (.bipush 24, 2) := by decide +kernel
theorem d_Md_feed_90 : decode prog_13_method_37_code 90 = .ok (.bipush 8, 2) := by decide +kernel
theorem d_Md_feed_92 : decode prog_13_method_37_code 92 = .ok (.iload 6, 2) := by decide +kernel
theorem d_Md_feed_94 : decode prog_13_method_37_code 94 = .ok (.iconst 4, 1) := by decide +kernel
theorem d_Md_feed_95 : decode prog_13_method_37_code 95 = .ok (.irem, 1) := by decide +kernel
theorem d_Md_feed_96 : decode prog_13_method_37_code 96 = .ok (.imul, 1) := by decide +kernel
theorem d_Md_feed_97 : decode prog_13_method_37_code 97 = .ok (.isub, 1) := by decide +kernel
theorem d_Md_feed_98 : decode prog_13_method_37_code 98 = .ok (.iushr, 1) := by decide +kernel
theorem d_Md_feed_99 : decode prog_13_method_37_code 99 = .ok (.sipush 255, 3) := by decide +kernel
theorem d_Md_feed_102 : decode prog_13_method_37_code 102 = .ok (.iand, 1) := by decide +kernel
theorem d_Md_feed_103 : decode prog_13_method_37_code 103 = .ok (.iastore, 1) := by decide +kernel
theorem d_Md_feed_104 : decode prog_13_method_37_code 104 = .ok (.aload_n 0, 1) := by decide +kernel
theorem d_Md_feed_105 : decode prog_13_method_37_code 105 = .ok (.dup, 1) := by decide +kernel
theorem d_Md_feed_106 : decode prog_13_method_37_code 106 = .ok (.getfield 160, 3) := by decide +kernel
theorem d_Md_feed_109 : decode prog_13_method_37_code 109 = .ok (.iconst 1, 1) := by decide +kernel
theorem d_Md_feed_110 : decode prog_13_method_37_code 110 = .ok (.iadd, 1) := by decide +kernel
theorem d_Md_feed_111 : decode prog_13_method_37_code 111 = .ok (.putfield 160, 3) := by decide +kernel
theorem d_Md_feed_114 : decode prog_13_method_37_code 114 = .ok (.iinc 6 1, 3) := by decide +kernel
theorem d_Md_feed_117 : decode prog_13_method_37_code 117 = .ok (.goto (-94), 3) := by decide +kernel
theorem d_Md_feed_120 : decode prog_13_method_37_code 120 = .ok (.aload_n 0, 1) := by decide +kernel
theorem d_Md_feed_121 : decode prog_13_method_37_code 121 = .ok (.getfield 160, 3) := by decide +kernel
theorem d_Md_feed_124 : decode prog_13_method_37_code 124 = .ok (.ireturn, 1) := by decide +kernel
theorem fk_Md_160 : Cond.fieldLink "FeastBookModel" 160 (T_Md 7).1 (T_Md 7).2.1 (T_Md 7).2.2.1 ∈ TT := mT8 103 (by decide +kernel) (by decide +kernel)
theorem fk_Md_19 : Cond.fieldLink "FeastBookModel" 19 (T_Md 6).1 (T_Md 6).2.1 (T_Md 6).2.2.1 ∈ TT := mT8 102 (by decide +kernel) (by decide +kernel)
def Md_feed_L23 (N : Nat) (v1 v2 v3 v4 v5 : Int) : Nat → Int → Hp → Option (Int × Hp)
  | 0, _, _ => none
  | n + 1, v6, h => if leb 20 v6 then some (h 83 7, h) else lt' (fun (s0_2 : Int) => (rmI v6 4).bind (fun x3 => (wrA h 87 400 (h 83 7) (andI (ushrI s0_2 (24 - (8 * x3))) 255)).bind (fun h4 => lt' (hs h4 83 7 ((h4 83 7) + 1)) (fun h5 => Md_feed_L23 N v1 v2 v3 v4 v5 n (v6 + 1) h5)))) (fun j2 => if leb 4 v6 then if leb 8 v6 then if leb 12 v6 then if leb 16 v6 then j2 v5 else j2 v4 else j2 v3 else j2 v2 else j2 v1)
def M_Md_feed (N : Nat) (h : Hp) (a1 a2 a3 a4 a5 : Int) : Option (Int × Hp) := lt' (hs h 83 0 0) (fun h1 => if leb ((h1 83 7) + 20) 400 then Md_feed_L23 N a1 a2 a3 a4 a5 N 0 h1 else some ((-1), h1))
set_option maxHeartbeats 4000000 in
set_option maxRecDepth 100000 in
theorem w_Md_feed_L23 {p : Program} {l : Launch} {e : Env} {s : State} {m : MethodId} {args : Array Value} {below : List Frame} {meth : Method} {c : Code} {D : va_G} {ad : Nat → Nat} {cA : Nat → ClassId} {sd sv : Nat → Nat} {out : (Int × Hp)} (N : Nat) (hI : Inj97 ad) (C : Cx p s m args c prog_13_method_37_code 8 "FeastBookModel" D ad cA sd sv (FA ad)) (hr : meth.sig.returnType = (some .int)) (hlk : meth.locks = false) (v1 v2 v3 v4 v5 : Int) : ∀ (n : Nat) (v6 : Int) (h : Hp) (H : Heap) (locs : List Loc), Wd s D ad cA (FA ad) h H locs → ∀ ls : Array Slot, lv_has ls 8 [(0, .ref (ad 83)), (1, .int (iZ v1)), (2, .int (iZ v2)), (3, .int (iZ v3)), (4, .int (iZ v4)), (5, .int (iZ v5)), (6, .int (iZ v6))] → Md_feed_L23 N v1 v2 v3 v4 v5 n v6 h = some out → W p l e (rmD 0) s m args below meth c H locs 0 0 (MQ below (QI D ad cA out) args s 0 0 (FA ad)) (F0 m 23 ls []) := by
  intro n
  induction n with
  | zero =>
    intro v6 h H locs w ls hl hM
    rw [Md_feed_L23] at hM
    cases hM
  | succ n ih =>
    intro v6 h H locs w ls hl hM
    rw [Md_feed_L23] at hM
    refine m_iload C hl 6 d_Md_feed_23 rfl ?_
    refine m_bipush C d_Md_feed_25 (by decide) ?_
    refine m_icmp_ge C hM 120 d_Md_feed_27 (by decide) (fun hM => ?_) (fun hM => ?_)
    · refine m_aload_n C hl 0 d_Md_feed_120 rfl rfl ?_
      refine m_geti C w.1 kc_Md sh_83 (Nat.le_of_ble_eq_true rfl) 7 rfl (by decide) fk_Md_160 d_Md_feed_121 ?_
      exact m_iretW C w hr hlk hM d_Md_feed_124
    · refine m_iload C hl 6 d_Md_feed_30 rfl ?_
      refine m_iconst C d_Md_feed_32 ?_
      refine lt_join hM (fun j2 ej hM => ?_)
      have hJ2 : ∀ (s0_2 : Int), j2 s0_2 = some out → ∀ ls : Array Slot, lv_has ls 8 [(0, .ref (ad 83)), (1, .int (iZ v1)), (2, .int (iZ v2)), (3, .int (iZ v3)), (4, .int (iZ v4)), (5, .int (iZ v5)), (6, .int (iZ v6))] → W p l e (rmD 0) s m args below meth c H locs 0 0 (MQ below (QI D ad cA out) args s 0 0 (FA ad)) (F0 m 76 ls [.int (iZ s0_2)]) := by
        intro s0_2 hM ls hl
        subst ej
        dsimp only at hM
        refine m_istore C hl [(7, .int (iZ s0_2)), (0, .ref (ad 83)), (1, .int (iZ v1)), (2, .int (iZ v2)), (3, .int (iZ v3)), (4, .int (iZ v4)), (5, .int (iZ v5)), (6, .int (iZ v6))] d_Md_feed_76 (by decide) rfl (fun ls hl => ?_)
        refine m_aload_n C hl 1 d_Md_feed_78 rfl rfl ?_
        refine m_getr C w.1 kc_Md sh_83 (Nat.le_of_ble_eq_true rfl) 6 87 rfl (by decide) fk_Md_19 d_Md_feed_79 ?_
        refine m_aload_n C hl 1 d_Md_feed_82 rfl rfl ?_
        refine m_geti C w.1 kc_Md sh_83 (Nat.le_of_ble_eq_true rfl) 7 rfl (by decide) fk_Md_160 d_Md_feed_83 ?_
        refine m_iload C hl 0 d_Md_feed_86 rfl ?_
        refine m_bipush C d_Md_feed_88 (by decide) ?_
        refine m_bipush C d_Md_feed_90 (by decide) ?_
        refine m_iload C hl 7 d_Md_feed_92 rfl ?_
        refine m_iconst C d_Md_feed_94 ?_
        refine m_irem C hM d_Md_feed_95 (fun x3 hM => ?_)
        refine m_imul C d_Md_feed_96 ?_
        refine m_isub C d_Md_feed_97 ?_
        refine m_iushr C d_Md_feed_98 ?_
        refine m_sipush C d_Md_feed_99 (by decide) ?_
        refine m_iand C d_Md_feed_102 ?_
        refine m_iast C w sh_87 (Nat.le_of_ble_eq_true rfl) (Nat.le_of_ble_eq_true rfl) hM d_Md_feed_103 (fun h4 H locs w hM => ?_)
        refine m_aload_n C hl 1 d_Md_feed_104 rfl rfl ?_
        refine m_dup C d_Md_feed_105 rfl ?_
        refine m_geti C w.1 kc_Md sh_83 (Nat.le_of_ble_eq_true rfl) 7 rfl (by decide) fk_Md_160 d_Md_feed_106 ?_
        refine m_iconst C d_Md_feed_109 ?_
        refine m_iadd C d_Md_feed_110 ?_
        refine m_puti C w kc_Md sh_83 (Nat.le_of_ble_eq_true rfl) 7 hM rfl (by decide) rfl rfl fk_Md_160 d_Md_feed_111 (fun h5 H locs w hM => ?_)
        refine m_iinc C hl 7 [(6, .int (iZ (v6 + 1))), (7, .int (iZ s0_2)), (0, .ref (ad 83)), (1, .int (iZ v1)), (2, .int (iZ v2)), (3, .int (iZ v3)), (4, .int (iZ v4)), (5, .int (iZ v5))] d_Md_feed_114 rfl (by decide) rfl (fun ls hl => ?_)
        refine m_goto C 23 d_Md_feed_117 (by decide) ?_
        exact ih (v6 + 1) h5 _ _ w _ (lv_sub hl [2, 3, 4, 5, 6, 7, 0] rfl) hM
      refine m_icmp_ge C hM 40 d_Md_feed_33 (by decide) (fun hM => ?_) (fun hM => ?_)
      · refine m_iload C hl 6 d_Md_feed_40 rfl ?_
        refine m_bipush C d_Md_feed_42 (by decide) ?_
        refine m_icmp_ge C hM 51 d_Md_feed_44 (by decide) (fun hM => ?_) (fun hM => ?_)
        · refine m_iload C hl 6 d_Md_feed_51 rfl ?_
          refine m_bipush C d_Md_feed_53 (by decide) ?_
          refine m_icmp_ge C hM 62 d_Md_feed_55 (by decide) (fun hM => ?_) (fun hM => ?_)
          · refine m_iload C hl 6 d_Md_feed_62 rfl ?_
            refine m_bipush C d_Md_feed_64 (by decide) ?_
            refine m_icmp_ge C hM 74 d_Md_feed_66 (by decide) (fun hM => ?_) (fun hM => ?_)
            · refine m_iload C hl 5 d_Md_feed_74 rfl ?_
              exact hJ2 v5 hM _ hl
            · refine m_iload C hl 4 d_Md_feed_69 rfl ?_
              refine m_goto C 76 d_Md_feed_71 (by decide) ?_
              exact hJ2 v4 hM _ hl
          · refine m_iload_n C hl 3 d_Md_feed_58 rfl rfl ?_
            refine m_goto C 76 d_Md_feed_59 (by decide) ?_
            exact hJ2 v3 hM _ hl
        · refine m_iload_n C hl 2 d_Md_feed_47 rfl rfl ?_
          refine m_goto C 76 d_Md_feed_48 (by decide) ?_
          exact hJ2 v2 hM _ hl
      · refine m_iload_n C hl 1 d_Md_feed_36 rfl rfl ?_
        refine m_goto C 76 d_Md_feed_37 (by decide) ?_
        exact hJ2 v1 hM _ hl
set_option maxHeartbeats 4000000 in
set_option maxRecDepth 100000 in
theorem c_Md_feed {l : Launch} {D : va_G} {ad : Nat → Nat} {cA : Nat → ClassId} {sd sv : Nat → Nat} {h : Hp} {N : Nat} {a1 a2 a3 a4 a5 : Int} {out : (Int × Hp)} (hI : Inj97 ad) (hM : M_Md_feed N h a1 a2 a3 a4 a5 = some out) : Met l y_Md_feed (.code y_Md_feed prog_13_method_37_code 8 (some .int) :: TT) (rmD 0) (PC D ad cA sd sv h [.ref (ad 83), .int (iZ a1), .int (iZ a2), .int (iZ a3), .int (iZ a4), .int (iZ a5)]) (QI D ad cA out) 0 0 (FA ad) := by
  unfold M_Md_feed at hM
  refine entM (by decide +kernel) hI (Nat.le_of_ble_eq_true rfl) ?_
  intro p e s m args below meth c C hr hlk hP ls hl
  have C : Cx p s m args c prog_13_method_37_code 8 "FeastBookModel" D ad cA sd sv (FA ad) := C
  have hl : lv_has ls 8 [(0, .ref (ad 83)), (1, .int (iZ a1)), (2, .int (iZ a2)), (3, .int (iZ a3)), (4, .int (iZ a4)), (5, .int (iZ a5))] := hl
  have w : Wd s D ad cA (FA ad) h s.heap [] := ⟨hP, va_S.rf⟩
  refine m_aload_n C hl 0 d_Md_feed_0 rfl rfl ?_
  refine m_iconst C d_Md_feed_1 ?_
  refine m_puti C w kc_Md sh_83 (Nat.le_of_ble_eq_true rfl) 0 hM rfl (by decide) rfl rfl fk_Md_51 d_Md_feed_2 (fun h1 H locs w hM => ?_)
  refine m_aload_n C hl 0 d_Md_feed_5 rfl rfl ?_
  refine m_geti C w.1 kc_Md sh_83 (Nat.le_of_ble_eq_true rfl) 7 rfl (by decide) fk_Md_160 d_Md_feed_6 ?_
  refine m_bipush C d_Md_feed_9 (by decide) ?_
  refine m_iadd C d_Md_feed_11 ?_
  refine m_sipush C d_Md_feed_12 (by decide) ?_
  refine m_icmp_le C hM 20 d_Md_feed_15 (by decide) (fun hM => ?_) (fun hM => ?_)
  · refine m_iconst C d_Md_feed_20 ?_
    refine m_istore C hl [(6, .int (iZ 0)), (0, .ref (ad 83)), (1, .int (iZ a1)), (2, .int (iZ a2)), (3, .int (iZ a3)), (4, .int (iZ a4)), (5, .int (iZ a5))] d_Md_feed_21 (by decide) rfl (fun ls hl => ?_)
    exact w_Md_feed_L23 N hI C hr hlk a1 a2 a3 a4 a5 _ 0 h1 _ _ w _ (lv_sub hl [1, 2, 3, 4, 5, 6, 0] rfl) hM
  · refine m_iconst C d_Md_feed_18 ?_
    exact m_iretW C w hr hlk hM d_Md_feed_19
def y_Md_isIn : MethodName := ⟨"FeastBookModel", "isIn", "(III)Z"⟩
theorem d_Md_isIn_0 : decode prog_13_method_3_code 0 = .ok (.iload_n 0, 1) := by decide +kernel
theorem d_Md_isIn_1 : decode prog_13_method_3_code 1 = .ok (.iload_n 1, 1) := by decide +kernel
theorem d_Md_isIn_2 : decode prog_13_method_3_code 2 = .ok (.if_icmp .lt 12, 3) := by decide +kernel
theorem d_Md_isIn_5 : decode prog_13_method_3_code 5 = .ok (.iload_n 0, 1) := by decide +kernel
theorem d_Md_isIn_6 : decode prog_13_method_3_code 6 = .ok (.iload_n 2, 1) := by decide +kernel
theorem d_Md_isIn_7 : decode prog_13_method_3_code 7 = .ok (.if_icmp .gt 7, 3) := by decide +kernel
theorem d_Md_isIn_10 : decode prog_13_method_3_code 10 = .ok (.iconst 1, 1) := by decide +kernel
theorem d_Md_isIn_11 : decode prog_13_method_3_code 11 = .ok (.goto 4, 3) := by decide +kernel
theorem d_Md_isIn_14 : decode prog_13_method_3_code 14 = .ok (.iconst 0, 1) := by decide +kernel
theorem d_Md_isIn_15 : decode prog_13_method_3_code 15 = .ok (.ireturn, 1) := by decide +kernel
def M_Md_isIn (a0 a1 a2 : Int) : Option Int := if ltb a0 a1 then rtB 0 else if ltb a2 a0 then rtB 0 else rtB 1
set_option maxHeartbeats 4000000 in
set_option maxRecDepth 100000 in
theorem c_Md_isIn {l : Launch} {D : va_G} {ad : Nat → Nat} {cA : Nat → ClassId} {sd sv : Nat → Nat} {h : Hp} {a0 a1 a2 : Int} {out : Int} (hI : Inj97 ad) (hM : M_Md_isIn a0 a1 a2 = some out) : Met l y_Md_isIn (.code y_Md_isIn prog_13_method_3_code 3 (some .boolean) :: TT) (rmD 0) (PC D ad cA sd sv h [.int (iZ a0), .int (iZ a1), .int (iZ a2)]) (QR out) 0 0 (fun _ => False) := by
  unfold M_Md_isIn at hM
  refine entM (by decide +kernel) hI (Nat.le_of_ble_eq_true rfl) ?_
  intro p e s m args below meth c C hr hlk hP ls hl
  have C : Cx p s m args c prog_13_method_3_code 3 "FeastBookModel" D ad cA sd sv (FA ad) := C
  have hl : lv_has ls 3 [(0, .int (iZ a0)), (1, .int (iZ a1)), (2, .int (iZ a2))] := hl
  refine m_iload_n C hl 0 d_Md_isIn_0 rfl rfl ?_
  refine m_iload_n C hl 1 d_Md_isIn_1 rfl rfl ?_
  refine m_icmp_lt C hM 14 d_Md_isIn_2 (by decide) (fun hM => ?_) (fun hM => ?_)
  · refine m_iconst C d_Md_isIn_14 ?_
    exact m_zretR C hr hlk hM d_Md_isIn_15
  · refine m_iload_n C hl 0 d_Md_isIn_5 rfl rfl ?_
    refine m_iload_n C hl 2 d_Md_isIn_6 rfl rfl ?_
    refine m_icmp_gt C hM 14 d_Md_isIn_7 (by decide) (fun hM => ?_) (fun hM => ?_)
    · refine m_iconst C d_Md_isIn_14 ?_
      exact m_zretR C hr hlk hM d_Md_isIn_15
    · refine m_iconst C d_Md_isIn_10 ?_
      refine m_goto C 15 d_Md_isIn_11 (by decide) ?_
      exact m_zretR C hr hlk hM d_Md_isIn_15
def y_Md_end : MethodName := ⟨"FeastBookModel", "end", "(I)Z"⟩
theorem d_Md_end_0 : decode prog_13_method_38_code 0 = .ok (.aload_n 0, 1) := by decide +kernel
theorem d_Md_end_1 : decode prog_13_method_38_code 1 = .ok (.iconst 0, 1) := by decide +kernel
theorem d_Md_end_2 : decode prog_13_method_38_code 2 = .ok (.putfield 51, 3) := by decide +kernel
theorem d_Md_end_5 : decode prog_13_method_38_code 5 = .ok (.iload_n 1, 1) := by decide +kernel
theorem d_Md_end_6 : decode prog_13_method_38_code 6 = .ok (.iconst 0, 1) := by decide +kernel
theorem d_Md_end_7 : decode prog_13_method_38_code 7 = .ok (.aload_n 0, 1) := by decide +kernel
theorem d_Md_end_8 : decode prog_13_method_38_code 8 = .ok (.getfield 160, 3) := by decide +kernel
theorem d_Md_end_11 : decode prog_13_method_38_code 11 = .ok (.invokestatic 54, 3) := by decide +kernel
theorem d_Md_end_14 : decode prog_13_method_38_code 14 = .ok (.ifCond .ne 5, 3) := by decide +kernel
theorem d_Md_end_17 : decode prog_13_method_38_code 17 = .ok (.iconst 0, 1) := by decide +kernel
theorem d_Md_end_18 : decode prog_13_method_38_code 18 = .ok (.ireturn, 1) := by decide +kernel
theorem d_Md_end_19 : decode prog_13_method_38_code 19 = .ok (.aload_n 0, 1) := by decide +kernel
theorem d_Md_end_20 : decode prog_13_method_38_code 20 = .ok (.iload_n 1, 1) := by decide +kernel
theorem d_Md_end_21 : decode prog_13_method_38_code 21 = .ok (.putfield 160, 3) := by decide +kernel
theorem d_Md_end_24 : decode prog_13_method_38_code 24 = .ok (.iconst 1, 1) := by decide +kernel
theorem d_Md_end_25 : decode prog_13_method_38_code 25 = .ok (.ireturn, 1) := by decide +kernel
theorem mb_Md_isIn : MBs y_Md_isIn prog_13_method_3_code 3 (some .boolean) 3 := ⟨mT8 189 (by decide +kernel) (by decide +kernel), mT1 10 (by decide +kernel) (by decide +kernel), mT8 190 (by decide +kernel) (by decide +kernel), by decide, by decide +kernel, by decide +kernel, by decide +kernel⟩
theorem lk_Md_54 : Cond.methodLink "FeastBookModel" 54 y_Md_isIn ∈ TT := mT8 188 (by decide +kernel) (by decide +kernel)
def M_Md_end (h : Hp) (a1 : Int) : Option (Int × Hp) := lt' (hs h 83 0 0) (fun h1 => (M_Md_isIn a1 0 (h1 83 7)).bind (fun x3 => if eqb x3 0 then ckB 0 (some (0, h1)) else lt' (hs h1 83 7 a1) (fun h4 => ckB 1 (some (1, h4)))))
set_option maxHeartbeats 4000000 in
set_option maxRecDepth 100000 in
theorem c_Md_end {l : Launch} {D : va_G} {ad : Nat → Nat} {cA : Nat → ClassId} {sd sv : Nat → Nat} {h : Hp} {a1 : Int} {out : (Int × Hp)} (hI : Inj97 ad) (hM : M_Md_end h a1 = some out) : Met l y_Md_end (.code y_Md_end prog_13_method_38_code 2 (some .boolean) :: TT) (rmD 1) (PC D ad cA sd sv h [.ref (ad 83), .int (iZ a1)]) (QI D ad cA out) 0 0 (FA ad) := by
  unfold M_Md_end at hM
  refine entM (by decide +kernel) hI (Nat.le_of_ble_eq_true rfl) ?_
  intro p e s m args below meth c C hr hlk hP ls hl
  have C : Cx p s m args c prog_13_method_38_code 2 "FeastBookModel" D ad cA sd sv (FA ad) := C
  have hl : lv_has ls 2 [(0, .ref (ad 83)), (1, .int (iZ a1))] := hl
  have w : Wd s D ad cA (FA ad) h s.heap [] := ⟨hP, va_S.rf⟩
  refine m_aload_n C hl 0 d_Md_end_0 rfl rfl ?_
  refine m_iconst C d_Md_end_1 ?_
  refine m_puti C w kc_Md sh_83 (Nat.le_of_ble_eq_true rfl) 0 hM rfl (by decide) rfl rfl fk_Md_51 d_Md_end_2 (fun h1 H locs w hM => ?_)
  refine m_iload_n C hl 1 d_Md_end_5 rfl rfl ?_
  refine m_iconst C d_Md_end_6 ?_
  refine m_aload_n C hl 0 d_Md_end_7 rfl rfl ?_
  refine m_geti C w.1 kc_Md sh_83 (Nat.le_of_ble_eq_true rfl) 7 rfl (by decide) fk_Md_160 d_Md_end_8 ?_
  obtain ⟨x3, e2, hM⟩ := bnd_some hM
  refine aftR (runS C w.1 w.2 (c_Md_isIn hI e2) lk_Md_54 mb_Md_isIn rfl ⟨Nat.le_of_ble_eq_true rfl, Nat.le_of_ble_eq_true rfl⟩ ⟨Nat.zero_le _, Nat.zero_le _⟩ (Nat.le_of_ble_eq_true rfl) d_Md_end_11 hl.1 (rest := []) rfl) ?_
  refine m_if_ne C hM 19 d_Md_end_14 (by decide) (fun hM => ?_) (fun hM => ?_)
  · refine m_aload_n C hl 0 d_Md_end_19 rfl rfl ?_
    refine m_iload_n C hl 1 d_Md_end_20 rfl rfl ?_
    refine m_puti C w kc_Md sh_83 (Nat.le_of_ble_eq_true rfl) 7 hM rfl (by decide) rfl rfl fk_Md_160 d_Md_end_21 (fun h4 H locs w hM => ?_)
    refine m_iconst C d_Md_end_24 ?_
    exact m_zretW C w hr hlk hM d_Md_end_25
  · refine m_iconst C d_Md_end_17 ?_
    exact m_zretW C w hr hlk hM d_Md_end_18
def y_Md_here : MethodName := ⟨"FeastBookModel", "here", "()I"⟩
theorem d_Md_here_0 : decode prog_13_method_39_code 0 = .ok (.aload_n 0, 1) := by decide +kernel
theorem d_Md_here_1 : decode prog_13_method_39_code 1 = .ok (.getfield 163, 3) := by decide +kernel
theorem d_Md_here_4 : decode prog_13_method_39_code 4 = .ok (.aload_n 0, 1) := by decide +kernel
theorem d_Md_here_5 : decode prog_13_method_39_code 5 = .ok (.getfield 166, 3) := by decide +kernel
theorem d_Md_here_8 : decode prog_13_method_39_code 8 = .ok (.if_icmp .ge 30, 3) := by decide +kernel
theorem d_Md_here_11 : decode prog_13_method_39_code 11 = .ok (.aload_n 0, 1) := by decide +kernel
theorem d_Md_here_12 : decode prog_13_method_39_code 12 = .ok (.getfield 19, 3) := by decide +kernel
theorem d_Md_here_15 : decode prog_13_method_39_code 15 = .ok (.aload_n 0, 1) := by decide +kernel
theorem d_Md_here_16 : decode prog_13_method_39_code 16 = .ok (.getfield 163, 3) := by decide +kernel
theorem d_Md_here_19 : decode prog_13_method_39_code 19 = .ok (.iaload, 1) := by decide +kernel
theorem d_Md_here_20 : decode prog_13_method_39_code 20 = .ok (.bipush 32, 2) := by decide +kernel
theorem d_Md_here_22 : decode prog_13_method_39_code 22 = .ok (.if_icmp .ne 16, 3) := by decide +kernel
theorem d_Md_here_25 : decode prog_13_method_39_code 25 = .ok (.aload_n 0, 1) := by decide +kernel
theorem d_Md_here_26 : decode prog_13_method_39_code 26 = .ok (.dup, 1) := by decide +kernel
theorem d_Md_here_27 : decode prog_13_method_39_code 27 = .ok (.getfield 163, 3) := by decide +kernel
theorem d_Md_here_30 : decode prog_13_method_39_code 30 = .ok (.iconst 1, 1) := by decide +kernel
theorem d_Md_here_31 : decode prog_13_method_39_code 31 = .ok (.iadd, 1) := by decide +kernel
theorem d_Md_here_32 : decode prog_13_method_39_code 32 = .ok (.putfield 163, 3) := by decide +kernel
theorem d_Md_here_35 : decode prog_13_method_39_code 35 = .ok (.goto (-35), 3) := by decide +kernel
theorem d_Md_here_38 : decode prog_13_method_39_code 38 = .ok (.aload_n 0, 1) := by decide +kernel
theorem d_Md_here_39 : decode prog_13_method_39_code 39 = .ok (.getfield 163, 3) := by decide +kernel
theorem d_Md_here_42 : decode prog_13_method_39_code 42 = .ok (.ireturn, 1) := by decide +kernel
theorem fk_Md_163 : Cond.fieldLink "FeastBookModel" 163 (T_Md 9).1 (T_Md 9).2.1 (T_Md 9).2.2.1 ∈ TT := mT8 105 (by decide +kernel) (by decide +kernel)
theorem fk_Md_166 : Cond.fieldLink "FeastBookModel" 166 (T_Md 8).1 (T_Md 8).2.1 (T_Md 8).2.2.1 ∈ TT := mT8 104 (by decide +kernel) (by decide +kernel)
def Md_here_L0 (N : Nat) : Nat → Hp → Option (Int × Hp)
  | 0, _ => none
  | n + 1, h => if leb (h 83 8) (h 83 9) then some (h 83 9, h) else (rdA h 87 400 (h 83 9)).bind (fun x1 => if eqb x1 32 then lt' (hs h 83 9 ((h 83 9) + 1)) (fun h2 => Md_here_L0 N n h2) else some (h 83 9, h))
def M_Md_here (N : Nat) (h : Hp) : Option (Int × Hp) := Md_here_L0 N N h
set_option maxHeartbeats 4000000 in
set_option maxRecDepth 100000 in
theorem w_Md_here_L0 {p : Program} {l : Launch} {e : Env} {s : State} {m : MethodId} {args : Array Value} {below : List Frame} {meth : Method} {c : Code} {D : va_G} {ad : Nat → Nat} {cA : Nat → ClassId} {sd sv : Nat → Nat} {out : (Int × Hp)} (N : Nat) (hI : Inj97 ad) (C : Cx p s m args c prog_13_method_39_code 1 "FeastBookModel" D ad cA sd sv (FA ad)) (hr : meth.sig.returnType = (some .int)) (hlk : meth.locks = false) : ∀ (n : Nat) (h : Hp) (H : Heap) (locs : List Loc), Wd s D ad cA (FA ad) h H locs → ∀ ls : Array Slot, lv_has ls 1 [(0, .ref (ad 83))] → Md_here_L0 N n h = some out → W p l e (rmD 0) s m args below meth c H locs 0 0 (MQ below (QI D ad cA out) args s 0 0 (FA ad)) (F0 m 0 ls []) := by
  intro n
  induction n with
  | zero =>
    intro h H locs w ls hl hM
    rw [Md_here_L0] at hM
    cases hM
  | succ n ih =>
    intro h H locs w ls hl hM
    rw [Md_here_L0] at hM
    refine m_aload_n C hl 0 d_Md_here_0 rfl rfl ?_
    refine m_geti C w.1 kc_Md sh_83 (Nat.le_of_ble_eq_true rfl) 9 rfl (by decide) fk_Md_163 d_Md_here_1 ?_
    refine m_aload_n C hl 0 d_Md_here_4 rfl rfl ?_
    refine m_geti C w.1 kc_Md sh_83 (Nat.le_of_ble_eq_true rfl) 8 rfl (by decide) fk_Md_166 d_Md_here_5 ?_
    refine m_icmp_ge C hM 38 d_Md_here_8 (by decide) (fun hM => ?_) (fun hM => ?_)
    · refine m_aload_n C hl 0 d_Md_here_38 rfl rfl ?_
      refine m_geti C w.1 kc_Md sh_83 (Nat.le_of_ble_eq_true rfl) 9 rfl (by decide) fk_Md_163 d_Md_here_39 ?_
      exact m_iretW C w hr hlk hM d_Md_here_42
    · refine m_aload_n C hl 0 d_Md_here_11 rfl rfl ?_
      refine m_getr C w.1 kc_Md sh_83 (Nat.le_of_ble_eq_true rfl) 6 87 rfl (by decide) fk_Md_19 d_Md_here_12 ?_
      refine m_aload_n C hl 0 d_Md_here_15 rfl rfl ?_
      refine m_geti C w.1 kc_Md sh_83 (Nat.le_of_ble_eq_true rfl) 9 rfl (by decide) fk_Md_163 d_Md_here_16 ?_
      refine m_iald C w.1 sh_87 (Nat.le_of_ble_eq_true rfl) (Nat.le_of_ble_eq_true rfl) hM d_Md_here_19 (fun x1 hM => ?_)
      refine m_bipush C d_Md_here_20 (by decide) ?_
      refine m_icmp_ne C hM 38 d_Md_here_22 (by decide) (fun hM => ?_) (fun hM => ?_)
      · refine m_aload_n C hl 0 d_Md_here_38 rfl rfl ?_
        refine m_geti C w.1 kc_Md sh_83 (Nat.le_of_ble_eq_true rfl) 9 rfl (by decide) fk_Md_163 d_Md_here_39 ?_
        exact m_iretW C w hr hlk hM d_Md_here_42
      · refine m_aload_n C hl 0 d_Md_here_25 rfl rfl ?_
        refine m_dup C d_Md_here_26 rfl ?_
        refine m_geti C w.1 kc_Md sh_83 (Nat.le_of_ble_eq_true rfl) 9 rfl (by decide) fk_Md_163 d_Md_here_27 ?_
        refine m_iconst C d_Md_here_30 ?_
        refine m_iadd C d_Md_here_31 ?_
        refine m_puti C w kc_Md sh_83 (Nat.le_of_ble_eq_true rfl) 9 hM rfl (by decide) rfl rfl fk_Md_163 d_Md_here_32 (fun h2 H locs w hM => ?_)
        refine m_goto C 0 d_Md_here_35 (by decide) ?_
        exact ih  h2 _ _ w _ hl hM
set_option maxHeartbeats 4000000 in
set_option maxRecDepth 100000 in
theorem c_Md_here {l : Launch} {D : va_G} {ad : Nat → Nat} {cA : Nat → ClassId} {sd sv : Nat → Nat} {h : Hp} {N : Nat} {out : (Int × Hp)} (hI : Inj97 ad) (hM : M_Md_here N h = some out) : Met l y_Md_here (.code y_Md_here prog_13_method_39_code 1 (some .int) :: TT) (rmD 0) (PC D ad cA sd sv h [.ref (ad 83)]) (QI D ad cA out) 0 0 (FA ad) := by
  unfold M_Md_here at hM
  refine entM (by decide +kernel) hI (Nat.le_of_ble_eq_true rfl) ?_
  intro p e s m args below meth c C hr hlk hP ls hl
  have C : Cx p s m args c prog_13_method_39_code 1 "FeastBookModel" D ad cA sd sv (FA ad) := C
  have hl : lv_has ls 1 [(0, .ref (ad 83))] := hl
  have w : Wd s D ad cA (FA ad) h s.heap [] := ⟨hP, va_S.rf⟩
  exact w_Md_here_L0 N hI C hr hlk  _  h _ _ w _ hl hM
def y_Md_wrong : MethodName := ⟨"FeastBookModel", "wrong", "(I)V"⟩
theorem d_Md_wrong_0 : decode prog_13_method_40_code 0 = .ok (.aload_n 0, 1) := by decide +kernel
theorem d_Md_wrong_1 : decode prog_13_method_40_code 1 = .ok (.getfield 22, 3) := by decide +kernel
theorem d_Md_wrong_4 : decode prog_13_method_40_code 4 = .ok (.iconst (-1), 1) := by decide +kernel
theorem d_Md_wrong_5 : decode prog_13_method_40_code 5 = .ok (.if_icmp .ne 8, 3) := by decide +kernel
theorem d_Md_wrong_8 : decode prog_13_method_40_code 8 = .ok (.aload_n 0, 1) := by decide +kernel
theorem d_Md_wrong_9 : decode prog_13_method_40_code 9 = .ok (.iload_n 1, 1) := by decide +kernel
theorem d_Md_wrong_10 : decode prog_13_method_40_code 10 = .ok (.putfield 22, 3) := by decide +kernel
theorem d_Md_wrong_13 : decode prog_13_method_40_code 13 = .ok (.return_, 1) := by decide +kernel
theorem fk_Md_22 : Cond.fieldLink "FeastBookModel" 22 (T_Md 10).1 (T_Md 10).2.1 (T_Md 10).2.2.1 ∈ TT := mT8 106 (by decide +kernel) (by decide +kernel)
def M_Md_wrong (h : Hp) (a1 : Int) : Option Hp := if eqb (h 83 10) (-1) then lt' (hs h 83 10 a1) (fun h1 => some h1) else some h
set_option maxHeartbeats 4000000 in
set_option maxRecDepth 100000 in
theorem c_Md_wrong {l : Launch} {D : va_G} {ad : Nat → Nat} {cA : Nat → ClassId} {sd sv : Nat → Nat} {h : Hp} {a1 : Int} {out : Hp} (hI : Inj97 ad) (hM : M_Md_wrong h a1 = some out) : Met l y_Md_wrong (.code y_Md_wrong prog_13_method_40_code 2 none :: TT) (rmD 0) (PC D ad cA sd sv h [.ref (ad 83), .int (iZ a1)]) (QV D ad cA out) 0 0 (FA ad) := by
  unfold M_Md_wrong at hM
  refine entM (by decide +kernel) hI (Nat.le_of_ble_eq_true rfl) ?_
  intro p e s m args below meth c C hr hlk hP ls hl
  have C : Cx p s m args c prog_13_method_40_code 2 "FeastBookModel" D ad cA sd sv (FA ad) := C
  have hl : lv_has ls 2 [(0, .ref (ad 83)), (1, .int (iZ a1))] := hl
  have w : Wd s D ad cA (FA ad) h s.heap [] := ⟨hP, va_S.rf⟩
  refine m_aload_n C hl 0 d_Md_wrong_0 rfl rfl ?_
  refine m_geti C w.1 kc_Md sh_83 (Nat.le_of_ble_eq_true rfl) 10 rfl (by decide) fk_Md_22 d_Md_wrong_1 ?_
  refine m_iconst C d_Md_wrong_4 ?_
  refine m_icmp_ne C hM 13 d_Md_wrong_5 (by decide) (fun hM => ?_) (fun hM => ?_)
  · exact m_vretW C w hr hlk hM d_Md_wrong_13
  · refine m_aload_n C hl 0 d_Md_wrong_8 rfl rfl ?_
    refine m_iload_n C hl 1 d_Md_wrong_9 rfl rfl ?_
    refine m_puti C w kc_Md sh_83 (Nat.le_of_ble_eq_true rfl) 10 hM rfl (by decide) rfl rfl fk_Md_22 d_Md_wrong_10 (fun h1 H locs w hM => ?_)
    exact m_vretW C w hr hlk hM d_Md_wrong_13
def y_Md_figures : MethodName := ⟨"FeastBookModel", "figures", "(I)I"⟩
theorem d_Md_figures_0 : decode prog_13_method_44_code 0 = .ok (.aload_n 0, 1) := by decide +kernel
theorem d_Md_figures_1 : decode prog_13_method_44_code 1 = .ok (.getfield 163, 3) := by decide +kernel
theorem d_Md_figures_4 : decode prog_13_method_44_code 4 = .ok (.istore_n 2, 1) := by decide +kernel
theorem d_Md_figures_5 : decode prog_13_method_44_code 5 = .ok (.iconst 0, 1) := by decide +kernel
theorem d_Md_figures_6 : decode prog_13_method_44_code 6 = .ok (.istore_n 3, 1) := by decide +kernel
theorem d_Md_figures_7 : decode prog_13_method_44_code 7 = .ok (.aload_n 0, 1) := by decide +kernel
theorem d_Md_figures_8 : decode prog_13_method_44_code 8 = .ok (.getfield 163, 3) := by decide +kernel
theorem d_Md_figures_11 : decode prog_13_method_44_code 11 = .ok (.aload_n 0, 1) := by decide +kernel
theorem d_Md_figures_12 : decode prog_13_method_44_code 12 = .ok (.getfield 166, 3) := by decide +kernel
theorem d_Md_figures_15 : decode prog_13_method_44_code 15 = .ok (.if_icmp .ge 63, 3) := by decide +kernel
theorem d_Md_figures_18 : decode prog_13_method_44_code 18 = .ok (.aload_n 0, 1) := by decide +kernel
theorem d_Md_figures_19 : decode prog_13_method_44_code 19 = .ok (.getfield 19, 3) := by decide +kernel
theorem d_Md_figures_22 : decode prog_13_method_44_code 22 = .ok (.aload_n 0, 1) := by decide +kernel
theorem d_Md_figures_23 : decode prog_13_method_44_code 23 = .ok (.getfield 163, 3) := by decide +kernel
theorem d_Md_figures_26 : decode prog_13_method_44_code 26 = .ok (.iaload, 1) := by decide +kernel
theorem d_Md_figures_27 : decode prog_13_method_44_code 27 = .ok (.bipush 48, 2) := by decide +kernel
theorem d_Md_figures_29 : decode prog_13_method_44_code 29 = .ok (.bipush 57, 2) := by decide +kernel
theorem d_Md_figures_31 : decode prog_13_method_44_code 31 = .ok (.invokestatic 54, 3) := by decide +kernel
theorem d_Md_figures_34 : decode prog_13_method_44_code 34 = .ok (.ifCond .eq 44, 3) := by decide +kernel
theorem d_Md_figures_37 : decode prog_13_method_44_code 37 = .ok (.aload_n 0, 1) := by decide +kernel
theorem d_Md_figures_38 : decode prog_13_method_44_code 38 = .ok (.getfield 163, 3) := by decide +kernel
theorem d_Md_figures_41 : decode prog_13_method_44_code 41 = .ok (.iload_n 2, 1) := by decide +kernel
theorem d_Md_figures_42 : decode prog_13_method_44_code 42 = .ok (.isub, 1) := by decide +kernel
theorem d_Md_figures_43 : decode prog_13_method_44_code 43 = .ok (.iconst 2, 1) := by decide +kernel
theorem d_Md_figures_44 : decode prog_13_method_44_code 44 = .ok (.if_icmp .gt 34, 3) := by decide +kernel
theorem d_Md_figures_47 : decode prog_13_method_44_code 47 = .ok (.bipush 10, 2) := by decide +kernel
theorem d_Md_figures_49 : decode prog_13_method_44_code 49 = .ok (.iload_n 3, 1) := by decide +kernel
theorem d_Md_figures_50 : decode prog_13_method_44_code 50 = .ok (.imul, 1) := by decide +kernel
theorem d_Md_figures_51 : decode prog_13_method_44_code 51 = .ok (.aload_n 0, 1) := by decide +kernel
theorem d_Md_figures_52 : decode prog_13_method_44_code 52 = .ok (.getfield 19, 3) := by decide +kernel
theorem d_Md_figures_55 : decode prog_13_method_44_code 55 = .ok (.aload_n 0, 1) := by decide +kernel
theorem d_Md_figures_56 : decode prog_13_method_44_code 56 = .ok (.getfield 163, 3) := by decide +kernel
theorem d_Md_figures_59 : decode prog_13_method_44_code 59 = .ok (.iaload, 1) := by decide +kernel
theorem d_Md_figures_60 : decode prog_13_method_44_code 60 = .ok (.iadd, 1) := by decide +kernel
theorem d_Md_figures_61 : decode prog_13_method_44_code 61 = .ok (.bipush 48, 2) := by decide +kernel
theorem d_Md_figures_63 : decode prog_13_method_44_code 63 = .ok (.isub, 1) := by decide +kernel
theorem d_Md_figures_64 : decode prog_13_method_44_code 64 = .ok (.istore_n 3, 1) := by decide +kernel
theorem d_Md_figures_65 : decode prog_13_method_44_code 65 = .ok (.aload_n 0, 1) := by decide +kernel
theorem d_Md_figures_66 : decode prog_13_method_44_code 66 = .ok (.dup, 1) := by decide +kernel
theorem d_Md_figures_67 : decode prog_13_method_44_code 67 = .ok (.getfield 163, 3) := by decide +kernel
theorem d_Md_figures_70 : decode prog_13_method_44_code 70 = .ok (.iconst 1, 1) := by decide +kernel
theorem d_Md_figures_71 : decode prog_13_method_44_code 71 = .ok (.iadd, 1) := by decide +kernel
theorem d_Md_figures_72 : decode prog_13_method_44_code 72 = .ok (.putfield 163, 3) := by decide +kernel
theorem d_Md_figures_75 : decode prog_13_method_44_code 75 = .ok (.goto (-68), 3) := by decide +kernel
theorem d_Md_figures_78 : decode prog_13_method_44_code 78 = .ok (.aload_n 0, 1) := by decide +kernel
theorem d_Md_figures_79 : decode prog_13_method_44_code 79 = .ok (.getfield 163, 3) := by decide +kernel
theorem d_Md_figures_82 : decode prog_13_method_44_code 82 = .ok (.iload_n 2, 1) := by decide +kernel
theorem d_Md_figures_83 : decode prog_13_method_44_code 83 = .ok (.if_icmp .ne 11, 3) := by decide +kernel
theorem d_Md_figures_86 : decode prog_13_method_44_code 86 = .ok (.aload_n 0, 1) := by decide +kernel
theorem d_Md_figures_87 : decode prog_13_method_44_code 87 = .ok (.iload_n 2, 1) := by decide +kernel
theorem d_Md_figures_88 : decode prog_13_method_44_code 88 = .ok (.invokevirtual 186, 3) := by decide +kernel
theorem d_Md_figures_91 : decode prog_13_method_44_code 91 = .ok (.goto 18, 3) := by decide +kernel
theorem d_Md_figures_94 : decode prog_13_method_44_code 94 = .ok (.aload_n 0, 1) := by decide +kernel
theorem d_Md_figures_95 : decode prog_13_method_44_code 95 = .ok (.getfield 163, 3) := by decide +kernel
theorem d_Md_figures_98 : decode prog_13_method_44_code 98 = .ok (.iload_n 2, 1) := by decide +kernel
theorem d_Md_figures_99 : decode prog_13_method_44_code 99 = .ok (.isub, 1) := by decide +kernel
theorem d_Md_figures_100 : decode prog_13_method_44_code 100 = .ok (.iconst 2, 1) := by decide +kernel
theorem d_Md_figures_101 : decode prog_13_method_44_code 101 = .ok (.if_icmp .le 8, 3) := by decide +kernel
theorem d_Md_figures_104 : decode prog_13_method_44_code 104 = .ok (.aload_n 0, 1) := by decide +kernel
theorem d_Md_figures_105 : decode prog_13_method_44_code 105 = .ok (.iload_n 1, 1) := by decide +kernel
theorem d_Md_figures_106 : decode prog_13_method_44_code 106 = .ok (.invokevirtual 186, 3) := by decide +kernel
theorem d_Md_figures_109 : decode prog_13_method_44_code 109 = .ok (.iload_n 3, 1) := by decide +kernel
theorem d_Md_figures_110 : decode prog_13_method_44_code 110 = .ok (.ireturn, 1) := by decide +kernel
theorem mb_Md_wrong : MBv R_Md y_Md_wrong prog_13_method_40_code 2 none 1 := ⟨mT8 216 (by decide +kernel) (by decide +kernel), mTs 18 (by decide +kernel) (by decide +kernel), mT1 10 (by decide +kernel) (by decide +kernel), mT8 217 (by decide +kernel) (by decide +kernel), by decide, rfl, by decide +kernel, by decide +kernel, by decide +kernel⟩
theorem lk_Md_186 : Cond.methodLink "FeastBookModel" 186 y_Md_wrong ∈ TT := mT8 214 (by decide +kernel) (by decide +kernel)
def Md_figures_L7 (N : Nat) (v1 v2 : Int) : Nat → Int → Hp → Option (Int × Hp)
  | 0, _, _ => none
  | n + 1, v3, h => lt' (if eqb (h 83 9) v2 then (M_Md_wrong h v2).bind (fun h10 => some (v3, h10)) else if leb ((h 83 9) - v2) 2 then some (v3, h) else (M_Md_wrong h v1).bind (fun h8 => some (v3, h8))) (fun j6 => if leb (h 83 8) (h 83 9) then j6 else (rdA h 87 400 (h 83 9)).bind (fun x11 => (M_Md_isIn x11 48 57).bind (fun x13 => if eqb x13 0 then j6 else if ltb 2 ((h 83 9) - v2) then j6 else (rdA h 87 400 (h 83 9)).bind (fun x14 => lt' (hs h 83 9 ((h 83 9) + 1)) (fun h15 => Md_figures_L7 N v1 v2 n (((10 * v3) + x14) - 48) h15)))))
def M_Md_figures (N : Nat) (h : Hp) (a1 : Int) : Option (Int × Hp) := Md_figures_L7 N a1 (h 83 9) N 0 h
set_option maxHeartbeats 4000000 in
set_option maxRecDepth 100000 in
theorem w_Md_figures_L7 {p : Program} {l : Launch} {e : Env} {s : State} {m : MethodId} {args : Array Value} {below : List Frame} {meth : Method} {c : Code} {D : va_G} {ad : Nat → Nat} {cA : Nat → ClassId} {sd sv : Nat → Nat} {out : (Int × Hp)} (N : Nat) (hI : Inj97 ad) (C : Cx p s m args c prog_13_method_44_code 4 "FeastBookModel" D ad cA sd sv (FA ad)) (hr : meth.sig.returnType = (some .int)) (hlk : meth.locks = false) (v1 v2 : Int) : ∀ (n : Nat) (v3 : Int) (h : Hp) (H : Heap) (locs : List Loc), Wd s D ad cA (FA ad) h H locs → ∀ ls : Array Slot, lv_has ls 4 [(0, .ref (ad 83)), (1, .int (iZ v1)), (2, .int (iZ v2)), (3, .int (iZ v3))] → Md_figures_L7 N v1 v2 n v3 h = some out → W p l e (rmD 1) s m args below meth c H locs 0 0 (MQ below (QI D ad cA out) args s 0 0 (FA ad)) (F0 m 7 ls []) := by
  intro n
  induction n with
  | zero =>
    intro v3 h H locs w ls hl hM
    rw [Md_figures_L7] at hM
    cases hM
  | succ n ih =>
    intro v3 h H locs w ls hl hM
    rw [Md_figures_L7] at hM
    refine m_aload_n C hl 0 d_Md_figures_7 rfl rfl ?_
    refine m_geti C w.1 kc_Md sh_83 (Nat.le_of_ble_eq_true rfl) 9 rfl (by decide) fk_Md_163 d_Md_figures_8 ?_
    refine m_aload_n C hl 0 d_Md_figures_11 rfl rfl ?_
    refine m_geti C w.1 kc_Md sh_83 (Nat.le_of_ble_eq_true rfl) 8 rfl (by decide) fk_Md_166 d_Md_figures_12 ?_
    refine lt_join hM (fun j6 ej hM => ?_)
    have hJ6 : j6  = some out → ∀ ls : Array Slot, lv_has ls 4 [(0, .ref (ad 83)), (1, .int (iZ v1)), (2, .int (iZ v2)), (3, .int (iZ v3))] → W p l e (rmD 1) s m args below meth c H locs 0 0 (MQ below (QI D ad cA out) args s 0 0 (FA ad)) (F0 m 78 ls []) := by
      intro  hM ls hl
      subst ej
      skip
      refine m_aload_n C hl 0 d_Md_figures_78 rfl rfl ?_
      refine m_geti C w.1 kc_Md sh_83 (Nat.le_of_ble_eq_true rfl) 9 rfl (by decide) fk_Md_163 d_Md_figures_79 ?_
      refine m_iload_n C hl 2 d_Md_figures_82 rfl rfl ?_
      refine m_icmp_ne C hM 94 d_Md_figures_83 (by decide) (fun hM => ?_) (fun hM => ?_)
      · refine m_aload_n C hl 0 d_Md_figures_94 rfl rfl ?_
        refine m_geti C w.1 kc_Md sh_83 (Nat.le_of_ble_eq_true rfl) 9 rfl (by decide) fk_Md_163 d_Md_figures_95 ?_
        refine m_iload_n C hl 2 d_Md_figures_98 rfl rfl ?_
        refine m_isub C d_Md_figures_99 ?_
        refine m_iconst C d_Md_figures_100 ?_
        refine m_icmp_le C hM 109 d_Md_figures_101 (by decide) (fun hM => ?_) (fun hM => ?_)
        · refine m_iload_n C hl 3 d_Md_figures_109 rfl rfl ?_
          exact m_iretW C w hr hlk hM d_Md_figures_110
        · refine m_aload_n C hl 0 d_Md_figures_104 rfl rfl ?_
          refine m_iload_n C hl 1 d_Md_figures_105 rfl rfl ?_
          obtain ⟨h8, e7, hM⟩ := bnd_some hM
          refine aftV C w (runV C w.1 w.2 kc_Md sh_83 (Nat.le_of_ble_eq_true rfl) (c_Md_wrong hI e7) lk_Md_186 mb_Md_wrong rfl ⟨Nat.le_of_ble_eq_true rfl, Nat.le_of_ble_eq_true rfl⟩ ⟨Nat.zero_le _, Nat.zero_le _⟩ (Nat.le_of_ble_eq_true rfl) d_Md_figures_106 hl.1 (rest := []) rfl) (fun H locs w => ?_)
          refine m_iload_n C hl 3 d_Md_figures_109 rfl rfl ?_
          exact m_iretW C w hr hlk hM d_Md_figures_110
      · refine m_aload_n C hl 0 d_Md_figures_86 rfl rfl ?_
        refine m_iload_n C hl 2 d_Md_figures_87 rfl rfl ?_
        obtain ⟨h10, e9, hM⟩ := bnd_some hM
        refine aftV C w (runV C w.1 w.2 kc_Md sh_83 (Nat.le_of_ble_eq_true rfl) (c_Md_wrong hI e9) lk_Md_186 mb_Md_wrong rfl ⟨Nat.le_of_ble_eq_true rfl, Nat.le_of_ble_eq_true rfl⟩ ⟨Nat.zero_le _, Nat.zero_le _⟩ (Nat.le_of_ble_eq_true rfl) d_Md_figures_88 hl.1 (rest := []) rfl) (fun H locs w => ?_)
        refine m_goto C 109 d_Md_figures_91 (by decide) ?_
        refine m_iload_n C hl 3 d_Md_figures_109 rfl rfl ?_
        exact m_iretW C w hr hlk hM d_Md_figures_110
    refine m_icmp_ge C hM 78 d_Md_figures_15 (by decide) (fun hM => ?_) (fun hM => ?_)
    · exact hJ6  hM _ hl
    · refine m_aload_n C hl 0 d_Md_figures_18 rfl rfl ?_
      refine m_getr C w.1 kc_Md sh_83 (Nat.le_of_ble_eq_true rfl) 6 87 rfl (by decide) fk_Md_19 d_Md_figures_19 ?_
      refine m_aload_n C hl 0 d_Md_figures_22 rfl rfl ?_
      refine m_geti C w.1 kc_Md sh_83 (Nat.le_of_ble_eq_true rfl) 9 rfl (by decide) fk_Md_163 d_Md_figures_23 ?_
      refine m_iald C w.1 sh_87 (Nat.le_of_ble_eq_true rfl) (Nat.le_of_ble_eq_true rfl) hM d_Md_figures_26 (fun x11 hM => ?_)
      refine m_bipush C d_Md_figures_27 (by decide) ?_
      refine m_bipush C d_Md_figures_29 (by decide) ?_
      obtain ⟨x13, e12, hM⟩ := bnd_some hM
      refine aftR (runS C w.1 w.2 (c_Md_isIn hI e12) lk_Md_54 mb_Md_isIn rfl ⟨Nat.le_of_ble_eq_true rfl, Nat.le_of_ble_eq_true rfl⟩ ⟨Nat.zero_le _, Nat.zero_le _⟩ (Nat.le_of_ble_eq_true rfl) d_Md_figures_31 hl.1 (rest := []) rfl) ?_
      refine m_if_eq C hM 78 d_Md_figures_34 (by decide) (fun hM => ?_) (fun hM => ?_)
      · exact hJ6  hM _ hl
      · refine m_aload_n C hl 0 d_Md_figures_37 rfl rfl ?_
        refine m_geti C w.1 kc_Md sh_83 (Nat.le_of_ble_eq_true rfl) 9 rfl (by decide) fk_Md_163 d_Md_figures_38 ?_
        refine m_iload_n C hl 2 d_Md_figures_41 rfl rfl ?_
        refine m_isub C d_Md_figures_42 ?_
        refine m_iconst C d_Md_figures_43 ?_
        refine m_icmp_gt C hM 78 d_Md_figures_44 (by decide) (fun hM => ?_) (fun hM => ?_)
        · exact hJ6  hM _ hl
        · refine m_bipush C d_Md_figures_47 (by decide) ?_
          refine m_iload_n C hl 3 d_Md_figures_49 rfl rfl ?_
          refine m_imul C d_Md_figures_50 ?_
          refine m_aload_n C hl 0 d_Md_figures_51 rfl rfl ?_
          refine m_getr C w.1 kc_Md sh_83 (Nat.le_of_ble_eq_true rfl) 6 87 rfl (by decide) fk_Md_19 d_Md_figures_52 ?_
          refine m_aload_n C hl 0 d_Md_figures_55 rfl rfl ?_
          refine m_geti C w.1 kc_Md sh_83 (Nat.le_of_ble_eq_true rfl) 9 rfl (by decide) fk_Md_163 d_Md_figures_56 ?_
          refine m_iald C w.1 sh_87 (Nat.le_of_ble_eq_true rfl) (Nat.le_of_ble_eq_true rfl) hM d_Md_figures_59 (fun x14 hM => ?_)
          refine m_iadd C d_Md_figures_60 ?_
          refine m_bipush C d_Md_figures_61 (by decide) ?_
          refine m_isub C d_Md_figures_63 ?_
          refine m_istore_n C hl [(3, .int (iZ (((10 * v3) + x14) - 48))), (0, .ref (ad 83)), (1, .int (iZ v1)), (2, .int (iZ v2))] d_Md_figures_64 rfl (by decide) rfl (fun ls hl => ?_)
          refine m_aload_n C hl 1 d_Md_figures_65 rfl rfl ?_
          refine m_dup C d_Md_figures_66 rfl ?_
          refine m_geti C w.1 kc_Md sh_83 (Nat.le_of_ble_eq_true rfl) 9 rfl (by decide) fk_Md_163 d_Md_figures_67 ?_
          refine m_iconst C d_Md_figures_70 ?_
          refine m_iadd C d_Md_figures_71 ?_
          refine m_puti C w kc_Md sh_83 (Nat.le_of_ble_eq_true rfl) 9 hM rfl (by decide) rfl rfl fk_Md_163 d_Md_figures_72 (fun h15 H locs w hM => ?_)
          refine m_goto C 7 d_Md_figures_75 (by decide) ?_
          exact ih (((10 * v3) + x14) - 48) h15 _ _ w _ (lv_sub hl [1, 2, 3, 0] rfl) hM
set_option maxHeartbeats 4000000 in
set_option maxRecDepth 100000 in
theorem c_Md_figures {l : Launch} {D : va_G} {ad : Nat → Nat} {cA : Nat → ClassId} {sd sv : Nat → Nat} {h : Hp} {N : Nat} {a1 : Int} {out : (Int × Hp)} (hI : Inj97 ad) (hM : M_Md_figures N h a1 = some out) : Met l y_Md_figures (.code y_Md_figures prog_13_method_44_code 4 (some .int) :: TT) (rmD 1) (PC D ad cA sd sv h [.ref (ad 83), .int (iZ a1)]) (QI D ad cA out) 0 0 (FA ad) := by
  unfold M_Md_figures at hM
  refine entM (by decide +kernel) hI (Nat.le_of_ble_eq_true rfl) ?_
  intro p e s m args below meth c C hr hlk hP ls hl
  have C : Cx p s m args c prog_13_method_44_code 4 "FeastBookModel" D ad cA sd sv (FA ad) := C
  have hl : lv_has ls 4 [(0, .ref (ad 83)), (1, .int (iZ a1))] := hl
  have w : Wd s D ad cA (FA ad) h s.heap [] := ⟨hP, va_S.rf⟩
  refine m_aload_n C hl 0 d_Md_figures_0 rfl rfl ?_
  refine m_geti C w.1 kc_Md sh_83 (Nat.le_of_ble_eq_true rfl) 9 rfl (by decide) fk_Md_163 d_Md_figures_1 ?_
  refine m_istore_n C hl [(2, .int (iZ (h 83 9))), (0, .ref (ad 83)), (1, .int (iZ a1))] d_Md_figures_4 rfl (by decide) rfl (fun ls hl => ?_)
  refine m_iconst C d_Md_figures_5 ?_
  refine m_istore_n C hl [(3, .int (iZ 0)), (2, .int (iZ (h 83 9))), (0, .ref (ad 83)), (1, .int (iZ a1))] d_Md_figures_6 rfl (by decide) rfl (fun ls hl => ?_)
  exact w_Md_figures_L7 N hI C hr hlk a1 (h 83 9) _ 0 h _ _ w _ (lv_sub hl [2, 3, 1, 0] rfl) hM
def y_Md_number : MethodName := ⟨"FeastBookModel", "number", "(II)I"⟩
theorem d_Md_number_0 : decode prog_13_method_45_code 0 = .ok (.aload_n 0, 1) := by decide +kernel
theorem d_Md_number_1 : decode prog_13_method_45_code 1 = .ok (.getfield 22, 3) := by decide +kernel
theorem d_Md_number_4 : decode prog_13_method_45_code 4 = .ok (.iconst (-1), 1) := by decide +kernel
theorem d_Md_number_5 : decode prog_13_method_45_code 5 = .ok (.if_icmp .eq 5, 3) := by decide +kernel
theorem d_Md_number_8 : decode prog_13_method_45_code 8 = .ok (.iconst 0, 1) := by decide +kernel
theorem d_Md_number_9 : decode prog_13_method_45_code 9 = .ok (.ireturn, 1) := by decide +kernel
theorem d_Md_number_10 : decode prog_13_method_45_code 10 = .ok (.aload_n 0, 1) := by decide +kernel
theorem d_Md_number_11 : decode prog_13_method_45_code 11 = .ok (.invokevirtual 169, 3) := by decide +kernel
theorem d_Md_number_14 : decode prog_13_method_45_code 14 = .ok (.istore_n 3, 1) := by decide +kernel
theorem d_Md_number_15 : decode prog_13_method_45_code 15 = .ok (.aload_n 0, 1) := by decide +kernel
theorem d_Md_number_16 : decode prog_13_method_45_code 16 = .ok (.iload_n 3, 1) := by decide +kernel
theorem d_Md_number_17 : decode prog_13_method_45_code 17 = .ok (.invokevirtual 189, 3) := by decide +kernel
theorem d_Md_number_20 : decode prog_13_method_45_code 20 = .ok (.istore 4, 2) := by decide +kernel
theorem d_Md_number_22 : decode prog_13_method_45_code 22 = .ok (.iload 4, 2) := by decide +kernel
theorem d_Md_number_24 : decode prog_13_method_45_code 24 = .ok (.iload_n 1, 1) := by decide +kernel
theorem d_Md_number_25 : decode prog_13_method_45_code 25 = .ok (.if_icmp .lt 9, 3) := by decide +kernel
theorem d_Md_number_28 : decode prog_13_method_45_code 28 = .ok (.iload 4, 2) := by decide +kernel
theorem d_Md_number_30 : decode prog_13_method_45_code 30 = .ok (.iload_n 2, 1) := by decide +kernel
theorem d_Md_number_31 : decode prog_13_method_45_code 31 = .ok (.if_icmp .le 8, 3) := by decide +kernel
theorem d_Md_number_34 : decode prog_13_method_45_code 34 = .ok (.aload_n 0, 1) := by decide +kernel
theorem d_Md_number_35 : decode prog_13_method_45_code 35 = .ok (.iload_n 3, 1) := by decide +kernel
theorem d_Md_number_36 : decode prog_13_method_45_code 36 = .ok (.invokevirtual 186, 3) := by decide +kernel
theorem d_Md_number_39 : decode prog_13_method_45_code 39 = .ok (.iload 4, 2) := by decide +kernel
theorem d_Md_number_41 : decode prog_13_method_45_code 41 = .ok (.ireturn, 1) := by decide +kernel
theorem mb_Md_figures : MBv R_Md y_Md_figures prog_13_method_44_code 4 (some .int) 1 := ⟨mT8 224 (by decide +kernel) (by decide +kernel), mTs 20 (by decide +kernel) (by decide +kernel), mT1 10 (by decide +kernel) (by decide +kernel), mT8 225 (by decide +kernel) (by decide +kernel), by decide, rfl, by decide +kernel, by decide +kernel, by decide +kernel⟩
theorem mb_Md_here : MBv R_Md y_Md_here prog_13_method_39_code 1 (some .int) 0 := ⟨mT8 210 (by decide +kernel) (by decide +kernel), mTs 17 (by decide +kernel) (by decide +kernel), mT1 10 (by decide +kernel) (by decide +kernel), mT8 211 (by decide +kernel) (by decide +kernel), by decide, rfl, by decide +kernel, by decide +kernel, by decide +kernel⟩
theorem lk_Md_169 : Cond.methodLink "FeastBookModel" 169 y_Md_here ∈ TT := mT8 208 (by decide +kernel) (by decide +kernel)
theorem lk_Md_189 : Cond.methodLink "FeastBookModel" 189 y_Md_figures ∈ TT := mT8 222 (by decide +kernel) (by decide +kernel)
def M_Md_number (N : Nat) (h : Hp) (a1 a2 : Int) : Option (Int × Hp) := if eqb (h 83 10) (-1) then (M_Md_here N h).bind (fun q2 => (M_Md_figures N q2.2 q2.1).bind (fun q4 => if ltb q4.1 a1 then (M_Md_wrong q4.2 q2.1).bind (fun h6 => some (q4.1, h6)) else if leb q4.1 a2 then some (q4.1, q4.2) else (M_Md_wrong q4.2 q2.1).bind (fun h8 => some (q4.1, h8)))) else some (0, h)
set_option maxHeartbeats 4000000 in
set_option maxRecDepth 100000 in
theorem c_Md_number {l : Launch} {D : va_G} {ad : Nat → Nat} {cA : Nat → ClassId} {sd sv : Nat → Nat} {h : Hp} {N : Nat} {a1 a2 : Int} {out : (Int × Hp)} (hI : Inj97 ad) (hM : M_Md_number N h a1 a2 = some out) : Met l y_Md_number (.code y_Md_number prog_13_method_45_code 5 (some .int) :: TT) (rmD 2) (PC D ad cA sd sv h [.ref (ad 83), .int (iZ a1), .int (iZ a2)]) (QI D ad cA out) 0 0 (FA ad) := by
  unfold M_Md_number at hM
  refine entM (by decide +kernel) hI (Nat.le_of_ble_eq_true rfl) ?_
  intro p e s m args below meth c C hr hlk hP ls hl
  have C : Cx p s m args c prog_13_method_45_code 5 "FeastBookModel" D ad cA sd sv (FA ad) := C
  have hl : lv_has ls 5 [(0, .ref (ad 83)), (1, .int (iZ a1)), (2, .int (iZ a2))] := hl
  have w : Wd s D ad cA (FA ad) h s.heap [] := ⟨hP, va_S.rf⟩
  refine m_aload_n C hl 0 d_Md_number_0 rfl rfl ?_
  refine m_geti C w.1 kc_Md sh_83 (Nat.le_of_ble_eq_true rfl) 10 rfl (by decide) fk_Md_22 d_Md_number_1 ?_
  refine m_iconst C d_Md_number_4 ?_
  refine m_icmp_eq C hM 10 d_Md_number_5 (by decide) (fun hM => ?_) (fun hM => ?_)
  · refine m_aload_n C hl 0 d_Md_number_10 rfl rfl ?_
    obtain ⟨q2, e1, hM⟩ := bnd_some hM
    refine aftI C w (runV C w.1 w.2 kc_Md sh_83 (Nat.le_of_ble_eq_true rfl) (c_Md_here hI e1) lk_Md_169 mb_Md_here rfl ⟨Nat.le_of_ble_eq_true rfl, Nat.le_of_ble_eq_true rfl⟩ ⟨Nat.zero_le _, Nat.zero_le _⟩ (Nat.le_of_ble_eq_true rfl) d_Md_number_11 hl.1 (rest := []) rfl) (fun H locs w => ?_)
    refine m_istore_n C hl [(3, .int (iZ q2.1)), (0, .ref (ad 83)), (1, .int (iZ a1)), (2, .int (iZ a2))] d_Md_number_14 rfl (by decide) rfl (fun ls hl => ?_)
    refine m_aload_n C hl 1 d_Md_number_15 rfl rfl ?_
    refine m_iload_n C hl 0 d_Md_number_16 rfl rfl ?_
    obtain ⟨q4, e3, hM⟩ := bnd_some hM
    refine aftI C w (runV C w.1 w.2 kc_Md sh_83 (Nat.le_of_ble_eq_true rfl) (c_Md_figures hI e3) lk_Md_189 mb_Md_figures rfl ⟨Nat.le_of_ble_eq_true rfl, Nat.le_of_ble_eq_true rfl⟩ ⟨Nat.zero_le _, Nat.zero_le _⟩ (Nat.le_of_ble_eq_true rfl) d_Md_number_17 hl.1 (rest := []) rfl) (fun H locs w => ?_)
    refine m_istore C hl [(4, .int (iZ q4.1)), (3, .int (iZ q2.1)), (0, .ref (ad 83)), (1, .int (iZ a1)), (2, .int (iZ a2))] d_Md_number_20 (by decide) rfl (fun ls hl => ?_)
    refine m_iload C hl 0 d_Md_number_22 rfl ?_
    refine m_iload_n C hl 3 d_Md_number_24 rfl rfl ?_
    refine m_icmp_lt C hM 34 d_Md_number_25 (by decide) (fun hM => ?_) (fun hM => ?_)
    · refine m_aload_n C hl 2 d_Md_number_34 rfl rfl ?_
      refine m_iload_n C hl 1 d_Md_number_35 rfl rfl ?_
      obtain ⟨h6, e5, hM⟩ := bnd_some hM
      refine aftV C w (runV C w.1 w.2 kc_Md sh_83 (Nat.le_of_ble_eq_true rfl) (c_Md_wrong hI e5) lk_Md_186 mb_Md_wrong rfl ⟨Nat.le_of_ble_eq_true rfl, Nat.le_of_ble_eq_true rfl⟩ ⟨Nat.zero_le _, Nat.zero_le _⟩ (Nat.le_of_ble_eq_true rfl) d_Md_number_36 hl.1 (rest := []) rfl) (fun H locs w => ?_)
      refine m_iload C hl 0 d_Md_number_39 rfl ?_
      exact m_iretW C w hr hlk hM d_Md_number_41
    · refine m_iload C hl 0 d_Md_number_28 rfl ?_
      refine m_iload_n C hl 4 d_Md_number_30 rfl rfl ?_
      refine m_icmp_le C hM 39 d_Md_number_31 (by decide) (fun hM => ?_) (fun hM => ?_)
      · refine m_iload C hl 0 d_Md_number_39 rfl ?_
        exact m_iretW C w hr hlk hM d_Md_number_41
      · refine m_aload_n C hl 2 d_Md_number_34 rfl rfl ?_
        refine m_iload_n C hl 1 d_Md_number_35 rfl rfl ?_
        obtain ⟨h8, e7, hM⟩ := bnd_some hM
        refine aftV C w (runV C w.1 w.2 kc_Md sh_83 (Nat.le_of_ble_eq_true rfl) (c_Md_wrong hI e7) lk_Md_186 mb_Md_wrong rfl ⟨Nat.le_of_ble_eq_true rfl, Nat.le_of_ble_eq_true rfl⟩ ⟨Nat.zero_le _, Nat.zero_le _⟩ (Nat.le_of_ble_eq_true rfl) d_Md_number_36 hl.1 (rest := []) rfl) (fun H locs w => ?_)
        refine m_iload C hl 0 d_Md_number_39 rfl ?_
        exact m_iretW C w hr hlk hM d_Md_number_41
  · refine m_iconst C d_Md_number_8 ?_
    exact m_iretW C w hr hlk hM d_Md_number_9
def y_Md_isFigure : MethodName := ⟨"FeastBookModel", "isFigure", "()Z"⟩
theorem d_Md_isFigure_0 : decode prog_13_method_43_code 0 = .ok (.aload_n 0, 1) := by decide +kernel
theorem d_Md_isFigure_1 : decode prog_13_method_43_code 1 = .ok (.invokevirtual 169, 3) := by decide +kernel
theorem d_Md_isFigure_4 : decode prog_13_method_43_code 4 = .ok (.aload_n 0, 1) := by decide +kernel
theorem d_Md_isFigure_5 : decode prog_13_method_43_code 5 = .ok (.getfield 166, 3) := by decide +kernel
theorem d_Md_isFigure_8 : decode prog_13_method_43_code 8 = .ok (.if_icmp .ge 26, 3) := by decide +kernel
theorem d_Md_isFigure_11 : decode prog_13_method_43_code 11 = .ok (.aload_n 0, 1) := by decide +kernel
theorem d_Md_isFigure_12 : decode prog_13_method_43_code 12 = .ok (.getfield 19, 3) := by decide +kernel
theorem d_Md_isFigure_15 : decode prog_13_method_43_code 15 = .ok (.aload_n 0, 1) := by decide +kernel
theorem d_Md_isFigure_16 : decode prog_13_method_43_code 16 = .ok (.getfield 163, 3) := by decide +kernel
theorem d_Md_isFigure_19 : decode prog_13_method_43_code 19 = .ok (.iaload, 1) := by decide +kernel
theorem d_Md_isFigure_20 : decode prog_13_method_43_code 20 = .ok (.bipush 48, 2) := by decide +kernel
theorem d_Md_isFigure_22 : decode prog_13_method_43_code 22 = .ok (.bipush 57, 2) := by decide +kernel
theorem d_Md_isFigure_24 : decode prog_13_method_43_code 24 = .ok (.invokestatic 54, 3) := by decide +kernel
theorem d_Md_isFigure_27 : decode prog_13_method_43_code 27 = .ok (.ifCond .eq 7, 3) := by decide +kernel
theorem d_Md_isFigure_30 : decode prog_13_method_43_code 30 = .ok (.iconst 1, 1) := by decide +kernel
theorem d_Md_isFigure_31 : decode prog_13_method_43_code 31 = .ok (.goto 4, 3) := by decide +kernel
theorem d_Md_isFigure_34 : decode prog_13_method_43_code 34 = .ok (.iconst 0, 1) := by decide +kernel
theorem d_Md_isFigure_35 : decode prog_13_method_43_code 35 = .ok (.ireturn, 1) := by decide +kernel
def M_Md_isFigure (N : Nat) (h : Hp) : Option (Int × Hp) := (M_Md_here N h).bind (fun q2 => if leb (q2.2 83 8) q2.1 then ckB 0 (some (0, q2.2)) else (rdA q2.2 87 400 (q2.2 83 9)).bind (fun x3 => (M_Md_isIn x3 48 57).bind (fun x5 => if eqb x5 0 then ckB 0 (some (0, q2.2)) else ckB 1 (some (1, q2.2)))))
set_option maxHeartbeats 4000000 in
set_option maxRecDepth 100000 in
theorem c_Md_isFigure {l : Launch} {D : va_G} {ad : Nat → Nat} {cA : Nat → ClassId} {sd sv : Nat → Nat} {h : Hp} {N : Nat} {out : (Int × Hp)} (hI : Inj97 ad) (hM : M_Md_isFigure N h = some out) : Met l y_Md_isFigure (.code y_Md_isFigure prog_13_method_43_code 1 (some .boolean) :: TT) (rmD 1) (PC D ad cA sd sv h [.ref (ad 83)]) (QI D ad cA out) 0 0 (FA ad) := by
  unfold M_Md_isFigure at hM
  refine entM (by decide +kernel) hI (Nat.le_of_ble_eq_true rfl) ?_
  intro p e s m args below meth c C hr hlk hP ls hl
  have C : Cx p s m args c prog_13_method_43_code 1 "FeastBookModel" D ad cA sd sv (FA ad) := C
  have hl : lv_has ls 1 [(0, .ref (ad 83))] := hl
  have w : Wd s D ad cA (FA ad) h s.heap [] := ⟨hP, va_S.rf⟩
  refine m_aload_n C hl 0 d_Md_isFigure_0 rfl rfl ?_
  obtain ⟨q2, e1, hM⟩ := bnd_some hM
  refine aftI C w (runV C w.1 w.2 kc_Md sh_83 (Nat.le_of_ble_eq_true rfl) (c_Md_here hI e1) lk_Md_169 mb_Md_here rfl ⟨Nat.le_of_ble_eq_true rfl, Nat.le_of_ble_eq_true rfl⟩ ⟨Nat.zero_le _, Nat.zero_le _⟩ (Nat.le_of_ble_eq_true rfl) d_Md_isFigure_1 hl.1 (rest := []) rfl) (fun H locs w => ?_)
  refine m_aload_n C hl 0 d_Md_isFigure_4 rfl rfl ?_
  refine m_geti C w.1 kc_Md sh_83 (Nat.le_of_ble_eq_true rfl) 8 rfl (by decide) fk_Md_166 d_Md_isFigure_5 ?_
  refine m_icmp_ge C hM 34 d_Md_isFigure_8 (by decide) (fun hM => ?_) (fun hM => ?_)
  · refine m_iconst C d_Md_isFigure_34 ?_
    exact m_zretW C w hr hlk hM d_Md_isFigure_35
  · refine m_aload_n C hl 0 d_Md_isFigure_11 rfl rfl ?_
    refine m_getr C w.1 kc_Md sh_83 (Nat.le_of_ble_eq_true rfl) 6 87 rfl (by decide) fk_Md_19 d_Md_isFigure_12 ?_
    refine m_aload_n C hl 0 d_Md_isFigure_15 rfl rfl ?_
    refine m_geti C w.1 kc_Md sh_83 (Nat.le_of_ble_eq_true rfl) 9 rfl (by decide) fk_Md_163 d_Md_isFigure_16 ?_
    refine m_iald C w.1 sh_87 (Nat.le_of_ble_eq_true rfl) (Nat.le_of_ble_eq_true rfl) hM d_Md_isFigure_19 (fun x3 hM => ?_)
    refine m_bipush C d_Md_isFigure_20 (by decide) ?_
    refine m_bipush C d_Md_isFigure_22 (by decide) ?_
    obtain ⟨x5, e4, hM⟩ := bnd_some hM
    refine aftR (runS C w.1 w.2 (c_Md_isIn hI e4) lk_Md_54 mb_Md_isIn rfl ⟨Nat.le_of_ble_eq_true rfl, Nat.le_of_ble_eq_true rfl⟩ ⟨Nat.zero_le _, Nat.zero_le _⟩ (Nat.le_of_ble_eq_true rfl) d_Md_isFigure_24 hl.1 (rest := []) rfl) ?_
    refine m_if_eq C hM 34 d_Md_isFigure_27 (by decide) (fun hM => ?_) (fun hM => ?_)
    · refine m_iconst C d_Md_isFigure_34 ?_
      exact m_zretW C w hr hlk hM d_Md_isFigure_35
    · refine m_iconst C d_Md_isFigure_30 ?_
      refine m_goto C 35 d_Md_isFigure_31 (by decide) ?_
      exact m_zretW C w hr hlk hM d_Md_isFigure_35
def y_Md_monthsOf : MethodName := ⟨"FeastBookModel", "monthsOf", "([I)I"⟩
theorem d_Md_monthsOf_0 : decode prog_13_method_9_code 0 = .ok (.iconst 0, 1) := by decide +kernel
theorem d_Md_monthsOf_1 : decode prog_13_method_9_code 1 = .ok (.istore_n 1, 1) := by decide +kernel
theorem d_Md_monthsOf_2 : decode prog_13_method_9_code 2 = .ok (.iconst 0, 1) := by decide +kernel
theorem d_Md_monthsOf_3 : decode prog_13_method_9_code 3 = .ok (.istore_n 2, 1) := by decide +kernel
theorem d_Md_monthsOf_4 : decode prog_13_method_9_code 4 = .ok (.iload_n 2, 1) := by decide +kernel
theorem d_Md_monthsOf_5 : decode prog_13_method_9_code 5 = .ok (.aload_n 0, 1) := by decide +kernel
theorem d_Md_monthsOf_6 : decode prog_13_method_9_code 6 = .ok (.iconst 1, 1) := by decide +kernel
theorem d_Md_monthsOf_7 : decode prog_13_method_9_code 7 = .ok (.iaload, 1) := by decide +kernel
theorem d_Md_monthsOf_8 : decode prog_13_method_9_code 8 = .ok (.if_icmp .ge 17, 3) := by decide +kernel
theorem d_Md_monthsOf_11 : decode prog_13_method_9_code 11 = .ok (.iload_n 1, 1) := by decide +kernel
theorem d_Md_monthsOf_12 : decode prog_13_method_9_code 12 = .ok (.aload_n 0, 1) := by decide +kernel
theorem d_Md_monthsOf_13 : decode prog_13_method_9_code 13 = .ok (.iconst 2, 1) := by decide +kernel
theorem d_Md_monthsOf_14 : decode prog_13_method_9_code 14 = .ok (.iload_n 2, 1) := by decide +kernel
theorem d_Md_monthsOf_15 : decode prog_13_method_9_code 15 = .ok (.iadd, 1) := by decide +kernel
theorem d_Md_monthsOf_16 : decode prog_13_method_9_code 16 = .ok (.iaload, 1) := by decide +kernel
theorem d_Md_monthsOf_17 : decode prog_13_method_9_code 17 = .ok (.iadd, 1) := by decide +kernel
theorem d_Md_monthsOf_18 : decode prog_13_method_9_code 18 = .ok (.istore_n 1, 1) := by decide +kernel
theorem d_Md_monthsOf_19 : decode prog_13_method_9_code 19 = .ok (.iinc 2 1, 3) := by decide +kernel
theorem d_Md_monthsOf_22 : decode prog_13_method_9_code 22 = .ok (.goto (-18), 3) := by decide +kernel
theorem d_Md_monthsOf_25 : decode prog_13_method_9_code 25 = .ok (.iload_n 1, 1) := by decide +kernel
theorem d_Md_monthsOf_26 : decode prog_13_method_9_code 26 = .ok (.ireturn, 1) := by decide +kernel
def Md_monthsOf_L4 (N : Nat) (h : Hp) (X nX : Nat) : Nat → Int → Int → Option Int
  | 0, _, _ => none
  | n + 1, v1, v2 => (rdA h X nX 1).bind (fun x1 => if leb x1 v2 then some v1 else (rdA h X nX (2 + v2)).bind (fun x2 => Md_monthsOf_L4 N h X nX n (v1 + x2) (v2 + 1)))
def M_Md_monthsOf (N : Nat) (h : Hp) (X : Nat) (nX : Nat) : Option Int := Md_monthsOf_L4 N h X nX N 0 0
set_option maxHeartbeats 4000000 in
set_option maxRecDepth 100000 in
theorem w_Md_monthsOf_L4 {p : Program} {l : Launch} {e : Env} {s : State} {m : MethodId} {args : Array Value} {below : List Frame} {meth : Method} {c : Code} {D : va_G} {ad : Nat → Nat} {cA : Nat → ClassId} {sd sv : Nat → Nat} {out : Int} (N : Nat) (X : Nat) (nX : Nat) (hX : shp X = .inr (0, nX) ∧ X < 97 ∧ nX < 2147483648) (hI : Inj97 ad) (C : Cx p s m args c prog_13_method_9_code 3 "FeastBookModel" D ad cA sd sv (FA ad)) (hr : meth.sig.returnType = (some .int)) (hlk : meth.locks = false) (h : Hp) (hP : va_P D clL (wl ad cA h) s.heap) : ∀ (n : Nat) (v1 v2 : Int), ∀ ls : Array Slot, lv_has ls 3 [(0, .ref (ad X)), (1, .int (iZ v1)), (2, .int (iZ v2))] → Md_monthsOf_L4 N h X nX n v1 v2 = some out → W p l e (rmD 0) s m args below meth c s.heap [] 0 0 (MQ below (QR out) args s 0 0 (fun _ => False)) (F0 m 4 ls []) := by
  intro n
  induction n with
  | zero =>
    intro v1 v2 ls hl hM
    rw [Md_monthsOf_L4] at hM
    cases hM
  | succ n ih =>
    intro v1 v2 ls hl hM
    rw [Md_monthsOf_L4] at hM
    refine m_iload_n C hl 2 d_Md_monthsOf_4 rfl rfl ?_
    refine m_aload_n C hl 0 d_Md_monthsOf_5 rfl rfl ?_
    refine m_iconst C d_Md_monthsOf_6 ?_
    refine m_iald C hP hX.1 hX.2.1 hX.2.2 hM d_Md_monthsOf_7 (fun x1 hM => ?_)
    refine m_icmp_ge C hM 25 d_Md_monthsOf_8 (by decide) (fun hM => ?_) (fun hM => ?_)
    · refine m_iload_n C hl 1 d_Md_monthsOf_25 rfl rfl ?_
      exact m_iretR C hr hlk hM d_Md_monthsOf_26
    · refine m_iload_n C hl 1 d_Md_monthsOf_11 rfl rfl ?_
      refine m_aload_n C hl 0 d_Md_monthsOf_12 rfl rfl ?_
      refine m_iconst C d_Md_monthsOf_13 ?_
      refine m_iload_n C hl 2 d_Md_monthsOf_14 rfl rfl ?_
      refine m_iadd C d_Md_monthsOf_15 ?_
      refine m_iald C hP hX.1 hX.2.1 hX.2.2 hM d_Md_monthsOf_16 (fun x2 hM => ?_)
      refine m_iadd C d_Md_monthsOf_17 ?_
      refine m_istore_n C hl [(1, .int (iZ (v1 + x2))), (0, .ref (ad X)), (2, .int (iZ v2))] d_Md_monthsOf_18 rfl (by decide) rfl (fun ls hl => ?_)
      refine m_iinc C hl 2 [(2, .int (iZ (v2 + 1))), (1, .int (iZ (v1 + x2))), (0, .ref (ad X))] d_Md_monthsOf_19 rfl (by decide) rfl (fun ls hl => ?_)
      refine m_goto C 4 d_Md_monthsOf_22 (by decide) ?_
      exact ih (v1 + x2) (v2 + 1) _ (lv_sub hl [2, 1, 0] rfl) hM
set_option maxHeartbeats 4000000 in
set_option maxRecDepth 100000 in
theorem c_Md_monthsOf {l : Launch} {D : va_G} {ad : Nat → Nat} {cA : Nat → ClassId} {sd sv : Nat → Nat} {h : Hp} {N : Nat} {X : Nat} {nX : Nat} {out : Int} (hI : Inj97 ad) (hX : shp X = .inr (0, nX) ∧ X < 97 ∧ nX < 2147483648) (hM : M_Md_monthsOf N h X nX = some out) : Met l y_Md_monthsOf (.code y_Md_monthsOf prog_13_method_9_code 3 (some .int) :: TT) (rmD 0) (PC D ad cA sd sv h [.ref (ad X)]) (QR out) 0 0 (fun _ => False) := by
  unfold M_Md_monthsOf at hM
  refine entM (by decide +kernel) hI (Nat.le_of_ble_eq_true rfl) ?_
  intro p e s m args below meth c C hr hlk hP ls hl
  have C : Cx p s m args c prog_13_method_9_code 3 "FeastBookModel" D ad cA sd sv (FA ad) := C
  have hl : lv_has ls 3 [(0, .ref (ad X))] := hl
  refine m_iconst C d_Md_monthsOf_0 ?_
  refine m_istore_n C hl [(1, .int (iZ 0)), (0, .ref (ad X))] d_Md_monthsOf_1 rfl (by decide) rfl (fun ls hl => ?_)
  refine m_iconst C d_Md_monthsOf_2 ?_
  refine m_istore_n C hl [(2, .int (iZ 0)), (1, .int (iZ 0)), (0, .ref (ad X))] d_Md_monthsOf_3 rfl (by decide) rfl (fun ls hl => ?_)
  exact w_Md_monthsOf_L4 N X nX hX hI C hr hlk  h hP _ 0 0 _ (lv_sub hl [2, 1, 0] rfl) hM
def y_Md_once : MethodName := ⟨"FeastBookModel", "once", "(IIIII)V"⟩
theorem d_Md_once_0 : decode prog_13_method_48_code 0 = .ok (.aload_n 0, 1) := by decide +kernel
theorem d_Md_once_1 : decode prog_13_method_48_code 1 = .ok (.getfield 208, 3) := by decide +kernel
theorem d_Md_once_4 : decode prog_13_method_48_code 4 = .ok (.iload_n 1, 1) := by decide +kernel
theorem d_Md_once_5 : decode prog_13_method_48_code 5 = .ok (.ishr, 1) := by decide +kernel
theorem d_Md_once_6 : decode prog_13_method_48_code 6 = .ok (.iconst 1, 1) := by decide +kernel
theorem d_Md_once_7 : decode prog_13_method_48_code 7 = .ok (.iand, 1) := by decide +kernel
theorem d_Md_once_8 : decode prog_13_method_48_code 8 = .ok (.iconst 1, 1) := by decide +kernel
theorem d_Md_once_9 : decode prog_13_method_48_code 9 = .ok (.if_icmp .ne 8, 3) := by decide +kernel
theorem d_Md_once_12 : decode prog_13_method_48_code 12 = .ok (.aload_n 0, 1) := by decide +kernel
theorem d_Md_once_13 : decode prog_13_method_48_code 13 = .ok (.iload_n 2, 1) := by decide +kernel
theorem d_Md_once_14 : decode prog_13_method_48_code 14 = .ok (.invokevirtual 186, 3) := by decide +kernel
theorem d_Md_once_17 : decode prog_13_method_48_code 17 = .ok (.aload_n 0, 1) := by decide +kernel
theorem d_Md_once_18 : decode prog_13_method_48_code 18 = .ok (.dup, 1) := by decide +kernel
theorem d_Md_once_19 : decode prog_13_method_48_code 19 = .ok (.getfield 208, 3) := by decide +kernel
theorem d_Md_once_22 : decode prog_13_method_48_code 22 = .ok (.iconst 1, 1) := by decide +kernel
theorem d_Md_once_23 : decode prog_13_method_48_code 23 = .ok (.iload_n 1, 1) := by decide +kernel
theorem d_Md_once_24 : decode prog_13_method_48_code 24 = .ok (.ishl, 1) := by decide +kernel
theorem d_Md_once_25 : decode prog_13_method_48_code 25 = .ok (.ior, 1) := by decide +kernel
theorem d_Md_once_26 : decode prog_13_method_48_code 26 = .ok (.putfield 208, 3) := by decide +kernel
theorem d_Md_once_29 : decode prog_13_method_48_code 29 = .ok (.aload_n 0, 1) := by decide +kernel
theorem d_Md_once_30 : decode prog_13_method_48_code 30 = .ok (.getfield 26, 3) := by decide +kernel
theorem d_Md_once_33 : decode prog_13_method_48_code 33 = .ok (.iload_n 3, 1) := by decide +kernel
theorem d_Md_once_34 : decode prog_13_method_48_code 34 = .ok (.aload_n 0, 1) := by decide +kernel
theorem d_Md_once_35 : decode prog_13_method_48_code 35 = .ok (.iload 4, 2) := by decide +kernel
theorem d_Md_once_37 : decode prog_13_method_48_code 37 = .ok (.iload 5, 2) := by decide +kernel
theorem d_Md_once_39 : decode prog_13_method_48_code 39 = .ok (.invokevirtual 198, 3) := by decide +kernel
theorem d_Md_once_42 : decode prog_13_method_48_code 42 = .ok (.iastore, 1) := by decide +kernel
theorem d_Md_once_43 : decode prog_13_method_48_code 43 = .ok (.return_, 1) := by decide +kernel
theorem mb_Md_number : MBv R_Md y_Md_number prog_13_method_45_code 5 (some .int) 2 := ⟨mT8 220 (by decide +kernel) (by decide +kernel), mTs 19 (by decide +kernel) (by decide +kernel), mT1 10 (by decide +kernel) (by decide +kernel), mT8 221 (by decide +kernel) (by decide +kernel), by decide, rfl, by decide +kernel, by decide +kernel, by decide +kernel⟩
theorem fk_Md_208 : Cond.fieldLink "FeastBookModel" 208 (T_Md 12).1 (T_Md 12).2.1 (T_Md 12).2.2.1 ∈ TT := mT8 108 (by decide +kernel) (by decide +kernel)
theorem fk_Md_26 : Cond.fieldLink "FeastBookModel" 26 (T_Md 11).1 (T_Md 11).2.1 (T_Md 11).2.2.1 ∈ TT := mT8 107 (by decide +kernel) (by decide +kernel)
theorem lk_Md_198 : Cond.methodLink "FeastBookModel" 198 y_Md_number ∈ TT := mT8 218 (by decide +kernel) (by decide +kernel)
def M_Md_once (N : Nat) (h : Hp) (a1 a2 a3 a4 a5 : Int) : Option Hp := lt' (fun (h_3 : Hp) => lt' (hs h_3 83 12 (orI (h_3 83 12) (shlI 1 a1))) (fun h4 => (M_Md_number N h4 a4 a5).bind (fun q6 => (wrA q6.2 88 127 a3 q6.1).bind (fun h7 => some h7)))) (fun j3 => if eqb (andI (shrI (h 83 12) a1) 1) 1 then (M_Md_wrong h a2).bind (fun h9 => j3 h9) else j3 h)
set_option maxHeartbeats 4000000 in
set_option maxRecDepth 100000 in
theorem c_Md_once {l : Launch} {D : va_G} {ad : Nat → Nat} {cA : Nat → ClassId} {sd sv : Nat → Nat} {h : Hp} {N : Nat} {a1 a2 a3 a4 a5 : Int} {out : Hp} (hI : Inj97 ad) (hM : M_Md_once N h a1 a2 a3 a4 a5 = some out) : Met l y_Md_once (.code y_Md_once prog_13_method_48_code 6 none :: TT) (rmD 3) (PC D ad cA sd sv h [.ref (ad 83), .int (iZ a1), .int (iZ a2), .int (iZ a3), .int (iZ a4), .int (iZ a5)]) (QV D ad cA out) 0 0 (FA ad) := by
  unfold M_Md_once at hM
  refine entM (by decide +kernel) hI (Nat.le_of_ble_eq_true rfl) ?_
  intro p e s m args below meth c C hr hlk hP ls hl
  have C : Cx p s m args c prog_13_method_48_code 6 "FeastBookModel" D ad cA sd sv (FA ad) := C
  have hl : lv_has ls 6 [(0, .ref (ad 83)), (1, .int (iZ a1)), (2, .int (iZ a2)), (3, .int (iZ a3)), (4, .int (iZ a4)), (5, .int (iZ a5))] := hl
  have w : Wd s D ad cA (FA ad) h s.heap [] := ⟨hP, va_S.rf⟩
  refine m_aload_n C hl 0 d_Md_once_0 rfl rfl ?_
  refine m_geti C w.1 kc_Md sh_83 (Nat.le_of_ble_eq_true rfl) 12 rfl (by decide) fk_Md_208 d_Md_once_1 ?_
  refine m_iload_n C hl 1 d_Md_once_4 rfl rfl ?_
  refine m_ishr C d_Md_once_5 ?_
  refine m_iconst C d_Md_once_6 ?_
  refine m_iand C d_Md_once_7 ?_
  refine m_iconst C d_Md_once_8 ?_
  refine lt_join hM (fun j3 ej hM => ?_)
  have hJ3 : ∀ (h_3 : Hp), j3 h_3 = some out → ∀ (H : Heap) (locs : List Loc), Wd s D ad cA (FA ad) h_3 H locs → ∀ ls : Array Slot, lv_has ls 6 [(0, .ref (ad 83)), (1, .int (iZ a1)), (2, .int (iZ a2)), (3, .int (iZ a3)), (4, .int (iZ a4)), (5, .int (iZ a5))] → W p l e (rmD 3) s m args below meth c H locs 0 0 (MQ below (QV D ad cA out) args s 0 0 (FA ad)) (F0 m 17 ls []) := by
    intro h_3 hM H locs w ls hl
    subst ej
    dsimp only at hM
    refine m_aload_n C hl 0 d_Md_once_17 rfl rfl ?_
    refine m_dup C d_Md_once_18 rfl ?_
    refine m_geti C w.1 kc_Md sh_83 (Nat.le_of_ble_eq_true rfl) 12 rfl (by decide) fk_Md_208 d_Md_once_19 ?_
    refine m_iconst C d_Md_once_22 ?_
    refine m_iload_n C hl 1 d_Md_once_23 rfl rfl ?_
    refine m_ishl C d_Md_once_24 ?_
    refine m_ior C d_Md_once_25 ?_
    refine m_puti C w kc_Md sh_83 (Nat.le_of_ble_eq_true rfl) 12 hM rfl (by decide) rfl rfl fk_Md_208 d_Md_once_26 (fun h4 H locs w hM => ?_)
    refine m_aload_n C hl 0 d_Md_once_29 rfl rfl ?_
    refine m_getr C w.1 kc_Md sh_83 (Nat.le_of_ble_eq_true rfl) 11 88 rfl (by decide) fk_Md_26 d_Md_once_30 ?_
    refine m_iload_n C hl 3 d_Md_once_33 rfl rfl ?_
    refine m_aload_n C hl 0 d_Md_once_34 rfl rfl ?_
    refine m_iload C hl 4 d_Md_once_35 rfl ?_
    refine m_iload C hl 5 d_Md_once_37 rfl ?_
    obtain ⟨q6, e5, hM⟩ := bnd_some hM
    refine aftI C w (runV C w.1 w.2 kc_Md sh_83 (Nat.le_of_ble_eq_true rfl) (c_Md_number hI e5) lk_Md_198 mb_Md_number rfl ⟨Nat.le_of_ble_eq_true rfl, Nat.le_of_ble_eq_true rfl⟩ ⟨Nat.zero_le _, Nat.zero_le _⟩ (Nat.le_of_ble_eq_true rfl) d_Md_once_39 hl.1 (rest := [.int (iZ a3), .ref (ad 88)]) rfl) (fun H locs w => ?_)
    refine m_iast C w sh_88 (Nat.le_of_ble_eq_true rfl) (Nat.le_of_ble_eq_true rfl) hM d_Md_once_42 (fun h7 H locs w hM => ?_)
    exact m_vretW C w hr hlk hM d_Md_once_43
  refine m_icmp_ne C hM 17 d_Md_once_9 (by decide) (fun hM => ?_) (fun hM => ?_)
  · exact hJ3 h hM _ _ w _ hl
  · refine m_aload_n C hl 0 d_Md_once_12 rfl rfl ?_
    refine m_iload_n C hl 2 d_Md_once_13 rfl rfl ?_
    obtain ⟨h9, e8, hM⟩ := bnd_some hM
    refine aftV C w (runV C w.1 w.2 kc_Md sh_83 (Nat.le_of_ble_eq_true rfl) (c_Md_wrong hI e8) lk_Md_186 mb_Md_wrong rfl ⟨Nat.le_of_ble_eq_true rfl, Nat.le_of_ble_eq_true rfl⟩ ⟨Nat.zero_le _, Nat.zero_le _⟩ (Nat.le_of_ble_eq_true rfl) d_Md_once_14 hl.1 (rest := []) rfl) (fun H locs w => ?_)
    exact hJ3 h9 hM _ _ w _ hl
def y_Md_fastLine : MethodName := ⟨"FeastBookModel", "fastLine", "()V"⟩
theorem d_Md_fastLine_0 : decode prog_13_method_53_code 0 = .ok (.aload_n 0, 1) := by decide +kernel
theorem d_Md_fastLine_1 : decode prog_13_method_53_code 1 = .ok (.invokevirtual 169, 3) := by decide +kernel
theorem d_Md_fastLine_4 : decode prog_13_method_53_code 4 = .ok (.istore_n 1, 1) := by decide +kernel
theorem d_Md_fastLine_5 : decode prog_13_method_53_code 5 = .ok (.aload_n 0, 1) := by decide +kernel
theorem d_Md_fastLine_6 : decode prog_13_method_53_code 6 = .ok (.iconst 0, 1) := by decide +kernel
theorem d_Md_fastLine_7 : decode prog_13_method_53_code 7 = .ok (.aload_n 0, 1) := by decide +kernel
theorem d_Md_fastLine_8 : decode prog_13_method_53_code 8 = .ok (.getfield 26, 3) := by decide +kernel
theorem d_Md_fastLine_11 : decode prog_13_method_53_code 11 = .ok (.iconst 0, 1) := by decide +kernel
theorem d_Md_fastLine_12 : decode prog_13_method_53_code 12 = .ok (.iaload, 1) := by decide +kernel
theorem d_Md_fastLine_13 : decode prog_13_method_53_code 13 = .ok (.iconst 1, 1) := by decide +kernel
theorem d_Md_fastLine_14 : decode prog_13_method_53_code 14 = .ok (.isub, 1) := by decide +kernel
theorem d_Md_fastLine_15 : decode prog_13_method_53_code 15 = .ok (.invokevirtual 198, 3) := by decide +kernel
theorem d_Md_fastLine_18 : decode prog_13_method_53_code 18 = .ok (.istore_n 2, 1) := by decide +kernel
theorem d_Md_fastLine_19 : decode prog_13_method_53_code 19 = .ok (.aload_n 0, 1) := by decide +kernel
theorem d_Md_fastLine_20 : decode prog_13_method_53_code 20 = .ok (.getfield 22, 3) := by decide +kernel
theorem d_Md_fastLine_23 : decode prog_13_method_53_code 23 = .ok (.iconst (-1), 1) := by decide +kernel
theorem d_Md_fastLine_24 : decode prog_13_method_53_code 24 = .ok (.if_icmp .eq 4, 3) := by decide +kernel
theorem d_Md_fastLine_27 : decode prog_13_method_53_code 27 = .ok (.return_, 1) := by decide +kernel
theorem d_Md_fastLine_28 : decode prog_13_method_53_code 28 = .ok (.aload_n 0, 1) := by decide +kernel
theorem d_Md_fastLine_29 : decode prog_13_method_53_code 29 = .ok (.getfield 26, 3) := by decide +kernel
theorem d_Md_fastLine_32 : decode prog_13_method_53_code 32 = .ok (.bipush 17, 2) := by decide +kernel
theorem d_Md_fastLine_34 : decode prog_13_method_53_code 34 = .ok (.iaload, 1) := by decide +kernel
theorem d_Md_fastLine_35 : decode prog_13_method_53_code 35 = .ok (.iload_n 2, 1) := by decide +kernel
theorem d_Md_fastLine_36 : decode prog_13_method_53_code 36 = .ok (.ishr, 1) := by decide +kernel
theorem d_Md_fastLine_37 : decode prog_13_method_53_code 37 = .ok (.iconst 1, 1) := by decide +kernel
theorem d_Md_fastLine_38 : decode prog_13_method_53_code 38 = .ok (.iand, 1) := by decide +kernel
theorem d_Md_fastLine_39 : decode prog_13_method_53_code 39 = .ok (.iconst 1, 1) := by decide +kernel
theorem d_Md_fastLine_40 : decode prog_13_method_53_code 40 = .ok (.if_icmp .ne 8, 3) := by decide +kernel
theorem d_Md_fastLine_43 : decode prog_13_method_53_code 43 = .ok (.aload_n 0, 1) := by decide +kernel
theorem d_Md_fastLine_44 : decode prog_13_method_53_code 44 = .ok (.iload_n 1, 1) := by decide +kernel
theorem d_Md_fastLine_45 : decode prog_13_method_53_code 45 = .ok (.invokevirtual 186, 3) := by decide +kernel
theorem d_Md_fastLine_48 : decode prog_13_method_53_code 48 = .ok (.aload_n 0, 1) := by decide +kernel
theorem d_Md_fastLine_49 : decode prog_13_method_53_code 49 = .ok (.getfield 26, 3) := by decide +kernel
theorem d_Md_fastLine_52 : decode prog_13_method_53_code 52 = .ok (.bipush 17, 2) := by decide +kernel
theorem d_Md_fastLine_54 : decode prog_13_method_53_code 54 = .ok (.dup2, 1) := by decide +kernel
theorem d_Md_fastLine_55 : decode prog_13_method_53_code 55 = .ok (.iaload, 1) := by decide +kernel
theorem d_Md_fastLine_56 : decode prog_13_method_53_code 56 = .ok (.iconst 1, 1) := by decide +kernel
theorem d_Md_fastLine_57 : decode prog_13_method_53_code 57 = .ok (.iload_n 2, 1) := by decide +kernel
theorem d_Md_fastLine_58 : decode prog_13_method_53_code 58 = .ok (.ishl, 1) := by decide +kernel
theorem d_Md_fastLine_59 : decode prog_13_method_53_code 59 = .ok (.ior, 1) := by decide +kernel
theorem d_Md_fastLine_60 : decode prog_13_method_53_code 60 = .ok (.iastore, 1) := by decide +kernel
theorem d_Md_fastLine_61 : decode prog_13_method_53_code 61 = .ok (.return_, 1) := by decide +kernel
def M_Md_fastLine (N : Nat) (h : Hp) : Option Hp := (M_Md_here N h).bind (fun q2 => (rdA q2.2 88 127 0).bind (fun x3 => (M_Md_number N q2.2 0 (x3 - 1)).bind (fun q5 => if eqb (q5.2 83 10) (-1) then (rdA q5.2 88 127 17).bind (fun x6 => if eqb (andI (shrI x6 q5.1) 1) 1 then (M_Md_wrong q5.2 q2.1).bind (fun h10 => (rdA h10 88 127 17).bind (fun x11 => (wrA h10 88 127 17 (orI x11 (shlI 1 q5.1))).bind (fun h12 => some h12))) else (rdA q5.2 88 127 17).bind (fun x7 => (wrA q5.2 88 127 17 (orI x7 (shlI 1 q5.1))).bind (fun h8 => some h8))) else some q5.2)))
set_option maxHeartbeats 4000000 in
set_option maxRecDepth 100000 in
theorem c_Md_fastLine {l : Launch} {D : va_G} {ad : Nat → Nat} {cA : Nat → ClassId} {sd sv : Nat → Nat} {h : Hp} {N : Nat} {out : Hp} (hI : Inj97 ad) (hM : M_Md_fastLine N h = some out) : Met l y_Md_fastLine (.code y_Md_fastLine prog_13_method_53_code 3 none :: TT) (rmD 3) (PC D ad cA sd sv h [.ref (ad 83)]) (QV D ad cA out) 0 0 (FA ad) := by
  unfold M_Md_fastLine at hM
  refine entM (by decide +kernel) hI (Nat.le_of_ble_eq_true rfl) ?_
  intro p e s m args below meth c C hr hlk hP ls hl
  have C : Cx p s m args c prog_13_method_53_code 3 "FeastBookModel" D ad cA sd sv (FA ad) := C
  have hl : lv_has ls 3 [(0, .ref (ad 83))] := hl
  have w : Wd s D ad cA (FA ad) h s.heap [] := ⟨hP, va_S.rf⟩
  refine m_aload_n C hl 0 d_Md_fastLine_0 rfl rfl ?_
  obtain ⟨q2, e1, hM⟩ := bnd_some hM
  refine aftI C w (runV C w.1 w.2 kc_Md sh_83 (Nat.le_of_ble_eq_true rfl) (c_Md_here hI e1) lk_Md_169 mb_Md_here rfl ⟨Nat.le_of_ble_eq_true rfl, Nat.le_of_ble_eq_true rfl⟩ ⟨Nat.zero_le _, Nat.zero_le _⟩ (Nat.le_of_ble_eq_true rfl) d_Md_fastLine_1 hl.1 (rest := []) rfl) (fun H locs w => ?_)
  refine m_istore_n C hl [(1, .int (iZ q2.1)), (0, .ref (ad 83))] d_Md_fastLine_4 rfl (by decide) rfl (fun ls hl => ?_)
  refine m_aload_n C hl 1 d_Md_fastLine_5 rfl rfl ?_
  refine m_iconst C d_Md_fastLine_6 ?_
  refine m_aload_n C hl 1 d_Md_fastLine_7 rfl rfl ?_
  refine m_getr C w.1 kc_Md sh_83 (Nat.le_of_ble_eq_true rfl) 11 88 rfl (by decide) fk_Md_26 d_Md_fastLine_8 ?_
  refine m_iconst C d_Md_fastLine_11 ?_
  refine m_iald C w.1 sh_88 (Nat.le_of_ble_eq_true rfl) (Nat.le_of_ble_eq_true rfl) hM d_Md_fastLine_12 (fun x3 hM => ?_)
  refine m_iconst C d_Md_fastLine_13 ?_
  refine m_isub C d_Md_fastLine_14 ?_
  obtain ⟨q5, e4, hM⟩ := bnd_some hM
  refine aftI C w (runV C w.1 w.2 kc_Md sh_83 (Nat.le_of_ble_eq_true rfl) (c_Md_number hI e4) lk_Md_198 mb_Md_number rfl ⟨Nat.le_of_ble_eq_true rfl, Nat.le_of_ble_eq_true rfl⟩ ⟨Nat.zero_le _, Nat.zero_le _⟩ (Nat.le_of_ble_eq_true rfl) d_Md_fastLine_15 hl.1 (rest := []) rfl) (fun H locs w => ?_)
  refine m_istore_n C hl [(2, .int (iZ q5.1)), (1, .int (iZ q2.1)), (0, .ref (ad 83))] d_Md_fastLine_18 rfl (by decide) rfl (fun ls hl => ?_)
  refine m_aload_n C hl 2 d_Md_fastLine_19 rfl rfl ?_
  refine m_geti C w.1 kc_Md sh_83 (Nat.le_of_ble_eq_true rfl) 10 rfl (by decide) fk_Md_22 d_Md_fastLine_20 ?_
  refine m_iconst C d_Md_fastLine_23 ?_
  refine m_icmp_eq C hM 28 d_Md_fastLine_24 (by decide) (fun hM => ?_) (fun hM => ?_)
  · refine m_aload_n C hl 2 d_Md_fastLine_28 rfl rfl ?_
    refine m_getr C w.1 kc_Md sh_83 (Nat.le_of_ble_eq_true rfl) 11 88 rfl (by decide) fk_Md_26 d_Md_fastLine_29 ?_
    refine m_bipush C d_Md_fastLine_32 (by decide) ?_
    refine m_iald C w.1 sh_88 (Nat.le_of_ble_eq_true rfl) (Nat.le_of_ble_eq_true rfl) hM d_Md_fastLine_34 (fun x6 hM => ?_)
    refine m_iload_n C hl 0 d_Md_fastLine_35 rfl rfl ?_
    refine m_ishr C d_Md_fastLine_36 ?_
    refine m_iconst C d_Md_fastLine_37 ?_
    refine m_iand C d_Md_fastLine_38 ?_
    refine m_iconst C d_Md_fastLine_39 ?_
    refine m_icmp_ne C hM 48 d_Md_fastLine_40 (by decide) (fun hM => ?_) (fun hM => ?_)
    · refine m_aload_n C hl 2 d_Md_fastLine_48 rfl rfl ?_
      refine m_getr C w.1 kc_Md sh_83 (Nat.le_of_ble_eq_true rfl) 11 88 rfl (by decide) fk_Md_26 d_Md_fastLine_49 ?_
      refine m_bipush C d_Md_fastLine_52 (by decide) ?_
      refine m_dup2 C d_Md_fastLine_54 rfl rfl ?_
      refine m_iald C w.1 sh_88 (Nat.le_of_ble_eq_true rfl) (Nat.le_of_ble_eq_true rfl) hM d_Md_fastLine_55 (fun x7 hM => ?_)
      refine m_iconst C d_Md_fastLine_56 ?_
      refine m_iload_n C hl 0 d_Md_fastLine_57 rfl rfl ?_
      refine m_ishl C d_Md_fastLine_58 ?_
      refine m_ior C d_Md_fastLine_59 ?_
      refine m_iast C w sh_88 (Nat.le_of_ble_eq_true rfl) (Nat.le_of_ble_eq_true rfl) hM d_Md_fastLine_60 (fun h8 H locs w hM => ?_)
      exact m_vretW C w hr hlk hM d_Md_fastLine_61
    · refine m_aload_n C hl 2 d_Md_fastLine_43 rfl rfl ?_
      refine m_iload_n C hl 1 d_Md_fastLine_44 rfl rfl ?_
      obtain ⟨h10, e9, hM⟩ := bnd_some hM
      refine aftV C w (runV C w.1 w.2 kc_Md sh_83 (Nat.le_of_ble_eq_true rfl) (c_Md_wrong hI e9) lk_Md_186 mb_Md_wrong rfl ⟨Nat.le_of_ble_eq_true rfl, Nat.le_of_ble_eq_true rfl⟩ ⟨Nat.zero_le _, Nat.zero_le _⟩ (Nat.le_of_ble_eq_true rfl) d_Md_fastLine_45 hl.1 (rest := []) rfl) (fun H locs w => ?_)
      refine m_aload_n C hl 2 d_Md_fastLine_48 rfl rfl ?_
      refine m_getr C w.1 kc_Md sh_83 (Nat.le_of_ble_eq_true rfl) 11 88 rfl (by decide) fk_Md_26 d_Md_fastLine_49 ?_
      refine m_bipush C d_Md_fastLine_52 (by decide) ?_
      refine m_dup2 C d_Md_fastLine_54 rfl rfl ?_
      refine m_iald C w.1 sh_88 (Nat.le_of_ble_eq_true rfl) (Nat.le_of_ble_eq_true rfl) hM d_Md_fastLine_55 (fun x11 hM => ?_)
      refine m_iconst C d_Md_fastLine_56 ?_
      refine m_iload_n C hl 0 d_Md_fastLine_57 rfl rfl ?_
      refine m_ishl C d_Md_fastLine_58 ?_
      refine m_ior C d_Md_fastLine_59 ?_
      refine m_iast C w sh_88 (Nat.le_of_ble_eq_true rfl) (Nat.le_of_ble_eq_true rfl) hM d_Md_fastLine_60 (fun h12 H locs w hM => ?_)
      exact m_vretW C w hr hlk hM d_Md_fastLine_61
  · exact m_vretW C w hr hlk hM d_Md_fastLine_27
def y_Md_signed : MethodName := ⟨"FeastBookModel", "signed", "(I)I"⟩
theorem d_Md_signed_0 : decode prog_13_method_46_code 0 = .ok (.aload_n 0, 1) := by decide +kernel
theorem d_Md_signed_1 : decode prog_13_method_46_code 1 = .ok (.getfield 22, 3) := by decide +kernel
theorem d_Md_signed_4 : decode prog_13_method_46_code 4 = .ok (.iconst (-1), 1) := by decide +kernel
theorem d_Md_signed_5 : decode prog_13_method_46_code 5 = .ok (.if_icmp .eq 5, 3) := by decide +kernel
theorem d_Md_signed_8 : decode prog_13_method_46_code 8 = .ok (.iconst 0, 1) := by decide +kernel
theorem d_Md_signed_9 : decode prog_13_method_46_code 9 = .ok (.ireturn, 1) := by decide +kernel
theorem d_Md_signed_10 : decode prog_13_method_46_code 10 = .ok (.aload_n 0, 1) := by decide +kernel
theorem d_Md_signed_11 : decode prog_13_method_46_code 11 = .ok (.invokevirtual 169, 3) := by decide +kernel
theorem d_Md_signed_14 : decode prog_13_method_46_code 14 = .ok (.istore_n 2, 1) := by decide +kernel
theorem d_Md_signed_15 : decode prog_13_method_46_code 15 = .ok (.aload_n 0, 1) := by decide +kernel
theorem d_Md_signed_16 : decode prog_13_method_46_code 16 = .ok (.getfield 163, 3) := by decide +kernel
theorem d_Md_signed_19 : decode prog_13_method_46_code 19 = .ok (.aload_n 0, 1) := by decide +kernel
theorem d_Md_signed_20 : decode prog_13_method_46_code 20 = .ok (.getfield 166, 3) := by decide +kernel
theorem d_Md_signed_23 : decode prog_13_method_46_code 23 = .ok (.if_icmp .ge 21, 3) := by decide +kernel
theorem d_Md_signed_26 : decode prog_13_method_46_code 26 = .ok (.aload_n 0, 1) := by decide +kernel
theorem d_Md_signed_27 : decode prog_13_method_46_code 27 = .ok (.getfield 19, 3) := by decide +kernel
theorem d_Md_signed_30 : decode prog_13_method_46_code 30 = .ok (.aload_n 0, 1) := by decide +kernel
theorem d_Md_signed_31 : decode prog_13_method_46_code 31 = .ok (.getfield 163, 3) := by decide +kernel
theorem d_Md_signed_34 : decode prog_13_method_46_code 34 = .ok (.iaload, 1) := by decide +kernel
theorem d_Md_signed_35 : decode prog_13_method_46_code 35 = .ok (.bipush 45, 2) := by decide +kernel
theorem d_Md_signed_37 : decode prog_13_method_46_code 37 = .ok (.if_icmp .ne 7, 3) := by decide +kernel
theorem d_Md_signed_40 : decode prog_13_method_46_code 40 = .ok (.iconst 1, 1) := by decide +kernel
theorem d_Md_signed_41 : decode prog_13_method_46_code 41 = .ok (.goto 4, 3) := by decide +kernel
theorem d_Md_signed_44 : decode prog_13_method_46_code 44 = .ok (.iconst 0, 1) := by decide +kernel
theorem d_Md_signed_45 : decode prog_13_method_46_code 45 = .ok (.istore_n 3, 1) := by decide +kernel
theorem d_Md_signed_46 : decode prog_13_method_46_code 46 = .ok (.iload_n 3, 1) := by decide +kernel
theorem d_Md_signed_47 : decode prog_13_method_46_code 47 = .ok (.ifCond .eq 13, 3) := by decide +kernel
theorem d_Md_signed_50 : decode prog_13_method_46_code 50 = .ok (.aload_n 0, 1) := by decide +kernel
theorem d_Md_signed_51 : decode prog_13_method_46_code 51 = .ok (.dup, 1) := by decide +kernel
theorem d_Md_signed_52 : decode prog_13_method_46_code 52 = .ok (.getfield 163, 3) := by decide +kernel
theorem d_Md_signed_55 : decode prog_13_method_46_code 55 = .ok (.iconst 1, 1) := by decide +kernel
theorem d_Md_signed_56 : decode prog_13_method_46_code 56 = .ok (.iadd, 1) := by decide +kernel
theorem d_Md_signed_57 : decode prog_13_method_46_code 57 = .ok (.putfield 163, 3) := by decide +kernel
theorem d_Md_signed_60 : decode prog_13_method_46_code 60 = .ok (.aload_n 0, 1) := by decide +kernel
theorem d_Md_signed_61 : decode prog_13_method_46_code 61 = .ok (.iload_n 2, 1) := by decide +kernel
theorem d_Md_signed_62 : decode prog_13_method_46_code 62 = .ok (.invokevirtual 189, 3) := by decide +kernel
theorem d_Md_signed_65 : decode prog_13_method_46_code 65 = .ok (.istore 4, 2) := by decide +kernel
theorem d_Md_signed_67 : decode prog_13_method_46_code 67 = .ok (.iload_n 3, 1) := by decide +kernel
theorem d_Md_signed_68 : decode prog_13_method_46_code 68 = .ok (.ifCond .eq 9, 3) := by decide +kernel
theorem d_Md_signed_71 : decode prog_13_method_46_code 71 = .ok (.iload 4, 2) := by decide +kernel
theorem d_Md_signed_73 : decode prog_13_method_46_code 73 = .ok (.ineg, 1) := by decide +kernel
theorem d_Md_signed_74 : decode prog_13_method_46_code 74 = .ok (.goto 5, 3) := by decide +kernel
theorem d_Md_signed_77 : decode prog_13_method_46_code 77 = .ok (.iload 4, 2) := by decide +kernel
theorem d_Md_signed_79 : decode prog_13_method_46_code 79 = .ok (.istore 4, 2) := by decide +kernel
theorem d_Md_signed_81 : decode prog_13_method_46_code 81 = .ok (.iload 4, 2) := by decide +kernel
theorem d_Md_signed_83 : decode prog_13_method_46_code 83 = .ok (.iload_n 1, 1) := by decide +kernel
theorem d_Md_signed_84 : decode prog_13_method_46_code 84 = .ok (.if_icmp .ge 8, 3) := by decide +kernel
theorem d_Md_signed_87 : decode prog_13_method_46_code 87 = .ok (.aload_n 0, 1) := by decide +kernel
theorem d_Md_signed_88 : decode prog_13_method_46_code 88 = .ok (.iload_n 2, 1) := by decide +kernel
theorem d_Md_signed_89 : decode prog_13_method_46_code 89 = .ok (.invokevirtual 186, 3) := by decide +kernel
theorem d_Md_signed_92 : decode prog_13_method_46_code 92 = .ok (.iload 4, 2) := by decide +kernel
theorem d_Md_signed_94 : decode prog_13_method_46_code 94 = .ok (.ireturn, 1) := by decide +kernel
def M_Md_signed (N : Nat) (h : Hp) (a1 : Int) : Option (Int × Hp) := if eqb (h 83 10) (-1) then (M_Md_here N h).bind (fun q2 => lt' (fun (s0_4 : Int) => lt' (fun (h_6 : Hp) => (M_Md_figures N h_6 q2.1).bind (fun q8 => if eqb s0_4 0 then if leb a1 q8.1 then some (q8.1, q8.2) else (M_Md_wrong q8.2 q2.1).bind (fun h10 => some (q8.1, h10)) else if leb a1 (-q8.1) then some (-q8.1, q8.2) else (M_Md_wrong q8.2 q2.1).bind (fun h12 => some (-q8.1, h12)))) (fun j6 => if eqb s0_4 0 then j6 q2.2 else lt' (hs q2.2 83 9 ((q2.2 83 9) + 1)) (fun h13 => j6 h13))) (fun j4 => if leb (q2.2 83 8) (q2.2 83 9) then j4 0 else (rdA q2.2 87 400 (q2.2 83 9)).bind (fun x14 => if eqb x14 45 then j4 1 else j4 0))) else some (0, h)
set_option maxHeartbeats 4000000 in
set_option maxRecDepth 100000 in
theorem c_Md_signed {l : Launch} {D : va_G} {ad : Nat → Nat} {cA : Nat → ClassId} {sd sv : Nat → Nat} {h : Hp} {N : Nat} {a1 : Int} {out : (Int × Hp)} (hI : Inj97 ad) (hM : M_Md_signed N h a1 = some out) : Met l y_Md_signed (.code y_Md_signed prog_13_method_46_code 5 (some .int) :: TT) (rmD 2) (PC D ad cA sd sv h [.ref (ad 83), .int (iZ a1)]) (QI D ad cA out) 0 0 (FA ad) := by
  unfold M_Md_signed at hM
  refine entM (by decide +kernel) hI (Nat.le_of_ble_eq_true rfl) ?_
  intro p e s m args below meth c C hr hlk hP ls hl
  have C : Cx p s m args c prog_13_method_46_code 5 "FeastBookModel" D ad cA sd sv (FA ad) := C
  have hl : lv_has ls 5 [(0, .ref (ad 83)), (1, .int (iZ a1))] := hl
  have w : Wd s D ad cA (FA ad) h s.heap [] := ⟨hP, va_S.rf⟩
  refine m_aload_n C hl 0 d_Md_signed_0 rfl rfl ?_
  refine m_geti C w.1 kc_Md sh_83 (Nat.le_of_ble_eq_true rfl) 10 rfl (by decide) fk_Md_22 d_Md_signed_1 ?_
  refine m_iconst C d_Md_signed_4 ?_
  refine m_icmp_eq C hM 10 d_Md_signed_5 (by decide) (fun hM => ?_) (fun hM => ?_)
  · refine m_aload_n C hl 0 d_Md_signed_10 rfl rfl ?_
    obtain ⟨q2, e1, hM⟩ := bnd_some hM
    refine aftI C w (runV C w.1 w.2 kc_Md sh_83 (Nat.le_of_ble_eq_true rfl) (c_Md_here hI e1) lk_Md_169 mb_Md_here rfl ⟨Nat.le_of_ble_eq_true rfl, Nat.le_of_ble_eq_true rfl⟩ ⟨Nat.zero_le _, Nat.zero_le _⟩ (Nat.le_of_ble_eq_true rfl) d_Md_signed_11 hl.1 (rest := []) rfl) (fun H locs w => ?_)
    refine m_istore_n C hl [(2, .int (iZ q2.1)), (0, .ref (ad 83)), (1, .int (iZ a1))] d_Md_signed_14 rfl (by decide) rfl (fun ls hl => ?_)
    refine m_aload_n C hl 1 d_Md_signed_15 rfl rfl ?_
    refine m_geti C w.1 kc_Md sh_83 (Nat.le_of_ble_eq_true rfl) 9 rfl (by decide) fk_Md_163 d_Md_signed_16 ?_
    refine m_aload_n C hl 1 d_Md_signed_19 rfl rfl ?_
    refine m_geti C w.1 kc_Md sh_83 (Nat.le_of_ble_eq_true rfl) 8 rfl (by decide) fk_Md_166 d_Md_signed_20 ?_
    refine lt_join hM (fun j4 ej hM => ?_)
    have hJ4 : ∀ (s0_4 : Int), j4 s0_4 = some out → ∀ ls : Array Slot, lv_has ls 5 [(0, .ref (ad 83)), (1, .int (iZ a1)), (2, .int (iZ q2.1))] → W p l e (rmD 2) s m args below meth c H locs 0 0 (MQ below (QI D ad cA out) args s 0 0 (FA ad)) (F0 m 45 ls [.int (iZ s0_4)]) := by
      intro s0_4 hM ls hl
      subst ej
      dsimp only at hM
      refine m_istore_n C hl [(3, .int (iZ s0_4)), (0, .ref (ad 83)), (1, .int (iZ a1)), (2, .int (iZ q2.1))] d_Md_signed_45 rfl (by decide) rfl (fun ls hl => ?_)
      refine m_iload_n C hl 0 d_Md_signed_46 rfl rfl ?_
      refine lt_join hM (fun j6 ej hM => ?_)
      have hJ6 : ∀ (h_6 : Hp), j6 h_6 = some out → ∀ (H : Heap) (locs : List Loc), Wd s D ad cA (FA ad) h_6 H locs → ∀ ls : Array Slot, lv_has ls 5 [(0, .ref (ad 83)), (1, .int (iZ a1)), (2, .int (iZ q2.1)), (3, .int (iZ s0_4))] → W p l e (rmD 2) s m args below meth c H locs 0 0 (MQ below (QI D ad cA out) args s 0 0 (FA ad)) (F0 m 60 ls []) := by
        intro h_6 hM H locs w ls hl
        subst ej
        dsimp only at hM
        refine m_aload_n C hl 0 d_Md_signed_60 rfl rfl ?_
        refine m_iload_n C hl 2 d_Md_signed_61 rfl rfl ?_
        obtain ⟨q8, e7, hM⟩ := bnd_some hM
        refine aftI C w (runV C w.1 w.2 kc_Md sh_83 (Nat.le_of_ble_eq_true rfl) (c_Md_figures hI e7) lk_Md_189 mb_Md_figures rfl ⟨Nat.le_of_ble_eq_true rfl, Nat.le_of_ble_eq_true rfl⟩ ⟨Nat.zero_le _, Nat.zero_le _⟩ (Nat.le_of_ble_eq_true rfl) d_Md_signed_62 hl.1 (rest := []) rfl) (fun H locs w => ?_)
        refine m_istore C hl [(4, .int (iZ q8.1)), (0, .ref (ad 83)), (1, .int (iZ a1)), (2, .int (iZ q2.1)), (3, .int (iZ s0_4))] d_Md_signed_65 (by decide) rfl (fun ls hl => ?_)
        refine m_iload_n C hl 4 d_Md_signed_67 rfl rfl ?_
        refine m_if_eq C hM 77 d_Md_signed_68 (by decide) (fun hM => ?_) (fun hM => ?_)
        · refine m_iload C hl 0 d_Md_signed_77 rfl ?_
          refine m_istore C hl [(4, .int (iZ q8.1)), (0, .ref (ad 83)), (1, .int (iZ a1)), (2, .int (iZ q2.1)), (3, .int (iZ s0_4))] d_Md_signed_79 (by decide) rfl (fun ls hl => ?_)
          refine m_iload C hl 0 d_Md_signed_81 rfl ?_
          refine m_iload_n C hl 2 d_Md_signed_83 rfl rfl ?_
          refine m_icmp_ge C hM 92 d_Md_signed_84 (by decide) (fun hM => ?_) (fun hM => ?_)
          · refine m_iload C hl 0 d_Md_signed_92 rfl ?_
            exact m_iretW C w hr hlk hM d_Md_signed_94
          · refine m_aload_n C hl 1 d_Md_signed_87 rfl rfl ?_
            refine m_iload_n C hl 3 d_Md_signed_88 rfl rfl ?_
            obtain ⟨h10, e9, hM⟩ := bnd_some hM
            refine aftV C w (runV C w.1 w.2 kc_Md sh_83 (Nat.le_of_ble_eq_true rfl) (c_Md_wrong hI e9) lk_Md_186 mb_Md_wrong rfl ⟨Nat.le_of_ble_eq_true rfl, Nat.le_of_ble_eq_true rfl⟩ ⟨Nat.zero_le _, Nat.zero_le _⟩ (Nat.le_of_ble_eq_true rfl) d_Md_signed_89 hl.1 (rest := []) rfl) (fun H locs w => ?_)
            refine m_iload C hl 0 d_Md_signed_92 rfl ?_
            exact m_iretW C w hr hlk hM d_Md_signed_94
        · refine m_iload C hl 0 d_Md_signed_71 rfl ?_
          refine m_ineg C d_Md_signed_73 ?_
          refine m_goto C 79 d_Md_signed_74 (by decide) ?_
          refine m_istore C hl [(4, .int (iZ (-q8.1))), (0, .ref (ad 83)), (1, .int (iZ a1)), (2, .int (iZ q2.1)), (3, .int (iZ s0_4))] d_Md_signed_79 (by decide) rfl (fun ls hl => ?_)
          refine m_iload C hl 0 d_Md_signed_81 rfl ?_
          refine m_iload_n C hl 2 d_Md_signed_83 rfl rfl ?_
          refine m_icmp_ge C hM 92 d_Md_signed_84 (by decide) (fun hM => ?_) (fun hM => ?_)
          · refine m_iload C hl 0 d_Md_signed_92 rfl ?_
            exact m_iretW C w hr hlk hM d_Md_signed_94
          · refine m_aload_n C hl 1 d_Md_signed_87 rfl rfl ?_
            refine m_iload_n C hl 3 d_Md_signed_88 rfl rfl ?_
            obtain ⟨h12, e11, hM⟩ := bnd_some hM
            refine aftV C w (runV C w.1 w.2 kc_Md sh_83 (Nat.le_of_ble_eq_true rfl) (c_Md_wrong hI e11) lk_Md_186 mb_Md_wrong rfl ⟨Nat.le_of_ble_eq_true rfl, Nat.le_of_ble_eq_true rfl⟩ ⟨Nat.zero_le _, Nat.zero_le _⟩ (Nat.le_of_ble_eq_true rfl) d_Md_signed_89 hl.1 (rest := []) rfl) (fun H locs w => ?_)
            refine m_iload C hl 0 d_Md_signed_92 rfl ?_
            exact m_iretW C w hr hlk hM d_Md_signed_94
      refine m_if_eq C hM 60 d_Md_signed_47 (by decide) (fun hM => ?_) (fun hM => ?_)
      · exact hJ6 q2.2 hM _ _ w _ (lv_sub hl [1, 2, 3, 0] rfl)
      · refine m_aload_n C hl 1 d_Md_signed_50 rfl rfl ?_
        refine m_dup C d_Md_signed_51 rfl ?_
        refine m_geti C w.1 kc_Md sh_83 (Nat.le_of_ble_eq_true rfl) 9 rfl (by decide) fk_Md_163 d_Md_signed_52 ?_
        refine m_iconst C d_Md_signed_55 ?_
        refine m_iadd C d_Md_signed_56 ?_
        refine m_puti C w kc_Md sh_83 (Nat.le_of_ble_eq_true rfl) 9 hM rfl (by decide) rfl rfl fk_Md_163 d_Md_signed_57 (fun h13 H locs w hM => ?_)
        exact hJ6 h13 hM _ _ w _ (lv_sub hl [1, 2, 3, 0] rfl)
    refine m_icmp_ge C hM 44 d_Md_signed_23 (by decide) (fun hM => ?_) (fun hM => ?_)
    · refine m_iconst C d_Md_signed_44 ?_
      exact hJ4 0 hM _ (lv_sub hl [1, 2, 0] rfl)
    · refine m_aload_n C hl 1 d_Md_signed_26 rfl rfl ?_
      refine m_getr C w.1 kc_Md sh_83 (Nat.le_of_ble_eq_true rfl) 6 87 rfl (by decide) fk_Md_19 d_Md_signed_27 ?_
      refine m_aload_n C hl 1 d_Md_signed_30 rfl rfl ?_
      refine m_geti C w.1 kc_Md sh_83 (Nat.le_of_ble_eq_true rfl) 9 rfl (by decide) fk_Md_163 d_Md_signed_31 ?_
      refine m_iald C w.1 sh_87 (Nat.le_of_ble_eq_true rfl) (Nat.le_of_ble_eq_true rfl) hM d_Md_signed_34 (fun x14 hM => ?_)
      refine m_bipush C d_Md_signed_35 (by decide) ?_
      refine m_icmp_ne C hM 44 d_Md_signed_37 (by decide) (fun hM => ?_) (fun hM => ?_)
      · refine m_iconst C d_Md_signed_44 ?_
        exact hJ4 0 hM _ (lv_sub hl [1, 2, 0] rfl)
      · refine m_iconst C d_Md_signed_40 ?_
        refine m_goto C 45 d_Md_signed_41 (by decide) ?_
        exact hJ4 1 hM _ (lv_sub hl [1, 2, 0] rfl)
  · refine m_iconst C d_Md_signed_8 ?_
    exact m_iretW C w hr hlk hM d_Md_signed_9
def y_Md_seasonLine : MethodName := ⟨"FeastBookModel", "seasonLine", "(I)V"⟩
theorem d_Md_seasonLine_0 : decode prog_13_method_49_code 0 = .ok (.aload_n 0, 1) := by decide +kernel
theorem d_Md_seasonLine_1 : decode prog_13_method_49_code 1 = .ok (.getfield 26, 3) := by decide +kernel
theorem d_Md_seasonLine_4 : decode prog_13_method_49_code 4 = .ok (.bipush 20, 2) := by decide +kernel
theorem d_Md_seasonLine_6 : decode prog_13_method_49_code 6 = .ok (.iaload, 1) := by decide +kernel
theorem d_Md_seasonLine_7 : decode prog_13_method_49_code 7 = .ok (.iconst 4, 1) := by decide +kernel
theorem d_Md_seasonLine_8 : decode prog_13_method_49_code 8 = .ok (.if_icmp .ne 8, 3) := by decide +kernel
theorem d_Md_seasonLine_11 : decode prog_13_method_49_code 11 = .ok (.aload_n 0, 1) := by decide +kernel
theorem d_Md_seasonLine_12 : decode prog_13_method_49_code 12 = .ok (.iload_n 1, 1) := by decide +kernel
theorem d_Md_seasonLine_13 : decode prog_13_method_49_code 13 = .ok (.invokevirtual 186, 3) := by decide +kernel
theorem d_Md_seasonLine_16 : decode prog_13_method_49_code 16 = .ok (.aload_n 0, 1) := by decide +kernel
theorem d_Md_seasonLine_17 : decode prog_13_method_49_code 17 = .ok (.getfield 22, 3) := by decide +kernel
theorem d_Md_seasonLine_20 : decode prog_13_method_49_code 20 = .ok (.iconst (-1), 1) := by decide +kernel
theorem d_Md_seasonLine_21 : decode prog_13_method_49_code 21 = .ok (.if_icmp .eq 4, 3) := by decide +kernel
theorem d_Md_seasonLine_24 : decode prog_13_method_49_code 24 = .ok (.return_, 1) := by decide +kernel
theorem d_Md_seasonLine_25 : decode prog_13_method_49_code 25 = .ok (.bipush 21, 2) := by decide +kernel
theorem d_Md_seasonLine_27 : decode prog_13_method_49_code 27 = .ok (.iconst 3, 1) := by decide +kernel
theorem d_Md_seasonLine_28 : decode prog_13_method_49_code 28 = .ok (.aload_n 0, 1) := by decide +kernel
theorem d_Md_seasonLine_29 : decode prog_13_method_49_code 29 = .ok (.getfield 26, 3) := by decide +kernel
theorem d_Md_seasonLine_32 : decode prog_13_method_49_code 32 = .ok (.bipush 20, 2) := by decide +kernel
theorem d_Md_seasonLine_34 : decode prog_13_method_49_code 34 = .ok (.iaload, 1) := by decide +kernel
theorem d_Md_seasonLine_35 : decode prog_13_method_49_code 35 = .ok (.imul, 1) := by decide +kernel
theorem d_Md_seasonLine_36 : decode prog_13_method_49_code 36 = .ok (.iadd, 1) := by decide +kernel
theorem d_Md_seasonLine_37 : decode prog_13_method_49_code 37 = .ok (.istore_n 2, 1) := by decide +kernel
theorem d_Md_seasonLine_38 : decode prog_13_method_49_code 38 = .ok (.aload_n 0, 1) := by decide +kernel
theorem d_Md_seasonLine_39 : decode prog_13_method_49_code 39 = .ok (.getfield 26, 3) := by decide +kernel
theorem d_Md_seasonLine_42 : decode prog_13_method_49_code 42 = .ok (.iload_n 2, 1) := by decide +kernel
theorem d_Md_seasonLine_43 : decode prog_13_method_49_code 43 = .ok (.aload_n 0, 1) := by decide +kernel
theorem d_Md_seasonLine_44 : decode prog_13_method_49_code 44 = .ok (.bipush (-99), 2) := by decide +kernel
theorem d_Md_seasonLine_46 : decode prog_13_method_49_code 46 = .ok (.invokevirtual 211, 3) := by decide +kernel
theorem d_Md_seasonLine_49 : decode prog_13_method_49_code 49 = .ok (.iastore, 1) := by decide +kernel
theorem d_Md_seasonLine_50 : decode prog_13_method_49_code 50 = .ok (.aload_n 0, 1) := by decide +kernel
theorem d_Md_seasonLine_51 : decode prog_13_method_49_code 51 = .ok (.getfield 26, 3) := by decide +kernel
theorem d_Md_seasonLine_54 : decode prog_13_method_49_code 54 = .ok (.iload_n 2, 1) := by decide +kernel
theorem d_Md_seasonLine_55 : decode prog_13_method_49_code 55 = .ok (.iconst 1, 1) := by decide +kernel
theorem d_Md_seasonLine_56 : decode prog_13_method_49_code 56 = .ok (.iadd, 1) := by decide +kernel
theorem d_Md_seasonLine_57 : decode prog_13_method_49_code 57 = .ok (.aload_n 0, 1) := by decide +kernel
theorem d_Md_seasonLine_58 : decode prog_13_method_49_code 58 = .ok (.aload_n 0, 1) := by decide +kernel
theorem d_Md_seasonLine_59 : decode prog_13_method_49_code 59 = .ok (.getfield 26, 3) := by decide +kernel
theorem d_Md_seasonLine_62 : decode prog_13_method_49_code 62 = .ok (.iload_n 2, 1) := by decide +kernel
theorem d_Md_seasonLine_63 : decode prog_13_method_49_code 63 = .ok (.iaload, 1) := by decide +kernel
theorem d_Md_seasonLine_64 : decode prog_13_method_49_code 64 = .ok (.invokevirtual 211, 3) := by decide +kernel
theorem d_Md_seasonLine_67 : decode prog_13_method_49_code 67 = .ok (.iastore, 1) := by decide +kernel
theorem d_Md_seasonLine_68 : decode prog_13_method_49_code 68 = .ok (.aload_n 0, 1) := by decide +kernel
theorem d_Md_seasonLine_69 : decode prog_13_method_49_code 69 = .ok (.getfield 26, 3) := by decide +kernel
theorem d_Md_seasonLine_72 : decode prog_13_method_49_code 72 = .ok (.iload_n 2, 1) := by decide +kernel
theorem d_Md_seasonLine_73 : decode prog_13_method_49_code 73 = .ok (.iconst 2, 1) := by decide +kernel
theorem d_Md_seasonLine_74 : decode prog_13_method_49_code 74 = .ok (.iadd, 1) := by decide +kernel
theorem d_Md_seasonLine_75 : decode prog_13_method_49_code 75 = .ok (.aload_n 0, 1) := by decide +kernel
theorem d_Md_seasonLine_76 : decode prog_13_method_49_code 76 = .ok (.iconst 0, 1) := by decide +kernel
theorem d_Md_seasonLine_77 : decode prog_13_method_49_code 77 = .ok (.bipush 9, 2) := by decide +kernel
theorem d_Md_seasonLine_79 : decode prog_13_method_49_code 79 = .ok (.invokevirtual 198, 3) := by decide +kernel
theorem d_Md_seasonLine_82 : decode prog_13_method_49_code 82 = .ok (.iastore, 1) := by decide +kernel
theorem d_Md_seasonLine_83 : decode prog_13_method_49_code 83 = .ok (.aload_n 0, 1) := by decide +kernel
theorem d_Md_seasonLine_84 : decode prog_13_method_49_code 84 = .ok (.getfield 26, 3) := by decide +kernel
theorem d_Md_seasonLine_87 : decode prog_13_method_49_code 87 = .ok (.bipush 20, 2) := by decide +kernel
theorem d_Md_seasonLine_89 : decode prog_13_method_49_code 89 = .ok (.dup2, 1) := by decide +kernel
theorem d_Md_seasonLine_90 : decode prog_13_method_49_code 90 = .ok (.iaload, 1) := by decide +kernel
theorem d_Md_seasonLine_91 : decode prog_13_method_49_code 91 = .ok (.iconst 1, 1) := by decide +kernel
theorem d_Md_seasonLine_92 : decode prog_13_method_49_code 92 = .ok (.iadd, 1) := by decide +kernel
theorem d_Md_seasonLine_93 : decode prog_13_method_49_code 93 = .ok (.iastore, 1) := by decide +kernel
theorem d_Md_seasonLine_94 : decode prog_13_method_49_code 94 = .ok (.return_, 1) := by decide +kernel
theorem mb_Md_signed : MBv R_Md y_Md_signed prog_13_method_46_code 5 (some .int) 1 := ⟨mT9 18 (by decide +kernel) (by decide +kernel), mTs 26 (by decide +kernel) (by decide +kernel), mT1 10 (by decide +kernel) (by decide +kernel), mT9 19 (by decide +kernel) (by decide +kernel), by decide, rfl, by decide +kernel, by decide +kernel, by decide +kernel⟩
theorem lk_Md_211 : Cond.methodLink "FeastBookModel" 211 y_Md_signed ∈ TT := mT9 16 (by decide +kernel) (by decide +kernel)
def M_Md_seasonLine (N : Nat) (h : Hp) (a1 : Int) : Option Hp := (rdA h 88 127 20).bind (fun x1 => lt' (fun (h_4 : Hp) => if eqb (h_4 83 10) (-1) then (rdA h_4 88 127 20).bind (fun x5 => (M_Md_signed N h_4 (-99)).bind (fun q7 => (wrA q7.2 88 127 (21 + (3 * x5)) q7.1).bind (fun h8 => (rdA h8 88 127 (21 + (3 * x5))).bind (fun x9 => (M_Md_signed N h8 x9).bind (fun q11 => (wrA q11.2 88 127 ((21 + (3 * x5)) + 1) q11.1).bind (fun h12 => (M_Md_number N h12 0 9).bind (fun q14 => (wrA q14.2 88 127 ((21 + (3 * x5)) + 2) q14.1).bind (fun h15 => (rdA h15 88 127 20).bind (fun x16 => (wrA h15 88 127 20 (x16 + 1)).bind (fun h17 => some h17)))))))))) else some h_4) (fun j4 => if eqb x1 4 then (M_Md_wrong h a1).bind (fun h19 => j4 h19) else j4 h))
set_option maxHeartbeats 4000000 in
set_option maxRecDepth 100000 in
theorem c_Md_seasonLine {l : Launch} {D : va_G} {ad : Nat → Nat} {cA : Nat → ClassId} {sd sv : Nat → Nat} {h : Hp} {N : Nat} {a1 : Int} {out : Hp} (hI : Inj97 ad) (hM : M_Md_seasonLine N h a1 = some out) : Met l y_Md_seasonLine (.code y_Md_seasonLine prog_13_method_49_code 3 none :: TT) (rmD 3) (PC D ad cA sd sv h [.ref (ad 83), .int (iZ a1)]) (QV D ad cA out) 0 0 (FA ad) := by
  unfold M_Md_seasonLine at hM
  refine entM (by decide +kernel) hI (Nat.le_of_ble_eq_true rfl) ?_
  intro p e s m args below meth c C hr hlk hP ls hl
  have C : Cx p s m args c prog_13_method_49_code 3 "FeastBookModel" D ad cA sd sv (FA ad) := C
  have hl : lv_has ls 3 [(0, .ref (ad 83)), (1, .int (iZ a1))] := hl
  have w : Wd s D ad cA (FA ad) h s.heap [] := ⟨hP, va_S.rf⟩
  refine m_aload_n C hl 0 d_Md_seasonLine_0 rfl rfl ?_
  refine m_getr C w.1 kc_Md sh_83 (Nat.le_of_ble_eq_true rfl) 11 88 rfl (by decide) fk_Md_26 d_Md_seasonLine_1 ?_
  refine m_bipush C d_Md_seasonLine_4 (by decide) ?_
  refine m_iald C w.1 sh_88 (Nat.le_of_ble_eq_true rfl) (Nat.le_of_ble_eq_true rfl) hM d_Md_seasonLine_6 (fun x1 hM => ?_)
  refine m_iconst C d_Md_seasonLine_7 ?_
  refine lt_join hM (fun j4 ej hM => ?_)
  have hJ4 : ∀ (h_4 : Hp), j4 h_4 = some out → ∀ (H : Heap) (locs : List Loc), Wd s D ad cA (FA ad) h_4 H locs → ∀ ls : Array Slot, lv_has ls 3 [(0, .ref (ad 83)), (1, .int (iZ a1))] → W p l e (rmD 3) s m args below meth c H locs 0 0 (MQ below (QV D ad cA out) args s 0 0 (FA ad)) (F0 m 16 ls []) := by
    intro h_4 hM H locs w ls hl
    subst ej
    dsimp only at hM
    refine m_aload_n C hl 0 d_Md_seasonLine_16 rfl rfl ?_
    refine m_geti C w.1 kc_Md sh_83 (Nat.le_of_ble_eq_true rfl) 10 rfl (by decide) fk_Md_22 d_Md_seasonLine_17 ?_
    refine m_iconst C d_Md_seasonLine_20 ?_
    refine m_icmp_eq C hM 25 d_Md_seasonLine_21 (by decide) (fun hM => ?_) (fun hM => ?_)
    · refine m_bipush C d_Md_seasonLine_25 (by decide) ?_
      refine m_iconst C d_Md_seasonLine_27 ?_
      refine m_aload_n C hl 0 d_Md_seasonLine_28 rfl rfl ?_
      refine m_getr C w.1 kc_Md sh_83 (Nat.le_of_ble_eq_true rfl) 11 88 rfl (by decide) fk_Md_26 d_Md_seasonLine_29 ?_
      refine m_bipush C d_Md_seasonLine_32 (by decide) ?_
      refine m_iald C w.1 sh_88 (Nat.le_of_ble_eq_true rfl) (Nat.le_of_ble_eq_true rfl) hM d_Md_seasonLine_34 (fun x5 hM => ?_)
      refine m_imul C d_Md_seasonLine_35 ?_
      refine m_iadd C d_Md_seasonLine_36 ?_
      refine m_istore_n C hl [(2, .int (iZ (21 + (3 * x5)))), (0, .ref (ad 83)), (1, .int (iZ a1))] d_Md_seasonLine_37 rfl (by decide) rfl (fun ls hl => ?_)
      refine m_aload_n C hl 1 d_Md_seasonLine_38 rfl rfl ?_
      refine m_getr C w.1 kc_Md sh_83 (Nat.le_of_ble_eq_true rfl) 11 88 rfl (by decide) fk_Md_26 d_Md_seasonLine_39 ?_
      refine m_iload_n C hl 0 d_Md_seasonLine_42 rfl rfl ?_
      refine m_aload_n C hl 1 d_Md_seasonLine_43 rfl rfl ?_
      refine m_bipush C d_Md_seasonLine_44 (by decide) ?_
      obtain ⟨q7, e6, hM⟩ := bnd_some hM
      refine aftI C w (runV C w.1 w.2 kc_Md sh_83 (Nat.le_of_ble_eq_true rfl) (c_Md_signed hI e6) lk_Md_211 mb_Md_signed rfl ⟨Nat.le_of_ble_eq_true rfl, Nat.le_of_ble_eq_true rfl⟩ ⟨Nat.zero_le _, Nat.zero_le _⟩ (Nat.le_of_ble_eq_true rfl) d_Md_seasonLine_46 hl.1 (rest := [.int (iZ (21 + (3 * x5))), .ref (ad 88)]) rfl) (fun H locs w => ?_)
      refine m_iast C w sh_88 (Nat.le_of_ble_eq_true rfl) (Nat.le_of_ble_eq_true rfl) hM d_Md_seasonLine_49 (fun h8 H locs w hM => ?_)
      refine m_aload_n C hl 1 d_Md_seasonLine_50 rfl rfl ?_
      refine m_getr C w.1 kc_Md sh_83 (Nat.le_of_ble_eq_true rfl) 11 88 rfl (by decide) fk_Md_26 d_Md_seasonLine_51 ?_
      refine m_iload_n C hl 0 d_Md_seasonLine_54 rfl rfl ?_
      refine m_iconst C d_Md_seasonLine_55 ?_
      refine m_iadd C d_Md_seasonLine_56 ?_
      refine m_aload_n C hl 1 d_Md_seasonLine_57 rfl rfl ?_
      refine m_aload_n C hl 1 d_Md_seasonLine_58 rfl rfl ?_
      refine m_getr C w.1 kc_Md sh_83 (Nat.le_of_ble_eq_true rfl) 11 88 rfl (by decide) fk_Md_26 d_Md_seasonLine_59 ?_
      refine m_iload_n C hl 0 d_Md_seasonLine_62 rfl rfl ?_
      refine m_iald C w.1 sh_88 (Nat.le_of_ble_eq_true rfl) (Nat.le_of_ble_eq_true rfl) hM d_Md_seasonLine_63 (fun x9 hM => ?_)
      obtain ⟨q11, e10, hM⟩ := bnd_some hM
      refine aftI C w (runV C w.1 w.2 kc_Md sh_83 (Nat.le_of_ble_eq_true rfl) (c_Md_signed hI e10) lk_Md_211 mb_Md_signed rfl ⟨Nat.le_of_ble_eq_true rfl, Nat.le_of_ble_eq_true rfl⟩ ⟨Nat.zero_le _, Nat.zero_le _⟩ (Nat.le_of_ble_eq_true rfl) d_Md_seasonLine_64 hl.1 (rest := [.int (iZ ((21 + (3 * x5)) + 1)), .ref (ad 88)]) rfl) (fun H locs w => ?_)
      refine m_iast C w sh_88 (Nat.le_of_ble_eq_true rfl) (Nat.le_of_ble_eq_true rfl) hM d_Md_seasonLine_67 (fun h12 H locs w hM => ?_)
      refine m_aload_n C hl 1 d_Md_seasonLine_68 rfl rfl ?_
      refine m_getr C w.1 kc_Md sh_83 (Nat.le_of_ble_eq_true rfl) 11 88 rfl (by decide) fk_Md_26 d_Md_seasonLine_69 ?_
      refine m_iload_n C hl 0 d_Md_seasonLine_72 rfl rfl ?_
      refine m_iconst C d_Md_seasonLine_73 ?_
      refine m_iadd C d_Md_seasonLine_74 ?_
      refine m_aload_n C hl 1 d_Md_seasonLine_75 rfl rfl ?_
      refine m_iconst C d_Md_seasonLine_76 ?_
      refine m_bipush C d_Md_seasonLine_77 (by decide) ?_
      obtain ⟨q14, e13, hM⟩ := bnd_some hM
      refine aftI C w (runV C w.1 w.2 kc_Md sh_83 (Nat.le_of_ble_eq_true rfl) (c_Md_number hI e13) lk_Md_198 mb_Md_number rfl ⟨Nat.le_of_ble_eq_true rfl, Nat.le_of_ble_eq_true rfl⟩ ⟨Nat.zero_le _, Nat.zero_le _⟩ (Nat.le_of_ble_eq_true rfl) d_Md_seasonLine_79 hl.1 (rest := [.int (iZ ((21 + (3 * x5)) + 2)), .ref (ad 88)]) rfl) (fun H locs w => ?_)
      refine m_iast C w sh_88 (Nat.le_of_ble_eq_true rfl) (Nat.le_of_ble_eq_true rfl) hM d_Md_seasonLine_82 (fun h15 H locs w hM => ?_)
      refine m_aload_n C hl 1 d_Md_seasonLine_83 rfl rfl ?_
      refine m_getr C w.1 kc_Md sh_83 (Nat.le_of_ble_eq_true rfl) 11 88 rfl (by decide) fk_Md_26 d_Md_seasonLine_84 ?_
      refine m_bipush C d_Md_seasonLine_87 (by decide) ?_
      refine m_dup2 C d_Md_seasonLine_89 rfl rfl ?_
      refine m_iald C w.1 sh_88 (Nat.le_of_ble_eq_true rfl) (Nat.le_of_ble_eq_true rfl) hM d_Md_seasonLine_90 (fun x16 hM => ?_)
      refine m_iconst C d_Md_seasonLine_91 ?_
      refine m_iadd C d_Md_seasonLine_92 ?_
      refine m_iast C w sh_88 (Nat.le_of_ble_eq_true rfl) (Nat.le_of_ble_eq_true rfl) hM d_Md_seasonLine_93 (fun h17 H locs w hM => ?_)
      exact m_vretW C w hr hlk hM d_Md_seasonLine_94
    · exact m_vretW C w hr hlk hM d_Md_seasonLine_24
  refine m_icmp_ne C hM 16 d_Md_seasonLine_8 (by decide) (fun hM => ?_) (fun hM => ?_)
  · exact hJ4 h hM _ _ w _ hl
  · refine m_aload_n C hl 0 d_Md_seasonLine_11 rfl rfl ?_
    refine m_iload_n C hl 1 d_Md_seasonLine_12 rfl rfl ?_
    obtain ⟨h19, e18, hM⟩ := bnd_some hM
    refine aftV C w (runV C w.1 w.2 kc_Md sh_83 (Nat.le_of_ble_eq_true rfl) (c_Md_wrong hI e18) lk_Md_186 mb_Md_wrong rfl ⟨Nat.le_of_ble_eq_true rfl, Nat.le_of_ble_eq_true rfl⟩ ⟨Nat.zero_le _, Nat.zero_le _⟩ (Nat.le_of_ble_eq_true rfl) d_Md_seasonLine_13 hl.1 (rest := []) rfl) (fun H locs w => ?_)
    exact hJ4 h19 hM _ _ w _ hl
def y_Md_closedLine : MethodName := ⟨"FeastBookModel", "closedLine", "(I)V"⟩
theorem d_Md_closedLine_0 : decode prog_13_method_50_code 0 = .ok (.aload_n 0, 1) := by decide +kernel
theorem d_Md_closedLine_1 : decode prog_13_method_50_code 1 = .ok (.getfield 26, 3) := by decide +kernel
theorem d_Md_closedLine_4 : decode prog_13_method_50_code 4 = .ok (.bipush 33, 2) := by decide +kernel
theorem d_Md_closedLine_6 : decode prog_13_method_50_code 6 = .ok (.iaload, 1) := by decide +kernel
theorem d_Md_closedLine_7 : decode prog_13_method_50_code 7 = .ok (.iconst 4, 1) := by decide +kernel
theorem d_Md_closedLine_8 : decode prog_13_method_50_code 8 = .ok (.if_icmp .ne 8, 3) := by decide +kernel
theorem d_Md_closedLine_11 : decode prog_13_method_50_code 11 = .ok (.aload_n 0, 1) := by decide +kernel
theorem d_Md_closedLine_12 : decode prog_13_method_50_code 12 = .ok (.iload_n 1, 1) := by decide +kernel
theorem d_Md_closedLine_13 : decode prog_13_method_50_code 13 = .ok (.invokevirtual 186, 3) := by decide +kernel
theorem d_Md_closedLine_16 : decode prog_13_method_50_code 16 = .ok (.aload_n 0, 1) := by decide +kernel
theorem d_Md_closedLine_17 : decode prog_13_method_50_code 17 = .ok (.getfield 22, 3) := by decide +kernel
theorem d_Md_closedLine_20 : decode prog_13_method_50_code 20 = .ok (.iconst (-1), 1) := by decide +kernel
theorem d_Md_closedLine_21 : decode prog_13_method_50_code 21 = .ok (.if_icmp .eq 4, 3) := by decide +kernel
theorem d_Md_closedLine_24 : decode prog_13_method_50_code 24 = .ok (.return_, 1) := by decide +kernel
theorem d_Md_closedLine_25 : decode prog_13_method_50_code 25 = .ok (.bipush 34, 2) := by decide +kernel
theorem d_Md_closedLine_27 : decode prog_13_method_50_code 27 = .ok (.iconst 2, 1) := by decide +kernel
theorem d_Md_closedLine_28 : decode prog_13_method_50_code 28 = .ok (.aload_n 0, 1) := by decide +kernel
theorem d_Md_closedLine_29 : decode prog_13_method_50_code 29 = .ok (.getfield 26, 3) := by decide +kernel
theorem d_Md_closedLine_32 : decode prog_13_method_50_code 32 = .ok (.bipush 33, 2) := by decide +kernel
theorem d_Md_closedLine_34 : decode prog_13_method_50_code 34 = .ok (.iaload, 1) := by decide +kernel
theorem d_Md_closedLine_35 : decode prog_13_method_50_code 35 = .ok (.imul, 1) := by decide +kernel
theorem d_Md_closedLine_36 : decode prog_13_method_50_code 36 = .ok (.iadd, 1) := by decide +kernel
theorem d_Md_closedLine_37 : decode prog_13_method_50_code 37 = .ok (.istore_n 2, 1) := by decide +kernel
theorem d_Md_closedLine_38 : decode prog_13_method_50_code 38 = .ok (.aload_n 0, 1) := by decide +kernel
theorem d_Md_closedLine_39 : decode prog_13_method_50_code 39 = .ok (.getfield 26, 3) := by decide +kernel
theorem d_Md_closedLine_42 : decode prog_13_method_50_code 42 = .ok (.iload_n 2, 1) := by decide +kernel
theorem d_Md_closedLine_43 : decode prog_13_method_50_code 43 = .ok (.aload_n 0, 1) := by decide +kernel
theorem d_Md_closedLine_44 : decode prog_13_method_50_code 44 = .ok (.bipush (-99), 2) := by decide +kernel
theorem d_Md_closedLine_46 : decode prog_13_method_50_code 46 = .ok (.invokevirtual 211, 3) := by decide +kernel
theorem d_Md_closedLine_49 : decode prog_13_method_50_code 49 = .ok (.iastore, 1) := by decide +kernel
theorem d_Md_closedLine_50 : decode prog_13_method_50_code 50 = .ok (.aload_n 0, 1) := by decide +kernel
theorem d_Md_closedLine_51 : decode prog_13_method_50_code 51 = .ok (.getfield 26, 3) := by decide +kernel
theorem d_Md_closedLine_54 : decode prog_13_method_50_code 54 = .ok (.iload_n 2, 1) := by decide +kernel
theorem d_Md_closedLine_55 : decode prog_13_method_50_code 55 = .ok (.iconst 1, 1) := by decide +kernel
theorem d_Md_closedLine_56 : decode prog_13_method_50_code 56 = .ok (.iadd, 1) := by decide +kernel
theorem d_Md_closedLine_57 : decode prog_13_method_50_code 57 = .ok (.aload_n 0, 1) := by decide +kernel
theorem d_Md_closedLine_58 : decode prog_13_method_50_code 58 = .ok (.aload_n 0, 1) := by decide +kernel
theorem d_Md_closedLine_59 : decode prog_13_method_50_code 59 = .ok (.getfield 26, 3) := by decide +kernel
theorem d_Md_closedLine_62 : decode prog_13_method_50_code 62 = .ok (.iload_n 2, 1) := by decide +kernel
theorem d_Md_closedLine_63 : decode prog_13_method_50_code 63 = .ok (.iaload, 1) := by decide +kernel
theorem d_Md_closedLine_64 : decode prog_13_method_50_code 64 = .ok (.invokevirtual 211, 3) := by decide +kernel
theorem d_Md_closedLine_67 : decode prog_13_method_50_code 67 = .ok (.iastore, 1) := by decide +kernel
theorem d_Md_closedLine_68 : decode prog_13_method_50_code 68 = .ok (.aload_n 0, 1) := by decide +kernel
theorem d_Md_closedLine_69 : decode prog_13_method_50_code 69 = .ok (.getfield 26, 3) := by decide +kernel
theorem d_Md_closedLine_72 : decode prog_13_method_50_code 72 = .ok (.bipush 33, 2) := by decide +kernel
theorem d_Md_closedLine_74 : decode prog_13_method_50_code 74 = .ok (.dup2, 1) := by decide +kernel
theorem d_Md_closedLine_75 : decode prog_13_method_50_code 75 = .ok (.iaload, 1) := by decide +kernel
theorem d_Md_closedLine_76 : decode prog_13_method_50_code 76 = .ok (.iconst 1, 1) := by decide +kernel
theorem d_Md_closedLine_77 : decode prog_13_method_50_code 77 = .ok (.iadd, 1) := by decide +kernel
theorem d_Md_closedLine_78 : decode prog_13_method_50_code 78 = .ok (.iastore, 1) := by decide +kernel
theorem d_Md_closedLine_79 : decode prog_13_method_50_code 79 = .ok (.return_, 1) := by decide +kernel
def M_Md_closedLine (N : Nat) (h : Hp) (a1 : Int) : Option Hp := (rdA h 88 127 33).bind (fun x1 => lt' (fun (h_4 : Hp) => if eqb (h_4 83 10) (-1) then (rdA h_4 88 127 33).bind (fun x5 => (M_Md_signed N h_4 (-99)).bind (fun q7 => (wrA q7.2 88 127 (34 + (2 * x5)) q7.1).bind (fun h8 => (rdA h8 88 127 (34 + (2 * x5))).bind (fun x9 => (M_Md_signed N h8 x9).bind (fun q11 => (wrA q11.2 88 127 ((34 + (2 * x5)) + 1) q11.1).bind (fun h12 => (rdA h12 88 127 33).bind (fun x13 => (wrA h12 88 127 33 (x13 + 1)).bind (fun h14 => some h14)))))))) else some h_4) (fun j4 => if eqb x1 4 then (M_Md_wrong h a1).bind (fun h16 => j4 h16) else j4 h))
set_option maxHeartbeats 4000000 in
set_option maxRecDepth 100000 in
theorem c_Md_closedLine {l : Launch} {D : va_G} {ad : Nat → Nat} {cA : Nat → ClassId} {sd sv : Nat → Nat} {h : Hp} {N : Nat} {a1 : Int} {out : Hp} (hI : Inj97 ad) (hM : M_Md_closedLine N h a1 = some out) : Met l y_Md_closedLine (.code y_Md_closedLine prog_13_method_50_code 3 none :: TT) (rmD 3) (PC D ad cA sd sv h [.ref (ad 83), .int (iZ a1)]) (QV D ad cA out) 0 0 (FA ad) := by
  unfold M_Md_closedLine at hM
  refine entM (by decide +kernel) hI (Nat.le_of_ble_eq_true rfl) ?_
  intro p e s m args below meth c C hr hlk hP ls hl
  have C : Cx p s m args c prog_13_method_50_code 3 "FeastBookModel" D ad cA sd sv (FA ad) := C
  have hl : lv_has ls 3 [(0, .ref (ad 83)), (1, .int (iZ a1))] := hl
  have w : Wd s D ad cA (FA ad) h s.heap [] := ⟨hP, va_S.rf⟩
  refine m_aload_n C hl 0 d_Md_closedLine_0 rfl rfl ?_
  refine m_getr C w.1 kc_Md sh_83 (Nat.le_of_ble_eq_true rfl) 11 88 rfl (by decide) fk_Md_26 d_Md_closedLine_1 ?_
  refine m_bipush C d_Md_closedLine_4 (by decide) ?_
  refine m_iald C w.1 sh_88 (Nat.le_of_ble_eq_true rfl) (Nat.le_of_ble_eq_true rfl) hM d_Md_closedLine_6 (fun x1 hM => ?_)
  refine m_iconst C d_Md_closedLine_7 ?_
  refine lt_join hM (fun j4 ej hM => ?_)
  have hJ4 : ∀ (h_4 : Hp), j4 h_4 = some out → ∀ (H : Heap) (locs : List Loc), Wd s D ad cA (FA ad) h_4 H locs → ∀ ls : Array Slot, lv_has ls 3 [(0, .ref (ad 83)), (1, .int (iZ a1))] → W p l e (rmD 3) s m args below meth c H locs 0 0 (MQ below (QV D ad cA out) args s 0 0 (FA ad)) (F0 m 16 ls []) := by
    intro h_4 hM H locs w ls hl
    subst ej
    dsimp only at hM
    refine m_aload_n C hl 0 d_Md_closedLine_16 rfl rfl ?_
    refine m_geti C w.1 kc_Md sh_83 (Nat.le_of_ble_eq_true rfl) 10 rfl (by decide) fk_Md_22 d_Md_closedLine_17 ?_
    refine m_iconst C d_Md_closedLine_20 ?_
    refine m_icmp_eq C hM 25 d_Md_closedLine_21 (by decide) (fun hM => ?_) (fun hM => ?_)
    · refine m_bipush C d_Md_closedLine_25 (by decide) ?_
      refine m_iconst C d_Md_closedLine_27 ?_
      refine m_aload_n C hl 0 d_Md_closedLine_28 rfl rfl ?_
      refine m_getr C w.1 kc_Md sh_83 (Nat.le_of_ble_eq_true rfl) 11 88 rfl (by decide) fk_Md_26 d_Md_closedLine_29 ?_
      refine m_bipush C d_Md_closedLine_32 (by decide) ?_
      refine m_iald C w.1 sh_88 (Nat.le_of_ble_eq_true rfl) (Nat.le_of_ble_eq_true rfl) hM d_Md_closedLine_34 (fun x5 hM => ?_)
      refine m_imul C d_Md_closedLine_35 ?_
      refine m_iadd C d_Md_closedLine_36 ?_
      refine m_istore_n C hl [(2, .int (iZ (34 + (2 * x5)))), (0, .ref (ad 83)), (1, .int (iZ a1))] d_Md_closedLine_37 rfl (by decide) rfl (fun ls hl => ?_)
      refine m_aload_n C hl 1 d_Md_closedLine_38 rfl rfl ?_
      refine m_getr C w.1 kc_Md sh_83 (Nat.le_of_ble_eq_true rfl) 11 88 rfl (by decide) fk_Md_26 d_Md_closedLine_39 ?_
      refine m_iload_n C hl 0 d_Md_closedLine_42 rfl rfl ?_
      refine m_aload_n C hl 1 d_Md_closedLine_43 rfl rfl ?_
      refine m_bipush C d_Md_closedLine_44 (by decide) ?_
      obtain ⟨q7, e6, hM⟩ := bnd_some hM
      refine aftI C w (runV C w.1 w.2 kc_Md sh_83 (Nat.le_of_ble_eq_true rfl) (c_Md_signed hI e6) lk_Md_211 mb_Md_signed rfl ⟨Nat.le_of_ble_eq_true rfl, Nat.le_of_ble_eq_true rfl⟩ ⟨Nat.zero_le _, Nat.zero_le _⟩ (Nat.le_of_ble_eq_true rfl) d_Md_closedLine_46 hl.1 (rest := [.int (iZ (34 + (2 * x5))), .ref (ad 88)]) rfl) (fun H locs w => ?_)
      refine m_iast C w sh_88 (Nat.le_of_ble_eq_true rfl) (Nat.le_of_ble_eq_true rfl) hM d_Md_closedLine_49 (fun h8 H locs w hM => ?_)
      refine m_aload_n C hl 1 d_Md_closedLine_50 rfl rfl ?_
      refine m_getr C w.1 kc_Md sh_83 (Nat.le_of_ble_eq_true rfl) 11 88 rfl (by decide) fk_Md_26 d_Md_closedLine_51 ?_
      refine m_iload_n C hl 0 d_Md_closedLine_54 rfl rfl ?_
      refine m_iconst C d_Md_closedLine_55 ?_
      refine m_iadd C d_Md_closedLine_56 ?_
      refine m_aload_n C hl 1 d_Md_closedLine_57 rfl rfl ?_
      refine m_aload_n C hl 1 d_Md_closedLine_58 rfl rfl ?_
      refine m_getr C w.1 kc_Md sh_83 (Nat.le_of_ble_eq_true rfl) 11 88 rfl (by decide) fk_Md_26 d_Md_closedLine_59 ?_
      refine m_iload_n C hl 0 d_Md_closedLine_62 rfl rfl ?_
      refine m_iald C w.1 sh_88 (Nat.le_of_ble_eq_true rfl) (Nat.le_of_ble_eq_true rfl) hM d_Md_closedLine_63 (fun x9 hM => ?_)
      obtain ⟨q11, e10, hM⟩ := bnd_some hM
      refine aftI C w (runV C w.1 w.2 kc_Md sh_83 (Nat.le_of_ble_eq_true rfl) (c_Md_signed hI e10) lk_Md_211 mb_Md_signed rfl ⟨Nat.le_of_ble_eq_true rfl, Nat.le_of_ble_eq_true rfl⟩ ⟨Nat.zero_le _, Nat.zero_le _⟩ (Nat.le_of_ble_eq_true rfl) d_Md_closedLine_64 hl.1 (rest := [.int (iZ ((34 + (2 * x5)) + 1)), .ref (ad 88)]) rfl) (fun H locs w => ?_)
      refine m_iast C w sh_88 (Nat.le_of_ble_eq_true rfl) (Nat.le_of_ble_eq_true rfl) hM d_Md_closedLine_67 (fun h12 H locs w hM => ?_)
      refine m_aload_n C hl 1 d_Md_closedLine_68 rfl rfl ?_
      refine m_getr C w.1 kc_Md sh_83 (Nat.le_of_ble_eq_true rfl) 11 88 rfl (by decide) fk_Md_26 d_Md_closedLine_69 ?_
      refine m_bipush C d_Md_closedLine_72 (by decide) ?_
      refine m_dup2 C d_Md_closedLine_74 rfl rfl ?_
      refine m_iald C w.1 sh_88 (Nat.le_of_ble_eq_true rfl) (Nat.le_of_ble_eq_true rfl) hM d_Md_closedLine_75 (fun x13 hM => ?_)
      refine m_iconst C d_Md_closedLine_76 ?_
      refine m_iadd C d_Md_closedLine_77 ?_
      refine m_iast C w sh_88 (Nat.le_of_ble_eq_true rfl) (Nat.le_of_ble_eq_true rfl) hM d_Md_closedLine_78 (fun h14 H locs w hM => ?_)
      exact m_vretW C w hr hlk hM d_Md_closedLine_79
    · exact m_vretW C w hr hlk hM d_Md_closedLine_24
  refine m_icmp_ne C hM 16 d_Md_closedLine_8 (by decide) (fun hM => ?_) (fun hM => ?_)
  · exact hJ4 h hM _ _ w _ hl
  · refine m_aload_n C hl 0 d_Md_closedLine_11 rfl rfl ?_
    refine m_iload_n C hl 1 d_Md_closedLine_12 rfl rfl ?_
    obtain ⟨h16, e15, hM⟩ := bnd_some hM
    refine aftV C w (runV C w.1 w.2 kc_Md sh_83 (Nat.le_of_ble_eq_true rfl) (c_Md_wrong hI e15) lk_Md_186 mb_Md_wrong rfl ⟨Nat.le_of_ble_eq_true rfl, Nat.le_of_ble_eq_true rfl⟩ ⟨Nat.zero_le _, Nat.zero_le _⟩ (Nat.le_of_ble_eq_true rfl) d_Md_closedLine_13 hl.1 (rest := []) rfl) (fun H locs w => ?_)
    exact hJ4 h16 hM _ _ w _ hl
def y_Md_fault : MethodName := ⟨"FeastBookModel", "fault", "()I"⟩
theorem d_Md_fault_0 : decode prog_13_method_56_code 0 = .ok (.aload_n 0, 1) := by decide +kernel
theorem d_Md_fault_1 : decode prog_13_method_56_code 1 = .ok (.iconst 0, 1) := by decide +kernel
theorem d_Md_fault_2 : decode prog_13_method_56_code 2 = .ok (.putfield 51, 3) := by decide +kernel
theorem d_Md_fault_5 : decode prog_13_method_56_code 5 = .ok (.aload_n 0, 1) := by decide +kernel
theorem d_Md_fault_6 : decode prog_13_method_56_code 6 = .ok (.getfield 22, 3) := by decide +kernel
theorem d_Md_fault_9 : decode prog_13_method_56_code 9 = .ok (.ireturn, 1) := by decide +kernel
def M_Md_fault (h : Hp) : Option (Int × Hp) := lt' (hs h 83 0 0) (fun h1 => some (h1 83 10, h1))
set_option maxHeartbeats 4000000 in
set_option maxRecDepth 100000 in
theorem c_Md_fault {l : Launch} {D : va_G} {ad : Nat → Nat} {cA : Nat → ClassId} {sd sv : Nat → Nat} {h : Hp} {out : (Int × Hp)} (hI : Inj97 ad) (hM : M_Md_fault h = some out) : Met l y_Md_fault (.code y_Md_fault prog_13_method_56_code 1 (some .int) :: TT) (rmD 0) (PC D ad cA sd sv h [.ref (ad 83)]) (QI D ad cA out) 0 0 (FA ad) := by
  unfold M_Md_fault at hM
  refine entM (by decide +kernel) hI (Nat.le_of_ble_eq_true rfl) ?_
  intro p e s m args below meth c C hr hlk hP ls hl
  have C : Cx p s m args c prog_13_method_56_code 1 "FeastBookModel" D ad cA sd sv (FA ad) := C
  have hl : lv_has ls 1 [(0, .ref (ad 83))] := hl
  have w : Wd s D ad cA (FA ad) h s.heap [] := ⟨hP, va_S.rf⟩
  refine m_aload_n C hl 0 d_Md_fault_0 rfl rfl ?_
  refine m_iconst C d_Md_fault_1 ?_
  refine m_puti C w kc_Md sh_83 (Nat.le_of_ble_eq_true rfl) 0 hM rfl (by decide) rfl rfl fk_Md_51 d_Md_fault_2 (fun h1 H locs w hM => ?_)
  refine m_aload_n C hl 0 d_Md_fault_5 rfl rfl ?_
  refine m_geti C w.1 kc_Md sh_83 (Nat.le_of_ble_eq_true rfl) 10 rfl (by decide) fk_Md_22 d_Md_fault_6 ?_
  exact m_iretW C w hr hlk hM d_Md_fault_9
def y_Md_hasBook : MethodName := ⟨"FeastBookModel", "hasBook", "()Z"⟩
theorem d_Md_hasBook_0 : decode prog_13_method_5_code 0 = .ok (.aload_n 0, 1) := by decide +kernel
theorem d_Md_hasBook_1 : decode prog_13_method_5_code 1 = .ok (.getfield 7, 3) := by decide +kernel
theorem d_Md_hasBook_4 : decode prog_13_method_5_code 4 = .ok (.iconst 0, 1) := by decide +kernel
theorem d_Md_hasBook_5 : decode prog_13_method_5_code 5 = .ok (.iaload, 1) := by decide +kernel
theorem d_Md_hasBook_6 : decode prog_13_method_5_code 6 = .ok (.ifCond .le 7, 3) := by decide +kernel
theorem d_Md_hasBook_9 : decode prog_13_method_5_code 9 = .ok (.iconst 1, 1) := by decide +kernel
theorem d_Md_hasBook_10 : decode prog_13_method_5_code 10 = .ok (.goto 4, 3) := by decide +kernel
theorem d_Md_hasBook_13 : decode prog_13_method_5_code 13 = .ok (.iconst 0, 1) := by decide +kernel
theorem d_Md_hasBook_14 : decode prog_13_method_5_code 14 = .ok (.ireturn, 1) := by decide +kernel
theorem fk_Md_7 : Cond.fieldLink "FeastBookModel" 7 (T_Md 1).1 (T_Md 1).2.1 (T_Md 1).2.2.1 ∈ TT := mT8 97 (by decide +kernel) (by decide +kernel)
def M_Md_hasBook (h : Hp) : Option Int := (rdA h 84 127 0).bind (fun x1 => if leb x1 0 then rtB 0 else rtB 1)
set_option maxHeartbeats 4000000 in
set_option maxRecDepth 100000 in
theorem c_Md_hasBook {l : Launch} {D : va_G} {ad : Nat → Nat} {cA : Nat → ClassId} {sd sv : Nat → Nat} {h : Hp} {out : Int} (hI : Inj97 ad) (hM : M_Md_hasBook h = some out) : Met l y_Md_hasBook (.code y_Md_hasBook prog_13_method_5_code 1 (some .boolean) :: TT) (rmD 0) (PC D ad cA sd sv h [.ref (ad 83)]) (QR out) 0 0 (fun _ => False) := by
  unfold M_Md_hasBook at hM
  refine entM (by decide +kernel) hI (Nat.le_of_ble_eq_true rfl) ?_
  intro p e s m args below meth c C hr hlk hP ls hl
  have C : Cx p s m args c prog_13_method_5_code 1 "FeastBookModel" D ad cA sd sv (FA ad) := C
  have hl : lv_has ls 1 [(0, .ref (ad 83))] := hl
  refine m_aload_n C hl 0 d_Md_hasBook_0 rfl rfl ?_
  refine m_getr C hP kc_Md sh_83 (Nat.le_of_ble_eq_true rfl) 1 84 rfl (by decide) fk_Md_7 d_Md_hasBook_1 ?_
  refine m_iconst C d_Md_hasBook_4 ?_
  refine m_iald C hP sh_84 (Nat.le_of_ble_eq_true rfl) (Nat.le_of_ble_eq_true rfl) hM d_Md_hasBook_5 (fun x1 hM => ?_)
  refine m_if_le C hM 13 d_Md_hasBook_6 (by decide) (fun hM => ?_) (fun hM => ?_)
  · refine m_iconst C d_Md_hasBook_13 ?_
    exact m_zretR C hr hlk hM d_Md_hasBook_14
  · refine m_iconst C d_Md_hasBook_9 ?_
    refine m_goto C 14 d_Md_hasBook_10 (by decide) ?_
    exact m_zretR C hr hlk hM d_Md_hasBook_14
def y_Md_isYear : MethodName := ⟨"FeastBookModel", "isYear", "(I)Z"⟩
theorem d_Md_isYear_0 : decode prog_13_method_7_code 0 = .ok (.aload_n 0, 1) := by decide +kernel
theorem d_Md_isYear_1 : decode prog_13_method_7_code 1 = .ok (.invokevirtual 58, 3) := by decide +kernel
theorem d_Md_isYear_4 : decode prog_13_method_7_code 4 = .ok (.ifCond .eq 18, 3) := by decide +kernel
theorem d_Md_isYear_7 : decode prog_13_method_7_code 7 = .ok (.iload_n 1, 1) := by decide +kernel
theorem d_Md_isYear_8 : decode prog_13_method_7_code 8 = .ok (.iconst 0, 1) := by decide +kernel
theorem d_Md_isYear_9 : decode prog_13_method_7_code 9 = .ok (.sipush 9999, 3) := by decide +kernel
theorem d_Md_isYear_12 : decode prog_13_method_7_code 12 = .ok (.invokestatic 54, 3) := by decide +kernel
theorem d_Md_isYear_15 : decode prog_13_method_7_code 15 = .ok (.ifCond .eq 7, 3) := by decide +kernel
theorem d_Md_isYear_18 : decode prog_13_method_7_code 18 = .ok (.iconst 1, 1) := by decide +kernel
theorem d_Md_isYear_19 : decode prog_13_method_7_code 19 = .ok (.goto 4, 3) := by decide +kernel
theorem d_Md_isYear_22 : decode prog_13_method_7_code 22 = .ok (.iconst 0, 1) := by decide +kernel
theorem d_Md_isYear_23 : decode prog_13_method_7_code 23 = .ok (.ireturn, 1) := by decide +kernel
theorem mb_Md_hasBook : MBv R_Md y_Md_hasBook prog_13_method_5_code 1 (some .boolean) 0 := ⟨mT9 56 (by decide +kernel) (by decide +kernel), mTs 31 (by decide +kernel) (by decide +kernel), mT1 10 (by decide +kernel) (by decide +kernel), mT9 57 (by decide +kernel) (by decide +kernel), by decide, rfl, by decide +kernel, by decide +kernel, by decide +kernel⟩
theorem lk_Md_58 : Cond.methodLink "FeastBookModel" 58 y_Md_hasBook ∈ TT := mT9 54 (by decide +kernel) (by decide +kernel)
def M_Md_isYear (h : Hp) (a1 : Int) : Option Int := (M_Md_hasBook h).bind (fun x2 => if eqb x2 0 then rtB 0 else (M_Md_isIn a1 0 9999).bind (fun x4 => if eqb x4 0 then rtB 0 else rtB 1))
set_option maxHeartbeats 4000000 in
set_option maxRecDepth 100000 in
theorem c_Md_isYear {l : Launch} {D : va_G} {ad : Nat → Nat} {cA : Nat → ClassId} {sd sv : Nat → Nat} {h : Hp} {a1 : Int} {out : Int} (hI : Inj97 ad) (hM : M_Md_isYear h a1 = some out) : Met l y_Md_isYear (.code y_Md_isYear prog_13_method_7_code 2 (some .boolean) :: TT) (rmD 1) (PC D ad cA sd sv h [.ref (ad 83), .int (iZ a1)]) (QR out) 0 0 (fun _ => False) := by
  unfold M_Md_isYear at hM
  refine entM (by decide +kernel) hI (Nat.le_of_ble_eq_true rfl) ?_
  intro p e s m args below meth c C hr hlk hP ls hl
  have C : Cx p s m args c prog_13_method_7_code 2 "FeastBookModel" D ad cA sd sv (FA ad) := C
  have hl : lv_has ls 2 [(0, .ref (ad 83)), (1, .int (iZ a1))] := hl
  refine m_aload_n C hl 0 d_Md_isYear_0 rfl rfl ?_
  obtain ⟨x2, e1, hM⟩ := bnd_some hM
  refine aftR (runV C hP va_S.rf kc_Md sh_83 (Nat.le_of_ble_eq_true rfl) (c_Md_hasBook hI e1) lk_Md_58 mb_Md_hasBook rfl ⟨Nat.le_of_ble_eq_true rfl, Nat.le_of_ble_eq_true rfl⟩ ⟨Nat.zero_le _, Nat.zero_le _⟩ (Nat.le_of_ble_eq_true rfl) d_Md_isYear_1 hl.1 (rest := []) rfl) ?_
  refine m_if_eq C hM 22 d_Md_isYear_4 (by decide) (fun hM => ?_) (fun hM => ?_)
  · refine m_iconst C d_Md_isYear_22 ?_
    exact m_zretR C hr hlk hM d_Md_isYear_23
  · refine m_iload_n C hl 1 d_Md_isYear_7 rfl rfl ?_
    refine m_iconst C d_Md_isYear_8 ?_
    refine m_sipush C d_Md_isYear_9 (by decide) ?_
    obtain ⟨x4, e3, hM⟩ := bnd_some hM
    refine aftR (runS C hP va_S.rf (c_Md_isIn hI e3) lk_Md_54 mb_Md_isIn rfl ⟨Nat.le_of_ble_eq_true rfl, Nat.le_of_ble_eq_true rfl⟩ ⟨Nat.zero_le _, Nat.zero_le _⟩ (Nat.le_of_ble_eq_true rfl) d_Md_isYear_12 hl.1 (rest := []) rfl) ?_
    refine m_if_eq C hM 22 d_Md_isYear_15 (by decide) (fun hM => ?_) (fun hM => ?_)
    · refine m_iconst C d_Md_isYear_22 ?_
      exact m_zretR C hr hlk hM d_Md_isYear_23
    · refine m_iconst C d_Md_isYear_18 ?_
      refine m_goto C 23 d_Md_isYear_19 (by decide) ?_
      exact m_zretR C hr hlk hM d_Md_isYear_23
def y_Md_isLong : MethodName := ⟨"FeastBookModel", "isLong", "(I)Z"⟩
theorem d_Md_isLong_0 : decode prog_13_method_10_code 0 = .ok (.aload_n 0, 1) := by decide +kernel
theorem d_Md_isLong_1 : decode prog_13_method_10_code 1 = .ok (.getfield 7, 3) := by decide +kernel
theorem d_Md_isLong_4 : decode prog_13_method_10_code 4 = .ok (.bipush 10, 2) := by decide +kernel
theorem d_Md_isLong_6 : decode prog_13_method_10_code 6 = .ok (.iaload, 1) := by decide +kernel
theorem d_Md_isLong_7 : decode prog_13_method_10_code 7 = .ok (.ifCond .le 19, 3) := by decide +kernel
theorem d_Md_isLong_10 : decode prog_13_method_10_code 10 = .ok (.iload_n 1, 1) := by decide +kernel
theorem d_Md_isLong_11 : decode prog_13_method_10_code 11 = .ok (.aload_n 0, 1) := by decide +kernel
theorem d_Md_isLong_12 : decode prog_13_method_10_code 12 = .ok (.getfield 7, 3) := by decide +kernel
theorem d_Md_isLong_15 : decode prog_13_method_10_code 15 = .ok (.bipush 10, 2) := by decide +kernel
theorem d_Md_isLong_17 : decode prog_13_method_10_code 17 = .ok (.iaload, 1) := by decide +kernel
theorem d_Md_isLong_18 : decode prog_13_method_10_code 18 = .ok (.irem, 1) := by decide +kernel
theorem d_Md_isLong_19 : decode prog_13_method_10_code 19 = .ok (.ifCond .ne 7, 3) := by decide +kernel
theorem d_Md_isLong_22 : decode prog_13_method_10_code 22 = .ok (.iconst 1, 1) := by decide +kernel
theorem d_Md_isLong_23 : decode prog_13_method_10_code 23 = .ok (.goto 4, 3) := by decide +kernel
theorem d_Md_isLong_26 : decode prog_13_method_10_code 26 = .ok (.iconst 0, 1) := by decide +kernel
theorem d_Md_isLong_27 : decode prog_13_method_10_code 27 = .ok (.ireturn, 1) := by decide +kernel
def M_Md_isLong (h : Hp) (a1 : Int) : Option Int := (rdA h 84 127 10).bind (fun x1 => if leb x1 0 then rtB 0 else (rdA h 84 127 10).bind (fun x2 => (rmI a1 x2).bind (fun x3 => if eqb x3 0 then rtB 1 else rtB 0)))
set_option maxHeartbeats 4000000 in
set_option maxRecDepth 100000 in
theorem c_Md_isLong {l : Launch} {D : va_G} {ad : Nat → Nat} {cA : Nat → ClassId} {sd sv : Nat → Nat} {h : Hp} {a1 : Int} {out : Int} (hI : Inj97 ad) (hM : M_Md_isLong h a1 = some out) : Met l y_Md_isLong (.code y_Md_isLong prog_13_method_10_code 2 (some .boolean) :: TT) (rmD 0) (PC D ad cA sd sv h [.ref (ad 83), .int (iZ a1)]) (QR out) 0 0 (fun _ => False) := by
  unfold M_Md_isLong at hM
  refine entM (by decide +kernel) hI (Nat.le_of_ble_eq_true rfl) ?_
  intro p e s m args below meth c C hr hlk hP ls hl
  have C : Cx p s m args c prog_13_method_10_code 2 "FeastBookModel" D ad cA sd sv (FA ad) := C
  have hl : lv_has ls 2 [(0, .ref (ad 83)), (1, .int (iZ a1))] := hl
  refine m_aload_n C hl 0 d_Md_isLong_0 rfl rfl ?_
  refine m_getr C hP kc_Md sh_83 (Nat.le_of_ble_eq_true rfl) 1 84 rfl (by decide) fk_Md_7 d_Md_isLong_1 ?_
  refine m_bipush C d_Md_isLong_4 (by decide) ?_
  refine m_iald C hP sh_84 (Nat.le_of_ble_eq_true rfl) (Nat.le_of_ble_eq_true rfl) hM d_Md_isLong_6 (fun x1 hM => ?_)
  refine m_if_le C hM 26 d_Md_isLong_7 (by decide) (fun hM => ?_) (fun hM => ?_)
  · refine m_iconst C d_Md_isLong_26 ?_
    exact m_zretR C hr hlk hM d_Md_isLong_27
  · refine m_iload_n C hl 1 d_Md_isLong_10 rfl rfl ?_
    refine m_aload_n C hl 0 d_Md_isLong_11 rfl rfl ?_
    refine m_getr C hP kc_Md sh_83 (Nat.le_of_ble_eq_true rfl) 1 84 rfl (by decide) fk_Md_7 d_Md_isLong_12 ?_
    refine m_bipush C d_Md_isLong_15 (by decide) ?_
    refine m_iald C hP sh_84 (Nat.le_of_ble_eq_true rfl) (Nat.le_of_ble_eq_true rfl) hM d_Md_isLong_17 (fun x2 hM => ?_)
    refine m_irem C hM d_Md_isLong_18 (fun x3 hM => ?_)
    refine m_if_ne C hM 26 d_Md_isLong_19 (by decide) (fun hM => ?_) (fun hM => ?_)
    · refine m_iconst C d_Md_isLong_26 ?_
      exact m_zretR C hr hlk hM d_Md_isLong_27
    · refine m_iconst C d_Md_isLong_22 ?_
      refine m_goto C 27 d_Md_isLong_23 (by decide) ?_
      exact m_zretR C hr hlk hM d_Md_isLong_27
def y_Md_lengthOf : MethodName := ⟨"FeastBookModel", "lengthOf", "(I)I"⟩
theorem d_Md_lengthOf_0 : decode prog_13_method_11_code 0 = .ok (.aload_n 0, 1) := by decide +kernel
theorem d_Md_lengthOf_1 : decode prog_13_method_11_code 1 = .ok (.getfield 7, 3) := by decide +kernel
theorem d_Md_lengthOf_4 : decode prog_13_method_11_code 4 = .ok (.invokestatic 62, 3) := by decide +kernel
theorem d_Md_lengthOf_7 : decode prog_13_method_11_code 7 = .ok (.aload_n 0, 1) := by decide +kernel
theorem d_Md_lengthOf_8 : decode prog_13_method_11_code 8 = .ok (.iload_n 1, 1) := by decide +kernel
theorem d_Md_lengthOf_9 : decode prog_13_method_11_code 9 = .ok (.invokevirtual 66, 3) := by decide +kernel
theorem d_Md_lengthOf_12 : decode prog_13_method_11_code 12 = .ok (.ifCond .eq 7, 3) := by decide +kernel
theorem d_Md_lengthOf_15 : decode prog_13_method_11_code 15 = .ok (.iconst 1, 1) := by decide +kernel
theorem d_Md_lengthOf_16 : decode prog_13_method_11_code 16 = .ok (.goto 4, 3) := by decide +kernel
theorem d_Md_lengthOf_19 : decode prog_13_method_11_code 19 = .ok (.iconst 0, 1) := by decide +kernel
theorem d_Md_lengthOf_20 : decode prog_13_method_11_code 20 = .ok (.iadd, 1) := by decide +kernel
theorem d_Md_lengthOf_21 : decode prog_13_method_11_code 21 = .ok (.ireturn, 1) := by decide +kernel
theorem mb_Md_isLong : MBv R_Md y_Md_isLong prog_13_method_10_code 2 (some .boolean) 1 := ⟨mT9 68 (by decide +kernel) (by decide +kernel), mTs 34 (by decide +kernel) (by decide +kernel), mT1 10 (by decide +kernel) (by decide +kernel), mT9 69 (by decide +kernel) (by decide +kernel), by decide, rfl, by decide +kernel, by decide +kernel, by decide +kernel⟩
theorem mb_Md_monthsOf : MBs y_Md_monthsOf prog_13_method_9_code 3 (some .int) 1 := ⟨mT8 233 (by decide +kernel) (by decide +kernel), mT1 10 (by decide +kernel) (by decide +kernel), mT8 234 (by decide +kernel) (by decide +kernel), by decide, by decide +kernel, by decide +kernel, by decide +kernel⟩
theorem lk_Md_62 : Cond.methodLink "FeastBookModel" 62 y_Md_monthsOf ∈ TT := mT8 232 (by decide +kernel) (by decide +kernel)
theorem lk_Md_66 : Cond.methodLink "FeastBookModel" 66 y_Md_isLong ∈ TT := mT9 66 (by decide +kernel) (by decide +kernel)
def M_Md_lengthOf (N : Nat) (h : Hp) (a1 : Int) : Option Int := (M_Md_monthsOf N h 84 127).bind (fun x2 => (M_Md_isLong h a1).bind (fun x4 => if eqb x4 0 then some (x2 + 0) else some (x2 + 1)))
set_option maxHeartbeats 4000000 in
set_option maxRecDepth 100000 in
theorem c_Md_lengthOf {l : Launch} {D : va_G} {ad : Nat → Nat} {cA : Nat → ClassId} {sd sv : Nat → Nat} {h : Hp} {N : Nat} {a1 : Int} {out : Int} (hI : Inj97 ad) (hM : M_Md_lengthOf N h a1 = some out) : Met l y_Md_lengthOf (.code y_Md_lengthOf prog_13_method_11_code 2 (some .int) :: TT) (rmD 1) (PC D ad cA sd sv h [.ref (ad 83), .int (iZ a1)]) (QR out) 0 0 (fun _ => False) := by
  unfold M_Md_lengthOf at hM
  refine entM (by decide +kernel) hI (Nat.le_of_ble_eq_true rfl) ?_
  intro p e s m args below meth c C hr hlk hP ls hl
  have C : Cx p s m args c prog_13_method_11_code 2 "FeastBookModel" D ad cA sd sv (FA ad) := C
  have hl : lv_has ls 2 [(0, .ref (ad 83)), (1, .int (iZ a1))] := hl
  refine m_aload_n C hl 0 d_Md_lengthOf_0 rfl rfl ?_
  refine m_getr C hP kc_Md sh_83 (Nat.le_of_ble_eq_true rfl) 1 84 rfl (by decide) fk_Md_7 d_Md_lengthOf_1 ?_
  obtain ⟨x2, e1, hM⟩ := bnd_some hM
  refine aftR (runS C hP va_S.rf (c_Md_monthsOf hI ⟨sh_84, (Nat.le_of_ble_eq_true rfl), (Nat.le_of_ble_eq_true rfl)⟩ e1) lk_Md_62 mb_Md_monthsOf rfl ⟨Nat.le_of_ble_eq_true rfl, Nat.le_of_ble_eq_true rfl⟩ ⟨Nat.zero_le _, Nat.zero_le _⟩ (Nat.le_of_ble_eq_true rfl) d_Md_lengthOf_4 hl.1 (rest := []) rfl) ?_
  refine m_aload_n C hl 0 d_Md_lengthOf_7 rfl rfl ?_
  refine m_iload_n C hl 1 d_Md_lengthOf_8 rfl rfl ?_
  obtain ⟨x4, e3, hM⟩ := bnd_some hM
  refine aftR (runV C hP va_S.rf kc_Md sh_83 (Nat.le_of_ble_eq_true rfl) (c_Md_isLong hI e3) lk_Md_66 mb_Md_isLong rfl ⟨Nat.le_of_ble_eq_true rfl, Nat.le_of_ble_eq_true rfl⟩ ⟨Nat.zero_le _, Nat.zero_le _⟩ (Nat.le_of_ble_eq_true rfl) d_Md_lengthOf_9 hl.1 (rest := [.int (iZ x2)]) rfl) ?_
  refine m_if_eq C hM 19 d_Md_lengthOf_12 (by decide) (fun hM => ?_) (fun hM => ?_)
  · refine m_iconst C d_Md_lengthOf_19 ?_
    refine m_iadd C d_Md_lengthOf_20 ?_
    exact m_iretR C hr hlk hM d_Md_lengthOf_21
  · refine m_iconst C d_Md_lengthOf_15 ?_
    refine m_goto C 20 d_Md_lengthOf_16 (by decide) ?_
    refine m_iadd C d_Md_lengthOf_20 ?_
    exact m_iretR C hr hlk hM d_Md_lengthOf_21
def y_Md_weekdayOf : MethodName := ⟨"FeastBookModel", "weekdayOf", "(I)I"⟩
theorem d_Md_weekdayOf_0 : decode prog_13_method_12_code 0 = .ok (.aload_n 0, 1) := by decide +kernel
theorem d_Md_weekdayOf_1 : decode prog_13_method_12_code 1 = .ok (.getfield 7, 3) := by decide +kernel
theorem d_Md_weekdayOf_4 : decode prog_13_method_12_code 4 = .ok (.bipush 10, 2) := by decide +kernel
theorem d_Md_weekdayOf_6 : decode prog_13_method_12_code 6 = .ok (.iaload, 1) := by decide +kernel
theorem d_Md_weekdayOf_7 : decode prog_13_method_12_code 7 = .ok (.ifCond .le 25, 3) := by decide +kernel
theorem d_Md_weekdayOf_10 : decode prog_13_method_12_code 10 = .ok (.iload_n 1, 1) := by decide +kernel
theorem d_Md_weekdayOf_11 : decode prog_13_method_12_code 11 = .ok (.aload_n 0, 1) := by decide +kernel
theorem d_Md_weekdayOf_12 : decode prog_13_method_12_code 12 = .ok (.getfield 7, 3) := by decide +kernel
theorem d_Md_weekdayOf_15 : decode prog_13_method_12_code 15 = .ok (.bipush 10, 2) := by decide +kernel
theorem d_Md_weekdayOf_17 : decode prog_13_method_12_code 17 = .ok (.iaload, 1) := by decide +kernel
theorem d_Md_weekdayOf_18 : decode prog_13_method_12_code 18 = .ok (.iadd, 1) := by decide +kernel
theorem d_Md_weekdayOf_19 : decode prog_13_method_12_code 19 = .ok (.iconst 1, 1) := by decide +kernel
theorem d_Md_weekdayOf_20 : decode prog_13_method_12_code 20 = .ok (.isub, 1) := by decide +kernel
theorem d_Md_weekdayOf_21 : decode prog_13_method_12_code 21 = .ok (.aload_n 0, 1) := by decide +kernel
theorem d_Md_weekdayOf_22 : decode prog_13_method_12_code 22 = .ok (.getfield 7, 3) := by decide +kernel
theorem d_Md_weekdayOf_25 : decode prog_13_method_12_code 25 = .ok (.bipush 10, 2) := by decide +kernel
theorem d_Md_weekdayOf_27 : decode prog_13_method_12_code 27 = .ok (.iaload, 1) := by decide +kernel
theorem d_Md_weekdayOf_28 : decode prog_13_method_12_code 28 = .ok (.idiv, 1) := by decide +kernel
theorem d_Md_weekdayOf_29 : decode prog_13_method_12_code 29 = .ok (.goto 4, 3) := by decide +kernel
theorem d_Md_weekdayOf_32 : decode prog_13_method_12_code 32 = .ok (.iconst 0, 1) := by decide +kernel
theorem d_Md_weekdayOf_33 : decode prog_13_method_12_code 33 = .ok (.istore_n 2, 1) := by decide +kernel
theorem d_Md_weekdayOf_34 : decode prog_13_method_12_code 34 = .ok (.iload_n 1, 1) := by decide +kernel
theorem d_Md_weekdayOf_35 : decode prog_13_method_12_code 35 = .ok (.aload_n 0, 1) := by decide +kernel
theorem d_Md_weekdayOf_36 : decode prog_13_method_12_code 36 = .ok (.getfield 7, 3) := by decide +kernel
theorem d_Md_weekdayOf_39 : decode prog_13_method_12_code 39 = .ok (.invokestatic 62, 3) := by decide +kernel
theorem d_Md_weekdayOf_42 : decode prog_13_method_12_code 42 = .ok (.imul, 1) := by decide +kernel
theorem d_Md_weekdayOf_43 : decode prog_13_method_12_code 43 = .ok (.iload_n 2, 1) := by decide +kernel
theorem d_Md_weekdayOf_44 : decode prog_13_method_12_code 44 = .ok (.iadd, 1) := by decide +kernel
theorem d_Md_weekdayOf_45 : decode prog_13_method_12_code 45 = .ok (.aload_n 0, 1) := by decide +kernel
theorem d_Md_weekdayOf_46 : decode prog_13_method_12_code 46 = .ok (.getfield 7, 3) := by decide +kernel
theorem d_Md_weekdayOf_49 : decode prog_13_method_12_code 49 = .ok (.iconst 0, 1) := by decide +kernel
theorem d_Md_weekdayOf_50 : decode prog_13_method_12_code 50 = .ok (.iaload, 1) := by decide +kernel
theorem d_Md_weekdayOf_51 : decode prog_13_method_12_code 51 = .ok (.irem, 1) := by decide +kernel
theorem d_Md_weekdayOf_52 : decode prog_13_method_12_code 52 = .ok (.ireturn, 1) := by decide +kernel
def M_Md_weekdayOf (N : Nat) (h : Hp) (a1 : Int) : Option Int := (rdA h 84 127 10).bind (fun x1 => lt' (fun (s0_5 : Int) => (M_Md_monthsOf N h 84 127).bind (fun x7 => (rdA h 84 127 0).bind (fun x8 => (rmI ((a1 * x7) + s0_5) x8).bind (fun x9 => some x9)))) (fun j5 => if leb x1 0 then j5 0 else (rdA h 84 127 10).bind (fun x10 => (rdA h 84 127 10).bind (fun x11 => (dvI ((a1 + x10) - 1) x11).bind (fun x12 => j5 x12)))))
set_option maxHeartbeats 4000000 in
set_option maxRecDepth 100000 in
theorem c_Md_weekdayOf {l : Launch} {D : va_G} {ad : Nat → Nat} {cA : Nat → ClassId} {sd sv : Nat → Nat} {h : Hp} {N : Nat} {a1 : Int} {out : Int} (hI : Inj97 ad) (hM : M_Md_weekdayOf N h a1 = some out) : Met l y_Md_weekdayOf (.code y_Md_weekdayOf prog_13_method_12_code 3 (some .int) :: TT) (rmD 1) (PC D ad cA sd sv h [.ref (ad 83), .int (iZ a1)]) (QR out) 0 0 (fun _ => False) := by
  unfold M_Md_weekdayOf at hM
  refine entM (by decide +kernel) hI (Nat.le_of_ble_eq_true rfl) ?_
  intro p e s m args below meth c C hr hlk hP ls hl
  have C : Cx p s m args c prog_13_method_12_code 3 "FeastBookModel" D ad cA sd sv (FA ad) := C
  have hl : lv_has ls 3 [(0, .ref (ad 83)), (1, .int (iZ a1))] := hl
  refine m_aload_n C hl 0 d_Md_weekdayOf_0 rfl rfl ?_
  refine m_getr C hP kc_Md sh_83 (Nat.le_of_ble_eq_true rfl) 1 84 rfl (by decide) fk_Md_7 d_Md_weekdayOf_1 ?_
  refine m_bipush C d_Md_weekdayOf_4 (by decide) ?_
  refine m_iald C hP sh_84 (Nat.le_of_ble_eq_true rfl) (Nat.le_of_ble_eq_true rfl) hM d_Md_weekdayOf_6 (fun x1 hM => ?_)
  refine lt_join hM (fun j5 ej hM => ?_)
  have hJ5 : ∀ (s0_5 : Int), j5 s0_5 = some out → ∀ ls : Array Slot, lv_has ls 3 [(0, .ref (ad 83)), (1, .int (iZ a1))] → W p l e (rmD 1) s m args below meth c s.heap [] 0 0 (MQ below (QR out) args s 0 0 (fun _ => False)) (F0 m 33 ls [.int (iZ s0_5)]) := by
    intro s0_5 hM ls hl
    subst ej
    dsimp only at hM
    refine m_istore_n C hl [(2, .int (iZ s0_5)), (0, .ref (ad 83)), (1, .int (iZ a1))] d_Md_weekdayOf_33 rfl (by decide) rfl (fun ls hl => ?_)
    refine m_iload_n C hl 2 d_Md_weekdayOf_34 rfl rfl ?_
    refine m_aload_n C hl 1 d_Md_weekdayOf_35 rfl rfl ?_
    refine m_getr C hP kc_Md sh_83 (Nat.le_of_ble_eq_true rfl) 1 84 rfl (by decide) fk_Md_7 d_Md_weekdayOf_36 ?_
    obtain ⟨x7, e6, hM⟩ := bnd_some hM
    refine aftR (runS C hP va_S.rf (c_Md_monthsOf hI ⟨sh_84, (Nat.le_of_ble_eq_true rfl), (Nat.le_of_ble_eq_true rfl)⟩ e6) lk_Md_62 mb_Md_monthsOf rfl ⟨Nat.le_of_ble_eq_true rfl, Nat.le_of_ble_eq_true rfl⟩ ⟨Nat.zero_le _, Nat.zero_le _⟩ (Nat.le_of_ble_eq_true rfl) d_Md_weekdayOf_39 hl.1 (rest := [.int (iZ a1)]) rfl) ?_
    refine m_imul C d_Md_weekdayOf_42 ?_
    refine m_iload_n C hl 0 d_Md_weekdayOf_43 rfl rfl ?_
    refine m_iadd C d_Md_weekdayOf_44 ?_
    refine m_aload_n C hl 1 d_Md_weekdayOf_45 rfl rfl ?_
    refine m_getr C hP kc_Md sh_83 (Nat.le_of_ble_eq_true rfl) 1 84 rfl (by decide) fk_Md_7 d_Md_weekdayOf_46 ?_
    refine m_iconst C d_Md_weekdayOf_49 ?_
    refine m_iald C hP sh_84 (Nat.le_of_ble_eq_true rfl) (Nat.le_of_ble_eq_true rfl) hM d_Md_weekdayOf_50 (fun x8 hM => ?_)
    refine m_irem C hM d_Md_weekdayOf_51 (fun x9 hM => ?_)
    exact m_iretR C hr hlk hM d_Md_weekdayOf_52
  refine m_if_le C hM 32 d_Md_weekdayOf_7 (by decide) (fun hM => ?_) (fun hM => ?_)
  · refine m_iconst C d_Md_weekdayOf_32 ?_
    exact hJ5 0 hM _ hl
  · refine m_iload_n C hl 1 d_Md_weekdayOf_10 rfl rfl ?_
    refine m_aload_n C hl 0 d_Md_weekdayOf_11 rfl rfl ?_
    refine m_getr C hP kc_Md sh_83 (Nat.le_of_ble_eq_true rfl) 1 84 rfl (by decide) fk_Md_7 d_Md_weekdayOf_12 ?_
    refine m_bipush C d_Md_weekdayOf_15 (by decide) ?_
    refine m_iald C hP sh_84 (Nat.le_of_ble_eq_true rfl) (Nat.le_of_ble_eq_true rfl) hM d_Md_weekdayOf_17 (fun x10 hM => ?_)
    refine m_iadd C d_Md_weekdayOf_18 ?_
    refine m_iconst C d_Md_weekdayOf_19 ?_
    refine m_isub C d_Md_weekdayOf_20 ?_
    refine m_aload_n C hl 0 d_Md_weekdayOf_21 rfl rfl ?_
    refine m_getr C hP kc_Md sh_83 (Nat.le_of_ble_eq_true rfl) 1 84 rfl (by decide) fk_Md_7 d_Md_weekdayOf_22 ?_
    refine m_bipush C d_Md_weekdayOf_25 (by decide) ?_
    refine m_iald C hP sh_84 (Nat.le_of_ble_eq_true rfl) (Nat.le_of_ble_eq_true rfl) hM d_Md_weekdayOf_27 (fun x11 hM => ?_)
    refine m_idiv C hM d_Md_weekdayOf_28 (fun x12 hM => ?_)
    refine m_goto C 33 d_Md_weekdayOf_29 (by decide) ?_
    exact hJ5 x12 hM _ hl
def y_Md_fullOf : MethodName := ⟨"FeastBookModel", "fullOf", "(I)I"⟩
theorem d_Md_fullOf_0 : decode prog_13_method_13_code 0 = .ok (.aload_n 0, 1) := by decide +kernel
theorem d_Md_fullOf_1 : decode prog_13_method_13_code 1 = .ok (.getfield 7, 3) := by decide +kernel
theorem d_Md_fullOf_4 : decode prog_13_method_13_code 4 = .ok (.bipush 13, 2) := by decide +kernel
theorem d_Md_fullOf_6 : decode prog_13_method_13_code 6 = .ok (.iaload, 1) := by decide +kernel
theorem d_Md_fullOf_7 : decode prog_13_method_13_code 7 = .ok (.aload_n 0, 1) := by decide +kernel
theorem d_Md_fullOf_8 : decode prog_13_method_13_code 8 = .ok (.getfield 7, 3) := by decide +kernel
theorem d_Md_fullOf_11 : decode prog_13_method_13_code 11 = .ok (.bipush 14, 2) := by decide +kernel
theorem d_Md_fullOf_13 : decode prog_13_method_13_code 13 = .ok (.iaload, 1) := by decide +kernel
theorem d_Md_fullOf_14 : decode prog_13_method_13_code 14 = .ok (.iload_n 1, 1) := by decide +kernel
theorem d_Md_fullOf_15 : decode prog_13_method_13_code 15 = .ok (.aload_n 0, 1) := by decide +kernel
theorem d_Md_fullOf_16 : decode prog_13_method_13_code 16 = .ok (.getfield 7, 3) := by decide +kernel
theorem d_Md_fullOf_19 : decode prog_13_method_13_code 19 = .ok (.bipush 12, 2) := by decide +kernel
theorem d_Md_fullOf_21 : decode prog_13_method_13_code 21 = .ok (.iaload, 1) := by decide +kernel
theorem d_Md_fullOf_22 : decode prog_13_method_13_code 22 = .ok (.irem, 1) := by decide +kernel
theorem d_Md_fullOf_23 : decode prog_13_method_13_code 23 = .ok (.imul, 1) := by decide +kernel
theorem d_Md_fullOf_24 : decode prog_13_method_13_code 24 = .ok (.aload_n 0, 1) := by decide +kernel
theorem d_Md_fullOf_25 : decode prog_13_method_13_code 25 = .ok (.getfield 7, 3) := by decide +kernel
theorem d_Md_fullOf_28 : decode prog_13_method_13_code 28 = .ok (.bipush 15, 2) := by decide +kernel
theorem d_Md_fullOf_30 : decode prog_13_method_13_code 30 = .ok (.iaload, 1) := by decide +kernel
theorem d_Md_fullOf_31 : decode prog_13_method_13_code 31 = .ok (.irem, 1) := by decide +kernel
theorem d_Md_fullOf_32 : decode prog_13_method_13_code 32 = .ok (.iadd, 1) := by decide +kernel
theorem d_Md_fullOf_33 : decode prog_13_method_13_code 33 = .ok (.ireturn, 1) := by decide +kernel
def M_Md_fullOf (h : Hp) (a1 : Int) : Option Int := (rdA h 84 127 13).bind (fun x1 => (rdA h 84 127 14).bind (fun x2 => (rdA h 84 127 12).bind (fun x3 => (rmI a1 x3).bind (fun x4 => (rdA h 84 127 15).bind (fun x5 => (rmI (x2 * x4) x5).bind (fun x6 => some (x1 + x6)))))))
set_option maxHeartbeats 4000000 in
set_option maxRecDepth 100000 in
theorem c_Md_fullOf {l : Launch} {D : va_G} {ad : Nat → Nat} {cA : Nat → ClassId} {sd sv : Nat → Nat} {h : Hp} {a1 : Int} {out : Int} (hI : Inj97 ad) (hM : M_Md_fullOf h a1 = some out) : Met l y_Md_fullOf (.code y_Md_fullOf prog_13_method_13_code 2 (some .int) :: TT) (rmD 0) (PC D ad cA sd sv h [.ref (ad 83), .int (iZ a1)]) (QR out) 0 0 (fun _ => False) := by
  unfold M_Md_fullOf at hM
  refine entM (by decide +kernel) hI (Nat.le_of_ble_eq_true rfl) ?_
  intro p e s m args below meth c C hr hlk hP ls hl
  have C : Cx p s m args c prog_13_method_13_code 2 "FeastBookModel" D ad cA sd sv (FA ad) := C
  have hl : lv_has ls 2 [(0, .ref (ad 83)), (1, .int (iZ a1))] := hl
  refine m_aload_n C hl 0 d_Md_fullOf_0 rfl rfl ?_
  refine m_getr C hP kc_Md sh_83 (Nat.le_of_ble_eq_true rfl) 1 84 rfl (by decide) fk_Md_7 d_Md_fullOf_1 ?_
  refine m_bipush C d_Md_fullOf_4 (by decide) ?_
  refine m_iald C hP sh_84 (Nat.le_of_ble_eq_true rfl) (Nat.le_of_ble_eq_true rfl) hM d_Md_fullOf_6 (fun x1 hM => ?_)
  refine m_aload_n C hl 0 d_Md_fullOf_7 rfl rfl ?_
  refine m_getr C hP kc_Md sh_83 (Nat.le_of_ble_eq_true rfl) 1 84 rfl (by decide) fk_Md_7 d_Md_fullOf_8 ?_
  refine m_bipush C d_Md_fullOf_11 (by decide) ?_
  refine m_iald C hP sh_84 (Nat.le_of_ble_eq_true rfl) (Nat.le_of_ble_eq_true rfl) hM d_Md_fullOf_13 (fun x2 hM => ?_)
  refine m_iload_n C hl 1 d_Md_fullOf_14 rfl rfl ?_
  refine m_aload_n C hl 0 d_Md_fullOf_15 rfl rfl ?_
  refine m_getr C hP kc_Md sh_83 (Nat.le_of_ble_eq_true rfl) 1 84 rfl (by decide) fk_Md_7 d_Md_fullOf_16 ?_
  refine m_bipush C d_Md_fullOf_19 (by decide) ?_
  refine m_iald C hP sh_84 (Nat.le_of_ble_eq_true rfl) (Nat.le_of_ble_eq_true rfl) hM d_Md_fullOf_21 (fun x3 hM => ?_)
  refine m_irem C hM d_Md_fullOf_22 (fun x4 hM => ?_)
  refine m_imul C d_Md_fullOf_23 ?_
  refine m_aload_n C hl 0 d_Md_fullOf_24 rfl rfl ?_
  refine m_getr C hP kc_Md sh_83 (Nat.le_of_ble_eq_true rfl) 1 84 rfl (by decide) fk_Md_7 d_Md_fullOf_25 ?_
  refine m_bipush C d_Md_fullOf_28 (by decide) ?_
  refine m_iald C hP sh_84 (Nat.le_of_ble_eq_true rfl) (Nat.le_of_ble_eq_true rfl) hM d_Md_fullOf_30 (fun x5 hM => ?_)
  refine m_irem C hM d_Md_fullOf_31 (fun x6 hM => ?_)
  refine m_iadd C d_Md_fullOf_32 ?_
  exact m_iretR C hr hlk hM d_Md_fullOf_33
def y_Md_paschOf : MethodName := ⟨"FeastBookModel", "paschOf", "(I)I"⟩
theorem d_Md_paschOf_0 : decode prog_13_method_14_code 0 = .ok (.aload_n 0, 1) := by decide +kernel
theorem d_Md_paschOf_1 : decode prog_13_method_14_code 1 = .ok (.iload_n 1, 1) := by decide +kernel
theorem d_Md_paschOf_2 : decode prog_13_method_14_code 2 = .ok (.invokevirtual 70, 3) := by decide +kernel
theorem d_Md_paschOf_5 : decode prog_13_method_14_code 5 = .ok (.iconst 1, 1) := by decide +kernel
theorem d_Md_paschOf_6 : decode prog_13_method_14_code 6 = .ok (.iadd, 1) := by decide +kernel
theorem d_Md_paschOf_7 : decode prog_13_method_14_code 7 = .ok (.istore_n 2, 1) := by decide +kernel
theorem d_Md_paschOf_8 : decode prog_13_method_14_code 8 = .ok (.aload_n 0, 1) := by decide +kernel
theorem d_Md_paschOf_9 : decode prog_13_method_14_code 9 = .ok (.iload_n 1, 1) := by decide +kernel
theorem d_Md_paschOf_10 : decode prog_13_method_14_code 10 = .ok (.invokevirtual 74, 3) := by decide +kernel
theorem d_Md_paschOf_13 : decode prog_13_method_14_code 13 = .ok (.iload_n 2, 1) := by decide +kernel
theorem d_Md_paschOf_14 : decode prog_13_method_14_code 14 = .ok (.iadd, 1) := by decide +kernel
theorem d_Md_paschOf_15 : decode prog_13_method_14_code 15 = .ok (.aload_n 0, 1) := by decide +kernel
theorem d_Md_paschOf_16 : decode prog_13_method_14_code 16 = .ok (.getfield 7, 3) := by decide +kernel
theorem d_Md_paschOf_19 : decode prog_13_method_14_code 19 = .ok (.iconst 0, 1) := by decide +kernel
theorem d_Md_paschOf_20 : decode prog_13_method_14_code 20 = .ok (.iaload, 1) := by decide +kernel
theorem d_Md_paschOf_21 : decode prog_13_method_14_code 21 = .ok (.irem, 1) := by decide +kernel
theorem d_Md_paschOf_22 : decode prog_13_method_14_code 22 = .ok (.ifCond .eq 9, 3) := by decide +kernel
theorem d_Md_paschOf_25 : decode prog_13_method_14_code 25 = .ok (.iinc 2 1, 3) := by decide +kernel
theorem d_Md_paschOf_28 : decode prog_13_method_14_code 28 = .ok (.goto (-20), 3) := by decide +kernel
theorem d_Md_paschOf_31 : decode prog_13_method_14_code 31 = .ok (.iload_n 2, 1) := by decide +kernel
theorem d_Md_paschOf_32 : decode prog_13_method_14_code 32 = .ok (.ireturn, 1) := by decide +kernel
theorem mb_Md_fullOf : MBv R_Md y_Md_fullOf prog_13_method_13_code 2 (some .int) 1 := ⟨mT9 80 (by decide +kernel) (by decide +kernel), mTs 37 (by decide +kernel) (by decide +kernel), mT1 10 (by decide +kernel) (by decide +kernel), mT9 81 (by decide +kernel) (by decide +kernel), by decide, rfl, by decide +kernel, by decide +kernel, by decide +kernel⟩
theorem mb_Md_weekdayOf : MBv R_Md y_Md_weekdayOf prog_13_method_12_code 3 (some .int) 1 := ⟨mT9 72 (by decide +kernel) (by decide +kernel), mTs 35 (by decide +kernel) (by decide +kernel), mT1 10 (by decide +kernel) (by decide +kernel), mT9 73 (by decide +kernel) (by decide +kernel), by decide, rfl, by decide +kernel, by decide +kernel, by decide +kernel⟩
theorem lk_Md_70 : Cond.methodLink "FeastBookModel" 70 y_Md_fullOf ∈ TT := mT9 78 (by decide +kernel) (by decide +kernel)
theorem lk_Md_74 : Cond.methodLink "FeastBookModel" 74 y_Md_weekdayOf ∈ TT := mT9 70 (by decide +kernel) (by decide +kernel)
def Md_paschOf_L8 (N : Nat) (h : Hp) (v1 : Int) : Nat → Int → Option Int
  | 0, _ => none
  | n + 1, v2 => (M_Md_weekdayOf N h v1).bind (fun x4 => (rdA h 84 127 0).bind (fun x5 => (rmI (x4 + v2) x5).bind (fun x6 => if eqb x6 0 then some v2 else Md_paschOf_L8 N h v1 n (v2 + 1))))
def M_Md_paschOf (N : Nat) (h : Hp) (a1 : Int) : Option Int := (M_Md_fullOf h a1).bind (fun x2 => Md_paschOf_L8 N h a1 N (x2 + 1))
set_option maxHeartbeats 4000000 in
set_option maxRecDepth 100000 in
theorem w_Md_paschOf_L8 {p : Program} {l : Launch} {e : Env} {s : State} {m : MethodId} {args : Array Value} {below : List Frame} {meth : Method} {c : Code} {D : va_G} {ad : Nat → Nat} {cA : Nat → ClassId} {sd sv : Nat → Nat} {out : Int} (N : Nat) (hI : Inj97 ad) (C : Cx p s m args c prog_13_method_14_code 3 "FeastBookModel" D ad cA sd sv (FA ad)) (hr : meth.sig.returnType = (some .int)) (hlk : meth.locks = false) (v1 : Int) (h : Hp) (hP : va_P D clL (wl ad cA h) s.heap) : ∀ (n : Nat) (v2 : Int), ∀ ls : Array Slot, lv_has ls 3 [(0, .ref (ad 83)), (1, .int (iZ v1)), (2, .int (iZ v2))] → Md_paschOf_L8 N h v1 n v2 = some out → W p l e (rmD 2) s m args below meth c s.heap [] 0 0 (MQ below (QR out) args s 0 0 (fun _ => False)) (F0 m 8 ls []) := by
  intro n
  induction n with
  | zero =>
    intro v2 ls hl hM
    rw [Md_paschOf_L8] at hM
    cases hM
  | succ n ih =>
    intro v2 ls hl hM
    rw [Md_paschOf_L8] at hM
    refine m_aload_n C hl 0 d_Md_paschOf_8 rfl rfl ?_
    refine m_iload_n C hl 1 d_Md_paschOf_9 rfl rfl ?_
    obtain ⟨x4, e3, hM⟩ := bnd_some hM
    refine aftR (runV C hP va_S.rf kc_Md sh_83 (Nat.le_of_ble_eq_true rfl) (c_Md_weekdayOf hI e3) lk_Md_74 mb_Md_weekdayOf rfl ⟨Nat.le_of_ble_eq_true rfl, Nat.le_of_ble_eq_true rfl⟩ ⟨Nat.zero_le _, Nat.zero_le _⟩ (Nat.le_of_ble_eq_true rfl) d_Md_paschOf_10 hl.1 (rest := []) rfl) ?_
    refine m_iload_n C hl 2 d_Md_paschOf_13 rfl rfl ?_
    refine m_iadd C d_Md_paschOf_14 ?_
    refine m_aload_n C hl 0 d_Md_paschOf_15 rfl rfl ?_
    refine m_getr C hP kc_Md sh_83 (Nat.le_of_ble_eq_true rfl) 1 84 rfl (by decide) fk_Md_7 d_Md_paschOf_16 ?_
    refine m_iconst C d_Md_paschOf_19 ?_
    refine m_iald C hP sh_84 (Nat.le_of_ble_eq_true rfl) (Nat.le_of_ble_eq_true rfl) hM d_Md_paschOf_20 (fun x5 hM => ?_)
    refine m_irem C hM d_Md_paschOf_21 (fun x6 hM => ?_)
    refine m_if_eq C hM 31 d_Md_paschOf_22 (by decide) (fun hM => ?_) (fun hM => ?_)
    · refine m_iload_n C hl 2 d_Md_paschOf_31 rfl rfl ?_
      exact m_iretR C hr hlk hM d_Md_paschOf_32
    · refine m_iinc C hl 2 [(2, .int (iZ (v2 + 1))), (0, .ref (ad 83)), (1, .int (iZ v1))] d_Md_paschOf_25 rfl (by decide) rfl (fun ls hl => ?_)
      refine m_goto C 8 d_Md_paschOf_28 (by decide) ?_
      exact ih (v2 + 1) _ (lv_sub hl [1, 2, 0] rfl) hM
set_option maxHeartbeats 4000000 in
set_option maxRecDepth 100000 in
theorem c_Md_paschOf {l : Launch} {D : va_G} {ad : Nat → Nat} {cA : Nat → ClassId} {sd sv : Nat → Nat} {h : Hp} {N : Nat} {a1 : Int} {out : Int} (hI : Inj97 ad) (hM : M_Md_paschOf N h a1 = some out) : Met l y_Md_paschOf (.code y_Md_paschOf prog_13_method_14_code 3 (some .int) :: TT) (rmD 2) (PC D ad cA sd sv h [.ref (ad 83), .int (iZ a1)]) (QR out) 0 0 (fun _ => False) := by
  unfold M_Md_paschOf at hM
  refine entM (by decide +kernel) hI (Nat.le_of_ble_eq_true rfl) ?_
  intro p e s m args below meth c C hr hlk hP ls hl
  have C : Cx p s m args c prog_13_method_14_code 3 "FeastBookModel" D ad cA sd sv (FA ad) := C
  have hl : lv_has ls 3 [(0, .ref (ad 83)), (1, .int (iZ a1))] := hl
  refine m_aload_n C hl 0 d_Md_paschOf_0 rfl rfl ?_
  refine m_iload_n C hl 1 d_Md_paschOf_1 rfl rfl ?_
  obtain ⟨x2, e1, hM⟩ := bnd_some hM
  refine aftR (runV C hP va_S.rf kc_Md sh_83 (Nat.le_of_ble_eq_true rfl) (c_Md_fullOf hI e1) lk_Md_70 mb_Md_fullOf rfl ⟨Nat.le_of_ble_eq_true rfl, Nat.le_of_ble_eq_true rfl⟩ ⟨Nat.zero_le _, Nat.zero_le _⟩ (Nat.le_of_ble_eq_true rfl) d_Md_paschOf_2 hl.1 (rest := []) rfl) ?_
  refine m_iconst C d_Md_paschOf_5 ?_
  refine m_iadd C d_Md_paschOf_6 ?_
  refine m_istore_n C hl [(2, .int (iZ (x2 + 1))), (0, .ref (ad 83)), (1, .int (iZ a1))] d_Md_paschOf_7 rfl (by decide) rfl (fun ls hl => ?_)
  exact w_Md_paschOf_L8 N hI C hr hlk a1 h hP _ (x2 + 1) _ (lv_sub hl [1, 2, 0] rfl) hM
def y_Md_of0 : MethodName := ⟨"FeastBookModel", "of0", "(II)I"⟩
theorem d_Md_of0_0 : decode prog_13_method_8_code 0 = .ok (.aload_n 0, 1) := by decide +kernel
theorem d_Md_of0_1 : decode prog_13_method_8_code 1 = .ok (.getfield 7, 3) := by decide +kernel
theorem d_Md_of0_4 : decode prog_13_method_8_code 4 = .ok (.bipush 43, 2) := by decide +kernel
theorem d_Md_of0_6 : decode prog_13_method_8_code 6 = .ok (.bipush 7, 2) := by decide +kernel
theorem d_Md_of0_8 : decode prog_13_method_8_code 8 = .ok (.iload_n 1, 1) := by decide +kernel
theorem d_Md_of0_9 : decode prog_13_method_8_code 9 = .ok (.imul, 1) := by decide +kernel
theorem d_Md_of0_10 : decode prog_13_method_8_code 10 = .ok (.iadd, 1) := by decide +kernel
theorem d_Md_of0_11 : decode prog_13_method_8_code 11 = .ok (.iload_n 2, 1) := by decide +kernel
theorem d_Md_of0_12 : decode prog_13_method_8_code 12 = .ok (.iadd, 1) := by decide +kernel
theorem d_Md_of0_13 : decode prog_13_method_8_code 13 = .ok (.iaload, 1) := by decide +kernel
theorem d_Md_of0_14 : decode prog_13_method_8_code 14 = .ok (.ireturn, 1) := by decide +kernel
def M_Md_of0 (h : Hp) (a1 a2 : Int) : Option Int := (rdA h 84 127 ((43 + (7 * a1)) + a2)).bind (fun x1 => some x1)
set_option maxHeartbeats 4000000 in
set_option maxRecDepth 100000 in
theorem c_Md_of0 {l : Launch} {D : va_G} {ad : Nat → Nat} {cA : Nat → ClassId} {sd sv : Nat → Nat} {h : Hp} {a1 a2 : Int} {out : Int} (hI : Inj97 ad) (hM : M_Md_of0 h a1 a2 = some out) : Met l y_Md_of0 (.code y_Md_of0 prog_13_method_8_code 3 (some .int) :: TT) (rmD 0) (PC D ad cA sd sv h [.ref (ad 83), .int (iZ a1), .int (iZ a2)]) (QR out) 0 0 (fun _ => False) := by
  unfold M_Md_of0 at hM
  refine entM (by decide +kernel) hI (Nat.le_of_ble_eq_true rfl) ?_
  intro p e s m args below meth c C hr hlk hP ls hl
  have C : Cx p s m args c prog_13_method_8_code 3 "FeastBookModel" D ad cA sd sv (FA ad) := C
  have hl : lv_has ls 3 [(0, .ref (ad 83)), (1, .int (iZ a1)), (2, .int (iZ a2))] := hl
  refine m_aload_n C hl 0 d_Md_of0_0 rfl rfl ?_
  refine m_getr C hP kc_Md sh_83 (Nat.le_of_ble_eq_true rfl) 1 84 rfl (by decide) fk_Md_7 d_Md_of0_1 ?_
  refine m_bipush C d_Md_of0_4 (by decide) ?_
  refine m_bipush C d_Md_of0_6 (by decide) ?_
  refine m_iload_n C hl 1 d_Md_of0_8 rfl rfl ?_
  refine m_imul C d_Md_of0_9 ?_
  refine m_iadd C d_Md_of0_10 ?_
  refine m_iload_n C hl 2 d_Md_of0_11 rfl rfl ?_
  refine m_iadd C d_Md_of0_12 ?_
  refine m_iald C hP sh_84 (Nat.le_of_ble_eq_true rfl) (Nat.le_of_ble_eq_true rfl) hM d_Md_of0_13 (fun x1 hM => ?_)
  exact m_iretR C hr hlk hM d_Md_of0_14
def y_Md_monthLength : MethodName := ⟨"FeastBookModel", "monthLength", "(II)I"⟩
theorem d_Md_monthLength_0 : decode prog_13_method_15_code 0 = .ok (.aload_n 0, 1) := by decide +kernel
theorem d_Md_monthLength_1 : decode prog_13_method_15_code 1 = .ok (.getfield 7, 3) := by decide +kernel
theorem d_Md_monthLength_4 : decode prog_13_method_15_code 4 = .ok (.iconst 2, 1) := by decide +kernel
theorem d_Md_monthLength_5 : decode prog_13_method_15_code 5 = .ok (.iload_n 2, 1) := by decide +kernel
theorem d_Md_monthLength_6 : decode prog_13_method_15_code 6 = .ok (.iadd, 1) := by decide +kernel
theorem d_Md_monthLength_7 : decode prog_13_method_15_code 7 = .ok (.iaload, 1) := by decide +kernel
theorem d_Md_monthLength_8 : decode prog_13_method_15_code 8 = .ok (.aload_n 0, 1) := by decide +kernel
theorem d_Md_monthLength_9 : decode prog_13_method_15_code 9 = .ok (.iload_n 1, 1) := by decide +kernel
theorem d_Md_monthLength_10 : decode prog_13_method_15_code 10 = .ok (.invokevirtual 66, 3) := by decide +kernel
theorem d_Md_monthLength_13 : decode prog_13_method_15_code 13 = .ok (.ifCond .eq 18, 3) := by decide +kernel
theorem d_Md_monthLength_16 : decode prog_13_method_15_code 16 = .ok (.iload_n 2, 1) := by decide +kernel
theorem d_Md_monthLength_17 : decode prog_13_method_15_code 17 = .ok (.aload_n 0, 1) := by decide +kernel
theorem d_Md_monthLength_18 : decode prog_13_method_15_code 18 = .ok (.getfield 7, 3) := by decide +kernel
theorem d_Md_monthLength_21 : decode prog_13_method_15_code 21 = .ok (.bipush 11, 2) := by decide +kernel
theorem d_Md_monthLength_23 : decode prog_13_method_15_code 23 = .ok (.iaload, 1) := by decide +kernel
theorem d_Md_monthLength_24 : decode prog_13_method_15_code 24 = .ok (.if_icmp .ne 7, 3) := by decide +kernel
theorem d_Md_monthLength_27 : decode prog_13_method_15_code 27 = .ok (.iconst 1, 1) := by decide +kernel
theorem d_Md_monthLength_28 : decode prog_13_method_15_code 28 = .ok (.goto 4, 3) := by decide +kernel
theorem d_Md_monthLength_31 : decode prog_13_method_15_code 31 = .ok (.iconst 0, 1) := by decide +kernel
theorem d_Md_monthLength_32 : decode prog_13_method_15_code 32 = .ok (.iadd, 1) := by decide +kernel
theorem d_Md_monthLength_33 : decode prog_13_method_15_code 33 = .ok (.ireturn, 1) := by decide +kernel
def M_Md_monthLength (h : Hp) (a1 a2 : Int) : Option Int := (rdA h 84 127 (2 + a2)).bind (fun x1 => (M_Md_isLong h a1).bind (fun x3 => if eqb x3 0 then some (x1 + 0) else (rdA h 84 127 11).bind (fun x4 => if eqb a2 x4 then some (x1 + 1) else some (x1 + 0))))
set_option maxHeartbeats 4000000 in
set_option maxRecDepth 100000 in
theorem c_Md_monthLength {l : Launch} {D : va_G} {ad : Nat → Nat} {cA : Nat → ClassId} {sd sv : Nat → Nat} {h : Hp} {a1 a2 : Int} {out : Int} (hI : Inj97 ad) (hM : M_Md_monthLength h a1 a2 = some out) : Met l y_Md_monthLength (.code y_Md_monthLength prog_13_method_15_code 3 (some .int) :: TT) (rmD 1) (PC D ad cA sd sv h [.ref (ad 83), .int (iZ a1), .int (iZ a2)]) (QR out) 0 0 (fun _ => False) := by
  unfold M_Md_monthLength at hM
  refine entM (by decide +kernel) hI (Nat.le_of_ble_eq_true rfl) ?_
  intro p e s m args below meth c C hr hlk hP ls hl
  have C : Cx p s m args c prog_13_method_15_code 3 "FeastBookModel" D ad cA sd sv (FA ad) := C
  have hl : lv_has ls 3 [(0, .ref (ad 83)), (1, .int (iZ a1)), (2, .int (iZ a2))] := hl
  refine m_aload_n C hl 0 d_Md_monthLength_0 rfl rfl ?_
  refine m_getr C hP kc_Md sh_83 (Nat.le_of_ble_eq_true rfl) 1 84 rfl (by decide) fk_Md_7 d_Md_monthLength_1 ?_
  refine m_iconst C d_Md_monthLength_4 ?_
  refine m_iload_n C hl 2 d_Md_monthLength_5 rfl rfl ?_
  refine m_iadd C d_Md_monthLength_6 ?_
  refine m_iald C hP sh_84 (Nat.le_of_ble_eq_true rfl) (Nat.le_of_ble_eq_true rfl) hM d_Md_monthLength_7 (fun x1 hM => ?_)
  refine m_aload_n C hl 0 d_Md_monthLength_8 rfl rfl ?_
  refine m_iload_n C hl 1 d_Md_monthLength_9 rfl rfl ?_
  obtain ⟨x3, e2, hM⟩ := bnd_some hM
  refine aftR (runV C hP va_S.rf kc_Md sh_83 (Nat.le_of_ble_eq_true rfl) (c_Md_isLong hI e2) lk_Md_66 mb_Md_isLong rfl ⟨Nat.le_of_ble_eq_true rfl, Nat.le_of_ble_eq_true rfl⟩ ⟨Nat.zero_le _, Nat.zero_le _⟩ (Nat.le_of_ble_eq_true rfl) d_Md_monthLength_10 hl.1 (rest := [.int (iZ x1)]) rfl) ?_
  refine m_if_eq C hM 31 d_Md_monthLength_13 (by decide) (fun hM => ?_) (fun hM => ?_)
  · refine m_iconst C d_Md_monthLength_31 ?_
    refine m_iadd C d_Md_monthLength_32 ?_
    exact m_iretR C hr hlk hM d_Md_monthLength_33
  · refine m_iload_n C hl 2 d_Md_monthLength_16 rfl rfl ?_
    refine m_aload_n C hl 0 d_Md_monthLength_17 rfl rfl ?_
    refine m_getr C hP kc_Md sh_83 (Nat.le_of_ble_eq_true rfl) 1 84 rfl (by decide) fk_Md_7 d_Md_monthLength_18 ?_
    refine m_bipush C d_Md_monthLength_21 (by decide) ?_
    refine m_iald C hP sh_84 (Nat.le_of_ble_eq_true rfl) (Nat.le_of_ble_eq_true rfl) hM d_Md_monthLength_23 (fun x4 hM => ?_)
    refine m_icmp_ne C hM 31 d_Md_monthLength_24 (by decide) (fun hM => ?_) (fun hM => ?_)
    · refine m_iconst C d_Md_monthLength_31 ?_
      refine m_iadd C d_Md_monthLength_32 ?_
      exact m_iretR C hr hlk hM d_Md_monthLength_33
    · refine m_iconst C d_Md_monthLength_27 ?_
      refine m_goto C 32 d_Md_monthLength_28 (by decide) ?_
      refine m_iadd C d_Md_monthLength_32 ?_
      exact m_iretR C hr hlk hM d_Md_monthLength_33
def y_Md_firstOf : MethodName := ⟨"FeastBookModel", "firstOf", "(II)I"⟩
theorem d_Md_firstOf_0 : decode prog_13_method_16_code 0 = .ok (.iconst 0, 1) := by decide +kernel
theorem d_Md_firstOf_1 : decode prog_13_method_16_code 1 = .ok (.istore_n 3, 1) := by decide +kernel
theorem d_Md_firstOf_2 : decode prog_13_method_16_code 2 = .ok (.iconst 0, 1) := by decide +kernel
theorem d_Md_firstOf_3 : decode prog_13_method_16_code 3 = .ok (.istore 4, 2) := by decide +kernel
theorem d_Md_firstOf_5 : decode prog_13_method_16_code 5 = .ok (.iload 4, 2) := by decide +kernel
theorem d_Md_firstOf_7 : decode prog_13_method_16_code 7 = .ok (.iload_n 2, 1) := by decide +kernel
theorem d_Md_firstOf_8 : decode prog_13_method_16_code 8 = .ok (.if_icmp .ge 19, 3) := by decide +kernel
theorem d_Md_firstOf_11 : decode prog_13_method_16_code 11 = .ok (.iload_n 3, 1) := by decide +kernel
theorem d_Md_firstOf_12 : decode prog_13_method_16_code 12 = .ok (.aload_n 0, 1) := by decide +kernel
theorem d_Md_firstOf_13 : decode prog_13_method_16_code 13 = .ok (.iload_n 1, 1) := by decide +kernel
theorem d_Md_firstOf_14 : decode prog_13_method_16_code 14 = .ok (.iload 4, 2) := by decide +kernel
theorem d_Md_firstOf_16 : decode prog_13_method_16_code 16 = .ok (.invokevirtual 77, 3) := by decide +kernel
theorem d_Md_firstOf_19 : decode prog_13_method_16_code 19 = .ok (.iadd, 1) := by decide +kernel
theorem d_Md_firstOf_20 : decode prog_13_method_16_code 20 = .ok (.istore_n 3, 1) := by decide +kernel
theorem d_Md_firstOf_21 : decode prog_13_method_16_code 21 = .ok (.iinc 4 1, 3) := by decide +kernel
theorem d_Md_firstOf_24 : decode prog_13_method_16_code 24 = .ok (.goto (-19), 3) := by decide +kernel
theorem d_Md_firstOf_27 : decode prog_13_method_16_code 27 = .ok (.iload_n 3, 1) := by decide +kernel
theorem d_Md_firstOf_28 : decode prog_13_method_16_code 28 = .ok (.ireturn, 1) := by decide +kernel
theorem mb_Md_monthLength : MBv R_Md y_Md_monthLength prog_13_method_15_code 3 (some .int) 2 := ⟨mT9 96 (by decide +kernel) (by decide +kernel), mTs 41 (by decide +kernel) (by decide +kernel), mT1 10 (by decide +kernel) (by decide +kernel), mT9 97 (by decide +kernel) (by decide +kernel), by decide, rfl, by decide +kernel, by decide +kernel, by decide +kernel⟩
theorem lk_Md_77 : Cond.methodLink "FeastBookModel" 77 y_Md_monthLength ∈ TT := mT9 94 (by decide +kernel) (by decide +kernel)
def Md_firstOf_L5 (N : Nat) (h : Hp) (v1 v2 : Int) : Nat → Int → Int → Option Int
  | 0, _, _ => none
  | n + 1, v3, v4 => if leb v2 v4 then some v3 else (M_Md_monthLength h v1 v4).bind (fun x2 => Md_firstOf_L5 N h v1 v2 n (v3 + x2) (v4 + 1))
def M_Md_firstOf (N : Nat) (h : Hp) (a1 a2 : Int) : Option Int := Md_firstOf_L5 N h a1 a2 N 0 0
set_option maxHeartbeats 4000000 in
set_option maxRecDepth 100000 in
theorem w_Md_firstOf_L5 {p : Program} {l : Launch} {e : Env} {s : State} {m : MethodId} {args : Array Value} {below : List Frame} {meth : Method} {c : Code} {D : va_G} {ad : Nat → Nat} {cA : Nat → ClassId} {sd sv : Nat → Nat} {out : Int} (N : Nat) (hI : Inj97 ad) (C : Cx p s m args c prog_13_method_16_code 5 "FeastBookModel" D ad cA sd sv (FA ad)) (hr : meth.sig.returnType = (some .int)) (hlk : meth.locks = false) (v1 v2 : Int) (h : Hp) (hP : va_P D clL (wl ad cA h) s.heap) : ∀ (n : Nat) (v3 v4 : Int), ∀ ls : Array Slot, lv_has ls 5 [(0, .ref (ad 83)), (1, .int (iZ v1)), (2, .int (iZ v2)), (3, .int (iZ v3)), (4, .int (iZ v4))] → Md_firstOf_L5 N h v1 v2 n v3 v4 = some out → W p l e (rmD 2) s m args below meth c s.heap [] 0 0 (MQ below (QR out) args s 0 0 (fun _ => False)) (F0 m 5 ls []) := by
  intro n
  induction n with
  | zero =>
    intro v3 v4 ls hl hM
    rw [Md_firstOf_L5] at hM
    cases hM
  | succ n ih =>
    intro v3 v4 ls hl hM
    rw [Md_firstOf_L5] at hM
    refine m_iload C hl 4 d_Md_firstOf_5 rfl ?_
    refine m_iload_n C hl 2 d_Md_firstOf_7 rfl rfl ?_
    refine m_icmp_ge C hM 27 d_Md_firstOf_8 (by decide) (fun hM => ?_) (fun hM => ?_)
    · refine m_iload_n C hl 3 d_Md_firstOf_27 rfl rfl ?_
      exact m_iretR C hr hlk hM d_Md_firstOf_28
    · refine m_iload_n C hl 3 d_Md_firstOf_11 rfl rfl ?_
      refine m_aload_n C hl 0 d_Md_firstOf_12 rfl rfl ?_
      refine m_iload_n C hl 1 d_Md_firstOf_13 rfl rfl ?_
      refine m_iload C hl 4 d_Md_firstOf_14 rfl ?_
      obtain ⟨x2, e1, hM⟩ := bnd_some hM
      refine aftR (runV C hP va_S.rf kc_Md sh_83 (Nat.le_of_ble_eq_true rfl) (c_Md_monthLength hI e1) lk_Md_77 mb_Md_monthLength rfl ⟨Nat.le_of_ble_eq_true rfl, Nat.le_of_ble_eq_true rfl⟩ ⟨Nat.zero_le _, Nat.zero_le _⟩ (Nat.le_of_ble_eq_true rfl) d_Md_firstOf_16 hl.1 (rest := [.int (iZ v3)]) rfl) ?_
      refine m_iadd C d_Md_firstOf_19 ?_
      refine m_istore_n C hl [(3, .int (iZ (v3 + x2))), (0, .ref (ad 83)), (1, .int (iZ v1)), (2, .int (iZ v2)), (4, .int (iZ v4))] d_Md_firstOf_20 rfl (by decide) rfl (fun ls hl => ?_)
      refine m_iinc C hl 4 [(4, .int (iZ (v4 + 1))), (3, .int (iZ (v3 + x2))), (0, .ref (ad 83)), (1, .int (iZ v1)), (2, .int (iZ v2))] d_Md_firstOf_21 rfl (by decide) rfl (fun ls hl => ?_)
      refine m_goto C 5 d_Md_firstOf_24 (by decide) ?_
      exact ih (v3 + x2) (v4 + 1) _ (lv_sub hl [2, 3, 4, 1, 0] rfl) hM
set_option maxHeartbeats 4000000 in
set_option maxRecDepth 100000 in
theorem c_Md_firstOf {l : Launch} {D : va_G} {ad : Nat → Nat} {cA : Nat → ClassId} {sd sv : Nat → Nat} {h : Hp} {N : Nat} {a1 a2 : Int} {out : Int} (hI : Inj97 ad) (hM : M_Md_firstOf N h a1 a2 = some out) : Met l y_Md_firstOf (.code y_Md_firstOf prog_13_method_16_code 5 (some .int) :: TT) (rmD 2) (PC D ad cA sd sv h [.ref (ad 83), .int (iZ a1), .int (iZ a2)]) (QR out) 0 0 (fun _ => False) := by
  unfold M_Md_firstOf at hM
  refine entM (by decide +kernel) hI (Nat.le_of_ble_eq_true rfl) ?_
  intro p e s m args below meth c C hr hlk hP ls hl
  have C : Cx p s m args c prog_13_method_16_code 5 "FeastBookModel" D ad cA sd sv (FA ad) := C
  have hl : lv_has ls 5 [(0, .ref (ad 83)), (1, .int (iZ a1)), (2, .int (iZ a2))] := hl
  refine m_iconst C d_Md_firstOf_0 ?_
  refine m_istore_n C hl [(3, .int (iZ 0)), (0, .ref (ad 83)), (1, .int (iZ a1)), (2, .int (iZ a2))] d_Md_firstOf_1 rfl (by decide) rfl (fun ls hl => ?_)
  refine m_iconst C d_Md_firstOf_2 ?_
  refine m_istore C hl [(4, .int (iZ 0)), (3, .int (iZ 0)), (0, .ref (ad 83)), (1, .int (iZ a1)), (2, .int (iZ a2))] d_Md_firstOf_3 (by decide) rfl (fun ls hl => ?_)
  exact w_Md_firstOf_L5 N hI C hr hlk a1 a2 h hP _ 0 0 _ (lv_sub hl [2, 3, 4, 1, 0] rfl) hM
def y_Md_toldDay : MethodName := ⟨"FeastBookModel", "toldDay", "(II)I"⟩
theorem d_Md_toldDay_0 : decode prog_13_method_27_code 0 = .ok (.aload_n 0, 1) := by decide +kernel
theorem d_Md_toldDay_1 : decode prog_13_method_27_code 1 = .ok (.iload_n 1, 1) := by decide +kernel
theorem d_Md_toldDay_2 : decode prog_13_method_27_code 2 = .ok (.iconst 1, 1) := by decide +kernel
theorem d_Md_toldDay_3 : decode prog_13_method_27_code 3 = .ok (.invokevirtual 90, 3) := by decide +kernel
theorem d_Md_toldDay_6 : decode prog_13_method_27_code 6 = .ok (.iconst 1, 1) := by decide +kernel
theorem d_Md_toldDay_7 : decode prog_13_method_27_code 7 = .ok (.if_icmp .ne 17, 3) := by decide +kernel
theorem d_Md_toldDay_10 : decode prog_13_method_27_code 10 = .ok (.aload_n 0, 1) := by decide +kernel
theorem d_Md_toldDay_11 : decode prog_13_method_27_code 11 = .ok (.getfield 87, 3) := by decide +kernel
theorem d_Md_toldDay_14 : decode prog_13_method_27_code 14 = .ok (.aload_n 0, 1) := by decide +kernel
theorem d_Md_toldDay_15 : decode prog_13_method_27_code 15 = .ok (.iload_n 1, 1) := by decide +kernel
theorem d_Md_toldDay_16 : decode prog_13_method_27_code 16 = .ok (.iconst 3, 1) := by decide +kernel
theorem d_Md_toldDay_17 : decode prog_13_method_27_code 17 = .ok (.invokevirtual 90, 3) := by decide +kernel
theorem d_Md_toldDay_20 : decode prog_13_method_27_code 20 = .ok (.iadd, 1) := by decide +kernel
theorem d_Md_toldDay_21 : decode prog_13_method_27_code 21 = .ok (.goto 21, 3) := by decide +kernel
theorem d_Md_toldDay_24 : decode prog_13_method_27_code 24 = .ok (.aload_n 0, 1) := by decide +kernel
theorem d_Md_toldDay_25 : decode prog_13_method_27_code 25 = .ok (.iload_n 2, 1) := by decide +kernel
theorem d_Md_toldDay_26 : decode prog_13_method_27_code 26 = .ok (.aload_n 0, 1) := by decide +kernel
theorem d_Md_toldDay_27 : decode prog_13_method_27_code 27 = .ok (.iload_n 1, 1) := by decide +kernel
theorem d_Md_toldDay_28 : decode prog_13_method_27_code 28 = .ok (.iconst 2, 1) := by decide +kernel
theorem d_Md_toldDay_29 : decode prog_13_method_27_code 29 = .ok (.invokevirtual 90, 3) := by decide +kernel
theorem d_Md_toldDay_32 : decode prog_13_method_27_code 32 = .ok (.invokevirtual 81, 3) := by decide +kernel
theorem d_Md_toldDay_35 : decode prog_13_method_27_code 35 = .ok (.aload_n 0, 1) := by decide +kernel
theorem d_Md_toldDay_36 : decode prog_13_method_27_code 36 = .ok (.iload_n 1, 1) := by decide +kernel
theorem d_Md_toldDay_37 : decode prog_13_method_27_code 37 = .ok (.iconst 3, 1) := by decide +kernel
theorem d_Md_toldDay_38 : decode prog_13_method_27_code 38 = .ok (.invokevirtual 90, 3) := by decide +kernel
theorem d_Md_toldDay_41 : decode prog_13_method_27_code 41 = .ok (.iadd, 1) := by decide +kernel
theorem d_Md_toldDay_42 : decode prog_13_method_27_code 42 = .ok (.istore_n 3, 1) := by decide +kernel
theorem d_Md_toldDay_43 : decode prog_13_method_27_code 43 = .ok (.iload_n 3, 1) := by decide +kernel
theorem d_Md_toldDay_44 : decode prog_13_method_27_code 44 = .ok (.iconst 0, 1) := by decide +kernel
theorem d_Md_toldDay_45 : decode prog_13_method_27_code 45 = .ok (.aload_n 0, 1) := by decide +kernel
theorem d_Md_toldDay_46 : decode prog_13_method_27_code 46 = .ok (.getfield 122, 3) := by decide +kernel
theorem d_Md_toldDay_49 : decode prog_13_method_27_code 49 = .ok (.iconst 1, 1) := by decide +kernel
theorem d_Md_toldDay_50 : decode prog_13_method_27_code 50 = .ok (.isub, 1) := by decide +kernel
theorem d_Md_toldDay_51 : decode prog_13_method_27_code 51 = .ok (.invokestatic 54, 3) := by decide +kernel
theorem d_Md_toldDay_54 : decode prog_13_method_27_code 54 = .ok (.ifCond .eq 7, 3) := by decide +kernel
theorem d_Md_toldDay_57 : decode prog_13_method_27_code 57 = .ok (.iload_n 3, 1) := by decide +kernel
theorem d_Md_toldDay_58 : decode prog_13_method_27_code 58 = .ok (.goto 4, 3) := by decide +kernel
theorem d_Md_toldDay_61 : decode prog_13_method_27_code 61 = .ok (.iconst (-1), 1) := by decide +kernel
theorem d_Md_toldDay_62 : decode prog_13_method_27_code 62 = .ok (.ireturn, 1) := by decide +kernel
theorem mb_Md_firstOf : MBv R_Md y_Md_firstOf prog_13_method_16_code 5 (some .int) 2 := ⟨mT9 92 (by decide +kernel) (by decide +kernel), mTs 40 (by decide +kernel) (by decide +kernel), mT1 10 (by decide +kernel) (by decide +kernel), mT9 93 (by decide +kernel) (by decide +kernel), by decide, rfl, by decide +kernel, by decide +kernel, by decide +kernel⟩
theorem mb_Md_of0 : MBv R_Md y_Md_of0 prog_13_method_8_code 3 (some .int) 2 := ⟨mT9 88 (by decide +kernel) (by decide +kernel), mTs 39 (by decide +kernel) (by decide +kernel), mT1 10 (by decide +kernel) (by decide +kernel), mT9 89 (by decide +kernel) (by decide +kernel), by decide, rfl, by decide +kernel, by decide +kernel, by decide +kernel⟩
theorem fk_Md_122 : Cond.fieldLink "FeastBookModel" 122 (T_Md 13).1 (T_Md 13).2.1 (T_Md 13).2.2.1 ∈ TT := mT8 109 (by decide +kernel) (by decide +kernel)
theorem fk_Md_87 : Cond.fieldLink "FeastBookModel" 87 (T_Md 15).1 (T_Md 15).2.1 (T_Md 15).2.2.1 ∈ TT := mT8 111 (by decide +kernel) (by decide +kernel)
theorem lk_Md_81 : Cond.methodLink "FeastBookModel" 81 y_Md_firstOf ∈ TT := mT9 90 (by decide +kernel) (by decide +kernel)
theorem lk_Md_90 : Cond.methodLink "FeastBookModel" 90 y_Md_of0 ∈ TT := mT9 86 (by decide +kernel) (by decide +kernel)
def M_Md_toldDay (N : Nat) (h : Hp) (a1 a2 : Int) : Option Int := (M_Md_of0 h a1 1).bind (fun x2 => lt' (fun (s0_11 : Int) => (M_Md_isIn s0_11 0 ((h 83 13) - 1)).bind (fun x13 => if eqb x13 0 then some (-1) else some s0_11)) (fun j11 => if eqb x2 1 then (M_Md_of0 h a1 3).bind (fun x21 => j11 ((h 83 15) + x21)) else (M_Md_of0 h a1 2).bind (fun x15 => (M_Md_firstOf N h a2 x15).bind (fun x17 => (M_Md_of0 h a1 3).bind (fun x19 => j11 (x17 + x19))))))
set_option maxHeartbeats 4000000 in
set_option maxRecDepth 100000 in
theorem c_Md_toldDay {l : Launch} {D : va_G} {ad : Nat → Nat} {cA : Nat → ClassId} {sd sv : Nat → Nat} {h : Hp} {N : Nat} {a1 a2 : Int} {out : Int} (hI : Inj97 ad) (hM : M_Md_toldDay N h a1 a2 = some out) : Met l y_Md_toldDay (.code y_Md_toldDay prog_13_method_27_code 4 (some .int) :: TT) (rmD 3) (PC D ad cA sd sv h [.ref (ad 83), .int (iZ a1), .int (iZ a2)]) (QR out) 0 0 (fun _ => False) := by
  unfold M_Md_toldDay at hM
  refine entM (by decide +kernel) hI (Nat.le_of_ble_eq_true rfl) ?_
  intro p e s m args below meth c C hr hlk hP ls hl
  have C : Cx p s m args c prog_13_method_27_code 4 "FeastBookModel" D ad cA sd sv (FA ad) := C
  have hl : lv_has ls 4 [(0, .ref (ad 83)), (1, .int (iZ a1)), (2, .int (iZ a2))] := hl
  refine m_aload_n C hl 0 d_Md_toldDay_0 rfl rfl ?_
  refine m_iload_n C hl 1 d_Md_toldDay_1 rfl rfl ?_
  refine m_iconst C d_Md_toldDay_2 ?_
  obtain ⟨x2, e1, hM⟩ := bnd_some hM
  refine aftR (runV C hP va_S.rf kc_Md sh_83 (Nat.le_of_ble_eq_true rfl) (c_Md_of0 hI e1) lk_Md_90 mb_Md_of0 rfl ⟨Nat.le_of_ble_eq_true rfl, Nat.le_of_ble_eq_true rfl⟩ ⟨Nat.zero_le _, Nat.zero_le _⟩ (Nat.le_of_ble_eq_true rfl) d_Md_toldDay_3 hl.1 (rest := []) rfl) ?_
  refine m_iconst C d_Md_toldDay_6 ?_
  refine lt_join hM (fun j11 ej hM => ?_)
  have hJ11 : ∀ (s0_11 : Int), j11 s0_11 = some out → ∀ ls : Array Slot, lv_has ls 4 [(0, .ref (ad 83)), (1, .int (iZ a1)), (2, .int (iZ a2))] → W p l e (rmD 3) s m args below meth c s.heap [] 0 0 (MQ below (QR out) args s 0 0 (fun _ => False)) (F0 m 42 ls [.int (iZ s0_11)]) := by
    intro s0_11 hM ls hl
    subst ej
    dsimp only at hM
    refine m_istore_n C hl [(3, .int (iZ s0_11)), (0, .ref (ad 83)), (1, .int (iZ a1)), (2, .int (iZ a2))] d_Md_toldDay_42 rfl (by decide) rfl (fun ls hl => ?_)
    refine m_iload_n C hl 0 d_Md_toldDay_43 rfl rfl ?_
    refine m_iconst C d_Md_toldDay_44 ?_
    refine m_aload_n C hl 1 d_Md_toldDay_45 rfl rfl ?_
    refine m_geti C hP kc_Md sh_83 (Nat.le_of_ble_eq_true rfl) 13 rfl (by decide) fk_Md_122 d_Md_toldDay_46 ?_
    refine m_iconst C d_Md_toldDay_49 ?_
    refine m_isub C d_Md_toldDay_50 ?_
    obtain ⟨x13, e12, hM⟩ := bnd_some hM
    refine aftR (runS C hP va_S.rf (c_Md_isIn hI e12) lk_Md_54 mb_Md_isIn rfl ⟨Nat.le_of_ble_eq_true rfl, Nat.le_of_ble_eq_true rfl⟩ ⟨Nat.zero_le _, Nat.zero_le _⟩ (Nat.le_of_ble_eq_true rfl) d_Md_toldDay_51 hl.1 (rest := []) rfl) ?_
    refine m_if_eq C hM 61 d_Md_toldDay_54 (by decide) (fun hM => ?_) (fun hM => ?_)
    · refine m_iconst C d_Md_toldDay_61 ?_
      exact m_iretR C hr hlk hM d_Md_toldDay_62
    · refine m_iload_n C hl 0 d_Md_toldDay_57 rfl rfl ?_
      refine m_goto C 62 d_Md_toldDay_58 (by decide) ?_
      exact m_iretR C hr hlk hM d_Md_toldDay_62
  refine m_icmp_ne C hM 24 d_Md_toldDay_7 (by decide) (fun hM => ?_) (fun hM => ?_)
  · refine m_aload_n C hl 0 d_Md_toldDay_24 rfl rfl ?_
    refine m_iload_n C hl 2 d_Md_toldDay_25 rfl rfl ?_
    refine m_aload_n C hl 0 d_Md_toldDay_26 rfl rfl ?_
    refine m_iload_n C hl 1 d_Md_toldDay_27 rfl rfl ?_
    refine m_iconst C d_Md_toldDay_28 ?_
    obtain ⟨x15, e14, hM⟩ := bnd_some hM
    refine aftR (runV C hP va_S.rf kc_Md sh_83 (Nat.le_of_ble_eq_true rfl) (c_Md_of0 hI e14) lk_Md_90 mb_Md_of0 rfl ⟨Nat.le_of_ble_eq_true rfl, Nat.le_of_ble_eq_true rfl⟩ ⟨Nat.zero_le _, Nat.zero_le _⟩ (Nat.le_of_ble_eq_true rfl) d_Md_toldDay_29 hl.1 (rest := [.int (iZ a2), .ref (ad 83)]) rfl) ?_
    obtain ⟨x17, e16, hM⟩ := bnd_some hM
    refine aftR (runV C hP va_S.rf kc_Md sh_83 (Nat.le_of_ble_eq_true rfl) (c_Md_firstOf hI e16) lk_Md_81 mb_Md_firstOf rfl ⟨Nat.le_of_ble_eq_true rfl, Nat.le_of_ble_eq_true rfl⟩ ⟨Nat.zero_le _, Nat.zero_le _⟩ (Nat.le_of_ble_eq_true rfl) d_Md_toldDay_32 hl.1 (rest := []) rfl) ?_
    refine m_aload_n C hl 0 d_Md_toldDay_35 rfl rfl ?_
    refine m_iload_n C hl 1 d_Md_toldDay_36 rfl rfl ?_
    refine m_iconst C d_Md_toldDay_37 ?_
    obtain ⟨x19, e18, hM⟩ := bnd_some hM
    refine aftR (runV C hP va_S.rf kc_Md sh_83 (Nat.le_of_ble_eq_true rfl) (c_Md_of0 hI e18) lk_Md_90 mb_Md_of0 rfl ⟨Nat.le_of_ble_eq_true rfl, Nat.le_of_ble_eq_true rfl⟩ ⟨Nat.zero_le _, Nat.zero_le _⟩ (Nat.le_of_ble_eq_true rfl) d_Md_toldDay_38 hl.1 (rest := [.int (iZ x17)]) rfl) ?_
    refine m_iadd C d_Md_toldDay_41 ?_
    exact hJ11 (x17 + x19) hM _ hl
  · refine m_aload_n C hl 0 d_Md_toldDay_10 rfl rfl ?_
    refine m_geti C hP kc_Md sh_83 (Nat.le_of_ble_eq_true rfl) 15 rfl (by decide) fk_Md_87 d_Md_toldDay_11 ?_
    refine m_aload_n C hl 0 d_Md_toldDay_14 rfl rfl ?_
    refine m_iload_n C hl 1 d_Md_toldDay_15 rfl rfl ?_
    refine m_iconst C d_Md_toldDay_16 ?_
    obtain ⟨x21, e20, hM⟩ := bnd_some hM
    refine aftR (runV C hP va_S.rf kc_Md sh_83 (Nat.le_of_ble_eq_true rfl) (c_Md_of0 hI e20) lk_Md_90 mb_Md_of0 rfl ⟨Nat.le_of_ble_eq_true rfl, Nat.le_of_ble_eq_true rfl⟩ ⟨Nat.zero_le _, Nat.zero_le _⟩ (Nat.le_of_ble_eq_true rfl) d_Md_toldDay_17 hl.1 (rest := [.int (iZ (h 83 15))]) rfl) ?_
    refine m_iadd C d_Md_toldDay_20 ?_
    refine m_goto C 42 d_Md_toldDay_21 (by decide) ?_
    exact hJ11 ((h 83 15) + x21) hM _ hl
def y_Md_isAhead : MethodName := ⟨"FeastBookModel", "isAhead", "(II)Z"⟩
theorem d_Md_isAhead_0 : decode prog_13_method_21_code 0 = .ok (.aload_n 0, 1) := by decide +kernel
theorem d_Md_isAhead_1 : decode prog_13_method_21_code 1 = .ok (.iload_n 1, 1) := by decide +kernel
theorem d_Md_isAhead_2 : decode prog_13_method_21_code 2 = .ok (.iconst 1, 1) := by decide +kernel
theorem d_Md_isAhead_3 : decode prog_13_method_21_code 3 = .ok (.invokevirtual 90, 3) := by decide +kernel
theorem d_Md_isAhead_6 : decode prog_13_method_21_code 6 = .ok (.aload_n 0, 1) := by decide +kernel
theorem d_Md_isAhead_7 : decode prog_13_method_21_code 7 = .ok (.iload_n 2, 1) := by decide +kernel
theorem d_Md_isAhead_8 : decode prog_13_method_21_code 8 = .ok (.iconst 1, 1) := by decide +kernel
theorem d_Md_isAhead_9 : decode prog_13_method_21_code 9 = .ok (.invokevirtual 90, 3) := by decide +kernel
theorem d_Md_isAhead_12 : decode prog_13_method_21_code 12 = .ok (.if_icmp .eq 19, 3) := by decide +kernel
theorem d_Md_isAhead_15 : decode prog_13_method_21_code 15 = .ok (.aload_n 0, 1) := by decide +kernel
theorem d_Md_isAhead_16 : decode prog_13_method_21_code 16 = .ok (.iload_n 1, 1) := by decide +kernel
theorem d_Md_isAhead_17 : decode prog_13_method_21_code 17 = .ok (.iconst 1, 1) := by decide +kernel
theorem d_Md_isAhead_18 : decode prog_13_method_21_code 18 = .ok (.invokevirtual 90, 3) := by decide +kernel
theorem d_Md_isAhead_21 : decode prog_13_method_21_code 21 = .ok (.iconst 1, 1) := by decide +kernel
theorem d_Md_isAhead_22 : decode prog_13_method_21_code 22 = .ok (.if_icmp .ne 7, 3) := by decide +kernel
theorem d_Md_isAhead_25 : decode prog_13_method_21_code 25 = .ok (.iconst 1, 1) := by decide +kernel
theorem d_Md_isAhead_26 : decode prog_13_method_21_code 26 = .ok (.goto 4, 3) := by decide +kernel
theorem d_Md_isAhead_29 : decode prog_13_method_21_code 29 = .ok (.iconst 0, 1) := by decide +kernel
theorem d_Md_isAhead_30 : decode prog_13_method_21_code 30 = .ok (.ireturn, 1) := by decide +kernel
theorem d_Md_isAhead_31 : decode prog_13_method_21_code 31 = .ok (.iload_n 1, 1) := by decide +kernel
theorem d_Md_isAhead_32 : decode prog_13_method_21_code 32 = .ok (.iload_n 2, 1) := by decide +kernel
theorem d_Md_isAhead_33 : decode prog_13_method_21_code 33 = .ok (.if_icmp .ge 7, 3) := by decide +kernel
theorem d_Md_isAhead_36 : decode prog_13_method_21_code 36 = .ok (.iconst 1, 1) := by decide +kernel
theorem d_Md_isAhead_37 : decode prog_13_method_21_code 37 = .ok (.goto 4, 3) := by decide +kernel
theorem d_Md_isAhead_40 : decode prog_13_method_21_code 40 = .ok (.iconst 0, 1) := by decide +kernel
theorem d_Md_isAhead_41 : decode prog_13_method_21_code 41 = .ok (.ireturn, 1) := by decide +kernel
def M_Md_isAhead (h : Hp) (a1 a2 : Int) : Option Int := (M_Md_of0 h a1 1).bind (fun x2 => (M_Md_of0 h a2 1).bind (fun x4 => if eqb x2 x4 then if leb a2 a1 then rtB 0 else rtB 1 else (M_Md_of0 h a1 1).bind (fun x6 => if eqb x6 1 then rtB 1 else rtB 0)))
set_option maxHeartbeats 4000000 in
set_option maxRecDepth 100000 in
theorem c_Md_isAhead {l : Launch} {D : va_G} {ad : Nat → Nat} {cA : Nat → ClassId} {sd sv : Nat → Nat} {h : Hp} {a1 a2 : Int} {out : Int} (hI : Inj97 ad) (hM : M_Md_isAhead h a1 a2 = some out) : Met l y_Md_isAhead (.code y_Md_isAhead prog_13_method_21_code 3 (some .boolean) :: TT) (rmD 1) (PC D ad cA sd sv h [.ref (ad 83), .int (iZ a1), .int (iZ a2)]) (QR out) 0 0 (fun _ => False) := by
  unfold M_Md_isAhead at hM
  refine entM (by decide +kernel) hI (Nat.le_of_ble_eq_true rfl) ?_
  intro p e s m args below meth c C hr hlk hP ls hl
  have C : Cx p s m args c prog_13_method_21_code 3 "FeastBookModel" D ad cA sd sv (FA ad) := C
  have hl : lv_has ls 3 [(0, .ref (ad 83)), (1, .int (iZ a1)), (2, .int (iZ a2))] := hl
  refine m_aload_n C hl 0 d_Md_isAhead_0 rfl rfl ?_
  refine m_iload_n C hl 1 d_Md_isAhead_1 rfl rfl ?_
  refine m_iconst C d_Md_isAhead_2 ?_
  obtain ⟨x2, e1, hM⟩ := bnd_some hM
  refine aftR (runV C hP va_S.rf kc_Md sh_83 (Nat.le_of_ble_eq_true rfl) (c_Md_of0 hI e1) lk_Md_90 mb_Md_of0 rfl ⟨Nat.le_of_ble_eq_true rfl, Nat.le_of_ble_eq_true rfl⟩ ⟨Nat.zero_le _, Nat.zero_le _⟩ (Nat.le_of_ble_eq_true rfl) d_Md_isAhead_3 hl.1 (rest := []) rfl) ?_
  refine m_aload_n C hl 0 d_Md_isAhead_6 rfl rfl ?_
  refine m_iload_n C hl 2 d_Md_isAhead_7 rfl rfl ?_
  refine m_iconst C d_Md_isAhead_8 ?_
  obtain ⟨x4, e3, hM⟩ := bnd_some hM
  refine aftR (runV C hP va_S.rf kc_Md sh_83 (Nat.le_of_ble_eq_true rfl) (c_Md_of0 hI e3) lk_Md_90 mb_Md_of0 rfl ⟨Nat.le_of_ble_eq_true rfl, Nat.le_of_ble_eq_true rfl⟩ ⟨Nat.zero_le _, Nat.zero_le _⟩ (Nat.le_of_ble_eq_true rfl) d_Md_isAhead_9 hl.1 (rest := [.int (iZ x2)]) rfl) ?_
  refine m_icmp_eq C hM 31 d_Md_isAhead_12 (by decide) (fun hM => ?_) (fun hM => ?_)
  · refine m_iload_n C hl 1 d_Md_isAhead_31 rfl rfl ?_
    refine m_iload_n C hl 2 d_Md_isAhead_32 rfl rfl ?_
    refine m_icmp_ge C hM 40 d_Md_isAhead_33 (by decide) (fun hM => ?_) (fun hM => ?_)
    · refine m_iconst C d_Md_isAhead_40 ?_
      exact m_zretR C hr hlk hM d_Md_isAhead_41
    · refine m_iconst C d_Md_isAhead_36 ?_
      refine m_goto C 41 d_Md_isAhead_37 (by decide) ?_
      exact m_zretR C hr hlk hM d_Md_isAhead_41
  · refine m_aload_n C hl 0 d_Md_isAhead_15 rfl rfl ?_
    refine m_iload_n C hl 1 d_Md_isAhead_16 rfl rfl ?_
    refine m_iconst C d_Md_isAhead_17 ?_
    obtain ⟨x6, e5, hM⟩ := bnd_some hM
    refine aftR (runV C hP va_S.rf kc_Md sh_83 (Nat.le_of_ble_eq_true rfl) (c_Md_of0 hI e5) lk_Md_90 mb_Md_of0 rfl ⟨Nat.le_of_ble_eq_true rfl, Nat.le_of_ble_eq_true rfl⟩ ⟨Nat.zero_le _, Nat.zero_le _⟩ (Nat.le_of_ble_eq_true rfl) d_Md_isAhead_18 hl.1 (rest := []) rfl) ?_
    refine m_iconst C d_Md_isAhead_21 ?_
    refine m_icmp_ne C hM 29 d_Md_isAhead_22 (by decide) (fun hM => ?_) (fun hM => ?_)
    · refine m_iconst C d_Md_isAhead_29 ?_
      exact m_zretR C hr hlk hM d_Md_isAhead_30
    · refine m_iconst C d_Md_isAhead_25 ?_
      refine m_goto C 30 d_Md_isAhead_26 (by decide) ?_
      exact m_zretR C hr hlk hM d_Md_isAhead_30
def y_Md_beats0 : MethodName := ⟨"FeastBookModel", "beats0", "(II)Z"⟩
theorem d_Md_beats0_0 : decode prog_13_method_22_code 0 = .ok (.aload_n 0, 1) := by decide +kernel
theorem d_Md_beats0_1 : decode prog_13_method_22_code 1 = .ok (.iload_n 1, 1) := by decide +kernel
theorem d_Md_beats0_2 : decode prog_13_method_22_code 2 = .ok (.iconst 0, 1) := by decide +kernel
theorem d_Md_beats0_3 : decode prog_13_method_22_code 3 = .ok (.invokevirtual 90, 3) := by decide +kernel
theorem d_Md_beats0_6 : decode prog_13_method_22_code 6 = .ok (.aload_n 0, 1) := by decide +kernel
theorem d_Md_beats0_7 : decode prog_13_method_22_code 7 = .ok (.iload_n 2, 1) := by decide +kernel
theorem d_Md_beats0_8 : decode prog_13_method_22_code 8 = .ok (.iconst 0, 1) := by decide +kernel
theorem d_Md_beats0_9 : decode prog_13_method_22_code 9 = .ok (.invokevirtual 90, 3) := by decide +kernel
theorem d_Md_beats0_12 : decode prog_13_method_22_code 12 = .ok (.if_icmp .eq 24, 3) := by decide +kernel
theorem d_Md_beats0_15 : decode prog_13_method_22_code 15 = .ok (.aload_n 0, 1) := by decide +kernel
theorem d_Md_beats0_16 : decode prog_13_method_22_code 16 = .ok (.iload_n 1, 1) := by decide +kernel
theorem d_Md_beats0_17 : decode prog_13_method_22_code 17 = .ok (.iconst 0, 1) := by decide +kernel
theorem d_Md_beats0_18 : decode prog_13_method_22_code 18 = .ok (.invokevirtual 90, 3) := by decide +kernel
theorem d_Md_beats0_21 : decode prog_13_method_22_code 21 = .ok (.aload_n 0, 1) := by decide +kernel
theorem d_Md_beats0_22 : decode prog_13_method_22_code 22 = .ok (.iload_n 2, 1) := by decide +kernel
theorem d_Md_beats0_23 : decode prog_13_method_22_code 23 = .ok (.iconst 0, 1) := by decide +kernel
theorem d_Md_beats0_24 : decode prog_13_method_22_code 24 = .ok (.invokevirtual 90, 3) := by decide +kernel
theorem d_Md_beats0_27 : decode prog_13_method_22_code 27 = .ok (.if_icmp .le 7, 3) := by decide +kernel
theorem d_Md_beats0_30 : decode prog_13_method_22_code 30 = .ok (.iconst 1, 1) := by decide +kernel
theorem d_Md_beats0_31 : decode prog_13_method_22_code 31 = .ok (.goto 4, 3) := by decide +kernel
theorem d_Md_beats0_34 : decode prog_13_method_22_code 34 = .ok (.iconst 0, 1) := by decide +kernel
theorem d_Md_beats0_35 : decode prog_13_method_22_code 35 = .ok (.ireturn, 1) := by decide +kernel
theorem d_Md_beats0_36 : decode prog_13_method_22_code 36 = .ok (.aload_n 0, 1) := by decide +kernel
theorem d_Md_beats0_37 : decode prog_13_method_22_code 37 = .ok (.iload_n 1, 1) := by decide +kernel
theorem d_Md_beats0_38 : decode prog_13_method_22_code 38 = .ok (.iload_n 2, 1) := by decide +kernel
theorem d_Md_beats0_39 : decode prog_13_method_22_code 39 = .ok (.invokevirtual 93, 3) := by decide +kernel
theorem d_Md_beats0_42 : decode prog_13_method_22_code 42 = .ok (.ireturn, 1) := by decide +kernel
theorem mb_Md_isAhead : MBv R_Md y_Md_isAhead prog_13_method_21_code 3 (some .boolean) 2 := ⟨mT9 108 (by decide +kernel) (by decide +kernel), mTs 44 (by decide +kernel) (by decide +kernel), mT1 10 (by decide +kernel) (by decide +kernel), mT9 109 (by decide +kernel) (by decide +kernel), by decide, rfl, by decide +kernel, by decide +kernel, by decide +kernel⟩
theorem lk_Md_93 : Cond.methodLink "FeastBookModel" 93 y_Md_isAhead ∈ TT := mT9 106 (by decide +kernel) (by decide +kernel)
def M_Md_beats0 (h : Hp) (a1 a2 : Int) : Option Int := (M_Md_of0 h a1 0).bind (fun x2 => (M_Md_of0 h a2 0).bind (fun x4 => if eqb x2 x4 then (M_Md_isAhead h a1 a2).bind (fun x6 => rtB x6) else (M_Md_of0 h a1 0).bind (fun x8 => (M_Md_of0 h a2 0).bind (fun x10 => if leb x8 x10 then rtB 0 else rtB 1))))
set_option maxHeartbeats 4000000 in
set_option maxRecDepth 100000 in
theorem c_Md_beats0 {l : Launch} {D : va_G} {ad : Nat → Nat} {cA : Nat → ClassId} {sd sv : Nat → Nat} {h : Hp} {a1 a2 : Int} {out : Int} (hI : Inj97 ad) (hM : M_Md_beats0 h a1 a2 = some out) : Met l y_Md_beats0 (.code y_Md_beats0 prog_13_method_22_code 3 (some .boolean) :: TT) (rmD 2) (PC D ad cA sd sv h [.ref (ad 83), .int (iZ a1), .int (iZ a2)]) (QR out) 0 0 (fun _ => False) := by
  unfold M_Md_beats0 at hM
  refine entM (by decide +kernel) hI (Nat.le_of_ble_eq_true rfl) ?_
  intro p e s m args below meth c C hr hlk hP ls hl
  have C : Cx p s m args c prog_13_method_22_code 3 "FeastBookModel" D ad cA sd sv (FA ad) := C
  have hl : lv_has ls 3 [(0, .ref (ad 83)), (1, .int (iZ a1)), (2, .int (iZ a2))] := hl
  refine m_aload_n C hl 0 d_Md_beats0_0 rfl rfl ?_
  refine m_iload_n C hl 1 d_Md_beats0_1 rfl rfl ?_
  refine m_iconst C d_Md_beats0_2 ?_
  obtain ⟨x2, e1, hM⟩ := bnd_some hM
  refine aftR (runV C hP va_S.rf kc_Md sh_83 (Nat.le_of_ble_eq_true rfl) (c_Md_of0 hI e1) lk_Md_90 mb_Md_of0 rfl ⟨Nat.le_of_ble_eq_true rfl, Nat.le_of_ble_eq_true rfl⟩ ⟨Nat.zero_le _, Nat.zero_le _⟩ (Nat.le_of_ble_eq_true rfl) d_Md_beats0_3 hl.1 (rest := []) rfl) ?_
  refine m_aload_n C hl 0 d_Md_beats0_6 rfl rfl ?_
  refine m_iload_n C hl 2 d_Md_beats0_7 rfl rfl ?_
  refine m_iconst C d_Md_beats0_8 ?_
  obtain ⟨x4, e3, hM⟩ := bnd_some hM
  refine aftR (runV C hP va_S.rf kc_Md sh_83 (Nat.le_of_ble_eq_true rfl) (c_Md_of0 hI e3) lk_Md_90 mb_Md_of0 rfl ⟨Nat.le_of_ble_eq_true rfl, Nat.le_of_ble_eq_true rfl⟩ ⟨Nat.zero_le _, Nat.zero_le _⟩ (Nat.le_of_ble_eq_true rfl) d_Md_beats0_9 hl.1 (rest := [.int (iZ x2)]) rfl) ?_
  refine m_icmp_eq C hM 36 d_Md_beats0_12 (by decide) (fun hM => ?_) (fun hM => ?_)
  · refine m_aload_n C hl 0 d_Md_beats0_36 rfl rfl ?_
    refine m_iload_n C hl 1 d_Md_beats0_37 rfl rfl ?_
    refine m_iload_n C hl 2 d_Md_beats0_38 rfl rfl ?_
    obtain ⟨x6, e5, hM⟩ := bnd_some hM
    refine aftR (runV C hP va_S.rf kc_Md sh_83 (Nat.le_of_ble_eq_true rfl) (c_Md_isAhead hI e5) lk_Md_93 mb_Md_isAhead rfl ⟨Nat.le_of_ble_eq_true rfl, Nat.le_of_ble_eq_true rfl⟩ ⟨Nat.zero_le _, Nat.zero_le _⟩ (Nat.le_of_ble_eq_true rfl) d_Md_beats0_39 hl.1 (rest := []) rfl) ?_
    exact m_zretR C hr hlk hM d_Md_beats0_42
  · refine m_aload_n C hl 0 d_Md_beats0_15 rfl rfl ?_
    refine m_iload_n C hl 1 d_Md_beats0_16 rfl rfl ?_
    refine m_iconst C d_Md_beats0_17 ?_
    obtain ⟨x8, e7, hM⟩ := bnd_some hM
    refine aftR (runV C hP va_S.rf kc_Md sh_83 (Nat.le_of_ble_eq_true rfl) (c_Md_of0 hI e7) lk_Md_90 mb_Md_of0 rfl ⟨Nat.le_of_ble_eq_true rfl, Nat.le_of_ble_eq_true rfl⟩ ⟨Nat.zero_le _, Nat.zero_le _⟩ (Nat.le_of_ble_eq_true rfl) d_Md_beats0_18 hl.1 (rest := []) rfl) ?_
    refine m_aload_n C hl 0 d_Md_beats0_21 rfl rfl ?_
    refine m_iload_n C hl 2 d_Md_beats0_22 rfl rfl ?_
    refine m_iconst C d_Md_beats0_23 ?_
    obtain ⟨x10, e9, hM⟩ := bnd_some hM
    refine aftR (runV C hP va_S.rf kc_Md sh_83 (Nat.le_of_ble_eq_true rfl) (c_Md_of0 hI e9) lk_Md_90 mb_Md_of0 rfl ⟨Nat.le_of_ble_eq_true rfl, Nat.le_of_ble_eq_true rfl⟩ ⟨Nat.zero_le _, Nat.zero_le _⟩ (Nat.le_of_ble_eq_true rfl) d_Md_beats0_24 hl.1 (rest := [.int (iZ x8)]) rfl) ?_
    refine m_icmp_le C hM 34 d_Md_beats0_27 (by decide) (fun hM => ?_) (fun hM => ?_)
    · refine m_iconst C d_Md_beats0_34 ?_
      exact m_zretR C hr hlk hM d_Md_beats0_35
    · refine m_iconst C d_Md_beats0_30 ?_
      refine m_goto C 35 d_Md_beats0_31 (by decide) ?_
      exact m_zretR C hr hlk hM d_Md_beats0_35
def y_Md_laysRow : MethodName := ⟨"FeastBookModel", "laysRow", "()V"⟩
theorem d_Md_laysRow_0 : decode prog_13_method_23_code 0 = .ok (.iconst 0, 1) := by decide +kernel
theorem d_Md_laysRow_1 : decode prog_13_method_23_code 1 = .ok (.istore_n 1, 1) := by decide +kernel
theorem d_Md_laysRow_2 : decode prog_13_method_23_code 2 = .ok (.iload_n 1, 1) := by decide +kernel
theorem d_Md_laysRow_3 : decode prog_13_method_23_code 3 = .ok (.aload_n 0, 1) := by decide +kernel
theorem d_Md_laysRow_4 : decode prog_13_method_23_code 4 = .ok (.getfield 7, 3) := by decide +kernel
theorem d_Md_laysRow_7 : decode prog_13_method_23_code 7 = .ok (.bipush 42, 2) := by decide +kernel
theorem d_Md_laysRow_9 : decode prog_13_method_23_code 9 = .ok (.iaload, 1) := by decide +kernel
theorem d_Md_laysRow_10 : decode prog_13_method_23_code 10 = .ok (.if_icmp .ge 58, 3) := by decide +kernel
theorem d_Md_laysRow_13 : decode prog_13_method_23_code 13 = .ok (.iload_n 1, 1) := by decide +kernel
theorem d_Md_laysRow_14 : decode prog_13_method_23_code 14 = .ok (.istore_n 2, 1) := by decide +kernel
theorem d_Md_laysRow_15 : decode prog_13_method_23_code 15 = .ok (.iload_n 2, 1) := by decide +kernel
theorem d_Md_laysRow_16 : decode prog_13_method_23_code 16 = .ok (.ifCond .le 39, 3) := by decide +kernel
theorem d_Md_laysRow_19 : decode prog_13_method_23_code 19 = .ok (.aload_n 0, 1) := by decide +kernel
theorem d_Md_laysRow_20 : decode prog_13_method_23_code 20 = .ok (.iload_n 1, 1) := by decide +kernel
theorem d_Md_laysRow_21 : decode prog_13_method_23_code 21 = .ok (.aload_n 0, 1) := by decide +kernel
theorem d_Md_laysRow_22 : decode prog_13_method_23_code 22 = .ok (.getfield 44, 3) := by decide +kernel
theorem d_Md_laysRow_25 : decode prog_13_method_23_code 25 = .ok (.iload_n 2, 1) := by decide +kernel
theorem d_Md_laysRow_26 : decode prog_13_method_23_code 26 = .ok (.iconst 1, 1) := by decide +kernel
theorem d_Md_laysRow_27 : decode prog_13_method_23_code 27 = .ok (.isub, 1) := by decide +kernel
theorem d_Md_laysRow_28 : decode prog_13_method_23_code 28 = .ok (.iaload, 1) := by decide +kernel
theorem d_Md_laysRow_29 : decode prog_13_method_23_code 29 = .ok (.invokevirtual 97, 3) := by decide +kernel
theorem d_Md_laysRow_32 : decode prog_13_method_23_code 32 = .ok (.ifCond .eq 23, 3) := by decide +kernel
theorem d_Md_laysRow_35 : decode prog_13_method_23_code 35 = .ok (.aload_n 0, 1) := by decide +kernel
theorem d_Md_laysRow_36 : decode prog_13_method_23_code 36 = .ok (.getfield 44, 3) := by decide +kernel
theorem d_Md_laysRow_39 : decode prog_13_method_23_code 39 = .ok (.iload_n 2, 1) := by decide +kernel
theorem d_Md_laysRow_40 : decode prog_13_method_23_code 40 = .ok (.aload_n 0, 1) := by decide +kernel
theorem d_Md_laysRow_41 : decode prog_13_method_23_code 41 = .ok (.getfield 44, 3) := by decide +kernel
theorem d_Md_laysRow_44 : decode prog_13_method_23_code 44 = .ok (.iload_n 2, 1) := by decide +kernel
theorem d_Md_laysRow_45 : decode prog_13_method_23_code 45 = .ok (.iconst 1, 1) := by decide +kernel
theorem d_Md_laysRow_46 : decode prog_13_method_23_code 46 = .ok (.isub, 1) := by decide +kernel
theorem d_Md_laysRow_47 : decode prog_13_method_23_code 47 = .ok (.iaload, 1) := by decide +kernel
theorem d_Md_laysRow_48 : decode prog_13_method_23_code 48 = .ok (.iastore, 1) := by decide +kernel
theorem d_Md_laysRow_49 : decode prog_13_method_23_code 49 = .ok (.iinc 2 (-1), 3) := by decide +kernel
theorem d_Md_laysRow_52 : decode prog_13_method_23_code 52 = .ok (.goto (-37), 3) := by decide +kernel
theorem d_Md_laysRow_55 : decode prog_13_method_23_code 55 = .ok (.aload_n 0, 1) := by decide +kernel
theorem d_Md_laysRow_56 : decode prog_13_method_23_code 56 = .ok (.getfield 44, 3) := by decide +kernel
theorem d_Md_laysRow_59 : decode prog_13_method_23_code 59 = .ok (.iload_n 2, 1) := by decide +kernel
theorem d_Md_laysRow_60 : decode prog_13_method_23_code 60 = .ok (.iload_n 1, 1) := by decide +kernel
theorem d_Md_laysRow_61 : decode prog_13_method_23_code 61 = .ok (.iastore, 1) := by decide +kernel
theorem d_Md_laysRow_62 : decode prog_13_method_23_code 62 = .ok (.iinc 1 1, 3) := by decide +kernel
theorem d_Md_laysRow_65 : decode prog_13_method_23_code 65 = .ok (.goto (-63), 3) := by decide +kernel
theorem d_Md_laysRow_68 : decode prog_13_method_23_code 68 = .ok (.return_, 1) := by decide +kernel
theorem mb_Md_beats0 : MBv R_Md y_Md_beats0 prog_13_method_22_code 3 (some .boolean) 2 := ⟨mT9 104 (by decide +kernel) (by decide +kernel), mTs 43 (by decide +kernel) (by decide +kernel), mT1 10 (by decide +kernel) (by decide +kernel), mT9 105 (by decide +kernel) (by decide +kernel), by decide, rfl, by decide +kernel, by decide +kernel, by decide +kernel⟩
theorem fk_Md_44 : Cond.fieldLink "FeastBookModel" 44 (T_Md 21).1 (T_Md 21).2.1 (T_Md 21).2.2.1 ∈ TT := mT8 117 (by decide +kernel) (by decide +kernel)
theorem lk_Md_97 : Cond.methodLink "FeastBookModel" 97 y_Md_beats0 ∈ TT := mT9 102 (by decide +kernel) (by decide +kernel)
def Md_laysRow_L15 (N : Nat) (v1 : Int) (k : Int → Hp → Option Hp) : Nat → Int → Hp → Option Hp
  | 0, _, _ => none
  | n + 1, v2, h => if leb v2 0 then k v2 h else (rdA h 94 12 (v2 - 1)).bind (fun x2 => (M_Md_beats0 h v1 x2).bind (fun x4 => if eqb x4 0 then k v2 h else (rdA h 94 12 (v2 - 1)).bind (fun x5 => (wrA h 94 12 v2 x5).bind (fun h6 => Md_laysRow_L15 N v1 k n (v2 + (-1)) h6))))
def Md_laysRow_L2 (N : Nat) : Nat → Int → Hp → Option Hp
  | 0, _, _ => none
  | n + 1, v1, h => (rdA h 84 127 42).bind (fun x1 => if leb x1 v1 then some h else Md_laysRow_L15 N v1 (fun v2_7 h_7 => (wrA h_7 94 12 v2_7 v1).bind (fun h8 => Md_laysRow_L2 N n (v1 + 1) h8)) N v1 h)
def M_Md_laysRow (N : Nat) (h : Hp) : Option Hp := Md_laysRow_L2 N N 0 h
set_option maxHeartbeats 4000000 in
set_option maxRecDepth 100000 in
theorem w_Md_laysRow_L15 {p : Program} {l : Launch} {e : Env} {s : State} {m : MethodId} {args : Array Value} {below : List Frame} {meth : Method} {c : Code} {D : va_G} {ad : Nat → Nat} {cA : Nat → ClassId} {sd sv : Nat → Nat} {out : Hp} (N : Nat) (hI : Inj97 ad) (C : Cx p s m args c prog_13_method_23_code 3 "FeastBookModel" D ad cA sd sv (FA ad)) (hr : meth.sig.returnType = none) (hlk : meth.locks = false) (v1 : Int) (k : Int → Hp → Option Hp) (kW : ∀ (v2 : Int) (h : Hp), k v2 h = some out → ∀ (H : Heap) (locs : List Loc), Wd s D ad cA (FA ad) h H locs → ∀ ls : Array Slot, lv_has ls 3 [(0, .ref (ad 83)), (1, .int (iZ v1)), (2, .int (iZ v2))] → W p l e (rmD 3) s m args below meth c H locs 0 0 (MQ below (QV D ad cA out) args s 0 0 (FA ad)) (F0 m 55 ls [])) : ∀ (n : Nat) (v2 : Int) (h : Hp) (H : Heap) (locs : List Loc), Wd s D ad cA (FA ad) h H locs → ∀ ls : Array Slot, lv_has ls 3 [(0, .ref (ad 83)), (1, .int (iZ v1)), (2, .int (iZ v2))] → Md_laysRow_L15 N v1 k n v2 h = some out → W p l e (rmD 3) s m args below meth c H locs 0 0 (MQ below (QV D ad cA out) args s 0 0 (FA ad)) (F0 m 15 ls []) := by
  intro n
  induction n with
  | zero =>
    intro v2 h H locs w ls hl hM
    rw [Md_laysRow_L15] at hM
    cases hM
  | succ n ih =>
    intro v2 h H locs w ls hl hM
    rw [Md_laysRow_L15] at hM
    refine m_iload_n C hl 2 d_Md_laysRow_15 rfl rfl ?_
    refine m_if_le C hM 55 d_Md_laysRow_16 (by decide) (fun hM => ?_) (fun hM => ?_)
    · exact kW v2 h hM _ _ w _ hl
    · refine m_aload_n C hl 0 d_Md_laysRow_19 rfl rfl ?_
      refine m_iload_n C hl 1 d_Md_laysRow_20 rfl rfl ?_
      refine m_aload_n C hl 0 d_Md_laysRow_21 rfl rfl ?_
      refine m_getr C w.1 kc_Md sh_83 (Nat.le_of_ble_eq_true rfl) 21 94 rfl (by decide) fk_Md_44 d_Md_laysRow_22 ?_
      refine m_iload_n C hl 2 d_Md_laysRow_25 rfl rfl ?_
      refine m_iconst C d_Md_laysRow_26 ?_
      refine m_isub C d_Md_laysRow_27 ?_
      refine m_iald C w.1 sh_94 (Nat.le_of_ble_eq_true rfl) (Nat.le_of_ble_eq_true rfl) hM d_Md_laysRow_28 (fun x2 hM => ?_)
      obtain ⟨x4, e3, hM⟩ := bnd_some hM
      refine aftR (runV C w.1 w.2 kc_Md sh_83 (Nat.le_of_ble_eq_true rfl) (c_Md_beats0 hI e3) lk_Md_97 mb_Md_beats0 rfl ⟨Nat.le_of_ble_eq_true rfl, Nat.le_of_ble_eq_true rfl⟩ ⟨Nat.zero_le _, Nat.zero_le _⟩ (Nat.le_of_ble_eq_true rfl) d_Md_laysRow_29 hl.1 (rest := []) rfl) ?_
      refine m_if_eq C hM 55 d_Md_laysRow_32 (by decide) (fun hM => ?_) (fun hM => ?_)
      · exact kW v2 h hM _ _ w _ hl
      · refine m_aload_n C hl 0 d_Md_laysRow_35 rfl rfl ?_
        refine m_getr C w.1 kc_Md sh_83 (Nat.le_of_ble_eq_true rfl) 21 94 rfl (by decide) fk_Md_44 d_Md_laysRow_36 ?_
        refine m_iload_n C hl 2 d_Md_laysRow_39 rfl rfl ?_
        refine m_aload_n C hl 0 d_Md_laysRow_40 rfl rfl ?_
        refine m_getr C w.1 kc_Md sh_83 (Nat.le_of_ble_eq_true rfl) 21 94 rfl (by decide) fk_Md_44 d_Md_laysRow_41 ?_
        refine m_iload_n C hl 2 d_Md_laysRow_44 rfl rfl ?_
        refine m_iconst C d_Md_laysRow_45 ?_
        refine m_isub C d_Md_laysRow_46 ?_
        refine m_iald C w.1 sh_94 (Nat.le_of_ble_eq_true rfl) (Nat.le_of_ble_eq_true rfl) hM d_Md_laysRow_47 (fun x5 hM => ?_)
        refine m_iast C w sh_94 (Nat.le_of_ble_eq_true rfl) (Nat.le_of_ble_eq_true rfl) hM d_Md_laysRow_48 (fun h6 H locs w hM => ?_)
        refine m_iinc C hl 2 [(2, .int (iZ (v2 + (-1)))), (0, .ref (ad 83)), (1, .int (iZ v1))] d_Md_laysRow_49 rfl (by decide) rfl (fun ls hl => ?_)
        refine m_goto C 15 d_Md_laysRow_52 (by decide) ?_
        exact ih (v2 + (-1)) h6 _ _ w _ (lv_sub hl [1, 2, 0] rfl) hM
set_option maxHeartbeats 4000000 in
set_option maxRecDepth 100000 in
theorem w_Md_laysRow_L2 {p : Program} {l : Launch} {e : Env} {s : State} {m : MethodId} {args : Array Value} {below : List Frame} {meth : Method} {c : Code} {D : va_G} {ad : Nat → Nat} {cA : Nat → ClassId} {sd sv : Nat → Nat} {out : Hp} (N : Nat) (hI : Inj97 ad) (C : Cx p s m args c prog_13_method_23_code 3 "FeastBookModel" D ad cA sd sv (FA ad)) (hr : meth.sig.returnType = none) (hlk : meth.locks = false) : ∀ (n : Nat) (v1 : Int) (h : Hp) (H : Heap) (locs : List Loc), Wd s D ad cA (FA ad) h H locs → ∀ ls : Array Slot, lv_has ls 3 [(0, .ref (ad 83)), (1, .int (iZ v1))] → Md_laysRow_L2 N n v1 h = some out → W p l e (rmD 3) s m args below meth c H locs 0 0 (MQ below (QV D ad cA out) args s 0 0 (FA ad)) (F0 m 2 ls []) := by
  intro n
  induction n with
  | zero =>
    intro v1 h H locs w ls hl hM
    rw [Md_laysRow_L2] at hM
    cases hM
  | succ n ih =>
    intro v1 h H locs w ls hl hM
    rw [Md_laysRow_L2] at hM
    refine m_iload_n C hl 1 d_Md_laysRow_2 rfl rfl ?_
    refine m_aload_n C hl 0 d_Md_laysRow_3 rfl rfl ?_
    refine m_getr C w.1 kc_Md sh_83 (Nat.le_of_ble_eq_true rfl) 1 84 rfl (by decide) fk_Md_7 d_Md_laysRow_4 ?_
    refine m_bipush C d_Md_laysRow_7 (by decide) ?_
    refine m_iald C w.1 sh_84 (Nat.le_of_ble_eq_true rfl) (Nat.le_of_ble_eq_true rfl) hM d_Md_laysRow_9 (fun x1 hM => ?_)
    refine m_icmp_ge C hM 68 d_Md_laysRow_10 (by decide) (fun hM => ?_) (fun hM => ?_)
    · exact m_vretW C w hr hlk hM d_Md_laysRow_68
    · refine m_iload_n C hl 1 d_Md_laysRow_13 rfl rfl ?_
      refine m_istore_n C hl [(2, .int (iZ v1)), (0, .ref (ad 83)), (1, .int (iZ v1))] d_Md_laysRow_14 rfl (by decide) rfl (fun ls hl => ?_)
      refine w_Md_laysRow_L15 N hI C hr hlk v1 _ (fun v2_7 h_7 hM H locs w ls hl => ?_) _ v1 h _ _ w _ (lv_sub hl [1, 2, 0] rfl) hM
      refine m_aload_n C hl 0 d_Md_laysRow_55 rfl rfl ?_
      refine m_getr C w.1 kc_Md sh_83 (Nat.le_of_ble_eq_true rfl) 21 94 rfl (by decide) fk_Md_44 d_Md_laysRow_56 ?_
      refine m_iload_n C hl 2 d_Md_laysRow_59 rfl rfl ?_
      refine m_iload_n C hl 1 d_Md_laysRow_60 rfl rfl ?_
      refine m_iast C w sh_94 (Nat.le_of_ble_eq_true rfl) (Nat.le_of_ble_eq_true rfl) hM d_Md_laysRow_61 (fun h8 H locs w hM => ?_)
      refine m_iinc C hl 1 [(1, .int (iZ (v1 + 1))), (0, .ref (ad 83)), (2, .int (iZ v2_7))] d_Md_laysRow_62 rfl (by decide) rfl (fun ls hl => ?_)
      refine m_goto C 2 d_Md_laysRow_65 (by decide) ?_
      exact ih (v1 + 1) h8 _ _ w _ (lv_sub hl [1, 0] rfl) hM
set_option maxHeartbeats 4000000 in
set_option maxRecDepth 100000 in
theorem c_Md_laysRow {l : Launch} {D : va_G} {ad : Nat → Nat} {cA : Nat → ClassId} {sd sv : Nat → Nat} {h : Hp} {N : Nat} {out : Hp} (hI : Inj97 ad) (hM : M_Md_laysRow N h = some out) : Met l y_Md_laysRow (.code y_Md_laysRow prog_13_method_23_code 3 none :: TT) (rmD 3) (PC D ad cA sd sv h [.ref (ad 83)]) (QV D ad cA out) 0 0 (FA ad) := by
  unfold M_Md_laysRow at hM
  refine entM (by decide +kernel) hI (Nat.le_of_ble_eq_true rfl) ?_
  intro p e s m args below meth c C hr hlk hP ls hl
  have C : Cx p s m args c prog_13_method_23_code 3 "FeastBookModel" D ad cA sd sv (FA ad) := C
  have hl : lv_has ls 3 [(0, .ref (ad 83))] := hl
  have w : Wd s D ad cA (FA ad) h s.heap [] := ⟨hP, va_S.rf⟩
  refine m_iconst C d_Md_laysRow_0 ?_
  refine m_istore_n C hl [(1, .int (iZ 0)), (0, .ref (ad 83))] d_Md_laysRow_1 rfl (by decide) rfl (fun ls hl => ?_)
  exact w_Md_laysRow_L2 N hI C hr hlk  _ 0 h _ _ w _ (lv_sub hl [1, 0] rfl) hM
def y_Md_isSunday : MethodName := ⟨"FeastBookModel", "isSunday", "(I)Z"⟩
theorem d_Md_isSunday_0 : decode prog_13_method_18_code 0 = .ok (.aload_n 0, 1) := by decide +kernel
theorem d_Md_isSunday_1 : decode prog_13_method_18_code 1 = .ok (.getfield 84, 3) := by decide +kernel
theorem d_Md_isSunday_4 : decode prog_13_method_18_code 4 = .ok (.iload_n 1, 1) := by decide +kernel
theorem d_Md_isSunday_5 : decode prog_13_method_18_code 5 = .ok (.iadd, 1) := by decide +kernel
theorem d_Md_isSunday_6 : decode prog_13_method_18_code 6 = .ok (.aload_n 0, 1) := by decide +kernel
theorem d_Md_isSunday_7 : decode prog_13_method_18_code 7 = .ok (.getfield 7, 3) := by decide +kernel
theorem d_Md_isSunday_10 : decode prog_13_method_18_code 10 = .ok (.iconst 0, 1) := by decide +kernel
theorem d_Md_isSunday_11 : decode prog_13_method_18_code 11 = .ok (.iaload, 1) := by decide +kernel
theorem d_Md_isSunday_12 : decode prog_13_method_18_code 12 = .ok (.irem, 1) := by decide +kernel
theorem d_Md_isSunday_13 : decode prog_13_method_18_code 13 = .ok (.ifCond .ne 7, 3) := by decide +kernel
theorem d_Md_isSunday_16 : decode prog_13_method_18_code 16 = .ok (.iconst 1, 1) := by decide +kernel
theorem d_Md_isSunday_17 : decode prog_13_method_18_code 17 = .ok (.goto 4, 3) := by decide +kernel
theorem d_Md_isSunday_20 : decode prog_13_method_18_code 20 = .ok (.iconst 0, 1) := by decide +kernel
theorem d_Md_isSunday_21 : decode prog_13_method_18_code 21 = .ok (.ireturn, 1) := by decide +kernel
theorem fk_Md_84 : Cond.fieldLink "FeastBookModel" 84 (T_Md 14).1 (T_Md 14).2.1 (T_Md 14).2.2.1 ∈ TT := mT8 110 (by decide +kernel) (by decide +kernel)
def M_Md_isSunday (h : Hp) (a1 : Int) : Option Int := (rdA h 84 127 0).bind (fun x1 => (rmI ((h 83 14) + a1) x1).bind (fun x2 => if eqb x2 0 then rtB 1 else rtB 0))
set_option maxHeartbeats 4000000 in
set_option maxRecDepth 100000 in
theorem c_Md_isSunday {l : Launch} {D : va_G} {ad : Nat → Nat} {cA : Nat → ClassId} {sd sv : Nat → Nat} {h : Hp} {a1 : Int} {out : Int} (hI : Inj97 ad) (hM : M_Md_isSunday h a1 = some out) : Met l y_Md_isSunday (.code y_Md_isSunday prog_13_method_18_code 2 (some .boolean) :: TT) (rmD 0) (PC D ad cA sd sv h [.ref (ad 83), .int (iZ a1)]) (QR out) 0 0 (fun _ => False) := by
  unfold M_Md_isSunday at hM
  refine entM (by decide +kernel) hI (Nat.le_of_ble_eq_true rfl) ?_
  intro p e s m args below meth c C hr hlk hP ls hl
  have C : Cx p s m args c prog_13_method_18_code 2 "FeastBookModel" D ad cA sd sv (FA ad) := C
  have hl : lv_has ls 2 [(0, .ref (ad 83)), (1, .int (iZ a1))] := hl
  refine m_aload_n C hl 0 d_Md_isSunday_0 rfl rfl ?_
  refine m_geti C hP kc_Md sh_83 (Nat.le_of_ble_eq_true rfl) 14 rfl (by decide) fk_Md_84 d_Md_isSunday_1 ?_
  refine m_iload_n C hl 1 d_Md_isSunday_4 rfl rfl ?_
  refine m_iadd C d_Md_isSunday_5 ?_
  refine m_aload_n C hl 0 d_Md_isSunday_6 rfl rfl ?_
  refine m_getr C hP kc_Md sh_83 (Nat.le_of_ble_eq_true rfl) 1 84 rfl (by decide) fk_Md_7 d_Md_isSunday_7 ?_
  refine m_iconst C d_Md_isSunday_10 ?_
  refine m_iald C hP sh_84 (Nat.le_of_ble_eq_true rfl) (Nat.le_of_ble_eq_true rfl) hM d_Md_isSunday_11 (fun x1 hM => ?_)
  refine m_irem C hM d_Md_isSunday_12 (fun x2 hM => ?_)
  refine m_if_ne C hM 20 d_Md_isSunday_13 (by decide) (fun hM => ?_) (fun hM => ?_)
  · refine m_iconst C d_Md_isSunday_20 ?_
    exact m_zretR C hr hlk hM d_Md_isSunday_21
  · refine m_iconst C d_Md_isSunday_16 ?_
    refine m_goto C 21 d_Md_isSunday_17 (by decide) ?_
    exact m_zretR C hr hlk hM d_Md_isSunday_21
def y_Md_sundayRank : MethodName := ⟨"FeastBookModel", "sundayRank", "(I)I"⟩
theorem d_Md_sundayRank_0 : decode prog_13_method_20_code 0 = .ok (.aload_n 0, 1) := by decide +kernel
theorem d_Md_sundayRank_1 : decode prog_13_method_20_code 1 = .ok (.getfield 7, 3) := by decide +kernel
theorem d_Md_sundayRank_4 : decode prog_13_method_20_code 4 = .ok (.bipush 19, 2) := by decide +kernel
theorem d_Md_sundayRank_6 : decode prog_13_method_20_code 6 = .ok (.iaload, 1) := by decide +kernel
theorem d_Md_sundayRank_7 : decode prog_13_method_20_code 7 = .ok (.istore_n 2, 1) := by decide +kernel
theorem d_Md_sundayRank_8 : decode prog_13_method_20_code 8 = .ok (.iconst 0, 1) := by decide +kernel
theorem d_Md_sundayRank_9 : decode prog_13_method_20_code 9 = .ok (.istore_n 3, 1) := by decide +kernel
theorem d_Md_sundayRank_10 : decode prog_13_method_20_code 10 = .ok (.iload_n 3, 1) := by decide +kernel
theorem d_Md_sundayRank_11 : decode prog_13_method_20_code 11 = .ok (.aload_n 0, 1) := by decide +kernel
theorem d_Md_sundayRank_12 : decode prog_13_method_20_code 12 = .ok (.getfield 7, 3) := by decide +kernel
theorem d_Md_sundayRank_15 : decode prog_13_method_20_code 15 = .ok (.bipush 20, 2) := by decide +kernel
theorem d_Md_sundayRank_17 : decode prog_13_method_20_code 17 = .ok (.iaload, 1) := by decide +kernel
theorem d_Md_sundayRank_18 : decode prog_13_method_20_code 18 = .ok (.if_icmp .ge 59, 3) := by decide +kernel
theorem d_Md_sundayRank_21 : decode prog_13_method_20_code 21 = .ok (.iload_n 1, 1) := by decide +kernel
theorem d_Md_sundayRank_22 : decode prog_13_method_20_code 22 = .ok (.aload_n 0, 1) := by decide +kernel
theorem d_Md_sundayRank_23 : decode prog_13_method_20_code 23 = .ok (.getfield 87, 3) := by decide +kernel
theorem d_Md_sundayRank_26 : decode prog_13_method_20_code 26 = .ok (.isub, 1) := by decide +kernel
theorem d_Md_sundayRank_27 : decode prog_13_method_20_code 27 = .ok (.aload_n 0, 1) := by decide +kernel
theorem d_Md_sundayRank_28 : decode prog_13_method_20_code 28 = .ok (.getfield 7, 3) := by decide +kernel
theorem d_Md_sundayRank_31 : decode prog_13_method_20_code 31 = .ok (.bipush 21, 2) := by decide +kernel
theorem d_Md_sundayRank_33 : decode prog_13_method_20_code 33 = .ok (.iconst 3, 1) := by decide +kernel
theorem d_Md_sundayRank_34 : decode prog_13_method_20_code 34 = .ok (.iload_n 3, 1) := by decide +kernel
theorem d_Md_sundayRank_35 : decode prog_13_method_20_code 35 = .ok (.imul, 1) := by decide +kernel
theorem d_Md_sundayRank_36 : decode prog_13_method_20_code 36 = .ok (.iadd, 1) := by decide +kernel
theorem d_Md_sundayRank_37 : decode prog_13_method_20_code 37 = .ok (.iaload, 1) := by decide +kernel
theorem d_Md_sundayRank_38 : decode prog_13_method_20_code 38 = .ok (.aload_n 0, 1) := by decide +kernel
theorem d_Md_sundayRank_39 : decode prog_13_method_20_code 39 = .ok (.getfield 7, 3) := by decide +kernel
theorem d_Md_sundayRank_42 : decode prog_13_method_20_code 42 = .ok (.bipush 21, 2) := by decide +kernel
theorem d_Md_sundayRank_44 : decode prog_13_method_20_code 44 = .ok (.iconst 3, 1) := by decide +kernel
theorem d_Md_sundayRank_45 : decode prog_13_method_20_code 45 = .ok (.iload_n 3, 1) := by decide +kernel
theorem d_Md_sundayRank_46 : decode prog_13_method_20_code 46 = .ok (.imul, 1) := by decide +kernel
theorem d_Md_sundayRank_47 : decode prog_13_method_20_code 47 = .ok (.iadd, 1) := by decide +kernel
theorem d_Md_sundayRank_48 : decode prog_13_method_20_code 48 = .ok (.iconst 1, 1) := by decide +kernel
theorem d_Md_sundayRank_49 : decode prog_13_method_20_code 49 = .ok (.iadd, 1) := by decide +kernel
theorem d_Md_sundayRank_50 : decode prog_13_method_20_code 50 = .ok (.iaload, 1) := by decide +kernel
theorem d_Md_sundayRank_51 : decode prog_13_method_20_code 51 = .ok (.invokestatic 54, 3) := by decide +kernel
theorem d_Md_sundayRank_54 : decode prog_13_method_20_code 54 = .ok (.ifCond .eq 17, 3) := by decide +kernel
theorem d_Md_sundayRank_57 : decode prog_13_method_20_code 57 = .ok (.aload_n 0, 1) := by decide +kernel
theorem d_Md_sundayRank_58 : decode prog_13_method_20_code 58 = .ok (.getfield 7, 3) := by decide +kernel
theorem d_Md_sundayRank_61 : decode prog_13_method_20_code 61 = .ok (.bipush 21, 2) := by decide +kernel
theorem d_Md_sundayRank_63 : decode prog_13_method_20_code 63 = .ok (.iconst 3, 1) := by decide +kernel
theorem d_Md_sundayRank_64 : decode prog_13_method_20_code 64 = .ok (.iload_n 3, 1) := by decide +kernel
theorem d_Md_sundayRank_65 : decode prog_13_method_20_code 65 = .ok (.imul, 1) := by decide +kernel
theorem d_Md_sundayRank_66 : decode prog_13_method_20_code 66 = .ok (.iadd, 1) := by decide +kernel
theorem d_Md_sundayRank_67 : decode prog_13_method_20_code 67 = .ok (.iconst 2, 1) := by decide +kernel
theorem d_Md_sundayRank_68 : decode prog_13_method_20_code 68 = .ok (.iadd, 1) := by decide +kernel
theorem d_Md_sundayRank_69 : decode prog_13_method_20_code 69 = .ok (.iaload, 1) := by decide +kernel
theorem d_Md_sundayRank_70 : decode prog_13_method_20_code 70 = .ok (.istore_n 2, 1) := by decide +kernel
theorem d_Md_sundayRank_71 : decode prog_13_method_20_code 71 = .ok (.iinc 3 1, 3) := by decide +kernel
theorem d_Md_sundayRank_74 : decode prog_13_method_20_code 74 = .ok (.goto (-64), 3) := by decide +kernel
theorem d_Md_sundayRank_77 : decode prog_13_method_20_code 77 = .ok (.iload_n 2, 1) := by decide +kernel
theorem d_Md_sundayRank_78 : decode prog_13_method_20_code 78 = .ok (.ireturn, 1) := by decide +kernel
def Md_sundayRank_L10 (N : Nat) (h : Hp) (v1 : Int) : Nat → Int → Int → Option Int
  | 0, _, _ => none
  | n + 1, v2, v3 => (rdA h 84 127 20).bind (fun x2 => if leb x2 v3 then some v2 else (rdA h 84 127 (21 + (3 * v3))).bind (fun x3 => (rdA h 84 127 ((21 + (3 * v3)) + 1)).bind (fun x4 => (M_Md_isIn (v1 - (h 83 15)) x3 x4).bind (fun x6 => if eqb x6 0 then Md_sundayRank_L10 N h v1 n v2 (v3 + 1) else (rdA h 84 127 ((21 + (3 * v3)) + 2)).bind (fun x7 => Md_sundayRank_L10 N h v1 n x7 (v3 + 1))))))
def M_Md_sundayRank (N : Nat) (h : Hp) (a1 : Int) : Option Int := (rdA h 84 127 19).bind (fun x1 => Md_sundayRank_L10 N h a1 N x1 0)
set_option maxHeartbeats 4000000 in
set_option maxRecDepth 100000 in
theorem w_Md_sundayRank_L10 {p : Program} {l : Launch} {e : Env} {s : State} {m : MethodId} {args : Array Value} {below : List Frame} {meth : Method} {c : Code} {D : va_G} {ad : Nat → Nat} {cA : Nat → ClassId} {sd sv : Nat → Nat} {out : Int} (N : Nat) (hI : Inj97 ad) (C : Cx p s m args c prog_13_method_20_code 4 "FeastBookModel" D ad cA sd sv (FA ad)) (hr : meth.sig.returnType = (some .int)) (hlk : meth.locks = false) (v1 : Int) (h : Hp) (hP : va_P D clL (wl ad cA h) s.heap) : ∀ (n : Nat) (v2 v3 : Int), ∀ ls : Array Slot, lv_has ls 4 [(0, .ref (ad 83)), (1, .int (iZ v1)), (2, .int (iZ v2)), (3, .int (iZ v3))] → Md_sundayRank_L10 N h v1 n v2 v3 = some out → W p l e (rmD 1) s m args below meth c s.heap [] 0 0 (MQ below (QR out) args s 0 0 (fun _ => False)) (F0 m 10 ls []) := by
  intro n
  induction n with
  | zero =>
    intro v2 v3 ls hl hM
    rw [Md_sundayRank_L10] at hM
    cases hM
  | succ n ih =>
    intro v2 v3 ls hl hM
    rw [Md_sundayRank_L10] at hM
    refine m_iload_n C hl 3 d_Md_sundayRank_10 rfl rfl ?_
    refine m_aload_n C hl 0 d_Md_sundayRank_11 rfl rfl ?_
    refine m_getr C hP kc_Md sh_83 (Nat.le_of_ble_eq_true rfl) 1 84 rfl (by decide) fk_Md_7 d_Md_sundayRank_12 ?_
    refine m_bipush C d_Md_sundayRank_15 (by decide) ?_
    refine m_iald C hP sh_84 (Nat.le_of_ble_eq_true rfl) (Nat.le_of_ble_eq_true rfl) hM d_Md_sundayRank_17 (fun x2 hM => ?_)
    refine m_icmp_ge C hM 77 d_Md_sundayRank_18 (by decide) (fun hM => ?_) (fun hM => ?_)
    · refine m_iload_n C hl 2 d_Md_sundayRank_77 rfl rfl ?_
      exact m_iretR C hr hlk hM d_Md_sundayRank_78
    · refine m_iload_n C hl 1 d_Md_sundayRank_21 rfl rfl ?_
      refine m_aload_n C hl 0 d_Md_sundayRank_22 rfl rfl ?_
      refine m_geti C hP kc_Md sh_83 (Nat.le_of_ble_eq_true rfl) 15 rfl (by decide) fk_Md_87 d_Md_sundayRank_23 ?_
      refine m_isub C d_Md_sundayRank_26 ?_
      refine m_aload_n C hl 0 d_Md_sundayRank_27 rfl rfl ?_
      refine m_getr C hP kc_Md sh_83 (Nat.le_of_ble_eq_true rfl) 1 84 rfl (by decide) fk_Md_7 d_Md_sundayRank_28 ?_
      refine m_bipush C d_Md_sundayRank_31 (by decide) ?_
      refine m_iconst C d_Md_sundayRank_33 ?_
      refine m_iload_n C hl 3 d_Md_sundayRank_34 rfl rfl ?_
      refine m_imul C d_Md_sundayRank_35 ?_
      refine m_iadd C d_Md_sundayRank_36 ?_
      refine m_iald C hP sh_84 (Nat.le_of_ble_eq_true rfl) (Nat.le_of_ble_eq_true rfl) hM d_Md_sundayRank_37 (fun x3 hM => ?_)
      refine m_aload_n C hl 0 d_Md_sundayRank_38 rfl rfl ?_
      refine m_getr C hP kc_Md sh_83 (Nat.le_of_ble_eq_true rfl) 1 84 rfl (by decide) fk_Md_7 d_Md_sundayRank_39 ?_
      refine m_bipush C d_Md_sundayRank_42 (by decide) ?_
      refine m_iconst C d_Md_sundayRank_44 ?_
      refine m_iload_n C hl 3 d_Md_sundayRank_45 rfl rfl ?_
      refine m_imul C d_Md_sundayRank_46 ?_
      refine m_iadd C d_Md_sundayRank_47 ?_
      refine m_iconst C d_Md_sundayRank_48 ?_
      refine m_iadd C d_Md_sundayRank_49 ?_
      refine m_iald C hP sh_84 (Nat.le_of_ble_eq_true rfl) (Nat.le_of_ble_eq_true rfl) hM d_Md_sundayRank_50 (fun x4 hM => ?_)
      obtain ⟨x6, e5, hM⟩ := bnd_some hM
      refine aftR (runS C hP va_S.rf (c_Md_isIn hI e5) lk_Md_54 mb_Md_isIn rfl ⟨Nat.le_of_ble_eq_true rfl, Nat.le_of_ble_eq_true rfl⟩ ⟨Nat.zero_le _, Nat.zero_le _⟩ (Nat.le_of_ble_eq_true rfl) d_Md_sundayRank_51 hl.1 (rest := []) rfl) ?_
      refine m_if_eq C hM 71 d_Md_sundayRank_54 (by decide) (fun hM => ?_) (fun hM => ?_)
      · refine m_iinc C hl 3 [(3, .int (iZ (v3 + 1))), (0, .ref (ad 83)), (1, .int (iZ v1)), (2, .int (iZ v2))] d_Md_sundayRank_71 rfl (by decide) rfl (fun ls hl => ?_)
        refine m_goto C 10 d_Md_sundayRank_74 (by decide) ?_
        exact ih v2 (v3 + 1) _ (lv_sub hl [1, 2, 3, 0] rfl) hM
      · refine m_aload_n C hl 0 d_Md_sundayRank_57 rfl rfl ?_
        refine m_getr C hP kc_Md sh_83 (Nat.le_of_ble_eq_true rfl) 1 84 rfl (by decide) fk_Md_7 d_Md_sundayRank_58 ?_
        refine m_bipush C d_Md_sundayRank_61 (by decide) ?_
        refine m_iconst C d_Md_sundayRank_63 ?_
        refine m_iload_n C hl 3 d_Md_sundayRank_64 rfl rfl ?_
        refine m_imul C d_Md_sundayRank_65 ?_
        refine m_iadd C d_Md_sundayRank_66 ?_
        refine m_iconst C d_Md_sundayRank_67 ?_
        refine m_iadd C d_Md_sundayRank_68 ?_
        refine m_iald C hP sh_84 (Nat.le_of_ble_eq_true rfl) (Nat.le_of_ble_eq_true rfl) hM d_Md_sundayRank_69 (fun x7 hM => ?_)
        refine m_istore_n C hl [(2, .int (iZ x7)), (0, .ref (ad 83)), (1, .int (iZ v1)), (3, .int (iZ v3))] d_Md_sundayRank_70 rfl (by decide) rfl (fun ls hl => ?_)
        refine m_iinc C hl 3 [(3, .int (iZ (v3 + 1))), (2, .int (iZ x7)), (0, .ref (ad 83)), (1, .int (iZ v1))] d_Md_sundayRank_71 rfl (by decide) rfl (fun ls hl => ?_)
        refine m_goto C 10 d_Md_sundayRank_74 (by decide) ?_
        exact ih x7 (v3 + 1) _ (lv_sub hl [2, 3, 1, 0] rfl) hM
set_option maxHeartbeats 4000000 in
set_option maxRecDepth 100000 in
theorem c_Md_sundayRank {l : Launch} {D : va_G} {ad : Nat → Nat} {cA : Nat → ClassId} {sd sv : Nat → Nat} {h : Hp} {N : Nat} {a1 : Int} {out : Int} (hI : Inj97 ad) (hM : M_Md_sundayRank N h a1 = some out) : Met l y_Md_sundayRank (.code y_Md_sundayRank prog_13_method_20_code 4 (some .int) :: TT) (rmD 1) (PC D ad cA sd sv h [.ref (ad 83), .int (iZ a1)]) (QR out) 0 0 (fun _ => False) := by
  unfold M_Md_sundayRank at hM
  refine entM (by decide +kernel) hI (Nat.le_of_ble_eq_true rfl) ?_
  intro p e s m args below meth c C hr hlk hP ls hl
  have C : Cx p s m args c prog_13_method_20_code 4 "FeastBookModel" D ad cA sd sv (FA ad) := C
  have hl : lv_has ls 4 [(0, .ref (ad 83)), (1, .int (iZ a1))] := hl
  refine m_aload_n C hl 0 d_Md_sundayRank_0 rfl rfl ?_
  refine m_getr C hP kc_Md sh_83 (Nat.le_of_ble_eq_true rfl) 1 84 rfl (by decide) fk_Md_7 d_Md_sundayRank_1 ?_
  refine m_bipush C d_Md_sundayRank_4 (by decide) ?_
  refine m_iald C hP sh_84 (Nat.le_of_ble_eq_true rfl) (Nat.le_of_ble_eq_true rfl) hM d_Md_sundayRank_6 (fun x1 hM => ?_)
  refine m_istore_n C hl [(2, .int (iZ x1)), (0, .ref (ad 83)), (1, .int (iZ a1))] d_Md_sundayRank_7 rfl (by decide) rfl (fun ls hl => ?_)
  refine m_iconst C d_Md_sundayRank_8 ?_
  refine m_istore_n C hl [(3, .int (iZ 0)), (2, .int (iZ x1)), (0, .ref (ad 83)), (1, .int (iZ a1))] d_Md_sundayRank_9 rfl (by decide) rfl (fun ls hl => ?_)
  exact w_Md_sundayRank_L10 N hI C hr hlk a1 h hP _ x1 0 _ (lv_sub hl [2, 3, 1, 0] rfl) hM
def y_Md_claims : MethodName := ⟨"FeastBookModel", "claims", "(III)V"⟩
theorem d_Md_claims_0 : decode prog_13_method_25_code 0 = .ok (.iload_n 1, 1) := by decide +kernel
theorem d_Md_claims_1 : decode prog_13_method_25_code 1 = .ok (.aload_n 0, 1) := by decide +kernel
theorem d_Md_claims_2 : decode prog_13_method_25_code 2 = .ok (.getfield 103, 3) := by decide +kernel
theorem d_Md_claims_5 : decode prog_13_method_25_code 5 = .ok (.if_icmp .eq 19, 3) := by decide +kernel
theorem d_Md_claims_8 : decode prog_13_method_25_code 8 = .ok (.iload_n 1, 1) := by decide +kernel
theorem d_Md_claims_9 : decode prog_13_method_25_code 9 = .ok (.aload_n 0, 1) := by decide +kernel
theorem d_Md_claims_10 : decode prog_13_method_25_code 10 = .ok (.getfield 103, 3) := by decide +kernel
theorem d_Md_claims_13 : decode prog_13_method_25_code 13 = .ok (.if_icmp .le 7, 3) := by decide +kernel
theorem d_Md_claims_16 : decode prog_13_method_25_code 16 = .ok (.iconst 1, 1) := by decide +kernel
theorem d_Md_claims_17 : decode prog_13_method_25_code 17 = .ok (.goto 56, 3) := by decide +kernel
theorem d_Md_claims_20 : decode prog_13_method_25_code 20 = .ok (.iconst 0, 1) := by decide +kernel
theorem d_Md_claims_21 : decode prog_13_method_25_code 21 = .ok (.goto 52, 3) := by decide +kernel
theorem d_Md_claims_24 : decode prog_13_method_25_code 24 = .ok (.iload_n 2, 1) := by decide +kernel
theorem d_Md_claims_25 : decode prog_13_method_25_code 25 = .ok (.aload_n 0, 1) := by decide +kernel
theorem d_Md_claims_26 : decode prog_13_method_25_code 26 = .ok (.getfield 106, 3) := by decide +kernel
theorem d_Md_claims_29 : decode prog_13_method_25_code 29 = .ok (.if_icmp .eq 19, 3) := by decide +kernel
theorem d_Md_claims_32 : decode prog_13_method_25_code 32 = .ok (.iload_n 2, 1) := by decide +kernel
theorem d_Md_claims_33 : decode prog_13_method_25_code 33 = .ok (.aload_n 0, 1) := by decide +kernel
theorem d_Md_claims_34 : decode prog_13_method_25_code 34 = .ok (.getfield 106, 3) := by decide +kernel
theorem d_Md_claims_37 : decode prog_13_method_25_code 37 = .ok (.if_icmp .le 7, 3) := by decide +kernel
theorem d_Md_claims_40 : decode prog_13_method_25_code 40 = .ok (.iconst 1, 1) := by decide +kernel
theorem d_Md_claims_41 : decode prog_13_method_25_code 41 = .ok (.goto 32, 3) := by decide +kernel
theorem d_Md_claims_44 : decode prog_13_method_25_code 44 = .ok (.iconst 0, 1) := by decide +kernel
theorem d_Md_claims_45 : decode prog_13_method_25_code 45 = .ok (.goto 28, 3) := by decide +kernel
theorem d_Md_claims_48 : decode prog_13_method_25_code 48 = .ok (.aload_n 0, 1) := by decide +kernel
theorem d_Md_claims_49 : decode prog_13_method_25_code 49 = .ok (.getfield 109, 3) := by decide +kernel
theorem d_Md_claims_52 : decode prog_13_method_25_code 52 = .ok (.iconst (-1), 1) := by decide +kernel
theorem d_Md_claims_53 : decode prog_13_method_25_code 53 = .ok (.if_icmp .eq 19, 3) := by decide +kernel
theorem d_Md_claims_56 : decode prog_13_method_25_code 56 = .ok (.aload_n 0, 1) := by decide +kernel
theorem d_Md_claims_57 : decode prog_13_method_25_code 57 = .ok (.iload_n 3, 1) := by decide +kernel
theorem d_Md_claims_58 : decode prog_13_method_25_code 58 = .ok (.aload_n 0, 1) := by decide +kernel
theorem d_Md_claims_59 : decode prog_13_method_25_code 59 = .ok (.getfield 109, 3) := by decide +kernel
theorem d_Md_claims_62 : decode prog_13_method_25_code 62 = .ok (.invokevirtual 93, 3) := by decide +kernel
theorem d_Md_claims_65 : decode prog_13_method_25_code 65 = .ok (.ifCond .eq 7, 3) := by decide +kernel
theorem d_Md_claims_68 : decode prog_13_method_25_code 68 = .ok (.iconst 1, 1) := by decide +kernel
theorem d_Md_claims_69 : decode prog_13_method_25_code 69 = .ok (.goto 4, 3) := by decide +kernel
theorem d_Md_claims_72 : decode prog_13_method_25_code 72 = .ok (.iconst 0, 1) := by decide +kernel
theorem d_Md_claims_73 : decode prog_13_method_25_code 73 = .ok (.istore 4, 2) := by decide +kernel
theorem d_Md_claims_75 : decode prog_13_method_25_code 75 = .ok (.iload 4, 2) := by decide +kernel
theorem d_Md_claims_77 : decode prog_13_method_25_code 77 = .ok (.ifCond .ne 4, 3) := by decide +kernel
theorem d_Md_claims_80 : decode prog_13_method_25_code 80 = .ok (.return_, 1) := by decide +kernel
theorem d_Md_claims_81 : decode prog_13_method_25_code 81 = .ok (.aload_n 0, 1) := by decide +kernel
theorem d_Md_claims_82 : decode prog_13_method_25_code 82 = .ok (.iload_n 1, 1) := by decide +kernel
theorem d_Md_claims_83 : decode prog_13_method_25_code 83 = .ok (.putfield 103, 3) := by decide +kernel
theorem d_Md_claims_86 : decode prog_13_method_25_code 86 = .ok (.aload_n 0, 1) := by decide +kernel
theorem d_Md_claims_87 : decode prog_13_method_25_code 87 = .ok (.iload_n 2, 1) := by decide +kernel
theorem d_Md_claims_88 : decode prog_13_method_25_code 88 = .ok (.putfield 106, 3) := by decide +kernel
theorem d_Md_claims_91 : decode prog_13_method_25_code 91 = .ok (.aload_n 0, 1) := by decide +kernel
theorem d_Md_claims_92 : decode prog_13_method_25_code 92 = .ok (.iload_n 3, 1) := by decide +kernel
theorem d_Md_claims_93 : decode prog_13_method_25_code 93 = .ok (.putfield 109, 3) := by decide +kernel
theorem d_Md_claims_96 : decode prog_13_method_25_code 96 = .ok (.return_, 1) := by decide +kernel
theorem fk_Md_103 : Cond.fieldLink "FeastBookModel" 103 (T_Md 22).1 (T_Md 22).2.1 (T_Md 22).2.2.1 ∈ TT := mT8 118 (by decide +kernel) (by decide +kernel)
theorem fk_Md_106 : Cond.fieldLink "FeastBookModel" 106 (T_Md 23).1 (T_Md 23).2.1 (T_Md 23).2.2.1 ∈ TT := mT8 119 (by decide +kernel) (by decide +kernel)
theorem fk_Md_109 : Cond.fieldLink "FeastBookModel" 109 (T_Md 24).1 (T_Md 24).2.1 (T_Md 24).2.2.1 ∈ TT := mT8 120 (by decide +kernel) (by decide +kernel)
def M_Md_claims (h : Hp) (a1 a2 a3 : Int) : Option Hp := lt' (fun (s0_3 : Int) => if eqb s0_3 0 then some h else lt' (hs h 83 22 a1) (fun h4 => lt' (hs h4 83 23 a2) (fun h5 => lt' (hs h5 83 24 a3) (fun h6 => some h6)))) (fun j3 => if eqb a1 (h 83 22) then if eqb a2 (h 83 23) then if eqb (h 83 24) (-1) then j3 0 else (M_Md_isAhead h a3 (h 83 24)).bind (fun x8 => if eqb x8 0 then j3 0 else j3 1) else if leb a2 (h 83 23) then j3 0 else j3 1 else if leb a1 (h 83 22) then j3 0 else j3 1)
set_option maxHeartbeats 4000000 in
set_option maxRecDepth 100000 in
theorem c_Md_claims {l : Launch} {D : va_G} {ad : Nat → Nat} {cA : Nat → ClassId} {sd sv : Nat → Nat} {h : Hp} {a1 a2 a3 : Int} {out : Hp} (hI : Inj97 ad) (hM : M_Md_claims h a1 a2 a3 = some out) : Met l y_Md_claims (.code y_Md_claims prog_13_method_25_code 5 none :: TT) (rmD 2) (PC D ad cA sd sv h [.ref (ad 83), .int (iZ a1), .int (iZ a2), .int (iZ a3)]) (QV D ad cA out) 0 0 (FA ad) := by
  unfold M_Md_claims at hM
  refine entM (by decide +kernel) hI (Nat.le_of_ble_eq_true rfl) ?_
  intro p e s m args below meth c C hr hlk hP ls hl
  have C : Cx p s m args c prog_13_method_25_code 5 "FeastBookModel" D ad cA sd sv (FA ad) := C
  have hl : lv_has ls 5 [(0, .ref (ad 83)), (1, .int (iZ a1)), (2, .int (iZ a2)), (3, .int (iZ a3))] := hl
  have w : Wd s D ad cA (FA ad) h s.heap [] := ⟨hP, va_S.rf⟩
  refine m_iload_n C hl 1 d_Md_claims_0 rfl rfl ?_
  refine m_aload_n C hl 0 d_Md_claims_1 rfl rfl ?_
  refine m_geti C w.1 kc_Md sh_83 (Nat.le_of_ble_eq_true rfl) 22 rfl (by decide) fk_Md_103 d_Md_claims_2 ?_
  refine lt_join hM (fun j3 ej hM => ?_)
  have hJ3 : ∀ (s0_3 : Int), j3 s0_3 = some out → ∀ ls : Array Slot, lv_has ls 5 [(0, .ref (ad 83)), (1, .int (iZ a1)), (2, .int (iZ a2)), (3, .int (iZ a3))] → W p l e (rmD 2) s m args below meth c s.heap [] 0 0 (MQ below (QV D ad cA out) args s 0 0 (FA ad)) (F0 m 73 ls [.int (iZ s0_3)]) := by
    intro s0_3 hM ls hl
    subst ej
    dsimp only at hM
    refine m_istore C hl [(4, .int (iZ s0_3)), (0, .ref (ad 83)), (1, .int (iZ a1)), (2, .int (iZ a2)), (3, .int (iZ a3))] d_Md_claims_73 (by decide) rfl (fun ls hl => ?_)
    refine m_iload C hl 0 d_Md_claims_75 rfl ?_
    refine m_if_ne C hM 81 d_Md_claims_77 (by decide) (fun hM => ?_) (fun hM => ?_)
    · refine m_aload_n C hl 1 d_Md_claims_81 rfl rfl ?_
      refine m_iload_n C hl 2 d_Md_claims_82 rfl rfl ?_
      refine m_puti C w kc_Md sh_83 (Nat.le_of_ble_eq_true rfl) 22 hM rfl (by decide) rfl rfl fk_Md_103 d_Md_claims_83 (fun h4 H locs w hM => ?_)
      refine m_aload_n C hl 1 d_Md_claims_86 rfl rfl ?_
      refine m_iload_n C hl 3 d_Md_claims_87 rfl rfl ?_
      refine m_puti C w kc_Md sh_83 (Nat.le_of_ble_eq_true rfl) 23 hM rfl (by decide) rfl rfl fk_Md_106 d_Md_claims_88 (fun h5 H locs w hM => ?_)
      refine m_aload_n C hl 1 d_Md_claims_91 rfl rfl ?_
      refine m_iload_n C hl 4 d_Md_claims_92 rfl rfl ?_
      refine m_puti C w kc_Md sh_83 (Nat.le_of_ble_eq_true rfl) 24 hM rfl (by decide) rfl rfl fk_Md_109 d_Md_claims_93 (fun h6 H locs w hM => ?_)
      exact m_vretW C w hr hlk hM d_Md_claims_96
    · exact m_vretW C w hr hlk hM d_Md_claims_80
  refine m_icmp_eq C hM 24 d_Md_claims_5 (by decide) (fun hM => ?_) (fun hM => ?_)
  · refine m_iload_n C hl 2 d_Md_claims_24 rfl rfl ?_
    refine m_aload_n C hl 0 d_Md_claims_25 rfl rfl ?_
    refine m_geti C w.1 kc_Md sh_83 (Nat.le_of_ble_eq_true rfl) 23 rfl (by decide) fk_Md_106 d_Md_claims_26 ?_
    refine m_icmp_eq C hM 48 d_Md_claims_29 (by decide) (fun hM => ?_) (fun hM => ?_)
    · refine m_aload_n C hl 0 d_Md_claims_48 rfl rfl ?_
      refine m_geti C w.1 kc_Md sh_83 (Nat.le_of_ble_eq_true rfl) 24 rfl (by decide) fk_Md_109 d_Md_claims_49 ?_
      refine m_iconst C d_Md_claims_52 ?_
      refine m_icmp_eq C hM 72 d_Md_claims_53 (by decide) (fun hM => ?_) (fun hM => ?_)
      · refine m_iconst C d_Md_claims_72 ?_
        exact hJ3 0 hM _ hl
      · refine m_aload_n C hl 0 d_Md_claims_56 rfl rfl ?_
        refine m_iload_n C hl 3 d_Md_claims_57 rfl rfl ?_
        refine m_aload_n C hl 0 d_Md_claims_58 rfl rfl ?_
        refine m_geti C w.1 kc_Md sh_83 (Nat.le_of_ble_eq_true rfl) 24 rfl (by decide) fk_Md_109 d_Md_claims_59 ?_
        obtain ⟨x8, e7, hM⟩ := bnd_some hM
        refine aftR (runV C w.1 w.2 kc_Md sh_83 (Nat.le_of_ble_eq_true rfl) (c_Md_isAhead hI e7) lk_Md_93 mb_Md_isAhead rfl ⟨Nat.le_of_ble_eq_true rfl, Nat.le_of_ble_eq_true rfl⟩ ⟨Nat.zero_le _, Nat.zero_le _⟩ (Nat.le_of_ble_eq_true rfl) d_Md_claims_62 hl.1 (rest := []) rfl) ?_
        refine m_if_eq C hM 72 d_Md_claims_65 (by decide) (fun hM => ?_) (fun hM => ?_)
        · refine m_iconst C d_Md_claims_72 ?_
          exact hJ3 0 hM _ hl
        · refine m_iconst C d_Md_claims_68 ?_
          refine m_goto C 73 d_Md_claims_69 (by decide) ?_
          exact hJ3 1 hM _ hl
    · refine m_iload_n C hl 2 d_Md_claims_32 rfl rfl ?_
      refine m_aload_n C hl 0 d_Md_claims_33 rfl rfl ?_
      refine m_geti C w.1 kc_Md sh_83 (Nat.le_of_ble_eq_true rfl) 23 rfl (by decide) fk_Md_106 d_Md_claims_34 ?_
      refine m_icmp_le C hM 44 d_Md_claims_37 (by decide) (fun hM => ?_) (fun hM => ?_)
      · refine m_iconst C d_Md_claims_44 ?_
        refine m_goto C 73 d_Md_claims_45 (by decide) ?_
        exact hJ3 0 hM _ hl
      · refine m_iconst C d_Md_claims_40 ?_
        refine m_goto C 73 d_Md_claims_41 (by decide) ?_
        exact hJ3 1 hM _ hl
  · refine m_iload_n C hl 1 d_Md_claims_8 rfl rfl ?_
    refine m_aload_n C hl 0 d_Md_claims_9 rfl rfl ?_
    refine m_geti C w.1 kc_Md sh_83 (Nat.le_of_ble_eq_true rfl) 22 rfl (by decide) fk_Md_103 d_Md_claims_10 ?_
    refine m_icmp_le C hM 20 d_Md_claims_13 (by decide) (fun hM => ?_) (fun hM => ?_)
    · refine m_iconst C d_Md_claims_20 ?_
      refine m_goto C 73 d_Md_claims_21 (by decide) ?_
      exact hJ3 0 hM _ hl
    · refine m_iconst C d_Md_claims_16 ?_
      refine m_goto C 73 d_Md_claims_17 (by decide) ?_
      exact hJ3 1 hM _ hl
def y_Md_vigilOf : MethodName := ⟨"FeastBookModel", "vigilOf", "(I)I"⟩
theorem d_Md_vigilOf_0 : decode prog_13_method_24_code 0 = .ok (.aload_n 0, 1) := by decide +kernel
theorem d_Md_vigilOf_1 : decode prog_13_method_24_code 1 = .ok (.getfield 29, 3) := by decide +kernel
theorem d_Md_vigilOf_4 : decode prog_13_method_24_code 4 = .ok (.iload_n 1, 1) := by decide +kernel
theorem d_Md_vigilOf_5 : decode prog_13_method_24_code 5 = .ok (.iaload, 1) := by decide +kernel
theorem d_Md_vigilOf_6 : decode prog_13_method_24_code 6 = .ok (.iconst (-1), 1) := by decide +kernel
theorem d_Md_vigilOf_7 : decode prog_13_method_24_code 7 = .ok (.if_icmp .eq 12, 3) := by decide +kernel
theorem d_Md_vigilOf_10 : decode prog_13_method_24_code 10 = .ok (.aload_n 0, 1) := by decide +kernel
theorem d_Md_vigilOf_11 : decode prog_13_method_24_code 11 = .ok (.iload_n 1, 1) := by decide +kernel
theorem d_Md_vigilOf_12 : decode prog_13_method_24_code 12 = .ok (.iconst 5, 1) := by decide +kernel
theorem d_Md_vigilOf_13 : decode prog_13_method_24_code 13 = .ok (.invokevirtual 90, 3) := by decide +kernel
theorem d_Md_vigilOf_16 : decode prog_13_method_24_code 16 = .ok (.ifCond .ne 5, 3) := by decide +kernel
theorem d_Md_vigilOf_19 : decode prog_13_method_24_code 19 = .ok (.iconst (-1), 1) := by decide +kernel
theorem d_Md_vigilOf_20 : decode prog_13_method_24_code 20 = .ok (.ireturn, 1) := by decide +kernel
theorem d_Md_vigilOf_21 : decode prog_13_method_24_code 21 = .ok (.aload_n 0, 1) := by decide +kernel
theorem d_Md_vigilOf_22 : decode prog_13_method_24_code 22 = .ok (.getfield 29, 3) := by decide +kernel
theorem d_Md_vigilOf_25 : decode prog_13_method_24_code 25 = .ok (.iload_n 1, 1) := by decide +kernel
theorem d_Md_vigilOf_26 : decode prog_13_method_24_code 26 = .ok (.iaload, 1) := by decide +kernel
theorem d_Md_vigilOf_27 : decode prog_13_method_24_code 27 = .ok (.iconst 1, 1) := by decide +kernel
theorem d_Md_vigilOf_28 : decode prog_13_method_24_code 28 = .ok (.isub, 1) := by decide +kernel
theorem d_Md_vigilOf_29 : decode prog_13_method_24_code 29 = .ok (.istore_n 2, 1) := by decide +kernel
theorem d_Md_vigilOf_30 : decode prog_13_method_24_code 30 = .ok (.iload_n 2, 1) := by decide +kernel
theorem d_Md_vigilOf_31 : decode prog_13_method_24_code 31 = .ok (.ifCond .lt 14, 3) := by decide +kernel
theorem d_Md_vigilOf_34 : decode prog_13_method_24_code 34 = .ok (.aload_n 0, 1) := by decide +kernel
theorem d_Md_vigilOf_35 : decode prog_13_method_24_code 35 = .ok (.iload_n 2, 1) := by decide +kernel
theorem d_Md_vigilOf_36 : decode prog_13_method_24_code 36 = .ok (.invokevirtual 100, 3) := by decide +kernel
theorem d_Md_vigilOf_39 : decode prog_13_method_24_code 39 = .ok (.ifCond .eq 6, 3) := by decide +kernel
theorem d_Md_vigilOf_42 : decode prog_13_method_24_code 42 = .ok (.iinc 2 (-1), 3) := by decide +kernel
theorem d_Md_vigilOf_45 : decode prog_13_method_24_code 45 = .ok (.iload_n 2, 1) := by decide +kernel
theorem d_Md_vigilOf_46 : decode prog_13_method_24_code 46 = .ok (.ifCond .ge 7, 3) := by decide +kernel
theorem d_Md_vigilOf_49 : decode prog_13_method_24_code 49 = .ok (.iconst (-1), 1) := by decide +kernel
theorem d_Md_vigilOf_50 : decode prog_13_method_24_code 50 = .ok (.goto 4, 3) := by decide +kernel
theorem d_Md_vigilOf_53 : decode prog_13_method_24_code 53 = .ok (.iload_n 2, 1) := by decide +kernel
theorem d_Md_vigilOf_54 : decode prog_13_method_24_code 54 = .ok (.ireturn, 1) := by decide +kernel
theorem mb_Md_isSunday : MBv R_Md y_Md_isSunday prog_13_method_18_code 2 (some .boolean) 1 := ⟨mT9 120 (by decide +kernel) (by decide +kernel), mTs 47 (by decide +kernel) (by decide +kernel), mT1 10 (by decide +kernel) (by decide +kernel), mT9 121 (by decide +kernel) (by decide +kernel), by decide, rfl, by decide +kernel, by decide +kernel, by decide +kernel⟩
theorem fk_Md_29 : Cond.fieldLink "FeastBookModel" 29 (T_Md 16).1 (T_Md 16).2.1 (T_Md 16).2.2.1 ∈ TT := mT8 112 (by decide +kernel) (by decide +kernel)
theorem lk_Md_100 : Cond.methodLink "FeastBookModel" 100 y_Md_isSunday ∈ TT := mT9 118 (by decide +kernel) (by decide +kernel)
def M_Md_vigilOf (h : Hp) (a1 : Int) : Option Int := (rdA h 89 12 a1).bind (fun x1 => if eqb x1 (-1) then some (-1) else (M_Md_of0 h a1 5).bind (fun x3 => if eqb x3 0 then some (-1) else (rdA h 89 12 a1).bind (fun x4 => if ltb (x4 - 1) 0 then if leb 0 (x4 - 1) then some (x4 - 1) else some (-1) else (M_Md_isSunday h (x4 - 1)).bind (fun x6 => if eqb x6 0 then if leb 0 (x4 - 1) then some (x4 - 1) else some (-1) else if leb 0 ((x4 - 1) + (-1)) then some ((x4 - 1) + (-1)) else some (-1)))))
set_option maxHeartbeats 4000000 in
set_option maxRecDepth 100000 in
theorem c_Md_vigilOf {l : Launch} {D : va_G} {ad : Nat → Nat} {cA : Nat → ClassId} {sd sv : Nat → Nat} {h : Hp} {a1 : Int} {out : Int} (hI : Inj97 ad) (hM : M_Md_vigilOf h a1 = some out) : Met l y_Md_vigilOf (.code y_Md_vigilOf prog_13_method_24_code 3 (some .int) :: TT) (rmD 1) (PC D ad cA sd sv h [.ref (ad 83), .int (iZ a1)]) (QR out) 0 0 (fun _ => False) := by
  unfold M_Md_vigilOf at hM
  refine entM (by decide +kernel) hI (Nat.le_of_ble_eq_true rfl) ?_
  intro p e s m args below meth c C hr hlk hP ls hl
  have C : Cx p s m args c prog_13_method_24_code 3 "FeastBookModel" D ad cA sd sv (FA ad) := C
  have hl : lv_has ls 3 [(0, .ref (ad 83)), (1, .int (iZ a1))] := hl
  refine m_aload_n C hl 0 d_Md_vigilOf_0 rfl rfl ?_
  refine m_getr C hP kc_Md sh_83 (Nat.le_of_ble_eq_true rfl) 16 89 rfl (by decide) fk_Md_29 d_Md_vigilOf_1 ?_
  refine m_iload_n C hl 1 d_Md_vigilOf_4 rfl rfl ?_
  refine m_iald C hP sh_89 (Nat.le_of_ble_eq_true rfl) (Nat.le_of_ble_eq_true rfl) hM d_Md_vigilOf_5 (fun x1 hM => ?_)
  refine m_iconst C d_Md_vigilOf_6 ?_
  refine m_icmp_eq C hM 19 d_Md_vigilOf_7 (by decide) (fun hM => ?_) (fun hM => ?_)
  · refine m_iconst C d_Md_vigilOf_19 ?_
    exact m_iretR C hr hlk hM d_Md_vigilOf_20
  · refine m_aload_n C hl 0 d_Md_vigilOf_10 rfl rfl ?_
    refine m_iload_n C hl 1 d_Md_vigilOf_11 rfl rfl ?_
    refine m_iconst C d_Md_vigilOf_12 ?_
    obtain ⟨x3, e2, hM⟩ := bnd_some hM
    refine aftR (runV C hP va_S.rf kc_Md sh_83 (Nat.le_of_ble_eq_true rfl) (c_Md_of0 hI e2) lk_Md_90 mb_Md_of0 rfl ⟨Nat.le_of_ble_eq_true rfl, Nat.le_of_ble_eq_true rfl⟩ ⟨Nat.zero_le _, Nat.zero_le _⟩ (Nat.le_of_ble_eq_true rfl) d_Md_vigilOf_13 hl.1 (rest := []) rfl) ?_
    refine m_if_ne C hM 21 d_Md_vigilOf_16 (by decide) (fun hM => ?_) (fun hM => ?_)
    · refine m_aload_n C hl 0 d_Md_vigilOf_21 rfl rfl ?_
      refine m_getr C hP kc_Md sh_83 (Nat.le_of_ble_eq_true rfl) 16 89 rfl (by decide) fk_Md_29 d_Md_vigilOf_22 ?_
      refine m_iload_n C hl 1 d_Md_vigilOf_25 rfl rfl ?_
      refine m_iald C hP sh_89 (Nat.le_of_ble_eq_true rfl) (Nat.le_of_ble_eq_true rfl) hM d_Md_vigilOf_26 (fun x4 hM => ?_)
      refine m_iconst C d_Md_vigilOf_27 ?_
      refine m_isub C d_Md_vigilOf_28 ?_
      refine m_istore_n C hl [(2, .int (iZ (x4 - 1))), (0, .ref (ad 83)), (1, .int (iZ a1))] d_Md_vigilOf_29 rfl (by decide) rfl (fun ls hl => ?_)
      refine m_iload_n C hl 0 d_Md_vigilOf_30 rfl rfl ?_
      refine m_if_lt C hM 45 d_Md_vigilOf_31 (by decide) (fun hM => ?_) (fun hM => ?_)
      · refine m_iload_n C hl 0 d_Md_vigilOf_45 rfl rfl ?_
        refine m_if_ge C hM 53 d_Md_vigilOf_46 (by decide) (fun hM => ?_) (fun hM => ?_)
        · refine m_iload_n C hl 0 d_Md_vigilOf_53 rfl rfl ?_
          exact m_iretR C hr hlk hM d_Md_vigilOf_54
        · refine m_iconst C d_Md_vigilOf_49 ?_
          refine m_goto C 54 d_Md_vigilOf_50 (by decide) ?_
          exact m_iretR C hr hlk hM d_Md_vigilOf_54
      · refine m_aload_n C hl 1 d_Md_vigilOf_34 rfl rfl ?_
        refine m_iload_n C hl 0 d_Md_vigilOf_35 rfl rfl ?_
        obtain ⟨x6, e5, hM⟩ := bnd_some hM
        refine aftR (runV C hP va_S.rf kc_Md sh_83 (Nat.le_of_ble_eq_true rfl) (c_Md_isSunday hI e5) lk_Md_100 mb_Md_isSunday rfl ⟨Nat.le_of_ble_eq_true rfl, Nat.le_of_ble_eq_true rfl⟩ ⟨Nat.zero_le _, Nat.zero_le _⟩ (Nat.le_of_ble_eq_true rfl) d_Md_vigilOf_36 hl.1 (rest := []) rfl) ?_
        refine m_if_eq C hM 45 d_Md_vigilOf_39 (by decide) (fun hM => ?_) (fun hM => ?_)
        · refine m_iload_n C hl 0 d_Md_vigilOf_45 rfl rfl ?_
          refine m_if_ge C hM 53 d_Md_vigilOf_46 (by decide) (fun hM => ?_) (fun hM => ?_)
          · refine m_iload_n C hl 0 d_Md_vigilOf_53 rfl rfl ?_
            exact m_iretR C hr hlk hM d_Md_vigilOf_54
          · refine m_iconst C d_Md_vigilOf_49 ?_
            refine m_goto C 54 d_Md_vigilOf_50 (by decide) ?_
            exact m_iretR C hr hlk hM d_Md_vigilOf_54
        · refine m_iinc C hl 0 [(2, .int (iZ ((x4 - 1) + (-1)))), (0, .ref (ad 83)), (1, .int (iZ a1))] d_Md_vigilOf_42 rfl (by decide) rfl (fun ls hl => ?_)
          refine m_iload_n C hl 0 d_Md_vigilOf_45 rfl rfl ?_
          refine m_if_ge C hM 53 d_Md_vigilOf_46 (by decide) (fun hM => ?_) (fun hM => ?_)
          · refine m_iload_n C hl 0 d_Md_vigilOf_53 rfl rfl ?_
            exact m_iretR C hr hlk hM d_Md_vigilOf_54
          · refine m_iconst C d_Md_vigilOf_49 ?_
            refine m_goto C 54 d_Md_vigilOf_50 (by decide) ?_
            exact m_iretR C hr hlk hM d_Md_vigilOf_54
    · refine m_iconst C d_Md_vigilOf_19 ?_
      exact m_iretR C hr hlk hM d_Md_vigilOf_20
def y_Md_laysBase : MethodName := ⟨"FeastBookModel", "laysBase", "(I)V"⟩
theorem d_Md_laysBase_0 : decode prog_13_method_26_code 0 = .ok (.aload_n 0, 1) := by decide +kernel
theorem d_Md_laysBase_1 : decode prog_13_method_26_code 1 = .ok (.iconst 0, 1) := by decide +kernel
theorem d_Md_laysBase_2 : decode prog_13_method_26_code 2 = .ok (.putfield 103, 3) := by decide +kernel
theorem d_Md_laysBase_5 : decode prog_13_method_26_code 5 = .ok (.aload_n 0, 1) := by decide +kernel
theorem d_Md_laysBase_6 : decode prog_13_method_26_code 6 = .ok (.iconst 0, 1) := by decide +kernel
theorem d_Md_laysBase_7 : decode prog_13_method_26_code 7 = .ok (.putfield 106, 3) := by decide +kernel
theorem d_Md_laysBase_10 : decode prog_13_method_26_code 10 = .ok (.aload_n 0, 1) := by decide +kernel
theorem d_Md_laysBase_11 : decode prog_13_method_26_code 11 = .ok (.iconst (-1), 1) := by decide +kernel
theorem d_Md_laysBase_12 : decode prog_13_method_26_code 12 = .ok (.putfield 109, 3) := by decide +kernel
theorem d_Md_laysBase_15 : decode prog_13_method_26_code 15 = .ok (.aload_n 0, 1) := by decide +kernel
theorem d_Md_laysBase_16 : decode prog_13_method_26_code 16 = .ok (.iload_n 1, 1) := by decide +kernel
theorem d_Md_laysBase_17 : decode prog_13_method_26_code 17 = .ok (.invokevirtual 100, 3) := by decide +kernel
theorem d_Md_laysBase_20 : decode prog_13_method_26_code 20 = .ok (.ifCond .eq 14, 3) := by decide +kernel
theorem d_Md_laysBase_23 : decode prog_13_method_26_code 23 = .ok (.aload_n 0, 1) := by decide +kernel
theorem d_Md_laysBase_24 : decode prog_13_method_26_code 24 = .ok (.aload_n 0, 1) := by decide +kernel
theorem d_Md_laysBase_25 : decode prog_13_method_26_code 25 = .ok (.iload_n 1, 1) := by decide +kernel
theorem d_Md_laysBase_26 : decode prog_13_method_26_code 26 = .ok (.invokevirtual 112, 3) := by decide +kernel
theorem d_Md_laysBase_29 : decode prog_13_method_26_code 29 = .ok (.iconst 3, 1) := by decide +kernel
theorem d_Md_laysBase_30 : decode prog_13_method_26_code 30 = .ok (.iconst (-1), 1) := by decide +kernel
theorem d_Md_laysBase_31 : decode prog_13_method_26_code 31 = .ok (.invokevirtual 115, 3) := by decide +kernel
theorem d_Md_laysBase_34 : decode prog_13_method_26_code 34 = .ok (.iconst 0, 1) := by decide +kernel
theorem d_Md_laysBase_35 : decode prog_13_method_26_code 35 = .ok (.istore_n 2, 1) := by decide +kernel
theorem d_Md_laysBase_36 : decode prog_13_method_26_code 36 = .ok (.iload_n 2, 1) := by decide +kernel
theorem d_Md_laysBase_37 : decode prog_13_method_26_code 37 = .ok (.aload_n 0, 1) := by decide +kernel
theorem d_Md_laysBase_38 : decode prog_13_method_26_code 38 = .ok (.getfield 7, 3) := by decide +kernel
theorem d_Md_laysBase_41 : decode prog_13_method_26_code 41 = .ok (.bipush 42, 2) := by decide +kernel
theorem d_Md_laysBase_43 : decode prog_13_method_26_code 43 = .ok (.iaload, 1) := by decide +kernel
theorem d_Md_laysBase_44 : decode prog_13_method_26_code 44 = .ok (.if_icmp .ge 87, 3) := by decide +kernel
theorem d_Md_laysBase_47 : decode prog_13_method_26_code 47 = .ok (.aload_n 0, 1) := by decide +kernel
theorem d_Md_laysBase_48 : decode prog_13_method_26_code 48 = .ok (.getfield 29, 3) := by decide +kernel
theorem d_Md_laysBase_51 : decode prog_13_method_26_code 51 = .ok (.iload_n 2, 1) := by decide +kernel
theorem d_Md_laysBase_52 : decode prog_13_method_26_code 52 = .ok (.iaload, 1) := by decide +kernel
theorem d_Md_laysBase_53 : decode prog_13_method_26_code 53 = .ok (.iconst (-1), 1) := by decide +kernel
theorem d_Md_laysBase_54 : decode prog_13_method_26_code 54 = .ok (.if_icmp .ne 6, 3) := by decide +kernel
theorem d_Md_laysBase_57 : decode prog_13_method_26_code 57 = .ok (.goto 68, 3) := by decide +kernel
theorem d_Md_laysBase_60 : decode prog_13_method_26_code 60 = .ok (.aload_n 0, 1) := by decide +kernel
theorem d_Md_laysBase_61 : decode prog_13_method_26_code 61 = .ok (.iload_n 2, 1) := by decide +kernel
theorem d_Md_laysBase_62 : decode prog_13_method_26_code 62 = .ok (.invokevirtual 119, 3) := by decide +kernel
theorem d_Md_laysBase_65 : decode prog_13_method_26_code 65 = .ok (.iload_n 1, 1) := by decide +kernel
theorem d_Md_laysBase_66 : decode prog_13_method_26_code 66 = .ok (.if_icmp .ne 15, 3) := by decide +kernel
theorem d_Md_laysBase_69 : decode prog_13_method_26_code 69 = .ok (.aload_n 0, 1) := by decide +kernel
theorem d_Md_laysBase_70 : decode prog_13_method_26_code 70 = .ok (.aload_n 0, 1) := by decide +kernel
theorem d_Md_laysBase_71 : decode prog_13_method_26_code 71 = .ok (.iload_n 2, 1) := by decide +kernel
theorem d_Md_laysBase_72 : decode prog_13_method_26_code 72 = .ok (.iconst 5, 1) := by decide +kernel
theorem d_Md_laysBase_73 : decode prog_13_method_26_code 73 = .ok (.invokevirtual 90, 3) := by decide +kernel
theorem d_Md_laysBase_76 : decode prog_13_method_26_code 76 = .ok (.iconst 1, 1) := by decide +kernel
theorem d_Md_laysBase_77 : decode prog_13_method_26_code 77 = .ok (.iload_n 2, 1) := by decide +kernel
theorem d_Md_laysBase_78 : decode prog_13_method_26_code 78 = .ok (.invokevirtual 115, 3) := by decide +kernel
theorem d_Md_laysBase_81 : decode prog_13_method_26_code 81 = .ok (.aload_n 0, 1) := by decide +kernel
theorem d_Md_laysBase_82 : decode prog_13_method_26_code 82 = .ok (.iload_n 2, 1) := by decide +kernel
theorem d_Md_laysBase_83 : decode prog_13_method_26_code 83 = .ok (.bipush 6, 2) := by decide +kernel
theorem d_Md_laysBase_85 : decode prog_13_method_26_code 85 = .ok (.invokevirtual 90, 3) := by decide +kernel
theorem d_Md_laysBase_88 : decode prog_13_method_26_code 88 = .ok (.ifCond .le 37, 3) := by decide +kernel
theorem d_Md_laysBase_91 : decode prog_13_method_26_code 91 = .ok (.iload_n 1, 1) := by decide +kernel
theorem d_Md_laysBase_92 : decode prog_13_method_26_code 92 = .ok (.aload_n 0, 1) := by decide +kernel
theorem d_Md_laysBase_93 : decode prog_13_method_26_code 93 = .ok (.getfield 29, 3) := by decide +kernel
theorem d_Md_laysBase_96 : decode prog_13_method_26_code 96 = .ok (.iload_n 2, 1) := by decide +kernel
theorem d_Md_laysBase_97 : decode prog_13_method_26_code 97 = .ok (.iaload, 1) := by decide +kernel
theorem d_Md_laysBase_98 : decode prog_13_method_26_code 98 = .ok (.isub, 1) := by decide +kernel
theorem d_Md_laysBase_99 : decode prog_13_method_26_code 99 = .ok (.iconst 1, 1) := by decide +kernel
theorem d_Md_laysBase_100 : decode prog_13_method_26_code 100 = .ok (.aload_n 0, 1) := by decide +kernel
theorem d_Md_laysBase_101 : decode prog_13_method_26_code 101 = .ok (.getfield 7, 3) := by decide +kernel
theorem d_Md_laysBase_104 : decode prog_13_method_26_code 104 = .ok (.iconst 0, 1) := by decide +kernel
theorem d_Md_laysBase_105 : decode prog_13_method_26_code 105 = .ok (.iaload, 1) := by decide +kernel
theorem d_Md_laysBase_106 : decode prog_13_method_26_code 106 = .ok (.invokestatic 54, 3) := by decide +kernel
theorem d_Md_laysBase_109 : decode prog_13_method_26_code 109 = .ok (.ifCond .eq 16, 3) := by decide +kernel
theorem d_Md_laysBase_112 : decode prog_13_method_26_code 112 = .ok (.aload_n 0, 1) := by decide +kernel
theorem d_Md_laysBase_113 : decode prog_13_method_26_code 113 = .ok (.aload_n 0, 1) := by decide +kernel
theorem d_Md_laysBase_114 : decode prog_13_method_26_code 114 = .ok (.iload_n 2, 1) := by decide +kernel
theorem d_Md_laysBase_115 : decode prog_13_method_26_code 115 = .ok (.bipush 6, 2) := by decide +kernel
theorem d_Md_laysBase_117 : decode prog_13_method_26_code 117 = .ok (.invokevirtual 90, 3) := by decide +kernel
theorem d_Md_laysBase_120 : decode prog_13_method_26_code 120 = .ok (.iconst 2, 1) := by decide +kernel
theorem d_Md_laysBase_121 : decode prog_13_method_26_code 121 = .ok (.iload_n 2, 1) := by decide +kernel
theorem d_Md_laysBase_122 : decode prog_13_method_26_code 122 = .ok (.invokevirtual 115, 3) := by decide +kernel
theorem d_Md_laysBase_125 : decode prog_13_method_26_code 125 = .ok (.iinc 2 1, 3) := by decide +kernel
theorem d_Md_laysBase_128 : decode prog_13_method_26_code 128 = .ok (.goto (-92), 3) := by decide +kernel
theorem d_Md_laysBase_131 : decode prog_13_method_26_code 131 = .ok (.return_, 1) := by decide +kernel
theorem mb_Md_claims : MBv R_Md y_Md_claims prog_13_method_25_code 5 none 3 := ⟨mT9 128 (by decide +kernel) (by decide +kernel), mTs 49 (by decide +kernel) (by decide +kernel), mT1 10 (by decide +kernel) (by decide +kernel), mT9 129 (by decide +kernel) (by decide +kernel), by decide, rfl, by decide +kernel, by decide +kernel, by decide +kernel⟩
theorem mb_Md_sundayRank : MBv R_Md y_Md_sundayRank prog_13_method_20_code 4 (some .int) 1 := ⟨mT9 124 (by decide +kernel) (by decide +kernel), mTs 48 (by decide +kernel) (by decide +kernel), mT1 10 (by decide +kernel) (by decide +kernel), mT9 125 (by decide +kernel) (by decide +kernel), by decide, rfl, by decide +kernel, by decide +kernel, by decide +kernel⟩
theorem mb_Md_vigilOf : MBv R_Md y_Md_vigilOf prog_13_method_24_code 3 (some .int) 1 := ⟨mT9 132 (by decide +kernel) (by decide +kernel), mTs 50 (by decide +kernel) (by decide +kernel), mT1 10 (by decide +kernel) (by decide +kernel), mT9 133 (by decide +kernel) (by decide +kernel), by decide, rfl, by decide +kernel, by decide +kernel, by decide +kernel⟩
theorem lk_Md_112 : Cond.methodLink "FeastBookModel" 112 y_Md_sundayRank ∈ TT := mT9 122 (by decide +kernel) (by decide +kernel)
theorem lk_Md_115 : Cond.methodLink "FeastBookModel" 115 y_Md_claims ∈ TT := mT9 126 (by decide +kernel) (by decide +kernel)
theorem lk_Md_119 : Cond.methodLink "FeastBookModel" 119 y_Md_vigilOf ∈ TT := mT9 130 (by decide +kernel) (by decide +kernel)
def Md_laysBase_L36 (N : Nat) (v1 : Int) : Nat → Int → Hp → Option Hp
  | 0, _, _ => none
  | n + 1, v2, h => (rdA h 84 127 42).bind (fun x11 => if leb x11 v2 then some h else (rdA h 89 12 v2).bind (fun x12 => if eqb x12 (-1) then Md_laysBase_L36 N v1 n (v2 + 1) h else (M_Md_vigilOf h v2).bind (fun x14 => lt' (fun (h_19 : Hp) => (M_Md_of0 h_19 v2 6).bind (fun x21 => if leb x21 0 then Md_laysBase_L36 N v1 n (v2 + 1) h_19 else (rdA h_19 89 12 v2).bind (fun x22 => (rdA h_19 84 127 0).bind (fun x23 => (M_Md_isIn (v1 - x22) 1 x23).bind (fun x25 => if eqb x25 0 then Md_laysBase_L36 N v1 n (v2 + 1) h_19 else (M_Md_of0 h_19 v2 6).bind (fun x27 => (M_Md_claims h_19 x27 2 v2).bind (fun h29 => Md_laysBase_L36 N v1 n (v2 + 1) h29))))))) (fun j19 => if eqb x14 v1 then (M_Md_of0 h v2 5).bind (fun x31 => (M_Md_claims h x31 1 v2).bind (fun h33 => j19 h33)) else j19 h))))
def M_Md_laysBase (N : Nat) (h : Hp) (a1 : Int) : Option Hp := lt' (hs h 83 22 0) (fun h1 => lt' (hs h1 83 23 0) (fun h2 => lt' (hs h2 83 24 (-1)) (fun h3 => (M_Md_isSunday h3 a1).bind (fun x5 => lt' (fun (h_10 : Hp) => Md_laysBase_L36 N a1 N 0 h_10) (fun j10 => if eqb x5 0 then j10 h3 else (M_Md_sundayRank N h3 a1).bind (fun x35 => (M_Md_claims h3 x35 3 (-1)).bind (fun h37 => j10 h37)))))))
set_option maxHeartbeats 4000000 in
set_option maxRecDepth 100000 in
theorem w_Md_laysBase_L36 {p : Program} {l : Launch} {e : Env} {s : State} {m : MethodId} {args : Array Value} {below : List Frame} {meth : Method} {c : Code} {D : va_G} {ad : Nat → Nat} {cA : Nat → ClassId} {sd sv : Nat → Nat} {out : Hp} (N : Nat) (hI : Inj97 ad) (C : Cx p s m args c prog_13_method_26_code 3 "FeastBookModel" D ad cA sd sv (FA ad)) (hr : meth.sig.returnType = none) (hlk : meth.locks = false) (v1 : Int) : ∀ (n : Nat) (v2 : Int) (h : Hp) (H : Heap) (locs : List Loc), Wd s D ad cA (FA ad) h H locs → ∀ ls : Array Slot, lv_has ls 3 [(0, .ref (ad 83)), (1, .int (iZ v1)), (2, .int (iZ v2))] → Md_laysBase_L36 N v1 n v2 h = some out → W p l e (rmD 3) s m args below meth c H locs 0 0 (MQ below (QV D ad cA out) args s 0 0 (FA ad)) (F0 m 36 ls []) := by
  intro n
  induction n with
  | zero =>
    intro v2 h H locs w ls hl hM
    rw [Md_laysBase_L36] at hM
    cases hM
  | succ n ih =>
    intro v2 h H locs w ls hl hM
    rw [Md_laysBase_L36] at hM
    refine m_iload_n C hl 2 d_Md_laysBase_36 rfl rfl ?_
    refine m_aload_n C hl 0 d_Md_laysBase_37 rfl rfl ?_
    refine m_getr C w.1 kc_Md sh_83 (Nat.le_of_ble_eq_true rfl) 1 84 rfl (by decide) fk_Md_7 d_Md_laysBase_38 ?_
    refine m_bipush C d_Md_laysBase_41 (by decide) ?_
    refine m_iald C w.1 sh_84 (Nat.le_of_ble_eq_true rfl) (Nat.le_of_ble_eq_true rfl) hM d_Md_laysBase_43 (fun x11 hM => ?_)
    refine m_icmp_ge C hM 131 d_Md_laysBase_44 (by decide) (fun hM => ?_) (fun hM => ?_)
    · exact m_vretW C w hr hlk hM d_Md_laysBase_131
    · refine m_aload_n C hl 0 d_Md_laysBase_47 rfl rfl ?_
      refine m_getr C w.1 kc_Md sh_83 (Nat.le_of_ble_eq_true rfl) 16 89 rfl (by decide) fk_Md_29 d_Md_laysBase_48 ?_
      refine m_iload_n C hl 2 d_Md_laysBase_51 rfl rfl ?_
      refine m_iald C w.1 sh_89 (Nat.le_of_ble_eq_true rfl) (Nat.le_of_ble_eq_true rfl) hM d_Md_laysBase_52 (fun x12 hM => ?_)
      refine m_iconst C d_Md_laysBase_53 ?_
      refine m_icmp_ne C hM 60 d_Md_laysBase_54 (by decide) (fun hM => ?_) (fun hM => ?_)
      · refine m_aload_n C hl 0 d_Md_laysBase_60 rfl rfl ?_
        refine m_iload_n C hl 2 d_Md_laysBase_61 rfl rfl ?_
        obtain ⟨x14, e13, hM⟩ := bnd_some hM
        refine aftR (runV C w.1 w.2 kc_Md sh_83 (Nat.le_of_ble_eq_true rfl) (c_Md_vigilOf hI e13) lk_Md_119 mb_Md_vigilOf rfl ⟨Nat.le_of_ble_eq_true rfl, Nat.le_of_ble_eq_true rfl⟩ ⟨Nat.zero_le _, Nat.zero_le _⟩ (Nat.le_of_ble_eq_true rfl) d_Md_laysBase_62 hl.1 (rest := []) rfl) ?_
        refine m_iload_n C hl 1 d_Md_laysBase_65 rfl rfl ?_
        refine lt_join hM (fun j19 ej hM => ?_)
        have hJ19 : ∀ (h_19 : Hp), j19 h_19 = some out → ∀ (H : Heap) (locs : List Loc), Wd s D ad cA (FA ad) h_19 H locs → ∀ ls : Array Slot, lv_has ls 3 [(0, .ref (ad 83)), (1, .int (iZ v1)), (2, .int (iZ v2))] → W p l e (rmD 3) s m args below meth c H locs 0 0 (MQ below (QV D ad cA out) args s 0 0 (FA ad)) (F0 m 81 ls []) := by
          intro h_19 hM H locs w ls hl
          subst ej
          dsimp only at hM
          refine m_aload_n C hl 0 d_Md_laysBase_81 rfl rfl ?_
          refine m_iload_n C hl 2 d_Md_laysBase_82 rfl rfl ?_
          refine m_bipush C d_Md_laysBase_83 (by decide) ?_
          obtain ⟨x21, e20, hM⟩ := bnd_some hM
          refine aftR (runV C w.1 w.2 kc_Md sh_83 (Nat.le_of_ble_eq_true rfl) (c_Md_of0 hI e20) lk_Md_90 mb_Md_of0 rfl ⟨Nat.le_of_ble_eq_true rfl, Nat.le_of_ble_eq_true rfl⟩ ⟨Nat.zero_le _, Nat.zero_le _⟩ (Nat.le_of_ble_eq_true rfl) d_Md_laysBase_85 hl.1 (rest := []) rfl) ?_
          refine m_if_le C hM 125 d_Md_laysBase_88 (by decide) (fun hM => ?_) (fun hM => ?_)
          · refine m_iinc C hl 2 [(2, .int (iZ (v2 + 1))), (0, .ref (ad 83)), (1, .int (iZ v1))] d_Md_laysBase_125 rfl (by decide) rfl (fun ls hl => ?_)
            refine m_goto C 36 d_Md_laysBase_128 (by decide) ?_
            exact ih (v2 + 1) h_19 _ _ w _ (lv_sub hl [1, 2, 0] rfl) hM
          · refine m_iload_n C hl 1 d_Md_laysBase_91 rfl rfl ?_
            refine m_aload_n C hl 0 d_Md_laysBase_92 rfl rfl ?_
            refine m_getr C w.1 kc_Md sh_83 (Nat.le_of_ble_eq_true rfl) 16 89 rfl (by decide) fk_Md_29 d_Md_laysBase_93 ?_
            refine m_iload_n C hl 2 d_Md_laysBase_96 rfl rfl ?_
            refine m_iald C w.1 sh_89 (Nat.le_of_ble_eq_true rfl) (Nat.le_of_ble_eq_true rfl) hM d_Md_laysBase_97 (fun x22 hM => ?_)
            refine m_isub C d_Md_laysBase_98 ?_
            refine m_iconst C d_Md_laysBase_99 ?_
            refine m_aload_n C hl 0 d_Md_laysBase_100 rfl rfl ?_
            refine m_getr C w.1 kc_Md sh_83 (Nat.le_of_ble_eq_true rfl) 1 84 rfl (by decide) fk_Md_7 d_Md_laysBase_101 ?_
            refine m_iconst C d_Md_laysBase_104 ?_
            refine m_iald C w.1 sh_84 (Nat.le_of_ble_eq_true rfl) (Nat.le_of_ble_eq_true rfl) hM d_Md_laysBase_105 (fun x23 hM => ?_)
            obtain ⟨x25, e24, hM⟩ := bnd_some hM
            refine aftR (runS C w.1 w.2 (c_Md_isIn hI e24) lk_Md_54 mb_Md_isIn rfl ⟨Nat.le_of_ble_eq_true rfl, Nat.le_of_ble_eq_true rfl⟩ ⟨Nat.zero_le _, Nat.zero_le _⟩ (Nat.le_of_ble_eq_true rfl) d_Md_laysBase_106 hl.1 (rest := []) rfl) ?_
            refine m_if_eq C hM 125 d_Md_laysBase_109 (by decide) (fun hM => ?_) (fun hM => ?_)
            · refine m_iinc C hl 2 [(2, .int (iZ (v2 + 1))), (0, .ref (ad 83)), (1, .int (iZ v1))] d_Md_laysBase_125 rfl (by decide) rfl (fun ls hl => ?_)
              refine m_goto C 36 d_Md_laysBase_128 (by decide) ?_
              exact ih (v2 + 1) h_19 _ _ w _ (lv_sub hl [1, 2, 0] rfl) hM
            · refine m_aload_n C hl 0 d_Md_laysBase_112 rfl rfl ?_
              refine m_aload_n C hl 0 d_Md_laysBase_113 rfl rfl ?_
              refine m_iload_n C hl 2 d_Md_laysBase_114 rfl rfl ?_
              refine m_bipush C d_Md_laysBase_115 (by decide) ?_
              obtain ⟨x27, e26, hM⟩ := bnd_some hM
              refine aftR (runV C w.1 w.2 kc_Md sh_83 (Nat.le_of_ble_eq_true rfl) (c_Md_of0 hI e26) lk_Md_90 mb_Md_of0 rfl ⟨Nat.le_of_ble_eq_true rfl, Nat.le_of_ble_eq_true rfl⟩ ⟨Nat.zero_le _, Nat.zero_le _⟩ (Nat.le_of_ble_eq_true rfl) d_Md_laysBase_117 hl.1 (rest := [.ref (ad 83)]) rfl) ?_
              refine m_iconst C d_Md_laysBase_120 ?_
              refine m_iload_n C hl 2 d_Md_laysBase_121 rfl rfl ?_
              obtain ⟨h29, e28, hM⟩ := bnd_some hM
              refine aftV C w (runV C w.1 w.2 kc_Md sh_83 (Nat.le_of_ble_eq_true rfl) (c_Md_claims hI e28) lk_Md_115 mb_Md_claims rfl ⟨Nat.le_of_ble_eq_true rfl, Nat.le_of_ble_eq_true rfl⟩ ⟨Nat.zero_le _, Nat.zero_le _⟩ (Nat.le_of_ble_eq_true rfl) d_Md_laysBase_122 hl.1 (rest := []) rfl) (fun H locs w => ?_)
              refine m_iinc C hl 2 [(2, .int (iZ (v2 + 1))), (0, .ref (ad 83)), (1, .int (iZ v1))] d_Md_laysBase_125 rfl (by decide) rfl (fun ls hl => ?_)
              refine m_goto C 36 d_Md_laysBase_128 (by decide) ?_
              exact ih (v2 + 1) h29 _ _ w _ (lv_sub hl [1, 2, 0] rfl) hM
        refine m_icmp_ne C hM 81 d_Md_laysBase_66 (by decide) (fun hM => ?_) (fun hM => ?_)
        · exact hJ19 h hM _ _ w _ hl
        · refine m_aload_n C hl 0 d_Md_laysBase_69 rfl rfl ?_
          refine m_aload_n C hl 0 d_Md_laysBase_70 rfl rfl ?_
          refine m_iload_n C hl 2 d_Md_laysBase_71 rfl rfl ?_
          refine m_iconst C d_Md_laysBase_72 ?_
          obtain ⟨x31, e30, hM⟩ := bnd_some hM
          refine aftR (runV C w.1 w.2 kc_Md sh_83 (Nat.le_of_ble_eq_true rfl) (c_Md_of0 hI e30) lk_Md_90 mb_Md_of0 rfl ⟨Nat.le_of_ble_eq_true rfl, Nat.le_of_ble_eq_true rfl⟩ ⟨Nat.zero_le _, Nat.zero_le _⟩ (Nat.le_of_ble_eq_true rfl) d_Md_laysBase_73 hl.1 (rest := [.ref (ad 83)]) rfl) ?_
          refine m_iconst C d_Md_laysBase_76 ?_
          refine m_iload_n C hl 2 d_Md_laysBase_77 rfl rfl ?_
          obtain ⟨h33, e32, hM⟩ := bnd_some hM
          refine aftV C w (runV C w.1 w.2 kc_Md sh_83 (Nat.le_of_ble_eq_true rfl) (c_Md_claims hI e32) lk_Md_115 mb_Md_claims rfl ⟨Nat.le_of_ble_eq_true rfl, Nat.le_of_ble_eq_true rfl⟩ ⟨Nat.zero_le _, Nat.zero_le _⟩ (Nat.le_of_ble_eq_true rfl) d_Md_laysBase_78 hl.1 (rest := []) rfl) (fun H locs w => ?_)
          exact hJ19 h33 hM _ _ w _ hl
      · refine m_goto C 125 d_Md_laysBase_57 (by decide) ?_
        refine m_iinc C hl 2 [(2, .int (iZ (v2 + 1))), (0, .ref (ad 83)), (1, .int (iZ v1))] d_Md_laysBase_125 rfl (by decide) rfl (fun ls hl => ?_)
        refine m_goto C 36 d_Md_laysBase_128 (by decide) ?_
        exact ih (v2 + 1) h _ _ w _ (lv_sub hl [1, 2, 0] rfl) hM
set_option maxHeartbeats 4000000 in
set_option maxRecDepth 100000 in
theorem c_Md_laysBase {l : Launch} {D : va_G} {ad : Nat → Nat} {cA : Nat → ClassId} {sd sv : Nat → Nat} {h : Hp} {N : Nat} {a1 : Int} {out : Hp} (hI : Inj97 ad) (hM : M_Md_laysBase N h a1 = some out) : Met l y_Md_laysBase (.code y_Md_laysBase prog_13_method_26_code 3 none :: TT) (rmD 3) (PC D ad cA sd sv h [.ref (ad 83), .int (iZ a1)]) (QV D ad cA out) 0 0 (FA ad) := by
  unfold M_Md_laysBase at hM
  refine entM (by decide +kernel) hI (Nat.le_of_ble_eq_true rfl) ?_
  intro p e s m args below meth c C hr hlk hP ls hl
  have C : Cx p s m args c prog_13_method_26_code 3 "FeastBookModel" D ad cA sd sv (FA ad) := C
  have hl : lv_has ls 3 [(0, .ref (ad 83)), (1, .int (iZ a1))] := hl
  have w : Wd s D ad cA (FA ad) h s.heap [] := ⟨hP, va_S.rf⟩
  refine m_aload_n C hl 0 d_Md_laysBase_0 rfl rfl ?_
  refine m_iconst C d_Md_laysBase_1 ?_
  refine m_puti C w kc_Md sh_83 (Nat.le_of_ble_eq_true rfl) 22 hM rfl (by decide) rfl rfl fk_Md_103 d_Md_laysBase_2 (fun h1 H locs w hM => ?_)
  refine m_aload_n C hl 0 d_Md_laysBase_5 rfl rfl ?_
  refine m_iconst C d_Md_laysBase_6 ?_
  refine m_puti C w kc_Md sh_83 (Nat.le_of_ble_eq_true rfl) 23 hM rfl (by decide) rfl rfl fk_Md_106 d_Md_laysBase_7 (fun h2 H locs w hM => ?_)
  refine m_aload_n C hl 0 d_Md_laysBase_10 rfl rfl ?_
  refine m_iconst C d_Md_laysBase_11 ?_
  refine m_puti C w kc_Md sh_83 (Nat.le_of_ble_eq_true rfl) 24 hM rfl (by decide) rfl rfl fk_Md_109 d_Md_laysBase_12 (fun h3 H locs w hM => ?_)
  refine m_aload_n C hl 0 d_Md_laysBase_15 rfl rfl ?_
  refine m_iload_n C hl 1 d_Md_laysBase_16 rfl rfl ?_
  obtain ⟨x5, e4, hM⟩ := bnd_some hM
  refine aftR (runV C w.1 w.2 kc_Md sh_83 (Nat.le_of_ble_eq_true rfl) (c_Md_isSunday hI e4) lk_Md_100 mb_Md_isSunday rfl ⟨Nat.le_of_ble_eq_true rfl, Nat.le_of_ble_eq_true rfl⟩ ⟨Nat.zero_le _, Nat.zero_le _⟩ (Nat.le_of_ble_eq_true rfl) d_Md_laysBase_17 hl.1 (rest := []) rfl) ?_
  refine lt_join hM (fun j10 ej hM => ?_)
  have hJ10 : ∀ (h_10 : Hp), j10 h_10 = some out → ∀ (H : Heap) (locs : List Loc), Wd s D ad cA (FA ad) h_10 H locs → ∀ ls : Array Slot, lv_has ls 3 [(0, .ref (ad 83)), (1, .int (iZ a1))] → W p l e (rmD 3) s m args below meth c H locs 0 0 (MQ below (QV D ad cA out) args s 0 0 (FA ad)) (F0 m 34 ls []) := by
    intro h_10 hM H locs w ls hl
    subst ej
    dsimp only at hM
    refine m_iconst C d_Md_laysBase_34 ?_
    refine m_istore_n C hl [(2, .int (iZ 0)), (0, .ref (ad 83)), (1, .int (iZ a1))] d_Md_laysBase_35 rfl (by decide) rfl (fun ls hl => ?_)
    exact w_Md_laysBase_L36 N hI C hr hlk a1 _ 0 h_10 _ _ w _ (lv_sub hl [1, 2, 0] rfl) hM
  refine m_if_eq C hM 34 d_Md_laysBase_20 (by decide) (fun hM => ?_) (fun hM => ?_)
  · exact hJ10 h3 hM _ _ w _ hl
  · refine m_aload_n C hl 0 d_Md_laysBase_23 rfl rfl ?_
    refine m_aload_n C hl 0 d_Md_laysBase_24 rfl rfl ?_
    refine m_iload_n C hl 1 d_Md_laysBase_25 rfl rfl ?_
    obtain ⟨x35, e34, hM⟩ := bnd_some hM
    refine aftR (runV C w.1 w.2 kc_Md sh_83 (Nat.le_of_ble_eq_true rfl) (c_Md_sundayRank hI e34) lk_Md_112 mb_Md_sundayRank rfl ⟨Nat.le_of_ble_eq_true rfl, Nat.le_of_ble_eq_true rfl⟩ ⟨Nat.zero_le _, Nat.zero_le _⟩ (Nat.le_of_ble_eq_true rfl) d_Md_laysBase_26 hl.1 (rest := [.ref (ad 83)]) rfl) ?_
    refine m_iconst C d_Md_laysBase_29 ?_
    refine m_iconst C d_Md_laysBase_30 ?_
    obtain ⟨h37, e36, hM⟩ := bnd_some hM
    refine aftV C w (runV C w.1 w.2 kc_Md sh_83 (Nat.le_of_ble_eq_true rfl) (c_Md_claims hI e36) lk_Md_115 mb_Md_claims rfl ⟨Nat.le_of_ble_eq_true rfl, Nat.le_of_ble_eq_true rfl⟩ ⟨Nat.zero_le _, Nat.zero_le _⟩ (Nat.le_of_ble_eq_true rfl) d_Md_laysBase_31 hl.1 (rest := []) rfl) (fun H locs w => ?_)
    exact hJ10 h37 hM _ _ w _ hl

def y_Su_left : MethodName := ⟨"FeastBook$Sums", "left", "(II)I"⟩
theorem d_Su_left_0 : decode prog_9_method_2_code 0 = .ok (.iload_n 1, 1) := by decide +kernel
theorem d_Su_left_1 : decode prog_9_method_2_code 1 = .ok (.ifCond .le 9, 3) := by decide +kernel
theorem d_Su_left_4 : decode prog_9_method_2_code 4 = .ok (.iload_n 0, 1) := by decide +kernel
theorem d_Su_left_5 : decode prog_9_method_2_code 5 = .ok (.iload_n 1, 1) := by decide +kernel
theorem d_Su_left_6 : decode prog_9_method_2_code 6 = .ok (.irem, 1) := by decide +kernel
theorem d_Su_left_7 : decode prog_9_method_2_code 7 = .ok (.goto 4, 3) := by decide +kernel
theorem d_Su_left_10 : decode prog_9_method_2_code 10 = .ok (.iconst 0, 1) := by decide +kernel
theorem d_Su_left_11 : decode prog_9_method_2_code 11 = .ok (.ireturn, 1) := by decide +kernel
def M_Su_left (a0 a1 : Int) : Option Int := if leb a1 0 then some 0 else (rmI a0 a1).bind (fun x1 => some x1)
set_option maxHeartbeats 4000000 in
set_option maxRecDepth 100000 in
theorem c_Su_left {l : Launch} {D : va_G} {ad : Nat → Nat} {cA : Nat → ClassId} {sd sv : Nat → Nat} {h : Hp} {a0 a1 : Int} {out : Int} (hI : Inj97 ad) (hM : M_Su_left a0 a1 = some out) : Met l y_Su_left (.code y_Su_left prog_9_method_2_code 2 (some .int) :: TT) (rmD 0) (PC D ad cA sd sv h [.int (iZ a0), .int (iZ a1)]) (QR out) 0 0 (fun _ => False) := by
  unfold M_Su_left at hM
  refine entM (by decide) hI (Nat.le_of_ble_eq_true rfl) ?_
  intro p e s m args below meth c C hr hlk hP ls hl
  have C : Cx p s m args c prog_9_method_2_code 2 "FeastBook$Sums" D ad cA sd sv (FA ad) := C
  have hl : lv_has ls 2 [(0, .int (iZ a0)), (1, .int (iZ a1))] := hl
  refine m_iload_n C hl 1 d_Su_left_0 rfl rfl ?_
  refine m_if_le C hM 10 d_Su_left_1 (by decide) (fun hM => ?_) (fun hM => ?_)
  · refine m_iconst C d_Su_left_10 ?_
    exact m_iretR C hr hlk hM d_Su_left_11
  · refine m_iload_n C hl 0 d_Su_left_4 rfl rfl ?_
    refine m_iload_n C hl 1 d_Su_left_5 rfl rfl ?_
    refine m_irem C hM d_Su_left_6 (fun x1 hM => ?_)
    refine m_goto C 11 d_Su_left_7 (by decide) ?_
    exact m_iretR C hr hlk hM d_Su_left_11
def y_Book_isLeap : MethodName := ⟨"FeastBook$Book", "isLeap", "(I)Z"⟩
theorem d_Book_isLeap_0 : decode prog_2_method_6_code 0 = .ok (.aload_n 0, 1) := by decide +kernel
theorem d_Book_isLeap_1 : decode prog_2_method_6_code 1 = .ok (.getfield 52, 3) := by decide +kernel
theorem d_Book_isLeap_4 : decode prog_2_method_6_code 4 = .ok (.ifCond .le 16, 3) := by decide +kernel
theorem d_Book_isLeap_7 : decode prog_2_method_6_code 7 = .ok (.iload_n 1, 1) := by decide +kernel
theorem d_Book_isLeap_8 : decode prog_2_method_6_code 8 = .ok (.aload_n 0, 1) := by decide +kernel
theorem d_Book_isLeap_9 : decode prog_2_method_6_code 9 = .ok (.getfield 52, 3) := by decide +kernel
theorem d_Book_isLeap_12 : decode prog_2_method_6_code 12 = .ok (.irem, 1) := by decide +kernel
theorem d_Book_isLeap_13 : decode prog_2_method_6_code 13 = .ok (.ifCond .ne 7, 3) := by decide +kernel
theorem d_Book_isLeap_16 : decode prog_2_method_6_code 16 = .ok (.iconst 1, 1) := by decide +kernel
theorem d_Book_isLeap_17 : decode prog_2_method_6_code 17 = .ok (.goto 4, 3) := by decide +kernel
theorem d_Book_isLeap_20 : decode prog_2_method_6_code 20 = .ok (.iconst 0, 1) := by decide +kernel
theorem d_Book_isLeap_21 : decode prog_2_method_6_code 21 = .ok (.ireturn, 1) := by decide +kernel
theorem fk_Book_52 : Cond.fieldLink "FeastBook$Book" 52 (T_Book 4).1 (T_Book 4).2.1 (T_Book 4).2.2.1 ∈ TT := mT1 164 (by decide +kernel) (by decide +kernel)
def M_Book_isLeap (h : Hp) (B : Nat) (a1 : Int) : Option Int := if leb (h B 4) 0 then rtB 0 else (rmI a1 (h B 4)).bind (fun x1 => if eqb x1 0 then rtB 1 else rtB 0)
set_option maxHeartbeats 4000000 in
set_option maxRecDepth 100000 in
theorem c_Book_isLeap {l : Launch} {D : va_G} {ad : Nat → Nat} {cA : Nat → ClassId} {sd sv : Nat → Nat} {h : Hp} {B : Nat} {a1 : Int} {out : Int} (hI : Inj97 ad) (hB : isBk B) (hM : M_Book_isLeap h B a1 = some out) : Met l y_Book_isLeap (.code y_Book_isLeap prog_2_method_6_code 2 (some .boolean) :: TT) (rmD 0) (PC D ad cA sd sv h [.ref (ad B), .int (iZ a1)]) (QR out) 0 0 (fun _ => False) := by
  unfold M_Book_isLeap at hM
  refine entM (by decide) hI (Nat.le_of_ble_eq_true rfl) ?_
  intro p e s m args below meth c C hr hlk hP ls hl
  have C : Cx p s m args c prog_2_method_6_code 2 "FeastBook$Book" D ad cA sd sv (FA ad) := C
  have hl : lv_has ls 2 [(0, .ref (ad B)), (1, .int (iZ a1))] := hl
  refine m_aload_n C hl 0 d_Book_isLeap_0 rfl rfl ?_
  refine m_geti C hP kc_Book (shB_0 hB) (ltB0 hB) 4 rfl (by decide) fk_Book_52 d_Book_isLeap_1 ?_
  refine m_if_le C hM 20 d_Book_isLeap_4 (by decide) (fun hM => ?_) (fun hM => ?_)
  · refine m_iconst C d_Book_isLeap_20 ?_
    exact m_zretR C hr hlk hM d_Book_isLeap_21
  · refine m_iload_n C hl 1 d_Book_isLeap_7 rfl rfl ?_
    refine m_aload_n C hl 0 d_Book_isLeap_8 rfl rfl ?_
    refine m_geti C hP kc_Book (shB_0 hB) (ltB0 hB) 4 rfl (by decide) fk_Book_52 d_Book_isLeap_9 ?_
    refine m_irem C hM d_Book_isLeap_12 (fun x1 hM => ?_)
    refine m_if_ne C hM 20 d_Book_isLeap_13 (by decide) (fun hM => ?_) (fun hM => ?_)
    · refine m_iconst C d_Book_isLeap_20 ?_
      exact m_zretR C hr hlk hM d_Book_isLeap_21
    · refine m_iconst C d_Book_isLeap_16 ?_
      refine m_goto C 21 d_Book_isLeap_17 (by decide) ?_
      exact m_zretR C hr hlk hM d_Book_isLeap_21
def y_Book_daysOf : MethodName := ⟨"FeastBook$Book", "daysOf", "(I)I"⟩
theorem d_Book_daysOf_0 : decode prog_2_method_7_code 0 = .ok (.aload_n 0, 1) := by decide +kernel
theorem d_Book_daysOf_1 : decode prog_2_method_7_code 1 = .ok (.iload_n 1, 1) := by decide +kernel
theorem d_Book_daysOf_2 : decode prog_2_method_7_code 2 = .ok (.invokevirtual 93, 3) := by decide +kernel
theorem d_Book_daysOf_5 : decode prog_2_method_7_code 5 = .ok (.ifCond .eq 12, 3) := by decide +kernel
theorem d_Book_daysOf_8 : decode prog_2_method_7_code 8 = .ok (.aload_n 0, 1) := by decide +kernel
theorem d_Book_daysOf_9 : decode prog_2_method_7_code 9 = .ok (.getfield 49, 3) := by decide +kernel
theorem d_Book_daysOf_12 : decode prog_2_method_7_code 12 = .ok (.iconst 1, 1) := by decide +kernel
theorem d_Book_daysOf_13 : decode prog_2_method_7_code 13 = .ok (.iadd, 1) := by decide +kernel
theorem d_Book_daysOf_14 : decode prog_2_method_7_code 14 = .ok (.goto 7, 3) := by decide +kernel
theorem d_Book_daysOf_17 : decode prog_2_method_7_code 17 = .ok (.aload_n 0, 1) := by decide +kernel
theorem d_Book_daysOf_18 : decode prog_2_method_7_code 18 = .ok (.getfield 49, 3) := by decide +kernel
theorem d_Book_daysOf_21 : decode prog_2_method_7_code 21 = .ok (.ireturn, 1) := by decide +kernel
theorem mb_Book_isLeap : MBv R_Book y_Book_isLeap prog_2_method_6_code 2 (some .boolean) 1 := ⟨mT3 59 (by decide +kernel) (by decide +kernel), mT3 60 (by decide +kernel) (by decide +kernel), mT1 4 (by decide +kernel) (by decide +kernel), mT3 61 (by decide +kernel) (by decide +kernel), by decide, rfl, by decide +kernel, by decide +kernel, by decide +kernel⟩
theorem fk_Book_49 : Cond.fieldLink "FeastBook$Book" 49 (T_Book 3).1 (T_Book 3).2.1 (T_Book 3).2.2.1 ∈ TT := mT1 162 (by decide +kernel) (by decide +kernel)
theorem lk_Book_93 : Cond.methodLink "FeastBook$Book" 93 y_Book_isLeap ∈ TT := mT3 58 (by decide +kernel) (by decide +kernel)
def M_Book_daysOf (h : Hp) (B : Nat) (a1 : Int) : Option Int := (M_Book_isLeap h B a1).bind (fun x2 => if eqb x2 0 then some (h B 3) else some ((h B 3) + 1))
set_option maxHeartbeats 4000000 in
set_option maxRecDepth 100000 in
theorem c_Book_daysOf {l : Launch} {D : va_G} {ad : Nat → Nat} {cA : Nat → ClassId} {sd sv : Nat → Nat} {h : Hp} {B : Nat} {a1 : Int} {out : Int} (hI : Inj97 ad) (hB : isBk B) (hM : M_Book_daysOf h B a1 = some out) : Met l y_Book_daysOf (.code y_Book_daysOf prog_2_method_7_code 2 (some .int) :: TT) (rmD 1) (PC D ad cA sd sv h [.ref (ad B), .int (iZ a1)]) (QR out) 0 0 (fun _ => False) := by
  unfold M_Book_daysOf at hM
  refine entM (by decide) hI (Nat.le_of_ble_eq_true rfl) ?_
  intro p e s m args below meth c C hr hlk hP ls hl
  have C : Cx p s m args c prog_2_method_7_code 2 "FeastBook$Book" D ad cA sd sv (FA ad) := C
  have hl : lv_has ls 2 [(0, .ref (ad B)), (1, .int (iZ a1))] := hl
  refine m_aload_n C hl 0 d_Book_daysOf_0 rfl rfl ?_
  refine m_iload_n C hl 1 d_Book_daysOf_1 rfl rfl ?_
  obtain ⟨x2, e1, hM⟩ := bnd_some hM
  refine aftR (runV C hP va_S.rf kc_Book (shB_0 hB) (ltB0 hB) (c_Book_isLeap hI hB e1) lk_Book_93 mb_Book_isLeap rfl ⟨Nat.le_of_ble_eq_true rfl, Nat.le_of_ble_eq_true rfl⟩ ⟨Nat.zero_le _, Nat.zero_le _⟩ (Nat.le_of_ble_eq_true rfl) d_Book_daysOf_2 hl.1 (rest := []) rfl) ?_
  refine m_if_eq C hM 17 d_Book_daysOf_5 (by decide) (fun hM => ?_) (fun hM => ?_)
  · refine m_aload_n C hl 0 d_Book_daysOf_17 rfl rfl ?_
    refine m_geti C hP kc_Book (shB_0 hB) (ltB0 hB) 3 rfl (by decide) fk_Book_49 d_Book_daysOf_18 ?_
    exact m_iretR C hr hlk hM d_Book_daysOf_21
  · refine m_aload_n C hl 0 d_Book_daysOf_8 rfl rfl ?_
    refine m_geti C hP kc_Book (shB_0 hB) (ltB0 hB) 3 rfl (by decide) fk_Book_49 d_Book_daysOf_9 ?_
    refine m_iconst C d_Book_daysOf_12 ?_
    refine m_iadd C d_Book_daysOf_13 ?_
    refine m_goto C 21 d_Book_daysOf_14 (by decide) ?_
    exact m_iretR C hr hlk hM d_Book_daysOf_21
def y_Book_hasLeap : MethodName := ⟨"FeastBook$Book", "hasLeap", "(I)Z"⟩
theorem d_Book_hasLeap_0 : decode prog_2_method_13_code 0 = .ok (.iload_n 1, 1) := by decide +kernel
theorem d_Book_hasLeap_1 : decode prog_2_method_13_code 1 = .ok (.bipush 40, 2) := by decide +kernel
theorem d_Book_hasLeap_3 : decode prog_2_method_13_code 3 = .ok (.if_icmp .lt 7, 3) := by decide +kernel
theorem d_Book_hasLeap_6 : decode prog_2_method_13_code 6 = .ok (.iconst 1, 1) := by decide +kernel
theorem d_Book_hasLeap_7 : decode prog_2_method_13_code 7 = .ok (.goto 4, 3) := by decide +kernel
theorem d_Book_hasLeap_10 : decode prog_2_method_13_code 10 = .ok (.iconst 0, 1) := by decide +kernel
theorem d_Book_hasLeap_11 : decode prog_2_method_13_code 11 = .ok (.ireturn, 1) := by decide +kernel
def M_Book_hasLeap (B : Nat) (a1 : Int) : Option Int := if ltb a1 40 then rtB 0 else rtB 1
set_option maxHeartbeats 4000000 in
set_option maxRecDepth 100000 in
theorem c_Book_hasLeap {l : Launch} {D : va_G} {ad : Nat → Nat} {cA : Nat → ClassId} {sd sv : Nat → Nat} {h : Hp} {B : Nat} {a1 : Int} {out : Int} (hI : Inj97 ad) (hB : isBk B) (hM : M_Book_hasLeap B a1 = some out) : Met l y_Book_hasLeap (.code y_Book_hasLeap prog_2_method_13_code 2 (some .boolean) :: TT) (rmD 0) (PC D ad cA sd sv h [.ref (ad B), .int (iZ a1)]) (QR out) 0 0 (fun _ => False) := by
  unfold M_Book_hasLeap at hM
  refine entM (by decide) hI (Nat.le_of_ble_eq_true rfl) ?_
  intro p e s m args below meth c C hr hlk hP ls hl
  have C : Cx p s m args c prog_2_method_13_code 2 "FeastBook$Book" D ad cA sd sv (FA ad) := C
  have hl : lv_has ls 2 [(0, .ref (ad B)), (1, .int (iZ a1))] := hl
  refine m_iload_n C hl 1 d_Book_hasLeap_0 rfl rfl ?_
  refine m_bipush C d_Book_hasLeap_1 (by decide) ?_
  refine m_icmp_lt C hM 10 d_Book_hasLeap_3 (by decide) (fun hM => ?_) (fun hM => ?_)
  · refine m_iconst C d_Book_hasLeap_10 ?_
    exact m_zretR C hr hlk hM d_Book_hasLeap_11
  · refine m_iconst C d_Book_hasLeap_6 ?_
    refine m_goto C 11 d_Book_hasLeap_7 (by decide) ?_
    exact m_zretR C hr hlk hM d_Book_hasLeap_11
def y_Book_monthStart : MethodName := ⟨"FeastBook$Book", "monthStart", "(II)I"⟩
theorem d_Book_monthStart_0 : decode prog_2_method_17_code 0 = .ok (.aload_n 0, 1) := by decide +kernel
theorem d_Book_monthStart_1 : decode prog_2_method_17_code 1 = .ok (.iload_n 1, 1) := by decide +kernel
theorem d_Book_monthStart_2 : decode prog_2_method_17_code 2 = .ok (.invokevirtual 121, 3) := by decide +kernel
theorem d_Book_monthStart_5 : decode prog_2_method_17_code 5 = .ok (.ifCond .eq 15, 3) := by decide +kernel
theorem d_Book_monthStart_8 : decode prog_2_method_17_code 8 = .ok (.iload_n 2, 1) := by decide +kernel
theorem d_Book_monthStart_9 : decode prog_2_method_17_code 9 = .ok (.aload_n 0, 1) := by decide +kernel
theorem d_Book_monthStart_10 : decode prog_2_method_17_code 10 = .ok (.getfield 55, 3) := by decide +kernel
theorem d_Book_monthStart_13 : decode prog_2_method_17_code 13 = .ok (.if_icmp .le 7, 3) := by decide +kernel
theorem d_Book_monthStart_16 : decode prog_2_method_17_code 16 = .ok (.iconst 1, 1) := by decide +kernel
theorem d_Book_monthStart_17 : decode prog_2_method_17_code 17 = .ok (.goto 4, 3) := by decide +kernel
theorem d_Book_monthStart_20 : decode prog_2_method_17_code 20 = .ok (.iconst 0, 1) := by decide +kernel
theorem d_Book_monthStart_21 : decode prog_2_method_17_code 21 = .ok (.istore_n 3, 1) := by decide +kernel
theorem d_Book_monthStart_22 : decode prog_2_method_17_code 22 = .ok (.iconst 0, 1) := by decide +kernel
theorem d_Book_monthStart_23 : decode prog_2_method_17_code 23 = .ok (.istore 4, 2) := by decide +kernel
theorem d_Book_monthStart_25 : decode prog_2_method_17_code 25 = .ok (.iload 4, 2) := by decide +kernel
theorem d_Book_monthStart_27 : decode prog_2_method_17_code 27 = .ok (.iload_n 2, 1) := by decide +kernel
theorem d_Book_monthStart_28 : decode prog_2_method_17_code 28 = .ok (.if_icmp .ge 28, 3) := by decide +kernel
theorem d_Book_monthStart_31 : decode prog_2_method_17_code 31 = .ok (.iload 4, 2) := by decide +kernel
theorem d_Book_monthStart_33 : decode prog_2_method_17_code 33 = .ok (.aload_n 0, 1) := by decide +kernel
theorem d_Book_monthStart_34 : decode prog_2_method_17_code 34 = .ok (.getfield 46, 3) := by decide +kernel
theorem d_Book_monthStart_37 : decode prog_2_method_17_code 37 = .ok (.if_icmp .ge 19, 3) := by decide +kernel
theorem d_Book_monthStart_40 : decode prog_2_method_17_code 40 = .ok (.iload_n 3, 1) := by decide +kernel
theorem d_Book_monthStart_41 : decode prog_2_method_17_code 41 = .ok (.aload_n 0, 1) := by decide +kernel
theorem d_Book_monthStart_42 : decode prog_2_method_17_code 42 = .ok (.getfield 18, 3) := by decide +kernel
theorem d_Book_monthStart_45 : decode prog_2_method_17_code 45 = .ok (.iload 4, 2) := by decide +kernel
theorem d_Book_monthStart_47 : decode prog_2_method_17_code 47 = .ok (.iaload, 1) := by decide +kernel
theorem d_Book_monthStart_48 : decode prog_2_method_17_code 48 = .ok (.iadd, 1) := by decide +kernel
theorem d_Book_monthStart_49 : decode prog_2_method_17_code 49 = .ok (.istore_n 3, 1) := by decide +kernel
theorem d_Book_monthStart_50 : decode prog_2_method_17_code 50 = .ok (.iinc 4 1, 3) := by decide +kernel
theorem d_Book_monthStart_53 : decode prog_2_method_17_code 53 = .ok (.goto (-28), 3) := by decide +kernel
theorem d_Book_monthStart_56 : decode prog_2_method_17_code 56 = .ok (.iload_n 3, 1) := by decide +kernel
theorem d_Book_monthStart_57 : decode prog_2_method_17_code 57 = .ok (.ireturn, 1) := by decide +kernel
theorem mb_Book_hasLeap : MBv R_Book y_Book_hasLeap prog_2_method_13_code 2 (some .boolean) 1 := ⟨mT4 172 (by decide +kernel) (by decide +kernel), mT4 173 (by decide +kernel) (by decide +kernel), mT1 4 (by decide +kernel) (by decide +kernel), mT4 174 (by decide +kernel) (by decide +kernel), by decide, rfl, by decide +kernel, by decide +kernel, by decide +kernel⟩
theorem fk_Book_18 : Cond.fieldLink "FeastBook$Book" 18 (T_Book 14).1 (T_Book 14).2.1 (T_Book 14).2.2.1 ∈ TT := mT1 192 (by decide +kernel) (by decide +kernel)
theorem fk_Book_46 : Cond.fieldLink "FeastBook$Book" 46 (T_Book 2).1 (T_Book 2).2.1 (T_Book 2).2.2.1 ∈ TT := mT1 159 (by decide +kernel) (by decide +kernel)
theorem fk_Book_55 : Cond.fieldLink "FeastBook$Book" 55 (T_Book 5).1 (T_Book 5).2.1 (T_Book 5).2.2.1 ∈ TT := mT1 167 (by decide +kernel) (by decide +kernel)
theorem lk_Book_121 : Cond.methodLink "FeastBook$Book" 121 y_Book_hasLeap ∈ TT := mT4 171 (by decide +kernel) (by decide +kernel)
def Book_monthStart_L25 (N : Nat) (h : Hp) (B : Nat) (v2 : Int) : Nat → Int → Int → Option Int
  | 0, _, _ => none
  | n + 1, v3, v4 => if leb v2 v4 then some v3 else if leb (h B 2) v4 then some v3 else (rdA h (B + 1) 8 v4).bind (fun x4 => Book_monthStart_L25 N h B v2 n (v3 + x4) (v4 + 1))
def M_Book_monthStart (N : Nat) (h : Hp) (B : Nat) (a1 a2 : Int) : Option Int := (M_Book_hasLeap B a1).bind (fun x2 => lt' (fun (s0_3 : Int) => Book_monthStart_L25 N h B a2 N s0_3 0) (fun j3 => if eqb x2 0 then j3 0 else if leb a2 (h B 5) then j3 0 else j3 1))
set_option maxHeartbeats 4000000 in
set_option maxRecDepth 100000 in
theorem w_Book_monthStart_L25 {p : Program} {l : Launch} {e : Env} {s : State} {m : MethodId} {args : Array Value} {below : List Frame} {meth : Method} {c : Code} {D : va_G} {ad : Nat → Nat} {cA : Nat → ClassId} {sd sv : Nat → Nat} {out : Int} (N : Nat) (B : Nat) (hB : isBk B) (hI : Inj97 ad) (C : Cx p s m args c prog_2_method_17_code 5 "FeastBook$Book" D ad cA sd sv (FA ad)) (hr : meth.sig.returnType = (some .int)) (hlk : meth.locks = false) (v1 v2 : Int) (h : Hp) (hP : va_P D clL (wl ad cA h) s.heap) : ∀ (n : Nat) (v3 v4 : Int), ∀ ls : Array Slot, lv_has ls 5 [(0, .ref (ad B)), (1, .int (iZ v1)), (2, .int (iZ v2)), (3, .int (iZ v3)), (4, .int (iZ v4))] → Book_monthStart_L25 N h B v2 n v3 v4 = some out → W p l e (rmD 1) s m args below meth c s.heap [] 0 0 (MQ below (QR out) args s 0 0 (fun _ => False)) (F0 m 25 ls []) := by
  intro n
  induction n with
  | zero =>
    intro v3 v4 ls hl hM
    rw [Book_monthStart_L25] at hM
    cases hM
  | succ n ih =>
    intro v3 v4 ls hl hM
    rw [Book_monthStart_L25] at hM
    refine m_iload C hl 4 d_Book_monthStart_25 rfl ?_
    refine m_iload_n C hl 2 d_Book_monthStart_27 rfl rfl ?_
    refine m_icmp_ge C hM 56 d_Book_monthStart_28 (by decide) (fun hM => ?_) (fun hM => ?_)
    · refine m_iload_n C hl 3 d_Book_monthStart_56 rfl rfl ?_
      exact m_iretR C hr hlk hM d_Book_monthStart_57
    · refine m_iload C hl 4 d_Book_monthStart_31 rfl ?_
      refine m_aload_n C hl 0 d_Book_monthStart_33 rfl rfl ?_
      refine m_geti C hP kc_Book (shB_0 hB) (ltB0 hB) 2 rfl (by decide) fk_Book_46 d_Book_monthStart_34 ?_
      refine m_icmp_ge C hM 56 d_Book_monthStart_37 (by decide) (fun hM => ?_) (fun hM => ?_)
      · refine m_iload_n C hl 3 d_Book_monthStart_56 rfl rfl ?_
        exact m_iretR C hr hlk hM d_Book_monthStart_57
      · refine m_iload_n C hl 3 d_Book_monthStart_40 rfl rfl ?_
        refine m_aload_n C hl 0 d_Book_monthStart_41 rfl rfl ?_
        refine m_getr C hP kc_Book (shB_0 hB) (ltB0 hB) 14 (B + 1) rfl (by decide) fk_Book_18 d_Book_monthStart_42 ?_
        refine m_iload C hl 4 d_Book_monthStart_45 rfl ?_
        refine m_iald C hP (shB_1 hB) (ltB hB 1 (by decide)) (Nat.le_of_ble_eq_true rfl) hM d_Book_monthStart_47 (fun x4 hM => ?_)
        refine m_iadd C d_Book_monthStart_48 ?_
        refine m_istore_n C hl [(3, .int (iZ (v3 + x4))), (0, .ref (ad B)), (1, .int (iZ v1)), (2, .int (iZ v2)), (4, .int (iZ v4))] d_Book_monthStart_49 rfl (by decide) rfl (fun ls hl => ?_)
        refine m_iinc C hl 4 [(4, .int (iZ (v4 + 1))), (3, .int (iZ (v3 + x4))), (0, .ref (ad B)), (1, .int (iZ v1)), (2, .int (iZ v2))] d_Book_monthStart_50 rfl (by decide) rfl (fun ls hl => ?_)
        refine m_goto C 25 d_Book_monthStart_53 (by decide) ?_
        exact ih (v3 + x4) (v4 + 1) _ (lv_sub hl [2, 3, 4, 1, 0] rfl) hM
set_option maxHeartbeats 4000000 in
set_option maxRecDepth 100000 in
theorem c_Book_monthStart {l : Launch} {D : va_G} {ad : Nat → Nat} {cA : Nat → ClassId} {sd sv : Nat → Nat} {h : Hp} {N : Nat} {B : Nat} {a1 a2 : Int} {out : Int} (hI : Inj97 ad) (hB : isBk B) (hM : M_Book_monthStart N h B a1 a2 = some out) : Met l y_Book_monthStart (.code y_Book_monthStart prog_2_method_17_code 5 (some .int) :: TT) (rmD 1) (PC D ad cA sd sv h [.ref (ad B), .int (iZ a1), .int (iZ a2)]) (QR out) 0 0 (fun _ => False) := by
  unfold M_Book_monthStart at hM
  refine entM (by decide) hI (Nat.le_of_ble_eq_true rfl) ?_
  intro p e s m args below meth c C hr hlk hP ls hl
  have C : Cx p s m args c prog_2_method_17_code 5 "FeastBook$Book" D ad cA sd sv (FA ad) := C
  have hl : lv_has ls 5 [(0, .ref (ad B)), (1, .int (iZ a1)), (2, .int (iZ a2))] := hl
  refine m_aload_n C hl 0 d_Book_monthStart_0 rfl rfl ?_
  refine m_iload_n C hl 1 d_Book_monthStart_1 rfl rfl ?_
  obtain ⟨x2, e1, hM⟩ := bnd_some hM
  refine aftR (runV C hP va_S.rf kc_Book (shB_0 hB) (ltB0 hB) (c_Book_hasLeap hI hB e1) lk_Book_121 mb_Book_hasLeap rfl ⟨Nat.le_of_ble_eq_true rfl, Nat.le_of_ble_eq_true rfl⟩ ⟨Nat.zero_le _, Nat.zero_le _⟩ (Nat.le_of_ble_eq_true rfl) d_Book_monthStart_2 hl.1 (rest := []) rfl) ?_
  refine lt_join hM (fun j3 ej hM => ?_)
  have hJ3 : ∀ (s0_3 : Int), j3 s0_3 = some out → ∀ ls : Array Slot, lv_has ls 5 [(0, .ref (ad B)), (1, .int (iZ a1)), (2, .int (iZ a2))] → W p l e (rmD 1) s m args below meth c s.heap [] 0 0 (MQ below (QR out) args s 0 0 (fun _ => False)) (F0 m 21 ls [.int (iZ s0_3)]) := by
    intro s0_3 hM ls hl
    subst ej
    dsimp only at hM
    refine m_istore_n C hl [(3, .int (iZ s0_3)), (0, .ref (ad B)), (1, .int (iZ a1)), (2, .int (iZ a2))] d_Book_monthStart_21 rfl (by decide) rfl (fun ls hl => ?_)
    refine m_iconst C d_Book_monthStart_22 ?_
    refine m_istore C hl [(4, .int (iZ 0)), (3, .int (iZ s0_3)), (0, .ref (ad B)), (1, .int (iZ a1)), (2, .int (iZ a2))] d_Book_monthStart_23 (by decide) rfl (fun ls hl => ?_)
    exact w_Book_monthStart_L25 N B hB hI C hr hlk a1 a2 h hP _ s0_3 0 _ (lv_sub hl [2, 3, 4, 1, 0] rfl) hM
  refine m_if_eq C hM 20 d_Book_monthStart_5 (by decide) (fun hM => ?_) (fun hM => ?_)
  · refine m_iconst C d_Book_monthStart_20 ?_
    exact hJ3 0 hM _ hl
  · refine m_iload_n C hl 2 d_Book_monthStart_8 rfl rfl ?_
    refine m_aload_n C hl 0 d_Book_monthStart_9 rfl rfl ?_
    refine m_geti C hP kc_Book (shB_0 hB) (ltB0 hB) 5 rfl (by decide) fk_Book_55 d_Book_monthStart_10 ?_
    refine m_icmp_le C hM 20 d_Book_monthStart_13 (by decide) (fun hM => ?_) (fun hM => ?_)
    · refine m_iconst C d_Book_monthStart_20 ?_
      exact hJ3 0 hM _ hl
    · refine m_iconst C d_Book_monthStart_16 ?_
      refine m_goto C 21 d_Book_monthStart_17 (by decide) ?_
      exact hJ3 1 hM _ hl
def y_Book_monthOf : MethodName := ⟨"FeastBook$Book", "monthOf", "(II)I"⟩
theorem d_Book_monthOf_0 : decode prog_2_method_18_code 0 = .ok (.iconst 0, 1) := by decide +kernel
theorem d_Book_monthOf_1 : decode prog_2_method_18_code 1 = .ok (.istore_n 3, 1) := by decide +kernel
theorem d_Book_monthOf_2 : decode prog_2_method_18_code 2 = .ok (.iconst 1, 1) := by decide +kernel
theorem d_Book_monthOf_3 : decode prog_2_method_18_code 3 = .ok (.istore 4, 2) := by decide +kernel
theorem d_Book_monthOf_5 : decode prog_2_method_18_code 5 = .ok (.iload 4, 2) := by decide +kernel
theorem d_Book_monthOf_7 : decode prog_2_method_18_code 7 = .ok (.aload_n 0, 1) := by decide +kernel
theorem d_Book_monthOf_8 : decode prog_2_method_18_code 8 = .ok (.getfield 46, 3) := by decide +kernel
theorem d_Book_monthOf_11 : decode prog_2_method_18_code 11 = .ok (.if_icmp .ge 27, 3) := by decide +kernel
theorem d_Book_monthOf_14 : decode prog_2_method_18_code 14 = .ok (.iload_n 2, 1) := by decide +kernel
theorem d_Book_monthOf_15 : decode prog_2_method_18_code 15 = .ok (.aload_n 0, 1) := by decide +kernel
theorem d_Book_monthOf_16 : decode prog_2_method_18_code 16 = .ok (.iload_n 1, 1) := by decide +kernel
theorem d_Book_monthOf_17 : decode prog_2_method_18_code 17 = .ok (.iload 4, 2) := by decide +kernel
theorem d_Book_monthOf_19 : decode prog_2_method_18_code 19 = .ok (.invokevirtual 127, 3) := by decide +kernel
theorem d_Book_monthOf_22 : decode prog_2_method_18_code 22 = .ok (.if_icmp .lt 8, 3) := by decide +kernel
theorem d_Book_monthOf_25 : decode prog_2_method_18_code 25 = .ok (.iload 4, 2) := by decide +kernel
theorem d_Book_monthOf_27 : decode prog_2_method_18_code 27 = .ok (.goto 4, 3) := by decide +kernel
theorem d_Book_monthOf_30 : decode prog_2_method_18_code 30 = .ok (.iload_n 3, 1) := by decide +kernel
theorem d_Book_monthOf_31 : decode prog_2_method_18_code 31 = .ok (.istore_n 3, 1) := by decide +kernel
theorem d_Book_monthOf_32 : decode prog_2_method_18_code 32 = .ok (.iinc 4 1, 3) := by decide +kernel
theorem d_Book_monthOf_35 : decode prog_2_method_18_code 35 = .ok (.goto (-30), 3) := by decide +kernel
theorem d_Book_monthOf_38 : decode prog_2_method_18_code 38 = .ok (.iload_n 3, 1) := by decide +kernel
theorem d_Book_monthOf_39 : decode prog_2_method_18_code 39 = .ok (.ireturn, 1) := by decide +kernel
theorem mb_Book_monthStart : MBv R_Book y_Book_monthStart prog_2_method_17_code 5 (some .int) 2 := ⟨mT4 185 (by decide +kernel) (by decide +kernel), mT4 186 (by decide +kernel) (by decide +kernel), mT1 4 (by decide +kernel) (by decide +kernel), mT4 187 (by decide +kernel) (by decide +kernel), by decide, rfl, by decide +kernel, by decide +kernel, by decide +kernel⟩
theorem lk_Book_127 : Cond.methodLink "FeastBook$Book" 127 y_Book_monthStart ∈ TT := mT6 100 (by decide +kernel) (by decide +kernel)
def Book_monthOf_L5 (N : Nat) (h : Hp) (B : Nat) (v1 v2 : Int) : Nat → Int → Int → Option Int
  | 0, _, _ => none
  | n + 1, v3, v4 => if leb (h B 2) v4 then some v3 else (M_Book_monthStart N h B v1 v4).bind (fun x2 => if ltb v2 x2 then Book_monthOf_L5 N h B v1 v2 n v3 (v4 + 1) else Book_monthOf_L5 N h B v1 v2 n v4 (v4 + 1))
def M_Book_monthOf (N : Nat) (h : Hp) (B : Nat) (a1 a2 : Int) : Option Int := Book_monthOf_L5 N h B a1 a2 N 0 1
set_option maxHeartbeats 4000000 in
set_option maxRecDepth 100000 in
theorem w_Book_monthOf_L5 {p : Program} {l : Launch} {e : Env} {s : State} {m : MethodId} {args : Array Value} {below : List Frame} {meth : Method} {c : Code} {D : va_G} {ad : Nat → Nat} {cA : Nat → ClassId} {sd sv : Nat → Nat} {out : Int} (N : Nat) (B : Nat) (hB : isBk B) (hI : Inj97 ad) (C : Cx p s m args c prog_2_method_18_code 5 "FeastBook$Book" D ad cA sd sv (FA ad)) (hr : meth.sig.returnType = (some .int)) (hlk : meth.locks = false) (v1 v2 : Int) (h : Hp) (hP : va_P D clL (wl ad cA h) s.heap) : ∀ (n : Nat) (v3 v4 : Int), ∀ ls : Array Slot, lv_has ls 5 [(0, .ref (ad B)), (1, .int (iZ v1)), (2, .int (iZ v2)), (3, .int (iZ v3)), (4, .int (iZ v4))] → Book_monthOf_L5 N h B v1 v2 n v3 v4 = some out → W p l e (rmD 2) s m args below meth c s.heap [] 0 0 (MQ below (QR out) args s 0 0 (fun _ => False)) (F0 m 5 ls []) := by
  intro n
  induction n with
  | zero =>
    intro v3 v4 ls hl hM
    rw [Book_monthOf_L5] at hM
    cases hM
  | succ n ih =>
    intro v3 v4 ls hl hM
    rw [Book_monthOf_L5] at hM
    refine m_iload C hl 4 d_Book_monthOf_5 rfl ?_
    refine m_aload_n C hl 0 d_Book_monthOf_7 rfl rfl ?_
    refine m_geti C hP kc_Book (shB_0 hB) (ltB0 hB) 2 rfl (by decide) fk_Book_46 d_Book_monthOf_8 ?_
    refine m_icmp_ge C hM 38 d_Book_monthOf_11 (by decide) (fun hM => ?_) (fun hM => ?_)
    · refine m_iload_n C hl 3 d_Book_monthOf_38 rfl rfl ?_
      exact m_iretR C hr hlk hM d_Book_monthOf_39
    · refine m_iload_n C hl 2 d_Book_monthOf_14 rfl rfl ?_
      refine m_aload_n C hl 0 d_Book_monthOf_15 rfl rfl ?_
      refine m_iload_n C hl 1 d_Book_monthOf_16 rfl rfl ?_
      refine m_iload C hl 4 d_Book_monthOf_17 rfl ?_
      obtain ⟨x2, e1, hM⟩ := bnd_some hM
      refine aftR (runV C hP va_S.rf kc_Book (shB_0 hB) (ltB0 hB) (c_Book_monthStart hI hB e1) lk_Book_127 mb_Book_monthStart rfl ⟨Nat.le_of_ble_eq_true rfl, Nat.le_of_ble_eq_true rfl⟩ ⟨Nat.zero_le _, Nat.zero_le _⟩ (Nat.le_of_ble_eq_true rfl) d_Book_monthOf_19 hl.1 (rest := [.int (iZ v2)]) rfl) ?_
      refine m_icmp_lt C hM 30 d_Book_monthOf_22 (by decide) (fun hM => ?_) (fun hM => ?_)
      · refine m_iload_n C hl 3 d_Book_monthOf_30 rfl rfl ?_
        refine m_istore_n C hl [(3, .int (iZ v3)), (0, .ref (ad B)), (1, .int (iZ v1)), (2, .int (iZ v2)), (4, .int (iZ v4))] d_Book_monthOf_31 rfl (by decide) rfl (fun ls hl => ?_)
        refine m_iinc C hl 4 [(4, .int (iZ (v4 + 1))), (3, .int (iZ v3)), (0, .ref (ad B)), (1, .int (iZ v1)), (2, .int (iZ v2))] d_Book_monthOf_32 rfl (by decide) rfl (fun ls hl => ?_)
        refine m_goto C 5 d_Book_monthOf_35 (by decide) ?_
        exact ih v3 (v4 + 1) _ (lv_sub hl [2, 3, 4, 1, 0] rfl) hM
      · refine m_iload C hl 4 d_Book_monthOf_25 rfl ?_
        refine m_goto C 31 d_Book_monthOf_27 (by decide) ?_
        refine m_istore_n C hl [(3, .int (iZ v4)), (0, .ref (ad B)), (1, .int (iZ v1)), (2, .int (iZ v2)), (4, .int (iZ v4))] d_Book_monthOf_31 rfl (by decide) rfl (fun ls hl => ?_)
        refine m_iinc C hl 4 [(4, .int (iZ (v4 + 1))), (3, .int (iZ v4)), (0, .ref (ad B)), (1, .int (iZ v1)), (2, .int (iZ v2))] d_Book_monthOf_32 rfl (by decide) rfl (fun ls hl => ?_)
        refine m_goto C 5 d_Book_monthOf_35 (by decide) ?_
        exact ih v4 (v4 + 1) _ (lv_sub hl [2, 3, 4, 1, 0] rfl) hM
set_option maxHeartbeats 4000000 in
set_option maxRecDepth 100000 in
theorem c_Book_monthOf {l : Launch} {D : va_G} {ad : Nat → Nat} {cA : Nat → ClassId} {sd sv : Nat → Nat} {h : Hp} {N : Nat} {B : Nat} {a1 a2 : Int} {out : Int} (hI : Inj97 ad) (hB : isBk B) (hM : M_Book_monthOf N h B a1 a2 = some out) : Met l y_Book_monthOf (.code y_Book_monthOf prog_2_method_18_code 5 (some .int) :: TT) (rmD 2) (PC D ad cA sd sv h [.ref (ad B), .int (iZ a1), .int (iZ a2)]) (QR out) 0 0 (fun _ => False) := by
  unfold M_Book_monthOf at hM
  refine entM (by decide) hI (Nat.le_of_ble_eq_true rfl) ?_
  intro p e s m args below meth c C hr hlk hP ls hl
  have C : Cx p s m args c prog_2_method_18_code 5 "FeastBook$Book" D ad cA sd sv (FA ad) := C
  have hl : lv_has ls 5 [(0, .ref (ad B)), (1, .int (iZ a1)), (2, .int (iZ a2))] := hl
  refine m_iconst C d_Book_monthOf_0 ?_
  refine m_istore_n C hl [(3, .int (iZ 0)), (0, .ref (ad B)), (1, .int (iZ a1)), (2, .int (iZ a2))] d_Book_monthOf_1 rfl (by decide) rfl (fun ls hl => ?_)
  refine m_iconst C d_Book_monthOf_2 ?_
  refine m_istore C hl [(4, .int (iZ 1)), (3, .int (iZ 0)), (0, .ref (ad B)), (1, .int (iZ a1)), (2, .int (iZ a2))] d_Book_monthOf_3 (by decide) rfl (fun ls hl => ?_)
  exact w_Book_monthOf_L5 N B hB hI C hr hlk a1 a2 h hP _ 0 1 _ (lv_sub hl [2, 3, 4, 1, 0] rfl) hM
def y_Spans_add : MethodName := ⟨"FeastBook$Spans", "add", "(III)V"⟩
theorem d_Spans_add_0 : decode prog_8_method_2_code 0 = .ok (.aload_n 0, 1) := by decide +kernel
theorem d_Spans_add_1 : decode prog_8_method_2_code 1 = .ok (.getfield 21, 3) := by decide +kernel
theorem d_Spans_add_4 : decode prog_8_method_2_code 4 = .ok (.iconst 4, 1) := by decide +kernel
theorem d_Spans_add_5 : decode prog_8_method_2_code 5 = .ok (.if_icmp .ge 43, 3) := by decide +kernel
theorem d_Spans_add_8 : decode prog_8_method_2_code 8 = .ok (.aload_n 0, 1) := by decide +kernel
theorem d_Spans_add_9 : decode prog_8_method_2_code 9 = .ok (.getfield 9, 3) := by decide +kernel
theorem d_Spans_add_12 : decode prog_8_method_2_code 12 = .ok (.aload_n 0, 1) := by decide +kernel
theorem d_Spans_add_13 : decode prog_8_method_2_code 13 = .ok (.getfield 21, 3) := by decide +kernel
theorem d_Spans_add_16 : decode prog_8_method_2_code 16 = .ok (.iload_n 1, 1) := by decide +kernel
theorem d_Spans_add_17 : decode prog_8_method_2_code 17 = .ok (.iastore, 1) := by decide +kernel
theorem d_Spans_add_18 : decode prog_8_method_2_code 18 = .ok (.aload_n 0, 1) := by decide +kernel
theorem d_Spans_add_19 : decode prog_8_method_2_code 19 = .ok (.getfield 15, 3) := by decide +kernel
theorem d_Spans_add_22 : decode prog_8_method_2_code 22 = .ok (.aload_n 0, 1) := by decide +kernel
theorem d_Spans_add_23 : decode prog_8_method_2_code 23 = .ok (.getfield 21, 3) := by decide +kernel
theorem d_Spans_add_26 : decode prog_8_method_2_code 26 = .ok (.iload_n 2, 1) := by decide +kernel
theorem d_Spans_add_27 : decode prog_8_method_2_code 27 = .ok (.iastore, 1) := by decide +kernel
theorem d_Spans_add_28 : decode prog_8_method_2_code 28 = .ok (.aload_n 0, 1) := by decide +kernel
theorem d_Spans_add_29 : decode prog_8_method_2_code 29 = .ok (.getfield 18, 3) := by decide +kernel
theorem d_Spans_add_32 : decode prog_8_method_2_code 32 = .ok (.aload_n 0, 1) := by decide +kernel
theorem d_Spans_add_33 : decode prog_8_method_2_code 33 = .ok (.getfield 21, 3) := by decide +kernel
theorem d_Spans_add_36 : decode prog_8_method_2_code 36 = .ok (.iload_n 3, 1) := by decide +kernel
theorem d_Spans_add_37 : decode prog_8_method_2_code 37 = .ok (.iastore, 1) := by decide +kernel
theorem d_Spans_add_38 : decode prog_8_method_2_code 38 = .ok (.aload_n 0, 1) := by decide +kernel
theorem d_Spans_add_39 : decode prog_8_method_2_code 39 = .ok (.dup, 1) := by decide +kernel
theorem d_Spans_add_40 : decode prog_8_method_2_code 40 = .ok (.getfield 21, 3) := by decide +kernel
theorem d_Spans_add_43 : decode prog_8_method_2_code 43 = .ok (.iconst 1, 1) := by decide +kernel
theorem d_Spans_add_44 : decode prog_8_method_2_code 44 = .ok (.iadd, 1) := by decide +kernel
theorem d_Spans_add_45 : decode prog_8_method_2_code 45 = .ok (.putfield 21, 3) := by decide +kernel
theorem d_Spans_add_48 : decode prog_8_method_2_code 48 = .ok (.return_, 1) := by decide +kernel
theorem fk_Spans_15 : Cond.fieldLink "FeastBook$Spans" 15 (T_Spans 2).1 (T_Spans 2).2.1 (T_Spans 2).2.2.1 ∈ TT := mT1 80 (by decide +kernel) (by decide +kernel)
theorem fk_Spans_18 : Cond.fieldLink "FeastBook$Spans" 18 (T_Spans 3).1 (T_Spans 3).2.1 (T_Spans 3).2.2.1 ∈ TT := mT1 81 (by decide +kernel) (by decide +kernel)
theorem fk_Spans_21 : Cond.fieldLink "FeastBook$Spans" 21 (T_Spans 0).1 (T_Spans 0).2.1 (T_Spans 0).2.2.1 ∈ TT := mT1 75 (by decide +kernel) (by decide +kernel)
theorem fk_Spans_9 : Cond.fieldLink "FeastBook$Spans" 9 (T_Spans 1).1 (T_Spans 1).2.1 (T_Spans 1).2.2.1 ∈ TT := mT1 79 (by decide +kernel) (by decide +kernel)
def M_Spans_add (h : Hp) (P : Nat) (a1 a2 a3 : Int) : Option Hp := if leb 4 (h P 0) then some h else (wrA h (P + 1) 4 (h P 0) a1).bind (fun h1 => (wrA h1 (P + 2) 4 (h1 P 0) a2).bind (fun h2 => (wrA h2 (P + 3) 4 (h2 P 0) a3).bind (fun h3 => lt' (hs h3 P 0 ((h3 P 0) + 1)) (fun h4 => some h4))))
set_option maxHeartbeats 4000000 in
set_option maxRecDepth 100000 in
theorem c_Spans_add {l : Launch} {D : va_G} {ad : Nat → Nat} {cA : Nat → ClassId} {sd sv : Nat → Nat} {h : Hp} {P : Nat} {a1 a2 a3 : Int} {out : Hp} (hI : Inj97 ad) (hP0 : isSp P) (hM : M_Spans_add h P a1 a2 a3 = some out) : Met l y_Spans_add (.code y_Spans_add prog_8_method_2_code 4 none :: TT) (rmD 0) (PC D ad cA sd sv h [.ref (ad P), .int (iZ a1), .int (iZ a2), .int (iZ a3)]) (QV D ad cA out) 0 0 (FA ad) := by
  unfold M_Spans_add at hM
  refine entM (by decide) hI (Nat.le_of_ble_eq_true rfl) ?_
  intro p e s m args below meth c C hr hlk hP ls hl
  have C : Cx p s m args c prog_8_method_2_code 4 "FeastBook$Spans" D ad cA sd sv (FA ad) := C
  have hl : lv_has ls 4 [(0, .ref (ad P)), (1, .int (iZ a1)), (2, .int (iZ a2)), (3, .int (iZ a3))] := hl
  have w : Wd s D ad cA (FA ad) h s.heap [] := ⟨hP, va_S.rf⟩
  refine m_aload_n C hl 0 d_Spans_add_0 rfl rfl ?_
  refine m_geti C w.1 kc_Spans (shP_0 hP0) (ltP0 hP0) 0 rfl (by decide) fk_Spans_21 d_Spans_add_1 ?_
  refine m_iconst C d_Spans_add_4 ?_
  refine m_icmp_ge C hM 48 d_Spans_add_5 (by decide) (fun hM => ?_) (fun hM => ?_)
  · exact m_vretW C w hr hlk hM d_Spans_add_48
  · refine m_aload_n C hl 0 d_Spans_add_8 rfl rfl ?_
    refine m_getr C w.1 kc_Spans (shP_0 hP0) (ltP0 hP0) 1 (P + 1) rfl (by decide) fk_Spans_9 d_Spans_add_9 ?_
    refine m_aload_n C hl 0 d_Spans_add_12 rfl rfl ?_
    refine m_geti C w.1 kc_Spans (shP_0 hP0) (ltP0 hP0) 0 rfl (by decide) fk_Spans_21 d_Spans_add_13 ?_
    refine m_iload_n C hl 1 d_Spans_add_16 rfl rfl ?_
    refine m_iast C w (shP_1 hP0) (ltP hP0 1 (by decide)) (Nat.le_of_ble_eq_true rfl) hM d_Spans_add_17 (fun h1 H locs w hM => ?_)
    refine m_aload_n C hl 0 d_Spans_add_18 rfl rfl ?_
    refine m_getr C w.1 kc_Spans (shP_0 hP0) (ltP0 hP0) 2 (P + 2) rfl (by decide) fk_Spans_15 d_Spans_add_19 ?_
    refine m_aload_n C hl 0 d_Spans_add_22 rfl rfl ?_
    refine m_geti C w.1 kc_Spans (shP_0 hP0) (ltP0 hP0) 0 rfl (by decide) fk_Spans_21 d_Spans_add_23 ?_
    refine m_iload_n C hl 2 d_Spans_add_26 rfl rfl ?_
    refine m_iast C w (shP_2 hP0) (ltP hP0 2 (by decide)) (Nat.le_of_ble_eq_true rfl) hM d_Spans_add_27 (fun h2 H locs w hM => ?_)
    refine m_aload_n C hl 0 d_Spans_add_28 rfl rfl ?_
    refine m_getr C w.1 kc_Spans (shP_0 hP0) (ltP0 hP0) 3 (P + 3) rfl (by decide) fk_Spans_18 d_Spans_add_29 ?_
    refine m_aload_n C hl 0 d_Spans_add_32 rfl rfl ?_
    refine m_geti C w.1 kc_Spans (shP_0 hP0) (ltP0 hP0) 0 rfl (by decide) fk_Spans_21 d_Spans_add_33 ?_
    refine m_iload_n C hl 3 d_Spans_add_36 rfl rfl ?_
    refine m_iast C w (shP_3 hP0) (ltP hP0 3 (by decide)) (Nat.le_of_ble_eq_true rfl) hM d_Spans_add_37 (fun h3 H locs w hM => ?_)
    refine m_aload_n C hl 0 d_Spans_add_38 rfl rfl ?_
    refine m_dup C d_Spans_add_39 rfl ?_
    refine m_geti C w.1 kc_Spans (shP_0 hP0) (ltP0 hP0) 0 rfl (by decide) fk_Spans_21 d_Spans_add_40 ?_
    refine m_iconst C d_Spans_add_43 ?_
    refine m_iadd C d_Spans_add_44 ?_
    refine m_puti C w kc_Spans (shP_0 hP0) (ltP0 hP0) 0 hM rfl (by decide) rfl rfl fk_Spans_21 d_Spans_add_45 (fun h4 H locs w hM => ?_)
    exact m_vretW C w hr hlk hM d_Spans_add_48
def y_Spans_lastWith : MethodName := ⟨"FeastBook$Spans", "lastWith", "(I)I"⟩
theorem d_Spans_lastWith_0 : decode prog_8_method_3_code 0 = .ok (.aload_n 0, 1) := by decide +kernel
theorem d_Spans_lastWith_1 : decode prog_8_method_3_code 1 = .ok (.getfield 21, 3) := by decide +kernel
theorem d_Spans_lastWith_4 : decode prog_8_method_3_code 4 = .ok (.iconst 1, 1) := by decide +kernel
theorem d_Spans_lastWith_5 : decode prog_8_method_3_code 5 = .ok (.isub, 1) := by decide +kernel
theorem d_Spans_lastWith_6 : decode prog_8_method_3_code 6 = .ok (.istore_n 2, 1) := by decide +kernel
theorem d_Spans_lastWith_7 : decode prog_8_method_3_code 7 = .ok (.iload_n 2, 1) := by decide +kernel
theorem d_Spans_lastWith_8 : decode prog_8_method_3_code 8 = .ok (.ifCond .lt 31, 3) := by decide +kernel
theorem d_Spans_lastWith_11 : decode prog_8_method_3_code 11 = .ok (.iload_n 1, 1) := by decide +kernel
theorem d_Spans_lastWith_12 : decode prog_8_method_3_code 12 = .ok (.aload_n 0, 1) := by decide +kernel
theorem d_Spans_lastWith_13 : decode prog_8_method_3_code 13 = .ok (.getfield 9, 3) := by decide +kernel
theorem d_Spans_lastWith_16 : decode prog_8_method_3_code 16 = .ok (.iload_n 2, 1) := by decide +kernel
theorem d_Spans_lastWith_17 : decode prog_8_method_3_code 17 = .ok (.iaload, 1) := by decide +kernel
theorem d_Spans_lastWith_18 : decode prog_8_method_3_code 18 = .ok (.if_icmp .lt 15, 3) := by decide +kernel
theorem d_Spans_lastWith_21 : decode prog_8_method_3_code 21 = .ok (.iload_n 1, 1) := by decide +kernel
theorem d_Spans_lastWith_22 : decode prog_8_method_3_code 22 = .ok (.aload_n 0, 1) := by decide +kernel
theorem d_Spans_lastWith_23 : decode prog_8_method_3_code 23 = .ok (.getfield 15, 3) := by decide +kernel
theorem d_Spans_lastWith_26 : decode prog_8_method_3_code 26 = .ok (.iload_n 2, 1) := by decide +kernel
theorem d_Spans_lastWith_27 : decode prog_8_method_3_code 27 = .ok (.iaload, 1) := by decide +kernel
theorem d_Spans_lastWith_28 : decode prog_8_method_3_code 28 = .ok (.if_icmp .gt 5, 3) := by decide +kernel
theorem d_Spans_lastWith_31 : decode prog_8_method_3_code 31 = .ok (.iload_n 2, 1) := by decide +kernel
theorem d_Spans_lastWith_32 : decode prog_8_method_3_code 32 = .ok (.ireturn, 1) := by decide +kernel
theorem d_Spans_lastWith_33 : decode prog_8_method_3_code 33 = .ok (.iinc 2 (-1), 3) := by decide +kernel
theorem d_Spans_lastWith_36 : decode prog_8_method_3_code 36 = .ok (.goto (-29), 3) := by decide +kernel
theorem d_Spans_lastWith_39 : decode prog_8_method_3_code 39 = .ok (.iconst (-1), 1) := by decide +kernel
theorem d_Spans_lastWith_40 : decode prog_8_method_3_code 40 = .ok (.ireturn, 1) := by decide +kernel
def Spans_lastWith_L7 (N : Nat) (h : Hp) (P : Nat) (v1 : Int) : Nat → Int → Option Int
  | 0, _ => none
  | n + 1, v2 => if ltb v2 0 then some (-1) else (rdA h (P + 1) 4 v2).bind (fun x1 => if ltb v1 x1 then Spans_lastWith_L7 N h P v1 n (v2 + (-1)) else (rdA h (P + 2) 4 v2).bind (fun x2 => if ltb x2 v1 then Spans_lastWith_L7 N h P v1 n (v2 + (-1)) else some v2))
def M_Spans_lastWith (N : Nat) (h : Hp) (P : Nat) (a1 : Int) : Option Int := Spans_lastWith_L7 N h P a1 N ((h P 0) - 1)
set_option maxHeartbeats 4000000 in
set_option maxRecDepth 100000 in
theorem w_Spans_lastWith_L7 {p : Program} {l : Launch} {e : Env} {s : State} {m : MethodId} {args : Array Value} {below : List Frame} {meth : Method} {c : Code} {D : va_G} {ad : Nat → Nat} {cA : Nat → ClassId} {sd sv : Nat → Nat} {out : Int} (N : Nat) (P : Nat) (hP0 : isSp P) (hI : Inj97 ad) (C : Cx p s m args c prog_8_method_3_code 3 "FeastBook$Spans" D ad cA sd sv (FA ad)) (hr : meth.sig.returnType = (some .int)) (hlk : meth.locks = false) (v1 : Int) (h : Hp) (hP : va_P D clL (wl ad cA h) s.heap) : ∀ (n : Nat) (v2 : Int), ∀ ls : Array Slot, lv_has ls 3 [(0, .ref (ad P)), (1, .int (iZ v1)), (2, .int (iZ v2))] → Spans_lastWith_L7 N h P v1 n v2 = some out → W p l e (rmD 0) s m args below meth c s.heap [] 0 0 (MQ below (QR out) args s 0 0 (fun _ => False)) (F0 m 7 ls []) := by
  intro n
  induction n with
  | zero =>
    intro v2 ls hl hM
    rw [Spans_lastWith_L7] at hM
    cases hM
  | succ n ih =>
    intro v2 ls hl hM
    rw [Spans_lastWith_L7] at hM
    refine m_iload_n C hl 2 d_Spans_lastWith_7 rfl rfl ?_
    refine m_if_lt C hM 39 d_Spans_lastWith_8 (by decide) (fun hM => ?_) (fun hM => ?_)
    · refine m_iconst C d_Spans_lastWith_39 ?_
      exact m_iretR C hr hlk hM d_Spans_lastWith_40
    · refine m_iload_n C hl 1 d_Spans_lastWith_11 rfl rfl ?_
      refine m_aload_n C hl 0 d_Spans_lastWith_12 rfl rfl ?_
      refine m_getr C hP kc_Spans (shP_0 hP0) (ltP0 hP0) 1 (P + 1) rfl (by decide) fk_Spans_9 d_Spans_lastWith_13 ?_
      refine m_iload_n C hl 2 d_Spans_lastWith_16 rfl rfl ?_
      refine m_iald C hP (shP_1 hP0) (ltP hP0 1 (by decide)) (Nat.le_of_ble_eq_true rfl) hM d_Spans_lastWith_17 (fun x1 hM => ?_)
      refine m_icmp_lt C hM 33 d_Spans_lastWith_18 (by decide) (fun hM => ?_) (fun hM => ?_)
      · refine m_iinc C hl 2 [(2, .int (iZ (v2 + (-1)))), (0, .ref (ad P)), (1, .int (iZ v1))] d_Spans_lastWith_33 rfl (by decide) rfl (fun ls hl => ?_)
        refine m_goto C 7 d_Spans_lastWith_36 (by decide) ?_
        exact ih (v2 + (-1)) _ (lv_sub hl [1, 2, 0] rfl) hM
      · refine m_iload_n C hl 1 d_Spans_lastWith_21 rfl rfl ?_
        refine m_aload_n C hl 0 d_Spans_lastWith_22 rfl rfl ?_
        refine m_getr C hP kc_Spans (shP_0 hP0) (ltP0 hP0) 2 (P + 2) rfl (by decide) fk_Spans_15 d_Spans_lastWith_23 ?_
        refine m_iload_n C hl 2 d_Spans_lastWith_26 rfl rfl ?_
        refine m_iald C hP (shP_2 hP0) (ltP hP0 2 (by decide)) (Nat.le_of_ble_eq_true rfl) hM d_Spans_lastWith_27 (fun x2 hM => ?_)
        refine m_icmp_gt C hM 33 d_Spans_lastWith_28 (by decide) (fun hM => ?_) (fun hM => ?_)
        · refine m_iinc C hl 2 [(2, .int (iZ (v2 + (-1)))), (0, .ref (ad P)), (1, .int (iZ v1))] d_Spans_lastWith_33 rfl (by decide) rfl (fun ls hl => ?_)
          refine m_goto C 7 d_Spans_lastWith_36 (by decide) ?_
          exact ih (v2 + (-1)) _ (lv_sub hl [1, 2, 0] rfl) hM
        · refine m_iload_n C hl 2 d_Spans_lastWith_31 rfl rfl ?_
          exact m_iretR C hr hlk hM d_Spans_lastWith_32
set_option maxHeartbeats 4000000 in
set_option maxRecDepth 100000 in
theorem c_Spans_lastWith {l : Launch} {D : va_G} {ad : Nat → Nat} {cA : Nat → ClassId} {sd sv : Nat → Nat} {h : Hp} {N : Nat} {P : Nat} {a1 : Int} {out : Int} (hI : Inj97 ad) (hP0 : isSp P) (hM : M_Spans_lastWith N h P a1 = some out) : Met l y_Spans_lastWith (.code y_Spans_lastWith prog_8_method_3_code 3 (some .int) :: TT) (rmD 0) (PC D ad cA sd sv h [.ref (ad P), .int (iZ a1)]) (QR out) 0 0 (fun _ => False) := by
  unfold M_Spans_lastWith at hM
  refine entM (by decide) hI (Nat.le_of_ble_eq_true rfl) ?_
  intro p e s m args below meth c C hr hlk hP ls hl
  have C : Cx p s m args c prog_8_method_3_code 3 "FeastBook$Spans" D ad cA sd sv (FA ad) := C
  have hl : lv_has ls 3 [(0, .ref (ad P)), (1, .int (iZ a1))] := hl
  refine m_aload_n C hl 0 d_Spans_lastWith_0 rfl rfl ?_
  refine m_geti C hP kc_Spans (shP_0 hP0) (ltP0 hP0) 0 rfl (by decide) fk_Spans_21 d_Spans_lastWith_1 ?_
  refine m_iconst C d_Spans_lastWith_4 ?_
  refine m_isub C d_Spans_lastWith_5 ?_
  refine m_istore_n C hl [(2, .int (iZ ((h P 0) - 1))), (0, .ref (ad P)), (1, .int (iZ a1))] d_Spans_lastWith_6 rfl (by decide) rfl (fun ls hl => ?_)
  exact w_Spans_lastWith_L7 N P hP0 hI C hr hlk a1 h hP _ ((h P 0) - 1) _ (lv_sub hl [1, 2, 0] rfl) hM
def y_Book_clear : MethodName := ⟨"FeastBook$Book", "clear", "()V"⟩
theorem d_Book_clear_0 : decode prog_2_method_2_code 0 = .ok (.aload_n 0, 1) := by decide +kernel
theorem d_Book_clear_1 : decode prog_2_method_2_code 1 = .ok (.iconst 0, 1) := by decide +kernel
theorem d_Book_clear_2 : decode prog_2_method_2_code 2 = .ok (.putfield 39, 3) := by decide +kernel
theorem d_Book_clear_5 : decode prog_2_method_2_code 5 = .ok (.aload_n 0, 1) := by decide +kernel
theorem d_Book_clear_6 : decode prog_2_method_2_code 6 = .ok (.iconst 0, 1) := by decide +kernel
theorem d_Book_clear_7 : decode prog_2_method_2_code 7 = .ok (.putfield 43, 3) := by decide +kernel
theorem d_Book_clear_10 : decode prog_2_method_2_code 10 = .ok (.aload_n 0, 1) := by decide +kernel
theorem d_Book_clear_11 : decode prog_2_method_2_code 11 = .ok (.iconst 0, 1) := by decide +kernel
theorem d_Book_clear_12 : decode prog_2_method_2_code 12 = .ok (.putfield 46, 3) := by decide +kernel
theorem d_Book_clear_15 : decode prog_2_method_2_code 15 = .ok (.aload_n 0, 1) := by decide +kernel
theorem d_Book_clear_16 : decode prog_2_method_2_code 16 = .ok (.iconst 0, 1) := by decide +kernel
theorem d_Book_clear_17 : decode prog_2_method_2_code 17 = .ok (.putfield 49, 3) := by decide +kernel
theorem d_Book_clear_20 : decode prog_2_method_2_code 20 = .ok (.aload_n 0, 1) := by decide +kernel
theorem d_Book_clear_21 : decode prog_2_method_2_code 21 = .ok (.iconst 0, 1) := by decide +kernel
theorem d_Book_clear_22 : decode prog_2_method_2_code 22 = .ok (.putfield 52, 3) := by decide +kernel
theorem d_Book_clear_25 : decode prog_2_method_2_code 25 = .ok (.aload_n 0, 1) := by decide +kernel
theorem d_Book_clear_26 : decode prog_2_method_2_code 26 = .ok (.iconst 0, 1) := by decide +kernel
theorem d_Book_clear_27 : decode prog_2_method_2_code 27 = .ok (.putfield 55, 3) := by decide +kernel
theorem d_Book_clear_30 : decode prog_2_method_2_code 30 = .ok (.aload_n 0, 1) := by decide +kernel
theorem d_Book_clear_31 : decode prog_2_method_2_code 31 = .ok (.bipush 20, 2) := by decide +kernel
theorem d_Book_clear_33 : decode prog_2_method_2_code 33 = .ok (.putfield 9, 3) := by decide +kernel
theorem d_Book_clear_36 : decode prog_2_method_2_code 36 = .ok (.aload_n 0, 1) := by decide +kernel
theorem d_Book_clear_37 : decode prog_2_method_2_code 37 = .ok (.iconst 0, 1) := by decide +kernel
theorem d_Book_clear_38 : decode prog_2_method_2_code 38 = .ok (.putfield 58, 3) := by decide +kernel
theorem d_Book_clear_41 : decode prog_2_method_2_code 41 = .ok (.aload_n 0, 1) := by decide +kernel
theorem d_Book_clear_42 : decode prog_2_method_2_code 42 = .ok (.iconst 5, 1) := by decide +kernel
theorem d_Book_clear_43 : decode prog_2_method_2_code 43 = .ok (.putfield 15, 3) := by decide +kernel
theorem d_Book_clear_46 : decode prog_2_method_2_code 46 = .ok (.aload_n 0, 1) := by decide +kernel
theorem d_Book_clear_47 : decode prog_2_method_2_code 47 = .ok (.iconst 0, 1) := by decide +kernel
theorem d_Book_clear_48 : decode prog_2_method_2_code 48 = .ok (.putfield 61, 3) := by decide +kernel
theorem d_Book_clear_51 : decode prog_2_method_2_code 51 = .ok (.aload_n 0, 1) := by decide +kernel
theorem d_Book_clear_52 : decode prog_2_method_2_code 52 = .ok (.getfield 25, 3) := by decide +kernel
theorem d_Book_clear_55 : decode prog_2_method_2_code 55 = .ok (.iconst 0, 1) := by decide +kernel
theorem d_Book_clear_56 : decode prog_2_method_2_code 56 = .ok (.putfield 64, 3) := by decide +kernel
theorem d_Book_clear_59 : decode prog_2_method_2_code 59 = .ok (.aload_n 0, 1) := by decide +kernel
theorem d_Book_clear_60 : decode prog_2_method_2_code 60 = .ok (.getfield 29, 3) := by decide +kernel
theorem d_Book_clear_63 : decode prog_2_method_2_code 63 = .ok (.iconst 0, 1) := by decide +kernel
theorem d_Book_clear_64 : decode prog_2_method_2_code 64 = .ok (.putfield 64, 3) := by decide +kernel
theorem d_Book_clear_67 : decode prog_2_method_2_code 67 = .ok (.aload_n 0, 1) := by decide +kernel
theorem d_Book_clear_68 : decode prog_2_method_2_code 68 = .ok (.getfield 35, 3) := by decide +kernel
theorem d_Book_clear_71 : decode prog_2_method_2_code 71 = .ok (.iconst 0, 1) := by decide +kernel
theorem d_Book_clear_72 : decode prog_2_method_2_code 72 = .ok (.putfield 67, 3) := by decide +kernel
theorem d_Book_clear_75 : decode prog_2_method_2_code 75 = .ok (.return_, 1) := by decide +kernel
theorem fk_Book_15 : Cond.fieldLink "FeastBook$Book" 15 (T_Book 12).1 (T_Book 12).2.1 (T_Book 12).2.2.1 ∈ TT := mT1 184 (by decide +kernel) (by decide +kernel)
theorem fk_Book_25 : Cond.fieldLink "FeastBook$Book" 25 (T_Book 15).1 (T_Book 15).2.1 (T_Book 15).2.2.1 ∈ TT := mT1 194 (by decide +kernel) (by decide +kernel)
theorem fk_Book_29 : Cond.fieldLink "FeastBook$Book" 29 (T_Book 16).1 (T_Book 16).2.1 (T_Book 16).2.2.1 ∈ TT := mT1 197 (by decide +kernel) (by decide +kernel)
theorem fk_Book_35 : Cond.fieldLink "FeastBook$Book" 35 (T_Book 17).1 (T_Book 17).2.1 (T_Book 17).2.2.1 ∈ TT := mT1 201 (by decide +kernel) (by decide +kernel)
theorem fk_Book_39 : Cond.fieldLink "FeastBook$Book" 39 (T_Book 0).1 (T_Book 0).2.1 (T_Book 0).2.2.1 ∈ TT := mT1 151 (by decide +kernel) (by decide +kernel)
theorem fk_Book_43 : Cond.fieldLink "FeastBook$Book" 43 (T_Book 1).1 (T_Book 1).2.1 (T_Book 1).2.2.1 ∈ TT := mT1 155 (by decide +kernel) (by decide +kernel)
theorem fk_Book_58 : Cond.fieldLink "FeastBook$Book" 58 (T_Book 11).1 (T_Book 11).2.1 (T_Book 11).2.2.1 ∈ TT := mT1 181 (by decide +kernel) (by decide +kernel)
theorem fk_Book_61 : Cond.fieldLink "FeastBook$Book" 61 (T_Book 13).1 (T_Book 13).2.1 (T_Book 13).2.2.1 ∈ TT := mT1 188 (by decide +kernel) (by decide +kernel)
theorem fk_Book_64 : Cond.fieldLink "FeastBook$Book" 64 (T_Spans 0).1 (T_Spans 0).2.1 (T_Spans 0).2.2.1 ∈ TT := mT1 76 (by decide +kernel) (by decide +kernel)
theorem fk_Book_67 : Cond.fieldLink "FeastBook$Book" 67 (T_Feasts 0).1 (T_Feasts 0).2.1 (T_Feasts 0).2.2.1 ∈ TT := mT1 100 (by decide +kernel) (by decide +kernel)
theorem fk_Book_9 : Cond.fieldLink "FeastBook$Book" 9 (T_Book 10).1 (T_Book 10).2.1 (T_Book 10).2.2.1 ∈ TT := mT1 177 (by decide +kernel) (by decide +kernel)
def M_Book_clear (h : Hp) (B : Nat) : Option Hp := ckB 0 (lt' (hs h B 0 0) (fun h1 => lt' (hs h1 B 1 0) (fun h2 => lt' (hs h2 B 2 0) (fun h3 => lt' (hs h3 B 3 0) (fun h4 => lt' (hs h4 B 4 0) (fun h5 => lt' (hs h5 B 5 0) (fun h6 => lt' (hs h6 B 10 20) (fun h7 => lt' (hs h7 B 11 0) (fun h8 => lt' (hs h8 B 12 5) (fun h9 => lt' (hs h9 B 13 0) (fun h10 => lt' (hs h10 (B + 2) 0 0) (fun h11 => lt' (hs h11 (B + 6) 0 0) (fun h12 => lt' (hs h12 (B + 10) 0 0) (fun h13 => some h13))))))))))))))
set_option maxHeartbeats 4000000 in
set_option maxRecDepth 100000 in
theorem c_Book_clear {l : Launch} {D : va_G} {ad : Nat → Nat} {cA : Nat → ClassId} {sd sv : Nat → Nat} {h : Hp} {B : Nat} {out : Hp} (hI : Inj97 ad) (hB : isBk B) (hM : M_Book_clear h B = some out) : Met l y_Book_clear (.code y_Book_clear prog_2_method_2_code 1 none :: TT) (rmD 0) (PC D ad cA sd sv h [.ref (ad B)]) (QV D ad cA out) 0 0 (FA ad) := by
  unfold M_Book_clear at hM
  refine entM (by decide) hI (Nat.le_of_ble_eq_true rfl) ?_
  intro p e s m args below meth c C hr hlk hP ls hl
  have C : Cx p s m args c prog_2_method_2_code 1 "FeastBook$Book" D ad cA sd sv (FA ad) := C
  have hl : lv_has ls 1 [(0, .ref (ad B))] := hl
  have w : Wd s D ad cA (FA ad) h s.heap [] := ⟨hP, va_S.rf⟩
  refine m_aload_n C hl 0 d_Book_clear_0 rfl rfl ?_
  refine m_iconst C d_Book_clear_1 ?_
  refine m_putz C w kc_Book (shB_0 hB) (ltB0 hB) 0 hM rfl (by decide) rfl rfl fk_Book_39 d_Book_clear_2 (fun h1 H locs w hM => ?_)
  refine m_aload_n C hl 0 d_Book_clear_5 rfl rfl ?_
  refine m_iconst C d_Book_clear_6 ?_
  refine m_puti C w kc_Book (shB_0 hB) (ltB0 hB) 1 hM rfl (by decide) rfl rfl fk_Book_43 d_Book_clear_7 (fun h2 H locs w hM => ?_)
  refine m_aload_n C hl 0 d_Book_clear_10 rfl rfl ?_
  refine m_iconst C d_Book_clear_11 ?_
  refine m_puti C w kc_Book (shB_0 hB) (ltB0 hB) 2 hM rfl (by decide) rfl rfl fk_Book_46 d_Book_clear_12 (fun h3 H locs w hM => ?_)
  refine m_aload_n C hl 0 d_Book_clear_15 rfl rfl ?_
  refine m_iconst C d_Book_clear_16 ?_
  refine m_puti C w kc_Book (shB_0 hB) (ltB0 hB) 3 hM rfl (by decide) rfl rfl fk_Book_49 d_Book_clear_17 (fun h4 H locs w hM => ?_)
  refine m_aload_n C hl 0 d_Book_clear_20 rfl rfl ?_
  refine m_iconst C d_Book_clear_21 ?_
  refine m_puti C w kc_Book (shB_0 hB) (ltB0 hB) 4 hM rfl (by decide) rfl rfl fk_Book_52 d_Book_clear_22 (fun h5 H locs w hM => ?_)
  refine m_aload_n C hl 0 d_Book_clear_25 rfl rfl ?_
  refine m_iconst C d_Book_clear_26 ?_
  refine m_puti C w kc_Book (shB_0 hB) (ltB0 hB) 5 hM rfl (by decide) rfl rfl fk_Book_55 d_Book_clear_27 (fun h6 H locs w hM => ?_)
  refine m_aload_n C hl 0 d_Book_clear_30 rfl rfl ?_
  refine m_bipush C d_Book_clear_31 (by decide) ?_
  refine m_puti C w kc_Book (shB_0 hB) (ltB0 hB) 10 hM rfl (by decide) rfl rfl fk_Book_9 d_Book_clear_33 (fun h7 H locs w hM => ?_)
  refine m_aload_n C hl 0 d_Book_clear_36 rfl rfl ?_
  refine m_iconst C d_Book_clear_37 ?_
  refine m_puti C w kc_Book (shB_0 hB) (ltB0 hB) 11 hM rfl (by decide) rfl rfl fk_Book_58 d_Book_clear_38 (fun h8 H locs w hM => ?_)
  refine m_aload_n C hl 0 d_Book_clear_41 rfl rfl ?_
  refine m_iconst C d_Book_clear_42 ?_
  refine m_puti C w kc_Book (shB_0 hB) (ltB0 hB) 12 hM rfl (by decide) rfl rfl fk_Book_15 d_Book_clear_43 (fun h9 H locs w hM => ?_)
  refine m_aload_n C hl 0 d_Book_clear_46 rfl rfl ?_
  refine m_iconst C d_Book_clear_47 ?_
  refine m_puti C w kc_Book (shB_0 hB) (ltB0 hB) 13 hM rfl (by decide) rfl rfl fk_Book_61 d_Book_clear_48 (fun h10 H locs w hM => ?_)
  refine m_aload_n C hl 0 d_Book_clear_51 rfl rfl ?_
  refine m_getr C w.1 kc_Book (shB_0 hB) (ltB0 hB) 15 (B + 2) rfl (by decide) fk_Book_25 d_Book_clear_52 ?_
  refine m_iconst C d_Book_clear_55 ?_
  refine m_puti C w kc_Spans (shB_2 hB) (ltB hB 2 (by decide)) 0 hM rfl (by decide) rfl rfl fk_Book_64 d_Book_clear_56 (fun h11 H locs w hM => ?_)
  refine m_aload_n C hl 0 d_Book_clear_59 rfl rfl ?_
  refine m_getr C w.1 kc_Book (shB_0 hB) (ltB0 hB) 16 (B + 6) rfl (by decide) fk_Book_29 d_Book_clear_60 ?_
  refine m_iconst C d_Book_clear_63 ?_
  refine m_puti C w kc_Spans (shB_6 hB) (ltB hB 6 (by decide)) 0 hM rfl (by decide) rfl rfl fk_Book_64 d_Book_clear_64 (fun h12 H locs w hM => ?_)
  refine m_aload_n C hl 0 d_Book_clear_67 rfl rfl ?_
  refine m_getr C w.1 kc_Book (shB_0 hB) (ltB0 hB) 17 (B + 10) rfl (by decide) fk_Book_35 d_Book_clear_68 ?_
  refine m_iconst C d_Book_clear_71 ?_
  refine m_puti C w kc_Feasts (shB_10 hB) (ltB hB 10 (by decide)) 0 hM rfl (by decide) rfl rfl fk_Book_67 d_Book_clear_72 (fun h13 H locs w hM => ?_)
  exact m_vretW C w hr hlk hM d_Book_clear_75

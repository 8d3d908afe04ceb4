def y_Tape_hasRoom : MethodName := ⟨"FeastBook$Tape", "hasRoom", "()Z"⟩
theorem d_Tape_hasRoom_0 : decode prog_10_method_2_code 0 = .ok (.aload_n 0, 1) := by decide +kernel
theorem d_Tape_hasRoom_1 : decode prog_10_method_2_code 1 = .ok (.getfield 15, 3) := by decide +kernel
theorem d_Tape_hasRoom_4 : decode prog_10_method_2_code 4 = .ok (.bipush 20, 2) := by decide +kernel
theorem d_Tape_hasRoom_6 : decode prog_10_method_2_code 6 = .ok (.iadd, 1) := by decide +kernel
theorem d_Tape_hasRoom_7 : decode prog_10_method_2_code 7 = .ok (.sipush 400, 3) := by decide +kernel
theorem d_Tape_hasRoom_10 : decode prog_10_method_2_code 10 = .ok (.if_icmp .gt 7, 3) := by decide +kernel
theorem d_Tape_hasRoom_13 : decode prog_10_method_2_code 13 = .ok (.iconst 1, 1) := by decide +kernel
theorem d_Tape_hasRoom_14 : decode prog_10_method_2_code 14 = .ok (.goto 4, 3) := by decide +kernel
theorem d_Tape_hasRoom_17 : decode prog_10_method_2_code 17 = .ok (.iconst 0, 1) := by decide +kernel
theorem d_Tape_hasRoom_18 : decode prog_10_method_2_code 18 = .ok (.ireturn, 1) := by decide +kernel
theorem fk_Tape_15 : Cond.fieldLink "FeastBook$Tape" 15 (T_Tape 1).1 (T_Tape 1).2.1 (T_Tape 1).2.2.1 ∈ TT := mT1 48 (by decide +kernel) (by decide +kernel)
set_option maxHeartbeats 4000000 in
set_option maxRecDepth 100000 in
theorem c_Tape_hasRoom {l : Launch} {D : va_G} {ad : Nat → Nat} {cA : Nat → ClassId} {sd sv : Nat → Nat} {h : Hp} {out : Int} (hI : Inj97 ad) (hM : M_Tape_hasRoom h = some out) : Met l y_Tape_hasRoom (.code y_Tape_hasRoom prog_10_method_2_code 1 (some .boolean) :: TT) (rmD 0) (PC D ad cA sd sv h [.ref (ad 1)]) (QR out) 0 0 (fun _ => False) := by
  unfold M_Tape_hasRoom at hM
  refine entM (by decide +kernel) hI (Nat.le_of_ble_eq_true rfl) ?_
  intro p e s m args below meth c C hr hlk hP ls hl
  have C : Cx p s m args c prog_10_method_2_code 1 "FeastBook$Tape" D ad cA sd sv (FA ad) := C
  have hl : lv_has ls 1 [(0, .ref (ad 1))] := hl
  refine m_aload_n C hl 0 d_Tape_hasRoom_0 rfl rfl ?_
  refine m_geti C hP kc_Tape sh_1 (Nat.le_of_ble_eq_true rfl) 1 rfl (by decide) fk_Tape_15 d_Tape_hasRoom_1 ?_
  refine m_bipush C d_Tape_hasRoom_4 (by decide) ?_
  refine m_iadd C d_Tape_hasRoom_6 ?_
  refine m_sipush C d_Tape_hasRoom_7 (by decide) ?_
  refine m_icmp_gt C hM 17 d_Tape_hasRoom_10 (by decide) (fun hM => ?_) (fun hM => ?_)
  · refine m_iconst C d_Tape_hasRoom_17 ?_
    exact m_zretR C hr hlk hM d_Tape_hasRoom_18
  · refine m_iconst C d_Tape_hasRoom_13 ?_
    refine m_goto C 18 d_Tape_hasRoom_14 (by decide) ?_
    exact m_zretR C hr hlk hM d_Tape_hasRoom_18
def y_Tape_add : MethodName := ⟨"FeastBook$Tape", "add", "(I)V"⟩
theorem d_Tape_add_0 : decode prog_10_method_3_code 0 = .ok (.bipush 24, 2) := by decide +kernel
theorem d_Tape_add_2 : decode prog_10_method_3_code 2 = .ok (.istore_n 2, 1) := by decide +kernel
theorem d_Tape_add_3 : decode prog_10_method_3_code 3 = .ok (.iload_n 2, 1) := by decide +kernel
theorem d_Tape_add_4 : decode prog_10_method_3_code 4 = .ok (.ifCond .lt 42, 3) := by decide +kernel
theorem d_Tape_add_7 : decode prog_10_method_3_code 7 = .ok (.aload_n 0, 1) := by decide +kernel
theorem d_Tape_add_8 : decode prog_10_method_3_code 8 = .ok (.getfield 15, 3) := by decide +kernel
theorem d_Tape_add_11 : decode prog_10_method_3_code 11 = .ok (.sipush 400, 3) := by decide +kernel
theorem d_Tape_add_14 : decode prog_10_method_3_code 14 = .ok (.if_icmp .ge 32, 3) := by decide +kernel
theorem d_Tape_add_17 : decode prog_10_method_3_code 17 = .ok (.aload_n 0, 1) := by decide +kernel
theorem d_Tape_add_18 : decode prog_10_method_3_code 18 = .ok (.getfield 9, 3) := by decide +kernel
theorem d_Tape_add_21 : decode prog_10_method_3_code 21 = .ok (.aload_n 0, 1) := by decide +kernel
theorem d_Tape_add_22 : decode prog_10_method_3_code 22 = .ok (.getfield 15, 3) := by decide +kernel
theorem d_Tape_add_25 : decode prog_10_method_3_code 25 = .ok (.iload_n 1, 1) := by decide +kernel
theorem d_Tape_add_26 : decode prog_10_method_3_code 26 = .ok (.iload_n 2, 1) := by decide +kernel
theorem d_Tape_add_27 : decode prog_10_method_3_code 27 = .ok (.ishr, 1) := by decide +kernel
theorem d_Tape_add_28 : decode prog_10_method_3_code 28 = .ok (.i2b, 1) := by decide +kernel
theorem d_Tape_add_29 : decode prog_10_method_3_code 29 = .ok (.bastore, 1) := by decide +kernel
theorem d_Tape_add_30 : decode prog_10_method_3_code 30 = .ok (.aload_n 0, 1) := by decide +kernel
theorem d_Tape_add_31 : decode prog_10_method_3_code 31 = .ok (.dup, 1) := by decide +kernel
theorem d_Tape_add_32 : decode prog_10_method_3_code 32 = .ok (.getfield 15, 3) := by decide +kernel
theorem d_Tape_add_35 : decode prog_10_method_3_code 35 = .ok (.iconst 1, 1) := by decide +kernel
theorem d_Tape_add_36 : decode prog_10_method_3_code 36 = .ok (.iadd, 1) := by decide +kernel
theorem d_Tape_add_37 : decode prog_10_method_3_code 37 = .ok (.putfield 15, 3) := by decide +kernel
theorem d_Tape_add_40 : decode prog_10_method_3_code 40 = .ok (.iinc 2 (-8), 3) := by decide +kernel
theorem d_Tape_add_43 : decode prog_10_method_3_code 43 = .ok (.goto (-40), 3) := by decide +kernel
theorem d_Tape_add_46 : decode prog_10_method_3_code 46 = .ok (.return_, 1) := by decide +kernel
theorem fk_Tape_9 : Cond.fieldLink "FeastBook$Tape" 9 (T_Tape 0).1 (T_Tape 0).2.1 (T_Tape 0).2.2.1 ∈ TT := mT1 47 (by decide +kernel) (by decide +kernel)
set_option maxHeartbeats 4000000 in
set_option maxRecDepth 100000 in
theorem w_Tape_add_L3 {p : Program} {l : Launch} {e : Env} {s : State} {m : MethodId} {args : Array Value} {below : List Frame} {meth : Method} {c : Code} {D : va_G} {ad : Nat → Nat} {cA : Nat → ClassId} {sd sv : Nat → Nat} {out : Hp} (N : Nat) (hI : Inj97 ad) (C : Cx p s m args c prog_10_method_3_code 3 "FeastBook$Tape" D ad cA sd sv (FA ad)) (hr : meth.sig.returnType = none) (hlk : meth.locks = false) (v1 : Int) : ∀ (n : Nat) (v2 : Int) (h : Hp) (H : Heap) (locs : List Loc), Wd s D ad cA (FA ad) h H locs → ∀ ls : Array Slot, lv_has ls 3 [(0, .ref (ad 1)), (1, .int (iZ v1)), (2, .int (iZ v2))] → Tape_add_L3 N v1 n v2 h = some out → W p l e (rmD 0) s m args below meth c H locs 0 0 (MQ below (QV D ad cA out) args s 0 0 (FA ad)) (F0 m 3 ls []) := by
  intro n
  induction n with
  | zero =>
    intro v2 h H locs w ls hl hM
    rw [Tape_add_L3] at hM
    cases hM
  | succ n ih =>
    intro v2 h H locs w ls hl hM
    rw [Tape_add_L3] at hM
    refine m_iload_n C hl 2 d_Tape_add_3 rfl rfl ?_
    refine m_if_lt C hM 46 d_Tape_add_4 (by decide) (fun hM => ?_) (fun hM => ?_)
    · exact m_vretW C w hr hlk hM d_Tape_add_46
    · refine m_aload_n C hl 0 d_Tape_add_7 rfl rfl ?_
      refine m_geti C w.1 kc_Tape sh_1 (Nat.le_of_ble_eq_true rfl) 1 rfl (by decide) fk_Tape_15 d_Tape_add_8 ?_
      refine m_sipush C d_Tape_add_11 (by decide) ?_
      refine m_icmp_ge C hM 46 d_Tape_add_14 (by decide) (fun hM => ?_) (fun hM => ?_)
      · exact m_vretW C w hr hlk hM d_Tape_add_46
      · refine m_aload_n C hl 0 d_Tape_add_17 rfl rfl ?_
        refine m_getr C w.1 kc_Tape sh_1 (Nat.le_of_ble_eq_true rfl) 0 2 rfl (by decide) fk_Tape_9 d_Tape_add_18 ?_
        refine m_aload_n C hl 0 d_Tape_add_21 rfl rfl ?_
        refine m_geti C w.1 kc_Tape sh_1 (Nat.le_of_ble_eq_true rfl) 1 rfl (by decide) fk_Tape_15 d_Tape_add_22 ?_
        refine m_iload_n C hl 1 d_Tape_add_25 rfl rfl ?_
        refine m_iload_n C hl 2 d_Tape_add_26 rfl rfl ?_
        refine m_ishr C d_Tape_add_27 ?_
        refine m_i2b C d_Tape_add_28 ?_
        refine m_bast C w sh_2 (Nat.le_of_ble_eq_true rfl) (Nat.le_of_ble_eq_true rfl) hM d_Tape_add_29 (fun h1 H locs w hM => ?_)
        refine m_aload_n C hl 0 d_Tape_add_30 rfl rfl ?_
        refine m_dup C d_Tape_add_31 rfl ?_
        refine m_geti C w.1 kc_Tape sh_1 (Nat.le_of_ble_eq_true rfl) 1 rfl (by decide) fk_Tape_15 d_Tape_add_32 ?_
        refine m_iconst C d_Tape_add_35 ?_
        refine m_iadd C d_Tape_add_36 ?_
        refine m_puti C w kc_Tape sh_1 (Nat.le_of_ble_eq_true rfl) 1 hM rfl (by decide) rfl rfl fk_Tape_15 d_Tape_add_37 (fun h2 H locs w hM => ?_)
        refine m_iinc C hl 2 [(2, .int (iZ (v2 + (-8)))), (0, .ref (ad 1)), (1, .int (iZ v1))] d_Tape_add_40 rfl (by decide) rfl (fun ls hl => ?_)
        refine m_goto C 3 d_Tape_add_43 (by decide) ?_
        exact ih (v2 + (-8)) h2 _ _ w _ (lv_sub hl [1, 2, 0] rfl) hM
set_option maxHeartbeats 4000000 in
set_option maxRecDepth 100000 in
theorem c_Tape_add {l : Launch} {D : va_G} {ad : Nat → Nat} {cA : Nat → ClassId} {sd sv : Nat → Nat} {h : Hp} {N : Nat} {a1 : Int} {out : Hp} (hI : Inj97 ad) (hM : M_Tape_add N h a1 = some out) : Met l y_Tape_add (.code y_Tape_add prog_10_method_3_code 3 none :: TT) (rmD 0) (PC D ad cA sd sv h [.ref (ad 1), .int (iZ a1)]) (QV D ad cA out) 0 0 (FA ad) := by
  unfold M_Tape_add at hM
  refine entM (by decide +kernel) hI (Nat.le_of_ble_eq_true rfl) ?_
  intro p e s m args below meth c C hr hlk hP ls hl
  have C : Cx p s m args c prog_10_method_3_code 3 "FeastBook$Tape" D ad cA sd sv (FA ad) := C
  have hl : lv_has ls 3 [(0, .ref (ad 1)), (1, .int (iZ a1))] := hl
  have w : Wd s D ad cA (FA ad) h s.heap [] := ⟨hP, va_S.rf⟩
  refine m_bipush C d_Tape_add_0 (by decide) ?_
  refine m_istore_n C hl [(2, .int (iZ 24)), (0, .ref (ad 1)), (1, .int (iZ a1))] d_Tape_add_2 rfl (by decide) rfl (fun ls hl => ?_)
  exact w_Tape_add_L3 N hI C hr hlk a1 _ 24 h _ _ w _ (lv_sub hl [1, 2, 0] rfl) hM
def y_Spans_copyFrom : MethodName := ⟨"FeastBook$Spans", "copyFrom", "(LFeastBook$Spans;)V"⟩
theorem d_Spans_copyFrom_0 : decode prog_8_method_4_code 0 = .ok (.aload_n 0, 1) := by decide +kernel
theorem d_Spans_copyFrom_1 : decode prog_8_method_4_code 1 = .ok (.aload_n 1, 1) := by decide +kernel
theorem d_Spans_copyFrom_2 : decode prog_8_method_4_code 2 = .ok (.getfield 21, 3) := by decide +kernel
theorem d_Spans_copyFrom_5 : decode prog_8_method_4_code 5 = .ok (.putfield 21, 3) := by decide +kernel
theorem d_Spans_copyFrom_8 : decode prog_8_method_4_code 8 = .ok (.aload_n 1, 1) := by decide +kernel
theorem d_Spans_copyFrom_9 : decode prog_8_method_4_code 9 = .ok (.getfield 9, 3) := by decide +kernel
theorem d_Spans_copyFrom_12 : decode prog_8_method_4_code 12 = .ok (.iconst 0, 1) := by decide +kernel
theorem d_Spans_copyFrom_13 : decode prog_8_method_4_code 13 = .ok (.aload_n 0, 1) := by decide +kernel
theorem d_Spans_copyFrom_14 : decode prog_8_method_4_code 14 = .ok (.getfield 9, 3) := by decide +kernel
theorem d_Spans_copyFrom_17 : decode prog_8_method_4_code 17 = .ok (.iconst 0, 1) := by decide +kernel
theorem d_Spans_copyFrom_18 : decode prog_8_method_4_code 18 = .ok (.iconst 4, 1) := by decide +kernel
theorem d_Spans_copyFrom_19 : decode prog_8_method_4_code 19 = .ok (.invokestatic 25, 3) := by decide +kernel
theorem d_Spans_copyFrom_22 : decode prog_8_method_4_code 22 = .ok (.aload_n 1, 1) := by decide +kernel
theorem d_Spans_copyFrom_23 : decode prog_8_method_4_code 23 = .ok (.getfield 15, 3) := by decide +kernel
theorem d_Spans_copyFrom_26 : decode prog_8_method_4_code 26 = .ok (.iconst 0, 1) := by decide +kernel
theorem d_Spans_copyFrom_27 : decode prog_8_method_4_code 27 = .ok (.aload_n 0, 1) := by decide +kernel
theorem d_Spans_copyFrom_28 : decode prog_8_method_4_code 28 = .ok (.getfield 15, 3) := by decide +kernel
theorem d_Spans_copyFrom_31 : decode prog_8_method_4_code 31 = .ok (.iconst 0, 1) := by decide +kernel
theorem d_Spans_copyFrom_32 : decode prog_8_method_4_code 32 = .ok (.iconst 4, 1) := by decide +kernel
theorem d_Spans_copyFrom_33 : decode prog_8_method_4_code 33 = .ok (.invokestatic 25, 3) := by decide +kernel
theorem d_Spans_copyFrom_36 : decode prog_8_method_4_code 36 = .ok (.aload_n 1, 1) := by decide +kernel
theorem d_Spans_copyFrom_37 : decode prog_8_method_4_code 37 = .ok (.getfield 18, 3) := by decide +kernel
theorem d_Spans_copyFrom_40 : decode prog_8_method_4_code 40 = .ok (.iconst 0, 1) := by decide +kernel
theorem d_Spans_copyFrom_41 : decode prog_8_method_4_code 41 = .ok (.aload_n 0, 1) := by decide +kernel
theorem d_Spans_copyFrom_42 : decode prog_8_method_4_code 42 = .ok (.getfield 18, 3) := by decide +kernel
theorem d_Spans_copyFrom_45 : decode prog_8_method_4_code 45 = .ok (.iconst 0, 1) := by decide +kernel
theorem d_Spans_copyFrom_46 : decode prog_8_method_4_code 46 = .ok (.iconst 4, 1) := by decide +kernel
theorem d_Spans_copyFrom_47 : decode prog_8_method_4_code 47 = .ok (.invokestatic 25, 3) := by decide +kernel
theorem d_Spans_copyFrom_50 : decode prog_8_method_4_code 50 = .ok (.return_, 1) := by decide +kernel
theorem fk_Spans_15 : Cond.fieldLink "FeastBook$Spans" 15 (T_Spans 2).1 (T_Spans 2).2.1 (T_Spans 2).2.2.1 ∈ TT := mT1 80 (by decide +kernel) (by decide +kernel)
theorem fk_Spans_18 : Cond.fieldLink "FeastBook$Spans" 18 (T_Spans 3).1 (T_Spans 3).2.1 (T_Spans 3).2.2.1 ∈ TT := mT1 81 (by decide +kernel) (by decide +kernel)
theorem fk_Spans_21 : Cond.fieldLink "FeastBook$Spans" 21 (T_Spans 0).1 (T_Spans 0).2.1 (T_Spans 0).2.2.1 ∈ TT := mT1 75 (by decide +kernel) (by decide +kernel)
theorem fk_Spans_9 : Cond.fieldLink "FeastBook$Spans" 9 (T_Spans 1).1 (T_Spans 1).2.1 (T_Spans 1).2.2.1 ∈ TT := mT1 79 (by decide +kernel) (by decide +kernel)
theorem lk_Spans_25 : Cond.methodLink "FeastBook$Spans" 25 arraycopyName ∈ TT := mT2 232 (by decide +kernel) (by decide +kernel)
set_option maxHeartbeats 4000000 in
set_option maxRecDepth 100000 in
theorem c_Spans_copyFrom {l : Launch} {D : va_G} {ad : Nat → Nat} {cA : Nat → ClassId} {sd sv : Nat → Nat} {h : Hp} {P : Nat} {Q : Nat} {out : Hp} (hI : Inj97 ad) (hP0 : isSp P) (hQ0 : isSp Q) (hM : M_Spans_copyFrom h P Q = some out) : Met l y_Spans_copyFrom (.code y_Spans_copyFrom prog_8_method_4_code 2 none :: TT) (rmD 1) (PC D ad cA sd sv h [.ref (ad P), .ref (ad Q)]) (QV D ad cA out) 0 0 (FA ad) := by
  unfold M_Spans_copyFrom at hM
  refine entM (by decide +kernel) hI (Nat.le_of_ble_eq_true rfl) ?_
  intro p e s m args below meth c C hr hlk hP ls hl
  have C : Cx p s m args c prog_8_method_4_code 2 "FeastBook$Spans" D ad cA sd sv (FA ad) := C
  have hl : lv_has ls 2 [(0, .ref (ad P)), (1, .ref (ad Q))] := hl
  have w : Wd s D ad cA (FA ad) h s.heap [] := ⟨hP, va_S.rf⟩
  refine m_aload_n C hl 0 d_Spans_copyFrom_0 rfl rfl ?_
  refine m_aload_n C hl 1 d_Spans_copyFrom_1 rfl rfl ?_
  refine m_geti C w.1 kc_Spans (shP_0 hQ0) (ltP0 hQ0) 0 rfl (by decide) fk_Spans_21 d_Spans_copyFrom_2 ?_
  refine m_puti C w kc_Spans (shP_0 hP0) (ltP0 hP0) 0 hM rfl (by decide) rfl rfl fk_Spans_21 d_Spans_copyFrom_5 (fun h1 H locs w hM => ?_)
  refine m_aload_n C hl 1 d_Spans_copyFrom_8 rfl rfl ?_
  refine m_getr C w.1 kc_Spans (shP_0 hQ0) (ltP0 hQ0) 1 (Q + 1) rfl (by decide) fk_Spans_9 d_Spans_copyFrom_9 ?_
  refine m_iconst C d_Spans_copyFrom_12 ?_
  refine m_aload_n C hl 0 d_Spans_copyFrom_13 rfl rfl ?_
  refine m_getr C w.1 kc_Spans (shP_0 hP0) (ltP0 hP0) 1 (P + 1) rfl (by decide) fk_Spans_9 d_Spans_copyFrom_14 ?_
  refine m_iconst C d_Spans_copyFrom_17 ?_
  refine m_iconst C d_Spans_copyFrom_18 ?_
  refine m_cpy C w (shP_1 hQ0) (ltP hQ0 1 (by decide)) (shP_1 hP0) (ltP hP0 1 (by decide)) (Nat.le_of_ble_eq_true rfl) (Nat.le_of_ble_eq_true rfl) hM lk_Spans_25 hl.1 (Nat.le_of_ble_eq_true rfl) (Nat.le_of_ble_eq_true rfl) d_Spans_copyFrom_19 (fun h2 H locs w hM => ?_)
  refine m_aload_n C hl 1 d_Spans_copyFrom_22 rfl rfl ?_
  refine m_getr C w.1 kc_Spans (shP_0 hQ0) (ltP0 hQ0) 2 (Q + 2) rfl (by decide) fk_Spans_15 d_Spans_copyFrom_23 ?_
  refine m_iconst C d_Spans_copyFrom_26 ?_
  refine m_aload_n C hl 0 d_Spans_copyFrom_27 rfl rfl ?_
  refine m_getr C w.1 kc_Spans (shP_0 hP0) (ltP0 hP0) 2 (P + 2) rfl (by decide) fk_Spans_15 d_Spans_copyFrom_28 ?_
  refine m_iconst C d_Spans_copyFrom_31 ?_
  refine m_iconst C d_Spans_copyFrom_32 ?_
  refine m_cpy C w (shP_2 hQ0) (ltP hQ0 2 (by decide)) (shP_2 hP0) (ltP hP0 2 (by decide)) (Nat.le_of_ble_eq_true rfl) (Nat.le_of_ble_eq_true rfl) hM lk_Spans_25 hl.1 (Nat.le_of_ble_eq_true rfl) (Nat.le_of_ble_eq_true rfl) d_Spans_copyFrom_33 (fun h3 H locs w hM => ?_)
  refine m_aload_n C hl 1 d_Spans_copyFrom_36 rfl rfl ?_
  refine m_getr C w.1 kc_Spans (shP_0 hQ0) (ltP0 hQ0) 3 (Q + 3) rfl (by decide) fk_Spans_18 d_Spans_copyFrom_37 ?_
  refine m_iconst C d_Spans_copyFrom_40 ?_
  refine m_aload_n C hl 0 d_Spans_copyFrom_41 rfl rfl ?_
  refine m_getr C w.1 kc_Spans (shP_0 hP0) (ltP0 hP0) 3 (P + 3) rfl (by decide) fk_Spans_18 d_Spans_copyFrom_42 ?_
  refine m_iconst C d_Spans_copyFrom_45 ?_
  refine m_iconst C d_Spans_copyFrom_46 ?_
  refine m_cpy C w (shP_3 hQ0) (ltP hQ0 3 (by decide)) (shP_3 hP0) (ltP hP0 3 (by decide)) (Nat.le_of_ble_eq_true rfl) (Nat.le_of_ble_eq_true rfl) hM lk_Spans_25 hl.1 (Nat.le_of_ble_eq_true rfl) (Nat.le_of_ble_eq_true rfl) d_Spans_copyFrom_47 (fun h4 H locs w hM => ?_)
  exact m_vretW C w hr hlk hM d_Spans_copyFrom_50
def y_Feasts_copyFrom : MethodName := ⟨"FeastBook$Feasts", "copyFrom", "(LFeastBook$Feasts;)V"⟩
theorem d_Feasts_copyFrom_0 : decode prog_4_method_9_code 0 = .ok (.aload_n 0, 1) := by decide +kernel
theorem d_Feasts_copyFrom_1 : decode prog_4_method_9_code 1 = .ok (.aload_n 1, 1) := by decide +kernel
theorem d_Feasts_copyFrom_2 : decode prog_4_method_9_code 2 = .ok (.getfield 36, 3) := by decide +kernel
theorem d_Feasts_copyFrom_5 : decode prog_4_method_9_code 5 = .ok (.putfield 36, 3) := by decide +kernel
theorem d_Feasts_copyFrom_8 : decode prog_4_method_9_code 8 = .ok (.aload_n 1, 1) := by decide +kernel
theorem d_Feasts_copyFrom_9 : decode prog_4_method_9_code 9 = .ok (.getfield 9, 3) := by decide +kernel
theorem d_Feasts_copyFrom_12 : decode prog_4_method_9_code 12 = .ok (.iconst 0, 1) := by decide +kernel
theorem d_Feasts_copyFrom_13 : decode prog_4_method_9_code 13 = .ok (.aload_n 0, 1) := by decide +kernel
theorem d_Feasts_copyFrom_14 : decode prog_4_method_9_code 14 = .ok (.getfield 9, 3) := by decide +kernel
theorem d_Feasts_copyFrom_17 : decode prog_4_method_9_code 17 = .ok (.iconst 0, 1) := by decide +kernel
theorem d_Feasts_copyFrom_18 : decode prog_4_method_9_code 18 = .ok (.bipush 12, 2) := by decide +kernel
theorem d_Feasts_copyFrom_20 : decode prog_4_method_9_code 20 = .ok (.invokestatic 58, 3) := by decide +kernel
theorem d_Feasts_copyFrom_23 : decode prog_4_method_9_code 23 = .ok (.aload_n 1, 1) := by decide +kernel
theorem d_Feasts_copyFrom_24 : decode prog_4_method_9_code 24 = .ok (.getfield 15, 3) := by decide +kernel
theorem d_Feasts_copyFrom_27 : decode prog_4_method_9_code 27 = .ok (.iconst 0, 1) := by decide +kernel
theorem d_Feasts_copyFrom_28 : decode prog_4_method_9_code 28 = .ok (.aload_n 0, 1) := by decide +kernel
theorem d_Feasts_copyFrom_29 : decode prog_4_method_9_code 29 = .ok (.getfield 15, 3) := by decide +kernel
theorem d_Feasts_copyFrom_32 : decode prog_4_method_9_code 32 = .ok (.iconst 0, 1) := by decide +kernel
theorem d_Feasts_copyFrom_33 : decode prog_4_method_9_code 33 = .ok (.bipush 12, 2) := by decide +kernel
theorem d_Feasts_copyFrom_35 : decode prog_4_method_9_code 35 = .ok (.invokestatic 58, 3) := by decide +kernel
theorem d_Feasts_copyFrom_38 : decode prog_4_method_9_code 38 = .ok (.aload_n 1, 1) := by decide +kernel
theorem d_Feasts_copyFrom_39 : decode prog_4_method_9_code 39 = .ok (.getfield 18, 3) := by decide +kernel
theorem d_Feasts_copyFrom_42 : decode prog_4_method_9_code 42 = .ok (.iconst 0, 1) := by decide +kernel
theorem d_Feasts_copyFrom_43 : decode prog_4_method_9_code 43 = .ok (.aload_n 0, 1) := by decide +kernel
theorem d_Feasts_copyFrom_44 : decode prog_4_method_9_code 44 = .ok (.getfield 18, 3) := by decide +kernel
theorem d_Feasts_copyFrom_47 : decode prog_4_method_9_code 47 = .ok (.iconst 0, 1) := by decide +kernel
theorem d_Feasts_copyFrom_48 : decode prog_4_method_9_code 48 = .ok (.bipush 12, 2) := by decide +kernel
theorem d_Feasts_copyFrom_50 : decode prog_4_method_9_code 50 = .ok (.invokestatic 58, 3) := by decide +kernel
theorem d_Feasts_copyFrom_53 : decode prog_4_method_9_code 53 = .ok (.aload_n 1, 1) := by decide +kernel
theorem d_Feasts_copyFrom_54 : decode prog_4_method_9_code 54 = .ok (.getfield 21, 3) := by decide +kernel
theorem d_Feasts_copyFrom_57 : decode prog_4_method_9_code 57 = .ok (.iconst 0, 1) := by decide +kernel
theorem d_Feasts_copyFrom_58 : decode prog_4_method_9_code 58 = .ok (.aload_n 0, 1) := by decide +kernel
theorem d_Feasts_copyFrom_59 : decode prog_4_method_9_code 59 = .ok (.getfield 21, 3) := by decide +kernel
theorem d_Feasts_copyFrom_62 : decode prog_4_method_9_code 62 = .ok (.iconst 0, 1) := by decide +kernel
theorem d_Feasts_copyFrom_63 : decode prog_4_method_9_code 63 = .ok (.bipush 12, 2) := by decide +kernel
theorem d_Feasts_copyFrom_65 : decode prog_4_method_9_code 65 = .ok (.invokestatic 58, 3) := by decide +kernel
theorem d_Feasts_copyFrom_68 : decode prog_4_method_9_code 68 = .ok (.aload_n 1, 1) := by decide +kernel
theorem d_Feasts_copyFrom_69 : decode prog_4_method_9_code 69 = .ok (.getfield 24, 3) := by decide +kernel
theorem d_Feasts_copyFrom_72 : decode prog_4_method_9_code 72 = .ok (.iconst 0, 1) := by decide +kernel
theorem d_Feasts_copyFrom_73 : decode prog_4_method_9_code 73 = .ok (.aload_n 0, 1) := by decide +kernel
theorem d_Feasts_copyFrom_74 : decode prog_4_method_9_code 74 = .ok (.getfield 24, 3) := by decide +kernel
theorem d_Feasts_copyFrom_77 : decode prog_4_method_9_code 77 = .ok (.iconst 0, 1) := by decide +kernel
theorem d_Feasts_copyFrom_78 : decode prog_4_method_9_code 78 = .ok (.bipush 12, 2) := by decide +kernel
theorem d_Feasts_copyFrom_80 : decode prog_4_method_9_code 80 = .ok (.invokestatic 58, 3) := by decide +kernel
theorem d_Feasts_copyFrom_83 : decode prog_4_method_9_code 83 = .ok (.aload_n 1, 1) := by decide +kernel
theorem d_Feasts_copyFrom_84 : decode prog_4_method_9_code 84 = .ok (.getfield 27, 3) := by decide +kernel
theorem d_Feasts_copyFrom_87 : decode prog_4_method_9_code 87 = .ok (.iconst 0, 1) := by decide +kernel
theorem d_Feasts_copyFrom_88 : decode prog_4_method_9_code 88 = .ok (.aload_n 0, 1) := by decide +kernel
theorem d_Feasts_copyFrom_89 : decode prog_4_method_9_code 89 = .ok (.getfield 27, 3) := by decide +kernel
theorem d_Feasts_copyFrom_92 : decode prog_4_method_9_code 92 = .ok (.iconst 0, 1) := by decide +kernel
theorem d_Feasts_copyFrom_93 : decode prog_4_method_9_code 93 = .ok (.bipush 12, 2) := by decide +kernel
theorem d_Feasts_copyFrom_95 : decode prog_4_method_9_code 95 = .ok (.invokestatic 58, 3) := by decide +kernel
theorem d_Feasts_copyFrom_98 : decode prog_4_method_9_code 98 = .ok (.aload_n 1, 1) := by decide +kernel
theorem d_Feasts_copyFrom_99 : decode prog_4_method_9_code 99 = .ok (.getfield 30, 3) := by decide +kernel
theorem d_Feasts_copyFrom_102 : decode prog_4_method_9_code 102 = .ok (.iconst 0, 1) := by decide +kernel
theorem d_Feasts_copyFrom_103 : decode prog_4_method_9_code 103 = .ok (.aload_n 0, 1) := by decide +kernel
theorem d_Feasts_copyFrom_104 : decode prog_4_method_9_code 104 = .ok (.getfield 30, 3) := by decide +kernel
theorem d_Feasts_copyFrom_107 : decode prog_4_method_9_code 107 = .ok (.iconst 0, 1) := by decide +kernel
theorem d_Feasts_copyFrom_108 : decode prog_4_method_9_code 108 = .ok (.bipush 12, 2) := by decide +kernel
theorem d_Feasts_copyFrom_110 : decode prog_4_method_9_code 110 = .ok (.invokestatic 58, 3) := by decide +kernel
theorem d_Feasts_copyFrom_113 : decode prog_4_method_9_code 113 = .ok (.aload_n 1, 1) := by decide +kernel
theorem d_Feasts_copyFrom_114 : decode prog_4_method_9_code 114 = .ok (.getfield 33, 3) := by decide +kernel
theorem d_Feasts_copyFrom_117 : decode prog_4_method_9_code 117 = .ok (.iconst 0, 1) := by decide +kernel
theorem d_Feasts_copyFrom_118 : decode prog_4_method_9_code 118 = .ok (.aload_n 0, 1) := by decide +kernel
theorem d_Feasts_copyFrom_119 : decode prog_4_method_9_code 119 = .ok (.getfield 33, 3) := by decide +kernel
theorem d_Feasts_copyFrom_122 : decode prog_4_method_9_code 122 = .ok (.iconst 0, 1) := by decide +kernel
theorem d_Feasts_copyFrom_123 : decode prog_4_method_9_code 123 = .ok (.bipush 12, 2) := by decide +kernel
theorem d_Feasts_copyFrom_125 : decode prog_4_method_9_code 125 = .ok (.invokestatic 58, 3) := by decide +kernel
theorem d_Feasts_copyFrom_128 : decode prog_4_method_9_code 128 = .ok (.return_, 1) := by decide +kernel
theorem fk_Feasts_15 : Cond.fieldLink "FeastBook$Feasts" 15 (T_Feasts 2).1 (T_Feasts 2).2.1 (T_Feasts 2).2.2.1 ∈ TT := mT1 108 (by decide +kernel) (by decide +kernel)
theorem fk_Feasts_18 : Cond.fieldLink "FeastBook$Feasts" 18 (T_Feasts 3).1 (T_Feasts 3).2.1 (T_Feasts 3).2.2.1 ∈ TT := mT1 112 (by decide +kernel) (by decide +kernel)
theorem fk_Feasts_21 : Cond.fieldLink "FeastBook$Feasts" 21 (T_Feasts 4).1 (T_Feasts 4).2.1 (T_Feasts 4).2.2.1 ∈ TT := mT1 116 (by decide +kernel) (by decide +kernel)
theorem fk_Feasts_24 : Cond.fieldLink "FeastBook$Feasts" 24 (T_Feasts 5).1 (T_Feasts 5).2.1 (T_Feasts 5).2.2.1 ∈ TT := mT1 119 (by decide +kernel) (by decide +kernel)
theorem fk_Feasts_27 : Cond.fieldLink "FeastBook$Feasts" 27 (T_Feasts 6).1 (T_Feasts 6).2.1 (T_Feasts 6).2.2.1 ∈ TT := mT1 122 (by decide +kernel) (by decide +kernel)
theorem fk_Feasts_30 : Cond.fieldLink "FeastBook$Feasts" 30 (T_Feasts 7).1 (T_Feasts 7).2.1 (T_Feasts 7).2.2.1 ∈ TT := mT1 125 (by decide +kernel) (by decide +kernel)
theorem fk_Feasts_33 : Cond.fieldLink "FeastBook$Feasts" 33 (T_Feasts 8).1 (T_Feasts 8).2.1 (T_Feasts 8).2.2.1 ∈ TT := mT1 129 (by decide +kernel) (by decide +kernel)
theorem fk_Feasts_36 : Cond.fieldLink "FeastBook$Feasts" 36 (T_Feasts 0).1 (T_Feasts 0).2.1 (T_Feasts 0).2.2.1 ∈ TT := mT1 99 (by decide +kernel) (by decide +kernel)
theorem fk_Feasts_9 : Cond.fieldLink "FeastBook$Feasts" 9 (T_Feasts 1).1 (T_Feasts 1).2.1 (T_Feasts 1).2.2.1 ∈ TT := mT1 105 (by decide +kernel) (by decide +kernel)
theorem lk_Feasts_58 : Cond.methodLink "FeastBook$Feasts" 58 arraycopyName ∈ TT := mT2 237 (by decide +kernel) (by decide +kernel)
set_option maxHeartbeats 4000000 in
set_option maxRecDepth 100000 in
theorem c_Feasts_copyFrom {l : Launch} {D : va_G} {ad : Nat → Nat} {cA : Nat → ClassId} {sd sv : Nat → Nat} {h : Hp} {F : Nat} {G : Nat} {out : Hp} (hI : Inj97 ad) (hF : isFt F) (hG : isFt G) (hM : M_Feasts_copyFrom h F G = some out) : Met l y_Feasts_copyFrom (.code y_Feasts_copyFrom prog_4_method_9_code 2 none :: TT) (rmD 1) (PC D ad cA sd sv h [.ref (ad F), .ref (ad G)]) (QV D ad cA out) 0 0 (FA ad) := by
  unfold M_Feasts_copyFrom at hM
  refine entM (by decide +kernel) hI (Nat.le_of_ble_eq_true rfl) ?_
  intro p e s m args below meth c C hr hlk hP ls hl
  have C : Cx p s m args c prog_4_method_9_code 2 "FeastBook$Feasts" D ad cA sd sv (FA ad) := C
  have hl : lv_has ls 2 [(0, .ref (ad F)), (1, .ref (ad G))] := hl
  have w : Wd s D ad cA (FA ad) h s.heap [] := ⟨hP, va_S.rf⟩
  refine m_aload_n C hl 0 d_Feasts_copyFrom_0 rfl rfl ?_
  refine m_aload_n C hl 1 d_Feasts_copyFrom_1 rfl rfl ?_
  refine m_geti C w.1 kc_Feasts (shF_0 hG) (ltF0 hG) 0 rfl (by decide) fk_Feasts_36 d_Feasts_copyFrom_2 ?_
  refine m_puti C w kc_Feasts (shF_0 hF) (ltF0 hF) 0 hM rfl (by decide) rfl rfl fk_Feasts_36 d_Feasts_copyFrom_5 (fun h1 H locs w hM => ?_)
  refine m_aload_n C hl 1 d_Feasts_copyFrom_8 rfl rfl ?_
  refine m_getr C w.1 kc_Feasts (shF_0 hG) (ltF0 hG) 1 (G + 1) rfl (by decide) fk_Feasts_9 d_Feasts_copyFrom_9 ?_
  refine m_iconst C d_Feasts_copyFrom_12 ?_
  refine m_aload_n C hl 0 d_Feasts_copyFrom_13 rfl rfl ?_
  refine m_getr C w.1 kc_Feasts (shF_0 hF) (ltF0 hF) 1 (F + 1) rfl (by decide) fk_Feasts_9 d_Feasts_copyFrom_14 ?_
  refine m_iconst C d_Feasts_copyFrom_17 ?_
  refine m_bipush C d_Feasts_copyFrom_18 (by decide) ?_
  refine m_cpy C w (shF_1 hG) (ltF hG 1 (by decide)) (shF_1 hF) (ltF hF 1 (by decide)) (Nat.le_of_ble_eq_true rfl) (Nat.le_of_ble_eq_true rfl) hM lk_Feasts_58 hl.1 (Nat.le_of_ble_eq_true rfl) (Nat.le_of_ble_eq_true rfl) d_Feasts_copyFrom_20 (fun h2 H locs w hM => ?_)
  refine m_aload_n C hl 1 d_Feasts_copyFrom_23 rfl rfl ?_
  refine m_getr C w.1 kc_Feasts (shF_0 hG) (ltF0 hG) 2 (G + 2) rfl (by decide) fk_Feasts_15 d_Feasts_copyFrom_24 ?_
  refine m_iconst C d_Feasts_copyFrom_27 ?_
  refine m_aload_n C hl 0 d_Feasts_copyFrom_28 rfl rfl ?_
  refine m_getr C w.1 kc_Feasts (shF_0 hF) (ltF0 hF) 2 (F + 2) rfl (by decide) fk_Feasts_15 d_Feasts_copyFrom_29 ?_
  refine m_iconst C d_Feasts_copyFrom_32 ?_
  refine m_bipush C d_Feasts_copyFrom_33 (by decide) ?_
  refine m_cpy C w (shF_2 hG) (ltF hG 2 (by decide)) (shF_2 hF) (ltF hF 2 (by decide)) (Nat.le_of_ble_eq_true rfl) (Nat.le_of_ble_eq_true rfl) hM lk_Feasts_58 hl.1 (Nat.le_of_ble_eq_true rfl) (Nat.le_of_ble_eq_true rfl) d_Feasts_copyFrom_35 (fun h3 H locs w hM => ?_)
  refine m_aload_n C hl 1 d_Feasts_copyFrom_38 rfl rfl ?_
  refine m_getr C w.1 kc_Feasts (shF_0 hG) (ltF0 hG) 3 (G + 3) rfl (by decide) fk_Feasts_18 d_Feasts_copyFrom_39 ?_
  refine m_iconst C d_Feasts_copyFrom_42 ?_
  refine m_aload_n C hl 0 d_Feasts_copyFrom_43 rfl rfl ?_
  refine m_getr C w.1 kc_Feasts (shF_0 hF) (ltF0 hF) 3 (F + 3) rfl (by decide) fk_Feasts_18 d_Feasts_copyFrom_44 ?_
  refine m_iconst C d_Feasts_copyFrom_47 ?_
  refine m_bipush C d_Feasts_copyFrom_48 (by decide) ?_
  refine m_cpy C w (shF_3 hG) (ltF hG 3 (by decide)) (shF_3 hF) (ltF hF 3 (by decide)) (Nat.le_of_ble_eq_true rfl) (Nat.le_of_ble_eq_true rfl) hM lk_Feasts_58 hl.1 (Nat.le_of_ble_eq_true rfl) (Nat.le_of_ble_eq_true rfl) d_Feasts_copyFrom_50 (fun h4 H locs w hM => ?_)
  refine m_aload_n C hl 1 d_Feasts_copyFrom_53 rfl rfl ?_
  refine m_getr C w.1 kc_Feasts (shF_0 hG) (ltF0 hG) 4 (G + 4) rfl (by decide) fk_Feasts_21 d_Feasts_copyFrom_54 ?_
  refine m_iconst C d_Feasts_copyFrom_57 ?_
  refine m_aload_n C hl 0 d_Feasts_copyFrom_58 rfl rfl ?_
  refine m_getr C w.1 kc_Feasts (shF_0 hF) (ltF0 hF) 4 (F + 4) rfl (by decide) fk_Feasts_21 d_Feasts_copyFrom_59 ?_
  refine m_iconst C d_Feasts_copyFrom_62 ?_
  refine m_bipush C d_Feasts_copyFrom_63 (by decide) ?_
  refine m_cpy C w (shF_4 hG) (ltF hG 4 (by decide)) (shF_4 hF) (ltF hF 4 (by decide)) (Nat.le_of_ble_eq_true rfl) (Nat.le_of_ble_eq_true rfl) hM lk_Feasts_58 hl.1 (Nat.le_of_ble_eq_true rfl) (Nat.le_of_ble_eq_true rfl) d_Feasts_copyFrom_65 (fun h5 H locs w hM => ?_)
  refine m_aload_n C hl 1 d_Feasts_copyFrom_68 rfl rfl ?_
  refine m_getr C w.1 kc_Feasts (shF_0 hG) (ltF0 hG) 5 (G + 5) rfl (by decide) fk_Feasts_24 d_Feasts_copyFrom_69 ?_
  refine m_iconst C d_Feasts_copyFrom_72 ?_
  refine m_aload_n C hl 0 d_Feasts_copyFrom_73 rfl rfl ?_
  refine m_getr C w.1 kc_Feasts (shF_0 hF) (ltF0 hF) 5 (F + 5) rfl (by decide) fk_Feasts_24 d_Feasts_copyFrom_74 ?_
  refine m_iconst C d_Feasts_copyFrom_77 ?_
  refine m_bipush C d_Feasts_copyFrom_78 (by decide) ?_
  refine m_cpy C w (shF_5 hG) (ltF hG 5 (by decide)) (shF_5 hF) (ltF hF 5 (by decide)) (Nat.le_of_ble_eq_true rfl) (Nat.le_of_ble_eq_true rfl) hM lk_Feasts_58 hl.1 (Nat.le_of_ble_eq_true rfl) (Nat.le_of_ble_eq_true rfl) d_Feasts_copyFrom_80 (fun h6 H locs w hM => ?_)
  refine m_aload_n C hl 1 d_Feasts_copyFrom_83 rfl rfl ?_
  refine m_getr C w.1 kc_Feasts (shF_0 hG) (ltF0 hG) 6 (G + 6) rfl (by decide) fk_Feasts_27 d_Feasts_copyFrom_84 ?_
  refine m_iconst C d_Feasts_copyFrom_87 ?_
  refine m_aload_n C hl 0 d_Feasts_copyFrom_88 rfl rfl ?_
  refine m_getr C w.1 kc_Feasts (shF_0 hF) (ltF0 hF) 6 (F + 6) rfl (by decide) fk_Feasts_27 d_Feasts_copyFrom_89 ?_
  refine m_iconst C d_Feasts_copyFrom_92 ?_
  refine m_bipush C d_Feasts_copyFrom_93 (by decide) ?_
  refine m_cpy C w (shF_6 hG) (ltF hG 6 (by decide)) (shF_6 hF) (ltF hF 6 (by decide)) (Nat.le_of_ble_eq_true rfl) (Nat.le_of_ble_eq_true rfl) hM lk_Feasts_58 hl.1 (Nat.le_of_ble_eq_true rfl) (Nat.le_of_ble_eq_true rfl) d_Feasts_copyFrom_95 (fun h7 H locs w hM => ?_)
  refine m_aload_n C hl 1 d_Feasts_copyFrom_98 rfl rfl ?_
  refine m_getr C w.1 kc_Feasts (shF_0 hG) (ltF0 hG) 7 (G + 7) rfl (by decide) fk_Feasts_30 d_Feasts_copyFrom_99 ?_
  refine m_iconst C d_Feasts_copyFrom_102 ?_
  refine m_aload_n C hl 0 d_Feasts_copyFrom_103 rfl rfl ?_
  refine m_getr C w.1 kc_Feasts (shF_0 hF) (ltF0 hF) 7 (F + 7) rfl (by decide) fk_Feasts_30 d_Feasts_copyFrom_104 ?_
  refine m_iconst C d_Feasts_copyFrom_107 ?_
  refine m_bipush C d_Feasts_copyFrom_108 (by decide) ?_
  refine m_cpy C w (shF_7 hG) (ltF hG 7 (by decide)) (shF_7 hF) (ltF hF 7 (by decide)) (Nat.le_of_ble_eq_true rfl) (Nat.le_of_ble_eq_true rfl) hM lk_Feasts_58 hl.1 (Nat.le_of_ble_eq_true rfl) (Nat.le_of_ble_eq_true rfl) d_Feasts_copyFrom_110 (fun h8 H locs w hM => ?_)
  refine m_aload_n C hl 1 d_Feasts_copyFrom_113 rfl rfl ?_
  refine m_getr C w.1 kc_Feasts (shF_0 hG) (ltF0 hG) 8 (G + 8) rfl (by decide) fk_Feasts_33 d_Feasts_copyFrom_114 ?_
  refine m_iconst C d_Feasts_copyFrom_117 ?_
  refine m_aload_n C hl 0 d_Feasts_copyFrom_118 rfl rfl ?_
  refine m_getr C w.1 kc_Feasts (shF_0 hF) (ltF0 hF) 8 (F + 8) rfl (by decide) fk_Feasts_33 d_Feasts_copyFrom_119 ?_
  refine m_iconst C d_Feasts_copyFrom_122 ?_
  refine m_bipush C d_Feasts_copyFrom_123 (by decide) ?_
  refine m_cpy C w (shF_8 hG) (ltF hG 8 (by decide)) (shF_8 hF) (ltF hF 8 (by decide)) (Nat.le_of_ble_eq_true rfl) (Nat.le_of_ble_eq_true rfl) hM lk_Feasts_58 hl.1 (Nat.le_of_ble_eq_true rfl) (Nat.le_of_ble_eq_true rfl) d_Feasts_copyFrom_125 (fun h9 H locs w hM => ?_)
  exact m_vretW C w hr hlk hM d_Feasts_copyFrom_128
def y_JA_fill_IIV : MethodName := ⟨"java/util/Arrays", "fill", "([II)V"⟩
theorem d_JA_fill_IIV_0 : decode prog_37_method_103_code 0 = .ok (.iconst 0, 1) := by decide +kernel
theorem d_JA_fill_IIV_1 : decode prog_37_method_103_code 1 = .ok (.istore_n 2, 1) := by decide +kernel
theorem d_JA_fill_IIV_2 : decode prog_37_method_103_code 2 = .ok (.aload_n 0, 1) := by decide +kernel
theorem d_JA_fill_IIV_3 : decode prog_37_method_103_code 3 = .ok (.arraylength, 1) := by decide +kernel
theorem d_JA_fill_IIV_4 : decode prog_37_method_103_code 4 = .ok (.istore_n 3, 1) := by decide +kernel
theorem d_JA_fill_IIV_5 : decode prog_37_method_103_code 5 = .ok (.iload_n 2, 1) := by decide +kernel
theorem d_JA_fill_IIV_6 : decode prog_37_method_103_code 6 = .ok (.iload_n 3, 1) := by decide +kernel
theorem d_JA_fill_IIV_7 : decode prog_37_method_103_code 7 = .ok (.if_icmp .ge 13, 3) := by decide +kernel
theorem d_JA_fill_IIV_10 : decode prog_37_method_103_code 10 = .ok (.aload_n 0, 1) := by decide +kernel
theorem d_JA_fill_IIV_11 : decode prog_37_method_103_code 11 = .ok (.iload_n 2, 1) := by decide +kernel
theorem d_JA_fill_IIV_12 : decode prog_37_method_103_code 12 = .ok (.iload_n 1, 1) := by decide +kernel
theorem d_JA_fill_IIV_13 : decode prog_37_method_103_code 13 = .ok (.iastore, 1) := by decide +kernel
theorem d_JA_fill_IIV_14 : decode prog_37_method_103_code 14 = .ok (.iinc 2 1, 3) := by decide +kernel
theorem d_JA_fill_IIV_17 : decode prog_37_method_103_code 17 = .ok (.goto (-12), 3) := by decide +kernel
theorem d_JA_fill_IIV_20 : decode prog_37_method_103_code 20 = .ok (.return_, 1) := by decide +kernel
set_option maxHeartbeats 4000000 in
set_option maxRecDepth 100000 in
theorem w_JA_fill_IIV_L5 {p : Program} {l : Launch} {e : Env} {s : State} {m : MethodId} {args : Array Value} {below : List Frame} {meth : Method} {c : Code} {D : va_G} {ad : Nat → Nat} {cA : Nat → ClassId} {sd sv : Nat → Nat} {out : Hp} (N : Nat) (X : Nat) (nX : Nat) (hX : shp X = .inr (0, nX) ∧ X < 97 ∧ nX < 2147483648) (hI : Inj97 ad) (C : Cx p s m args c prog_37_method_103_code 4 "java/util/Arrays" D ad cA sd sv (FA ad)) (hr : meth.sig.returnType = none) (hlk : meth.locks = false) (v1 v3 : Int) : ∀ (n : Nat) (v2 : Int) (h : Hp) (H : Heap) (locs : List Loc), Wd s D ad cA (FA ad) h H locs → ∀ ls : Array Slot, lv_has ls 4 [(0, .ref (ad X)), (1, .int (iZ v1)), (2, .int (iZ v2)), (3, .int (iZ v3))] → JA_fill_IIV_L5 N X nX v1 v3 n v2 h = some out → W p l e (rmD 0) s m args below meth c H locs 0 0 (MQ below (QV D ad cA out) args s 0 0 (FA ad)) (F0 m 5 ls []) := by
  intro n
  induction n with
  | zero =>
    intro v2 h H locs w ls hl hM
    rw [JA_fill_IIV_L5] at hM
    cases hM
  | succ n ih =>
    intro v2 h H locs w ls hl hM
    rw [JA_fill_IIV_L5] at hM
    refine m_iload_n C hl 2 d_JA_fill_IIV_5 rfl rfl ?_
    refine m_iload_n C hl 3 d_JA_fill_IIV_6 rfl rfl ?_
    refine m_icmp_ge C hM 20 d_JA_fill_IIV_7 (by decide) (fun hM => ?_) (fun hM => ?_)
    · exact m_vretW C w hr hlk hM d_JA_fill_IIV_20
    · refine m_aload_n C hl 0 d_JA_fill_IIV_10 rfl rfl ?_
      refine m_iload_n C hl 2 d_JA_fill_IIV_11 rfl rfl ?_
      refine m_iload_n C hl 1 d_JA_fill_IIV_12 rfl rfl ?_
      refine m_iast C w hX.1 hX.2.1 hX.2.2 hM d_JA_fill_IIV_13 (fun h1 H locs w hM => ?_)
      refine m_iinc C hl 2 [(2, .int (iZ (v2 + 1))), (0, .ref (ad X)), (1, .int (iZ v1)), (3, .int (iZ v3))] d_JA_fill_IIV_14 rfl (by decide) rfl (fun ls hl => ?_)
      refine m_goto C 5 d_JA_fill_IIV_17 (by decide) ?_
      exact ih (v2 + 1) h1 _ _ w _ (lv_sub hl [1, 2, 0, 3] rfl) hM
set_option maxHeartbeats 4000000 in
set_option maxRecDepth 100000 in
theorem c_JA_fill_IIV {l : Launch} {D : va_G} {ad : Nat → Nat} {cA : Nat → ClassId} {sd sv : Nat → Nat} {h : Hp} {N : Nat} {X : Nat} {nX : Nat} {a1 : Int} {out : Hp} (hI : Inj97 ad) (hX : shp X = .inr (0, nX) ∧ X < 97 ∧ nX < 2147483648) (hM : M_JA_fill_IIV N h X nX a1 = some out) : Met l y_JA_fill_IIV (.code y_JA_fill_IIV prog_37_method_103_code 4 none :: TT) (rmD 0) (PC D ad cA sd sv h [.ref (ad X), .int (iZ a1)]) (QV D ad cA out) 0 0 (FA ad) := by
  unfold M_JA_fill_IIV at hM
  refine entF (by decide +kernel) hI (Nat.le_of_ble_eq_true rfl) ?_
  intro p e s m args below meth c C hr hlk hP ls hl
  have C : Cx p s m args c prog_37_method_103_code 4 "java/util/Arrays" D ad cA sd sv (FA ad) := C
  have hl : lv_has ls 4 [(0, .ref (ad X)), (1, .int (iZ a1))] := hl
  have w : Wd s D ad cA (FA ad) h s.heap [] := ⟨hP, va_S.rf⟩
  refine m_iconst C d_JA_fill_IIV_0 ?_
  refine m_istore_n C hl [(2, .int (iZ 0)), (0, .ref (ad X)), (1, .int (iZ a1))] d_JA_fill_IIV_1 rfl (by decide) rfl (fun ls hl => ?_)
  refine m_aload_n C hl 1 d_JA_fill_IIV_2 rfl rfl ?_
  refine m_alen C w.1 hX.1 hX.2.1 (by decide) d_JA_fill_IIV_3 ?_
  refine m_istore_n C hl [(3, .int (iZ (nX : Int))), (2, .int (iZ 0)), (0, .ref (ad X)), (1, .int (iZ a1))] d_JA_fill_IIV_4 rfl (by decide) rfl (fun ls hl => ?_)
  exact w_JA_fill_IIV_L5 N X nX hX hI C hr hlk a1 (nX : Int) _ 0 h _ _ w _ (lv_sub hl [2, 3, 1, 0] rfl) hM
def y_Su_common : MethodName := ⟨"FeastBook$Sums", "common", "(II)I"⟩
theorem d_Su_common_0 : decode prog_9_method_3_code 0 = .ok (.iload_n 0, 1) := by decide +kernel
theorem d_Su_common_1 : decode prog_9_method_3_code 1 = .ok (.istore_n 2, 1) := by decide +kernel
theorem d_Su_common_2 : decode prog_9_method_3_code 2 = .ok (.iload_n 1, 1) := by decide +kernel
theorem d_Su_common_3 : decode prog_9_method_3_code 3 = .ok (.istore_n 3, 1) := by decide +kernel
theorem d_Su_common_4 : decode prog_9_method_3_code 4 = .ok (.iconst 0, 1) := by decide +kernel
theorem d_Su_common_5 : decode prog_9_method_3_code 5 = .ok (.istore 4, 2) := by decide +kernel
theorem d_Su_common_7 : decode prog_9_method_3_code 7 = .ok (.iload 4, 2) := by decide +kernel
theorem d_Su_common_9 : decode prog_9_method_3_code 9 = .ok (.bipush 64, 2) := by decide +kernel
theorem d_Su_common_11 : decode prog_9_method_3_code 11 = .ok (.if_icmp .ge 23, 3) := by decide +kernel
theorem d_Su_common_14 : decode prog_9_method_3_code 14 = .ok (.iload_n 3, 1) := by decide +kernel
theorem d_Su_common_15 : decode prog_9_method_3_code 15 = .ok (.ifCond .le 19, 3) := by decide +kernel
theorem d_Su_common_18 : decode prog_9_method_3_code 18 = .ok (.iload_n 2, 1) := by decide +kernel
theorem d_Su_common_19 : decode prog_9_method_3_code 19 = .ok (.iload_n 3, 1) := by decide +kernel
theorem d_Su_common_20 : decode prog_9_method_3_code 20 = .ok (.irem, 1) := by decide +kernel
theorem d_Su_common_21 : decode prog_9_method_3_code 21 = .ok (.istore 5, 2) := by decide +kernel
theorem d_Su_common_23 : decode prog_9_method_3_code 23 = .ok (.iload_n 3, 1) := by decide +kernel
theorem d_Su_common_24 : decode prog_9_method_3_code 24 = .ok (.istore_n 2, 1) := by decide +kernel
theorem d_Su_common_25 : decode prog_9_method_3_code 25 = .ok (.iload 5, 2) := by decide +kernel
theorem d_Su_common_27 : decode prog_9_method_3_code 27 = .ok (.istore_n 3, 1) := by decide +kernel
theorem d_Su_common_28 : decode prog_9_method_3_code 28 = .ok (.iinc 4 1, 3) := by decide +kernel
theorem d_Su_common_31 : decode prog_9_method_3_code 31 = .ok (.goto (-24), 3) := by decide +kernel
theorem d_Su_common_34 : decode prog_9_method_3_code 34 = .ok (.iload_n 2, 1) := by decide +kernel
theorem d_Su_common_35 : decode prog_9_method_3_code 35 = .ok (.iconst 1, 1) := by decide +kernel
theorem d_Su_common_36 : decode prog_9_method_3_code 36 = .ok (.invokestatic 7, 3) := by decide +kernel
theorem d_Su_common_39 : decode prog_9_method_3_code 39 = .ok (.ireturn, 1) := by decide +kernel
theorem lk_Su_7 : Cond.methodLink "FeastBook$Sums" 7 Lib.Math.max.name ∈ TT := mT3 31 (by decide +kernel) (by decide +kernel)
set_option maxHeartbeats 4000000 in
set_option maxRecDepth 100000 in
theorem w_Su_common_L7 {p : Program} {l : Launch} {e : Env} {s : State} {m : MethodId} {args : Array Value} {below : List Frame} {meth : Method} {c : Code} {D : va_G} {ad : Nat → Nat} {cA : Nat → ClassId} {sd sv : Nat → Nat} {out : Int} (N : Nat) (hI : Inj97 ad) (C : Cx p s m args c prog_9_method_3_code 6 "FeastBook$Sums" D ad cA sd sv (FA ad)) (hr : meth.sig.returnType = (some .int)) (hlk : meth.locks = false) (v0 v1 : Int) (h : Hp) (hP : va_P D clL (wl ad cA h) s.heap) : ∀ (n : Nat) (v2 v3 v4 : Int), ∀ ls : Array Slot, lv_has ls 6 [(0, .int (iZ v0)), (1, .int (iZ v1)), (2, .int (iZ v2)), (3, .int (iZ v3)), (4, .int (iZ v4))] → Su_common_L7 N n v2 v3 v4 = some out → W p l e (rmD 1) s m args below meth c s.heap [] 0 0 (MQ below (QR out) args s 0 0 (fun _ => False)) (F0 m 7 ls []) := by
  intro n
  induction n with
  | zero =>
    intro v2 v3 v4 ls hl hM
    rw [Su_common_L7] at hM
    cases hM
  | succ n ih =>
    intro v2 v3 v4 ls hl hM
    rw [Su_common_L7] at hM
    refine m_iload C hl 4 d_Su_common_7 rfl ?_
    refine m_bipush C d_Su_common_9 (by decide) ?_
    refine m_icmp_ge C hM 34 d_Su_common_11 (by decide) (fun hM => ?_) (fun hM => ?_)
    · refine m_iload_n C hl 2 d_Su_common_34 rfl rfl ?_
      refine m_iconst C d_Su_common_35 ?_
      refine m_max C lk_Su_7 hl.1 (Nat.le_of_ble_eq_true rfl) (Nat.le_of_ble_eq_true rfl) ⟨Nat.zero_le _, Nat.zero_le _⟩ d_Su_common_36 ?_
      exact m_iretR C hr hlk hM d_Su_common_39
    · refine m_iload_n C hl 3 d_Su_common_14 rfl rfl ?_
      refine m_if_le C hM 34 d_Su_common_15 (by decide) (fun hM => ?_) (fun hM => ?_)
      · refine m_iload_n C hl 2 d_Su_common_34 rfl rfl ?_
        refine m_iconst C d_Su_common_35 ?_
        refine m_max C lk_Su_7 hl.1 (Nat.le_of_ble_eq_true rfl) (Nat.le_of_ble_eq_true rfl) ⟨Nat.zero_le _, Nat.zero_le _⟩ d_Su_common_36 ?_
        exact m_iretR C hr hlk hM d_Su_common_39
      · refine m_iload_n C hl 2 d_Su_common_18 rfl rfl ?_
        refine m_iload_n C hl 3 d_Su_common_19 rfl rfl ?_
        refine m_irem C hM d_Su_common_20 (fun x1 hM => ?_)
        refine m_istore C hl [(5, .int (iZ x1)), (0, .int (iZ v0)), (1, .int (iZ v1)), (2, .int (iZ v2)), (3, .int (iZ v3)), (4, .int (iZ v4))] d_Su_common_21 (by decide) rfl (fun ls hl => ?_)
        refine m_iload_n C hl 4 d_Su_common_23 rfl rfl ?_
        refine m_istore_n C hl [(2, .int (iZ v3)), (5, .int (iZ x1)), (0, .int (iZ v0)), (1, .int (iZ v1)), (3, .int (iZ v3)), (4, .int (iZ v4))] d_Su_common_24 rfl (by decide) rfl (fun ls hl => ?_)
        refine m_iload C hl 1 d_Su_common_25 rfl ?_
        refine m_istore_n C hl [(3, .int (iZ x1)), (2, .int (iZ v3)), (5, .int (iZ x1)), (0, .int (iZ v0)), (1, .int (iZ v1)), (4, .int (iZ v4))] d_Su_common_27 rfl (by decide) rfl (fun ls hl => ?_)
        refine m_iinc C hl 5 [(4, .int (iZ (v4 + 1))), (3, .int (iZ x1)), (2, .int (iZ v3)), (5, .int (iZ x1)), (0, .int (iZ v0)), (1, .int (iZ v1))] d_Su_common_28 rfl (by decide) rfl (fun ls hl => ?_)
        refine m_goto C 7 d_Su_common_31 (by decide) ?_
        exact ih v3 x1 (v4 + 1) _ (lv_sub hl [4, 5, 2, 1, 0] rfl) hM
set_option maxHeartbeats 4000000 in
set_option maxRecDepth 100000 in
theorem c_Su_common {l : Launch} {D : va_G} {ad : Nat → Nat} {cA : Nat → ClassId} {sd sv : Nat → Nat} {h : Hp} {N : Nat} {a0 a1 : Int} {out : Int} (hI : Inj97 ad) (hM : M_Su_common N a0 a1 = some out) : Met l y_Su_common (.code y_Su_common prog_9_method_3_code 6 (some .int) :: TT) (rmD 1) (PC D ad cA sd sv h [.int (iZ a0), .int (iZ a1)]) (QR out) 0 0 (fun _ => False) := by
  unfold M_Su_common at hM
  refine entM (by decide +kernel) hI (Nat.le_of_ble_eq_true rfl) ?_
  intro p e s m args below meth c C hr hlk hP ls hl
  have C : Cx p s m args c prog_9_method_3_code 6 "FeastBook$Sums" D ad cA sd sv (FA ad) := C
  have hl : lv_has ls 6 [(0, .int (iZ a0)), (1, .int (iZ a1))] := hl
  refine m_iload_n C hl 0 d_Su_common_0 rfl rfl ?_
  refine m_istore_n C hl [(2, .int (iZ a0)), (0, .int (iZ a0)), (1, .int (iZ a1))] d_Su_common_1 rfl (by decide) rfl (fun ls hl => ?_)
  refine m_iload_n C hl 2 d_Su_common_2 rfl rfl ?_
  refine m_istore_n C hl [(3, .int (iZ a1)), (2, .int (iZ a0)), (0, .int (iZ a0)), (1, .int (iZ a1))] d_Su_common_3 rfl (by decide) rfl (fun ls hl => ?_)
  refine m_iconst C d_Su_common_4 ?_
  refine m_istore C hl [(4, .int (iZ 0)), (3, .int (iZ a1)), (2, .int (iZ a0)), (0, .int (iZ a0)), (1, .int (iZ a1))] d_Su_common_5 (by decide) rfl (fun ls hl => ?_)
  exact w_Su_common_L7 N hI C hr hlk a0 a1 h hP _ a0 a1 0 _ (lv_sub hl [3, 4, 2, 1, 0] rfl) hM
def y_Su_left : MethodName := ⟨"FeastBook$Sums", "left", "(II)I"⟩
theorem d_Su_left_0 : decode prog_9_method_2_code 0 = .ok (.iload_n 1, 1) := by decide +kernel
theorem d_Su_left_1 : decode prog_9_method_2_code 1 = .ok (.ifCond .le 9, 3) := by decide +kernel
theorem d_Su_left_4 : decode prog_9_method_2_code 4 = .ok (.iload_n 0, 1) := by decide +kernel
theorem d_Su_left_5 : decode prog_9_method_2_code 5 = .ok (.iload_n 1, 1) := by decide +kernel
theorem d_Su_left_6 : decode prog_9_method_2_code 6 = .ok (.irem, 1) := by decide +kernel
theorem d_Su_left_7 : decode prog_9_method_2_code 7 = .ok (.goto 4, 3) := by decide +kernel
theorem d_Su_left_10 : decode prog_9_method_2_code 10 = .ok (.iconst 0, 1) := by decide +kernel
theorem d_Su_left_11 : decode prog_9_method_2_code 11 = .ok (.ireturn, 1) := by decide +kernel
set_option maxHeartbeats 4000000 in
set_option maxRecDepth 100000 in
theorem c_Su_left {l : Launch} {D : va_G} {ad : Nat → Nat} {cA : Nat → ClassId} {sd sv : Nat → Nat} {h : Hp} {a0 a1 : Int} {out : Int} (hI : Inj97 ad) (hM : M_Su_left a0 a1 = some out) : Met l y_Su_left (.code y_Su_left prog_9_method_2_code 2 (some .int) :: TT) (rmD 0) (PC D ad cA sd sv h [.int (iZ a0), .int (iZ a1)]) (QR out) 0 0 (fun _ => False) := by
  unfold M_Su_left at hM
  refine entM (by decide +kernel) hI (Nat.le_of_ble_eq_true rfl) ?_
  intro p e s m args below meth c C hr hlk hP ls hl
  have C : Cx p s m args c prog_9_method_2_code 2 "FeastBook$Sums" D ad cA sd sv (FA ad) := C
  have hl : lv_has ls 2 [(0, .int (iZ a0)), (1, .int (iZ a1))] := hl
  refine m_iload_n C hl 1 d_Su_left_0 rfl rfl ?_
  refine m_if_le C hM 10 d_Su_left_1 (by decide) (fun hM => ?_) (fun hM => ?_)
  · refine m_iconst C d_Su_left_10 ?_
    exact m_iretR C hr hlk hM d_Su_left_11
  · refine m_iload_n C hl 0 d_Su_left_4 rfl rfl ?_
    refine m_iload_n C hl 1 d_Su_left_5 rfl rfl ?_
    refine m_irem C hM d_Su_left_6 (fun x1 hM => ?_)
    refine m_goto C 11 d_Su_left_7 (by decide) ?_
    exact m_iretR C hr hlk hM d_Su_left_11
def y_JM_floorMod : MethodName := ⟨"java/lang/Math", "floorMod", "(II)I"⟩
theorem d_JM_floorMod_0 : decode prog_26_method_50_code 0 = .ok (.iload_n 0, 1) := by decide +kernel
theorem d_JM_floorMod_1 : decode prog_26_method_50_code 1 = .ok (.iload_n 1, 1) := by decide +kernel
theorem d_JM_floorMod_2 : decode prog_26_method_50_code 2 = .ok (.irem, 1) := by decide +kernel
theorem d_JM_floorMod_3 : decode prog_26_method_50_code 3 = .ok (.istore_n 2, 1) := by decide +kernel
theorem d_JM_floorMod_4 : decode prog_26_method_50_code 4 = .ok (.iload_n 0, 1) := by decide +kernel
theorem d_JM_floorMod_5 : decode prog_26_method_50_code 5 = .ok (.iload_n 1, 1) := by decide +kernel
theorem d_JM_floorMod_6 : decode prog_26_method_50_code 6 = .ok (.ixor, 1) := by decide +kernel
theorem d_JM_floorMod_7 : decode prog_26_method_50_code 7 = .ok (.ifCond .ge 11, 3) := by decide +kernel
theorem d_JM_floorMod_10 : decode prog_26_method_50_code 10 = .ok (.iload_n 2, 1) := by decide +kernel
theorem d_JM_floorMod_11 : decode prog_26_method_50_code 11 = .ok (.ifCond .eq 7, 3) := by decide +kernel
theorem d_JM_floorMod_14 : decode prog_26_method_50_code 14 = .ok (.iload_n 2, 1) := by decide +kernel
theorem d_JM_floorMod_15 : decode prog_26_method_50_code 15 = .ok (.iload_n 1, 1) := by decide +kernel
theorem d_JM_floorMod_16 : decode prog_26_method_50_code 16 = .ok (.iadd, 1) := by decide +kernel
theorem d_JM_floorMod_17 : decode prog_26_method_50_code 17 = .ok (.ireturn, 1) := by decide +kernel
theorem d_JM_floorMod_18 : decode prog_26_method_50_code 18 = .ok (.iload_n 2, 1) := by decide +kernel
theorem d_JM_floorMod_19 : decode prog_26_method_50_code 19 = .ok (.ireturn, 1) := by decide +kernel
set_option maxHeartbeats 4000000 in
set_option maxRecDepth 100000 in
theorem c_JM_floorMod {l : Launch} {D : va_G} {ad : Nat → Nat} {cA : Nat → ClassId} {sd sv : Nat → Nat} {h : Hp} {a0 a1 : Int} {out : Int} (hI : Inj97 ad) (hM : M_JM_floorMod a0 a1 = some out) : Met l y_JM_floorMod (.code y_JM_floorMod prog_26_method_50_code 3 (some .int) :: TT) (rmD 0) (PC D ad cA sd sv h [.int (iZ a0), .int (iZ a1)]) (QR out) 0 0 (fun _ => False) := by
  unfold M_JM_floorMod at hM
  refine entF (by decide +kernel) hI (Nat.le_of_ble_eq_true rfl) ?_
  intro p e s m args below meth c C hr hlk hP ls hl
  have C : Cx p s m args c prog_26_method_50_code 3 "java/lang/Math" D ad cA sd sv (FA ad) := C
  have hl : lv_has ls 3 [(0, .int (iZ a0)), (1, .int (iZ a1))] := hl
  refine m_iload_n C hl 0 d_JM_floorMod_0 rfl rfl ?_
  refine m_iload_n C hl 1 d_JM_floorMod_1 rfl rfl ?_
  refine m_irem C hM d_JM_floorMod_2 (fun x1 hM => ?_)
  refine m_istore_n C hl [(2, .int (iZ x1)), (0, .int (iZ a0)), (1, .int (iZ a1))] d_JM_floorMod_3 rfl (by decide) rfl (fun ls hl => ?_)
  refine m_iload_n C hl 1 d_JM_floorMod_4 rfl rfl ?_
  refine m_iload_n C hl 2 d_JM_floorMod_5 rfl rfl ?_
  refine m_ixor C d_JM_floorMod_6 ?_
  refine m_if_ge C hM 18 d_JM_floorMod_7 (by decide) (fun hM => ?_) (fun hM => ?_)
  · refine m_iload_n C hl 0 d_JM_floorMod_18 rfl rfl ?_
    exact m_iretR C hr hlk hM d_JM_floorMod_19
  · refine m_iload_n C hl 0 d_JM_floorMod_10 rfl rfl ?_
    refine m_if_eq C hM 18 d_JM_floorMod_11 (by decide) (fun hM => ?_) (fun hM => ?_)
    · refine m_iload_n C hl 0 d_JM_floorMod_18 rfl rfl ?_
      exact m_iretR C hr hlk hM d_JM_floorMod_19
    · refine m_iload_n C hl 0 d_JM_floorMod_14 rfl rfl ?_
      refine m_iload_n C hl 2 d_JM_floorMod_15 rfl rfl ?_
      refine m_iadd C d_JM_floorMod_16 ?_
      exact m_iretR C hr hlk hM d_JM_floorMod_17
def y_Tape_at : MethodName := ⟨"FeastBook$Tape", "at", "(I)I"⟩
theorem d_Tape_at_0 : decode prog_10_method_4_code 0 = .ok (.iload_n 1, 1) := by decide +kernel
theorem d_Tape_at_1 : decode prog_10_method_4_code 1 = .ok (.ifCond .lt 24, 3) := by decide +kernel
theorem d_Tape_at_4 : decode prog_10_method_4_code 4 = .ok (.iload_n 1, 1) := by decide +kernel
theorem d_Tape_at_5 : decode prog_10_method_4_code 5 = .ok (.aload_n 0, 1) := by decide +kernel
theorem d_Tape_at_6 : decode prog_10_method_4_code 6 = .ok (.getfield 15, 3) := by decide +kernel
theorem d_Tape_at_9 : decode prog_10_method_4_code 9 = .ok (.if_icmp .ge 16, 3) := by decide +kernel
theorem d_Tape_at_12 : decode prog_10_method_4_code 12 = .ok (.aload_n 0, 1) := by decide +kernel
theorem d_Tape_at_13 : decode prog_10_method_4_code 13 = .ok (.getfield 9, 3) := by decide +kernel
theorem d_Tape_at_16 : decode prog_10_method_4_code 16 = .ok (.iload_n 1, 1) := by decide +kernel
theorem d_Tape_at_17 : decode prog_10_method_4_code 17 = .ok (.baload, 1) := by decide +kernel
theorem d_Tape_at_18 : decode prog_10_method_4_code 18 = .ok (.sipush 255, 3) := by decide +kernel
theorem d_Tape_at_21 : decode prog_10_method_4_code 21 = .ok (.iand, 1) := by decide +kernel
theorem d_Tape_at_22 : decode prog_10_method_4_code 22 = .ok (.goto 4, 3) := by decide +kernel
theorem d_Tape_at_25 : decode prog_10_method_4_code 25 = .ok (.iconst (-1), 1) := by decide +kernel
theorem d_Tape_at_26 : decode prog_10_method_4_code 26 = .ok (.ireturn, 1) := by decide +kernel
set_option maxHeartbeats 4000000 in
set_option maxRecDepth 100000 in
theorem c_Tape_at {l : Launch} {D : va_G} {ad : Nat → Nat} {cA : Nat → ClassId} {sd sv : Nat → Nat} {h : Hp} {a1 : Int} {out : Int} (hI : Inj97 ad) (hM : M_Tape_at h a1 = some out) : Met l y_Tape_at (.code y_Tape_at prog_10_method_4_code 2 (some .int) :: TT) (rmD 0) (PC D ad cA sd sv h [.ref (ad 1), .int (iZ a1)]) (QR out) 0 0 (fun _ => False) := by
  unfold M_Tape_at at hM
  refine entM (by decide +kernel) hI (Nat.le_of_ble_eq_true rfl) ?_
  intro p e s m args below meth c C hr hlk hP ls hl
  have C : Cx p s m args c prog_10_method_4_code 2 "FeastBook$Tape" D ad cA sd sv (FA ad) := C
  have hl : lv_has ls 2 [(0, .ref (ad 1)), (1, .int (iZ a1))] := hl
  refine m_iload_n C hl 1 d_Tape_at_0 rfl rfl ?_
  refine m_if_lt C hM 25 d_Tape_at_1 (by decide) (fun hM => ?_) (fun hM => ?_)
  · refine m_iconst C d_Tape_at_25 ?_
    exact m_iretR C hr hlk hM d_Tape_at_26
  · refine m_iload_n C hl 1 d_Tape_at_4 rfl rfl ?_
    refine m_aload_n C hl 0 d_Tape_at_5 rfl rfl ?_
    refine m_geti C hP kc_Tape sh_1 (Nat.le_of_ble_eq_true rfl) 1 rfl (by decide) fk_Tape_15 d_Tape_at_6 ?_
    refine m_icmp_ge C hM 25 d_Tape_at_9 (by decide) (fun hM => ?_) (fun hM => ?_)
    · refine m_iconst C d_Tape_at_25 ?_
      exact m_iretR C hr hlk hM d_Tape_at_26
    · refine m_aload_n C hl 0 d_Tape_at_12 rfl rfl ?_
      refine m_getr C hP kc_Tape sh_1 (Nat.le_of_ble_eq_true rfl) 0 2 rfl (by decide) fk_Tape_9 d_Tape_at_13 ?_
      refine m_iload_n C hl 1 d_Tape_at_16 rfl rfl ?_
      refine m_bald C hP sh_2 (Nat.le_of_ble_eq_true rfl) (Nat.le_of_ble_eq_true rfl) hM d_Tape_at_17 (fun x1 hM => ?_)
      refine m_sipush C d_Tape_at_18 (by decide) ?_
      refine m_iand C d_Tape_at_21 ?_
      refine m_goto C 26 d_Tape_at_22 (by decide) ?_
      exact m_iretR C hr hlk hM d_Tape_at_26
def y_Feasts_add : MethodName := ⟨"FeastBook$Feasts", "add", "(IIIIII)V"⟩
theorem d_Feasts_add_0 : decode prog_4_method_2_code 0 = .ok (.aload_n 0, 1) := by decide +kernel
theorem d_Feasts_add_1 : decode prog_4_method_2_code 1 = .ok (.getfield 36, 3) := by decide +kernel
theorem d_Feasts_add_4 : decode prog_4_method_2_code 4 = .ok (.bipush 12, 2) := by decide +kernel
theorem d_Feasts_add_6 : decode prog_4_method_2_code 6 = .ok (.if_icmp .ge 76, 3) := by decide +kernel
theorem d_Feasts_add_9 : decode prog_4_method_2_code 9 = .ok (.aload_n 0, 1) := by decide +kernel
theorem d_Feasts_add_10 : decode prog_4_method_2_code 10 = .ok (.getfield 9, 3) := by decide +kernel
theorem d_Feasts_add_13 : decode prog_4_method_2_code 13 = .ok (.aload_n 0, 1) := by decide +kernel
theorem d_Feasts_add_14 : decode prog_4_method_2_code 14 = .ok (.getfield 36, 3) := by decide +kernel
theorem d_Feasts_add_17 : decode prog_4_method_2_code 17 = .ok (.iload_n 1, 1) := by decide +kernel
theorem d_Feasts_add_18 : decode prog_4_method_2_code 18 = .ok (.iastore, 1) := by decide +kernel
theorem d_Feasts_add_19 : decode prog_4_method_2_code 19 = .ok (.aload_n 0, 1) := by decide +kernel
theorem d_Feasts_add_20 : decode prog_4_method_2_code 20 = .ok (.getfield 15, 3) := by decide +kernel
theorem d_Feasts_add_23 : decode prog_4_method_2_code 23 = .ok (.aload_n 0, 1) := by decide +kernel
theorem d_Feasts_add_24 : decode prog_4_method_2_code 24 = .ok (.getfield 36, 3) := by decide +kernel
theorem d_Feasts_add_27 : decode prog_4_method_2_code 27 = .ok (.iload_n 2, 1) := by decide +kernel
theorem d_Feasts_add_28 : decode prog_4_method_2_code 28 = .ok (.iastore, 1) := by decide +kernel
theorem d_Feasts_add_29 : decode prog_4_method_2_code 29 = .ok (.aload_n 0, 1) := by decide +kernel
theorem d_Feasts_add_30 : decode prog_4_method_2_code 30 = .ok (.getfield 18, 3) := by decide +kernel
theorem d_Feasts_add_33 : decode prog_4_method_2_code 33 = .ok (.aload_n 0, 1) := by decide +kernel
theorem d_Feasts_add_34 : decode prog_4_method_2_code 34 = .ok (.getfield 36, 3) := by decide +kernel
theorem d_Feasts_add_37 : decode prog_4_method_2_code 37 = .ok (.iload_n 3, 1) := by decide +kernel
theorem d_Feasts_add_38 : decode prog_4_method_2_code 38 = .ok (.iastore, 1) := by decide +kernel
theorem d_Feasts_add_39 : decode prog_4_method_2_code 39 = .ok (.aload_n 0, 1) := by decide +kernel
theorem d_Feasts_add_40 : decode prog_4_method_2_code 40 = .ok (.getfield 21, 3) := by decide +kernel
theorem d_Feasts_add_43 : decode prog_4_method_2_code 43 = .ok (.aload_n 0, 1) := by decide +kernel
theorem d_Feasts_add_44 : decode prog_4_method_2_code 44 = .ok (.getfield 36, 3) := by decide +kernel
theorem d_Feasts_add_47 : decode prog_4_method_2_code 47 = .ok (.iload 4, 2) := by decide +kernel
theorem d_Feasts_add_49 : decode prog_4_method_2_code 49 = .ok (.iastore, 1) := by decide +kernel
theorem d_Feasts_add_50 : decode prog_4_method_2_code 50 = .ok (.aload_n 0, 1) := by decide +kernel
theorem d_Feasts_add_51 : decode prog_4_method_2_code 51 = .ok (.getfield 24, 3) := by decide +kernel
theorem d_Feasts_add_54 : decode prog_4_method_2_code 54 = .ok (.aload_n 0, 1) := by decide +kernel
theorem d_Feasts_add_55 : decode prog_4_method_2_code 55 = .ok (.getfield 36, 3) := by decide +kernel
theorem d_Feasts_add_58 : decode prog_4_method_2_code 58 = .ok (.iload 5, 2) := by decide +kernel
theorem d_Feasts_add_60 : decode prog_4_method_2_code 60 = .ok (.iastore, 1) := by decide +kernel
theorem d_Feasts_add_61 : decode prog_4_method_2_code 61 = .ok (.aload_n 0, 1) := by decide +kernel
theorem d_Feasts_add_62 : decode prog_4_method_2_code 62 = .ok (.getfield 27, 3) := by decide +kernel
theorem d_Feasts_add_65 : decode prog_4_method_2_code 65 = .ok (.aload_n 0, 1) := by decide +kernel
theorem d_Feasts_add_66 : decode prog_4_method_2_code 66 = .ok (.getfield 36, 3) := by decide +kernel
theorem d_Feasts_add_69 : decode prog_4_method_2_code 69 = .ok (.iload 6, 2) := by decide +kernel
theorem d_Feasts_add_71 : decode prog_4_method_2_code 71 = .ok (.iastore, 1) := by decide +kernel
theorem d_Feasts_add_72 : decode prog_4_method_2_code 72 = .ok (.aload_n 0, 1) := by decide +kernel
theorem d_Feasts_add_73 : decode prog_4_method_2_code 73 = .ok (.dup, 1) := by decide +kernel
theorem d_Feasts_add_74 : decode prog_4_method_2_code 74 = .ok (.getfield 36, 3) := by decide +kernel
theorem d_Feasts_add_77 : decode prog_4_method_2_code 77 = .ok (.iconst 1, 1) := by decide +kernel
theorem d_Feasts_add_78 : decode prog_4_method_2_code 78 = .ok (.iadd, 1) := by decide +kernel
theorem d_Feasts_add_79 : decode prog_4_method_2_code 79 = .ok (.putfield 36, 3) := by decide +kernel
theorem d_Feasts_add_82 : decode prog_4_method_2_code 82 = .ok (.return_, 1) := by decide +kernel
set_option maxHeartbeats 4000000 in
set_option maxRecDepth 100000 in
theorem c_Feasts_add {l : Launch} {D : va_G} {ad : Nat → Nat} {cA : Nat → ClassId} {sd sv : Nat → Nat} {h : Hp} {F : Nat} {a1 a2 a3 a4 a5 a6 : Int} {out : Hp} (hI : Inj97 ad) (hF : isFt F) (hM : M_Feasts_add h F a1 a2 a3 a4 a5 a6 = some out) : Met l y_Feasts_add (.code y_Feasts_add prog_4_method_2_code 7 none :: TT) (rmD 0) (PC D ad cA sd sv h [.ref (ad F), .int (iZ a1), .int (iZ a2), .int (iZ a3), .int (iZ a4), .int (iZ a5), .int (iZ a6)]) (QV D ad cA out) 0 0 (FA ad) := by
  unfold M_Feasts_add at hM
  refine entM (by decide +kernel) hI (Nat.le_of_ble_eq_true rfl) ?_
  intro p e s m args below meth c C hr hlk hP ls hl
  have C : Cx p s m args c prog_4_method_2_code 7 "FeastBook$Feasts" D ad cA sd sv (FA ad) := C
  have hl : lv_has ls 7 [(0, .ref (ad F)), (1, .int (iZ a1)), (2, .int (iZ a2)), (3, .int (iZ a3)), (4, .int (iZ a4)), (5, .int (iZ a5)), (6, .int (iZ a6))] := hl
  have w : Wd s D ad cA (FA ad) h s.heap [] := ⟨hP, va_S.rf⟩
  refine m_aload_n C hl 0 d_Feasts_add_0 rfl rfl ?_
  refine m_geti C w.1 kc_Feasts (shF_0 hF) (ltF0 hF) 0 rfl (by decide) fk_Feasts_36 d_Feasts_add_1 ?_
  refine m_bipush C d_Feasts_add_4 (by decide) ?_
  refine m_icmp_ge C hM 82 d_Feasts_add_6 (by decide) (fun hM => ?_) (fun hM => ?_)
  · exact m_vretW C w hr hlk hM d_Feasts_add_82
  · refine m_aload_n C hl 0 d_Feasts_add_9 rfl rfl ?_
    refine m_getr C w.1 kc_Feasts (shF_0 hF) (ltF0 hF) 1 (F + 1) rfl (by decide) fk_Feasts_9 d_Feasts_add_10 ?_
    refine m_aload_n C hl 0 d_Feasts_add_13 rfl rfl ?_
    refine m_geti C w.1 kc_Feasts (shF_0 hF) (ltF0 hF) 0 rfl (by decide) fk_Feasts_36 d_Feasts_add_14 ?_
    refine m_iload_n C hl 1 d_Feasts_add_17 rfl rfl ?_
    refine m_iast C w (shF_1 hF) (ltF hF 1 (by decide)) (Nat.le_of_ble_eq_true rfl) hM d_Feasts_add_18 (fun h1 H locs w hM => ?_)
    refine m_aload_n C hl 0 d_Feasts_add_19 rfl rfl ?_
    refine m_getr C w.1 kc_Feasts (shF_0 hF) (ltF0 hF) 2 (F + 2) rfl (by decide) fk_Feasts_15 d_Feasts_add_20 ?_
    refine m_aload_n C hl 0 d_Feasts_add_23 rfl rfl ?_
    refine m_geti C w.1 kc_Feasts (shF_0 hF) (ltF0 hF) 0 rfl (by decide) fk_Feasts_36 d_Feasts_add_24 ?_
    refine m_iload_n C hl 2 d_Feasts_add_27 rfl rfl ?_
    refine m_iast C w (shF_2 hF) (ltF hF 2 (by decide)) (Nat.le_of_ble_eq_true rfl) hM d_Feasts_add_28 (fun h2 H locs w hM => ?_)
    refine m_aload_n C hl 0 d_Feasts_add_29 rfl rfl ?_
    refine m_getr C w.1 kc_Feasts (shF_0 hF) (ltF0 hF) 3 (F + 3) rfl (by decide) fk_Feasts_18 d_Feasts_add_30 ?_
    refine m_aload_n C hl 0 d_Feasts_add_33 rfl rfl ?_
    refine m_geti C w.1 kc_Feasts (shF_0 hF) (ltF0 hF) 0 rfl (by decide) fk_Feasts_36 d_Feasts_add_34 ?_
    refine m_iload_n C hl 3 d_Feasts_add_37 rfl rfl ?_
    refine m_iast C w (shF_3 hF) (ltF hF 3 (by decide)) (Nat.le_of_ble_eq_true rfl) hM d_Feasts_add_38 (fun h3 H locs w hM => ?_)
    refine m_aload_n C hl 0 d_Feasts_add_39 rfl rfl ?_
    refine m_getr C w.1 kc_Feasts (shF_0 hF) (ltF0 hF) 4 (F + 4) rfl (by decide) fk_Feasts_21 d_Feasts_add_40 ?_
    refine m_aload_n C hl 0 d_Feasts_add_43 rfl rfl ?_
    refine m_geti C w.1 kc_Feasts (shF_0 hF) (ltF0 hF) 0 rfl (by decide) fk_Feasts_36 d_Feasts_add_44 ?_
    refine m_iload C hl 4 d_Feasts_add_47 rfl ?_
    refine m_iast C w (shF_4 hF) (ltF hF 4 (by decide)) (Nat.le_of_ble_eq_true rfl) hM d_Feasts_add_49 (fun h4 H locs w hM => ?_)
    refine m_aload_n C hl 0 d_Feasts_add_50 rfl rfl ?_
    refine m_getr C w.1 kc_Feasts (shF_0 hF) (ltF0 hF) 5 (F + 5) rfl (by decide) fk_Feasts_24 d_Feasts_add_51 ?_
    refine m_aload_n C hl 0 d_Feasts_add_54 rfl rfl ?_
    refine m_geti C w.1 kc_Feasts (shF_0 hF) (ltF0 hF) 0 rfl (by decide) fk_Feasts_36 d_Feasts_add_55 ?_
    refine m_iload C hl 5 d_Feasts_add_58 rfl ?_
    refine m_iast C w (shF_5 hF) (ltF hF 5 (by decide)) (Nat.le_of_ble_eq_true rfl) hM d_Feasts_add_60 (fun h5 H locs w hM => ?_)
    refine m_aload_n C hl 0 d_Feasts_add_61 rfl rfl ?_
    refine m_getr C w.1 kc_Feasts (shF_0 hF) (ltF0 hF) 6 (F + 6) rfl (by decide) fk_Feasts_27 d_Feasts_add_62 ?_
    refine m_aload_n C hl 0 d_Feasts_add_65 rfl rfl ?_
    refine m_geti C w.1 kc_Feasts (shF_0 hF) (ltF0 hF) 0 rfl (by decide) fk_Feasts_36 d_Feasts_add_66 ?_
    refine m_iload C hl 6 d_Feasts_add_69 rfl ?_
    refine m_iast C w (shF_6 hF) (ltF hF 6 (by decide)) (Nat.le_of_ble_eq_true rfl) hM d_Feasts_add_71 (fun h6 H locs w hM => ?_)
    refine m_aload_n C hl 0 d_Feasts_add_72 rfl rfl ?_
    refine m_dup C d_Feasts_add_73 rfl ?_
    refine m_geti C w.1 kc_Feasts (shF_0 hF) (ltF0 hF) 0 rfl (by decide) fk_Feasts_36 d_Feasts_add_74 ?_
    refine m_iconst C d_Feasts_add_77 ?_
    refine m_iadd C d_Feasts_add_78 ?_
    refine m_puti C w kc_Feasts (shF_0 hF) (ltF0 hF) 0 hM rfl (by decide) rfl rfl fk_Feasts_36 d_Feasts_add_79 (fun h7 H locs w hM => ?_)
    exact m_vretW C w hr hlk hM d_Feasts_add_82
def y_Spans_add : MethodName := ⟨"FeastBook$Spans", "add", "(III)V"⟩
theorem d_Spans_add_0 : decode prog_8_method_2_code 0 = .ok (.aload_n 0, 1) := by decide +kernel
theorem d_Spans_add_1 : decode prog_8_method_2_code 1 = .ok (.getfield 21, 3) := by decide +kernel
theorem d_Spans_add_4 : decode prog_8_method_2_code 4 = .ok (.iconst 4, 1) := by decide +kernel
theorem d_Spans_add_5 : decode prog_8_method_2_code 5 = .ok (.if_icmp .ge 43, 3) := by decide +kernel
theorem d_Spans_add_8 : decode prog_8_method_2_code 8 = .ok (.aload_n 0, 1) := by decide +kernel
theorem d_Spans_add_9 : decode prog_8_method_2_code 9 = .ok (.getfield 9, 3) := by decide +kernel
theorem d_Spans_add_12 : decode prog_8_method_2_code 12 = .ok (.aload_n 0, 1) := by decide +kernel
theorem d_Spans_add_13 : decode prog_8_method_2_code 13 = .ok (.getfield 21, 3) := by decide +kernel
theorem d_Spans_add_16 : decode prog_8_method_2_code 16 = .ok (.iload_n 1, 1) := by decide +kernel
theorem d_Spans_add_17 : decode prog_8_method_2_code 17 = .ok (.iastore, 1) := by decide +kernel
theorem d_Spans_add_18 : decode prog_8_method_2_code 18 = .ok (.aload_n 0, 1) := by decide +kernel
theorem d_Spans_add_19 : decode prog_8_method_2_code 19 = .ok (.getfield 15, 3) := by decide +kernel
theorem d_Spans_add_22 : decode prog_8_method_2_code 22 = .ok (.aload_n 0, 1) := by decide +kernel
theorem d_Spans_add_23 : decode prog_8_method_2_code 23 = .ok (.getfield 21, 3) := by decide +kernel
theorem d_Spans_add_26 : decode prog_8_method_2_code 26 = .ok (.iload_n 2, 1) := by decide +kernel
theorem d_Spans_add_27 : decode prog_8_method_2_code 27 = .ok (.iastore, 1) := by decide +kernel
theorem d_Spans_add_28 : decode prog_8_method_2_code 28 = .ok (.aload_n 0, 1) := by decide +kernel
theorem d_Spans_add_29 : decode prog_8_method_2_code 29 = .ok (.getfield 18, 3) := by decide +kernel
theorem d_Spans_add_32 : decode prog_8_method_2_code 32 = .ok (.aload_n 0, 1) := by decide +kernel
theorem d_Spans_add_33 : decode prog_8_method_2_code 33 = .ok (.getfield 21, 3) := by decide +kernel
theorem d_Spans_add_36 : decode prog_8_method_2_code 36 = .ok (.iload_n 3, 1) := by decide +kernel
theorem d_Spans_add_37 : decode prog_8_method_2_code 37 = .ok (.iastore, 1) := by decide +kernel
theorem d_Spans_add_38 : decode prog_8_method_2_code 38 = .ok (.aload_n 0, 1) := by decide +kernel
theorem d_Spans_add_39 : decode prog_8_method_2_code 39 = .ok (.dup, 1) := by decide +kernel
theorem d_Spans_add_40 : decode prog_8_method_2_code 40 = .ok (.getfield 21, 3) := by decide +kernel
theorem d_Spans_add_43 : decode prog_8_method_2_code 43 = .ok (.iconst 1, 1) := by decide +kernel
theorem d_Spans_add_44 : decode prog_8_method_2_code 44 = .ok (.iadd, 1) := by decide +kernel
theorem d_Spans_add_45 : decode prog_8_method_2_code 45 = .ok (.putfield 21, 3) := by decide +kernel
theorem d_Spans_add_48 : decode prog_8_method_2_code 48 = .ok (.return_, 1) := by decide +kernel
set_option maxHeartbeats 4000000 in
set_option maxRecDepth 100000 in
theorem c_Spans_add {l : Launch} {D : va_G} {ad : Nat → Nat} {cA : Nat → ClassId} {sd sv : Nat → Nat} {h : Hp} {P : Nat} {a1 a2 a3 : Int} {out : Hp} (hI : Inj97 ad) (hP0 : isSp P) (hM : M_Spans_add h P a1 a2 a3 = some out) : Met l y_Spans_add (.code y_Spans_add prog_8_method_2_code 4 none :: TT) (rmD 0) (PC D ad cA sd sv h [.ref (ad P), .int (iZ a1), .int (iZ a2), .int (iZ a3)]) (QV D ad cA out) 0 0 (FA ad) := by
  unfold M_Spans_add at hM
  refine entM (by decide +kernel) hI (Nat.le_of_ble_eq_true rfl) ?_
  intro p e s m args below meth c C hr hlk hP ls hl
  have C : Cx p s m args c prog_8_method_2_code 4 "FeastBook$Spans" D ad cA sd sv (FA ad) := C
  have hl : lv_has ls 4 [(0, .ref (ad P)), (1, .int (iZ a1)), (2, .int (iZ a2)), (3, .int (iZ a3))] := hl
  have w : Wd s D ad cA (FA ad) h s.heap [] := ⟨hP, va_S.rf⟩
  refine m_aload_n C hl 0 d_Spans_add_0 rfl rfl ?_
  refine m_geti C w.1 kc_Spans (shP_0 hP0) (ltP0 hP0) 0 rfl (by decide) fk_Spans_21 d_Spans_add_1 ?_
  refine m_iconst C d_Spans_add_4 ?_
  refine m_icmp_ge C hM 48 d_Spans_add_5 (by decide) (fun hM => ?_) (fun hM => ?_)
  · exact m_vretW C w hr hlk hM d_Spans_add_48
  · refine m_aload_n C hl 0 d_Spans_add_8 rfl rfl ?_
    refine m_getr C w.1 kc_Spans (shP_0 hP0) (ltP0 hP0) 1 (P + 1) rfl (by decide) fk_Spans_9 d_Spans_add_9 ?_
    refine m_aload_n C hl 0 d_Spans_add_12 rfl rfl ?_
    refine m_geti C w.1 kc_Spans (shP_0 hP0) (ltP0 hP0) 0 rfl (by decide) fk_Spans_21 d_Spans_add_13 ?_
    refine m_iload_n C hl 1 d_Spans_add_16 rfl rfl ?_
    refine m_iast C w (shP_1 hP0) (ltP hP0 1 (by decide)) (Nat.le_of_ble_eq_true rfl) hM d_Spans_add_17 (fun h1 H locs w hM => ?_)
    refine m_aload_n C hl 0 d_Spans_add_18 rfl rfl ?_
    refine m_getr C w.1 kc_Spans (shP_0 hP0) (ltP0 hP0) 2 (P + 2) rfl (by decide) fk_Spans_15 d_Spans_add_19 ?_
    refine m_aload_n C hl 0 d_Spans_add_22 rfl rfl ?_
    refine m_geti C w.1 kc_Spans (shP_0 hP0) (ltP0 hP0) 0 rfl (by decide) fk_Spans_21 d_Spans_add_23 ?_
    refine m_iload_n C hl 2 d_Spans_add_26 rfl rfl ?_
    refine m_iast C w (shP_2 hP0) (ltP hP0 2 (by decide)) (Nat.le_of_ble_eq_true rfl) hM d_Spans_add_27 (fun h2 H locs w hM => ?_)
    refine m_aload_n C hl 0 d_Spans_add_28 rfl rfl ?_
    refine m_getr C w.1 kc_Spans (shP_0 hP0) (ltP0 hP0) 3 (P + 3) rfl (by decide) fk_Spans_18 d_Spans_add_29 ?_
    refine m_aload_n C hl 0 d_Spans_add_32 rfl rfl ?_
    refine m_geti C w.1 kc_Spans (shP_0 hP0) (ltP0 hP0) 0 rfl (by decide) fk_Spans_21 d_Spans_add_33 ?_
    refine m_iload_n C hl 3 d_Spans_add_36 rfl rfl ?_
    refine m_iast C w (shP_3 hP0) (ltP hP0 3 (by decide)) (Nat.le_of_ble_eq_true rfl) hM d_Spans_add_37 (fun h3 H locs w hM => ?_)
    refine m_aload_n C hl 0 d_Spans_add_38 rfl rfl ?_
    refine m_dup C d_Spans_add_39 rfl ?_
    refine m_geti C w.1 kc_Spans (shP_0 hP0) (ltP0 hP0) 0 rfl (by decide) fk_Spans_21 d_Spans_add_40 ?_
    refine m_iconst C d_Spans_add_43 ?_
    refine m_iadd C d_Spans_add_44 ?_
    refine m_puti C w kc_Spans (shP_0 hP0) (ltP0 hP0) 0 hM rfl (by decide) rfl rfl fk_Spans_21 d_Spans_add_45 (fun h4 H locs w hM => ?_)
    exact m_vretW C w hr hlk hM d_Spans_add_48
def y_Feasts_isMoving : MethodName := ⟨"FeastBook$Feasts", "isMoving", "(I)Z"⟩
theorem d_Feasts_isMoving_0 : decode prog_4_method_3_code 0 = .ok (.aload_n 0, 1) := by decide +kernel
theorem d_Feasts_isMoving_1 : decode prog_4_method_3_code 1 = .ok (.getfield 15, 3) := by decide +kernel
theorem d_Feasts_isMoving_4 : decode prog_4_method_3_code 4 = .ok (.iload_n 1, 1) := by decide +kernel
theorem d_Feasts_isMoving_5 : decode prog_4_method_3_code 5 = .ok (.iaload, 1) := by decide +kernel
theorem d_Feasts_isMoving_6 : decode prog_4_method_3_code 6 = .ok (.iconst (-1), 1) := by decide +kernel
theorem d_Feasts_isMoving_7 : decode prog_4_method_3_code 7 = .ok (.if_icmp .ne 7, 3) := by decide +kernel
theorem d_Feasts_isMoving_10 : decode prog_4_method_3_code 10 = .ok (.iconst 1, 1) := by decide +kernel
theorem d_Feasts_isMoving_11 : decode prog_4_method_3_code 11 = .ok (.goto 4, 3) := by decide +kernel
theorem d_Feasts_isMoving_14 : decode prog_4_method_3_code 14 = .ok (.iconst 0, 1) := by decide +kernel
theorem d_Feasts_isMoving_15 : decode prog_4_method_3_code 15 = .ok (.ireturn, 1) := by decide +kernel
set_option maxHeartbeats 4000000 in
set_option maxRecDepth 100000 in
theorem c_Feasts_isMoving {l : Launch} {D : va_G} {ad : Nat → Nat} {cA : Nat → ClassId} {sd sv : Nat → Nat} {h : Hp} {F : Nat} {a1 : Int} {out : Int} (hI : Inj97 ad) (hF : isFt F) (hM : M_Feasts_isMoving h F a1 = some out) : Met l y_Feasts_isMoving (.code y_Feasts_isMoving prog_4_method_3_code 2 (some .boolean) :: TT) (rmD 0) (PC D ad cA sd sv h [.ref (ad F), .int (iZ a1)]) (QR out) 0 0 (fun _ => False) := by
  unfold M_Feasts_isMoving at hM
  refine entM (by decide +kernel) hI (Nat.le_of_ble_eq_true rfl) ?_
  intro p e s m args below meth c C hr hlk hP ls hl
  have C : Cx p s m args c prog_4_method_3_code 2 "FeastBook$Feasts" D ad cA sd sv (FA ad) := C
  have hl : lv_has ls 2 [(0, .ref (ad F)), (1, .int (iZ a1))] := hl
  refine m_aload_n C hl 0 d_Feasts_isMoving_0 rfl rfl ?_
  refine m_getr C hP kc_Feasts (shF_0 hF) (ltF0 hF) 2 (F + 2) rfl (by decide) fk_Feasts_15 d_Feasts_isMoving_1 ?_
  refine m_iload_n C hl 1 d_Feasts_isMoving_4 rfl rfl ?_
  refine m_iald C hP (shF_2 hF) (ltF hF 2 (by decide)) (Nat.le_of_ble_eq_true rfl) hM d_Feasts_isMoving_5 (fun x1 hM => ?_)
  refine m_iconst C d_Feasts_isMoving_6 ?_
  refine m_icmp_ne C hM 14 d_Feasts_isMoving_7 (by decide) (fun hM => ?_) (fun hM => ?_)
  · refine m_iconst C d_Feasts_isMoving_14 ?_
    exact m_zretR C hr hlk hM d_Feasts_isMoving_15
  · refine m_iconst C d_Feasts_isMoving_10 ?_
    refine m_goto C 15 d_Feasts_isMoving_11 (by decide) ?_
    exact m_zretR C hr hlk hM d_Feasts_isMoving_15
def y_Cl_ofFeast : MethodName := ⟨"FeastBook$Claims", "ofFeast", "(IIZI)I"⟩
theorem d_Cl_ofFeast_0 : decode prog_3_method_3_code 0 = .ok (.iload_n 2, 1) := by decide +kernel
theorem d_Cl_ofFeast_1 : decode prog_3_method_3_code 1 = .ok (.ifCond .eq 8, 3) := by decide +kernel
theorem d_Cl_ofFeast_4 : decode prog_3_method_3_code 4 = .ok (.bipush 16, 2) := by decide +kernel
theorem d_Cl_ofFeast_6 : decode prog_3_method_3_code 6 = .ok (.goto 4, 3) := by decide +kernel
theorem d_Cl_ofFeast_9 : decode prog_3_method_3_code 9 = .ok (.iconst 0, 1) := by decide +kernel
theorem d_Cl_ofFeast_10 : decode prog_3_method_3_code 10 = .ok (.istore 4, 2) := by decide +kernel
theorem d_Cl_ofFeast_12 : decode prog_3_method_3_code 12 = .ok (.iload_n 0, 1) := by decide +kernel
theorem d_Cl_ofFeast_13 : decode prog_3_method_3_code 13 = .ok (.sipush 160, 3) := by decide +kernel
theorem d_Cl_ofFeast_16 : decode prog_3_method_3_code 16 = .ok (.imul, 1) := by decide +kernel
theorem d_Cl_ofFeast_17 : decode prog_3_method_3_code 17 = .ok (.iload_n 1, 1) := by decide +kernel
theorem d_Cl_ofFeast_18 : decode prog_3_method_3_code 18 = .ok (.bipush 32, 2) := by decide +kernel
theorem d_Cl_ofFeast_20 : decode prog_3_method_3_code 20 = .ok (.imul, 1) := by decide +kernel
theorem d_Cl_ofFeast_21 : decode prog_3_method_3_code 21 = .ok (.iadd, 1) := by decide +kernel
theorem d_Cl_ofFeast_22 : decode prog_3_method_3_code 22 = .ok (.iload 4, 2) := by decide +kernel
theorem d_Cl_ofFeast_24 : decode prog_3_method_3_code 24 = .ok (.iadd, 1) := by decide +kernel
theorem d_Cl_ofFeast_25 : decode prog_3_method_3_code 25 = .ok (.bipush 16, 2) := by decide +kernel
theorem d_Cl_ofFeast_27 : decode prog_3_method_3_code 27 = .ok (.iadd, 1) := by decide +kernel
theorem d_Cl_ofFeast_28 : decode prog_3_method_3_code 28 = .ok (.iconst 1, 1) := by decide +kernel
theorem d_Cl_ofFeast_29 : decode prog_3_method_3_code 29 = .ok (.isub, 1) := by decide +kernel
theorem d_Cl_ofFeast_30 : decode prog_3_method_3_code 30 = .ok (.iload_n 3, 1) := by decide +kernel
theorem d_Cl_ofFeast_31 : decode prog_3_method_3_code 31 = .ok (.isub, 1) := by decide +kernel
theorem d_Cl_ofFeast_32 : decode prog_3_method_3_code 32 = .ok (.ireturn, 1) := by decide +kernel
set_option maxHeartbeats 4000000 in
set_option maxRecDepth 100000 in
theorem c_Cl_ofFeast {l : Launch} {D : va_G} {ad : Nat → Nat} {cA : Nat → ClassId} {sd sv : Nat → Nat} {h : Hp} {a0 a1 a2 a3 : Int} {out : Int} (hI : Inj97 ad) (hM : M_Cl_ofFeast a0 a1 a2 a3 = some out) : Met l y_Cl_ofFeast (.code y_Cl_ofFeast prog_3_method_3_code 5 (some .int) :: TT) (rmD 0) (PC D ad cA sd sv h [.int (iZ a0), .int (iZ a1), .int (iZ a2), .int (iZ a3)]) (QR out) 0 0 (fun _ => False) := by
  unfold M_Cl_ofFeast at hM
  refine entM (by decide +kernel) hI (Nat.le_of_ble_eq_true rfl) ?_
  intro p e s m args below meth c C hr hlk hP ls hl
  have C : Cx p s m args c prog_3_method_3_code 5 "FeastBook$Claims" D ad cA sd sv (FA ad) := C
  have hl : lv_has ls 5 [(0, .int (iZ a0)), (1, .int (iZ a1)), (2, .int (iZ a2)), (3, .int (iZ a3))] := hl
  refine m_iload_n C hl 2 d_Cl_ofFeast_0 rfl rfl ?_
  refine lt_join hM (fun j1 ej hM => ?_)
  have hJ1 : ∀ (s0_1 : Int), j1 s0_1 = some out → ∀ ls : Array Slot, lv_has ls 5 [(0, .int (iZ a0)), (1, .int (iZ a1)), (2, .int (iZ a2)), (3, .int (iZ a3))] → W p l e (rmD 0) s m args below meth c s.heap [] 0 0 (MQ below (QR out) args s 0 0 (fun _ => False)) (F0 m 10 ls [.int (iZ s0_1)]) := by
    intro s0_1 hM ls hl
    subst ej
    dsimp only at hM
    refine m_istore C hl [(4, .int (iZ s0_1)), (0, .int (iZ a0)), (1, .int (iZ a1)), (2, .int (iZ a2)), (3, .int (iZ a3))] d_Cl_ofFeast_10 (by decide) rfl (fun ls hl => ?_)
    refine m_iload_n C hl 1 d_Cl_ofFeast_12 rfl rfl ?_
    refine m_sipush C d_Cl_ofFeast_13 (by decide) ?_
    refine m_imul C d_Cl_ofFeast_16 ?_
    refine m_iload_n C hl 2 d_Cl_ofFeast_17 rfl rfl ?_
    refine m_bipush C d_Cl_ofFeast_18 (by decide) ?_
    refine m_imul C d_Cl_ofFeast_20 ?_
    refine m_iadd C d_Cl_ofFeast_21 ?_
    refine m_iload C hl 0 d_Cl_ofFeast_22 rfl ?_
    refine m_iadd C d_Cl_ofFeast_24 ?_
    refine m_bipush C d_Cl_ofFeast_25 (by decide) ?_
    refine m_iadd C d_Cl_ofFeast_27 ?_
    refine m_iconst C d_Cl_ofFeast_28 ?_
    refine m_isub C d_Cl_ofFeast_29 ?_
    refine m_iload_n C hl 4 d_Cl_ofFeast_30 rfl rfl ?_
    refine m_isub C d_Cl_ofFeast_31 ?_
    exact m_iretR C hr hlk hM d_Cl_ofFeast_32
  refine m_if_eq C hM 9 d_Cl_ofFeast_1 (by decide) (fun hM => ?_) (fun hM => ?_)
  · refine m_iconst C d_Cl_ofFeast_9 ?_
    exact hJ1 0 hM _ hl
  · refine m_bipush C d_Cl_ofFeast_4 (by decide) ?_
    refine m_goto C 10 d_Cl_ofFeast_6 (by decide) ?_
    exact hJ1 16 hM _ hl
def y_Feasts_claimWith : MethodName := ⟨"FeastBook$Feasts", "claimWith", "(II)I"⟩
theorem d_Feasts_claimWith_0 : decode prog_4_method_4_code 0 = .ok (.iload_n 2, 1) := by decide +kernel
theorem d_Feasts_claimWith_1 : decode prog_4_method_4_code 1 = .ok (.iconst 4, 1) := by decide +kernel
theorem d_Feasts_claimWith_2 : decode prog_4_method_4_code 2 = .ok (.aload_n 0, 1) := by decide +kernel
theorem d_Feasts_claimWith_3 : decode prog_4_method_4_code 3 = .ok (.iload_n 1, 1) := by decide +kernel
theorem d_Feasts_claimWith_4 : decode prog_4_method_4_code 4 = .ok (.invokevirtual 40, 3) := by decide +kernel
theorem d_Feasts_claimWith_7 : decode prog_4_method_4_code 7 = .ok (.iload_n 1, 1) := by decide +kernel
theorem d_Feasts_claimWith_8 : decode prog_4_method_4_code 8 = .ok (.invokestatic 44, 3) := by decide +kernel
theorem d_Feasts_claimWith_11 : decode prog_4_method_4_code 11 = .ok (.ireturn, 1) := by decide +kernel
theorem mb_Cl_ofFeast : MBs y_Cl_ofFeast prog_3_method_3_code 5 (some .int) 4 := ⟨mT4 23 (by decide +kernel) (by decide +kernel), mT1 16 (by decide +kernel) (by decide +kernel), mT4 24 (by decide +kernel) (by decide +kernel), by decide, by decide +kernel, by decide +kernel, by decide +kernel⟩
theorem mb_Feasts_isMoving : MBv R_Feasts y_Feasts_isMoving prog_4_method_3_code 2 (some .boolean) 1 := ⟨mT4 19 (by decide +kernel) (by decide +kernel), mT4 20 (by decide +kernel) (by decide +kernel), mT1 6 (by decide +kernel) (by decide +kernel), mT4 21 (by decide +kernel) (by decide +kernel), by decide, rfl, by decide +kernel, by decide +kernel, by decide +kernel⟩
theorem lk_Feasts_40 : Cond.methodLink "FeastBook$Feasts" 40 y_Feasts_isMoving ∈ TT := mT4 18 (by decide +kernel) (by decide +kernel)
theorem lk_Feasts_44 : Cond.methodLink "FeastBook$Feasts" 44 y_Cl_ofFeast ∈ TT := mT4 22 (by decide +kernel) (by decide +kernel)
set_option maxHeartbeats 4000000 in
set_option maxRecDepth 100000 in
theorem c_Feasts_claimWith {l : Launch} {D : va_G} {ad : Nat → Nat} {cA : Nat → ClassId} {sd sv : Nat → Nat} {h : Hp} {F : Nat} {a1 a2 : Int} {out : Int} (hI : Inj97 ad) (hF : isFt F) (hM : M_Feasts_claimWith h F a1 a2 = some out) : Met l y_Feasts_claimWith (.code y_Feasts_claimWith prog_4_method_4_code 3 (some .int) :: TT) (rmD 1) (PC D ad cA sd sv h [.ref (ad F), .int (iZ a1), .int (iZ a2)]) (QR out) 0 0 (fun _ => False) := by
  unfold M_Feasts_claimWith at hM
  refine entM (by decide +kernel) hI (Nat.le_of_ble_eq_true rfl) ?_
  intro p e s m args below meth c C hr hlk hP ls hl
  have C : Cx p s m args c prog_4_method_4_code 3 "FeastBook$Feasts" D ad cA sd sv (FA ad) := C
  have hl : lv_has ls 3 [(0, .ref (ad F)), (1, .int (iZ a1)), (2, .int (iZ a2))] := hl
  refine m_iload_n C hl 2 d_Feasts_claimWith_0 rfl rfl ?_
  refine m_iconst C d_Feasts_claimWith_1 ?_
  refine m_aload_n C hl 0 d_Feasts_claimWith_2 rfl rfl ?_
  refine m_iload_n C hl 1 d_Feasts_claimWith_3 rfl rfl ?_
  obtain ⟨x2, e1, hM⟩ := bnd_some hM
  refine aftR (runV C hP va_S.rf kc_Feasts (shF_0 hF) (ltF0 hF) (c_Feasts_isMoving hI hF e1) lk_Feasts_40 mb_Feasts_isMoving rfl ⟨Nat.le_of_ble_eq_true rfl, Nat.le_of_ble_eq_true rfl⟩ ⟨Nat.zero_le _, Nat.zero_le _⟩ (Nat.le_of_ble_eq_true rfl) d_Feasts_claimWith_4 hl.1 (rest := [.int (iZ 4), .int (iZ a2)]) rfl) ?_
  refine m_iload_n C hl 1 d_Feasts_claimWith_7 rfl rfl ?_
  obtain ⟨x4, e3, hM⟩ := bnd_some hM
  refine aftR (runS C hP va_S.rf (c_Cl_ofFeast hI e3) lk_Feasts_44 mb_Cl_ofFeast rfl ⟨Nat.le_of_ble_eq_true rfl, Nat.le_of_ble_eq_true rfl⟩ ⟨Nat.zero_le _, Nat.zero_le _⟩ (Nat.le_of_ble_eq_true rfl) d_Feasts_claimWith_8 hl.1 (rest := []) rfl) ?_
  exact m_iretR C hr hlk hM d_Feasts_claimWith_11
def y_Feasts_howManyAbove : MethodName := ⟨"FeastBook$Feasts", "howManyAbove", "(I)I"⟩
theorem d_Feasts_howManyAbove_0 : decode prog_4_method_8_code 0 = .ok (.iconst 0, 1) := by decide +kernel
theorem d_Feasts_howManyAbove_1 : decode prog_4_method_8_code 1 = .ok (.istore_n 2, 1) := by decide +kernel
theorem d_Feasts_howManyAbove_2 : decode prog_4_method_8_code 2 = .ok (.iconst 0, 1) := by decide +kernel
theorem d_Feasts_howManyAbove_3 : decode prog_4_method_8_code 3 = .ok (.istore_n 3, 1) := by decide +kernel
theorem d_Feasts_howManyAbove_4 : decode prog_4_method_8_code 4 = .ok (.iload_n 3, 1) := by decide +kernel
theorem d_Feasts_howManyAbove_5 : decode prog_4_method_8_code 5 = .ok (.aload_n 0, 1) := by decide +kernel
theorem d_Feasts_howManyAbove_6 : decode prog_4_method_8_code 6 = .ok (.getfield 36, 3) := by decide +kernel
theorem d_Feasts_howManyAbove_9 : decode prog_4_method_8_code 9 = .ok (.if_icmp .ge 27, 3) := by decide +kernel
theorem d_Feasts_howManyAbove_12 : decode prog_4_method_8_code 12 = .ok (.iload_n 2, 1) := by decide +kernel
theorem d_Feasts_howManyAbove_13 : decode prog_4_method_8_code 13 = .ok (.aload_n 0, 1) := by decide +kernel
theorem d_Feasts_howManyAbove_14 : decode prog_4_method_8_code 14 = .ok (.getfield 30, 3) := by decide +kernel
theorem d_Feasts_howManyAbove_17 : decode prog_4_method_8_code 17 = .ok (.iload_n 3, 1) := by decide +kernel
theorem d_Feasts_howManyAbove_18 : decode prog_4_method_8_code 18 = .ok (.iaload, 1) := by decide +kernel
theorem d_Feasts_howManyAbove_19 : decode prog_4_method_8_code 19 = .ok (.iload_n 1, 1) := by decide +kernel
theorem d_Feasts_howManyAbove_20 : decode prog_4_method_8_code 20 = .ok (.if_icmp .le 7, 3) := by decide +kernel
theorem d_Feasts_howManyAbove_23 : decode prog_4_method_8_code 23 = .ok (.iconst 1, 1) := by decide +kernel
theorem d_Feasts_howManyAbove_24 : decode prog_4_method_8_code 24 = .ok (.goto 4, 3) := by decide +kernel
theorem d_Feasts_howManyAbove_27 : decode prog_4_method_8_code 27 = .ok (.iconst 0, 1) := by decide +kernel
theorem d_Feasts_howManyAbove_28 : decode prog_4_method_8_code 28 = .ok (.iadd, 1) := by decide +kernel
theorem d_Feasts_howManyAbove_29 : decode prog_4_method_8_code 29 = .ok (.istore_n 2, 1) := by decide +kernel
theorem d_Feasts_howManyAbove_30 : decode prog_4_method_8_code 30 = .ok (.iinc 3 1, 3) := by decide +kernel
theorem d_Feasts_howManyAbove_33 : decode prog_4_method_8_code 33 = .ok (.goto (-29), 3) := by decide +kernel
theorem d_Feasts_howManyAbove_36 : decode prog_4_method_8_code 36 = .ok (.iload_n 2, 1) := by decide +kernel
theorem d_Feasts_howManyAbove_37 : decode prog_4_method_8_code 37 = .ok (.ireturn, 1) := by decide +kernel
set_option maxHeartbeats 4000000 in
set_option maxRecDepth 100000 in
theorem w_Feasts_howManyAbove_L4 {p : Program} {l : Launch} {e : Env} {s : State} {m : MethodId} {args : Array Value} {below : List Frame} {meth : Method} {c : Code} {D : va_G} {ad : Nat → Nat} {cA : Nat → ClassId} {sd sv : Nat → Nat} {out : Int} (N : Nat) (F : Nat) (hF : isFt F) (hI : Inj97 ad) (C : Cx p s m args c prog_4_method_8_code 4 "FeastBook$Feasts" D ad cA sd sv (FA ad)) (hr : meth.sig.returnType = (some .int)) (hlk : meth.locks = false) (v1 : Int) (h : Hp) (hP : va_P D clL (wl ad cA h) s.heap) : ∀ (n : Nat) (v2 v3 : Int), ∀ ls : Array Slot, lv_has ls 4 [(0, .ref (ad F)), (1, .int (iZ v1)), (2, .int (iZ v2)), (3, .int (iZ v3))] → Feasts_howManyAbove_L4 N h F v1 n v2 v3 = some out → W p l e (rmD 0) s m args below meth c s.heap [] 0 0 (MQ below (QR out) args s 0 0 (fun _ => False)) (F0 m 4 ls []) := by
  intro n
  induction n with
  | zero =>
    intro v2 v3 ls hl hM
    rw [Feasts_howManyAbove_L4] at hM
    cases hM
  | succ n ih =>
    intro v2 v3 ls hl hM
    rw [Feasts_howManyAbove_L4] at hM
    refine m_iload_n C hl 3 d_Feasts_howManyAbove_4 rfl rfl ?_
    refine m_aload_n C hl 0 d_Feasts_howManyAbove_5 rfl rfl ?_
    refine m_geti C hP kc_Feasts (shF_0 hF) (ltF0 hF) 0 rfl (by decide) fk_Feasts_36 d_Feasts_howManyAbove_6 ?_
    refine m_icmp_ge C hM 36 d_Feasts_howManyAbove_9 (by decide) (fun hM => ?_) (fun hM => ?_)
    · refine m_iload_n C hl 2 d_Feasts_howManyAbove_36 rfl rfl ?_
      exact m_iretR C hr hlk hM d_Feasts_howManyAbove_37
    · refine m_iload_n C hl 2 d_Feasts_howManyAbove_12 rfl rfl ?_
      refine m_aload_n C hl 0 d_Feasts_howManyAbove_13 rfl rfl ?_
      refine m_getr C hP kc_Feasts (shF_0 hF) (ltF0 hF) 7 (F + 7) rfl (by decide) fk_Feasts_30 d_Feasts_howManyAbove_14 ?_
      refine m_iload_n C hl 3 d_Feasts_howManyAbove_17 rfl rfl ?_
      refine m_iald C hP (shF_7 hF) (ltF hF 7 (by decide)) (Nat.le_of_ble_eq_true rfl) hM d_Feasts_howManyAbove_18 (fun x1 hM => ?_)
      refine m_iload_n C hl 1 d_Feasts_howManyAbove_19 rfl rfl ?_
      refine m_icmp_le C hM 27 d_Feasts_howManyAbove_20 (by decide) (fun hM => ?_) (fun hM => ?_)
      · refine m_iconst C d_Feasts_howManyAbove_27 ?_
        refine m_iadd C d_Feasts_howManyAbove_28 ?_
        refine m_istore_n C hl [(2, .int (iZ (v2 + 0))), (0, .ref (ad F)), (1, .int (iZ v1)), (3, .int (iZ v3))] d_Feasts_howManyAbove_29 rfl (by decide) rfl (fun ls hl => ?_)
        refine m_iinc C hl 3 [(3, .int (iZ (v3 + 1))), (2, .int (iZ (v2 + 0))), (0, .ref (ad F)), (1, .int (iZ v1))] d_Feasts_howManyAbove_30 rfl (by decide) rfl (fun ls hl => ?_)
        refine m_goto C 4 d_Feasts_howManyAbove_33 (by decide) ?_
        exact ih (v2 + 0) (v3 + 1) _ (lv_sub hl [2, 3, 1, 0] rfl) hM
      · refine m_iconst C d_Feasts_howManyAbove_23 ?_
        refine m_goto C 28 d_Feasts_howManyAbove_24 (by decide) ?_
        refine m_iadd C d_Feasts_howManyAbove_28 ?_
        refine m_istore_n C hl [(2, .int (iZ (v2 + 1))), (0, .ref (ad F)), (1, .int (iZ v1)), (3, .int (iZ v3))] d_Feasts_howManyAbove_29 rfl (by decide) rfl (fun ls hl => ?_)
        refine m_iinc C hl 3 [(3, .int (iZ (v3 + 1))), (2, .int (iZ (v2 + 1))), (0, .ref (ad F)), (1, .int (iZ v1))] d_Feasts_howManyAbove_30 rfl (by decide) rfl (fun ls hl => ?_)
        refine m_goto C 4 d_Feasts_howManyAbove_33 (by decide) ?_
        exact ih (v2 + 1) (v3 + 1) _ (lv_sub hl [2, 3, 1, 0] rfl) hM
set_option maxHeartbeats 4000000 in
set_option maxRecDepth 100000 in
theorem c_Feasts_howManyAbove {l : Launch} {D : va_G} {ad : Nat → Nat} {cA : Nat → ClassId} {sd sv : Nat → Nat} {h : Hp} {N : Nat} {F : Nat} {a1 : Int} {out : Int} (hI : Inj97 ad) (hF : isFt F) (hM : M_Feasts_howManyAbove N h F a1 = some out) : Met l y_Feasts_howManyAbove (.code y_Feasts_howManyAbove prog_4_method_8_code 4 (some .int) :: TT) (rmD 0) (PC D ad cA sd sv h [.ref (ad F), .int (iZ a1)]) (QR out) 0 0 (fun _ => False) := by
  unfold M_Feasts_howManyAbove at hM
  refine entM (by decide +kernel) hI (Nat.le_of_ble_eq_true rfl) ?_
  intro p e s m args below meth c C hr hlk hP ls hl
  have C : Cx p s m args c prog_4_method_8_code 4 "FeastBook$Feasts" D ad cA sd sv (FA ad) := C
  have hl : lv_has ls 4 [(0, .ref (ad F)), (1, .int (iZ a1))] := hl
  refine m_iconst C d_Feasts_howManyAbove_0 ?_
  refine m_istore_n C hl [(2, .int (iZ 0)), (0, .ref (ad F)), (1, .int (iZ a1))] d_Feasts_howManyAbove_1 rfl (by decide) rfl (fun ls hl => ?_)
  refine m_iconst C d_Feasts_howManyAbove_2 ?_
  refine m_istore_n C hl [(3, .int (iZ 0)), (2, .int (iZ 0)), (0, .ref (ad F)), (1, .int (iZ a1))] d_Feasts_howManyAbove_3 rfl (by decide) rfl (fun ls hl => ?_)
  exact w_Feasts_howManyAbove_L4 N F hF hI C hr hlk a1 h hP _ 0 0 _ (lv_sub hl [2, 3, 1, 0] rfl) hM
def y_Feasts_sortByClaim : MethodName := ⟨"FeastBook$Feasts", "sortByClaim", "()V"⟩
theorem d_Feasts_sortByClaim_0 : decode prog_4_method_7_code 0 = .ok (.iconst 0, 1) := by decide +kernel
theorem d_Feasts_sortByClaim_1 : decode prog_4_method_7_code 1 = .ok (.istore_n 1, 1) := by decide +kernel
theorem d_Feasts_sortByClaim_2 : decode prog_4_method_7_code 2 = .ok (.iload_n 1, 1) := by decide +kernel
theorem d_Feasts_sortByClaim_3 : decode prog_4_method_7_code 3 = .ok (.aload_n 0, 1) := by decide +kernel
theorem d_Feasts_sortByClaim_4 : decode prog_4_method_7_code 4 = .ok (.getfield 36, 3) := by decide +kernel
theorem d_Feasts_sortByClaim_7 : decode prog_4_method_7_code 7 = .ok (.if_icmp .ge 26, 3) := by decide +kernel
theorem d_Feasts_sortByClaim_10 : decode prog_4_method_7_code 10 = .ok (.aload_n 0, 1) := by decide +kernel
theorem d_Feasts_sortByClaim_11 : decode prog_4_method_7_code 11 = .ok (.getfield 30, 3) := by decide +kernel
theorem d_Feasts_sortByClaim_14 : decode prog_4_method_7_code 14 = .ok (.iload_n 1, 1) := by decide +kernel
theorem d_Feasts_sortByClaim_15 : decode prog_4_method_7_code 15 = .ok (.aload_n 0, 1) := by decide +kernel
theorem d_Feasts_sortByClaim_16 : decode prog_4_method_7_code 16 = .ok (.iload_n 1, 1) := by decide +kernel
theorem d_Feasts_sortByClaim_17 : decode prog_4_method_7_code 17 = .ok (.aload_n 0, 1) := by decide +kernel
theorem d_Feasts_sortByClaim_18 : decode prog_4_method_7_code 18 = .ok (.getfield 9, 3) := by decide +kernel
theorem d_Feasts_sortByClaim_21 : decode prog_4_method_7_code 21 = .ok (.iload_n 1, 1) := by decide +kernel
theorem d_Feasts_sortByClaim_22 : decode prog_4_method_7_code 22 = .ok (.iaload, 1) := by decide +kernel
theorem d_Feasts_sortByClaim_23 : decode prog_4_method_7_code 23 = .ok (.invokevirtual 50, 3) := by decide +kernel
theorem d_Feasts_sortByClaim_26 : decode prog_4_method_7_code 26 = .ok (.iastore, 1) := by decide +kernel
theorem d_Feasts_sortByClaim_27 : decode prog_4_method_7_code 27 = .ok (.iinc 1 1, 3) := by decide +kernel
theorem d_Feasts_sortByClaim_30 : decode prog_4_method_7_code 30 = .ok (.goto (-28), 3) := by decide +kernel
theorem d_Feasts_sortByClaim_33 : decode prog_4_method_7_code 33 = .ok (.iconst 0, 1) := by decide +kernel
theorem d_Feasts_sortByClaim_34 : decode prog_4_method_7_code 34 = .ok (.istore_n 1, 1) := by decide +kernel
theorem d_Feasts_sortByClaim_35 : decode prog_4_method_7_code 35 = .ok (.iload_n 1, 1) := by decide +kernel
theorem d_Feasts_sortByClaim_36 : decode prog_4_method_7_code 36 = .ok (.aload_n 0, 1) := by decide +kernel
theorem d_Feasts_sortByClaim_37 : decode prog_4_method_7_code 37 = .ok (.getfield 36, 3) := by decide +kernel
theorem d_Feasts_sortByClaim_40 : decode prog_4_method_7_code 40 = .ok (.if_icmp .ge 25, 3) := by decide +kernel
theorem d_Feasts_sortByClaim_43 : decode prog_4_method_7_code 43 = .ok (.aload_n 0, 1) := by decide +kernel
theorem d_Feasts_sortByClaim_44 : decode prog_4_method_7_code 44 = .ok (.getfield 33, 3) := by decide +kernel
theorem d_Feasts_sortByClaim_47 : decode prog_4_method_7_code 47 = .ok (.aload_n 0, 1) := by decide +kernel
theorem d_Feasts_sortByClaim_48 : decode prog_4_method_7_code 48 = .ok (.aload_n 0, 1) := by decide +kernel
theorem d_Feasts_sortByClaim_49 : decode prog_4_method_7_code 49 = .ok (.getfield 30, 3) := by decide +kernel
theorem d_Feasts_sortByClaim_52 : decode prog_4_method_7_code 52 = .ok (.iload_n 1, 1) := by decide +kernel
theorem d_Feasts_sortByClaim_53 : decode prog_4_method_7_code 53 = .ok (.iaload, 1) := by decide +kernel
theorem d_Feasts_sortByClaim_54 : decode prog_4_method_7_code 54 = .ok (.invokevirtual 54, 3) := by decide +kernel
theorem d_Feasts_sortByClaim_57 : decode prog_4_method_7_code 57 = .ok (.iload_n 1, 1) := by decide +kernel
theorem d_Feasts_sortByClaim_58 : decode prog_4_method_7_code 58 = .ok (.iastore, 1) := by decide +kernel
theorem d_Feasts_sortByClaim_59 : decode prog_4_method_7_code 59 = .ok (.iinc 1 1, 3) := by decide +kernel
theorem d_Feasts_sortByClaim_62 : decode prog_4_method_7_code 62 = .ok (.goto (-27), 3) := by decide +kernel
theorem d_Feasts_sortByClaim_65 : decode prog_4_method_7_code 65 = .ok (.return_, 1) := by decide +kernel
theorem mb_Feasts_claimWith : MBv R_Feasts y_Feasts_claimWith prog_4_method_4_code 3 (some .int) 2 := ⟨mT4 15 (by decide +kernel) (by decide +kernel), mT4 16 (by decide +kernel) (by decide +kernel), mT1 6 (by decide +kernel) (by decide +kernel), mT4 17 (by decide +kernel) (by decide +kernel), by decide, rfl, by decide +kernel, by decide +kernel, by decide +kernel⟩
theorem mb_Feasts_howManyAbove : MBv R_Feasts y_Feasts_howManyAbove prog_4_method_8_code 4 (some .int) 1 := ⟨mT4 26 (by decide +kernel) (by decide +kernel), mT4 27 (by decide +kernel) (by decide +kernel), mT1 6 (by decide +kernel) (by decide +kernel), mT4 28 (by decide +kernel) (by decide +kernel), by decide, rfl, by decide +kernel, by decide +kernel, by decide +kernel⟩
theorem lk_Feasts_50 : Cond.methodLink "FeastBook$Feasts" 50 y_Feasts_claimWith ∈ TT := mT4 14 (by decide +kernel) (by decide +kernel)
theorem lk_Feasts_54 : Cond.methodLink "FeastBook$Feasts" 54 y_Feasts_howManyAbove ∈ TT := mT4 25 (by decide +kernel) (by decide +kernel)
set_option maxHeartbeats 4000000 in
set_option maxRecDepth 100000 in
theorem w_Feasts_sortByClaim_L2 {p : Program} {l : Launch} {e : Env} {s : State} {m : MethodId} {args : Array Value} {below : List Frame} {meth : Method} {c : Code} {D : va_G} {ad : Nat → Nat} {cA : Nat → ClassId} {sd sv : Nat → Nat} {out : Hp} (N : Nat) (F : Nat) (hF : isFt F) (hI : Inj97 ad) (C : Cx p s m args c prog_4_method_7_code 2 "FeastBook$Feasts" D ad cA sd sv (FA ad)) (hr : meth.sig.returnType = none) (hlk : meth.locks = false) (k : Int → Hp → Option Hp) (kW : ∀ (v1 : Int) (h : Hp), k v1 h = some out → ∀ (H : Heap) (locs : List Loc), Wd s D ad cA (FA ad) h H locs → ∀ ls : Array Slot, lv_has ls 2 [(0, .ref (ad F)), (1, .int (iZ v1))] → W p l e (rmD 2) s m args below meth c H locs 0 0 (MQ below (QV D ad cA out) args s 0 0 (FA ad)) (F0 m 33 ls [])) : ∀ (n : Nat) (v1 : Int) (h : Hp) (H : Heap) (locs : List Loc), Wd s D ad cA (FA ad) h H locs → ∀ ls : Array Slot, lv_has ls 2 [(0, .ref (ad F)), (1, .int (iZ v1))] → Feasts_sortByClaim_L2 N F k n v1 h = some out → W p l e (rmD 2) s m args below meth c H locs 0 0 (MQ below (QV D ad cA out) args s 0 0 (FA ad)) (F0 m 2 ls []) := by
  intro n
  induction n with
  | zero =>
    intro v1 h H locs w ls hl hM
    rw [Feasts_sortByClaim_L2] at hM
    cases hM
  | succ n ih =>
    intro v1 h H locs w ls hl hM
    rw [Feasts_sortByClaim_L2] at hM
    refine m_iload_n C hl 1 d_Feasts_sortByClaim_2 rfl rfl ?_
    refine m_aload_n C hl 0 d_Feasts_sortByClaim_3 rfl rfl ?_
    refine m_geti C w.1 kc_Feasts (shF_0 hF) (ltF0 hF) 0 rfl (by decide) fk_Feasts_36 d_Feasts_sortByClaim_4 ?_
    refine m_icmp_ge C hM 33 d_Feasts_sortByClaim_7 (by decide) (fun hM => ?_) (fun hM => ?_)
    · exact kW v1 h hM _ _ w _ hl
    · refine m_aload_n C hl 0 d_Feasts_sortByClaim_10 rfl rfl ?_
      refine m_getr C w.1 kc_Feasts (shF_0 hF) (ltF0 hF) 7 (F + 7) rfl (by decide) fk_Feasts_30 d_Feasts_sortByClaim_11 ?_
      refine m_iload_n C hl 1 d_Feasts_sortByClaim_14 rfl rfl ?_
      refine m_aload_n C hl 0 d_Feasts_sortByClaim_15 rfl rfl ?_
      refine m_iload_n C hl 1 d_Feasts_sortByClaim_16 rfl rfl ?_
      refine m_aload_n C hl 0 d_Feasts_sortByClaim_17 rfl rfl ?_
      refine m_getr C w.1 kc_Feasts (shF_0 hF) (ltF0 hF) 1 (F + 1) rfl (by decide) fk_Feasts_9 d_Feasts_sortByClaim_18 ?_
      refine m_iload_n C hl 1 d_Feasts_sortByClaim_21 rfl rfl ?_
      refine m_iald C w.1 (shF_1 hF) (ltF hF 1 (by decide)) (Nat.le_of_ble_eq_true rfl) hM d_Feasts_sortByClaim_22 (fun x1 hM => ?_)
      obtain ⟨x3, e2, hM⟩ := bnd_some hM
      refine aftR (runV C w.1 w.2 kc_Feasts (shF_0 hF) (ltF0 hF) (c_Feasts_claimWith hI hF e2) lk_Feasts_50 mb_Feasts_claimWith rfl ⟨Nat.le_of_ble_eq_true rfl, Nat.le_of_ble_eq_true rfl⟩ ⟨Nat.zero_le _, Nat.zero_le _⟩ (Nat.le_of_ble_eq_true rfl) d_Feasts_sortByClaim_23 hl.1 (rest := [.int (iZ v1), .ref (ad (F + 7))]) rfl) ?_
      refine m_iast C w (shF_7 hF) (ltF hF 7 (by decide)) (Nat.le_of_ble_eq_true rfl) hM d_Feasts_sortByClaim_26 (fun h4 H locs w hM => ?_)
      refine m_iinc C hl 1 [(1, .int (iZ (v1 + 1))), (0, .ref (ad F))] d_Feasts_sortByClaim_27 rfl (by decide) rfl (fun ls hl => ?_)
      refine m_goto C 2 d_Feasts_sortByClaim_30 (by decide) ?_
      exact ih (v1 + 1) h4 _ _ w _ (lv_sub hl [1, 0] rfl) hM
set_option maxHeartbeats 4000000 in
set_option maxRecDepth 100000 in
theorem w_Feasts_sortByClaim_L35 {p : Program} {l : Launch} {e : Env} {s : State} {m : MethodId} {args : Array Value} {below : List Frame} {meth : Method} {c : Code} {D : va_G} {ad : Nat → Nat} {cA : Nat → ClassId} {sd sv : Nat → Nat} {out : Hp} (N : Nat) (F : Nat) (hF : isFt F) (hI : Inj97 ad) (C : Cx p s m args c prog_4_method_7_code 2 "FeastBook$Feasts" D ad cA sd sv (FA ad)) (hr : meth.sig.returnType = none) (hlk : meth.locks = false) : ∀ (n : Nat) (v1 : Int) (h : Hp) (H : Heap) (locs : List Loc), Wd s D ad cA (FA ad) h H locs → ∀ ls : Array Slot, lv_has ls 2 [(0, .ref (ad F)), (1, .int (iZ v1))] → Feasts_sortByClaim_L35 N F n v1 h = some out → W p l e (rmD 2) s m args below meth c H locs 0 0 (MQ below (QV D ad cA out) args s 0 0 (FA ad)) (F0 m 35 ls []) := by
  intro n
  induction n with
  | zero =>
    intro v1 h H locs w ls hl hM
    rw [Feasts_sortByClaim_L35] at hM
    cases hM
  | succ n ih =>
    intro v1 h H locs w ls hl hM
    rw [Feasts_sortByClaim_L35] at hM
    refine m_iload_n C hl 1 d_Feasts_sortByClaim_35 rfl rfl ?_
    refine m_aload_n C hl 0 d_Feasts_sortByClaim_36 rfl rfl ?_
    refine m_geti C w.1 kc_Feasts (shF_0 hF) (ltF0 hF) 0 rfl (by decide) fk_Feasts_36 d_Feasts_sortByClaim_37 ?_
    refine m_icmp_ge C hM 65 d_Feasts_sortByClaim_40 (by decide) (fun hM => ?_) (fun hM => ?_)
    · exact m_vretW C w hr hlk hM d_Feasts_sortByClaim_65
    · refine m_aload_n C hl 0 d_Feasts_sortByClaim_43 rfl rfl ?_
      refine m_getr C w.1 kc_Feasts (shF_0 hF) (ltF0 hF) 8 (F + 8) rfl (by decide) fk_Feasts_33 d_Feasts_sortByClaim_44 ?_
      refine m_aload_n C hl 0 d_Feasts_sortByClaim_47 rfl rfl ?_
      refine m_aload_n C hl 0 d_Feasts_sortByClaim_48 rfl rfl ?_
      refine m_getr C w.1 kc_Feasts (shF_0 hF) (ltF0 hF) 7 (F + 7) rfl (by decide) fk_Feasts_30 d_Feasts_sortByClaim_49 ?_
      refine m_iload_n C hl 1 d_Feasts_sortByClaim_52 rfl rfl ?_
      refine m_iald C w.1 (shF_7 hF) (ltF hF 7 (by decide)) (Nat.le_of_ble_eq_true rfl) hM d_Feasts_sortByClaim_53 (fun x6 hM => ?_)
      obtain ⟨x8, e7, hM⟩ := bnd_some hM
      refine aftR (runV C w.1 w.2 kc_Feasts (shF_0 hF) (ltF0 hF) (c_Feasts_howManyAbove hI hF e7) lk_Feasts_54 mb_Feasts_howManyAbove rfl ⟨Nat.le_of_ble_eq_true rfl, Nat.le_of_ble_eq_true rfl⟩ ⟨Nat.zero_le _, Nat.zero_le _⟩ (Nat.le_of_ble_eq_true rfl) d_Feasts_sortByClaim_54 hl.1 (rest := [.ref (ad (F + 8))]) rfl) ?_
      refine m_iload_n C hl 1 d_Feasts_sortByClaim_57 rfl rfl ?_
      refine m_iast C w (shF_8 hF) (ltF hF 8 (by decide)) (Nat.le_of_ble_eq_true rfl) hM d_Feasts_sortByClaim_58 (fun h9 H locs w hM => ?_)
      refine m_iinc C hl 1 [(1, .int (iZ (v1 + 1))), (0, .ref (ad F))] d_Feasts_sortByClaim_59 rfl (by decide) rfl (fun ls hl => ?_)
      refine m_goto C 35 d_Feasts_sortByClaim_62 (by decide) ?_
      exact ih (v1 + 1) h9 _ _ w _ (lv_sub hl [1, 0] rfl) hM
set_option maxHeartbeats 4000000 in
set_option maxRecDepth 100000 in
theorem c_Feasts_sortByClaim {l : Launch} {D : va_G} {ad : Nat → Nat} {cA : Nat → ClassId} {sd sv : Nat → Nat} {h : Hp} {N : Nat} {F : Nat} {out : Hp} (hI : Inj97 ad) (hF : isFt F) (hM : M_Feasts_sortByClaim N h F = some out) : Met l y_Feasts_sortByClaim (.code y_Feasts_sortByClaim prog_4_method_7_code 2 none :: TT) (rmD 2) (PC D ad cA sd sv h [.ref (ad F)]) (QV D ad cA out) 0 0 (FA ad) := by
  unfold M_Feasts_sortByClaim at hM
  refine entM (by decide +kernel) hI (Nat.le_of_ble_eq_true rfl) ?_
  intro p e s m args below meth c C hr hlk hP ls hl
  have C : Cx p s m args c prog_4_method_7_code 2 "FeastBook$Feasts" D ad cA sd sv (FA ad) := C
  have hl : lv_has ls 2 [(0, .ref (ad F))] := hl
  have w : Wd s D ad cA (FA ad) h s.heap [] := ⟨hP, va_S.rf⟩
  refine m_iconst C d_Feasts_sortByClaim_0 ?_
  refine m_istore_n C hl [(1, .int (iZ 0)), (0, .ref (ad F))] d_Feasts_sortByClaim_1 rfl (by decide) rfl (fun ls hl => ?_)
  refine w_Feasts_sortByClaim_L2 N F hF hI C hr hlk  _ (fun v1_5 h_5 hM H locs w ls hl => ?_) _ 0 h _ _ w _ (lv_sub hl [1, 0] rfl) hM
  refine m_iconst C d_Feasts_sortByClaim_33 ?_
  refine m_istore_n C hl [(1, .int (iZ 0)), (0, .ref (ad F))] d_Feasts_sortByClaim_34 rfl (by decide) rfl (fun ls hl => ?_)
  exact w_Feasts_sortByClaim_L35 N F hF hI C hr hlk  _ 0 h_5 _ _ w _ (lv_sub hl [1, 0] rfl) hM
def y_JA_rangeCheck : MethodName := ⟨"java/util/Arrays", "rangeCheck", "(III)V"⟩
theorem d_JA_rangeCheck_0 : decode prog_37_method_30_code 0 = .ok (.iload_n 1, 1) := by decide +kernel
theorem d_JA_rangeCheck_1 : decode prog_37_method_30_code 1 = .ok (.iload_n 2, 1) := by decide +kernel
theorem d_JA_rangeCheck_2 : decode prog_37_method_30_code 2 = .ok (.if_icmp .le 44, 3) := by decide +kernel
theorem d_JA_rangeCheck_5 : decode prog_37_method_30_code 5 = .ok (.new 43, 3) := by decide +kernel
theorem d_JA_rangeCheck_8 : decode prog_37_method_30_code 8 = .ok (.dup, 1) := by decide +kernel
theorem d_JA_rangeCheck_9 : decode prog_37_method_30_code 9 = .ok (.new 45, 3) := by decide +kernel
theorem d_JA_rangeCheck_12 : decode prog_37_method_30_code 12 = .ok (.dup, 1) := by decide +kernel
theorem d_JA_rangeCheck_13 : decode prog_37_method_30_code 13 = .ok (.invokespecial 47, 3) := by decide +kernel
theorem d_JA_rangeCheck_16 : decode prog_37_method_30_code 16 = .ok (.ldc 48, 2) := by decide +kernel
theorem d_JA_rangeCheck_18 : decode prog_37_method_30_code 18 = .ok (.invokevirtual 50, 3) := by decide +kernel
theorem d_JA_rangeCheck_21 : decode prog_37_method_30_code 21 = .ok (.iload_n 1, 1) := by decide +kernel
theorem d_JA_rangeCheck_22 : decode prog_37_method_30_code 22 = .ok (.invokevirtual 54, 3) := by decide +kernel
theorem d_JA_rangeCheck_25 : decode prog_37_method_30_code 25 = .ok (.ldc 57, 2) := by decide +kernel
theorem d_JA_rangeCheck_27 : decode prog_37_method_30_code 27 = .ok (.invokevirtual 50, 3) := by decide +kernel
theorem d_JA_rangeCheck_30 : decode prog_37_method_30_code 30 = .ok (.iload_n 2, 1) := by decide +kernel
theorem d_JA_rangeCheck_31 : decode prog_37_method_30_code 31 = .ok (.invokevirtual 54, 3) := by decide +kernel
theorem d_JA_rangeCheck_34 : decode prog_37_method_30_code 34 = .ok (.ldc 59, 2) := by decide +kernel
theorem d_JA_rangeCheck_36 : decode prog_37_method_30_code 36 = .ok (.invokevirtual 50, 3) := by decide +kernel
theorem d_JA_rangeCheck_39 : decode prog_37_method_30_code 39 = .ok (.invokevirtual 61, 3) := by decide +kernel
theorem d_JA_rangeCheck_42 : decode prog_37_method_30_code 42 = .ok (.invokespecial 65, 3) := by decide +kernel
theorem d_JA_rangeCheck_45 : decode prog_37_method_30_code 45 = .ok (.athrow, 1) := by decide +kernel
theorem d_JA_rangeCheck_46 : decode prog_37_method_30_code 46 = .ok (.iload_n 1, 1) := by decide +kernel
theorem d_JA_rangeCheck_47 : decode prog_37_method_30_code 47 = .ok (.ifCond .ge 12, 3) := by decide +kernel
theorem d_JA_rangeCheck_50 : decode prog_37_method_30_code 50 = .ok (.new 68, 3) := by decide +kernel
theorem d_JA_rangeCheck_53 : decode prog_37_method_30_code 53 = .ok (.dup, 1) := by decide +kernel
theorem d_JA_rangeCheck_54 : decode prog_37_method_30_code 54 = .ok (.iload_n 1, 1) := by decide +kernel
theorem d_JA_rangeCheck_55 : decode prog_37_method_30_code 55 = .ok (.invokespecial 70, 3) := by decide +kernel
theorem d_JA_rangeCheck_58 : decode prog_37_method_30_code 58 = .ok (.athrow, 1) := by decide +kernel
theorem d_JA_rangeCheck_59 : decode prog_37_method_30_code 59 = .ok (.iload_n 2, 1) := by decide +kernel
theorem d_JA_rangeCheck_60 : decode prog_37_method_30_code 60 = .ok (.iload_n 0, 1) := by decide +kernel
theorem d_JA_rangeCheck_61 : decode prog_37_method_30_code 61 = .ok (.if_icmp .le 12, 3) := by decide +kernel
theorem d_JA_rangeCheck_64 : decode prog_37_method_30_code 64 = .ok (.new 68, 3) := by decide +kernel
theorem d_JA_rangeCheck_67 : decode prog_37_method_30_code 67 = .ok (.dup, 1) := by decide +kernel
theorem d_JA_rangeCheck_68 : decode prog_37_method_30_code 68 = .ok (.iload_n 2, 1) := by decide +kernel
theorem d_JA_rangeCheck_69 : decode prog_37_method_30_code 69 = .ok (.invokespecial 70, 3) := by decide +kernel
theorem d_JA_rangeCheck_72 : decode prog_37_method_30_code 72 = .ok (.athrow, 1) := by decide +kernel
theorem d_JA_rangeCheck_73 : decode prog_37_method_30_code 73 = .ok (.return_, 1) := by decide +kernel
set_option maxHeartbeats 4000000 in
set_option maxRecDepth 100000 in
theorem c_JA_rangeCheck {l : Launch} {D : va_G} {ad : Nat → Nat} {cA : Nat → ClassId} {sd sv : Nat → Nat} {h : Hp} {a0 a1 a2 : Int} {out : Hp} (hI : Inj97 ad) (hM : M_JA_rangeCheck h a0 a1 a2 = some out) : Met l y_JA_rangeCheck (.code y_JA_rangeCheck prog_37_method_30_code 3 none :: TT) (rmD 0) (PC D ad cA sd sv h [.int (iZ a0), .int (iZ a1), .int (iZ a2)]) (QV D ad cA out) 0 0 (FA ad) := by
  unfold M_JA_rangeCheck at hM
  refine entF (by decide +kernel) hI (Nat.le_of_ble_eq_true rfl) ?_
  intro p e s m args below meth c C hr hlk hP ls hl
  have C : Cx p s m args c prog_37_method_30_code 3 "java/util/Arrays" D ad cA sd sv (FA ad) := C
  have hl : lv_has ls 3 [(0, .int (iZ a0)), (1, .int (iZ a1)), (2, .int (iZ a2))] := hl
  have w : Wd s D ad cA (FA ad) h s.heap [] := ⟨hP, va_S.rf⟩
  refine m_iload_n C hl 1 d_JA_rangeCheck_0 rfl rfl ?_
  refine m_iload_n C hl 2 d_JA_rangeCheck_1 rfl rfl ?_
  refine m_icmp_le C hM 46 d_JA_rangeCheck_2 (by decide) (fun hM => ?_) (fun hM => ?_)
  · refine m_iload_n C hl 1 d_JA_rangeCheck_46 rfl rfl ?_
    refine m_if_ge C hM 59 d_JA_rangeCheck_47 (by decide) (fun hM => ?_) (fun hM => ?_)
    · refine m_iload_n C hl 2 d_JA_rangeCheck_59 rfl rfl ?_
      refine m_iload_n C hl 0 d_JA_rangeCheck_60 rfl rfl ?_
      refine m_icmp_le C hM 73 d_JA_rangeCheck_61 (by decide) (fun hM => ?_) (fun hM => ?_)
      · exact m_vretW C w hr hlk hM d_JA_rangeCheck_73
      · cases hM
    · cases hM
  · cases hM
def y_JA_fill_IIIIV : MethodName := ⟨"java/util/Arrays", "fill", "([IIII)V"⟩
theorem d_JA_fill_IIIIV_0 : decode prog_37_method_104_code 0 = .ok (.aload_n 0, 1) := by decide +kernel
theorem d_JA_fill_IIIIV_1 : decode prog_37_method_104_code 1 = .ok (.arraylength, 1) := by decide +kernel
theorem d_JA_fill_IIIIV_2 : decode prog_37_method_104_code 2 = .ok (.iload_n 1, 1) := by decide +kernel
theorem d_JA_fill_IIIIV_3 : decode prog_37_method_104_code 3 = .ok (.iload_n 2, 1) := by decide +kernel
theorem d_JA_fill_IIIIV_4 : decode prog_37_method_104_code 4 = .ok (.invokestatic 13, 3) := by decide +kernel
theorem d_JA_fill_IIIIV_7 : decode prog_37_method_104_code 7 = .ok (.iload_n 1, 1) := by decide +kernel
theorem d_JA_fill_IIIIV_8 : decode prog_37_method_104_code 8 = .ok (.istore 4, 2) := by decide +kernel
theorem d_JA_fill_IIIIV_10 : decode prog_37_method_104_code 10 = .ok (.iload 4, 2) := by decide +kernel
theorem d_JA_fill_IIIIV_12 : decode prog_37_method_104_code 12 = .ok (.iload_n 2, 1) := by decide +kernel
theorem d_JA_fill_IIIIV_13 : decode prog_37_method_104_code 13 = .ok (.if_icmp .ge 14, 3) := by decide +kernel
theorem d_JA_fill_IIIIV_16 : decode prog_37_method_104_code 16 = .ok (.aload_n 0, 1) := by decide +kernel
theorem d_JA_fill_IIIIV_17 : decode prog_37_method_104_code 17 = .ok (.iload 4, 2) := by decide +kernel
theorem d_JA_fill_IIIIV_19 : decode prog_37_method_104_code 19 = .ok (.iload_n 3, 1) := by decide +kernel
theorem d_JA_fill_IIIIV_20 : decode prog_37_method_104_code 20 = .ok (.iastore, 1) := by decide +kernel
theorem d_JA_fill_IIIIV_21 : decode prog_37_method_104_code 21 = .ok (.iinc 4 1, 3) := by decide +kernel
theorem d_JA_fill_IIIIV_24 : decode prog_37_method_104_code 24 = .ok (.goto (-14), 3) := by decide +kernel
theorem d_JA_fill_IIIIV_27 : decode prog_37_method_104_code 27 = .ok (.return_, 1) := by decide +kernel
theorem mb_JA_rangeCheck : MBs y_JA_rangeCheck prog_37_method_30_code 3 none 3 := ⟨mT4 212 (by decide +kernel) (by decide +kernel), mT1 22 (by decide +kernel) (by decide +kernel), mT4 213 (by decide +kernel) (by decide +kernel), by decide, by decide +kernel, by decide +kernel, by decide +kernel⟩
theorem lk_JA_13 : Cond.methodLink "java/util/Arrays" 13 y_JA_rangeCheck ∈ TT := mT4 211 (by decide +kernel) (by decide +kernel)
set_option maxHeartbeats 4000000 in
set_option maxRecDepth 100000 in
theorem w_JA_fill_IIIIV_L10 {p : Program} {l : Launch} {e : Env} {s : State} {m : MethodId} {args : Array Value} {below : List Frame} {meth : Method} {c : Code} {D : va_G} {ad : Nat → Nat} {cA : Nat → ClassId} {sd sv : Nat → Nat} {out : Hp} (N : Nat) (X : Nat) (nX : Nat) (hX : shp X = .inr (0, nX) ∧ X < 97 ∧ nX < 2147483648) (hI : Inj97 ad) (C : Cx p s m args c prog_37_method_104_code 5 "java/util/Arrays" D ad cA sd sv (FA ad)) (hr : meth.sig.returnType = none) (hlk : meth.locks = false) (v1 v2 v3 : Int) : ∀ (n : Nat) (v4 : Int) (h : Hp) (H : Heap) (locs : List Loc), Wd s D ad cA (FA ad) h H locs → ∀ ls : Array Slot, lv_has ls 5 [(0, .ref (ad X)), (1, .int (iZ v1)), (2, .int (iZ v2)), (3, .int (iZ v3)), (4, .int (iZ v4))] → JA_fill_IIIIV_L10 N X nX v2 v3 n v4 h = some out → W p l e (rmD 1) s m args below meth c H locs 0 0 (MQ below (QV D ad cA out) args s 0 0 (FA ad)) (F0 m 10 ls []) := by
  intro n
  induction n with
  | zero =>
    intro v4 h H locs w ls hl hM
    rw [JA_fill_IIIIV_L10] at hM
    cases hM
  | succ n ih =>
    intro v4 h H locs w ls hl hM
    rw [JA_fill_IIIIV_L10] at hM
    refine m_iload C hl 4 d_JA_fill_IIIIV_10 rfl ?_
    refine m_iload_n C hl 2 d_JA_fill_IIIIV_12 rfl rfl ?_
    refine m_icmp_ge C hM 27 d_JA_fill_IIIIV_13 (by decide) (fun hM => ?_) (fun hM => ?_)
    · exact m_vretW C w hr hlk hM d_JA_fill_IIIIV_27
    · refine m_aload_n C hl 0 d_JA_fill_IIIIV_16 rfl rfl ?_
      refine m_iload C hl 4 d_JA_fill_IIIIV_17 rfl ?_
      refine m_iload_n C hl 3 d_JA_fill_IIIIV_19 rfl rfl ?_
      refine m_iast C w hX.1 hX.2.1 hX.2.2 hM d_JA_fill_IIIIV_20 (fun h3 H locs w hM => ?_)
      refine m_iinc C hl 4 [(4, .int (iZ (v4 + 1))), (0, .ref (ad X)), (1, .int (iZ v1)), (2, .int (iZ v2)), (3, .int (iZ v3))] d_JA_fill_IIIIV_21 rfl (by decide) rfl (fun ls hl => ?_)
      refine m_goto C 10 d_JA_fill_IIIIV_24 (by decide) ?_
      exact ih (v4 + 1) h3 _ _ w _ (lv_sub hl [1, 2, 3, 4, 0] rfl) hM
set_option maxHeartbeats 4000000 in
set_option maxRecDepth 100000 in
theorem c_JA_fill_IIIIV {l : Launch} {D : va_G} {ad : Nat → Nat} {cA : Nat → ClassId} {sd sv : Nat → Nat} {h : Hp} {N : Nat} {X : Nat} {nX : Nat} {a1 a2 a3 : Int} {out : Hp} (hI : Inj97 ad) (hX : shp X = .inr (0, nX) ∧ X < 97 ∧ nX < 2147483648) (hM : M_JA_fill_IIIIV N h X nX a1 a2 a3 = some out) : Met l y_JA_fill_IIIIV (.code y_JA_fill_IIIIV prog_37_method_104_code 5 none :: TT) (rmD 1) (PC D ad cA sd sv h [.ref (ad X), .int (iZ a1), .int (iZ a2), .int (iZ a3)]) (QV D ad cA out) 0 0 (FA ad) := by
  unfold M_JA_fill_IIIIV at hM
  refine entF (by decide +kernel) hI (Nat.le_of_ble_eq_true rfl) ?_
  intro p e s m args below meth c C hr hlk hP ls hl
  have C : Cx p s m args c prog_37_method_104_code 5 "java/util/Arrays" D ad cA sd sv (FA ad) := C
  have hl : lv_has ls 5 [(0, .ref (ad X)), (1, .int (iZ a1)), (2, .int (iZ a2)), (3, .int (iZ a3))] := hl
  have w : Wd s D ad cA (FA ad) h s.heap [] := ⟨hP, va_S.rf⟩
  refine m_aload_n C hl 0 d_JA_fill_IIIIV_0 rfl rfl ?_
  refine m_alen C w.1 hX.1 hX.2.1 (by decide) d_JA_fill_IIIIV_1 ?_
  refine m_iload_n C hl 1 d_JA_fill_IIIIV_2 rfl rfl ?_
  refine m_iload_n C hl 2 d_JA_fill_IIIIV_3 rfl rfl ?_
  obtain ⟨h2, e1, hM⟩ := bnd_some hM
  refine aftV C w (runS C w.1 w.2 (c_JA_rangeCheck hI e1) lk_JA_13 mb_JA_rangeCheck rfl ⟨Nat.le_of_ble_eq_true rfl, Nat.le_of_ble_eq_true rfl⟩ ⟨Nat.zero_le _, Nat.zero_le _⟩ (Nat.le_of_ble_eq_true rfl) d_JA_fill_IIIIV_4 hl.1 (rest := []) rfl) (fun H locs w => ?_)
  refine m_iload_n C hl 1 d_JA_fill_IIIIV_7 rfl rfl ?_
  refine m_istore C hl [(4, .int (iZ a1)), (0, .ref (ad X)), (1, .int (iZ a1)), (2, .int (iZ a2)), (3, .int (iZ a3))] d_JA_fill_IIIIV_8 (by decide) rfl (fun ls hl => ?_)
  exact w_JA_fill_IIIIV_L10 N X nX hX hI C hr hlk a1 a2 a3 _ a1 h2 _ _ w _ (lv_sub hl [1, 2, 3, 4, 0] rfl) hM
def y_Spans_lastWith : MethodName := ⟨"FeastBook$Spans", "lastWith", "(I)I"⟩
theorem d_Spans_lastWith_0 : decode prog_8_method_3_code 0 = .ok (.aload_n 0, 1) := by decide +kernel
theorem d_Spans_lastWith_1 : decode prog_8_method_3_code 1 = .ok (.getfield 21, 3) := by decide +kernel
theorem d_Spans_lastWith_4 : decode prog_8_method_3_code 4 = .ok (.iconst 1, 1) := by decide +kernel
theorem d_Spans_lastWith_5 : decode prog_8_method_3_code 5 = .ok (.isub, 1) := by decide +kernel
theorem d_Spans_lastWith_6 : decode prog_8_method_3_code 6 = .ok (.istore_n 2, 1) := by decide +kernel
theorem d_Spans_lastWith_7 : decode prog_8_method_3_code 7 = .ok (.iload_n 2, 1) := by decide +kernel
theorem d_Spans_lastWith_8 : decode prog_8_method_3_code 8 = .ok (.ifCond .lt 31, 3) := by decide +kernel
theorem d_Spans_lastWith_11 : decode prog_8_method_3_code 11 = .ok (.iload_n 1, 1) := by decide +kernel
theorem d_Spans_lastWith_12 : decode prog_8_method_3_code 12 = .ok (.aload_n 0, 1) := by decide +kernel
theorem d_Spans_lastWith_13 : decode prog_8_method_3_code 13 = .ok (.getfield 9, 3) := by decide +kernel
theorem d_Spans_lastWith_16 : decode prog_8_method_3_code 16 = .ok (.iload_n 2, 1) := by decide +kernel
theorem d_Spans_lastWith_17 : decode prog_8_method_3_code 17 = .ok (.iaload, 1) := by decide +kernel
theorem d_Spans_lastWith_18 : decode prog_8_method_3_code 18 = .ok (.if_icmp .lt 15, 3) := by decide +kernel
theorem d_Spans_lastWith_21 : decode prog_8_method_3_code 21 = .ok (.iload_n 1, 1) := by decide +kernel
theorem d_Spans_lastWith_22 : decode prog_8_method_3_code 22 = .ok (.aload_n 0, 1) := by decide +kernel
theorem d_Spans_lastWith_23 : decode prog_8_method_3_code 23 = .ok (.getfield 15, 3) := by decide +kernel
theorem d_Spans_lastWith_26 : decode prog_8_method_3_code 26 = .ok (.iload_n 2, 1) := by decide +kernel
theorem d_Spans_lastWith_27 : decode prog_8_method_3_code 27 = .ok (.iaload, 1) := by decide +kernel
theorem d_Spans_lastWith_28 : decode prog_8_method_3_code 28 = .ok (.if_icmp .gt 5, 3) := by decide +kernel
theorem d_Spans_lastWith_31 : decode prog_8_method_3_code 31 = .ok (.iload_n 2, 1) := by decide +kernel
theorem d_Spans_lastWith_32 : decode prog_8_method_3_code 32 = .ok (.ireturn, 1) := by decide +kernel
theorem d_Spans_lastWith_33 : decode prog_8_method_3_code 33 = .ok (.iinc 2 (-1), 3) := by decide +kernel
theorem d_Spans_lastWith_36 : decode prog_8_method_3_code 36 = .ok (.goto (-29), 3) := by decide +kernel
theorem d_Spans_lastWith_39 : decode prog_8_method_3_code 39 = .ok (.iconst (-1), 1) := by decide +kernel
theorem d_Spans_lastWith_40 : decode prog_8_method_3_code 40 = .ok (.ireturn, 1) := by decide +kernel
set_option maxHeartbeats 4000000 in
set_option maxRecDepth 100000 in
theorem w_Spans_lastWith_L7 {p : Program} {l : Launch} {e : Env} {s : State} {m : MethodId} {args : Array Value} {below : List Frame} {meth : Method} {c : Code} {D : va_G} {ad : Nat → Nat} {cA : Nat → ClassId} {sd sv : Nat → Nat} {out : Int} (N : Nat) (P : Nat) (hP0 : isSp P) (hI : Inj97 ad) (C : Cx p s m args c prog_8_method_3_code 3 "FeastBook$Spans" D ad cA sd sv (FA ad)) (hr : meth.sig.returnType = (some .int)) (hlk : meth.locks = false) (v1 : Int) (h : Hp) (hP : va_P D clL (wl ad cA h) s.heap) : ∀ (n : Nat) (v2 : Int), ∀ ls : Array Slot, lv_has ls 3 [(0, .ref (ad P)), (1, .int (iZ v1)), (2, .int (iZ v2))] → Spans_lastWith_L7 N h P v1 n v2 = some out → W p l e (rmD 0) s m args below meth c s.heap [] 0 0 (MQ below (QR out) args s 0 0 (fun _ => False)) (F0 m 7 ls []) := by
  intro n
  induction n with
  | zero =>
    intro v2 ls hl hM
    rw [Spans_lastWith_L7] at hM
    cases hM
  | succ n ih =>
    intro v2 ls hl hM
    rw [Spans_lastWith_L7] at hM
    refine m_iload_n C hl 2 d_Spans_lastWith_7 rfl rfl ?_
    refine m_if_lt C hM 39 d_Spans_lastWith_8 (by decide) (fun hM => ?_) (fun hM => ?_)
    · refine m_iconst C d_Spans_lastWith_39 ?_
      exact m_iretR C hr hlk hM d_Spans_lastWith_40
    · refine m_iload_n C hl 1 d_Spans_lastWith_11 rfl rfl ?_
      refine m_aload_n C hl 0 d_Spans_lastWith_12 rfl rfl ?_
      refine m_getr C hP kc_Spans (shP_0 hP0) (ltP0 hP0) 1 (P + 1) rfl (by decide) fk_Spans_9 d_Spans_lastWith_13 ?_
      refine m_iload_n C hl 2 d_Spans_lastWith_16 rfl rfl ?_
      refine m_iald C hP (shP_1 hP0) (ltP hP0 1 (by decide)) (Nat.le_of_ble_eq_true rfl) hM d_Spans_lastWith_17 (fun x1 hM => ?_)
      refine m_icmp_lt C hM 33 d_Spans_lastWith_18 (by decide) (fun hM => ?_) (fun hM => ?_)
      · refine m_iinc C hl 2 [(2, .int (iZ (v2 + (-1)))), (0, .ref (ad P)), (1, .int (iZ v1))] d_Spans_lastWith_33 rfl (by decide) rfl (fun ls hl => ?_)
        refine m_goto C 7 d_Spans_lastWith_36 (by decide) ?_
        exact ih (v2 + (-1)) _ (lv_sub hl [1, 2, 0] rfl) hM
      · refine m_iload_n C hl 1 d_Spans_lastWith_21 rfl rfl ?_
        refine m_aload_n C hl 0 d_Spans_lastWith_22 rfl rfl ?_
        refine m_getr C hP kc_Spans (shP_0 hP0) (ltP0 hP0) 2 (P + 2) rfl (by decide) fk_Spans_15 d_Spans_lastWith_23 ?_
        refine m_iload_n C hl 2 d_Spans_lastWith_26 rfl rfl ?_
        refine m_iald C hP (shP_2 hP0) (ltP hP0 2 (by decide)) (Nat.le_of_ble_eq_true rfl) hM d_Spans_lastWith_27 (fun x2 hM => ?_)
        refine m_icmp_gt C hM 33 d_Spans_lastWith_28 (by decide) (fun hM => ?_) (fun hM => ?_)
        · refine m_iinc C hl 2 [(2, .int (iZ (v2 + (-1)))), (0, .ref (ad P)), (1, .int (iZ v1))] d_Spans_lastWith_33 rfl (by decide) rfl (fun ls hl => ?_)
          refine m_goto C 7 d_Spans_lastWith_36 (by decide) ?_
          exact ih (v2 + (-1)) _ (lv_sub hl [1, 2, 0] rfl) hM
        · refine m_iload_n C hl 2 d_Spans_lastWith_31 rfl rfl ?_
          exact m_iretR C hr hlk hM d_Spans_lastWith_32
set_option maxHeartbeats 4000000 in
set_option maxRecDepth 100000 in
theorem c_Spans_lastWith {l : Launch} {D : va_G} {ad : Nat → Nat} {cA : Nat → ClassId} {sd sv : Nat → Nat} {h : Hp} {N : Nat} {P : Nat} {a1 : Int} {out : Int} (hI : Inj97 ad) (hP0 : isSp P) (hM : M_Spans_lastWith N h P a1 = some out) : Met l y_Spans_lastWith (.code y_Spans_lastWith prog_8_method_3_code 3 (some .int) :: TT) (rmD 0) (PC D ad cA sd sv h [.ref (ad P), .int (iZ a1)]) (QR out) 0 0 (fun _ => False) := by
  unfold M_Spans_lastWith at hM
  refine entM (by decide +kernel) hI (Nat.le_of_ble_eq_true rfl) ?_
  intro p e s m args below meth c C hr hlk hP ls hl
  have C : Cx p s m args c prog_8_method_3_code 3 "FeastBook$Spans" D ad cA sd sv (FA ad) := C
  have hl : lv_has ls 3 [(0, .ref (ad P)), (1, .int (iZ a1))] := hl
  refine m_aload_n C hl 0 d_Spans_lastWith_0 rfl rfl ?_
  refine m_geti C hP kc_Spans (shP_0 hP0) (ltP0 hP0) 0 rfl (by decide) fk_Spans_21 d_Spans_lastWith_1 ?_
  refine m_iconst C d_Spans_lastWith_4 ?_
  refine m_isub C d_Spans_lastWith_5 ?_
  refine m_istore_n C hl [(2, .int (iZ ((h P 0) - 1))), (0, .ref (ad P)), (1, .int (iZ a1))] d_Spans_lastWith_6 rfl (by decide) rfl (fun ls hl => ?_)
  exact w_Spans_lastWith_L7 N P hP0 hI C hr hlk a1 h hP _ ((h P 0) - 1) _ (lv_sub hl [1, 2, 0] rfl) hM
def y_Cl_sunday : MethodName := ⟨"FeastBook$Claims", "sunday", "(I)I"⟩
theorem d_Cl_sunday_0 : decode prog_3_method_2_code 0 = .ok (.iload_n 0, 1) := by decide +kernel
theorem d_Cl_sunday_1 : decode prog_3_method_2_code 1 = .ok (.sipush 160, 3) := by decide +kernel
theorem d_Cl_sunday_4 : decode prog_3_method_2_code 4 = .ok (.imul, 1) := by decide +kernel
theorem d_Cl_sunday_5 : decode prog_3_method_2_code 5 = .ok (.bipush 96, 2) := by decide +kernel
theorem d_Cl_sunday_7 : decode prog_3_method_2_code 7 = .ok (.iadd, 1) := by decide +kernel
theorem d_Cl_sunday_8 : decode prog_3_method_2_code 8 = .ok (.ireturn, 1) := by decide +kernel
set_option maxHeartbeats 4000000 in
set_option maxRecDepth 100000 in
theorem c_Cl_sunday {l : Launch} {D : va_G} {ad : Nat → Nat} {cA : Nat → ClassId} {sd sv : Nat → Nat} {h : Hp} {a0 : Int} {out : Int} (hI : Inj97 ad) (hM : M_Cl_sunday a0 = some out) : Met l y_Cl_sunday (.code y_Cl_sunday prog_3_method_2_code 1 (some .int) :: TT) (rmD 0) (PC D ad cA sd sv h [.int (iZ a0)]) (QR out) 0 0 (fun _ => False) := by
  unfold M_Cl_sunday at hM
  refine entM (by decide +kernel) hI (Nat.le_of_ble_eq_true rfl) ?_
  intro p e s m args below meth c C hr hlk hP ls hl
  have C : Cx p s m args c prog_3_method_2_code 1 "FeastBook$Claims" D ad cA sd sv (FA ad) := C
  have hl : lv_has ls 1 [(0, .int (iZ a0))] := hl
  refine m_iload_n C hl 0 d_Cl_sunday_0 rfl rfl ?_
  refine m_sipush C d_Cl_sunday_1 (by decide) ?_
  refine m_imul C d_Cl_sunday_4 ?_
  refine m_bipush C d_Cl_sunday_5 (by decide) ?_
  refine m_iadd C d_Cl_sunday_7 ?_
  exact m_iretR C hr hlk hM d_Cl_sunday_8
def y_Feasts_vigilClaim : MethodName := ⟨"FeastBook$Feasts", "vigilClaim", "(I)I"⟩
theorem d_Feasts_vigilClaim_0 : decode prog_4_method_5_code 0 = .ok (.aload_n 0, 1) := by decide +kernel
theorem d_Feasts_vigilClaim_1 : decode prog_4_method_5_code 1 = .ok (.getfield 24, 3) := by decide +kernel
theorem d_Feasts_vigilClaim_4 : decode prog_4_method_5_code 4 = .ok (.iload_n 1, 1) := by decide +kernel
theorem d_Feasts_vigilClaim_5 : decode prog_4_method_5_code 5 = .ok (.iaload, 1) := by decide +kernel
theorem d_Feasts_vigilClaim_6 : decode prog_4_method_5_code 6 = .ok (.iconst 1, 1) := by decide +kernel
theorem d_Feasts_vigilClaim_7 : decode prog_4_method_5_code 7 = .ok (.aload_n 0, 1) := by decide +kernel
theorem d_Feasts_vigilClaim_8 : decode prog_4_method_5_code 8 = .ok (.iload_n 1, 1) := by decide +kernel
theorem d_Feasts_vigilClaim_9 : decode prog_4_method_5_code 9 = .ok (.invokevirtual 40, 3) := by decide +kernel
theorem d_Feasts_vigilClaim_12 : decode prog_4_method_5_code 12 = .ok (.iload_n 1, 1) := by decide +kernel
theorem d_Feasts_vigilClaim_13 : decode prog_4_method_5_code 13 = .ok (.invokestatic 44, 3) := by decide +kernel
theorem d_Feasts_vigilClaim_16 : decode prog_4_method_5_code 16 = .ok (.ireturn, 1) := by decide +kernel
set_option maxHeartbeats 4000000 in
set_option maxRecDepth 100000 in
theorem c_Feasts_vigilClaim {l : Launch} {D : va_G} {ad : Nat → Nat} {cA : Nat → ClassId} {sd sv : Nat → Nat} {h : Hp} {F : Nat} {a1 : Int} {out : Int} (hI : Inj97 ad) (hF : isFt F) (hM : M_Feasts_vigilClaim h F a1 = some out) : Met l y_Feasts_vigilClaim (.code y_Feasts_vigilClaim prog_4_method_5_code 2 (some .int) :: TT) (rmD 1) (PC D ad cA sd sv h [.ref (ad F), .int (iZ a1)]) (QR out) 0 0 (fun _ => False) := by
  unfold M_Feasts_vigilClaim at hM
  refine entM (by decide +kernel) hI (Nat.le_of_ble_eq_true rfl) ?_
  intro p e s m args below meth c C hr hlk hP ls hl
  have C : Cx p s m args c prog_4_method_5_code 2 "FeastBook$Feasts" D ad cA sd sv (FA ad) := C
  have hl : lv_has ls 2 [(0, .ref (ad F)), (1, .int (iZ a1))] := hl
  refine m_aload_n C hl 0 d_Feasts_vigilClaim_0 rfl rfl ?_
  refine m_getr C hP kc_Feasts (shF_0 hF) (ltF0 hF) 5 (F + 5) rfl (by decide) fk_Feasts_24 d_Feasts_vigilClaim_1 ?_
  refine m_iload_n C hl 1 d_Feasts_vigilClaim_4 rfl rfl ?_
  refine m_iald C hP (shF_5 hF) (ltF hF 5 (by decide)) (Nat.le_of_ble_eq_true rfl) hM d_Feasts_vigilClaim_5 (fun x1 hM => ?_)
  refine m_iconst C d_Feasts_vigilClaim_6 ?_
  refine m_aload_n C hl 0 d_Feasts_vigilClaim_7 rfl rfl ?_
  refine m_iload_n C hl 1 d_Feasts_vigilClaim_8 rfl rfl ?_
  obtain ⟨x3, e2, hM⟩ := bnd_some hM
  refine aftR (runV C hP va_S.rf kc_Feasts (shF_0 hF) (ltF0 hF) (c_Feasts_isMoving hI hF e2) lk_Feasts_40 mb_Feasts_isMoving rfl ⟨Nat.le_of_ble_eq_true rfl, Nat.le_of_ble_eq_true rfl⟩ ⟨Nat.zero_le _, Nat.zero_le _⟩ (Nat.le_of_ble_eq_true rfl) d_Feasts_vigilClaim_9 hl.1 (rest := [.int (iZ 1), .int (iZ x1)]) rfl) ?_
  refine m_iload_n C hl 1 d_Feasts_vigilClaim_12 rfl rfl ?_
  obtain ⟨x5, e4, hM⟩ := bnd_some hM
  refine aftR (runS C hP va_S.rf (c_Cl_ofFeast hI e4) lk_Feasts_44 mb_Cl_ofFeast rfl ⟨Nat.le_of_ble_eq_true rfl, Nat.le_of_ble_eq_true rfl⟩ ⟨Nat.zero_le _, Nat.zero_le _⟩ (Nat.le_of_ble_eq_true rfl) d_Feasts_vigilClaim_13 hl.1 (rest := []) rfl) ?_
  exact m_iretR C hr hlk hM d_Feasts_vigilClaim_16
def y_Feasts_octaveClaim : MethodName := ⟨"FeastBook$Feasts", "octaveClaim", "(I)I"⟩
theorem d_Feasts_octaveClaim_0 : decode prog_4_method_6_code 0 = .ok (.aload_n 0, 1) := by decide +kernel
theorem d_Feasts_octaveClaim_1 : decode prog_4_method_6_code 1 = .ok (.getfield 27, 3) := by decide +kernel
theorem d_Feasts_octaveClaim_4 : decode prog_4_method_6_code 4 = .ok (.iload_n 1, 1) := by decide +kernel
theorem d_Feasts_octaveClaim_5 : decode prog_4_method_6_code 5 = .ok (.iaload, 1) := by decide +kernel
theorem d_Feasts_octaveClaim_6 : decode prog_4_method_6_code 6 = .ok (.iconst 2, 1) := by decide +kernel
theorem d_Feasts_octaveClaim_7 : decode prog_4_method_6_code 7 = .ok (.aload_n 0, 1) := by decide +kernel
theorem d_Feasts_octaveClaim_8 : decode prog_4_method_6_code 8 = .ok (.iload_n 1, 1) := by decide +kernel
theorem d_Feasts_octaveClaim_9 : decode prog_4_method_6_code 9 = .ok (.invokevirtual 40, 3) := by decide +kernel
theorem d_Feasts_octaveClaim_12 : decode prog_4_method_6_code 12 = .ok (.iload_n 1, 1) := by decide +kernel
theorem d_Feasts_octaveClaim_13 : decode prog_4_method_6_code 13 = .ok (.invokestatic 44, 3) := by decide +kernel
theorem d_Feasts_octaveClaim_16 : decode prog_4_method_6_code 16 = .ok (.ireturn, 1) := by decide +kernel
set_option maxHeartbeats 4000000 in
set_option maxRecDepth 100000 in
theorem c_Feasts_octaveClaim {l : Launch} {D : va_G} {ad : Nat → Nat} {cA : Nat → ClassId} {sd sv : Nat → Nat} {h : Hp} {F : Nat} {a1 : Int} {out : Int} (hI : Inj97 ad) (hF : isFt F) (hM : M_Feasts_octaveClaim h F a1 = some out) : Met l y_Feasts_octaveClaim (.code y_Feasts_octaveClaim prog_4_method_6_code 2 (some .int) :: TT) (rmD 1) (PC D ad cA sd sv h [.ref (ad F), .int (iZ a1)]) (QR out) 0 0 (fun _ => False) := by
  unfold M_Feasts_octaveClaim at hM
  refine entM (by decide +kernel) hI (Nat.le_of_ble_eq_true rfl) ?_
  intro p e s m args below meth c C hr hlk hP ls hl
  have C : Cx p s m args c prog_4_method_6_code 2 "FeastBook$Feasts" D ad cA sd sv (FA ad) := C
  have hl : lv_has ls 2 [(0, .ref (ad F)), (1, .int (iZ a1))] := hl
  refine m_aload_n C hl 0 d_Feasts_octaveClaim_0 rfl rfl ?_
  refine m_getr C hP kc_Feasts (shF_0 hF) (ltF0 hF) 6 (F + 6) rfl (by decide) fk_Feasts_27 d_Feasts_octaveClaim_1 ?_
  refine m_iload_n C hl 1 d_Feasts_octaveClaim_4 rfl rfl ?_
  refine m_iald C hP (shF_6 hF) (ltF hF 6 (by decide)) (Nat.le_of_ble_eq_true rfl) hM d_Feasts_octaveClaim_5 (fun x1 hM => ?_)
  refine m_iconst C d_Feasts_octaveClaim_6 ?_
  refine m_aload_n C hl 0 d_Feasts_octaveClaim_7 rfl rfl ?_
  refine m_iload_n C hl 1 d_Feasts_octaveClaim_8 rfl rfl ?_
  obtain ⟨x3, e2, hM⟩ := bnd_some hM
  refine aftR (runV C hP va_S.rf kc_Feasts (shF_0 hF) (ltF0 hF) (c_Feasts_isMoving hI hF e2) lk_Feasts_40 mb_Feasts_isMoving rfl ⟨Nat.le_of_ble_eq_true rfl, Nat.le_of_ble_eq_true rfl⟩ ⟨Nat.zero_le _, Nat.zero_le _⟩ (Nat.le_of_ble_eq_true rfl) d_Feasts_octaveClaim_9 hl.1 (rest := [.int (iZ 2), .int (iZ x1)]) rfl) ?_
  refine m_iload_n C hl 1 d_Feasts_octaveClaim_12 rfl rfl ?_
  obtain ⟨x5, e4, hM⟩ := bnd_some hM
  refine aftR (runS C hP va_S.rf (c_Cl_ofFeast hI e4) lk_Feasts_44 mb_Cl_ofFeast rfl ⟨Nat.le_of_ble_eq_true rfl, Nat.le_of_ble_eq_true rfl⟩ ⟨Nat.zero_le _, Nat.zero_le _⟩ (Nat.le_of_ble_eq_true rfl) d_Feasts_octaveClaim_13 hl.1 (rest := []) rfl) ?_
  exact m_iretR C hr hlk hM d_Feasts_octaveClaim_16
def y_Cl_kindIn : MethodName := ⟨"FeastBook$Claims", "kindIn", "(I)I"⟩
theorem d_Cl_kindIn_0 : decode prog_3_method_5_code 0 = .ok (.iload_n 0, 1) := by decide +kernel
theorem d_Cl_kindIn_1 : decode prog_3_method_5_code 1 = .ok (.bipush 32, 2) := by decide +kernel
theorem d_Cl_kindIn_3 : decode prog_3_method_5_code 3 = .ok (.idiv, 1) := by decide +kernel
theorem d_Cl_kindIn_4 : decode prog_3_method_5_code 4 = .ok (.iconst 5, 1) := by decide +kernel
theorem d_Cl_kindIn_5 : decode prog_3_method_5_code 5 = .ok (.irem, 1) := by decide +kernel
theorem d_Cl_kindIn_6 : decode prog_3_method_5_code 6 = .ok (.ireturn, 1) := by decide +kernel
set_option maxHeartbeats 4000000 in
set_option maxRecDepth 100000 in
theorem c_Cl_kindIn {l : Launch} {D : va_G} {ad : Nat → Nat} {cA : Nat → ClassId} {sd sv : Nat → Nat} {h : Hp} {a0 : Int} {out : Int} (hI : Inj97 ad) (hM : M_Cl_kindIn a0 = some out) : Met l y_Cl_kindIn (.code y_Cl_kindIn prog_3_method_5_code 1 (some .int) :: TT) (rmD 0) (PC D ad cA sd sv h [.int (iZ a0)]) (QR out) 0 0 (fun _ => False) := by
  unfold M_Cl_kindIn at hM
  refine entM (by decide +kernel) hI (Nat.le_of_ble_eq_true rfl) ?_
  intro p e s m args below meth c C hr hlk hP ls hl
  have C : Cx p s m args c prog_3_method_5_code 1 "FeastBook$Claims" D ad cA sd sv (FA ad) := C
  have hl : lv_has ls 1 [(0, .int (iZ a0))] := hl
  refine m_iload_n C hl 0 d_Cl_kindIn_0 rfl rfl ?_
  refine m_bipush C d_Cl_kindIn_1 (by decide) ?_
  refine m_idiv C hM d_Cl_kindIn_3 (fun x1 hM => ?_)
  refine m_iconst C d_Cl_kindIn_4 ?_
  refine m_irem C hM d_Cl_kindIn_5 (fun x2 hM => ?_)
  exact m_iretR C hr hlk hM d_Cl_kindIn_6
def y_Cl_rankIn : MethodName := ⟨"FeastBook$Claims", "rankIn", "(I)I"⟩
theorem d_Cl_rankIn_0 : decode prog_3_method_4_code 0 = .ok (.iload_n 0, 1) := by decide +kernel
theorem d_Cl_rankIn_1 : decode prog_3_method_4_code 1 = .ok (.sipush 160, 3) := by decide +kernel
theorem d_Cl_rankIn_4 : decode prog_3_method_4_code 4 = .ok (.idiv, 1) := by decide +kernel
theorem d_Cl_rankIn_5 : decode prog_3_method_4_code 5 = .ok (.ireturn, 1) := by decide +kernel
set_option maxHeartbeats 4000000 in
set_option maxRecDepth 100000 in
theorem c_Cl_rankIn {l : Launch} {D : va_G} {ad : Nat → Nat} {cA : Nat → ClassId} {sd sv : Nat → Nat} {h : Hp} {a0 : Int} {out : Int} (hI : Inj97 ad) (hM : M_Cl_rankIn a0 = some out) : Met l y_Cl_rankIn (.code y_Cl_rankIn prog_3_method_4_code 1 (some .int) :: TT) (rmD 0) (PC D ad cA sd sv h [.int (iZ a0)]) (QR out) 0 0 (fun _ => False) := by
  unfold M_Cl_rankIn at hM
  refine entM (by decide +kernel) hI (Nat.le_of_ble_eq_true rfl) ?_
  intro p e s m args below meth c C hr hlk hP ls hl
  have C : Cx p s m args c prog_3_method_4_code 1 "FeastBook$Claims" D ad cA sd sv (FA ad) := C
  have hl : lv_has ls 1 [(0, .int (iZ a0))] := hl
  refine m_iload_n C hl 0 d_Cl_rankIn_0 rfl rfl ?_
  refine m_sipush C d_Cl_rankIn_1 (by decide) ?_
  refine m_idiv C hM d_Cl_rankIn_4 (fun x1 hM => ?_)
  exact m_iretR C hr hlk hM d_Cl_rankIn_5
def y_JI_bitCount : MethodName := ⟨"java/lang/Integer", "bitCount", "(I)I"⟩
theorem d_JI_bitCount_0 : decode prog_25_method_49_code 0 = .ok (.iload_n 0, 1) := by decide +kernel
theorem d_JI_bitCount_1 : decode prog_25_method_49_code 1 = .ok (.iload_n 0, 1) := by decide +kernel
theorem d_JI_bitCount_2 : decode prog_25_method_49_code 2 = .ok (.iconst 1, 1) := by decide +kernel
theorem d_JI_bitCount_3 : decode prog_25_method_49_code 3 = .ok (.iushr, 1) := by decide +kernel
theorem d_JI_bitCount_4 : decode prog_25_method_49_code 4 = .ok (.ldc_w 265, 3) := by decide +kernel
theorem d_JI_bitCount_7 : decode prog_25_method_49_code 7 = .ok (.iand, 1) := by decide +kernel
theorem d_JI_bitCount_8 : decode prog_25_method_49_code 8 = .ok (.isub, 1) := by decide +kernel
theorem d_JI_bitCount_9 : decode prog_25_method_49_code 9 = .ok (.istore_n 0, 1) := by decide +kernel
theorem d_JI_bitCount_10 : decode prog_25_method_49_code 10 = .ok (.iload_n 0, 1) := by decide +kernel
theorem d_JI_bitCount_11 : decode prog_25_method_49_code 11 = .ok (.ldc_w 266, 3) := by decide +kernel
theorem d_JI_bitCount_14 : decode prog_25_method_49_code 14 = .ok (.iand, 1) := by decide +kernel
theorem d_JI_bitCount_15 : decode prog_25_method_49_code 15 = .ok (.iload_n 0, 1) := by decide +kernel
theorem d_JI_bitCount_16 : decode prog_25_method_49_code 16 = .ok (.iconst 2, 1) := by decide +kernel
theorem d_JI_bitCount_17 : decode prog_25_method_49_code 17 = .ok (.iushr, 1) := by decide +kernel
theorem d_JI_bitCount_18 : decode prog_25_method_49_code 18 = .ok (.ldc_w 266, 3) := by decide +kernel
theorem d_JI_bitCount_21 : decode prog_25_method_49_code 21 = .ok (.iand, 1) := by decide +kernel
theorem d_JI_bitCount_22 : decode prog_25_method_49_code 22 = .ok (.iadd, 1) := by decide +kernel
theorem d_JI_bitCount_23 : decode prog_25_method_49_code 23 = .ok (.istore_n 0, 1) := by decide +kernel
theorem d_JI_bitCount_24 : decode prog_25_method_49_code 24 = .ok (.iload_n 0, 1) := by decide +kernel
theorem d_JI_bitCount_25 : decode prog_25_method_49_code 25 = .ok (.iload_n 0, 1) := by decide +kernel
theorem d_JI_bitCount_26 : decode prog_25_method_49_code 26 = .ok (.iconst 4, 1) := by decide +kernel
theorem d_JI_bitCount_27 : decode prog_25_method_49_code 27 = .ok (.iushr, 1) := by decide +kernel
theorem d_JI_bitCount_28 : decode prog_25_method_49_code 28 = .ok (.iadd, 1) := by decide +kernel
theorem d_JI_bitCount_29 : decode prog_25_method_49_code 29 = .ok (.ldc_w 267, 3) := by decide +kernel
theorem d_JI_bitCount_32 : decode prog_25_method_49_code 32 = .ok (.iand, 1) := by decide +kernel
theorem d_JI_bitCount_33 : decode prog_25_method_49_code 33 = .ok (.istore_n 0, 1) := by decide +kernel
theorem d_JI_bitCount_34 : decode prog_25_method_49_code 34 = .ok (.iload_n 0, 1) := by decide +kernel
theorem d_JI_bitCount_35 : decode prog_25_method_49_code 35 = .ok (.iload_n 0, 1) := by decide +kernel
theorem d_JI_bitCount_36 : decode prog_25_method_49_code 36 = .ok (.bipush 8, 2) := by decide +kernel
theorem d_JI_bitCount_38 : decode prog_25_method_49_code 38 = .ok (.iushr, 1) := by decide +kernel
theorem d_JI_bitCount_39 : decode prog_25_method_49_code 39 = .ok (.iadd, 1) := by decide +kernel
theorem d_JI_bitCount_40 : decode prog_25_method_49_code 40 = .ok (.istore_n 0, 1) := by decide +kernel
theorem d_JI_bitCount_41 : decode prog_25_method_49_code 41 = .ok (.iload_n 0, 1) := by decide +kernel
theorem d_JI_bitCount_42 : decode prog_25_method_49_code 42 = .ok (.iload_n 0, 1) := by decide +kernel
theorem d_JI_bitCount_43 : decode prog_25_method_49_code 43 = .ok (.bipush 16, 2) := by decide +kernel
theorem d_JI_bitCount_45 : decode prog_25_method_49_code 45 = .ok (.iushr, 1) := by decide +kernel
theorem d_JI_bitCount_46 : decode prog_25_method_49_code 46 = .ok (.iadd, 1) := by decide +kernel
theorem d_JI_bitCount_47 : decode prog_25_method_49_code 47 = .ok (.istore_n 0, 1) := by decide +kernel
theorem d_JI_bitCount_48 : decode prog_25_method_49_code 48 = .ok (.iload_n 0, 1) := by decide +kernel
theorem d_JI_bitCount_49 : decode prog_25_method_49_code 49 = .ok (.bipush 63, 2) := by decide +kernel
theorem d_JI_bitCount_51 : decode prog_25_method_49_code 51 = .ok (.iand, 1) := by decide +kernel
theorem d_JI_bitCount_52 : decode prog_25_method_49_code 52 = .ok (.ireturn, 1) := by decide +kernel
set_option maxHeartbeats 4000000 in
set_option maxRecDepth 100000 in
theorem c_JI_bitCount {l : Launch} {D : va_G} {ad : Nat → Nat} {cA : Nat → ClassId} {sd sv : Nat → Nat} {h : Hp} {a0 : Int} {out : Int} (hI : Inj97 ad) (hM : M_JI_bitCount a0 = some out) : Met l y_JI_bitCount (.code y_JI_bitCount prog_25_method_49_code 1 (some .int) :: TT) (rmD 0) (PC D ad cA sd sv h [.int (iZ a0)]) (QR out) 0 0 (fun _ => False) := by
  unfold M_JI_bitCount at hM
  refine entF (by decide +kernel) hI (Nat.le_of_ble_eq_true rfl) ?_
  intro p e s m args below meth c C hr hlk hP ls hl
  have C : Cx p s m args c prog_25_method_49_code 1 "java/lang/Integer" D ad cA sd sv (FA ad) := C
  have hl : lv_has ls 1 [(0, .int (iZ a0))] := hl
  refine m_iload_n C hl 0 d_JI_bitCount_0 rfl rfl ?_
  refine m_iload_n C hl 0 d_JI_bitCount_1 rfl rfl ?_
  refine m_iconst C d_JI_bitCount_2 ?_
  refine m_iushr C d_JI_bitCount_3 ?_
  refine m_ldcw (n := 1431655765) (v := 1431655765) C (mT6 37 (by decide +kernel) (by decide +kernel)) (by decide) d_JI_bitCount_4 ?_
  refine m_iand C d_JI_bitCount_7 ?_
  refine m_isub C d_JI_bitCount_8 ?_
  refine m_istore_n C hl [(0, .int (iZ (a0 - (andI (ushrI a0 1) 1431655765))))] d_JI_bitCount_9 rfl (by decide) rfl (fun ls hl => ?_)
  refine m_iload_n C hl 0 d_JI_bitCount_10 rfl rfl ?_
  refine m_ldcw (n := 858993459) (v := 858993459) C (mT6 38 (by decide +kernel) (by decide +kernel)) (by decide) d_JI_bitCount_11 ?_
  refine m_iand C d_JI_bitCount_14 ?_
  refine m_iload_n C hl 0 d_JI_bitCount_15 rfl rfl ?_
  refine m_iconst C d_JI_bitCount_16 ?_
  refine m_iushr C d_JI_bitCount_17 ?_
  refine m_ldcw (n := 858993459) (v := 858993459) C (mT6 38 (by decide +kernel) (by decide +kernel)) (by decide) d_JI_bitCount_18 ?_
  refine m_iand C d_JI_bitCount_21 ?_
  refine m_iadd C d_JI_bitCount_22 ?_
  refine m_istore_n C hl [(0, .int (iZ ((andI (a0 - (andI (ushrI a0 1) 1431655765)) 858993459) + (andI (ushrI (a0 - (andI (ushrI a0 1) 1431655765)) 2) 858993459))))] d_JI_bitCount_23 rfl (by decide) rfl (fun ls hl => ?_)
  refine m_iload_n C hl 0 d_JI_bitCount_24 rfl rfl ?_
  refine m_iload_n C hl 0 d_JI_bitCount_25 rfl rfl ?_
  refine m_iconst C d_JI_bitCount_26 ?_
  refine m_iushr C d_JI_bitCount_27 ?_
  refine m_iadd C d_JI_bitCount_28 ?_
  refine m_ldcw (n := 252645135) (v := 252645135) C (mT6 39 (by decide +kernel) (by decide +kernel)) (by decide) d_JI_bitCount_29 ?_
  refine m_iand C d_JI_bitCount_32 ?_
  refine m_istore_n C hl [(0, .int (iZ (andI (((andI (a0 - (andI (ushrI a0 1) 1431655765)) 858993459) + (andI (ushrI (a0 - (andI (ushrI a0 1) 1431655765)) 2) 858993459)) + (ushrI ((andI (a0 - (andI (ushrI a0 1) 1431655765)) 858993459) + (andI (ushrI (a0 - (andI (ushrI a0 1) 1431655765)) 2) 858993459)) 4)) 252645135)))] d_JI_bitCount_33 rfl (by decide) rfl (fun ls hl => ?_)
  refine m_iload_n C hl 0 d_JI_bitCount_34 rfl rfl ?_
  refine m_iload_n C hl 0 d_JI_bitCount_35 rfl rfl ?_
  refine m_bipush C d_JI_bitCount_36 (by decide) ?_
  refine m_iushr C d_JI_bitCount_38 ?_
  refine m_iadd C d_JI_bitCount_39 ?_
  refine m_istore_n C hl [(0, .int (iZ ((andI (((andI (a0 - (andI (ushrI a0 1) 1431655765)) 858993459) + (andI (ushrI (a0 - (andI (ushrI a0 1) 1431655765)) 2) 858993459)) + (ushrI ((andI (a0 - (andI (ushrI a0 1) 1431655765)) 858993459) + (andI (ushrI (a0 - (andI (ushrI a0 1) 1431655765)) 2) 858993459)) 4)) 252645135) + (ushrI (andI (((andI (a0 - (andI (ushrI a0 1) 1431655765)) 858993459) + (andI (ushrI (a0 - (andI (ushrI a0 1) 1431655765)) 2) 858993459)) + (ushrI ((andI (a0 - (andI (ushrI a0 1) 1431655765)) 858993459) + (andI (ushrI (a0 - (andI (ushrI a0 1) 1431655765)) 2) 858993459)) 4)) 252645135) 8))))] d_JI_bitCount_40 rfl (by decide) rfl (fun ls hl => ?_)
  refine m_iload_n C hl 0 d_JI_bitCount_41 rfl rfl ?_
  refine m_iload_n C hl 0 d_JI_bitCount_42 rfl rfl ?_
  refine m_bipush C d_JI_bitCount_43 (by decide) ?_
  refine m_iushr C d_JI_bitCount_45 ?_
  refine m_iadd C d_JI_bitCount_46 ?_
  refine m_istore_n C hl [(0, .int (iZ (((andI (((andI (a0 - (andI (ushrI a0 1) 1431655765)) 858993459) + (andI (ushrI (a0 - (andI (ushrI a0 1) 1431655765)) 2) 858993459)) + (ushrI ((andI (a0 - (andI (ushrI a0 1) 1431655765)) 858993459) + (andI (ushrI (a0 - (andI (ushrI a0 1) 1431655765)) 2) 858993459)) 4)) 252645135) + (ushrI (andI (((andI (a0 - (andI (ushrI a0 1) 1431655765)) 858993459) + (andI (ushrI (a0 - (andI (ushrI a0 1) 1431655765)) 2) 858993459)) + (ushrI ((andI (a0 - (andI (ushrI a0 1) 1431655765)) 858993459) + (andI (ushrI (a0 - (andI (ushrI a0 1) 1431655765)) 2) 858993459)) 4)) 252645135) 8)) + (ushrI ((andI (((andI (a0 - (andI (ushrI a0 1) 1431655765)) 858993459) + (andI (ushrI (a0 - (andI (ushrI a0 1) 1431655765)) 2) 858993459)) + (ushrI ((andI (a0 - (andI (ushrI a0 1) 1431655765)) 858993459) + (andI (ushrI (a0 - (andI (ushrI a0 1) 1431655765)) 2) 858993459)) 4)) 252645135) + (ushrI (andI (((andI (a0 - (andI (ushrI a0 1) 1431655765)) 858993459) + (andI (ushrI (a0 - (andI (ushrI a0 1) 1431655765)) 2) 858993459)) + (ushrI ((andI (a0 - (andI (ushrI a0 1) 1431655765)) 858993459) + (andI (ushrI (a0 - (andI (ushrI a0 1) 1431655765)) 2) 858993459)) 4)) 252645135) 8)) 16))))] d_JI_bitCount_47 rfl (by decide) rfl (fun ls hl => ?_)
  refine m_iload_n C hl 0 d_JI_bitCount_48 rfl rfl ?_
  refine m_bipush C d_JI_bitCount_49 (by decide) ?_
  refine m_iand C d_JI_bitCount_51 ?_
  exact m_iretR C hr hlk hM d_JI_bitCount_52
def y_Cl_feastIn : MethodName := ⟨"FeastBook$Claims", "feastIn", "(I)I"⟩
theorem d_Cl_feastIn_0 : decode prog_3_method_6_code 0 = .ok (.iload_n 0, 1) := by decide +kernel
theorem d_Cl_feastIn_1 : decode prog_3_method_6_code 1 = .ok (.invokestatic 11, 3) := by decide +kernel
theorem d_Cl_feastIn_4 : decode prog_3_method_6_code 4 = .ok (.istore_n 1, 1) := by decide +kernel
theorem d_Cl_feastIn_5 : decode prog_3_method_6_code 5 = .ok (.iload_n 1, 1) := by decide +kernel
theorem d_Cl_feastIn_6 : decode prog_3_method_6_code 6 = .ok (.ifCond .eq 8, 3) := by decide +kernel
theorem d_Cl_feastIn_9 : decode prog_3_method_6_code 9 = .ok (.iload_n 1, 1) := by decide +kernel
theorem d_Cl_feastIn_10 : decode prog_3_method_6_code 10 = .ok (.iconst 3, 1) := by decide +kernel
theorem d_Cl_feastIn_11 : decode prog_3_method_6_code 11 = .ok (.if_icmp .ne 7, 3) := by decide +kernel
theorem d_Cl_feastIn_14 : decode prog_3_method_6_code 14 = .ok (.iconst (-1), 1) := by decide +kernel
theorem d_Cl_feastIn_15 : decode prog_3_method_6_code 15 = .ok (.goto 10, 3) := by decide +kernel
theorem d_Cl_feastIn_18 : decode prog_3_method_6_code 18 = .ok (.bipush 15, 2) := by decide +kernel
theorem d_Cl_feastIn_20 : decode prog_3_method_6_code 20 = .ok (.iload_n 0, 1) := by decide +kernel
theorem d_Cl_feastIn_21 : decode prog_3_method_6_code 21 = .ok (.bipush 16, 2) := by decide +kernel
theorem d_Cl_feastIn_23 : decode prog_3_method_6_code 23 = .ok (.irem, 1) := by decide +kernel
theorem d_Cl_feastIn_24 : decode prog_3_method_6_code 24 = .ok (.isub, 1) := by decide +kernel
theorem d_Cl_feastIn_25 : decode prog_3_method_6_code 25 = .ok (.ireturn, 1) := by decide +kernel
theorem mb_Cl_kindIn : MBs y_Cl_kindIn prog_3_method_5_code 1 (some .int) 1 := ⟨mT6 8 (by decide +kernel) (by decide +kernel), mT1 16 (by decide +kernel) (by decide +kernel), mT6 9 (by decide +kernel) (by decide +kernel), by decide, by decide +kernel, by decide +kernel, by decide +kernel⟩
theorem lk_Cl_11 : Cond.methodLink "FeastBook$Claims" 11 y_Cl_kindIn ∈ TT := mT6 114 (by decide +kernel) (by decide +kernel)
set_option maxHeartbeats 4000000 in
set_option maxRecDepth 100000 in
theorem c_Cl_feastIn {l : Launch} {D : va_G} {ad : Nat → Nat} {cA : Nat → ClassId} {sd sv : Nat → Nat} {h : Hp} {a0 : Int} {out : Int} (hI : Inj97 ad) (hM : M_Cl_feastIn a0 = some out) : Met l y_Cl_feastIn (.code y_Cl_feastIn prog_3_method_6_code 2 (some .int) :: TT) (rmD 1) (PC D ad cA sd sv h [.int (iZ a0)]) (QR out) 0 0 (fun _ => False) := by
  unfold M_Cl_feastIn at hM
  refine entM (by decide +kernel) hI (Nat.le_of_ble_eq_true rfl) ?_
  intro p e s m args below meth c C hr hlk hP ls hl
  have C : Cx p s m args c prog_3_method_6_code 2 "FeastBook$Claims" D ad cA sd sv (FA ad) := C
  have hl : lv_has ls 2 [(0, .int (iZ a0))] := hl
  refine m_iload_n C hl 0 d_Cl_feastIn_0 rfl rfl ?_
  obtain ⟨x2, e1, hM⟩ := bnd_some hM
  refine aftR (runS C hP va_S.rf (c_Cl_kindIn hI e1) lk_Cl_11 mb_Cl_kindIn rfl ⟨Nat.le_of_ble_eq_true rfl, Nat.le_of_ble_eq_true rfl⟩ ⟨Nat.zero_le _, Nat.zero_le _⟩ (Nat.le_of_ble_eq_true rfl) d_Cl_feastIn_1 hl.1 (rest := []) rfl) ?_
  refine m_istore_n C hl [(1, .int (iZ x2)), (0, .int (iZ a0))] d_Cl_feastIn_4 rfl (by decide) rfl (fun ls hl => ?_)
  refine m_iload_n C hl 0 d_Cl_feastIn_5 rfl rfl ?_
  refine m_if_eq C hM 14 d_Cl_feastIn_6 (by decide) (fun hM => ?_) (fun hM => ?_)
  · refine m_iconst C d_Cl_feastIn_14 ?_
    refine m_goto C 25 d_Cl_feastIn_15 (by decide) ?_
    exact m_iretR C hr hlk hM d_Cl_feastIn_25
  · refine m_iload_n C hl 0 d_Cl_feastIn_9 rfl rfl ?_
    refine m_iconst C d_Cl_feastIn_10 ?_
    refine m_icmp_ne C hM 18 d_Cl_feastIn_11 (by decide) (fun hM => ?_) (fun hM => ?_)
    · refine m_bipush C d_Cl_feastIn_18 (by decide) ?_
      refine m_iload_n C hl 1 d_Cl_feastIn_20 rfl rfl ?_
      refine m_bipush C d_Cl_feastIn_21 (by decide) ?_
      refine m_irem C hM d_Cl_feastIn_23 (fun x3 hM => ?_)
      refine m_isub C d_Cl_feastIn_24 ?_
      exact m_iretR C hr hlk hM d_Cl_feastIn_25
    · refine m_iconst C d_Cl_feastIn_14 ?_
      refine m_goto C 25 d_Cl_feastIn_15 (by decide) ?_
      exact m_iretR C hr hlk hM d_Cl_feastIn_25
def y_Cl_tell : MethodName := ⟨"FeastBook$Claims", "tell", "(II)I"⟩
theorem d_Cl_tell_0 : decode prog_3_method_7_code 0 = .ok (.iload_n 1, 1) := by decide +kernel
theorem d_Cl_tell_1 : decode prog_3_method_7_code 1 = .ok (.lookupswitch 37 #[(0, 27), (1, 32)], 27) := by decide +kernel
theorem d_Cl_tell_28 : decode prog_3_method_7_code 28 = .ok (.iload_n 0, 1) := by decide +kernel
theorem d_Cl_tell_29 : decode prog_3_method_7_code 29 = .ok (.invokestatic 11, 3) := by decide +kernel
theorem d_Cl_tell_32 : decode prog_3_method_7_code 32 = .ok (.ireturn, 1) := by decide +kernel
theorem d_Cl_tell_33 : decode prog_3_method_7_code 33 = .ok (.iload_n 0, 1) := by decide +kernel
theorem d_Cl_tell_34 : decode prog_3_method_7_code 34 = .ok (.invokestatic 15, 3) := by decide +kernel
theorem d_Cl_tell_37 : decode prog_3_method_7_code 37 = .ok (.ireturn, 1) := by decide +kernel
theorem d_Cl_tell_38 : decode prog_3_method_7_code 38 = .ok (.iload_n 0, 1) := by decide +kernel
theorem d_Cl_tell_39 : decode prog_3_method_7_code 39 = .ok (.invokestatic 18, 3) := by decide +kernel
theorem d_Cl_tell_42 : decode prog_3_method_7_code 42 = .ok (.ireturn, 1) := by decide +kernel
theorem mb_Cl_feastIn : MBs y_Cl_feastIn prog_3_method_6_code 2 (some .int) 1 := ⟨mT6 117 (by decide +kernel) (by decide +kernel), mT1 16 (by decide +kernel) (by decide +kernel), mT6 118 (by decide +kernel) (by decide +kernel), by decide, by decide +kernel, by decide +kernel, by decide +kernel⟩
theorem mb_Cl_rankIn : MBs y_Cl_rankIn prog_3_method_4_code 1 (some .int) 1 := ⟨mT6 27 (by decide +kernel) (by decide +kernel), mT1 16 (by decide +kernel) (by decide +kernel), mT6 28 (by decide +kernel) (by decide +kernel), by decide, by decide +kernel, by decide +kernel, by decide +kernel⟩
theorem lk_Cl_15 : Cond.methodLink "FeastBook$Claims" 15 y_Cl_rankIn ∈ TT := mT6 115 (by decide +kernel) (by decide +kernel)
theorem lk_Cl_18 : Cond.methodLink "FeastBook$Claims" 18 y_Cl_feastIn ∈ TT := mT6 116 (by decide +kernel) (by decide +kernel)
set_option maxHeartbeats 4000000 in
set_option maxRecDepth 100000 in
theorem c_Cl_tell {l : Launch} {D : va_G} {ad : Nat → Nat} {cA : Nat → ClassId} {sd sv : Nat → Nat} {h : Hp} {a0 a1 : Int} {out : Int} (hI : Inj97 ad) (hM : M_Cl_tell a0 a1 = some out) : Met l y_Cl_tell (.code y_Cl_tell prog_3_method_7_code 2 (some .int) :: TT) (rmD 2) (PC D ad cA sd sv h [.int (iZ a0), .int (iZ a1)]) (QR out) 0 0 (fun _ => False) := by
  unfold M_Cl_tell at hM
  refine entM (by decide +kernel) hI (Nat.le_of_ble_eq_true rfl) ?_
  intro p e s m args below meth c C hr hlk hP ls hl
  have C : Cx p s m args c prog_3_method_7_code 2 "FeastBook$Claims" D ad cA sd sv (FA ad) := C
  have hl : lv_has ls 2 [(0, .int (iZ a0)), (1, .int (iZ a1))] := hl
  refine m_iload_n C hl 1 d_Cl_tell_0 rfl rfl ?_
  refine m_swc 0 hM (fun ek hM => ?_) (fun hn0 hM => ?_)
  · refine lv_lookup C.1 C.2.1 d_Cl_tell_1 (tgt := 28) (off := 27) (by decide) (by rw [ek]; rfl) (by decide) ?_
    refine m_iload_n C hl 0 d_Cl_tell_28 rfl rfl ?_
    obtain ⟨x2, e1, hM⟩ := bnd_some hM
    refine aftR (runS C hP va_S.rf (c_Cl_kindIn hI e1) lk_Cl_11 mb_Cl_kindIn rfl ⟨Nat.le_of_ble_eq_true rfl, Nat.le_of_ble_eq_true rfl⟩ ⟨Nat.zero_le _, Nat.zero_le _⟩ (Nat.le_of_ble_eq_true rfl) d_Cl_tell_29 hl.1 (rest := []) rfl) ?_
    exact m_iretR C hr hlk hM d_Cl_tell_32
  · refine m_swc 1 hM (fun ek hM => ?_) (fun hn1 hM => ?_)
    · refine lv_lookup C.1 C.2.1 d_Cl_tell_1 (tgt := 33) (off := 32) (by decide) (by rw [ek]; rfl) (by decide) ?_
      refine m_iload_n C hl 0 d_Cl_tell_33 rfl rfl ?_
      obtain ⟨x4, e3, hM⟩ := bnd_some hM
      refine aftR (runS C hP va_S.rf (c_Cl_rankIn hI e3) lk_Cl_15 mb_Cl_rankIn rfl ⟨Nat.le_of_ble_eq_true rfl, Nat.le_of_ble_eq_true rfl⟩ ⟨Nat.zero_le _, Nat.zero_le _⟩ (Nat.le_of_ble_eq_true rfl) d_Cl_tell_34 hl.1 (rest := []) rfl) ?_
      exact m_iretR C hr hlk hM d_Cl_tell_37
    · refine lv_lookup C.1 C.2.1 d_Cl_tell_1 (tgt := 38) (off := 37) (by decide) ?_ (by decide) ?_
      · rw [lv_osw hn0 (show (iZ 0).toInt = 0 from rfl), lv_osw hn1 (show (iZ 1).toInt = 1 from rfl)]; rfl
      · refine m_iload_n C hl 0 d_Cl_tell_38 rfl rfl ?_
        obtain ⟨x6, e5, hM⟩ := bnd_some hM
        refine aftR (runS C hP va_S.rf (c_Cl_feastIn hI e5) lk_Cl_18 mb_Cl_feastIn rfl ⟨Nat.le_of_ble_eq_true rfl, Nat.le_of_ble_eq_true rfl⟩ ⟨Nat.zero_le _, Nat.zero_le _⟩ (Nat.le_of_ble_eq_true rfl) d_Cl_tell_39 hl.1 (rest := []) rfl) ?_
        exact m_iretR C hr hlk hM d_Cl_tell_42
def y_Past_dropOldest : MethodName := ⟨"FeastBook$Past", "dropOldest", "()V"⟩
theorem d_Past_dropOldest_0 : decode prog_5_method_3_code 0 = .ok (.aload_n 0, 1) := by decide +kernel
theorem d_Past_dropOldest_1 : decode prog_5_method_3_code 1 = .ok (.bipush 7, 2) := by decide +kernel
theorem d_Past_dropOldest_3 : decode prog_5_method_3_code 3 = .ok (.putfield 24, 3) := by decide +kernel
theorem d_Past_dropOldest_6 : decode prog_5_method_3_code 6 = .ok (.aload_n 0, 1) := by decide +kernel
theorem d_Past_dropOldest_7 : decode prog_5_method_3_code 7 = .ok (.getfield 9, 3) := by decide +kernel
theorem d_Past_dropOldest_10 : decode prog_5_method_3_code 10 = .ok (.iconst 1, 1) := by decide +kernel
theorem d_Past_dropOldest_11 : decode prog_5_method_3_code 11 = .ok (.aload_n 0, 1) := by decide +kernel
theorem d_Past_dropOldest_12 : decode prog_5_method_3_code 12 = .ok (.getfield 9, 3) := by decide +kernel
theorem d_Past_dropOldest_15 : decode prog_5_method_3_code 15 = .ok (.iconst 0, 1) := by decide +kernel
theorem d_Past_dropOldest_16 : decode prog_5_method_3_code 16 = .ok (.aload_n 0, 1) := by decide +kernel
theorem d_Past_dropOldest_17 : decode prog_5_method_3_code 17 = .ok (.getfield 24, 3) := by decide +kernel
theorem d_Past_dropOldest_20 : decode prog_5_method_3_code 20 = .ok (.invokestatic 31, 3) := by decide +kernel
theorem d_Past_dropOldest_23 : decode prog_5_method_3_code 23 = .ok (.aload_n 0, 1) := by decide +kernel
theorem d_Past_dropOldest_24 : decode prog_5_method_3_code 24 = .ok (.getfield 15, 3) := by decide +kernel
theorem d_Past_dropOldest_27 : decode prog_5_method_3_code 27 = .ok (.iconst 1, 1) := by decide +kernel
theorem d_Past_dropOldest_28 : decode prog_5_method_3_code 28 = .ok (.aload_n 0, 1) := by decide +kernel
theorem d_Past_dropOldest_29 : decode prog_5_method_3_code 29 = .ok (.getfield 15, 3) := by decide +kernel
theorem d_Past_dropOldest_32 : decode prog_5_method_3_code 32 = .ok (.iconst 0, 1) := by decide +kernel
theorem d_Past_dropOldest_33 : decode prog_5_method_3_code 33 = .ok (.aload_n 0, 1) := by decide +kernel
theorem d_Past_dropOldest_34 : decode prog_5_method_3_code 34 = .ok (.getfield 24, 3) := by decide +kernel
theorem d_Past_dropOldest_37 : decode prog_5_method_3_code 37 = .ok (.invokestatic 31, 3) := by decide +kernel
theorem d_Past_dropOldest_40 : decode prog_5_method_3_code 40 = .ok (.aload_n 0, 1) := by decide +kernel
theorem d_Past_dropOldest_41 : decode prog_5_method_3_code 41 = .ok (.getfield 18, 3) := by decide +kernel
theorem d_Past_dropOldest_44 : decode prog_5_method_3_code 44 = .ok (.iconst 1, 1) := by decide +kernel
theorem d_Past_dropOldest_45 : decode prog_5_method_3_code 45 = .ok (.aload_n 0, 1) := by decide +kernel
theorem d_Past_dropOldest_46 : decode prog_5_method_3_code 46 = .ok (.getfield 18, 3) := by decide +kernel
theorem d_Past_dropOldest_49 : decode prog_5_method_3_code 49 = .ok (.iconst 0, 1) := by decide +kernel
theorem d_Past_dropOldest_50 : decode prog_5_method_3_code 50 = .ok (.aload_n 0, 1) := by decide +kernel
theorem d_Past_dropOldest_51 : decode prog_5_method_3_code 51 = .ok (.getfield 24, 3) := by decide +kernel
theorem d_Past_dropOldest_54 : decode prog_5_method_3_code 54 = .ok (.invokestatic 31, 3) := by decide +kernel
theorem d_Past_dropOldest_57 : decode prog_5_method_3_code 57 = .ok (.aload_n 0, 1) := by decide +kernel
theorem d_Past_dropOldest_58 : decode prog_5_method_3_code 58 = .ok (.getfield 21, 3) := by decide +kernel
theorem d_Past_dropOldest_61 : decode prog_5_method_3_code 61 = .ok (.iconst 1, 1) := by decide +kernel
theorem d_Past_dropOldest_62 : decode prog_5_method_3_code 62 = .ok (.aload_n 0, 1) := by decide +kernel
theorem d_Past_dropOldest_63 : decode prog_5_method_3_code 63 = .ok (.getfield 21, 3) := by decide +kernel
theorem d_Past_dropOldest_66 : decode prog_5_method_3_code 66 = .ok (.iconst 0, 1) := by decide +kernel
theorem d_Past_dropOldest_67 : decode prog_5_method_3_code 67 = .ok (.aload_n 0, 1) := by decide +kernel
theorem d_Past_dropOldest_68 : decode prog_5_method_3_code 68 = .ok (.getfield 24, 3) := by decide +kernel
theorem d_Past_dropOldest_71 : decode prog_5_method_3_code 71 = .ok (.invokestatic 31, 3) := by decide +kernel
theorem d_Past_dropOldest_74 : decode prog_5_method_3_code 74 = .ok (.return_, 1) := by decide +kernel
theorem fk_Past_15 : Cond.fieldLink "FeastBook$Past" 15 (T_Past 2).1 (T_Past 2).2.1 (T_Past 2).2.2.1 ∈ TT := mT2 41 (by decide +kernel) (by decide +kernel)
theorem fk_Past_18 : Cond.fieldLink "FeastBook$Past" 18 (T_Past 3).1 (T_Past 3).2.1 (T_Past 3).2.2.1 ∈ TT := mT2 43 (by decide +kernel) (by decide +kernel)
theorem fk_Past_21 : Cond.fieldLink "FeastBook$Past" 21 (T_Past 4).1 (T_Past 4).2.1 (T_Past 4).2.2.1 ∈ TT := mT2 45 (by decide +kernel) (by decide +kernel)
theorem fk_Past_24 : Cond.fieldLink "FeastBook$Past" 24 (T_Past 0).1 (T_Past 0).2.1 (T_Past 0).2.2.1 ∈ TT := mT2 37 (by decide +kernel) (by decide +kernel)
theorem fk_Past_9 : Cond.fieldLink "FeastBook$Past" 9 (T_Past 1).1 (T_Past 1).2.1 (T_Past 1).2.2.1 ∈ TT := mT2 39 (by decide +kernel) (by decide +kernel)
theorem lk_Past_31 : Cond.methodLink "FeastBook$Past" 31 arraycopyName ∈ TT := mT6 199 (by decide +kernel) (by decide +kernel)
set_option maxHeartbeats 4000000 in
set_option maxRecDepth 100000 in
theorem c_Past_dropOldest {l : Launch} {D : va_G} {ad : Nat → Nat} {cA : Nat → ClassId} {sd sv : Nat → Nat} {h : Hp} {out : Hp} (hI : Inj97 ad) (hM : M_Past_dropOldest h = some out) : Met l y_Past_dropOldest (.code y_Past_dropOldest prog_5_method_3_code 1 none :: TT) (rmD 1) (PC D ad cA sd sv h [.ref (ad 61)]) (QV D ad cA out) 0 0 (FA ad) := by
  unfold M_Past_dropOldest at hM
  refine entM (by decide +kernel) hI (Nat.le_of_ble_eq_true rfl) ?_
  intro p e s m args below meth c C hr hlk hP ls hl
  have C : Cx p s m args c prog_5_method_3_code 1 "FeastBook$Past" D ad cA sd sv (FA ad) := C
  have hl : lv_has ls 1 [(0, .ref (ad 61))] := hl
  have w : Wd s D ad cA (FA ad) h s.heap [] := ⟨hP, va_S.rf⟩
  refine m_aload_n C hl 0 d_Past_dropOldest_0 rfl rfl ?_
  refine m_bipush C d_Past_dropOldest_1 (by decide) ?_
  refine m_puti C w kc_Past sh_61 (Nat.le_of_ble_eq_true rfl) 0 hM rfl (by decide) rfl rfl fk_Past_24 d_Past_dropOldest_3 (fun h1 H locs w hM => ?_)
  refine m_aload_n C hl 0 d_Past_dropOldest_6 rfl rfl ?_
  refine m_getr C w.1 kc_Past sh_61 (Nat.le_of_ble_eq_true rfl) 1 62 rfl (by decide) fk_Past_9 d_Past_dropOldest_7 ?_
  refine m_iconst C d_Past_dropOldest_10 ?_
  refine m_aload_n C hl 0 d_Past_dropOldest_11 rfl rfl ?_
  refine m_getr C w.1 kc_Past sh_61 (Nat.le_of_ble_eq_true rfl) 1 62 rfl (by decide) fk_Past_9 d_Past_dropOldest_12 ?_
  refine m_iconst C d_Past_dropOldest_15 ?_
  refine m_aload_n C hl 0 d_Past_dropOldest_16 rfl rfl ?_
  refine m_geti C w.1 kc_Past sh_61 (Nat.le_of_ble_eq_true rfl) 0 rfl (by decide) fk_Past_24 d_Past_dropOldest_17 ?_
  refine m_cpy C w sh_62 (Nat.le_of_ble_eq_true rfl) sh_62 (Nat.le_of_ble_eq_true rfl) (Nat.le_of_ble_eq_true rfl) (Nat.le_of_ble_eq_true rfl) hM lk_Past_31 hl.1 (Nat.le_of_ble_eq_true rfl) (Nat.le_of_ble_eq_true rfl) d_Past_dropOldest_20 (fun h2 H locs w hM => ?_)
  refine m_aload_n C hl 0 d_Past_dropOldest_23 rfl rfl ?_
  refine m_getr C w.1 kc_Past sh_61 (Nat.le_of_ble_eq_true rfl) 2 63 rfl (by decide) fk_Past_15 d_Past_dropOldest_24 ?_
  refine m_iconst C d_Past_dropOldest_27 ?_
  refine m_aload_n C hl 0 d_Past_dropOldest_28 rfl rfl ?_
  refine m_getr C w.1 kc_Past sh_61 (Nat.le_of_ble_eq_true rfl) 2 63 rfl (by decide) fk_Past_15 d_Past_dropOldest_29 ?_
  refine m_iconst C d_Past_dropOldest_32 ?_
  refine m_aload_n C hl 0 d_Past_dropOldest_33 rfl rfl ?_
  refine m_geti C w.1 kc_Past sh_61 (Nat.le_of_ble_eq_true rfl) 0 rfl (by decide) fk_Past_24 d_Past_dropOldest_34 ?_
  refine m_cpy C w sh_63 (Nat.le_of_ble_eq_true rfl) sh_63 (Nat.le_of_ble_eq_true rfl) (Nat.le_of_ble_eq_true rfl) (Nat.le_of_ble_eq_true rfl) hM lk_Past_31 hl.1 (Nat.le_of_ble_eq_true rfl) (Nat.le_of_ble_eq_true rfl) d_Past_dropOldest_37 (fun h3 H locs w hM => ?_)
  refine m_aload_n C hl 0 d_Past_dropOldest_40 rfl rfl ?_
  refine m_getr C w.1 kc_Past sh_61 (Nat.le_of_ble_eq_true rfl) 3 64 rfl (by decide) fk_Past_18 d_Past_dropOldest_41 ?_
  refine m_iconst C d_Past_dropOldest_44 ?_
  refine m_aload_n C hl 0 d_Past_dropOldest_45 rfl rfl ?_
  refine m_getr C w.1 kc_Past sh_61 (Nat.le_of_ble_eq_true rfl) 3 64 rfl (by decide) fk_Past_18 d_Past_dropOldest_46 ?_
  refine m_iconst C d_Past_dropOldest_49 ?_
  refine m_aload_n C hl 0 d_Past_dropOldest_50 rfl rfl ?_
  refine m_geti C w.1 kc_Past sh_61 (Nat.le_of_ble_eq_true rfl) 0 rfl (by decide) fk_Past_24 d_Past_dropOldest_51 ?_
  refine m_cpy C w sh_64 (Nat.le_of_ble_eq_true rfl) sh_64 (Nat.le_of_ble_eq_true rfl) (Nat.le_of_ble_eq_true rfl) (Nat.le_of_ble_eq_true rfl) hM lk_Past_31 hl.1 (Nat.le_of_ble_eq_true rfl) (Nat.le_of_ble_eq_true rfl) d_Past_dropOldest_54 (fun h4 H locs w hM => ?_)
  refine m_aload_n C hl 0 d_Past_dropOldest_57 rfl rfl ?_
  refine m_getr C w.1 kc_Past sh_61 (Nat.le_of_ble_eq_true rfl) 4 65 rfl (by decide) fk_Past_21 d_Past_dropOldest_58 ?_
  refine m_iconst C d_Past_dropOldest_61 ?_
  refine m_aload_n C hl 0 d_Past_dropOldest_62 rfl rfl ?_
  refine m_getr C w.1 kc_Past sh_61 (Nat.le_of_ble_eq_true rfl) 4 65 rfl (by decide) fk_Past_21 d_Past_dropOldest_63 ?_
  refine m_iconst C d_Past_dropOldest_66 ?_
  refine m_aload_n C hl 0 d_Past_dropOldest_67 rfl rfl ?_
  refine m_geti C w.1 kc_Past sh_61 (Nat.le_of_ble_eq_true rfl) 0 rfl (by decide) fk_Past_24 d_Past_dropOldest_68 ?_
  refine m_cpy C w sh_65 (Nat.le_of_ble_eq_true rfl) sh_65 (Nat.le_of_ble_eq_true rfl) (Nat.le_of_ble_eq_true rfl) (Nat.le_of_ble_eq_true rfl) hM lk_Past_31 hl.1 (Nat.le_of_ble_eq_true rfl) (Nat.le_of_ble_eq_true rfl) d_Past_dropOldest_71 (fun h5 H locs w hM => ?_)
  exact m_vretW C w hr hlk hM d_Past_dropOldest_74
def y_Past_remember : MethodName := ⟨"FeastBook$Past", "remember", "(IIII)V"⟩
theorem d_Past_remember_0 : decode prog_5_method_2_code 0 = .ok (.aload_n 0, 1) := by decide +kernel
theorem d_Past_remember_1 : decode prog_5_method_2_code 1 = .ok (.getfield 24, 3) := by decide +kernel
theorem d_Past_remember_4 : decode prog_5_method_2_code 4 = .ok (.bipush 8, 2) := by decide +kernel
theorem d_Past_remember_6 : decode prog_5_method_2_code 6 = .ok (.if_icmp .lt 7, 3) := by decide +kernel
theorem d_Past_remember_9 : decode prog_5_method_2_code 9 = .ok (.aload_n 0, 1) := by decide +kernel
theorem d_Past_remember_10 : decode prog_5_method_2_code 10 = .ok (.invokevirtual 28, 3) := by decide +kernel
theorem d_Past_remember_13 : decode prog_5_method_2_code 13 = .ok (.aload_n 0, 1) := by decide +kernel
theorem d_Past_remember_14 : decode prog_5_method_2_code 14 = .ok (.getfield 9, 3) := by decide +kernel
theorem d_Past_remember_17 : decode prog_5_method_2_code 17 = .ok (.aload_n 0, 1) := by decide +kernel
theorem d_Past_remember_18 : decode prog_5_method_2_code 18 = .ok (.getfield 24, 3) := by decide +kernel
theorem d_Past_remember_21 : decode prog_5_method_2_code 21 = .ok (.iload_n 1, 1) := by decide +kernel
theorem d_Past_remember_22 : decode prog_5_method_2_code 22 = .ok (.iastore, 1) := by decide +kernel
theorem d_Past_remember_23 : decode prog_5_method_2_code 23 = .ok (.aload_n 0, 1) := by decide +kernel
theorem d_Past_remember_24 : decode prog_5_method_2_code 24 = .ok (.getfield 15, 3) := by decide +kernel
theorem d_Past_remember_27 : decode prog_5_method_2_code 27 = .ok (.aload_n 0, 1) := by decide +kernel
theorem d_Past_remember_28 : decode prog_5_method_2_code 28 = .ok (.getfield 24, 3) := by decide +kernel
theorem d_Past_remember_31 : decode prog_5_method_2_code 31 = .ok (.iload_n 2, 1) := by decide +kernel
theorem d_Past_remember_32 : decode prog_5_method_2_code 32 = .ok (.iastore, 1) := by decide +kernel
theorem d_Past_remember_33 : decode prog_5_method_2_code 33 = .ok (.aload_n 0, 1) := by decide +kernel
theorem d_Past_remember_34 : decode prog_5_method_2_code 34 = .ok (.getfield 18, 3) := by decide +kernel
theorem d_Past_remember_37 : decode prog_5_method_2_code 37 = .ok (.aload_n 0, 1) := by decide +kernel
theorem d_Past_remember_38 : decode prog_5_method_2_code 38 = .ok (.getfield 24, 3) := by decide +kernel
theorem d_Past_remember_41 : decode prog_5_method_2_code 41 = .ok (.iload_n 3, 1) := by decide +kernel
theorem d_Past_remember_42 : decode prog_5_method_2_code 42 = .ok (.iastore, 1) := by decide +kernel
theorem d_Past_remember_43 : decode prog_5_method_2_code 43 = .ok (.aload_n 0, 1) := by decide +kernel
theorem d_Past_remember_44 : decode prog_5_method_2_code 44 = .ok (.getfield 21, 3) := by decide +kernel
theorem d_Past_remember_47 : decode prog_5_method_2_code 47 = .ok (.aload_n 0, 1) := by decide +kernel
theorem d_Past_remember_48 : decode prog_5_method_2_code 48 = .ok (.getfield 24, 3) := by decide +kernel
theorem d_Past_remember_51 : decode prog_5_method_2_code 51 = .ok (.iload 4, 2) := by decide +kernel
theorem d_Past_remember_53 : decode prog_5_method_2_code 53 = .ok (.iastore, 1) := by decide +kernel
theorem d_Past_remember_54 : decode prog_5_method_2_code 54 = .ok (.aload_n 0, 1) := by decide +kernel
theorem d_Past_remember_55 : decode prog_5_method_2_code 55 = .ok (.dup, 1) := by decide +kernel
theorem d_Past_remember_56 : decode prog_5_method_2_code 56 = .ok (.getfield 24, 3) := by decide +kernel
theorem d_Past_remember_59 : decode prog_5_method_2_code 59 = .ok (.iconst 1, 1) := by decide +kernel
theorem d_Past_remember_60 : decode prog_5_method_2_code 60 = .ok (.iadd, 1) := by decide +kernel
theorem d_Past_remember_61 : decode prog_5_method_2_code 61 = .ok (.putfield 24, 3) := by decide +kernel
theorem d_Past_remember_64 : decode prog_5_method_2_code 64 = .ok (.return_, 1) := by decide +kernel
theorem mb_Past_dropOldest : MBv R_Past y_Past_dropOldest prog_5_method_3_code 1 none 0 := ⟨mT6 196 (by decide +kernel) (by decide +kernel), mT6 197 (by decide +kernel) (by decide +kernel), mT1 7 (by decide +kernel) (by decide +kernel), mT6 198 (by decide +kernel) (by decide +kernel), by decide, rfl, by decide +kernel, by decide +kernel, by decide +kernel⟩
theorem lk_Past_28 : Cond.methodLink "FeastBook$Past" 28 y_Past_dropOldest ∈ TT := mT6 195 (by decide +kernel) (by decide +kernel)
set_option maxHeartbeats 4000000 in
set_option maxRecDepth 100000 in
theorem c_Past_remember {l : Launch} {D : va_G} {ad : Nat → Nat} {cA : Nat → ClassId} {sd sv : Nat → Nat} {h : Hp} {a1 a2 a3 a4 : Int} {out : Hp} (hI : Inj97 ad) (hM : M_Past_remember h a1 a2 a3 a4 = some out) : Met l y_Past_remember (.code y_Past_remember prog_5_method_2_code 5 none :: TT) (rmD 2) (PC D ad cA sd sv h [.ref (ad 61), .int (iZ a1), .int (iZ a2), .int (iZ a3), .int (iZ a4)]) (QV D ad cA out) 0 0 (FA ad) := by
  unfold M_Past_remember at hM
  refine entM (by decide +kernel) hI (Nat.le_of_ble_eq_true rfl) ?_
  intro p e s m args below meth c C hr hlk hP ls hl
  have C : Cx p s m args c prog_5_method_2_code 5 "FeastBook$Past" D ad cA sd sv (FA ad) := C
  have hl : lv_has ls 5 [(0, .ref (ad 61)), (1, .int (iZ a1)), (2, .int (iZ a2)), (3, .int (iZ a3)), (4, .int (iZ a4))] := hl
  have w : Wd s D ad cA (FA ad) h s.heap [] := ⟨hP, va_S.rf⟩
  refine m_aload_n C hl 0 d_Past_remember_0 rfl rfl ?_
  refine m_geti C w.1 kc_Past sh_61 (Nat.le_of_ble_eq_true rfl) 0 rfl (by decide) fk_Past_24 d_Past_remember_1 ?_
  refine m_bipush C d_Past_remember_4 (by decide) ?_
  refine lt_join hM (fun j3 ej hM => ?_)
  have hJ3 : ∀ (h_3 : Hp), j3 h_3 = some out → ∀ (H : Heap) (locs : List Loc), Wd s D ad cA (FA ad) h_3 H locs → ∀ ls : Array Slot, lv_has ls 5 [(0, .ref (ad 61)), (1, .int (iZ a1)), (2, .int (iZ a2)), (3, .int (iZ a3)), (4, .int (iZ a4))] → W p l e (rmD 2) s m args below meth c H locs 0 0 (MQ below (QV D ad cA out) args s 0 0 (FA ad)) (F0 m 13 ls []) := by
    intro h_3 hM H locs w ls hl
    subst ej
    dsimp only at hM
    refine m_aload_n C hl 0 d_Past_remember_13 rfl rfl ?_
    refine m_getr C w.1 kc_Past sh_61 (Nat.le_of_ble_eq_true rfl) 1 62 rfl (by decide) fk_Past_9 d_Past_remember_14 ?_
    refine m_aload_n C hl 0 d_Past_remember_17 rfl rfl ?_
    refine m_geti C w.1 kc_Past sh_61 (Nat.le_of_ble_eq_true rfl) 0 rfl (by decide) fk_Past_24 d_Past_remember_18 ?_
    refine m_iload_n C hl 1 d_Past_remember_21 rfl rfl ?_
    refine m_iast C w sh_62 (Nat.le_of_ble_eq_true rfl) (Nat.le_of_ble_eq_true rfl) hM d_Past_remember_22 (fun h4 H locs w hM => ?_)
    refine m_aload_n C hl 0 d_Past_remember_23 rfl rfl ?_
    refine m_getr C w.1 kc_Past sh_61 (Nat.le_of_ble_eq_true rfl) 2 63 rfl (by decide) fk_Past_15 d_Past_remember_24 ?_
    refine m_aload_n C hl 0 d_Past_remember_27 rfl rfl ?_
    refine m_geti C w.1 kc_Past sh_61 (Nat.le_of_ble_eq_true rfl) 0 rfl (by decide) fk_Past_24 d_Past_remember_28 ?_
    refine m_iload_n C hl 2 d_Past_remember_31 rfl rfl ?_
    refine m_iast C w sh_63 (Nat.le_of_ble_eq_true rfl) (Nat.le_of_ble_eq_true rfl) hM d_Past_remember_32 (fun h5 H locs w hM => ?_)
    refine m_aload_n C hl 0 d_Past_remember_33 rfl rfl ?_
    refine m_getr C w.1 kc_Past sh_61 (Nat.le_of_ble_eq_true rfl) 3 64 rfl (by decide) fk_Past_18 d_Past_remember_34 ?_
    refine m_aload_n C hl 0 d_Past_remember_37 rfl rfl ?_
    refine m_geti C w.1 kc_Past sh_61 (Nat.le_of_ble_eq_true rfl) 0 rfl (by decide) fk_Past_24 d_Past_remember_38 ?_
    refine m_iload_n C hl 3 d_Past_remember_41 rfl rfl ?_
    refine m_iast C w sh_64 (Nat.le_of_ble_eq_true rfl) (Nat.le_of_ble_eq_true rfl) hM d_Past_remember_42 (fun h6 H locs w hM => ?_)
    refine m_aload_n C hl 0 d_Past_remember_43 rfl rfl ?_
    refine m_getr C w.1 kc_Past sh_61 (Nat.le_of_ble_eq_true rfl) 4 65 rfl (by decide) fk_Past_21 d_Past_remember_44 ?_
    refine m_aload_n C hl 0 d_Past_remember_47 rfl rfl ?_
    refine m_geti C w.1 kc_Past sh_61 (Nat.le_of_ble_eq_true rfl) 0 rfl (by decide) fk_Past_24 d_Past_remember_48 ?_
    refine m_iload C hl 4 d_Past_remember_51 rfl ?_
    refine m_iast C w sh_65 (Nat.le_of_ble_eq_true rfl) (Nat.le_of_ble_eq_true rfl) hM d_Past_remember_53 (fun h7 H locs w hM => ?_)
    refine m_aload_n C hl 0 d_Past_remember_54 rfl rfl ?_
    refine m_dup C d_Past_remember_55 rfl ?_
    refine m_geti C w.1 kc_Past sh_61 (Nat.le_of_ble_eq_true rfl) 0 rfl (by decide) fk_Past_24 d_Past_remember_56 ?_
    refine m_iconst C d_Past_remember_59 ?_
    refine m_iadd C d_Past_remember_60 ?_
    refine m_puti C w kc_Past sh_61 (Nat.le_of_ble_eq_true rfl) 0 hM rfl (by decide) rfl rfl fk_Past_24 d_Past_remember_61 (fun h8 H locs w hM => ?_)
    exact m_vretW C w hr hlk hM d_Past_remember_64
  refine m_icmp_lt C hM 13 d_Past_remember_6 (by decide) (fun hM => ?_) (fun hM => ?_)
  · exact hJ3 h hM _ _ w _ hl
  · refine m_aload_n C hl 0 d_Past_remember_9 rfl rfl ?_
    obtain ⟨h10, e9, hM⟩ := bnd_some hM
    refine aftV C w (runV C w.1 w.2 kc_Past sh_61 (Nat.le_of_ble_eq_true rfl) (c_Past_dropOldest hI e9) lk_Past_28 mb_Past_dropOldest rfl ⟨Nat.le_of_ble_eq_true rfl, Nat.le_of_ble_eq_true rfl⟩ ⟨Nat.zero_le _, Nat.zero_le _⟩ (Nat.le_of_ble_eq_true rfl) d_Past_remember_10 hl.1 (rest := []) rfl) (fun H locs w => ?_)
    exact hJ3 h10 hM _ _ w _ hl

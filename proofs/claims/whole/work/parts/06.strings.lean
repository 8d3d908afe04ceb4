section MS
variable {p : Program} {l : Launch} {e : Env} {R : Room} {s : State} {m : MethodId} {args : Array Value} {below : List Frame} {meth : Method} {c : Code} {H : Heap} {locs : List Loc} {cells slots : Nat} {Q : State → Prop}
variable {cc : ByteArray} {nL pc : Nat} {ls : Array Slot} {rest : List Value} {own : String} {D : va_G} {ad : Nat → Nat} {cA : Nat → ClassId} {sd sv : Nat → Nat} {A : Nat → Prop} {h : Hp}
theorem tx_len : ∀ t, t < 36 → (byS.getD t []).length = (txS t).length ∧ (txS t).length < 100 := by decide +kernel
theorem tx_val : ∀ t, t < 36 → ∀ i, i < (txS t).length → (((byS.getD t []).getD i 0 &&& 255).toUInt32 % 65536).toInt32 = iZ ((txS t).getD i 0) ∧ narrow .char (.int (iZ ((txS t).getD i 0))) = .int (iZ ((txS t).getD i 0)) := by decide +kernel
theorem runVS (C : Cx p s m args c cc nL own D ad cA sd sv A) (hP : va_P D clL (wl ad cA h) H) (hS : va_S A s.heap H locs) {t n idx maxL d' : Nat} (ht : t < 36) {y : MethodName} {bytes : ByteArray} {ret : Option FieldType} {As : List Value} {Qc : Array Value → State → Outcome → State → Prop} {free : Addr → Prop}
    (hMet : Met l y (.code y bytes maxL ret :: TT) (rmD d') (PC D ad cA sd sv h (.ref (sd t) :: As)) Qc 0 0 free) (hl : Cond.methodLink own idx y ∈ TT) (hb : MBv "java/lang/String" y bytes maxL ret n) (hn : As.length = n) (hR : d' + 1 ≤ R.frames ∧ 40 * (d' + 1) ≤ R.locals) (hcs : cells ≤ R.cells ∧ slots ≤ R.slots) (hcat : (rest.map fun v => v.category).sum ≤ 8) (d : decode cc pc = .ok (.invokevirtual idx, 3)) (hsz : ls.size = nL) {st : List Value} (hst : st = As.reverse ++ .ref (sd t) :: rest) :
    va_Run p l e R s m args below meth c H locs cells slots 0 0 (F0 m pc ls st) rest (Qc (Value.ref (sd t) :: As).toArray) free :=
  va_runV (As := As) (rest := rest) ⟨C.1, C.2.1, C.2.2.1, C.2.2.2.1, C.2.2.2.2.1⟩ hMet (cwV n C.2.2.2.2.1 (good_V hl hb) rfl rfl rfl ⟨hb.2.2.2.2.2.1, hb.2.2.2.2.2.2.1, hb.2.2.2.2.2.2.2⟩ ⟨hR.1, by have := hb.2.2.2.2.1; have := hR.2; show 8 + (maxL + 11) + 40 * d' ≤ _; omega⟩) ⟨PC.blind, vk_recv (i := 0) (C.2.2.2.2.2.2.2.1 t ht) (by decide) hS, fun U hU hW => ⟨rfl, by rw [hU]; exact hP, va_K.moved hW.alike C.2.2.2.2.2.1, C.2.2.2.2.2.2.2.to hS hW hU (FA_A C)⟩⟩ rfl hn hsz hst (lv_room hcat) d ⟨hcs.1, hcs.2⟩
theorem m_ldcS (C : Cx p s m args c cc nL own D ad cA sd sv A) (t : Nat) {idx : Nat} {tx : String} (ht : t < 46) (hs : stA t = (own, idx, tx)) (d : decode cc pc = .ok (.ldc idx, 2)) (k : W p l e R s m args below meth c H locs cells slots Q (F0 m (pc + 2) ls (.ref (sd t) :: rest))) : W p l e R s m args below meth c H locs cells slots Q (F0 m pc ls rest) :=
  va_ldcS (tx := tx) C.1 C.2.1 C.2.2.2.1 (by have := C.2.2.2.2.2.2.2.2.1 t ht; rw [hs] at this; exact this) d k
theorem m_ldcSW (C : Cx p s m args c cc nL own D ad cA sd sv A) (t : Nat) {idx : Nat} {tx : String} (ht : t < 46) (hs : stA t = (own, idx, tx)) (d : decode cc pc = .ok (.ldc_w idx, 3)) (k : W p l e R s m args below meth c H locs cells slots Q (F0 m (pc + 3) ls (.ref (sd t) :: rest))) : W p l e R s m args below meth c H locs cells slots Q (F0 m pc ls rest) := by
  have hZ := C.2.2.2.2.2.2.2.2.1 t ht
  rw [hs] at hZ
  intro T hT X
  obtain ⟨t1, a1, b1⟩ := k T hT X
  exact ⟨t1, X.ldcStringW C.1 C.2.2.2.1 (text := tx) (a := sd t) hZ.1 hZ.2 (g := F0 m pc ls rest) rfl (by rw [C.2.1]; exact d) t1 a1, b1⟩
end MS
def y_Scoder : MethodName := ⟨"java/lang/String", "coder", "()B"⟩
theorem d_Scoder_0 : decode prog_29_method_152_code 0 = .ok (.getstatic 38, 3) := by decide +kernel
theorem d_Scoder_3 : decode prog_29_method_152_code 3 = .ok (.ifCond .eq 10, 3) := by decide +kernel
theorem d_Scoder_6 : decode prog_29_method_152_code 6 = .ok (.aload_n 0, 1) := by decide +kernel
theorem d_Scoder_7 : decode prog_29_method_152_code 7 = .ok (.getfield 15, 3) := by decide +kernel
theorem d_Scoder_10 : decode prog_29_method_152_code 10 = .ok (.goto 4, 3) := by decide +kernel
theorem d_Scoder_13 : decode prog_29_method_152_code 13 = .ok (.iconst 1, 1) := by decide +kernel
theorem d_Scoder_14 : decode prog_29_method_152_code 14 = .ok (.ireturn, 1) := by decide +kernel
theorem mb_Scoder : MBv "java/lang/String" y_Scoder prog_29_method_152_code 1 (some .byte) 0 := ⟨mT3 108 (by decide +kernel) (by decide +kernel), mT3 109 (by decide +kernel) (by decide +kernel), mT1 11 (by decide +kernel) (by decide +kernel), mT3 110 (by decide +kernel) (by decide +kernel), by decide, rfl, by decide +kernel, by decide +kernel, by decide +kernel⟩
def y_SisL : MethodName := ⟨"java/lang/String", "isLatin1", "()Z"⟩
theorem d_SisL_0 : decode prog_29_method_154_code 0 = .ok (.getstatic 38, 3) := by decide +kernel
theorem d_SisL_3 : decode prog_29_method_154_code 3 = .ok (.ifCond .eq 14, 3) := by decide +kernel
theorem d_SisL_6 : decode prog_29_method_154_code 6 = .ok (.aload_n 0, 1) := by decide +kernel
theorem d_SisL_7 : decode prog_29_method_154_code 7 = .ok (.getfield 15, 3) := by decide +kernel
theorem d_SisL_10 : decode prog_29_method_154_code 10 = .ok (.ifCond .ne 7, 3) := by decide +kernel
theorem d_SisL_13 : decode prog_29_method_154_code 13 = .ok (.iconst 1, 1) := by decide +kernel
theorem d_SisL_14 : decode prog_29_method_154_code 14 = .ok (.goto 4, 3) := by decide +kernel
theorem d_SisL_17 : decode prog_29_method_154_code 17 = .ok (.iconst 0, 1) := by decide +kernel
theorem d_SisL_18 : decode prog_29_method_154_code 18 = .ok (.ireturn, 1) := by decide +kernel
theorem mb_SisL : MBv "java/lang/String" y_SisL prog_29_method_154_code 1 (some .boolean) 0 := ⟨mT3 118 (by decide +kernel) (by decide +kernel), mT3 119 (by decide +kernel) (by decide +kernel), mT1 11 (by decide +kernel) (by decide +kernel), mT3 120 (by decide +kernel) (by decide +kernel), by decide, rfl, by decide +kernel, by decide +kernel, by decide +kernel⟩
def y_Slen : MethodName := ⟨"java/lang/String", "length", "()I"⟩
theorem d_Slen_0 : decode prog_29_method_54_code 0 = .ok (.aload_n 0, 1) := by decide +kernel
theorem d_Slen_1 : decode prog_29_method_54_code 1 = .ok (.getfield 9, 3) := by decide +kernel
theorem d_Slen_4 : decode prog_29_method_54_code 4 = .ok (.arraylength, 1) := by decide +kernel
theorem d_Slen_5 : decode prog_29_method_54_code 5 = .ok (.aload_n 0, 1) := by decide +kernel
theorem d_Slen_6 : decode prog_29_method_54_code 6 = .ok (.invokevirtual 335, 3) := by decide +kernel
theorem d_Slen_9 : decode prog_29_method_54_code 9 = .ok (.ishr, 1) := by decide +kernel
theorem d_Slen_10 : decode prog_29_method_54_code 10 = .ok (.ireturn, 1) := by decide +kernel
theorem mb_Slen : MBv "java/lang/String" y_Slen prog_29_method_54_code 1 (some .int) 0 := ⟨mT3 104 (by decide +kernel) (by decide +kernel), mT3 105 (by decide +kernel) (by decide +kernel), mT1 11 (by decide +kernel) (by decide +kernel), mT3 106 (by decide +kernel) (by decide +kernel), by decide, rfl, by decide +kernel, by decide +kernel, by decide +kernel⟩
def y_Spci : MethodName := ⟨"jdk/internal/util/Preconditions", "checkIndex", "(IILjava/util/function/BiFunction;)I"⟩
theorem d_Spci_0 : decode prog_40_method_11_code 0 = .ok (.iload_n 0, 1) := by decide +kernel
theorem d_Spci_1 : decode prog_40_method_11_code 1 = .ok (.ifCond .lt 8, 3) := by decide +kernel
theorem d_Spci_4 : decode prog_40_method_11_code 4 = .ok (.iload_n 0, 1) := by decide +kernel
theorem d_Spci_5 : decode prog_40_method_11_code 5 = .ok (.iload_n 1, 1) := by decide +kernel
theorem d_Spci_6 : decode prog_40_method_11_code 6 = .ok (.if_icmp .lt 10, 3) := by decide +kernel
theorem d_Spci_9 : decode prog_40_method_11_code 9 = .ok (.aload_n 2, 1) := by decide +kernel
theorem d_Spci_10 : decode prog_40_method_11_code 10 = .ok (.iload_n 0, 1) := by decide +kernel
theorem d_Spci_11 : decode prog_40_method_11_code 11 = .ok (.iload_n 1, 1) := by decide +kernel
theorem d_Spci_12 : decode prog_40_method_11_code 12 = .ok (.invokestatic 95, 3) := by decide +kernel
theorem d_Spci_15 : decode prog_40_method_11_code 15 = .ok (.athrow, 1) := by decide +kernel
theorem d_Spci_16 : decode prog_40_method_11_code 16 = .ok (.iload_n 0, 1) := by decide +kernel
theorem d_Spci_17 : decode prog_40_method_11_code 17 = .ok (.ireturn, 1) := by decide +kernel
theorem mb_Spci : MBs y_Spci prog_40_method_11_code 3 (some .int) 3 := ⟨mT3 130 (by decide +kernel) (by decide +kernel), mT1 13 (by decide +kernel) (by decide +kernel), mT3 131 (by decide +kernel) (by decide +kernel), by decide, by decide +kernel, by decide +kernel, by decide +kernel⟩
def y_Ssci : MethodName := ⟨"java/lang/String", "checkIndex", "(II)V"⟩
theorem d_Ssci_0 : decode prog_29_method_155_code 0 = .ok (.iload_n 0, 1) := by decide +kernel
theorem d_Ssci_1 : decode prog_29_method_155_code 1 = .ok (.iload_n 1, 1) := by decide +kernel
theorem d_Ssci_2 : decode prog_29_method_155_code 2 = .ok (.getstatic 1053, 3) := by decide +kernel
theorem d_Ssci_5 : decode prog_29_method_155_code 5 = .ok (.invokestatic 1059, 3) := by decide +kernel
theorem d_Ssci_8 : decode prog_29_method_155_code 8 = .ok (.pop, 1) := by decide +kernel
theorem d_Ssci_9 : decode prog_29_method_155_code 9 = .ok (.return_, 1) := by decide +kernel
theorem mb_Ssci : MBs y_Ssci prog_29_method_155_code 2 none 2 := ⟨mT3 125 (by decide +kernel) (by decide +kernel), mT1 11 (by decide +kernel) (by decide +kernel), mT3 126 (by decide +kernel) (by decide +kernel), by decide, by decide +kernel, by decide +kernel, by decide +kernel⟩
def y_Slca : MethodName := ⟨"java/lang/StringLatin1", "charAt", "([BI)C"⟩
theorem d_Slca_0 : decode prog_31_method_2_code 0 = .ok (.iload_n 1, 1) := by decide +kernel
theorem d_Slca_1 : decode prog_31_method_2_code 1 = .ok (.aload_n 0, 1) := by decide +kernel
theorem d_Slca_2 : decode prog_31_method_2_code 2 = .ok (.arraylength, 1) := by decide +kernel
theorem d_Slca_3 : decode prog_31_method_2_code 3 = .ok (.invokestatic 9, 3) := by decide +kernel
theorem d_Slca_6 : decode prog_31_method_2_code 6 = .ok (.aload_n 0, 1) := by decide +kernel
theorem d_Slca_7 : decode prog_31_method_2_code 7 = .ok (.iload_n 1, 1) := by decide +kernel
theorem d_Slca_8 : decode prog_31_method_2_code 8 = .ok (.baload, 1) := by decide +kernel
theorem d_Slca_9 : decode prog_31_method_2_code 9 = .ok (.sipush 255, 3) := by decide +kernel
theorem d_Slca_12 : decode prog_31_method_2_code 12 = .ok (.iand, 1) := by decide +kernel
theorem d_Slca_13 : decode prog_31_method_2_code 13 = .ok (.i2c, 1) := by decide +kernel
theorem d_Slca_14 : decode prog_31_method_2_code 14 = .ok (.ireturn, 1) := by decide +kernel
theorem mb_Slca : MBs y_Slca prog_31_method_2_code 2 (some .char) 2 := ⟨mT3 122 (by decide +kernel) (by decide +kernel), mT1 12 (by decide +kernel) (by decide +kernel), mT3 123 (by decide +kernel) (by decide +kernel), by decide, by decide +kernel, by decide +kernel, by decide +kernel⟩
def y_Sca : MethodName := ⟨"java/lang/String", "charAt", "(I)C"⟩
theorem d_Sca_0 : decode prog_29_method_56_code 0 = .ok (.aload_n 0, 1) := by decide +kernel
theorem d_Sca_1 : decode prog_29_method_56_code 1 = .ok (.invokevirtual 492, 3) := by decide +kernel
theorem d_Sca_4 : decode prog_29_method_56_code 4 = .ok (.ifCond .eq 12, 3) := by decide +kernel
theorem d_Sca_7 : decode prog_29_method_56_code 7 = .ok (.aload_n 0, 1) := by decide +kernel
theorem d_Sca_8 : decode prog_29_method_56_code 8 = .ok (.getfield 9, 3) := by decide +kernel
theorem d_Sca_11 : decode prog_29_method_56_code 11 = .ok (.iload_n 1, 1) := by decide +kernel
theorem d_Sca_12 : decode prog_29_method_56_code 12 = .ok (.invokestatic 495, 3) := by decide +kernel
theorem d_Sca_15 : decode prog_29_method_56_code 15 = .ok (.ireturn, 1) := by decide +kernel
theorem d_Sca_16 : decode prog_29_method_56_code 16 = .ok (.aload_n 0, 1) := by decide +kernel
theorem d_Sca_17 : decode prog_29_method_56_code 17 = .ok (.getfield 9, 3) := by decide +kernel
theorem d_Sca_20 : decode prog_29_method_56_code 20 = .ok (.iload_n 1, 1) := by decide +kernel
theorem d_Sca_21 : decode prog_29_method_56_code 21 = .ok (.invokestatic 498, 3) := by decide +kernel
theorem d_Sca_24 : decode prog_29_method_56_code 24 = .ok (.ireturn, 1) := by decide +kernel
theorem mb_Sca : MBv "java/lang/String" y_Sca prog_29_method_56_code 2 (some .char) 1 := ⟨mT3 114 (by decide +kernel) (by decide +kernel), mT3 115 (by decide +kernel) (by decide +kernel), mT1 11 (by decide +kernel) (by decide +kernel), mT3 116 (by decide +kernel) (by decide +kernel), by decide, rfl, by decide +kernel, by decide +kernel, by decide +kernel⟩
theorem m_gcomp {p : Program} {l : Launch} {e : Env} {R : Room} {s : State} {m : MethodId} {args : Array Value} {below : List Frame} {meth : Method} {c : Code} {Q : State → Prop} {cc : ByteArray} {nL pc : Nat} {ls : Array Slot} {rest : List Value} {own : String} {D : va_G} {ad : Nat → Nat} {cA : Nat → ClassId} {sd sv : Nat → Nat} {A : Nat → Prop} {idx : Nat} (C : Cx p s m args c cc nL own D ad cA sd sv A) (hlk : (Cond.fieldLink own idx "java/lang/String" "COMPACT_STRINGS" "Z").before args s = true) (d : decode cc pc = .ok (.getstatic idx, 3)) (kk : W p l e R s m args below meth c s.heap [] 0 0 Q (F0 m (pc + 3) ls (.int 1 :: rest))) : W p l e R s m args below meth c s.heap [] 0 0 Q (F0 m pc ls rest) :=
  va_gets C.1 C.2.1 C.2.2.2.2.2.2.2.2.2.1 va_S.rf C.2.2.2.1 hlk (fun _ h9 => h9) d kk
set_option maxHeartbeats 4000000 in
set_option maxRecDepth 100000 in
theorem c_Scoder {l : Launch} {D : va_G} {ad : Nat → Nat} {cA : Nat → ClassId} {sd sv : Nat → Nat} {h : Hp} {t : Nat} (hI : Inj97 ad) (ht : t < 36) : Met l y_Scoder (.code y_Scoder prog_29_method_152_code 1 (some .byte) :: TT) (rmD 0) (PC D ad cA sd sv h [.ref (sd t)]) (QR 0) 0 0 (fun _ => False) := by
  refine entF (by decide +kernel) hI (Nat.le_of_ble_eq_true rfl) ?_
  intro p e s m args below meth c C hr hlk hP ls hl
  have C : Cx p s m args c prog_29_method_152_code 1 "java/lang/String" D ad cA sd sv (FA ad) := C
  have hl : lv_has ls 1 [(0, .ref (sd t))] := hl
  refine m_gcomp C (C.2.2.2.2.1 (.fieldLink "java/lang/String" 38 "java/lang/String" "COMPACT_STRINGS" "Z") (mT3 111 (by decide +kernel) (by decide +kernel))) d_Scoder_0 ?_
  refine lv_if_eq C.1 C.2.1 d_Scoder_3 (tgt := 13) (by decide) (fun hc => absurd hc (by decide)) (fun _ => ?_)
  refine m_aload_n C hl 0 d_Scoder_6 rfl rfl ?_
  refine vk_getf C.1 C.2.1 ((C.2.2.2.2.2.2.2.1 t ht).1 0 (by decide)).2.1 va_S.rf C.2.2.2.1 (C.2.2.2.2.1 (.fieldLink "java/lang/String" 15 "java/lang/String" "coder" "B") (mT5 177 (by decide +kernel) (by decide +kernel))) (fun _ h9 => h9) d_Scoder_7 ?_
  refine m_goto C 14 d_Scoder_10 (by decide) ?_
  exact W.zret (v := 0) C.1 C.2.1 hr rfl (fun t ht _ => ⟨0, rfl, rfl, ht⟩) (fun q h => by cases h) d_Scoder_14 hlk
set_option maxHeartbeats 4000000 in
set_option maxRecDepth 100000 in
theorem c_SisL {l : Launch} {D : va_G} {ad : Nat → Nat} {cA : Nat → ClassId} {sd sv : Nat → Nat} {h : Hp} {t : Nat} (hI : Inj97 ad) (ht : t < 36) : Met l y_SisL (.code y_SisL prog_29_method_154_code 1 (some .boolean) :: TT) (rmD 0) (PC D ad cA sd sv h [.ref (sd t)]) (QR 1) 0 0 (fun _ => False) := by
  refine entF (by decide +kernel) hI (Nat.le_of_ble_eq_true rfl) ?_
  intro p e s m args below meth c C hr hlk hP ls hl
  have C : Cx p s m args c prog_29_method_154_code 1 "java/lang/String" D ad cA sd sv (FA ad) := C
  have hl : lv_has ls 1 [(0, .ref (sd t))] := hl
  refine m_gcomp C (C.2.2.2.2.1 (.fieldLink "java/lang/String" 38 "java/lang/String" "COMPACT_STRINGS" "Z") (mT3 111 (by decide +kernel) (by decide +kernel))) d_SisL_0 ?_
  refine lv_if_eq C.1 C.2.1 d_SisL_3 (tgt := 17) (by decide) (fun hc => absurd hc (by decide)) (fun _ => ?_)
  refine m_aload_n C hl 0 d_SisL_6 rfl rfl ?_
  refine vk_getf C.1 C.2.1 ((C.2.2.2.2.2.2.2.1 t ht).1 0 (by decide)).2.1 va_S.rf C.2.2.2.1 (C.2.2.2.2.1 (.fieldLink "java/lang/String" 15 "java/lang/String" "coder" "B") (mT5 177 (by decide +kernel) (by decide +kernel))) (fun _ h9 => h9) d_SisL_7 ?_
  refine lv_if_ne C.1 C.2.1 d_SisL_10 (tgt := 17) (by decide) (fun hc => absurd rfl hc) (fun _ => ?_)
  refine m_iconst C d_SisL_13 ?_
  refine m_goto C 18 d_SisL_14 (by decide) ?_
  exact W.zret (v := iZ 1) C.1 C.2.1 hr rfl (fun t ht _ => ⟨iZ 1, rfl, rfl, ht⟩) (fun q h => by cases h) d_SisL_18 hlk
set_option maxHeartbeats 4000000 in
set_option maxRecDepth 100000 in
theorem c_Slen {l : Launch} {D : va_G} {ad : Nat → Nat} {cA : Nat → ClassId} {sd sv : Nat → Nat} {h : Hp} {t : Nat} (hI : Inj97 ad) (ht : t < 36) : Met l y_Slen (.code y_Slen prog_29_method_54_code 1 (some .int) :: TT) (rmD 1) (PC D ad cA sd sv h [.ref (sd t)]) (QR (lnS t)) 0 0 (fun _ => False) := by
  refine entF (by decide +kernel) hI (Nat.le_of_ble_eq_true rfl) ?_
  intro p e s m args below meth c C hr hlk hP ls hl
  have C : Cx p s m args c prog_29_method_54_code 1 "java/lang/String" D ad cA sd sv (FA ad) := C
  have hl : lv_has ls 1 [(0, .ref (sd t))] := hl
  have hT := ((C.2.2.2.2.2.2.2.1 t ht).1 0 (by decide)).2.2.2
  refine m_aload_n C hl 0 d_Slen_0 rfl rfl ?_
  refine vk_getf C.1 C.2.1 ((C.2.2.2.2.2.2.2.1 t ht).1 0 (by decide)).2.2.1 va_S.rf C.2.2.2.1 (C.2.2.2.2.1 (.fieldLink "java/lang/String" 9 "java/lang/String" "value" "[B") (mT5 176 (by decide +kernel) (by decide +kernel))) (fun _ h9 => h9) d_Slen_1 ?_
  refine va_tlen C.1 C.2.1 hT va_S.rf (v := iZ (lnS t)) (by rw [iZ_nat]; show iZ (((byS.getD t []).length : Nat) : Int) = _; rw [(tx_len t ht).1]; rfl) d_Slen_4 ?_
  refine m_aload_n C hl 0 d_Slen_5 rfl rfl ?_
  refine aftR (runVS C hP va_S.rf ht (c_Scoder hI ht) (mT3 107 (by decide +kernel) (by decide +kernel)) mb_Scoder rfl ⟨Nat.le_of_ble_eq_true rfl, Nat.le_of_ble_eq_true rfl⟩ ⟨Nat.zero_le _, Nat.zero_le _⟩ (Nat.le_of_ble_eq_true rfl) d_Slen_6 hl.1 (rest := [.int (iZ (lnS t))]) rfl) ?_
  refine lv_ishr C.1 C.2.1 d_Slen_9 ?_
  rw [show iZ (lnS t) >>> (iZ 0 &&& 31) = iZ (lnS t) from sb_shr0 _]
  exact m_iretR C hr hlk rfl d_Slen_10
set_option maxHeartbeats 4000000 in
set_option maxRecDepth 100000 in
theorem c_Spci {l : Launch} {D : va_G} {ad : Nat → Nat} {cA : Nat → ClassId} {sd sv : Nat → Nat} {h : Hp} {a0 a1 : Int} {f2 : Option Nat} (hI : Inj97 ad) (h0 : 0 ≤ a0) (h1 : a0 < a1) (h2 : a1 < 2147483648) : Met l y_Spci (.code y_Spci prog_40_method_11_code 3 (some .int) :: TT) (rmD 0) (PC D ad cA sd sv h [.int (iZ a0), .int (iZ a1), va_rf f2]) (QR a0) 0 0 (fun _ => False) := by
  cases f2 with
  | none =>
    refine entF (by decide +kernel) hI (Nat.le_of_ble_eq_true rfl) ?_
    intro p e s m args below meth c C hr hlk hP ls hl
    have C : Cx p s m args c prog_40_method_11_code 3 "jdk/internal/util/Preconditions" D ad cA sd sv (FA ad) := C
    have hl : lv_has ls 3 [(0, .int (iZ a0)), (1, .int (iZ a1)), (2, .null)] := hl
    have e0 : (iZ a0).toInt = a0 := toInt_iZ (by omega) (by omega)
    have e1 : (iZ a1).toInt = a1 := toInt_iZ (by omega) (by omega)
    refine m_iload_n C hl 0 d_Spci_0 rfl rfl ?_
    refine lv_if_lt C.1 C.2.1 d_Spci_1 (tgt := 9) (by decide) (fun hc => absurd hc (by rw [Int32.lt_iff_toInt_lt, e0]; show ¬ a0 < 0; omega)) (fun _ => ?_)
    refine m_iload_n C hl 0 d_Spci_4 rfl rfl ?_
    refine m_iload_n C hl 1 d_Spci_5 rfl rfl ?_
    refine lv_icmp_lt C.1 C.2.1 d_Spci_6 (tgt := 16) (by decide) (fun _ => ?_) (fun hc => absurd (by rw [Int32.lt_iff_toInt_lt, e0, e1]; exact h1) hc)
    refine m_iload_n C hl 0 d_Spci_16 rfl rfl ?_
    exact m_iretR C hr hlk rfl d_Spci_17
  | some q =>
    refine entF (by decide +kernel) hI (Nat.le_of_ble_eq_true rfl) ?_
    intro p e s m args below meth c C hr hlk hP ls hl
    have C : Cx p s m args c prog_40_method_11_code 3 "jdk/internal/util/Preconditions" D ad cA sd sv (FA ad) := C
    have hl : lv_has ls 3 [(0, .int (iZ a0)), (1, .int (iZ a1)), (2, .ref q)] := hl
    have e0 : (iZ a0).toInt = a0 := toInt_iZ (by omega) (by omega)
    have e1 : (iZ a1).toInt = a1 := toInt_iZ (by omega) (by omega)
    refine m_iload_n C hl 0 d_Spci_0 rfl rfl ?_
    refine lv_if_lt C.1 C.2.1 d_Spci_1 (tgt := 9) (by decide) (fun hc => absurd hc (by rw [Int32.lt_iff_toInt_lt, e0]; show ¬ a0 < 0; omega)) (fun _ => ?_)
    refine m_iload_n C hl 0 d_Spci_4 rfl rfl ?_
    refine m_iload_n C hl 1 d_Spci_5 rfl rfl ?_
    refine lv_icmp_lt C.1 C.2.1 d_Spci_6 (tgt := 16) (by decide) (fun _ => ?_) (fun hc => absurd (by rw [Int32.lt_iff_toInt_lt, e0, e1]; exact h1) hc)
    refine m_iload_n C hl 0 d_Spci_16 rfl rfl ?_
    exact m_iretR C hr hlk rfl d_Spci_17
set_option maxHeartbeats 4000000 in
set_option maxRecDepth 100000 in
theorem c_Ssci {l : Launch} {D : va_G} {ad : Nat → Nat} {cA : Nat → ClassId} {sd sv : Nat → Nat} {h : Hp} {a0 a1 : Int} (hI : Inj97 ad) (h0 : 0 ≤ a0) (h1 : a0 < a1) (h2 : a1 < 2147483648) : Met l y_Ssci (.code y_Ssci prog_29_method_155_code 2 none :: TT) (rmD 1) (PC D ad cA sd sv h [.int (iZ a0), .int (iZ a1)]) (va_Sv (fun _ => True)) 0 0 (fun _ => False) := by
  refine entF (by decide +kernel) hI (Nat.le_of_ble_eq_true rfl) ?_
  intro p e s m args below meth c C hr hlk hP ls hl
  have C : Cx p s m args c prog_29_method_155_code 2 "java/lang/String" D ad cA sd sv (FA ad) := C
  have hl : lv_has ls 2 [(0, .int (iZ a0)), (1, .int (iZ a1))] := hl
  refine m_iload_n C hl 0 d_Ssci_0 rfl rfl ?_
  refine m_iload_n C hl 1 d_Ssci_1 rfl rfl ?_
  have key : ∀ f2 : Option Nat, va_Z "jdk/internal/util/Preconditions" "SIOOBE_FORMATTER" "Ljava/util/function/BiFunction;" (va_rf f2) (FA ad) s s.heap → W p l e (rmD 1) s m args below meth c s.heap [] 0 0 (MQ below (va_Sv (fun _ => True)) args s 0 0 (fun _ => False)) (F0 m 2 ls [.int (iZ a1), .int (iZ a0)]) := by
    intro f2 hZ
    refine va_gets C.1 C.2.1 hZ va_S.rf C.2.2.2.1 (C.2.2.2.2.1 (.fieldLink "java/lang/String" 1053 "jdk/internal/util/Preconditions" "SIOOBE_FORMATTER" "Ljava/util/function/BiFunction;") (mT3 127 (by decide +kernel) (by decide +kernel))) (fun _ h9 => h9) d_Ssci_2 ?_
    refine aftR (runS C hP va_S.rf (c_Spci (f2 := f2) hI h0 h1 h2) (mT3 129 (by decide +kernel) (by decide +kernel)) mb_Spci rfl ⟨Nat.le_of_ble_eq_true rfl, Nat.le_of_ble_eq_true rfl⟩ ⟨Nat.zero_le _, Nat.zero_le _⟩ (Nat.le_of_ble_eq_true rfl) d_Ssci_5 hl.1 (rest := []) rfl) ?_
    refine m_pop C d_Ssci_8 rfl ?_
    exact W.vret C.1 C.2.1 hr (fun t ht _ => ⟨rfl, trivial, ht⟩) (fun q h => by cases h) d_Ssci_9 hlk
  rcases C.2.2.2.2.2.2.2.2.2.2.2.2.1 with hZ | ⟨q, hZ⟩
  · exact key none hZ
  · exact key (some q) hZ
set_option maxHeartbeats 4000000 in
set_option maxRecDepth 100000 in
theorem c_Slca {l : Launch} {D : va_G} {ad : Nat → Nat} {cA : Nat → ClassId} {sd sv : Nat → Nat} {h : Hp} {t : Nat} {a1 : Int} (hI : Inj97 ad) (ht : t < 36) (h0 : 0 ≤ a1) (h1 : a1 < lnS t) : Met l y_Slca (.code y_Slca prog_31_method_2_code 2 (some .char) :: TT) (rmD 2) (PC D ad cA sd sv h [.ref (sv t), .int (iZ a1)]) (QR ((txS t).getD a1.toNat 0)) 0 0 (fun _ => False) := by
  refine entF (by decide +kernel) hI (Nat.le_of_ble_eq_true rfl) ?_
  intro p e s m args below meth c C hr hlk hP ls hl
  have C : Cx p s m args c prog_31_method_2_code 2 "java/lang/StringLatin1" D ad cA sd sv (FA ad) := C
  have hl : lv_has ls 2 [(0, .ref (sv t)), (1, .int (iZ a1))] := hl
  have hT := ((C.2.2.2.2.2.2.2.1 t ht).1 0 (by decide)).2.2.2
  have hL := tx_len t ht
  have hLn : lnS t = ((txS t).length : Int) := rfl
  refine m_iload_n C hl 1 d_Slca_0 rfl rfl ?_
  refine m_aload_n C hl 0 d_Slca_1 rfl rfl ?_
  refine va_tlen C.1 C.2.1 hT va_S.rf (v := iZ (lnS t)) (by rw [iZ_nat]; show iZ (((byS.getD t []).length : Nat) : Int) = _; rw [(tx_len t ht).1]; rfl) d_Slca_2 ?_
  refine va_csv (va_Run.run (runS C hP va_S.rf (c_Ssci hI h0 h1 (by omega)) (mT3 124 (by decide +kernel) (by decide +kernel)) mb_Ssci rfl ⟨Nat.le_of_ble_eq_true rfl, Nat.le_of_ble_eq_true rfl⟩ ⟨Nat.zero_le _, Nat.zero_le _⟩ (Nat.le_of_ble_eq_true rfl) d_Slca_3 hl.1 (rest := []) rfl)) (fun _ => ?_)
  refine m_aload_n C hl 0 d_Slca_6 rfl rfl ?_
  refine m_iload_n C hl 1 d_Slca_7 rfl rfl ?_
  have hin := iZ_inb (i := a1) (n := (txS t).length) ⟨h0, h1⟩ (by omega)
  have hlen1 : ([(byS.getD t []).length] : List Nat).getD 0 0 = (txS t).length := hL.1
  refine va_tb C.1 C.2.1 hT va_S.rf (i := iZ a1) (by rw [hlen1]; exact hin.1) (v := .int ((byS.getD t []).getD a1.toNat 0)) (by rw [hin.2]; rfl) d_Slca_8 ?_
  refine m_sipush C d_Slca_9 (by decide) ?_
  refine lv_iand C.1 C.2.1 d_Slca_12 ?_
  have hv := tx_val t ht a1.toNat (by omega)
  refine lv_i2c C.1 C.2.1 d_Slca_13 (v := iZ ((txS t).getD a1.toNat 0)) hv.1 ?_
  exact W.zret (v := iZ ((txS t).getD a1.toNat 0)) C.1 C.2.1 hr hv.2 (fun t ht _ => ⟨_, rfl, rfl, ht⟩) (fun q h => by cases h) d_Slca_14 hlk
set_option maxHeartbeats 4000000 in
set_option maxRecDepth 100000 in
theorem c_Sca {l : Launch} {D : va_G} {ad : Nat → Nat} {cA : Nat → ClassId} {sd sv : Nat → Nat} {h : Hp} {t : Nat} {a1 : Int} (hI : Inj97 ad) (ht : t < 36) (h0 : 0 ≤ a1) (h1 : a1 < lnS t) : Met l y_Sca (.code y_Sca prog_29_method_56_code 2 (some .char) :: TT) (rmD 3) (PC D ad cA sd sv h [.ref (sd t), .int (iZ a1)]) (QR ((txS t).getD a1.toNat 0)) 0 0 (fun _ => False) := by
  refine entF (by decide +kernel) hI (Nat.le_of_ble_eq_true rfl) ?_
  intro p e s m args below meth c C hr hlk hP ls hl
  have C : Cx p s m args c prog_29_method_56_code 2 "java/lang/String" D ad cA sd sv (FA ad) := C
  have hl : lv_has ls 2 [(0, .ref (sd t)), (1, .int (iZ a1))] := hl
  refine m_aload_n C hl 0 d_Sca_0 rfl rfl ?_
  refine aftR (runVS C hP va_S.rf ht (c_SisL hI ht) (mT3 117 (by decide +kernel) (by decide +kernel)) mb_SisL rfl ⟨Nat.le_of_ble_eq_true rfl, Nat.le_of_ble_eq_true rfl⟩ ⟨Nat.zero_le _, Nat.zero_le _⟩ (Nat.le_of_ble_eq_true rfl) d_Sca_1 hl.1 (rest := []) rfl) ?_
  refine lv_if_eq C.1 C.2.1 d_Sca_4 (tgt := 16) (by decide) (fun hc => absurd hc (by decide)) (fun _ => ?_)
  refine m_aload_n C hl 0 d_Sca_7 rfl rfl ?_
  refine vk_getf C.1 C.2.1 ((C.2.2.2.2.2.2.2.1 t ht).1 0 (by decide)).2.2.1 va_S.rf C.2.2.2.1 (C.2.2.2.2.1 (.fieldLink "java/lang/String" 9 "java/lang/String" "value" "[B") (mT5 176 (by decide +kernel) (by decide +kernel))) (fun _ h9 => h9) d_Sca_8 ?_
  refine m_iload_n C hl 1 d_Sca_11 rfl rfl ?_
  refine aftR (runS C hP va_S.rf (c_Slca hI ht h0 h1) (mT3 121 (by decide +kernel) (by decide +kernel)) mb_Slca rfl ⟨Nat.le_of_ble_eq_true rfl, Nat.le_of_ble_eq_true rfl⟩ ⟨Nat.zero_le _, Nat.zero_le _⟩ (Nat.le_of_ble_eq_true rfl) d_Sca_12 hl.1 (rest := []) rfl) ?_
  have hv := tx_val t ht a1.toNat (by have : lnS t = ((txS t).length : Int) := rfl; omega)
  exact W.zret (v := iZ ((txS t).getD a1.toNat 0)) C.1 C.2.1 hr hv.2 (fun t ht _ => ⟨_, rfl, rfl, ht⟩) (fun q h => by cases h) d_Sca_15 hlk
theorem c_Sca2 {l : Launch} {D : va_G} {ad : Nat → Nat} {cA : Nat → ClassId} {sd sv : Nat → Nat} {h : Hp} {t : Nat} {a1 out : Int} (hI : Inj97 ad) (ht : t < 36) (hM : chS t a1 = some out) : Met l y_Sca (.code y_Sca prog_29_method_56_code 2 (some .char) :: TT) (rmD 3) (PC D ad cA sd sv h [.ref (sd t), .int (iZ a1)]) (QR out) 0 0 (fun _ => False) := by
  unfold chS at hM
  by_cases hc : 0 ≤ a1 ∧ a1 < lnS t
  · rw [if_pos hc] at hM
    cases hM
    exact c_Sca hI ht hc.1 hc.2
  · rw [if_neg hc] at hM; cases hM

theorem fb_rng' (x : Int32) : -2147483648 ≤ x.toInt ∧ x.toInt < 2147483648 := ⟨Int32.le_toInt x, Int32.toInt_lt x⟩
theorem i2l_nrm (z : Int) : (iZ z).toInt64 = Int64.ofInt (nrm z) := by
  apply Int64.toInt_inj.mp
  rw [Int32.toInt_toInt64, Int64.toInt_ofInt]
  have h := fb_rng' (iZ z)
  have e : nrm z = (iZ z).toInt := rfl
  rw [e, show Int64.size = 18446744073709551616 from rfl]
  exact (Int.bmod_eq_of_le (by omega) (by omega)).symm
section MW
variable {p : Program} {l : Launch} {e : Env} {R : Room} {s : State} {m : MethodId} {args : Array Value} {below : List Frame} {meth : Method} {c : Code} {H : Heap} {locs : List Loc} {cells slots : Nat} {Q : State → Prop}
variable {cc : ByteArray} {nL pc : Nat} {ls : Array Slot} {rest : List Value} {own : String} {D : va_G} {ad : Nat → Nat} {cA : Nat → ClassId} {sd sv : Nat → Nat} {A : Nat → Prop} {h : Hp}
theorem entW {y : MethodName} {maxL : Nat} {rt : Option FieldType} {hh : List (Nat × Nat × Nat × Nat)} {rm : Room} {mc ms : Nat} {av : List Value} {Qc : Array Value → State → Outcome → State → Prop} {free : Addr → Prop} (hpl : plainName y.cls = true) (hI : Inj97 ad) (hlen : (lg_sl av).length ≤ maxL)
    (body : ∀ p e s m args below meth c, Cx p s m args c cc maxL y.cls D ad cA sd sv (FA ad) → meth.sig.returnType = rt → meth.locks = false → c.exceptionTable.toList = tableOf hh → va_P D clL (wl ad cA h) s.heap → ∀ ls, lv_has ls maxL (lv_args 0 av) → W p l e rm s m args below meth c s.heap [] 0 0 (MQ below Qc args s mc ms free) (F0 m 0 ls [])) :
    Met l y (.codeWith y cc maxL rt hh :: TT) rm (PC D ad cA sd sv h av) Qc mc ms free := by
  refine va_MetW (cc := cc) (maxL := maxL) (ret := rt) hpl rfl ?_
  intro p e s m args below meth c s₁ B hml hv
  obtain ⟨rfl, hP, hK, hE⟩ := hv
  have hts := atoms_spec (ws := .codeWith y cc maxL rt hh :: TT) B.pre
  have htab := vx_table (x := y) B (hts _ List.mem_cons_self)
  have hl := lv_entry av (n := maxL) hlen
  rw [lg_entry_eq]
  generalize (lg_sl av ++ List.replicate (maxL - (lg_sl av).length) Slot.unset).toArray = ls at hl ⊢
  exact body p e s m _ below meth c ⟨B.exec, B.bytes, hml, findClass_of_methodNamed B.named, fun w hw => hts w (List.mem_cons_of_mem _ hw), hK, ⟨hI, fun i hi => ⟨i, hi, rfl⟩⟩, hE⟩ B.returns B.notSynchronized htab hP ls hl
theorem m_iretC (C : Cx p s m args c cc nL own D ad cA sd sv A) (w : Wd s D ad cA (FA ad) h H locs) {a : Int} {out : Int × Hp} {mc ms : Nat} (hr : meth.sig.returnType = some .int) (hlk : meth.locks = false) (hM : some (a, h) = some out) (hc : cells ≤ mc) (hs : slots ≤ ms) (d : decode cc pc = .ok (.ireturn, 1)) : W p l e R s m args below meth c H locs cells slots (MQ below (QI D ad cA out) args s mc ms (FA ad)) (F0 m pc ls [.int (iZ a)]) := by
  cases hM
  refine W.widen hc hs ?_
  exact W.iret (v := iZ a) C.1 C.2.1 hr (fun t ht _ => ⟨⟨iZ a, (), rfl, rfl, by subst ht; exact w.1⟩, w.2.F ht⟩) w.2.2.2 d hlk
theorem wl_long {ad : Nat → Nat} {cA : Nat → ClassId} {h : Hp} (u : Int) : (wl ad cA h).set 96 (ad 96, .inl (cA 3, 1, .inr (.inl (vp_updL (fun k => Int64.ofInt (h 96 k)) 0 (Int64.ofInt u))))) = wl ad cA (hs h 96 0 u) := by
  refine wl_set ad cA ?_ (hs_o h 96 0 u)
  rw [ent_l sh_96]
  congr 3
  congr 1
  congr 1
  funext k
  unfold vp_updL
  by_cases hk : k = 0
  · subst hk; rw [if_pos rfl, hs_eq]
  · rw [if_neg hk, hs_ne h 96 0 u hk]
theorem m_lst (C : Cx p s m args c cc nL own D ad cA sd sv A) (w : Wd s D ad cA A h H locs) {u : Int} (d : decode cc pc = .ok (.lastore, 1)) (kk : ∀ (H : Heap) (locs : List Loc), Wd s D ad cA A (hs h 96 0 u) H locs → W p l e R s m args below meth c H locs cells slots Q (F0 m (pc + 1) ls rest)) : W p l e R s m args below meth c H locs cells slots Q (F0 m pc ls (.long (Int64.ofInt u) :: .int (iZ 0) :: .ref (ad 96) :: rest)) := by
  refine va_last (D := D) (A := A) C.1 C.2.1 C.2.2.2.2.2.1 w.1 (C.2.2.2.2.2.2.1.D cA h) w.2 96 3 (cA := cA 3) (n := 1) (f := fun k => Int64.ofInt (h 96 k)) (by rw [wl_at ad cA h (by decide), ent_l sh_96]) rfl (i := iZ 0) (vp_in_iff.mpr (by decide)) d (fun H1 locs1 hP1 _ hS1 => kk H1 locs1 ⟨?_, hS1⟩)
  rw [← wl_long u]
  exact hP1
theorem m_i2l (C : Cx p s m args c cc nL own D ad cA sd sv A) {a : Int} (d : decode cc pc = .ok (.i2l, 1)) (k : W p l e R s m args below meth c H locs cells slots Q (F0 m (pc + 1) ls (.long (Int64.ofInt (nrm a)) :: rest))) : W p l e R s m args below meth c H locs cells slots Q (F0 m pc ls (.int (iZ a) :: rest)) := lv_i2l C.1 C.2.1 d (i2l_nrm a) k
theorem exN_ct : ∀ k, k ∈ [1, 2, 3, 4] → exN k ∈ ctL := by decide +kernel
theorem cast_ok (C : Cx p s m args c cc nL own D ad cA sd sv A) {k : Nat} (hk : k ∈ [1, 2, 3, 4]) : (Cond.castable (exN k) (exN k)).before args s = true := va_Nw.use rfl (C.2.2.2.2.2.2.2.2.2.2.2.2.2.2.2.1 _ (exN_ct k hk))
theorem pass_ok (C : Cx p s m args c cc nL own D ad cA sd sv A) {a b : Nat} (hk : (exN a, exN b) ∈ ncL) : va_Nc (exN a) (exN b) s := C.2.2.2.2.2.2.2.2.2.2.2.2.2.2.2.2 _ hk
end MW
theorem clk_1 : Cond.classLink "FeastBookLaw" 19 (exN 1) ∈ TT := mT4 101 (by decide +kernel) (by decide +kernel)
theorem clk_2 : Cond.classLink "FeastBookLaw" 21 (exN 2) ∈ TT := mT4 102 (by decide +kernel) (by decide +kernel)
theorem clk_3 : Cond.classLink "FeastBookLaw" 13 (exN 3) ∈ TT := mT3 69 (by decide +kernel) (by decide +kernel)
theorem clk_4 : Cond.classLink "FeastBookLaw" 62 (exN 4) ∈ TT := mT7 0 (by decide +kernel) (by decide +kernel)
theorem mb_FB_book : MBv R_FB y_FB_book prog_1_method_4_code 1 (some .int) 0 := ⟨mT3 71 (by decide +kernel) (by decide +kernel), mT3 72 (by decide +kernel) (by decide +kernel), mT1 1 (by decide +kernel) (by decide +kernel), mT3 73 (by decide +kernel) (by decide +kernel), by decide, rfl, by decide +kernel, by decide +kernel, by decide +kernel⟩
theorem mb_FB_year : MBv R_FB y_FB_year prog_1_method_6_code 3 (some .int) 2 := ⟨mT4 104 (by decide +kernel) (by decide +kernel), mT4 105 (by decide +kernel) (by decide +kernel), mT1 1 (by decide +kernel) (by decide +kernel), mT4 106 (by decide +kernel) (by decide +kernel), by decide, rfl, by decide +kernel, by decide +kernel, by decide +kernel⟩
theorem mb_FB_day : MBv R_FB y_FB_day prog_1_method_7_code 5 (some .int) 3 := ⟨mT6 88 (by decide +kernel) (by decide +kernel), mT6 89 (by decide +kernel) (by decide +kernel), mT1 1 (by decide +kernel) (by decide +kernel), mT6 90 (by decide +kernel) (by decide +kernel), by decide, rfl, by decide +kernel, by decide +kernel, by decide +kernel⟩
theorem mb_FB_office : MBv R_FB y_FB_office prog_1_method_8_code 4 (some .int) 3 := ⟨mT6 108 (by decide +kernel) (by decide +kernel), mT6 109 (by decide +kernel) (by decide +kernel), mT1 1 (by decide +kernel) (by decide +kernel), mT6 110 (by decide +kernel) (by decide +kernel), by decide, rfl, by decide +kernel, by decide +kernel, by decide +kernel⟩
theorem mb_FB_base : MBv R_FB y_FB_base prog_1_method_9_code 4 (some .int) 3 := ⟨mT6 123 (by decide +kernel) (by decide +kernel), mT6 124 (by decide +kernel) (by decide +kernel), mT1 1 (by decide +kernel) (by decide +kernel), mT6 125 (by decide +kernel) (by decide +kernel), by decide, rfl, by decide +kernel, by decide +kernel, by decide +kernel⟩
theorem mb_FB_fast : MBv R_FB y_FB_fast prog_1_method_10_code 3 (some .boolean) 2 := ⟨mT6 130 (by decide +kernel) (by decide +kernel), mT6 131 (by decide +kernel) (by decide +kernel), mT1 1 (by decide +kernel) (by decide +kernel), mT6 132 (by decide +kernel) (by decide +kernel), by decide, rfl, by decide +kernel, by decide +kernel, by decide +kernel⟩
theorem mb_FB_lesson : MBv R_FB y_FB_lesson prog_1_method_11_code 4 (some .int) 2 := ⟨mT6 138 (by decide +kernel) (by decide +kernel), mT6 139 (by decide +kernel) (by decide +kernel), mT1 1 (by decide +kernel) (by decide +kernel), mT6 140 (by decide +kernel) (by decide +kernel), by decide, rfl, by decide +kernel, by decide +kernel, by decide +kernel⟩
theorem mb_FB_joined : MBv R_FB y_FB_joined prog_1_method_12_code 3 (some .int) 2 := ⟨mT6 147 (by decide +kernel) (by decide +kernel), mT6 148 (by decide +kernel) (by decide +kernel), mT1 1 (by decide +kernel) (by decide +kernel), mT6 149 (by decide +kernel) (by decide +kernel), by decide, rfl, by decide +kernel, by decide +kernel, by decide +kernel⟩
theorem mb_FB_feast : MBv R_FB y_FB_feast prog_1_method_13_code 4 (some .int) 2 := ⟨mT6 155 (by decide +kernel) (by decide +kernel), mT6 156 (by decide +kernel) (by decide +kernel), mT1 1 (by decide +kernel) (by decide +kernel), mT6 157 (by decide +kernel) (by decide +kernel), by decide, rfl, by decide +kernel, by decide +kernel, by decide +kernel⟩
theorem mb_FB_of : MBv R_FB y_FB_of prog_1_method_14_code 5 (some .int) 3 := ⟨mT6 168 (by decide +kernel) (by decide +kernel), mT6 169 (by decide +kernel) (by decide +kernel), mT1 1 (by decide +kernel) (by decide +kernel), mT6 170 (by decide +kernel) (by decide +kernel), by decide, rfl, by decide +kernel, by decide +kernel, by decide +kernel⟩
theorem mb_FB_rank : MBv R_FB y_FB_rank prog_1_method_15_code 4 (some .int) 2 := ⟨mT6 184 (by decide +kernel) (by decide +kernel), mT6 185 (by decide +kernel) (by decide +kernel), mT1 1 (by decide +kernel) (by decide +kernel), mT6 186 (by decide +kernel) (by decide +kernel), by decide, rfl, by decide +kernel, by decide +kernel, by decide +kernel⟩
theorem mb_FB_law : MBv R_FB y_FB_law prog_1_method_16_code 4 (some .int) 2 := ⟨mT6 214 (by decide +kernel) (by decide +kernel), mT6 215 (by decide +kernel) (by decide +kernel), mT1 1 (by decide +kernel) (by decide +kernel), mT6 216 (by decide +kernel) (by decide +kernel), by decide, rfl, by decide +kernel, by decide +kernel, by decide +kernel⟩
theorem mb_FB_put : MBv R_FB y_FB_put prog_1_method_17_code 6 (some .int) 3 := ⟨mT6 225 (by decide +kernel) (by decide +kernel), mT6 226 (by decide +kernel) (by decide +kernel), mT1 1 (by decide +kernel) (by decide +kernel), mT6 227 (by decide +kernel) (by decide +kernel), by decide, rfl, by decide +kernel, by decide +kernel, by decide +kernel⟩
theorem mb_FB_reach : MBv R_FB y_FB_reach prog_1_method_18_code 3 (some .int) 1 := ⟨mT7 2 (by decide +kernel) (by decide +kernel), mT7 3 (by decide +kernel) (by decide +kernel), mT1 1 (by decide +kernel) (by decide +kernel), mT7 4 (by decide +kernel) (by decide +kernel), by decide, rfl, by decide +kernel, by decide +kernel, by decide +kernel⟩
theorem mb_FB_undo : MBv R_FB y_FB_undo prog_1_method_19_code 1 (some .int) 0 := ⟨mT7 33 (by decide +kernel) (by decide +kernel), mT7 34 (by decide +kernel) (by decide +kernel), mT1 1 (by decide +kernel) (by decide +kernel), mT7 35 (by decide +kernel) (by decide +kernel), by decide, rfl, by decide +kernel, by decide +kernel, by decide +kernel⟩
theorem mb_FB_cycle : MBv R_FB y_FB_cycle prog_1_method_20_code 1 (some .int) 0 := ⟨mT7 45 (by decide +kernel) (by decide +kernel), mT7 46 (by decide +kernel) (by decide +kernel), mT1 1 (by decide +kernel) (by decide +kernel), mT7 47 (by decide +kernel) (by decide +kernel), by decide, rfl, by decide +kernel, by decide +kernel, by decide +kernel⟩
theorem mb_FB_fates : MBv R_FB y_FB_fates prog_1_method_21_code 4 (some .int) 3 := ⟨mT7 52 (by decide +kernel) (by decide +kernel), mT7 53 (by decide +kernel) (by decide +kernel), mT1 1 (by decide +kernel) (by decide +kernel), mT7 54 (by decide +kernel) (by decide +kernel), by decide, rfl, by decide +kernel, by decide +kernel, by decide +kernel⟩
theorem mb_FB_far : MBv R_FB y_FB_far prog_1_method_22_code 2 (some .int) 1 := ⟨mT7 77 (by decide +kernel) (by decide +kernel), mT7 78 (by decide +kernel) (by decide +kernel), mT1 1 (by decide +kernel) (by decide +kernel), mT7 79 (by decide +kernel) (by decide +kernel), by decide, rfl, by decide +kernel, by decide +kernel, by decide +kernel⟩
theorem mb_FB_span : MBv R_FB y_FB_span prog_1_method_23_code 3 (some .int) 2 := ⟨mT7 92 (by decide +kernel) (by decide +kernel), mT7 93 (by decide +kernel) (by decide +kernel), mT1 1 (by decide +kernel) (by decide +kernel), mT7 94 (by decide +kernel) (by decide +kernel), by decide, rfl, by decide +kernel, by decide +kernel, by decide +kernel⟩
theorem mb_FB_meets : MBv R_FB y_FB_meets prog_1_method_24_code 2 (some .int) 1 := ⟨mT7 107 (by decide +kernel) (by decide +kernel), mT7 108 (by decide +kernel) (by decide +kernel), mT1 1 (by decide +kernel) (by decide +kernel), mT7 109 (by decide +kernel) (by decide +kernel), by decide, rfl, by decide +kernel, by decide +kernel, by decide +kernel⟩
theorem mb_FB_beats : MBv R_FB y_FB_beats prog_1_method_25_code 3 (some .boolean) 2 := ⟨mT7 123 (by decide +kernel) (by decide +kernel), mT7 124 (by decide +kernel) (by decide +kernel), mT1 1 (by decide +kernel) (by decide +kernel), mT7 125 (by decide +kernel) (by decide +kernel), by decide, rfl, by decide +kernel, by decide +kernel, by decide +kernel⟩
theorem mb_FB_safe : MBv R_FB y_FB_safe prog_1_method_26_code 2 (some .int) 1 := ⟨mT7 135 (by decide +kernel) (by decide +kernel), mT7 136 (by decide +kernel) (by decide +kernel), mT1 1 (by decide +kernel) (by decide +kernel), mT7 137 (by decide +kernel) (by decide +kernel), by decide, rfl, by decide +kernel, by decide +kernel, by decide +kernel⟩
theorem mb_FB_next : MBv R_FB y_FB_next prog_1_method_27_code 4 (some .int) 3 := ⟨mT7 155 (by decide +kernel) (by decide +kernel), mT7 156 (by decide +kernel) (by decide +kernel), mT1 1 (by decide +kernel) (by decide +kernel), mT7 157 (by decide +kernel) (by decide +kernel), by decide, rfl, by decide +kernel, by decide +kernel, by decide +kernel⟩
theorem mb_FB_unresolved : MBv R_FB y_FB_unresolved prog_1_method_28_code 1 (some .int) 0 := ⟨mT7 168 (by decide +kernel) (by decide +kernel), mT7 169 (by decide +kernel) (by decide +kernel), mT1 1 (by decide +kernel) (by decide +kernel), mT7 170 (by decide +kernel) (by decide +kernel), by decide, rfl, by decide +kernel, by decide +kernel, by decide +kernel⟩
theorem mb_FB_paschs : MBv R_FB y_FB_paschs prog_1_method_29_code 2 (some .int) 1 := ⟨mT7 180 (by decide +kernel) (by decide +kernel), mT7 181 (by decide +kernel) (by decide +kernel), mT1 1 (by decide +kernel) (by decide +kernel), mT7 182 (by decide +kernel) (by decide +kernel), by decide, rfl, by decide +kernel, by decide +kernel, by decide +kernel⟩
theorem mb_FB_alike : MBv R_FB y_FB_alike prog_1_method_30_code 3 (some .boolean) 2 := ⟨mT7 191 (by decide +kernel) (by decide +kernel), mT7 192 (by decide +kernel) (by decide +kernel), mT1 1 (by decide +kernel) (by decide +kernel), mT7 193 (by decide +kernel) (by decide +kernel), by decide, rfl, by decide +kernel, by decide +kernel, by decide +kernel⟩
theorem mb_FB_sorts : MBv R_FB y_FB_sorts prog_1_method_31_code 1 (some .int) 0 := ⟨mT7 198 (by decide +kernel) (by decide +kernel), mT7 199 (by decide +kernel) (by decide +kernel), mT1 1 (by decide +kernel) (by decide +kernel), mT7 200 (by decide +kernel) (by decide +kernel), by decide, rfl, by decide +kernel, by decide +kernel, by decide +kernel⟩
theorem mb_FB_yields : MBv R_FB y_FB_yields prog_1_method_32_code 3 (some .int) 2 := ⟨mT7 209 (by decide +kernel) (by decide +kernel), mT7 210 (by decide +kernel) (by decide +kernel), mT1 1 (by decide +kernel) (by decide +kernel), mT7 211 (by decide +kernel) (by decide +kernel), by decide, rfl, by decide +kernel, by decide +kernel, by decide +kernel⟩
theorem mb_FB_course : MBv R_FB y_FB_course prog_1_method_33_code 2 (some .int) 1 := ⟨mT7 220 (by decide +kernel) (by decide +kernel), mT7 221 (by decide +kernel) (by decide +kernel), mT1 1 (by decide +kernel) (by decide +kernel), mT7 222 (by decide +kernel) (by decide +kernel), by decide, rfl, by decide +kernel, by decide +kernel, by decide +kernel⟩
theorem mb_FB_heaviest : MBv R_FB y_FB_heaviest prog_1_method_34_code 6 (some .int) 3 := ⟨mT7 237 (by decide +kernel) (by decide +kernel), mT7 238 (by decide +kernel) (by decide +kernel), mT1 1 (by decide +kernel) (by decide +kernel), mT7 239 (by decide +kernel) (by decide +kernel), by decide, rfl, by decide +kernel, by decide +kernel, by decide +kernel⟩
theorem mb_FB_interval : MBv R_FB y_FB_interval prog_1_method_35_code 3 (some .int) 2 := ⟨mT8 9 (by decide +kernel) (by decide +kernel), mT8 10 (by decide +kernel) (by decide +kernel), mT1 1 (by decide +kernel) (by decide +kernel), mT8 11 (by decide +kernel) (by decide +kernel), by decide, rfl, by decide +kernel, by decide +kernel, by decide +kernel⟩
theorem mb_FB_better : MBv R_FB y_FB_better prog_1_method_37_code 5 (some .int) 3 := ⟨mT8 21 (by decide +kernel) (by decide +kernel), mT8 22 (by decide +kernel) (by decide +kernel), mT1 1 (by decide +kernel) (by decide +kernel), mT8 23 (by decide +kernel) (by decide +kernel), by decide, rfl, by decide +kernel, by decide +kernel, by decide +kernel⟩
theorem mb_FB_rival : MBv R_FB y_FB_rival prog_1_method_38_code 2 (some .int) 1 := ⟨mT8 48 (by decide +kernel) (by decide +kernel), mT8 49 (by decide +kernel) (by decide +kernel), mT1 1 (by decide +kernel) (by decide +kernel), mT8 50 (by decide +kernel) (by decide +kernel), by decide, rfl, by decide +kernel, by decide +kernel, by decide +kernel⟩
theorem mb_FB_lull : MBv R_FB y_FB_lull prog_1_method_39_code 2 (some .int) 1 := ⟨mT8 60 (by decide +kernel) (by decide +kernel), mT8 61 (by decide +kernel) (by decide +kernel), mT1 1 (by decide +kernel) (by decide +kernel), mT8 62 (by decide +kernel) (by decide +kernel), by decide, rfl, by decide +kernel, by decide +kernel, by decide +kernel⟩
theorem mb_FB_tally : MBv R_FB y_FB_tally prog_1_method_40_code 3 (some .int) 2 := ⟨mT8 71 (by decide +kernel) (by decide +kernel), mT8 72 (by decide +kernel) (by decide +kernel), mT1 1 (by decide +kernel) (by decide +kernel), mT8 73 (by decide +kernel) (by decide +kernel), by decide, rfl, by decide +kernel, by decide +kernel, by decide +kernel⟩
theorem mb_FB_leader : MBv R_FB y_FB_leader prog_1_method_41_code 1 (some .int) 0 := ⟨mT8 82 (by decide +kernel) (by decide +kernel), mT8 83 (by decide +kernel) (by decide +kernel), mT1 1 (by decide +kernel) (by decide +kernel), mT8 84 (by decide +kernel) (by decide +kernel), by decide, rfl, by decide +kernel, by decide +kernel, by decide +kernel⟩
def y_Lw_book : MethodName := ⟨"FeastBookLaw", "book", "(LFeastBook;[J)I"⟩
theorem d_Lw_book_0 : decode method_3_code 0 = .ok (.aload_n 1, 1) := by decide +kernel
theorem d_Lw_book_1 : decode method_3_code 1 = .ok (.iconst 0, 1) := by decide +kernel
theorem d_Lw_book_2 : decode method_3_code 2 = .ok (.aload_n 0, 1) := by decide +kernel
theorem d_Lw_book_3 : decode method_3_code 3 = .ok (.invokevirtual 7, 3) := by decide +kernel
theorem d_Lw_book_6 : decode method_3_code 6 = .ok (.i2l, 1) := by decide +kernel
theorem d_Lw_book_7 : decode method_3_code 7 = .ok (.lastore, 1) := by decide +kernel
theorem d_Lw_book_8 : decode method_3_code 8 = .ok (.goto 6, 3) := by decide +kernel
theorem d_Lw_book_11 : decode method_3_code 11 = .ok (.astore_n 2, 1) := by decide +kernel
theorem d_Lw_book_12 : decode method_3_code 12 = .ok (.iconst 1, 1) := by decide +kernel
theorem d_Lw_book_13 : decode method_3_code 13 = .ok (.ireturn, 1) := by decide +kernel
theorem d_Lw_book_14 : decode method_3_code 14 = .ok (.iconst 0, 1) := by decide +kernel
theorem d_Lw_book_15 : decode method_3_code 15 = .ok (.ireturn, 1) := by decide +kernel
theorem cw_Lw_book : Cond.codeWith y_Lw_book method_3_code 3 (some .int) [(0, 8, 11, 13)] ∈ TT := mT3 68 (by decide +kernel) (by decide +kernel)
theorem st_Lw_book : Cond.static y_Lw_book ∈ TT := mT3 67 (by decide +kernel) (by decide +kernel)
theorem lk_Lw_book : Cond.methodLink "FeastBookLaw" 7 y_FB_book ∈ TT := mT3 70 (by decide +kernel) (by decide +kernel)
set_option maxHeartbeats 4000000 in
set_option maxRecDepth 100000 in
theorem c_Lw_book {l : Launch} {D : va_G} {ad : Nat → Nat} {cA : Nat → ClassId} {sd sv : Nat → Nat} {h : Hp} {N : Nat} {out : Int × Hp} (hI : Inj97 ad) (hst : l.stackTraces = false) (hM : M_Lw_book N h = some out) : Met l y_Lw_book (.codeWith y_Lw_book method_3_code 3 (some .int) [(0, 8, 11, 13)] :: TT) (rmX 11 1 6) (PC D ad cA sd sv h [.ref (ad 0), .ref (ad 96)]) (QI D ad cA out) 1 6 (FA ad) := by
  unfold M_Lw_book at hM
  refine entW (by decide) hI (Nat.le_of_ble_eq_true rfl) ?_
  intro p e s m args below meth c C hr hlk htab hP ls hl
  have C : Cx p s m args c method_3_code 3 "FeastBookLaw" D ad cA sd sv (FA ad) := C
  have hl : lv_has ls 3 [(0, .ref (ad 0)), (1, .ref (ad 96))] := hl
  have w : Wd s D ad cA (FA ad) h s.heap [] := ⟨hP, va_S.rf⟩
  obtain ⟨q, e1, hM⟩ := bnd_some hM
  refine m_aload_n C hl 1 d_Lw_book_0 rfl rfl ?_
  refine m_iconst C d_Lw_book_1 ?_
  refine m_aload_n C hl 0 d_Lw_book_2 rfl rfl ?_
  refine vx_calli (runVX C w.1 w.2 kc_FB sh_0 (Nat.le_of_ble_eq_true rfl) (c_FB_book hI hst e1) lk_Lw_book mb_FB_book rfl ⟨(Nat.le_of_ble_eq_true rfl), (Nat.le_of_ble_eq_true rfl)⟩ ⟨(Nat.le_of_ble_eq_true rfl), (Nat.le_of_ble_eq_true rfl)⟩ (Nat.le_of_ble_eq_true rfl) d_Lw_book_3 hl.1 (rest := [.int (iZ 0), .ref (ad 96)]) rfl) w.2 (fun q _ hq => hq) (fun q hq => hq) (fun q _ hq => hq) (fun E ce q9 u t H locs ht hvm hpx hB hz hk hS hcell hv hcl => ?_) (fun r u t H locs ht hvm hpost hB hz hk hS => ?_)
  · rw [if_neg hpx] at hM
    obtain ⟨rfl, hB⟩ := hB
    have w : Wd s D ad cA (FA ad) q.2.2 H locs := ⟨by rw [← ht]; exact hB, hS⟩
    obtain ⟨k, ek, hM⟩ := bnd_some hM
    by_cases eq : q.1 = 3
    · have ek : k = 1 := by simp [cidx, eq] at ek; omega
      subst ek
      refine vx_catch (name := exN 3) C.2.2.2.1 [] ⟨0, 8, 11, 13⟩ [] (htab.trans rfl) (fun z hz => nomatch hz) (by decide) (by decide) (C.2.2.2.2.1 _ clk_3) (by rw [eq]; exact cast_ok C (by decide)) hcell hv hcl ?_
      refine m_astore_n C hl [(2, .ref q9), (0, .ref (ad 0)), (1, .ref (ad 96))] d_Lw_book_11 rfl (by decide) rfl (fun ls hl => ?_)
      refine m_iconst C d_Lw_book_12 ?_
      exact m_iretC C w hr hlk hM (Nat.le_of_ble_eq_true rfl) (Nat.le_of_ble_eq_true rfl) d_Lw_book_13
    · have hn0 : ¬ q.1 = 3 := eq
      simp [cidx, hn0] at ek
  · rw [if_pos hpost.1] at hM
    have w : Wd s D ad cA (FA ad) q.2.2 H locs := ⟨by rw [← ht]; exact hB, hS⟩
    rw [hpost.2]
    refine m_i2l C d_Lw_book_6 ?_
    refine m_lst C w d_Lw_book_7 (fun H locs w => ?_)
    refine m_goto C 14 d_Lw_book_8 (by decide) ?_
    refine m_iconst C d_Lw_book_14 ?_
    exact m_iretC C w hr hlk hM (Nat.le_of_ble_eq_true rfl) (Nat.le_of_ble_eq_true rfl) d_Lw_book_15
def y_Lw_year : MethodName := ⟨"FeastBookLaw", "year", "(LFeastBook;II[J)I"⟩
theorem d_Lw_year_0 : decode method_4_code 0 = .ok (.aload_n 3, 1) := by decide +kernel
theorem d_Lw_year_1 : decode method_4_code 1 = .ok (.iconst 0, 1) := by decide +kernel
theorem d_Lw_year_2 : decode method_4_code 2 = .ok (.aload_n 0, 1) := by decide +kernel
theorem d_Lw_year_3 : decode method_4_code 3 = .ok (.iload_n 1, 1) := by decide +kernel
theorem d_Lw_year_4 : decode method_4_code 4 = .ok (.iload_n 2, 1) := by decide +kernel
theorem d_Lw_year_5 : decode method_4_code 5 = .ok (.invokevirtual 15, 3) := by decide +kernel
theorem d_Lw_year_8 : decode method_4_code 8 = .ok (.i2l, 1) := by decide +kernel
theorem d_Lw_year_9 : decode method_4_code 9 = .ok (.lastore, 1) := by decide +kernel
theorem d_Lw_year_10 : decode method_4_code 10 = .ok (.goto 11, 3) := by decide +kernel
theorem d_Lw_year_13 : decode method_4_code 13 = .ok (.astore 4, 2) := by decide +kernel
theorem d_Lw_year_15 : decode method_4_code 15 = .ok (.iconst 1, 1) := by decide +kernel
theorem d_Lw_year_16 : decode method_4_code 16 = .ok (.ireturn, 1) := by decide +kernel
theorem d_Lw_year_17 : decode method_4_code 17 = .ok (.astore 4, 2) := by decide +kernel
theorem d_Lw_year_19 : decode method_4_code 19 = .ok (.iconst 2, 1) := by decide +kernel
theorem d_Lw_year_20 : decode method_4_code 20 = .ok (.ireturn, 1) := by decide +kernel
theorem d_Lw_year_21 : decode method_4_code 21 = .ok (.iconst 0, 1) := by decide +kernel
theorem d_Lw_year_22 : decode method_4_code 22 = .ok (.ireturn, 1) := by decide +kernel
theorem cw_Lw_year : Cond.codeWith y_Lw_year method_4_code 5 (some .int) [(0, 10, 13, 19), (0, 10, 17, 21)] ∈ TT := mT4 100 (by decide +kernel) (by decide +kernel)
theorem st_Lw_year : Cond.static y_Lw_year ∈ TT := mT4 99 (by decide +kernel) (by decide +kernel)
theorem lk_Lw_year : Cond.methodLink "FeastBookLaw" 15 y_FB_year ∈ TT := mT4 103 (by decide +kernel) (by decide +kernel)
set_option maxHeartbeats 4000000 in
set_option maxRecDepth 100000 in
theorem c_Lw_year {l : Launch} {D : va_G} {ad : Nat → Nat} {cA : Nat → ClassId} {sd sv : Nat → Nat} {h : Hp} {N : Nat} {a1 a2 : Int} {out : Int × Hp} (hI : Inj97 ad) (hst : l.stackTraces = false) (hM : M_Lw_year N h a1 a2 = some out) : Met l y_Lw_year (.codeWith y_Lw_year method_4_code 5 (some .int) [(0, 10, 13, 19), (0, 10, 17, 21)] :: TT) (rmX 12 2 12) (PC D ad cA sd sv h [.ref (ad 0), .int (iZ a1), .int (iZ a2), .ref (ad 96)]) (QI D ad cA out) 2 12 (FA ad) := by
  unfold M_Lw_year at hM
  refine entW (by decide) hI (Nat.le_of_ble_eq_true rfl) ?_
  intro p e s m args below meth c C hr hlk htab hP ls hl
  have C : Cx p s m args c method_4_code 5 "FeastBookLaw" D ad cA sd sv (FA ad) := C
  have hl : lv_has ls 5 [(0, .ref (ad 0)), (1, .int (iZ a1)), (2, .int (iZ a2)), (3, .ref (ad 96))] := hl
  have w : Wd s D ad cA (FA ad) h s.heap [] := ⟨hP, va_S.rf⟩
  obtain ⟨q, e1, hM⟩ := bnd_some hM
  refine m_aload_n C hl 3 d_Lw_year_0 rfl rfl ?_
  refine m_iconst C d_Lw_year_1 ?_
  refine m_aload_n C hl 0 d_Lw_year_2 rfl rfl ?_
  refine m_iload_n C hl 1 d_Lw_year_3 rfl rfl ?_
  refine m_iload_n C hl 2 d_Lw_year_4 rfl rfl ?_
  refine vx_calli (runVX C w.1 w.2 kc_FB sh_0 (Nat.le_of_ble_eq_true rfl) (c_FB_year hI hst e1) lk_Lw_year mb_FB_year rfl ⟨(Nat.le_of_ble_eq_true rfl), (Nat.le_of_ble_eq_true rfl)⟩ ⟨(Nat.le_of_ble_eq_true rfl), (Nat.le_of_ble_eq_true rfl)⟩ (Nat.le_of_ble_eq_true rfl) d_Lw_year_5 hl.1 (rest := [.int (iZ 0), .ref (ad 96)]) rfl) w.2 (fun q _ hq => hq) (fun q hq => hq) (fun q _ hq => hq) (fun E ce q9 u t H locs ht hvm hpx hB hz hk hS hcell hv hcl => ?_) (fun r u t H locs ht hvm hpost hB hz hk hS => ?_)
  · rw [if_neg hpx] at hM
    obtain ⟨rfl, hB⟩ := hB
    have w : Wd s D ad cA (FA ad) q.2.2 H locs := ⟨by rw [← ht]; exact hB, hS⟩
    obtain ⟨k, ek, hM⟩ := bnd_some hM
    by_cases eq : q.1 = 1
    · have ek : k = 1 := by simp [cidx, eq] at ek; omega
      subst ek
      refine vx_catch (name := exN 1) C.2.2.2.1 [] ⟨0, 10, 13, 19⟩ [⟨0, 10, 17, 21⟩] (htab.trans rfl) (fun z hz => nomatch hz) (by decide) (by decide) (C.2.2.2.2.1 _ clk_1) (by rw [eq]; exact cast_ok C (by decide)) hcell hv hcl ?_
      refine m_astore C hl [(4, .ref q9), (0, .ref (ad 0)), (1, .int (iZ a1)), (2, .int (iZ a2)), (3, .ref (ad 96))] d_Lw_year_13 (by decide) rfl (fun ls hl => ?_)
      refine m_iconst C d_Lw_year_15 ?_
      exact m_iretC C w hr hlk hM (Nat.le_of_ble_eq_true rfl) (Nat.le_of_ble_eq_true rfl) d_Lw_year_16
    · have hn0 : ¬ q.1 = 1 := eq
      by_cases eq : q.1 = 2
      · have ek : k = 2 := by simp [cidx, eq] at ek; omega
        subst ek
        have hps : ∀ z ∈ ([⟨0, 10, 13, 19⟩] : List ExceptionTableEntry), covers z 5 = false ∨ (z.catchType ≠ 0 ∧ ∃ nm : String, (Cond.classLink "FeastBookLaw" z.catchType nm).before args s = true ∧ va_Nc (exN q.1) nm s) := by
          intro z hz
          simp only [List.mem_cons, List.not_mem_nil, or_false] at hz
          rcases hz with rfl
          · exact Or.inr ⟨by decide, exN 1, C.2.2.2.2.1 _ clk_1, pass_ok (a := q.1) (b := 1) C (by rw [eq]; decide +kernel)⟩
        refine vx_catch (name := exN 2) C.2.2.2.1 [⟨0, 10, 13, 19⟩] ⟨0, 10, 17, 21⟩ [] (htab.trans rfl) hps (by decide) (by decide) (C.2.2.2.2.1 _ clk_2) (by rw [eq]; exact cast_ok C (by decide)) hcell hv hcl ?_
        refine m_astore C hl [(4, .ref q9), (0, .ref (ad 0)), (1, .int (iZ a1)), (2, .int (iZ a2)), (3, .ref (ad 96))] d_Lw_year_17 (by decide) rfl (fun ls hl => ?_)
        refine m_iconst C d_Lw_year_19 ?_
        exact m_iretC C w hr hlk hM (Nat.le_of_ble_eq_true rfl) (Nat.le_of_ble_eq_true rfl) d_Lw_year_20
      · have hn1 : ¬ q.1 = 2 := eq
        simp [cidx, hn0, hn1] at ek
  · rw [if_pos hpost.1] at hM
    have w : Wd s D ad cA (FA ad) q.2.2 H locs := ⟨by rw [← ht]; exact hB, hS⟩
    rw [hpost.2]
    refine m_i2l C d_Lw_year_8 ?_
    refine m_lst C w d_Lw_year_9 (fun H locs w => ?_)
    refine m_goto C 21 d_Lw_year_10 (by decide) ?_
    refine m_iconst C d_Lw_year_21 ?_
    exact m_iretC C w hr hlk hM (Nat.le_of_ble_eq_true rfl) (Nat.le_of_ble_eq_true rfl) d_Lw_year_22
def y_Lw_day : MethodName := ⟨"FeastBookLaw", "day", "(LFeastBook;III[J)I"⟩
theorem d_Lw_day_0 : decode method_5_code 0 = .ok (.aload 4, 2) := by decide +kernel
theorem d_Lw_day_2 : decode method_5_code 2 = .ok (.iconst 0, 1) := by decide +kernel
theorem d_Lw_day_3 : decode method_5_code 3 = .ok (.aload_n 0, 1) := by decide +kernel
theorem d_Lw_day_4 : decode method_5_code 4 = .ok (.iload_n 1, 1) := by decide +kernel
theorem d_Lw_day_5 : decode method_5_code 5 = .ok (.iload_n 2, 1) := by decide +kernel
theorem d_Lw_day_6 : decode method_5_code 6 = .ok (.iload_n 3, 1) := by decide +kernel
theorem d_Lw_day_7 : decode method_5_code 7 = .ok (.invokevirtual 23, 3) := by decide +kernel
theorem d_Lw_day_10 : decode method_5_code 10 = .ok (.i2l, 1) := by decide +kernel
theorem d_Lw_day_11 : decode method_5_code 11 = .ok (.lastore, 1) := by decide +kernel
theorem d_Lw_day_12 : decode method_5_code 12 = .ok (.goto 11, 3) := by decide +kernel
theorem d_Lw_day_15 : decode method_5_code 15 = .ok (.astore 5, 2) := by decide +kernel
theorem d_Lw_day_17 : decode method_5_code 17 = .ok (.iconst 1, 1) := by decide +kernel
theorem d_Lw_day_18 : decode method_5_code 18 = .ok (.ireturn, 1) := by decide +kernel
theorem d_Lw_day_19 : decode method_5_code 19 = .ok (.astore 5, 2) := by decide +kernel
theorem d_Lw_day_21 : decode method_5_code 21 = .ok (.iconst 2, 1) := by decide +kernel
theorem d_Lw_day_22 : decode method_5_code 22 = .ok (.ireturn, 1) := by decide +kernel
theorem d_Lw_day_23 : decode method_5_code 23 = .ok (.iconst 0, 1) := by decide +kernel
theorem d_Lw_day_24 : decode method_5_code 24 = .ok (.ireturn, 1) := by decide +kernel
theorem cw_Lw_day : Cond.codeWith y_Lw_day method_5_code 6 (some .int) [(0, 12, 15, 19), (0, 12, 19, 21)] ∈ TT := mT6 86 (by decide +kernel) (by decide +kernel)
theorem st_Lw_day : Cond.static y_Lw_day ∈ TT := mT6 85 (by decide +kernel) (by decide +kernel)
theorem lk_Lw_day : Cond.methodLink "FeastBookLaw" 23 y_FB_day ∈ TT := mT6 87 (by decide +kernel) (by decide +kernel)
set_option maxHeartbeats 4000000 in
set_option maxRecDepth 100000 in
theorem c_Lw_day {l : Launch} {D : va_G} {ad : Nat → Nat} {cA : Nat → ClassId} {sd sv : Nat → Nat} {h : Hp} {N : Nat} {a1 a2 a3 : Int} {out : Int × Hp} (hI : Inj97 ad) (hst : l.stackTraces = false) (hM : M_Lw_day N h a1 a2 a3 = some out) : Met l y_Lw_day (.codeWith y_Lw_day method_5_code 6 (some .int) [(0, 12, 15, 19), (0, 12, 19, 21)] :: TT) (rmX 13 3 18) (PC D ad cA sd sv h [.ref (ad 0), .int (iZ a1), .int (iZ a2), .int (iZ a3), .ref (ad 96)]) (QI D ad cA out) 3 18 (FA ad) := by
  unfold M_Lw_day at hM
  refine entW (by decide) hI (Nat.le_of_ble_eq_true rfl) ?_
  intro p e s m args below meth c C hr hlk htab hP ls hl
  have C : Cx p s m args c method_5_code 6 "FeastBookLaw" D ad cA sd sv (FA ad) := C
  have hl : lv_has ls 6 [(0, .ref (ad 0)), (1, .int (iZ a1)), (2, .int (iZ a2)), (3, .int (iZ a3)), (4, .ref (ad 96))] := hl
  have w : Wd s D ad cA (FA ad) h s.heap [] := ⟨hP, va_S.rf⟩
  obtain ⟨q, e1, hM⟩ := bnd_some hM
  refine m_aload C hl 4 d_Lw_day_0 rfl ?_
  refine m_iconst C d_Lw_day_2 ?_
  refine m_aload_n C hl 0 d_Lw_day_3 rfl rfl ?_
  refine m_iload_n C hl 1 d_Lw_day_4 rfl rfl ?_
  refine m_iload_n C hl 2 d_Lw_day_5 rfl rfl ?_
  refine m_iload_n C hl 3 d_Lw_day_6 rfl rfl ?_
  refine vx_calli (runVX C w.1 w.2 kc_FB sh_0 (Nat.le_of_ble_eq_true rfl) (c_FB_day hI hst e1) lk_Lw_day mb_FB_day rfl ⟨(Nat.le_of_ble_eq_true rfl), (Nat.le_of_ble_eq_true rfl)⟩ ⟨(Nat.le_of_ble_eq_true rfl), (Nat.le_of_ble_eq_true rfl)⟩ (Nat.le_of_ble_eq_true rfl) d_Lw_day_7 hl.1 (rest := [.int (iZ 0), .ref (ad 96)]) rfl) w.2 (fun q _ hq => hq) (fun q hq => hq) (fun q _ hq => hq) (fun E ce q9 u t H locs ht hvm hpx hB hz hk hS hcell hv hcl => ?_) (fun r u t H locs ht hvm hpost hB hz hk hS => ?_)
  · rw [if_neg hpx] at hM
    obtain ⟨rfl, hB⟩ := hB
    have w : Wd s D ad cA (FA ad) q.2.2 H locs := ⟨by rw [← ht]; exact hB, hS⟩
    obtain ⟨k, ek, hM⟩ := bnd_some hM
    by_cases eq : q.1 = 1
    · have ek : k = 1 := by simp [cidx, eq] at ek; omega
      subst ek
      refine vx_catch (name := exN 1) C.2.2.2.1 [] ⟨0, 12, 15, 19⟩ [⟨0, 12, 19, 21⟩] (htab.trans rfl) (fun z hz => nomatch hz) (by decide) (by decide) (C.2.2.2.2.1 _ clk_1) (by rw [eq]; exact cast_ok C (by decide)) hcell hv hcl ?_
      refine m_astore C hl [(5, .ref q9), (0, .ref (ad 0)), (1, .int (iZ a1)), (2, .int (iZ a2)), (3, .int (iZ a3)), (4, .ref (ad 96))] d_Lw_day_15 (by decide) rfl (fun ls hl => ?_)
      refine m_iconst C d_Lw_day_17 ?_
      exact m_iretC C w hr hlk hM (Nat.le_of_ble_eq_true rfl) (Nat.le_of_ble_eq_true rfl) d_Lw_day_18
    · have hn0 : ¬ q.1 = 1 := eq
      by_cases eq : q.1 = 2
      · have ek : k = 2 := by simp [cidx, eq] at ek; omega
        subst ek
        have hps : ∀ z ∈ ([⟨0, 12, 15, 19⟩] : List ExceptionTableEntry), covers z 7 = false ∨ (z.catchType ≠ 0 ∧ ∃ nm : String, (Cond.classLink "FeastBookLaw" z.catchType nm).before args s = true ∧ va_Nc (exN q.1) nm s) := by
          intro z hz
          simp only [List.mem_cons, List.not_mem_nil, or_false] at hz
          rcases hz with rfl
          · exact Or.inr ⟨by decide, exN 1, C.2.2.2.2.1 _ clk_1, pass_ok (a := q.1) (b := 1) C (by rw [eq]; decide +kernel)⟩
        refine vx_catch (name := exN 2) C.2.2.2.1 [⟨0, 12, 15, 19⟩] ⟨0, 12, 19, 21⟩ [] (htab.trans rfl) hps (by decide) (by decide) (C.2.2.2.2.1 _ clk_2) (by rw [eq]; exact cast_ok C (by decide)) hcell hv hcl ?_
        refine m_astore C hl [(5, .ref q9), (0, .ref (ad 0)), (1, .int (iZ a1)), (2, .int (iZ a2)), (3, .int (iZ a3)), (4, .ref (ad 96))] d_Lw_day_19 (by decide) rfl (fun ls hl => ?_)
        refine m_iconst C d_Lw_day_21 ?_
        exact m_iretC C w hr hlk hM (Nat.le_of_ble_eq_true rfl) (Nat.le_of_ble_eq_true rfl) d_Lw_day_22
      · have hn1 : ¬ q.1 = 2 := eq
        simp [cidx, hn0, hn1] at ek
  · rw [if_pos hpost.1] at hM
    have w : Wd s D ad cA (FA ad) q.2.2 H locs := ⟨by rw [← ht]; exact hB, hS⟩
    rw [hpost.2]
    refine m_i2l C d_Lw_day_10 ?_
    refine m_lst C w d_Lw_day_11 (fun H locs w => ?_)
    refine m_goto C 23 d_Lw_day_12 (by decide) ?_
    refine m_iconst C d_Lw_day_23 ?_
    exact m_iretC C w hr hlk hM (Nat.le_of_ble_eq_true rfl) (Nat.le_of_ble_eq_true rfl) d_Lw_day_24
def y_Lw_office : MethodName := ⟨"FeastBookLaw", "office", "(LFeastBook;III[J)I"⟩
theorem d_Lw_office_0 : decode method_6_code 0 = .ok (.aload 4, 2) := by decide +kernel
theorem d_Lw_office_2 : decode method_6_code 2 = .ok (.iconst 0, 1) := by decide +kernel
theorem d_Lw_office_3 : decode method_6_code 3 = .ok (.aload_n 0, 1) := by decide +kernel
theorem d_Lw_office_4 : decode method_6_code 4 = .ok (.iload_n 1, 1) := by decide +kernel
theorem d_Lw_office_5 : decode method_6_code 5 = .ok (.iload_n 2, 1) := by decide +kernel
theorem d_Lw_office_6 : decode method_6_code 6 = .ok (.iload_n 3, 1) := by decide +kernel
theorem d_Lw_office_7 : decode method_6_code 7 = .ok (.invokevirtual 27, 3) := by decide +kernel
theorem d_Lw_office_10 : decode method_6_code 10 = .ok (.i2l, 1) := by decide +kernel
theorem d_Lw_office_11 : decode method_6_code 11 = .ok (.lastore, 1) := by decide +kernel
theorem d_Lw_office_12 : decode method_6_code 12 = .ok (.goto 11, 3) := by decide +kernel
theorem d_Lw_office_15 : decode method_6_code 15 = .ok (.astore 5, 2) := by decide +kernel
theorem d_Lw_office_17 : decode method_6_code 17 = .ok (.iconst 1, 1) := by decide +kernel
theorem d_Lw_office_18 : decode method_6_code 18 = .ok (.ireturn, 1) := by decide +kernel
theorem d_Lw_office_19 : decode method_6_code 19 = .ok (.astore 5, 2) := by decide +kernel
theorem d_Lw_office_21 : decode method_6_code 21 = .ok (.iconst 2, 1) := by decide +kernel
theorem d_Lw_office_22 : decode method_6_code 22 = .ok (.ireturn, 1) := by decide +kernel
theorem d_Lw_office_23 : decode method_6_code 23 = .ok (.iconst 0, 1) := by decide +kernel
theorem d_Lw_office_24 : decode method_6_code 24 = .ok (.ireturn, 1) := by decide +kernel
theorem cw_Lw_office : Cond.codeWith y_Lw_office method_6_code 6 (some .int) [(0, 12, 15, 19), (0, 12, 19, 21)] ∈ TT := mT6 106 (by decide +kernel) (by decide +kernel)
theorem st_Lw_office : Cond.static y_Lw_office ∈ TT := mT6 105 (by decide +kernel) (by decide +kernel)
theorem lk_Lw_office : Cond.methodLink "FeastBookLaw" 27 y_FB_office ∈ TT := mT6 107 (by decide +kernel) (by decide +kernel)
set_option maxHeartbeats 4000000 in
set_option maxRecDepth 100000 in
theorem c_Lw_office {l : Launch} {D : va_G} {ad : Nat → Nat} {cA : Nat → ClassId} {sd sv : Nat → Nat} {h : Hp} {N : Nat} {a1 a2 a3 : Int} {out : Int × Hp} (hI : Inj97 ad) (hst : l.stackTraces = false) (hM : M_Lw_office N h a1 a2 a3 = some out) : Met l y_Lw_office (.codeWith y_Lw_office method_6_code 6 (some .int) [(0, 12, 15, 19), (0, 12, 19, 21)] :: TT) (rmX 13 3 18) (PC D ad cA sd sv h [.ref (ad 0), .int (iZ a1), .int (iZ a2), .int (iZ a3), .ref (ad 96)]) (QI D ad cA out) 3 18 (FA ad) := by
  unfold M_Lw_office at hM
  refine entW (by decide) hI (Nat.le_of_ble_eq_true rfl) ?_
  intro p e s m args below meth c C hr hlk htab hP ls hl
  have C : Cx p s m args c method_6_code 6 "FeastBookLaw" D ad cA sd sv (FA ad) := C
  have hl : lv_has ls 6 [(0, .ref (ad 0)), (1, .int (iZ a1)), (2, .int (iZ a2)), (3, .int (iZ a3)), (4, .ref (ad 96))] := hl
  have w : Wd s D ad cA (FA ad) h s.heap [] := ⟨hP, va_S.rf⟩
  obtain ⟨q, e1, hM⟩ := bnd_some hM
  refine m_aload C hl 4 d_Lw_office_0 rfl ?_
  refine m_iconst C d_Lw_office_2 ?_
  refine m_aload_n C hl 0 d_Lw_office_3 rfl rfl ?_
  refine m_iload_n C hl 1 d_Lw_office_4 rfl rfl ?_
  refine m_iload_n C hl 2 d_Lw_office_5 rfl rfl ?_
  refine m_iload_n C hl 3 d_Lw_office_6 rfl rfl ?_
  refine vx_calli (runVX C w.1 w.2 kc_FB sh_0 (Nat.le_of_ble_eq_true rfl) (c_FB_office hI hst e1) lk_Lw_office mb_FB_office rfl ⟨(Nat.le_of_ble_eq_true rfl), (Nat.le_of_ble_eq_true rfl)⟩ ⟨(Nat.le_of_ble_eq_true rfl), (Nat.le_of_ble_eq_true rfl)⟩ (Nat.le_of_ble_eq_true rfl) d_Lw_office_7 hl.1 (rest := [.int (iZ 0), .ref (ad 96)]) rfl) w.2 (fun q _ hq => hq) (fun q hq => hq) (fun q _ hq => hq) (fun E ce q9 u t H locs ht hvm hpx hB hz hk hS hcell hv hcl => ?_) (fun r u t H locs ht hvm hpost hB hz hk hS => ?_)
  · rw [if_neg hpx] at hM
    obtain ⟨rfl, hB⟩ := hB
    have w : Wd s D ad cA (FA ad) q.2.2 H locs := ⟨by rw [← ht]; exact hB, hS⟩
    obtain ⟨k, ek, hM⟩ := bnd_some hM
    by_cases eq : q.1 = 1
    · have ek : k = 1 := by simp [cidx, eq] at ek; omega
      subst ek
      refine vx_catch (name := exN 1) C.2.2.2.1 [] ⟨0, 12, 15, 19⟩ [⟨0, 12, 19, 21⟩] (htab.trans rfl) (fun z hz => nomatch hz) (by decide) (by decide) (C.2.2.2.2.1 _ clk_1) (by rw [eq]; exact cast_ok C (by decide)) hcell hv hcl ?_
      refine m_astore C hl [(5, .ref q9), (0, .ref (ad 0)), (1, .int (iZ a1)), (2, .int (iZ a2)), (3, .int (iZ a3)), (4, .ref (ad 96))] d_Lw_office_15 (by decide) rfl (fun ls hl => ?_)
      refine m_iconst C d_Lw_office_17 ?_
      exact m_iretC C w hr hlk hM (Nat.le_of_ble_eq_true rfl) (Nat.le_of_ble_eq_true rfl) d_Lw_office_18
    · have hn0 : ¬ q.1 = 1 := eq
      by_cases eq : q.1 = 2
      · have ek : k = 2 := by simp [cidx, eq] at ek; omega
        subst ek
        have hps : ∀ z ∈ ([⟨0, 12, 15, 19⟩] : List ExceptionTableEntry), covers z 7 = false ∨ (z.catchType ≠ 0 ∧ ∃ nm : String, (Cond.classLink "FeastBookLaw" z.catchType nm).before args s = true ∧ va_Nc (exN q.1) nm s) := by
          intro z hz
          simp only [List.mem_cons, List.not_mem_nil, or_false] at hz
          rcases hz with rfl
          · exact Or.inr ⟨by decide, exN 1, C.2.2.2.2.1 _ clk_1, pass_ok (a := q.1) (b := 1) C (by rw [eq]; decide +kernel)⟩
        refine vx_catch (name := exN 2) C.2.2.2.1 [⟨0, 12, 15, 19⟩] ⟨0, 12, 19, 21⟩ [] (htab.trans rfl) hps (by decide) (by decide) (C.2.2.2.2.1 _ clk_2) (by rw [eq]; exact cast_ok C (by decide)) hcell hv hcl ?_
        refine m_astore C hl [(5, .ref q9), (0, .ref (ad 0)), (1, .int (iZ a1)), (2, .int (iZ a2)), (3, .int (iZ a3)), (4, .ref (ad 96))] d_Lw_office_19 (by decide) rfl (fun ls hl => ?_)
        refine m_iconst C d_Lw_office_21 ?_
        exact m_iretC C w hr hlk hM (Nat.le_of_ble_eq_true rfl) (Nat.le_of_ble_eq_true rfl) d_Lw_office_22
      · have hn1 : ¬ q.1 = 2 := eq
        simp [cidx, hn0, hn1] at ek
  · rw [if_pos hpost.1] at hM
    have w : Wd s D ad cA (FA ad) q.2.2 H locs := ⟨by rw [← ht]; exact hB, hS⟩
    rw [hpost.2]
    refine m_i2l C d_Lw_office_10 ?_
    refine m_lst C w d_Lw_office_11 (fun H locs w => ?_)
    refine m_goto C 23 d_Lw_office_12 (by decide) ?_
    refine m_iconst C d_Lw_office_23 ?_
    exact m_iretC C w hr hlk hM (Nat.le_of_ble_eq_true rfl) (Nat.le_of_ble_eq_true rfl) d_Lw_office_24
def y_Lw_base : MethodName := ⟨"FeastBookLaw", "base", "(LFeastBook;III[J)I"⟩
theorem d_Lw_base_0 : decode method_7_code 0 = .ok (.aload 4, 2) := by decide +kernel
theorem d_Lw_base_2 : decode method_7_code 2 = .ok (.iconst 0, 1) := by decide +kernel
theorem d_Lw_base_3 : decode method_7_code 3 = .ok (.aload_n 0, 1) := by decide +kernel
theorem d_Lw_base_4 : decode method_7_code 4 = .ok (.iload_n 1, 1) := by decide +kernel
theorem d_Lw_base_5 : decode method_7_code 5 = .ok (.iload_n 2, 1) := by decide +kernel
theorem d_Lw_base_6 : decode method_7_code 6 = .ok (.iload_n 3, 1) := by decide +kernel
theorem d_Lw_base_7 : decode method_7_code 7 = .ok (.invokevirtual 30, 3) := by decide +kernel
theorem d_Lw_base_10 : decode method_7_code 10 = .ok (.i2l, 1) := by decide +kernel
theorem d_Lw_base_11 : decode method_7_code 11 = .ok (.lastore, 1) := by decide +kernel
theorem d_Lw_base_12 : decode method_7_code 12 = .ok (.goto 11, 3) := by decide +kernel
theorem d_Lw_base_15 : decode method_7_code 15 = .ok (.astore 5, 2) := by decide +kernel
theorem d_Lw_base_17 : decode method_7_code 17 = .ok (.iconst 1, 1) := by decide +kernel
theorem d_Lw_base_18 : decode method_7_code 18 = .ok (.ireturn, 1) := by decide +kernel
theorem d_Lw_base_19 : decode method_7_code 19 = .ok (.astore 5, 2) := by decide +kernel
theorem d_Lw_base_21 : decode method_7_code 21 = .ok (.iconst 2, 1) := by decide +kernel
theorem d_Lw_base_22 : decode method_7_code 22 = .ok (.ireturn, 1) := by decide +kernel
theorem d_Lw_base_23 : decode method_7_code 23 = .ok (.iconst 0, 1) := by decide +kernel
theorem d_Lw_base_24 : decode method_7_code 24 = .ok (.ireturn, 1) := by decide +kernel
theorem cw_Lw_base : Cond.codeWith y_Lw_base method_7_code 6 (some .int) [(0, 12, 15, 19), (0, 12, 19, 21)] ∈ TT := mT6 121 (by decide +kernel) (by decide +kernel)
theorem st_Lw_base : Cond.static y_Lw_base ∈ TT := mT6 120 (by decide +kernel) (by decide +kernel)
theorem lk_Lw_base : Cond.methodLink "FeastBookLaw" 30 y_FB_base ∈ TT := mT6 122 (by decide +kernel) (by decide +kernel)
set_option maxHeartbeats 4000000 in
set_option maxRecDepth 100000 in
theorem c_Lw_base {l : Launch} {D : va_G} {ad : Nat → Nat} {cA : Nat → ClassId} {sd sv : Nat → Nat} {h : Hp} {N : Nat} {a1 a2 a3 : Int} {out : Int × Hp} (hI : Inj97 ad) (hst : l.stackTraces = false) (hM : M_Lw_base N h a1 a2 a3 = some out) : Met l y_Lw_base (.codeWith y_Lw_base method_7_code 6 (some .int) [(0, 12, 15, 19), (0, 12, 19, 21)] :: TT) (rmX 13 3 18) (PC D ad cA sd sv h [.ref (ad 0), .int (iZ a1), .int (iZ a2), .int (iZ a3), .ref (ad 96)]) (QI D ad cA out) 3 18 (FA ad) := by
  unfold M_Lw_base at hM
  refine entW (by decide) hI (Nat.le_of_ble_eq_true rfl) ?_
  intro p e s m args below meth c C hr hlk htab hP ls hl
  have C : Cx p s m args c method_7_code 6 "FeastBookLaw" D ad cA sd sv (FA ad) := C
  have hl : lv_has ls 6 [(0, .ref (ad 0)), (1, .int (iZ a1)), (2, .int (iZ a2)), (3, .int (iZ a3)), (4, .ref (ad 96))] := hl
  have w : Wd s D ad cA (FA ad) h s.heap [] := ⟨hP, va_S.rf⟩
  obtain ⟨q, e1, hM⟩ := bnd_some hM
  refine m_aload C hl 4 d_Lw_base_0 rfl ?_
  refine m_iconst C d_Lw_base_2 ?_
  refine m_aload_n C hl 0 d_Lw_base_3 rfl rfl ?_
  refine m_iload_n C hl 1 d_Lw_base_4 rfl rfl ?_
  refine m_iload_n C hl 2 d_Lw_base_5 rfl rfl ?_
  refine m_iload_n C hl 3 d_Lw_base_6 rfl rfl ?_
  refine vx_calli (runVX C w.1 w.2 kc_FB sh_0 (Nat.le_of_ble_eq_true rfl) (c_FB_base hI hst e1) lk_Lw_base mb_FB_base rfl ⟨(Nat.le_of_ble_eq_true rfl), (Nat.le_of_ble_eq_true rfl)⟩ ⟨(Nat.le_of_ble_eq_true rfl), (Nat.le_of_ble_eq_true rfl)⟩ (Nat.le_of_ble_eq_true rfl) d_Lw_base_7 hl.1 (rest := [.int (iZ 0), .ref (ad 96)]) rfl) w.2 (fun q _ hq => hq) (fun q hq => hq) (fun q _ hq => hq) (fun E ce q9 u t H locs ht hvm hpx hB hz hk hS hcell hv hcl => ?_) (fun r u t H locs ht hvm hpost hB hz hk hS => ?_)
  · rw [if_neg hpx] at hM
    obtain ⟨rfl, hB⟩ := hB
    have w : Wd s D ad cA (FA ad) q.2.2 H locs := ⟨by rw [← ht]; exact hB, hS⟩
    obtain ⟨k, ek, hM⟩ := bnd_some hM
    by_cases eq : q.1 = 1
    · have ek : k = 1 := by simp [cidx, eq] at ek; omega
      subst ek
      refine vx_catch (name := exN 1) C.2.2.2.1 [] ⟨0, 12, 15, 19⟩ [⟨0, 12, 19, 21⟩] (htab.trans rfl) (fun z hz => nomatch hz) (by decide) (by decide) (C.2.2.2.2.1 _ clk_1) (by rw [eq]; exact cast_ok C (by decide)) hcell hv hcl ?_
      refine m_astore C hl [(5, .ref q9), (0, .ref (ad 0)), (1, .int (iZ a1)), (2, .int (iZ a2)), (3, .int (iZ a3)), (4, .ref (ad 96))] d_Lw_base_15 (by decide) rfl (fun ls hl => ?_)
      refine m_iconst C d_Lw_base_17 ?_
      exact m_iretC C w hr hlk hM (Nat.le_of_ble_eq_true rfl) (Nat.le_of_ble_eq_true rfl) d_Lw_base_18
    · have hn0 : ¬ q.1 = 1 := eq
      by_cases eq : q.1 = 2
      · have ek : k = 2 := by simp [cidx, eq] at ek; omega
        subst ek
        have hps : ∀ z ∈ ([⟨0, 12, 15, 19⟩] : List ExceptionTableEntry), covers z 7 = false ∨ (z.catchType ≠ 0 ∧ ∃ nm : String, (Cond.classLink "FeastBookLaw" z.catchType nm).before args s = true ∧ va_Nc (exN q.1) nm s) := by
          intro z hz
          simp only [List.mem_cons, List.not_mem_nil, or_false] at hz
          rcases hz with rfl
          · exact Or.inr ⟨by decide, exN 1, C.2.2.2.2.1 _ clk_1, pass_ok (a := q.1) (b := 1) C (by rw [eq]; decide +kernel)⟩
        refine vx_catch (name := exN 2) C.2.2.2.1 [⟨0, 12, 15, 19⟩] ⟨0, 12, 19, 21⟩ [] (htab.trans rfl) hps (by decide) (by decide) (C.2.2.2.2.1 _ clk_2) (by rw [eq]; exact cast_ok C (by decide)) hcell hv hcl ?_
        refine m_astore C hl [(5, .ref q9), (0, .ref (ad 0)), (1, .int (iZ a1)), (2, .int (iZ a2)), (3, .int (iZ a3)), (4, .ref (ad 96))] d_Lw_base_19 (by decide) rfl (fun ls hl => ?_)
        refine m_iconst C d_Lw_base_21 ?_
        exact m_iretC C w hr hlk hM (Nat.le_of_ble_eq_true rfl) (Nat.le_of_ble_eq_true rfl) d_Lw_base_22
      · have hn1 : ¬ q.1 = 2 := eq
        simp [cidx, hn0, hn1] at ek
  · rw [if_pos hpost.1] at hM
    have w : Wd s D ad cA (FA ad) q.2.2 H locs := ⟨by rw [← ht]; exact hB, hS⟩
    rw [hpost.2]
    refine m_i2l C d_Lw_base_10 ?_
    refine m_lst C w d_Lw_base_11 (fun H locs w => ?_)
    refine m_goto C 23 d_Lw_base_12 (by decide) ?_
    refine m_iconst C d_Lw_base_23 ?_
    exact m_iretC C w hr hlk hM (Nat.le_of_ble_eq_true rfl) (Nat.le_of_ble_eq_true rfl) d_Lw_base_24
def y_Lw_fast : MethodName := ⟨"FeastBookLaw", "fast", "(LFeastBook;II[J)I"⟩
theorem d_Lw_fast_0 : decode method_8_code 0 = .ok (.aload_n 3, 1) := by decide +kernel
theorem d_Lw_fast_1 : decode method_8_code 1 = .ok (.iconst 0, 1) := by decide +kernel
theorem d_Lw_fast_2 : decode method_8_code 2 = .ok (.aload_n 0, 1) := by decide +kernel
theorem d_Lw_fast_3 : decode method_8_code 3 = .ok (.iload_n 1, 1) := by decide +kernel
theorem d_Lw_fast_4 : decode method_8_code 4 = .ok (.iload_n 2, 1) := by decide +kernel
theorem d_Lw_fast_5 : decode method_8_code 5 = .ok (.invokevirtual 33, 3) := by decide +kernel
theorem d_Lw_fast_8 : decode method_8_code 8 = .ok (.ifCond .eq 7, 3) := by decide +kernel
theorem d_Lw_fast_11 : decode method_8_code 11 = .ok (.lconst 1, 1) := by decide +kernel
theorem d_Lw_fast_12 : decode method_8_code 12 = .ok (.goto 4, 3) := by decide +kernel
theorem d_Lw_fast_15 : decode method_8_code 15 = .ok (.lconst 0, 1) := by decide +kernel
theorem d_Lw_fast_16 : decode method_8_code 16 = .ok (.lastore, 1) := by decide +kernel
theorem d_Lw_fast_17 : decode method_8_code 17 = .ok (.goto 7, 3) := by decide +kernel
theorem d_Lw_fast_20 : decode method_8_code 20 = .ok (.astore 4, 2) := by decide +kernel
theorem d_Lw_fast_22 : decode method_8_code 22 = .ok (.iconst 1, 1) := by decide +kernel
theorem d_Lw_fast_23 : decode method_8_code 23 = .ok (.ireturn, 1) := by decide +kernel
theorem d_Lw_fast_24 : decode method_8_code 24 = .ok (.iconst 0, 1) := by decide +kernel
theorem d_Lw_fast_25 : decode method_8_code 25 = .ok (.ireturn, 1) := by decide +kernel
theorem cw_Lw_fast : Cond.codeWith y_Lw_fast method_8_code 5 (some .int) [(0, 17, 20, 19)] ∈ TT := mT6 128 (by decide +kernel) (by decide +kernel)
theorem st_Lw_fast : Cond.static y_Lw_fast ∈ TT := mT6 127 (by decide +kernel) (by decide +kernel)
theorem lk_Lw_fast : Cond.methodLink "FeastBookLaw" 33 y_FB_fast ∈ TT := mT6 129 (by decide +kernel) (by decide +kernel)
set_option maxHeartbeats 4000000 in
set_option maxRecDepth 100000 in
theorem c_Lw_fast {l : Launch} {D : va_G} {ad : Nat → Nat} {cA : Nat → ClassId} {sd sv : Nat → Nat} {h : Hp} {N : Nat} {a1 a2 : Int} {out : Int × Hp} (hI : Inj97 ad) (hst : l.stackTraces = false) (hM : M_Lw_fast N h a1 a2 = some out) : Met l y_Lw_fast (.codeWith y_Lw_fast method_8_code 5 (some .int) [(0, 17, 20, 19)] :: TT) (rmX 13 2 12) (PC D ad cA sd sv h [.ref (ad 0), .int (iZ a1), .int (iZ a2), .ref (ad 96)]) (QI D ad cA out) 2 12 (FA ad) := by
  unfold M_Lw_fast at hM
  refine entW (by decide) hI (Nat.le_of_ble_eq_true rfl) ?_
  intro p e s m args below meth c C hr hlk htab hP ls hl
  have C : Cx p s m args c method_8_code 5 "FeastBookLaw" D ad cA sd sv (FA ad) := C
  have hl : lv_has ls 5 [(0, .ref (ad 0)), (1, .int (iZ a1)), (2, .int (iZ a2)), (3, .ref (ad 96))] := hl
  have w : Wd s D ad cA (FA ad) h s.heap [] := ⟨hP, va_S.rf⟩
  obtain ⟨q, e1, hM⟩ := bnd_some hM
  refine m_aload_n C hl 3 d_Lw_fast_0 rfl rfl ?_
  refine m_iconst C d_Lw_fast_1 ?_
  refine m_aload_n C hl 0 d_Lw_fast_2 rfl rfl ?_
  refine m_iload_n C hl 1 d_Lw_fast_3 rfl rfl ?_
  refine m_iload_n C hl 2 d_Lw_fast_4 rfl rfl ?_
  refine vx_calli (runVX C w.1 w.2 kc_FB sh_0 (Nat.le_of_ble_eq_true rfl) (c_FB_fast hI hst e1) lk_Lw_fast mb_FB_fast rfl ⟨(Nat.le_of_ble_eq_true rfl), (Nat.le_of_ble_eq_true rfl)⟩ ⟨(Nat.le_of_ble_eq_true rfl), (Nat.le_of_ble_eq_true rfl)⟩ (Nat.le_of_ble_eq_true rfl) d_Lw_fast_5 hl.1 (rest := [.int (iZ 0), .ref (ad 96)]) rfl) w.2 (fun q _ hq => hq) (fun q hq => hq) (fun q _ hq => hq) (fun E ce q9 u t H locs ht hvm hpx hB hz hk hS hcell hv hcl => ?_) (fun r u t H locs ht hvm hpost hB hz hk hS => ?_)
  · rw [if_neg hpx] at hM
    obtain ⟨rfl, hB⟩ := hB
    have w : Wd s D ad cA (FA ad) q.2.2 H locs := ⟨by rw [← ht]; exact hB, hS⟩
    obtain ⟨k, ek, hM⟩ := bnd_some hM
    by_cases eq : q.1 = 1
    · have ek : k = 1 := by simp [cidx, eq] at ek; omega
      subst ek
      refine vx_catch (name := exN 1) C.2.2.2.1 [] ⟨0, 17, 20, 19⟩ [] (htab.trans rfl) (fun z hz => nomatch hz) (by decide) (by decide) (C.2.2.2.2.1 _ clk_1) (by rw [eq]; exact cast_ok C (by decide)) hcell hv hcl ?_
      refine m_astore C hl [(4, .ref q9), (0, .ref (ad 0)), (1, .int (iZ a1)), (2, .int (iZ a2)), (3, .ref (ad 96))] d_Lw_fast_20 (by decide) rfl (fun ls hl => ?_)
      refine m_iconst C d_Lw_fast_22 ?_
      exact m_iretC C w hr hlk hM (Nat.le_of_ble_eq_true rfl) (Nat.le_of_ble_eq_true rfl) d_Lw_fast_23
    · have hn0 : ¬ q.1 = 1 := eq
      simp [cidx, hn0] at ek
  · rw [if_pos hpost.1] at hM
    have w : Wd s D ad cA (FA ad) q.2.2 H locs := ⟨by rw [← ht]; exact hB, hS⟩
    rw [hpost.2]
    refine lv_if_eq C.1 C.2.1 d_Lw_fast_8 (tgt := 15) (by decide) (fun hc => ?_) (fun hc => ?_)
    · have hM : some ((0, hs q.2.2 96 0 0) : Int × Hp) = some out := by rw [← hM]; unfold bz01; rw [if_pos (show eqb q.2.1 0 = true from decide_eq_true hc)]
      refine lv_lconst (v := Int64.ofInt 0) C.1 C.2.1 d_Lw_fast_15 (by decide) ?_
      refine m_lst C w d_Lw_fast_16 (fun H locs w => ?_)
      refine m_goto C 24 d_Lw_fast_17 (by decide) ?_
      refine m_iconst C d_Lw_fast_24 ?_
      exact m_iretC C w hr hlk hM (Nat.le_of_ble_eq_true rfl) (Nat.le_of_ble_eq_true rfl) d_Lw_fast_25
    · have hM : some ((0, hs q.2.2 96 0 1) : Int × Hp) = some out := by rw [← hM]; unfold bz01; rw [if_neg (show ¬ eqb q.2.1 0 = true from fun z => hc (of_decide_eq_true z))]
      refine lv_lconst (v := Int64.ofInt 1) C.1 C.2.1 d_Lw_fast_11 (by decide) ?_
      refine m_goto C 16 d_Lw_fast_12 (by decide) ?_
      refine m_lst C w d_Lw_fast_16 (fun H locs w => ?_)
      refine m_goto C 24 d_Lw_fast_17 (by decide) ?_
      refine m_iconst C d_Lw_fast_24 ?_
      exact m_iretC C w hr hlk hM (Nat.le_of_ble_eq_true rfl) (Nat.le_of_ble_eq_true rfl) d_Lw_fast_25
def y_Lw_lesson : MethodName := ⟨"FeastBookLaw", "lesson", "(LFeastBook;II[J)I"⟩
theorem d_Lw_lesson_0 : decode method_9_code 0 = .ok (.aload_n 3, 1) := by decide +kernel
theorem d_Lw_lesson_1 : decode method_9_code 1 = .ok (.iconst 0, 1) := by decide +kernel
theorem d_Lw_lesson_2 : decode method_9_code 2 = .ok (.aload_n 0, 1) := by decide +kernel
theorem d_Lw_lesson_3 : decode method_9_code 3 = .ok (.iload_n 1, 1) := by decide +kernel
theorem d_Lw_lesson_4 : decode method_9_code 4 = .ok (.iload_n 2, 1) := by decide +kernel
theorem d_Lw_lesson_5 : decode method_9_code 5 = .ok (.invokevirtual 37, 3) := by decide +kernel
theorem d_Lw_lesson_8 : decode method_9_code 8 = .ok (.i2l, 1) := by decide +kernel
theorem d_Lw_lesson_9 : decode method_9_code 9 = .ok (.lastore, 1) := by decide +kernel
theorem d_Lw_lesson_10 : decode method_9_code 10 = .ok (.goto 7, 3) := by decide +kernel
theorem d_Lw_lesson_13 : decode method_9_code 13 = .ok (.astore 4, 2) := by decide +kernel
theorem d_Lw_lesson_15 : decode method_9_code 15 = .ok (.iconst 1, 1) := by decide +kernel
theorem d_Lw_lesson_16 : decode method_9_code 16 = .ok (.ireturn, 1) := by decide +kernel
theorem d_Lw_lesson_17 : decode method_9_code 17 = .ok (.iconst 0, 1) := by decide +kernel
theorem d_Lw_lesson_18 : decode method_9_code 18 = .ok (.ireturn, 1) := by decide +kernel
theorem cw_Lw_lesson : Cond.codeWith y_Lw_lesson method_9_code 5 (some .int) [(0, 10, 13, 19)] ∈ TT := mT6 136 (by decide +kernel) (by decide +kernel)
theorem st_Lw_lesson : Cond.static y_Lw_lesson ∈ TT := mT6 135 (by decide +kernel) (by decide +kernel)
theorem lk_Lw_lesson : Cond.methodLink "FeastBookLaw" 37 y_FB_lesson ∈ TT := mT6 137 (by decide +kernel) (by decide +kernel)
set_option maxHeartbeats 4000000 in
set_option maxRecDepth 100000 in
theorem c_Lw_lesson {l : Launch} {D : va_G} {ad : Nat → Nat} {cA : Nat → ClassId} {sd sv : Nat → Nat} {h : Hp} {N : Nat} {a1 a2 : Int} {out : Int × Hp} (hI : Inj97 ad) (hst : l.stackTraces = false) (hM : M_Lw_lesson N h a1 a2 = some out) : Met l y_Lw_lesson (.codeWith y_Lw_lesson method_9_code 5 (some .int) [(0, 10, 13, 19)] :: TT) (rmX 13 2 12) (PC D ad cA sd sv h [.ref (ad 0), .int (iZ a1), .int (iZ a2), .ref (ad 96)]) (QI D ad cA out) 2 12 (FA ad) := by
  unfold M_Lw_lesson at hM
  refine entW (by decide) hI (Nat.le_of_ble_eq_true rfl) ?_
  intro p e s m args below meth c C hr hlk htab hP ls hl
  have C : Cx p s m args c method_9_code 5 "FeastBookLaw" D ad cA sd sv (FA ad) := C
  have hl : lv_has ls 5 [(0, .ref (ad 0)), (1, .int (iZ a1)), (2, .int (iZ a2)), (3, .ref (ad 96))] := hl
  have w : Wd s D ad cA (FA ad) h s.heap [] := ⟨hP, va_S.rf⟩
  obtain ⟨q, e1, hM⟩ := bnd_some hM
  refine m_aload_n C hl 3 d_Lw_lesson_0 rfl rfl ?_
  refine m_iconst C d_Lw_lesson_1 ?_
  refine m_aload_n C hl 0 d_Lw_lesson_2 rfl rfl ?_
  refine m_iload_n C hl 1 d_Lw_lesson_3 rfl rfl ?_
  refine m_iload_n C hl 2 d_Lw_lesson_4 rfl rfl ?_
  refine vx_calli (runVX C w.1 w.2 kc_FB sh_0 (Nat.le_of_ble_eq_true rfl) (c_FB_lesson hI hst e1) lk_Lw_lesson mb_FB_lesson rfl ⟨(Nat.le_of_ble_eq_true rfl), (Nat.le_of_ble_eq_true rfl)⟩ ⟨(Nat.le_of_ble_eq_true rfl), (Nat.le_of_ble_eq_true rfl)⟩ (Nat.le_of_ble_eq_true rfl) d_Lw_lesson_5 hl.1 (rest := [.int (iZ 0), .ref (ad 96)]) rfl) w.2 (fun q _ hq => hq) (fun q hq => hq) (fun q _ hq => hq) (fun E ce q9 u t H locs ht hvm hpx hB hz hk hS hcell hv hcl => ?_) (fun r u t H locs ht hvm hpost hB hz hk hS => ?_)
  · rw [if_neg hpx] at hM
    obtain ⟨rfl, hB⟩ := hB
    have w : Wd s D ad cA (FA ad) q.2.2 H locs := ⟨by rw [← ht]; exact hB, hS⟩
    obtain ⟨k, ek, hM⟩ := bnd_some hM
    by_cases eq : q.1 = 1
    · have ek : k = 1 := by simp [cidx, eq] at ek; omega
      subst ek
      refine vx_catch (name := exN 1) C.2.2.2.1 [] ⟨0, 10, 13, 19⟩ [] (htab.trans rfl) (fun z hz => nomatch hz) (by decide) (by decide) (C.2.2.2.2.1 _ clk_1) (by rw [eq]; exact cast_ok C (by decide)) hcell hv hcl ?_
      refine m_astore C hl [(4, .ref q9), (0, .ref (ad 0)), (1, .int (iZ a1)), (2, .int (iZ a2)), (3, .ref (ad 96))] d_Lw_lesson_13 (by decide) rfl (fun ls hl => ?_)
      refine m_iconst C d_Lw_lesson_15 ?_
      exact m_iretC C w hr hlk hM (Nat.le_of_ble_eq_true rfl) (Nat.le_of_ble_eq_true rfl) d_Lw_lesson_16
    · have hn0 : ¬ q.1 = 1 := eq
      simp [cidx, hn0] at ek
  · rw [if_pos hpost.1] at hM
    have w : Wd s D ad cA (FA ad) q.2.2 H locs := ⟨by rw [← ht]; exact hB, hS⟩
    rw [hpost.2]
    refine m_i2l C d_Lw_lesson_8 ?_
    refine m_lst C w d_Lw_lesson_9 (fun H locs w => ?_)
    refine m_goto C 17 d_Lw_lesson_10 (by decide) ?_
    refine m_iconst C d_Lw_lesson_17 ?_
    exact m_iretC C w hr hlk hM (Nat.le_of_ble_eq_true rfl) (Nat.le_of_ble_eq_true rfl) d_Lw_lesson_18
def y_Lw_joined : MethodName := ⟨"FeastBookLaw", "joined", "(LFeastBook;II[J)I"⟩
theorem d_Lw_joined_0 : decode method_10_code 0 = .ok (.aload_n 3, 1) := by decide +kernel
theorem d_Lw_joined_1 : decode method_10_code 1 = .ok (.iconst 0, 1) := by decide +kernel
theorem d_Lw_joined_2 : decode method_10_code 2 = .ok (.aload_n 0, 1) := by decide +kernel
theorem d_Lw_joined_3 : decode method_10_code 3 = .ok (.iload_n 1, 1) := by decide +kernel
theorem d_Lw_joined_4 : decode method_10_code 4 = .ok (.iload_n 2, 1) := by decide +kernel
theorem d_Lw_joined_5 : decode method_10_code 5 = .ok (.invokevirtual 40, 3) := by decide +kernel
theorem d_Lw_joined_8 : decode method_10_code 8 = .ok (.i2l, 1) := by decide +kernel
theorem d_Lw_joined_9 : decode method_10_code 9 = .ok (.lastore, 1) := by decide +kernel
theorem d_Lw_joined_10 : decode method_10_code 10 = .ok (.goto 7, 3) := by decide +kernel
theorem d_Lw_joined_13 : decode method_10_code 13 = .ok (.astore 4, 2) := by decide +kernel
theorem d_Lw_joined_15 : decode method_10_code 15 = .ok (.iconst 1, 1) := by decide +kernel
theorem d_Lw_joined_16 : decode method_10_code 16 = .ok (.ireturn, 1) := by decide +kernel
theorem d_Lw_joined_17 : decode method_10_code 17 = .ok (.iconst 0, 1) := by decide +kernel
theorem d_Lw_joined_18 : decode method_10_code 18 = .ok (.ireturn, 1) := by decide +kernel
theorem cw_Lw_joined : Cond.codeWith y_Lw_joined method_10_code 5 (some .int) [(0, 10, 13, 19)] ∈ TT := mT6 145 (by decide +kernel) (by decide +kernel)
theorem st_Lw_joined : Cond.static y_Lw_joined ∈ TT := mT6 144 (by decide +kernel) (by decide +kernel)
theorem lk_Lw_joined : Cond.methodLink "FeastBookLaw" 40 y_FB_joined ∈ TT := mT6 146 (by decide +kernel) (by decide +kernel)
set_option maxHeartbeats 4000000 in
set_option maxRecDepth 100000 in
theorem c_Lw_joined {l : Launch} {D : va_G} {ad : Nat → Nat} {cA : Nat → ClassId} {sd sv : Nat → Nat} {h : Hp} {N : Nat} {a1 a2 : Int} {out : Int × Hp} (hI : Inj97 ad) (hst : l.stackTraces = false) (hM : M_Lw_joined N h a1 a2 = some out) : Met l y_Lw_joined (.codeWith y_Lw_joined method_10_code 5 (some .int) [(0, 10, 13, 19)] :: TT) (rmX 13 2 12) (PC D ad cA sd sv h [.ref (ad 0), .int (iZ a1), .int (iZ a2), .ref (ad 96)]) (QI D ad cA out) 2 12 (FA ad) := by
  unfold M_Lw_joined at hM
  refine entW (by decide) hI (Nat.le_of_ble_eq_true rfl) ?_
  intro p e s m args below meth c C hr hlk htab hP ls hl
  have C : Cx p s m args c method_10_code 5 "FeastBookLaw" D ad cA sd sv (FA ad) := C
  have hl : lv_has ls 5 [(0, .ref (ad 0)), (1, .int (iZ a1)), (2, .int (iZ a2)), (3, .ref (ad 96))] := hl
  have w : Wd s D ad cA (FA ad) h s.heap [] := ⟨hP, va_S.rf⟩
  obtain ⟨q, e1, hM⟩ := bnd_some hM
  refine m_aload_n C hl 3 d_Lw_joined_0 rfl rfl ?_
  refine m_iconst C d_Lw_joined_1 ?_
  refine m_aload_n C hl 0 d_Lw_joined_2 rfl rfl ?_
  refine m_iload_n C hl 1 d_Lw_joined_3 rfl rfl ?_
  refine m_iload_n C hl 2 d_Lw_joined_4 rfl rfl ?_
  refine vx_calli (runVX C w.1 w.2 kc_FB sh_0 (Nat.le_of_ble_eq_true rfl) (c_FB_joined hI hst e1) lk_Lw_joined mb_FB_joined rfl ⟨(Nat.le_of_ble_eq_true rfl), (Nat.le_of_ble_eq_true rfl)⟩ ⟨(Nat.le_of_ble_eq_true rfl), (Nat.le_of_ble_eq_true rfl)⟩ (Nat.le_of_ble_eq_true rfl) d_Lw_joined_5 hl.1 (rest := [.int (iZ 0), .ref (ad 96)]) rfl) w.2 (fun q _ hq => hq) (fun q hq => hq) (fun q _ hq => hq) (fun E ce q9 u t H locs ht hvm hpx hB hz hk hS hcell hv hcl => ?_) (fun r u t H locs ht hvm hpost hB hz hk hS => ?_)
  · rw [if_neg hpx] at hM
    obtain ⟨rfl, hB⟩ := hB
    have w : Wd s D ad cA (FA ad) q.2.2 H locs := ⟨by rw [← ht]; exact hB, hS⟩
    obtain ⟨k, ek, hM⟩ := bnd_some hM
    by_cases eq : q.1 = 1
    · have ek : k = 1 := by simp [cidx, eq] at ek; omega
      subst ek
      refine vx_catch (name := exN 1) C.2.2.2.1 [] ⟨0, 10, 13, 19⟩ [] (htab.trans rfl) (fun z hz => nomatch hz) (by decide) (by decide) (C.2.2.2.2.1 _ clk_1) (by rw [eq]; exact cast_ok C (by decide)) hcell hv hcl ?_
      refine m_astore C hl [(4, .ref q9), (0, .ref (ad 0)), (1, .int (iZ a1)), (2, .int (iZ a2)), (3, .ref (ad 96))] d_Lw_joined_13 (by decide) rfl (fun ls hl => ?_)
      refine m_iconst C d_Lw_joined_15 ?_
      exact m_iretC C w hr hlk hM (Nat.le_of_ble_eq_true rfl) (Nat.le_of_ble_eq_true rfl) d_Lw_joined_16
    · have hn0 : ¬ q.1 = 1 := eq
      simp [cidx, hn0] at ek
  · rw [if_pos hpost.1] at hM
    have w : Wd s D ad cA (FA ad) q.2.2 H locs := ⟨by rw [← ht]; exact hB, hS⟩
    rw [hpost.2]
    refine m_i2l C d_Lw_joined_8 ?_
    refine m_lst C w d_Lw_joined_9 (fun H locs w => ?_)
    refine m_goto C 17 d_Lw_joined_10 (by decide) ?_
    refine m_iconst C d_Lw_joined_17 ?_
    exact m_iretC C w hr hlk hM (Nat.le_of_ble_eq_true rfl) (Nat.le_of_ble_eq_true rfl) d_Lw_joined_18
def y_Lw_feast : MethodName := ⟨"FeastBookLaw", "feast", "(LFeastBook;II[J)I"⟩
theorem d_Lw_feast_0 : decode method_11_code 0 = .ok (.aload_n 3, 1) := by decide +kernel
theorem d_Lw_feast_1 : decode method_11_code 1 = .ok (.iconst 0, 1) := by decide +kernel
theorem d_Lw_feast_2 : decode method_11_code 2 = .ok (.aload_n 0, 1) := by decide +kernel
theorem d_Lw_feast_3 : decode method_11_code 3 = .ok (.iload_n 1, 1) := by decide +kernel
theorem d_Lw_feast_4 : decode method_11_code 4 = .ok (.iload_n 2, 1) := by decide +kernel
theorem d_Lw_feast_5 : decode method_11_code 5 = .ok (.invokevirtual 43, 3) := by decide +kernel
theorem d_Lw_feast_8 : decode method_11_code 8 = .ok (.i2l, 1) := by decide +kernel
theorem d_Lw_feast_9 : decode method_11_code 9 = .ok (.lastore, 1) := by decide +kernel
theorem d_Lw_feast_10 : decode method_11_code 10 = .ok (.goto 11, 3) := by decide +kernel
theorem d_Lw_feast_13 : decode method_11_code 13 = .ok (.astore 4, 2) := by decide +kernel
theorem d_Lw_feast_15 : decode method_11_code 15 = .ok (.iconst 1, 1) := by decide +kernel
theorem d_Lw_feast_16 : decode method_11_code 16 = .ok (.ireturn, 1) := by decide +kernel
theorem d_Lw_feast_17 : decode method_11_code 17 = .ok (.astore 4, 2) := by decide +kernel
theorem d_Lw_feast_19 : decode method_11_code 19 = .ok (.iconst 2, 1) := by decide +kernel
theorem d_Lw_feast_20 : decode method_11_code 20 = .ok (.ireturn, 1) := by decide +kernel
theorem d_Lw_feast_21 : decode method_11_code 21 = .ok (.iconst 0, 1) := by decide +kernel
theorem d_Lw_feast_22 : decode method_11_code 22 = .ok (.ireturn, 1) := by decide +kernel
theorem cw_Lw_feast : Cond.codeWith y_Lw_feast method_11_code 5 (some .int) [(0, 10, 13, 19), (0, 10, 17, 21)] ∈ TT := mT6 153 (by decide +kernel) (by decide +kernel)
theorem st_Lw_feast : Cond.static y_Lw_feast ∈ TT := mT6 152 (by decide +kernel) (by decide +kernel)
theorem lk_Lw_feast : Cond.methodLink "FeastBookLaw" 43 y_FB_feast ∈ TT := mT6 154 (by decide +kernel) (by decide +kernel)
set_option maxHeartbeats 4000000 in
set_option maxRecDepth 100000 in
theorem c_Lw_feast {l : Launch} {D : va_G} {ad : Nat → Nat} {cA : Nat → ClassId} {sd sv : Nat → Nat} {h : Hp} {a1 a2 : Int} {out : Int × Hp} (hI : Inj97 ad) (hst : l.stackTraces = false) (hM : M_Lw_feast h a1 a2 = some out) : Met l y_Lw_feast (.codeWith y_Lw_feast method_11_code 5 (some .int) [(0, 10, 13, 19), (0, 10, 17, 21)] :: TT) (rmX 12 2 12) (PC D ad cA sd sv h [.ref (ad 0), .int (iZ a1), .int (iZ a2), .ref (ad 96)]) (QI D ad cA out) 2 12 (FA ad) := by
  unfold M_Lw_feast at hM
  refine entW (by decide) hI (Nat.le_of_ble_eq_true rfl) ?_
  intro p e s m args below meth c C hr hlk htab hP ls hl
  have C : Cx p s m args c method_11_code 5 "FeastBookLaw" D ad cA sd sv (FA ad) := C
  have hl : lv_has ls 5 [(0, .ref (ad 0)), (1, .int (iZ a1)), (2, .int (iZ a2)), (3, .ref (ad 96))] := hl
  have w : Wd s D ad cA (FA ad) h s.heap [] := ⟨hP, va_S.rf⟩
  obtain ⟨q, e1, hM⟩ := bnd_some hM
  refine m_aload_n C hl 3 d_Lw_feast_0 rfl rfl ?_
  refine m_iconst C d_Lw_feast_1 ?_
  refine m_aload_n C hl 0 d_Lw_feast_2 rfl rfl ?_
  refine m_iload_n C hl 1 d_Lw_feast_3 rfl rfl ?_
  refine m_iload_n C hl 2 d_Lw_feast_4 rfl rfl ?_
  refine vx_calli (runVX C w.1 w.2 kc_FB sh_0 (Nat.le_of_ble_eq_true rfl) (c_FB_feast hI hst e1) lk_Lw_feast mb_FB_feast rfl ⟨(Nat.le_of_ble_eq_true rfl), (Nat.le_of_ble_eq_true rfl)⟩ ⟨(Nat.le_of_ble_eq_true rfl), (Nat.le_of_ble_eq_true rfl)⟩ (Nat.le_of_ble_eq_true rfl) d_Lw_feast_5 hl.1 (rest := [.int (iZ 0), .ref (ad 96)]) rfl) w.2 (fun q _ hq => hq) (fun q hq => hq) (fun q _ hq => hq) (fun E ce q9 u t H locs ht hvm hpx hB hz hk hS hcell hv hcl => ?_) (fun r u t H locs ht hvm hpost hB hz hk hS => ?_)
  · rw [if_neg hpx] at hM
    obtain ⟨rfl, hB⟩ := hB
    have w : Wd s D ad cA (FA ad) q.2.2 H locs := ⟨by rw [← ht]; exact hB, hS⟩
    obtain ⟨k, ek, hM⟩ := bnd_some hM
    by_cases eq : q.1 = 1
    · have ek : k = 1 := by simp [cidx, eq] at ek; omega
      subst ek
      refine vx_catch (name := exN 1) C.2.2.2.1 [] ⟨0, 10, 13, 19⟩ [⟨0, 10, 17, 21⟩] (htab.trans rfl) (fun z hz => nomatch hz) (by decide) (by decide) (C.2.2.2.2.1 _ clk_1) (by rw [eq]; exact cast_ok C (by decide)) hcell hv hcl ?_
      refine m_astore C hl [(4, .ref q9), (0, .ref (ad 0)), (1, .int (iZ a1)), (2, .int (iZ a2)), (3, .ref (ad 96))] d_Lw_feast_13 (by decide) rfl (fun ls hl => ?_)
      refine m_iconst C d_Lw_feast_15 ?_
      exact m_iretC C w hr hlk hM (Nat.le_of_ble_eq_true rfl) (Nat.le_of_ble_eq_true rfl) d_Lw_feast_16
    · have hn0 : ¬ q.1 = 1 := eq
      by_cases eq : q.1 = 2
      · have ek : k = 2 := by simp [cidx, eq] at ek; omega
        subst ek
        have hps : ∀ z ∈ ([⟨0, 10, 13, 19⟩] : List ExceptionTableEntry), covers z 5 = false ∨ (z.catchType ≠ 0 ∧ ∃ nm : String, (Cond.classLink "FeastBookLaw" z.catchType nm).before args s = true ∧ va_Nc (exN q.1) nm s) := by
          intro z hz
          simp only [List.mem_cons, List.not_mem_nil, or_false] at hz
          rcases hz with rfl
          · exact Or.inr ⟨by decide, exN 1, C.2.2.2.2.1 _ clk_1, pass_ok (a := q.1) (b := 1) C (by rw [eq]; decide +kernel)⟩
        refine vx_catch (name := exN 2) C.2.2.2.1 [⟨0, 10, 13, 19⟩] ⟨0, 10, 17, 21⟩ [] (htab.trans rfl) hps (by decide) (by decide) (C.2.2.2.2.1 _ clk_2) (by rw [eq]; exact cast_ok C (by decide)) hcell hv hcl ?_
        refine m_astore C hl [(4, .ref q9), (0, .ref (ad 0)), (1, .int (iZ a1)), (2, .int (iZ a2)), (3, .ref (ad 96))] d_Lw_feast_17 (by decide) rfl (fun ls hl => ?_)
        refine m_iconst C d_Lw_feast_19 ?_
        exact m_iretC C w hr hlk hM (Nat.le_of_ble_eq_true rfl) (Nat.le_of_ble_eq_true rfl) d_Lw_feast_20
      · have hn1 : ¬ q.1 = 2 := eq
        simp [cidx, hn0, hn1] at ek
  · rw [if_pos hpost.1] at hM
    have w : Wd s D ad cA (FA ad) q.2.2 H locs := ⟨by rw [← ht]; exact hB, hS⟩
    rw [hpost.2]
    refine m_i2l C d_Lw_feast_8 ?_
    refine m_lst C w d_Lw_feast_9 (fun H locs w => ?_)
    refine m_goto C 21 d_Lw_feast_10 (by decide) ?_
    refine m_iconst C d_Lw_feast_21 ?_
    exact m_iretC C w hr hlk hM (Nat.le_of_ble_eq_true rfl) (Nat.le_of_ble_eq_true rfl) d_Lw_feast_22
def y_Lw_of : MethodName := ⟨"FeastBookLaw", "of", "(LFeastBook;III[J)I"⟩
theorem d_Lw_of_0 : decode method_12_code 0 = .ok (.aload 4, 2) := by decide +kernel
theorem d_Lw_of_2 : decode method_12_code 2 = .ok (.iconst 0, 1) := by decide +kernel
theorem d_Lw_of_3 : decode method_12_code 3 = .ok (.aload_n 0, 1) := by decide +kernel
theorem d_Lw_of_4 : decode method_12_code 4 = .ok (.iload_n 1, 1) := by decide +kernel
theorem d_Lw_of_5 : decode method_12_code 5 = .ok (.iload_n 2, 1) := by decide +kernel
theorem d_Lw_of_6 : decode method_12_code 6 = .ok (.iload_n 3, 1) := by decide +kernel
theorem d_Lw_of_7 : decode method_12_code 7 = .ok (.invokevirtual 46, 3) := by decide +kernel
theorem d_Lw_of_10 : decode method_12_code 10 = .ok (.i2l, 1) := by decide +kernel
theorem d_Lw_of_11 : decode method_12_code 11 = .ok (.lastore, 1) := by decide +kernel
theorem d_Lw_of_12 : decode method_12_code 12 = .ok (.goto 11, 3) := by decide +kernel
theorem d_Lw_of_15 : decode method_12_code 15 = .ok (.astore 5, 2) := by decide +kernel
theorem d_Lw_of_17 : decode method_12_code 17 = .ok (.iconst 1, 1) := by decide +kernel
theorem d_Lw_of_18 : decode method_12_code 18 = .ok (.ireturn, 1) := by decide +kernel
theorem d_Lw_of_19 : decode method_12_code 19 = .ok (.astore 5, 2) := by decide +kernel
theorem d_Lw_of_21 : decode method_12_code 21 = .ok (.iconst 2, 1) := by decide +kernel
theorem d_Lw_of_22 : decode method_12_code 22 = .ok (.ireturn, 1) := by decide +kernel
theorem d_Lw_of_23 : decode method_12_code 23 = .ok (.iconst 0, 1) := by decide +kernel
theorem d_Lw_of_24 : decode method_12_code 24 = .ok (.ireturn, 1) := by decide +kernel
theorem cw_Lw_of : Cond.codeWith y_Lw_of method_12_code 6 (some .int) [(0, 12, 15, 19), (0, 12, 19, 21)] ∈ TT := mT6 166 (by decide +kernel) (by decide +kernel)
theorem st_Lw_of : Cond.static y_Lw_of ∈ TT := mT6 165 (by decide +kernel) (by decide +kernel)
theorem lk_Lw_of : Cond.methodLink "FeastBookLaw" 46 y_FB_of ∈ TT := mT6 167 (by decide +kernel) (by decide +kernel)
set_option maxHeartbeats 4000000 in
set_option maxRecDepth 100000 in
theorem c_Lw_of {l : Launch} {D : va_G} {ad : Nat → Nat} {cA : Nat → ClassId} {sd sv : Nat → Nat} {h : Hp} {N : Nat} {a1 a2 a3 : Int} {out : Int × Hp} (hI : Inj97 ad) (hst : l.stackTraces = false) (hM : M_Lw_of N h a1 a2 a3 = some out) : Met l y_Lw_of (.codeWith y_Lw_of method_12_code 6 (some .int) [(0, 12, 15, 19), (0, 12, 19, 21)] :: TT) (rmX 12 3 18) (PC D ad cA sd sv h [.ref (ad 0), .int (iZ a1), .int (iZ a2), .int (iZ a3), .ref (ad 96)]) (QI D ad cA out) 3 18 (FA ad) := by
  unfold M_Lw_of at hM
  refine entW (by decide) hI (Nat.le_of_ble_eq_true rfl) ?_
  intro p e s m args below meth c C hr hlk htab hP ls hl
  have C : Cx p s m args c method_12_code 6 "FeastBookLaw" D ad cA sd sv (FA ad) := C
  have hl : lv_has ls 6 [(0, .ref (ad 0)), (1, .int (iZ a1)), (2, .int (iZ a2)), (3, .int (iZ a3)), (4, .ref (ad 96))] := hl
  have w : Wd s D ad cA (FA ad) h s.heap [] := ⟨hP, va_S.rf⟩
  obtain ⟨q, e1, hM⟩ := bnd_some hM
  refine m_aload C hl 4 d_Lw_of_0 rfl ?_
  refine m_iconst C d_Lw_of_2 ?_
  refine m_aload_n C hl 0 d_Lw_of_3 rfl rfl ?_
  refine m_iload_n C hl 1 d_Lw_of_4 rfl rfl ?_
  refine m_iload_n C hl 2 d_Lw_of_5 rfl rfl ?_
  refine m_iload_n C hl 3 d_Lw_of_6 rfl rfl ?_
  refine vx_calli (runVX C w.1 w.2 kc_FB sh_0 (Nat.le_of_ble_eq_true rfl) (c_FB_of hI hst e1) lk_Lw_of mb_FB_of rfl ⟨(Nat.le_of_ble_eq_true rfl), (Nat.le_of_ble_eq_true rfl)⟩ ⟨(Nat.le_of_ble_eq_true rfl), (Nat.le_of_ble_eq_true rfl)⟩ (Nat.le_of_ble_eq_true rfl) d_Lw_of_7 hl.1 (rest := [.int (iZ 0), .ref (ad 96)]) rfl) w.2 (fun q _ hq => hq) (fun q hq => hq) (fun q _ hq => hq) (fun E ce q9 u t H locs ht hvm hpx hB hz hk hS hcell hv hcl => ?_) (fun r u t H locs ht hvm hpost hB hz hk hS => ?_)
  · rw [if_neg hpx] at hM
    obtain ⟨rfl, hB⟩ := hB
    have w : Wd s D ad cA (FA ad) q.2.2 H locs := ⟨by rw [← ht]; exact hB, hS⟩
    obtain ⟨k, ek, hM⟩ := bnd_some hM
    by_cases eq : q.1 = 1
    · have ek : k = 1 := by simp [cidx, eq] at ek; omega
      subst ek
      refine vx_catch (name := exN 1) C.2.2.2.1 [] ⟨0, 12, 15, 19⟩ [⟨0, 12, 19, 21⟩] (htab.trans rfl) (fun z hz => nomatch hz) (by decide) (by decide) (C.2.2.2.2.1 _ clk_1) (by rw [eq]; exact cast_ok C (by decide)) hcell hv hcl ?_
      refine m_astore C hl [(5, .ref q9), (0, .ref (ad 0)), (1, .int (iZ a1)), (2, .int (iZ a2)), (3, .int (iZ a3)), (4, .ref (ad 96))] d_Lw_of_15 (by decide) rfl (fun ls hl => ?_)
      refine m_iconst C d_Lw_of_17 ?_
      exact m_iretC C w hr hlk hM (Nat.le_of_ble_eq_true rfl) (Nat.le_of_ble_eq_true rfl) d_Lw_of_18
    · have hn0 : ¬ q.1 = 1 := eq
      by_cases eq : q.1 = 2
      · have ek : k = 2 := by simp [cidx, eq] at ek; omega
        subst ek
        have hps : ∀ z ∈ ([⟨0, 12, 15, 19⟩] : List ExceptionTableEntry), covers z 7 = false ∨ (z.catchType ≠ 0 ∧ ∃ nm : String, (Cond.classLink "FeastBookLaw" z.catchType nm).before args s = true ∧ va_Nc (exN q.1) nm s) := by
          intro z hz
          simp only [List.mem_cons, List.not_mem_nil, or_false] at hz
          rcases hz with rfl
          · exact Or.inr ⟨by decide, exN 1, C.2.2.2.2.1 _ clk_1, pass_ok (a := q.1) (b := 1) C (by rw [eq]; decide +kernel)⟩
        refine vx_catch (name := exN 2) C.2.2.2.1 [⟨0, 12, 15, 19⟩] ⟨0, 12, 19, 21⟩ [] (htab.trans rfl) hps (by decide) (by decide) (C.2.2.2.2.1 _ clk_2) (by rw [eq]; exact cast_ok C (by decide)) hcell hv hcl ?_
        refine m_astore C hl [(5, .ref q9), (0, .ref (ad 0)), (1, .int (iZ a1)), (2, .int (iZ a2)), (3, .int (iZ a3)), (4, .ref (ad 96))] d_Lw_of_19 (by decide) rfl (fun ls hl => ?_)
        refine m_iconst C d_Lw_of_21 ?_
        exact m_iretC C w hr hlk hM (Nat.le_of_ble_eq_true rfl) (Nat.le_of_ble_eq_true rfl) d_Lw_of_22
      · have hn1 : ¬ q.1 = 2 := eq
        simp [cidx, hn0, hn1] at ek
  · rw [if_pos hpost.1] at hM
    have w : Wd s D ad cA (FA ad) q.2.2 H locs := ⟨by rw [← ht]; exact hB, hS⟩
    rw [hpost.2]
    refine m_i2l C d_Lw_of_10 ?_
    refine m_lst C w d_Lw_of_11 (fun H locs w => ?_)
    refine m_goto C 23 d_Lw_of_12 (by decide) ?_
    refine m_iconst C d_Lw_of_23 ?_
    exact m_iretC C w hr hlk hM (Nat.le_of_ble_eq_true rfl) (Nat.le_of_ble_eq_true rfl) d_Lw_of_24
def y_Lw_rank : MethodName := ⟨"FeastBookLaw", "rank", "(LFeastBook;II[J)I"⟩
theorem d_Lw_rank_0 : decode method_13_code 0 = .ok (.aload_n 3, 1) := by decide +kernel
theorem d_Lw_rank_1 : decode method_13_code 1 = .ok (.iconst 0, 1) := by decide +kernel
theorem d_Lw_rank_2 : decode method_13_code 2 = .ok (.aload_n 0, 1) := by decide +kernel
theorem d_Lw_rank_3 : decode method_13_code 3 = .ok (.iload_n 1, 1) := by decide +kernel
theorem d_Lw_rank_4 : decode method_13_code 4 = .ok (.iload_n 2, 1) := by decide +kernel
theorem d_Lw_rank_5 : decode method_13_code 5 = .ok (.invokevirtual 49, 3) := by decide +kernel
theorem d_Lw_rank_8 : decode method_13_code 8 = .ok (.i2l, 1) := by decide +kernel
theorem d_Lw_rank_9 : decode method_13_code 9 = .ok (.lastore, 1) := by decide +kernel
theorem d_Lw_rank_10 : decode method_13_code 10 = .ok (.goto 11, 3) := by decide +kernel
theorem d_Lw_rank_13 : decode method_13_code 13 = .ok (.astore 4, 2) := by decide +kernel
theorem d_Lw_rank_15 : decode method_13_code 15 = .ok (.iconst 1, 1) := by decide +kernel
theorem d_Lw_rank_16 : decode method_13_code 16 = .ok (.ireturn, 1) := by decide +kernel
theorem d_Lw_rank_17 : decode method_13_code 17 = .ok (.astore 4, 2) := by decide +kernel
theorem d_Lw_rank_19 : decode method_13_code 19 = .ok (.iconst 2, 1) := by decide +kernel
theorem d_Lw_rank_20 : decode method_13_code 20 = .ok (.ireturn, 1) := by decide +kernel
theorem d_Lw_rank_21 : decode method_13_code 21 = .ok (.iconst 0, 1) := by decide +kernel
theorem d_Lw_rank_22 : decode method_13_code 22 = .ok (.ireturn, 1) := by decide +kernel
theorem cw_Lw_rank : Cond.codeWith y_Lw_rank method_13_code 5 (some .int) [(0, 10, 13, 19), (0, 10, 17, 13)] ∈ TT := mT6 182 (by decide +kernel) (by decide +kernel)
theorem st_Lw_rank : Cond.static y_Lw_rank ∈ TT := mT6 181 (by decide +kernel) (by decide +kernel)
theorem lk_Lw_rank : Cond.methodLink "FeastBookLaw" 49 y_FB_rank ∈ TT := mT6 183 (by decide +kernel) (by decide +kernel)
set_option maxHeartbeats 4000000 in
set_option maxRecDepth 100000 in
theorem c_Lw_rank {l : Launch} {D : va_G} {ad : Nat → Nat} {cA : Nat → ClassId} {sd sv : Nat → Nat} {h : Hp} {N : Nat} {a1 a2 : Int} {out : Int × Hp} (hI : Inj97 ad) (hst : l.stackTraces = false) (hM : M_Lw_rank N h a1 a2 = some out) : Met l y_Lw_rank (.codeWith y_Lw_rank method_13_code 5 (some .int) [(0, 10, 13, 19), (0, 10, 17, 13)] :: TT) (rmX 12 2 12) (PC D ad cA sd sv h [.ref (ad 0), .int (iZ a1), .int (iZ a2), .ref (ad 96)]) (QI D ad cA out) 2 12 (FA ad) := by
  unfold M_Lw_rank at hM
  refine entW (by decide) hI (Nat.le_of_ble_eq_true rfl) ?_
  intro p e s m args below meth c C hr hlk htab hP ls hl
  have C : Cx p s m args c method_13_code 5 "FeastBookLaw" D ad cA sd sv (FA ad) := C
  have hl : lv_has ls 5 [(0, .ref (ad 0)), (1, .int (iZ a1)), (2, .int (iZ a2)), (3, .ref (ad 96))] := hl
  have w : Wd s D ad cA (FA ad) h s.heap [] := ⟨hP, va_S.rf⟩
  obtain ⟨q, e1, hM⟩ := bnd_some hM
  refine m_aload_n C hl 3 d_Lw_rank_0 rfl rfl ?_
  refine m_iconst C d_Lw_rank_1 ?_
  refine m_aload_n C hl 0 d_Lw_rank_2 rfl rfl ?_
  refine m_iload_n C hl 1 d_Lw_rank_3 rfl rfl ?_
  refine m_iload_n C hl 2 d_Lw_rank_4 rfl rfl ?_
  refine vx_calli (runVX C w.1 w.2 kc_FB sh_0 (Nat.le_of_ble_eq_true rfl) (c_FB_rank hI hst e1) lk_Lw_rank mb_FB_rank rfl ⟨(Nat.le_of_ble_eq_true rfl), (Nat.le_of_ble_eq_true rfl)⟩ ⟨(Nat.le_of_ble_eq_true rfl), (Nat.le_of_ble_eq_true rfl)⟩ (Nat.le_of_ble_eq_true rfl) d_Lw_rank_5 hl.1 (rest := [.int (iZ 0), .ref (ad 96)]) rfl) w.2 (fun q _ hq => hq) (fun q hq => hq) (fun q _ hq => hq) (fun E ce q9 u t H locs ht hvm hpx hB hz hk hS hcell hv hcl => ?_) (fun r u t H locs ht hvm hpost hB hz hk hS => ?_)
  · rw [if_neg hpx] at hM
    obtain ⟨rfl, hB⟩ := hB
    have w : Wd s D ad cA (FA ad) q.2.2 H locs := ⟨by rw [← ht]; exact hB, hS⟩
    obtain ⟨k, ek, hM⟩ := bnd_some hM
    by_cases eq : q.1 = 1
    · have ek : k = 1 := by simp [cidx, eq] at ek; omega
      subst ek
      refine vx_catch (name := exN 1) C.2.2.2.1 [] ⟨0, 10, 13, 19⟩ [⟨0, 10, 17, 13⟩] (htab.trans rfl) (fun z hz => nomatch hz) (by decide) (by decide) (C.2.2.2.2.1 _ clk_1) (by rw [eq]; exact cast_ok C (by decide)) hcell hv hcl ?_
      refine m_astore C hl [(4, .ref q9), (0, .ref (ad 0)), (1, .int (iZ a1)), (2, .int (iZ a2)), (3, .ref (ad 96))] d_Lw_rank_13 (by decide) rfl (fun ls hl => ?_)
      refine m_iconst C d_Lw_rank_15 ?_
      exact m_iretC C w hr hlk hM (Nat.le_of_ble_eq_true rfl) (Nat.le_of_ble_eq_true rfl) d_Lw_rank_16
    · have hn0 : ¬ q.1 = 1 := eq
      by_cases eq : q.1 = 3
      · have ek : k = 2 := by simp [cidx, eq] at ek; omega
        subst ek
        have hps : ∀ z ∈ ([⟨0, 10, 13, 19⟩] : List ExceptionTableEntry), covers z 5 = false ∨ (z.catchType ≠ 0 ∧ ∃ nm : String, (Cond.classLink "FeastBookLaw" z.catchType nm).before args s = true ∧ va_Nc (exN q.1) nm s) := by
          intro z hz
          simp only [List.mem_cons, List.not_mem_nil, or_false] at hz
          rcases hz with rfl
          · exact Or.inr ⟨by decide, exN 1, C.2.2.2.2.1 _ clk_1, pass_ok (a := q.1) (b := 1) C (by rw [eq]; decide +kernel)⟩
        refine vx_catch (name := exN 3) C.2.2.2.1 [⟨0, 10, 13, 19⟩] ⟨0, 10, 17, 13⟩ [] (htab.trans rfl) hps (by decide) (by decide) (C.2.2.2.2.1 _ clk_3) (by rw [eq]; exact cast_ok C (by decide)) hcell hv hcl ?_
        refine m_astore C hl [(4, .ref q9), (0, .ref (ad 0)), (1, .int (iZ a1)), (2, .int (iZ a2)), (3, .ref (ad 96))] d_Lw_rank_17 (by decide) rfl (fun ls hl => ?_)
        refine m_iconst C d_Lw_rank_19 ?_
        exact m_iretC C w hr hlk hM (Nat.le_of_ble_eq_true rfl) (Nat.le_of_ble_eq_true rfl) d_Lw_rank_20
      · have hn1 : ¬ q.1 = 3 := eq
        simp [cidx, hn0, hn1] at ek
  · rw [if_pos hpost.1] at hM
    have w : Wd s D ad cA (FA ad) q.2.2 H locs := ⟨by rw [← ht]; exact hB, hS⟩
    rw [hpost.2]
    refine m_i2l C d_Lw_rank_8 ?_
    refine m_lst C w d_Lw_rank_9 (fun H locs w => ?_)
    refine m_goto C 21 d_Lw_rank_10 (by decide) ?_
    refine m_iconst C d_Lw_rank_21 ?_
    exact m_iretC C w hr hlk hM (Nat.le_of_ble_eq_true rfl) (Nat.le_of_ble_eq_true rfl) d_Lw_rank_22
def y_Lw_law : MethodName := ⟨"FeastBookLaw", "law", "(LFeastBook;II[J)I"⟩
theorem d_Lw_law_0 : decode method_14_code 0 = .ok (.aload_n 3, 1) := by decide +kernel
theorem d_Lw_law_1 : decode method_14_code 1 = .ok (.iconst 0, 1) := by decide +kernel
theorem d_Lw_law_2 : decode method_14_code 2 = .ok (.aload_n 0, 1) := by decide +kernel
theorem d_Lw_law_3 : decode method_14_code 3 = .ok (.iload_n 1, 1) := by decide +kernel
theorem d_Lw_law_4 : decode method_14_code 4 = .ok (.iload_n 2, 1) := by decide +kernel
theorem d_Lw_law_5 : decode method_14_code 5 = .ok (.invokevirtual 52, 3) := by decide +kernel
theorem d_Lw_law_8 : decode method_14_code 8 = .ok (.i2l, 1) := by decide +kernel
theorem d_Lw_law_9 : decode method_14_code 9 = .ok (.lastore, 1) := by decide +kernel
theorem d_Lw_law_10 : decode method_14_code 10 = .ok (.goto 11, 3) := by decide +kernel
theorem d_Lw_law_13 : decode method_14_code 13 = .ok (.astore 4, 2) := by decide +kernel
theorem d_Lw_law_15 : decode method_14_code 15 = .ok (.iconst 1, 1) := by decide +kernel
theorem d_Lw_law_16 : decode method_14_code 16 = .ok (.ireturn, 1) := by decide +kernel
theorem d_Lw_law_17 : decode method_14_code 17 = .ok (.astore 4, 2) := by decide +kernel
theorem d_Lw_law_19 : decode method_14_code 19 = .ok (.iconst 2, 1) := by decide +kernel
theorem d_Lw_law_20 : decode method_14_code 20 = .ok (.ireturn, 1) := by decide +kernel
theorem d_Lw_law_21 : decode method_14_code 21 = .ok (.iconst 0, 1) := by decide +kernel
theorem d_Lw_law_22 : decode method_14_code 22 = .ok (.ireturn, 1) := by decide +kernel
theorem cw_Lw_law : Cond.codeWith y_Lw_law method_14_code 5 (some .int) [(0, 10, 13, 19), (0, 10, 17, 13)] ∈ TT := mT6 212 (by decide +kernel) (by decide +kernel)
theorem st_Lw_law : Cond.static y_Lw_law ∈ TT := mT6 211 (by decide +kernel) (by decide +kernel)
theorem lk_Lw_law : Cond.methodLink "FeastBookLaw" 52 y_FB_law ∈ TT := mT6 213 (by decide +kernel) (by decide +kernel)
set_option maxHeartbeats 4000000 in
set_option maxRecDepth 100000 in
theorem c_Lw_law {l : Launch} {D : va_G} {ad : Nat → Nat} {cA : Nat → ClassId} {sd sv : Nat → Nat} {h : Hp} {a1 a2 : Int} {out : Int × Hp} (hI : Inj97 ad) (hst : l.stackTraces = false) (hM : M_Lw_law h a1 a2 = some out) : Met l y_Lw_law (.codeWith y_Lw_law method_14_code 5 (some .int) [(0, 10, 13, 19), (0, 10, 17, 13)] :: TT) (rmX 12 2 12) (PC D ad cA sd sv h [.ref (ad 0), .int (iZ a1), .int (iZ a2), .ref (ad 96)]) (QI D ad cA out) 2 12 (FA ad) := by
  unfold M_Lw_law at hM
  refine entW (by decide) hI (Nat.le_of_ble_eq_true rfl) ?_
  intro p e s m args below meth c C hr hlk htab hP ls hl
  have C : Cx p s m args c method_14_code 5 "FeastBookLaw" D ad cA sd sv (FA ad) := C
  have hl : lv_has ls 5 [(0, .ref (ad 0)), (1, .int (iZ a1)), (2, .int (iZ a2)), (3, .ref (ad 96))] := hl
  have w : Wd s D ad cA (FA ad) h s.heap [] := ⟨hP, va_S.rf⟩
  obtain ⟨q, e1, hM⟩ := bnd_some hM
  refine m_aload_n C hl 3 d_Lw_law_0 rfl rfl ?_
  refine m_iconst C d_Lw_law_1 ?_
  refine m_aload_n C hl 0 d_Lw_law_2 rfl rfl ?_
  refine m_iload_n C hl 1 d_Lw_law_3 rfl rfl ?_
  refine m_iload_n C hl 2 d_Lw_law_4 rfl rfl ?_
  refine vx_calli (runVX C w.1 w.2 kc_FB sh_0 (Nat.le_of_ble_eq_true rfl) (c_FB_law hI hst e1) lk_Lw_law mb_FB_law rfl ⟨(Nat.le_of_ble_eq_true rfl), (Nat.le_of_ble_eq_true rfl)⟩ ⟨(Nat.le_of_ble_eq_true rfl), (Nat.le_of_ble_eq_true rfl)⟩ (Nat.le_of_ble_eq_true rfl) d_Lw_law_5 hl.1 (rest := [.int (iZ 0), .ref (ad 96)]) rfl) w.2 (fun q _ hq => hq) (fun q hq => hq) (fun q _ hq => hq) (fun E ce q9 u t H locs ht hvm hpx hB hz hk hS hcell hv hcl => ?_) (fun r u t H locs ht hvm hpost hB hz hk hS => ?_)
  · rw [if_neg hpx] at hM
    obtain ⟨rfl, hB⟩ := hB
    have w : Wd s D ad cA (FA ad) q.2.2 H locs := ⟨by rw [← ht]; exact hB, hS⟩
    obtain ⟨k, ek, hM⟩ := bnd_some hM
    by_cases eq : q.1 = 1
    · have ek : k = 1 := by simp [cidx, eq] at ek; omega
      subst ek
      refine vx_catch (name := exN 1) C.2.2.2.1 [] ⟨0, 10, 13, 19⟩ [⟨0, 10, 17, 13⟩] (htab.trans rfl) (fun z hz => nomatch hz) (by decide) (by decide) (C.2.2.2.2.1 _ clk_1) (by rw [eq]; exact cast_ok C (by decide)) hcell hv hcl ?_
      refine m_astore C hl [(4, .ref q9), (0, .ref (ad 0)), (1, .int (iZ a1)), (2, .int (iZ a2)), (3, .ref (ad 96))] d_Lw_law_13 (by decide) rfl (fun ls hl => ?_)
      refine m_iconst C d_Lw_law_15 ?_
      exact m_iretC C w hr hlk hM (Nat.le_of_ble_eq_true rfl) (Nat.le_of_ble_eq_true rfl) d_Lw_law_16
    · have hn0 : ¬ q.1 = 1 := eq
      by_cases eq : q.1 = 3
      · have ek : k = 2 := by simp [cidx, eq] at ek; omega
        subst ek
        have hps : ∀ z ∈ ([⟨0, 10, 13, 19⟩] : List ExceptionTableEntry), covers z 5 = false ∨ (z.catchType ≠ 0 ∧ ∃ nm : String, (Cond.classLink "FeastBookLaw" z.catchType nm).before args s = true ∧ va_Nc (exN q.1) nm s) := by
          intro z hz
          simp only [List.mem_cons, List.not_mem_nil, or_false] at hz
          rcases hz with rfl
          · exact Or.inr ⟨by decide, exN 1, C.2.2.2.2.1 _ clk_1, pass_ok (a := q.1) (b := 1) C (by rw [eq]; decide +kernel)⟩
        refine vx_catch (name := exN 3) C.2.2.2.1 [⟨0, 10, 13, 19⟩] ⟨0, 10, 17, 13⟩ [] (htab.trans rfl) hps (by decide) (by decide) (C.2.2.2.2.1 _ clk_3) (by rw [eq]; exact cast_ok C (by decide)) hcell hv hcl ?_
        refine m_astore C hl [(4, .ref q9), (0, .ref (ad 0)), (1, .int (iZ a1)), (2, .int (iZ a2)), (3, .ref (ad 96))] d_Lw_law_17 (by decide) rfl (fun ls hl => ?_)
        refine m_iconst C d_Lw_law_19 ?_
        exact m_iretC C w hr hlk hM (Nat.le_of_ble_eq_true rfl) (Nat.le_of_ble_eq_true rfl) d_Lw_law_20
      · have hn1 : ¬ q.1 = 3 := eq
        simp [cidx, hn0, hn1] at ek
  · rw [if_pos hpost.1] at hM
    have w : Wd s D ad cA (FA ad) q.2.2 H locs := ⟨by rw [← ht]; exact hB, hS⟩
    rw [hpost.2]
    refine m_i2l C d_Lw_law_8 ?_
    refine m_lst C w d_Lw_law_9 (fun H locs w => ?_)
    refine m_goto C 21 d_Lw_law_10 (by decide) ?_
    refine m_iconst C d_Lw_law_21 ?_
    exact m_iretC C w hr hlk hM (Nat.le_of_ble_eq_true rfl) (Nat.le_of_ble_eq_true rfl) d_Lw_law_22
def y_Lw_put : MethodName := ⟨"FeastBookLaw", "put", "(LFeastBook;III[J)I"⟩
theorem d_Lw_put_0 : decode method_15_code 0 = .ok (.aload 4, 2) := by decide +kernel
theorem d_Lw_put_2 : decode method_15_code 2 = .ok (.iconst 0, 1) := by decide +kernel
theorem d_Lw_put_3 : decode method_15_code 3 = .ok (.aload_n 0, 1) := by decide +kernel
theorem d_Lw_put_4 : decode method_15_code 4 = .ok (.iload_n 1, 1) := by decide +kernel
theorem d_Lw_put_5 : decode method_15_code 5 = .ok (.iload_n 2, 1) := by decide +kernel
theorem d_Lw_put_6 : decode method_15_code 6 = .ok (.iload_n 3, 1) := by decide +kernel
theorem d_Lw_put_7 : decode method_15_code 7 = .ok (.invokevirtual 55, 3) := by decide +kernel
theorem d_Lw_put_10 : decode method_15_code 10 = .ok (.i2l, 1) := by decide +kernel
theorem d_Lw_put_11 : decode method_15_code 11 = .ok (.lastore, 1) := by decide +kernel
theorem d_Lw_put_12 : decode method_15_code 12 = .ok (.goto 11, 3) := by decide +kernel
theorem d_Lw_put_15 : decode method_15_code 15 = .ok (.astore 5, 2) := by decide +kernel
theorem d_Lw_put_17 : decode method_15_code 17 = .ok (.iconst 1, 1) := by decide +kernel
theorem d_Lw_put_18 : decode method_15_code 18 = .ok (.ireturn, 1) := by decide +kernel
theorem d_Lw_put_19 : decode method_15_code 19 = .ok (.astore 5, 2) := by decide +kernel
theorem d_Lw_put_21 : decode method_15_code 21 = .ok (.iconst 2, 1) := by decide +kernel
theorem d_Lw_put_22 : decode method_15_code 22 = .ok (.ireturn, 1) := by decide +kernel
theorem d_Lw_put_23 : decode method_15_code 23 = .ok (.iconst 0, 1) := by decide +kernel
theorem d_Lw_put_24 : decode method_15_code 24 = .ok (.ireturn, 1) := by decide +kernel
theorem cw_Lw_put : Cond.codeWith y_Lw_put method_15_code 6 (some .int) [(0, 12, 15, 19), (0, 12, 19, 13)] ∈ TT := mT6 223 (by decide +kernel) (by decide +kernel)
theorem st_Lw_put : Cond.static y_Lw_put ∈ TT := mT6 222 (by decide +kernel) (by decide +kernel)
theorem lk_Lw_put : Cond.methodLink "FeastBookLaw" 55 y_FB_put ∈ TT := mT6 224 (by decide +kernel) (by decide +kernel)
set_option maxHeartbeats 4000000 in
set_option maxRecDepth 100000 in
theorem c_Lw_put {l : Launch} {D : va_G} {ad : Nat → Nat} {cA : Nat → ClassId} {sd sv : Nat → Nat} {h : Hp} {a1 a2 a3 : Int} {out : Int × Hp} (hI : Inj97 ad) (hst : l.stackTraces = false) (hM : M_Lw_put h a1 a2 a3 = some out) : Met l y_Lw_put (.codeWith y_Lw_put method_15_code 6 (some .int) [(0, 12, 15, 19), (0, 12, 19, 13)] :: TT) (rmX 12 2 12) (PC D ad cA sd sv h [.ref (ad 0), .int (iZ a1), .int (iZ a2), .int (iZ a3), .ref (ad 96)]) (QI D ad cA out) 2 12 (FA ad) := by
  unfold M_Lw_put at hM
  refine entW (by decide) hI (Nat.le_of_ble_eq_true rfl) ?_
  intro p e s m args below meth c C hr hlk htab hP ls hl
  have C : Cx p s m args c method_15_code 6 "FeastBookLaw" D ad cA sd sv (FA ad) := C
  have hl : lv_has ls 6 [(0, .ref (ad 0)), (1, .int (iZ a1)), (2, .int (iZ a2)), (3, .int (iZ a3)), (4, .ref (ad 96))] := hl
  have w : Wd s D ad cA (FA ad) h s.heap [] := ⟨hP, va_S.rf⟩
  obtain ⟨q, e1, hM⟩ := bnd_some hM
  refine m_aload C hl 4 d_Lw_put_0 rfl ?_
  refine m_iconst C d_Lw_put_2 ?_
  refine m_aload_n C hl 0 d_Lw_put_3 rfl rfl ?_
  refine m_iload_n C hl 1 d_Lw_put_4 rfl rfl ?_
  refine m_iload_n C hl 2 d_Lw_put_5 rfl rfl ?_
  refine m_iload_n C hl 3 d_Lw_put_6 rfl rfl ?_
  refine vx_calli (runVX C w.1 w.2 kc_FB sh_0 (Nat.le_of_ble_eq_true rfl) (c_FB_put hI hst e1) lk_Lw_put mb_FB_put rfl ⟨(Nat.le_of_ble_eq_true rfl), (Nat.le_of_ble_eq_true rfl)⟩ ⟨(Nat.le_of_ble_eq_true rfl), (Nat.le_of_ble_eq_true rfl)⟩ (Nat.le_of_ble_eq_true rfl) d_Lw_put_7 hl.1 (rest := [.int (iZ 0), .ref (ad 96)]) rfl) w.2 (fun q _ hq => hq) (fun q hq => hq) (fun q _ hq => hq) (fun E ce q9 u t H locs ht hvm hpx hB hz hk hS hcell hv hcl => ?_) (fun r u t H locs ht hvm hpost hB hz hk hS => ?_)
  · rw [if_neg hpx] at hM
    obtain ⟨rfl, hB⟩ := hB
    have w : Wd s D ad cA (FA ad) q.2.2 H locs := ⟨by rw [← ht]; exact hB, hS⟩
    obtain ⟨k, ek, hM⟩ := bnd_some hM
    by_cases eq : q.1 = 1
    · have ek : k = 1 := by simp [cidx, eq] at ek; omega
      subst ek
      refine vx_catch (name := exN 1) C.2.2.2.1 [] ⟨0, 12, 15, 19⟩ [⟨0, 12, 19, 13⟩] (htab.trans rfl) (fun z hz => nomatch hz) (by decide) (by decide) (C.2.2.2.2.1 _ clk_1) (by rw [eq]; exact cast_ok C (by decide)) hcell hv hcl ?_
      refine m_astore C hl [(5, .ref q9), (0, .ref (ad 0)), (1, .int (iZ a1)), (2, .int (iZ a2)), (3, .int (iZ a3)), (4, .ref (ad 96))] d_Lw_put_15 (by decide) rfl (fun ls hl => ?_)
      refine m_iconst C d_Lw_put_17 ?_
      exact m_iretC C w hr hlk hM (Nat.le_of_ble_eq_true rfl) (Nat.le_of_ble_eq_true rfl) d_Lw_put_18
    · have hn0 : ¬ q.1 = 1 := eq
      by_cases eq : q.1 = 3
      · have ek : k = 2 := by simp [cidx, eq] at ek; omega
        subst ek
        have hps : ∀ z ∈ ([⟨0, 12, 15, 19⟩] : List ExceptionTableEntry), covers z 7 = false ∨ (z.catchType ≠ 0 ∧ ∃ nm : String, (Cond.classLink "FeastBookLaw" z.catchType nm).before args s = true ∧ va_Nc (exN q.1) nm s) := by
          intro z hz
          simp only [List.mem_cons, List.not_mem_nil, or_false] at hz
          rcases hz with rfl
          · exact Or.inr ⟨by decide, exN 1, C.2.2.2.2.1 _ clk_1, pass_ok (a := q.1) (b := 1) C (by rw [eq]; decide +kernel)⟩
        refine vx_catch (name := exN 3) C.2.2.2.1 [⟨0, 12, 15, 19⟩] ⟨0, 12, 19, 13⟩ [] (htab.trans rfl) hps (by decide) (by decide) (C.2.2.2.2.1 _ clk_3) (by rw [eq]; exact cast_ok C (by decide)) hcell hv hcl ?_
        refine m_astore C hl [(5, .ref q9), (0, .ref (ad 0)), (1, .int (iZ a1)), (2, .int (iZ a2)), (3, .int (iZ a3)), (4, .ref (ad 96))] d_Lw_put_19 (by decide) rfl (fun ls hl => ?_)
        refine m_iconst C d_Lw_put_21 ?_
        exact m_iretC C w hr hlk hM (Nat.le_of_ble_eq_true rfl) (Nat.le_of_ble_eq_true rfl) d_Lw_put_22
      · have hn1 : ¬ q.1 = 3 := eq
        simp [cidx, hn0, hn1] at ek
  · rw [if_pos hpost.1] at hM
    have w : Wd s D ad cA (FA ad) q.2.2 H locs := ⟨by rw [← ht]; exact hB, hS⟩
    rw [hpost.2]
    refine m_i2l C d_Lw_put_10 ?_
    refine m_lst C w d_Lw_put_11 (fun H locs w => ?_)
    refine m_goto C 23 d_Lw_put_12 (by decide) ?_
    refine m_iconst C d_Lw_put_23 ?_
    exact m_iretC C w hr hlk hM (Nat.le_of_ble_eq_true rfl) (Nat.le_of_ble_eq_true rfl) d_Lw_put_24
def y_Lw_reach : MethodName := ⟨"FeastBookLaw", "reach", "(LFeastBook;I[J)I"⟩
theorem d_Lw_reach_0 : decode method_16_code 0 = .ok (.aload_n 2, 1) := by decide +kernel
theorem d_Lw_reach_1 : decode method_16_code 1 = .ok (.iconst 0, 1) := by decide +kernel
theorem d_Lw_reach_2 : decode method_16_code 2 = .ok (.aload_n 0, 1) := by decide +kernel
theorem d_Lw_reach_3 : decode method_16_code 3 = .ok (.iload_n 1, 1) := by decide +kernel
theorem d_Lw_reach_4 : decode method_16_code 4 = .ok (.invokevirtual 58, 3) := by decide +kernel
theorem d_Lw_reach_7 : decode method_16_code 7 = .ok (.i2l, 1) := by decide +kernel
theorem d_Lw_reach_8 : decode method_16_code 8 = .ok (.lastore, 1) := by decide +kernel
theorem d_Lw_reach_9 : decode method_16_code 9 = .ok (.goto 9, 3) := by decide +kernel
theorem d_Lw_reach_12 : decode method_16_code 12 = .ok (.astore_n 3, 1) := by decide +kernel
theorem d_Lw_reach_13 : decode method_16_code 13 = .ok (.iconst 1, 1) := by decide +kernel
theorem d_Lw_reach_14 : decode method_16_code 14 = .ok (.ireturn, 1) := by decide +kernel
theorem d_Lw_reach_15 : decode method_16_code 15 = .ok (.astore_n 3, 1) := by decide +kernel
theorem d_Lw_reach_16 : decode method_16_code 16 = .ok (.iconst 2, 1) := by decide +kernel
theorem d_Lw_reach_17 : decode method_16_code 17 = .ok (.ireturn, 1) := by decide +kernel
theorem d_Lw_reach_18 : decode method_16_code 18 = .ok (.iconst 0, 1) := by decide +kernel
theorem d_Lw_reach_19 : decode method_16_code 19 = .ok (.ireturn, 1) := by decide +kernel
theorem cw_Lw_reach : Cond.codeWith y_Lw_reach method_16_code 4 (some .int) [(0, 9, 12, 62), (0, 9, 15, 13)] ∈ TT := mT6 239 (by decide +kernel) (by decide +kernel)
theorem st_Lw_reach : Cond.static y_Lw_reach ∈ TT := mT6 238 (by decide +kernel) (by decide +kernel)
theorem lk_Lw_reach : Cond.methodLink "FeastBookLaw" 58 y_FB_reach ∈ TT := mT7 1 (by decide +kernel) (by decide +kernel)
set_option maxHeartbeats 4000000 in
set_option maxRecDepth 100000 in
theorem c_Lw_reach {l : Launch} {D : va_G} {ad : Nat → Nat} {cA : Nat → ClassId} {sd sv : Nat → Nat} {h : Hp} {a1 : Int} {out : Int × Hp} (hI : Inj97 ad) (hst : l.stackTraces = false) (hM : M_Lw_reach h a1 = some out) : Met l y_Lw_reach (.codeWith y_Lw_reach method_16_code 4 (some .int) [(0, 9, 12, 62), (0, 9, 15, 13)] :: TT) (rmX 12 2 12) (PC D ad cA sd sv h [.ref (ad 0), .int (iZ a1), .ref (ad 96)]) (QI D ad cA out) 2 12 (FA ad) := by
  unfold M_Lw_reach at hM
  refine entW (by decide) hI (Nat.le_of_ble_eq_true rfl) ?_
  intro p e s m args below meth c C hr hlk htab hP ls hl
  have C : Cx p s m args c method_16_code 4 "FeastBookLaw" D ad cA sd sv (FA ad) := C
  have hl : lv_has ls 4 [(0, .ref (ad 0)), (1, .int (iZ a1)), (2, .ref (ad 96))] := hl
  have w : Wd s D ad cA (FA ad) h s.heap [] := ⟨hP, va_S.rf⟩
  obtain ⟨q, e1, hM⟩ := bnd_some hM
  refine m_aload_n C hl 2 d_Lw_reach_0 rfl rfl ?_
  refine m_iconst C d_Lw_reach_1 ?_
  refine m_aload_n C hl 0 d_Lw_reach_2 rfl rfl ?_
  refine m_iload_n C hl 1 d_Lw_reach_3 rfl rfl ?_
  refine vx_calli (runVX C w.1 w.2 kc_FB sh_0 (Nat.le_of_ble_eq_true rfl) (c_FB_reach hI hst e1) lk_Lw_reach mb_FB_reach rfl ⟨(Nat.le_of_ble_eq_true rfl), (Nat.le_of_ble_eq_true rfl)⟩ ⟨(Nat.le_of_ble_eq_true rfl), (Nat.le_of_ble_eq_true rfl)⟩ (Nat.le_of_ble_eq_true rfl) d_Lw_reach_4 hl.1 (rest := [.int (iZ 0), .ref (ad 96)]) rfl) w.2 (fun q _ hq => hq) (fun q hq => hq) (fun q _ hq => hq) (fun E ce q9 u t H locs ht hvm hpx hB hz hk hS hcell hv hcl => ?_) (fun r u t H locs ht hvm hpost hB hz hk hS => ?_)
  · rw [if_neg hpx] at hM
    obtain ⟨rfl, hB⟩ := hB
    have w : Wd s D ad cA (FA ad) q.2.2 H locs := ⟨by rw [← ht]; exact hB, hS⟩
    obtain ⟨k, ek, hM⟩ := bnd_some hM
    by_cases eq : q.1 = 4
    · have ek : k = 1 := by simp [cidx, eq] at ek; omega
      subst ek
      refine vx_catch (name := exN 4) C.2.2.2.1 [] ⟨0, 9, 12, 62⟩ [⟨0, 9, 15, 13⟩] (htab.trans rfl) (fun z hz => nomatch hz) (by decide) (by decide) (C.2.2.2.2.1 _ clk_4) (by rw [eq]; exact cast_ok C (by decide)) hcell hv hcl ?_
      refine m_astore_n C hl [(3, .ref q9), (0, .ref (ad 0)), (1, .int (iZ a1)), (2, .ref (ad 96))] d_Lw_reach_12 rfl (by decide) rfl (fun ls hl => ?_)
      refine m_iconst C d_Lw_reach_13 ?_
      exact m_iretC C w hr hlk hM (Nat.le_of_ble_eq_true rfl) (Nat.le_of_ble_eq_true rfl) d_Lw_reach_14
    · have hn0 : ¬ q.1 = 4 := eq
      by_cases eq : q.1 = 3
      · have ek : k = 2 := by simp [cidx, eq] at ek; omega
        subst ek
        have hps : ∀ z ∈ ([⟨0, 9, 12, 62⟩] : List ExceptionTableEntry), covers z 4 = false ∨ (z.catchType ≠ 0 ∧ ∃ nm : String, (Cond.classLink "FeastBookLaw" z.catchType nm).before args s = true ∧ va_Nc (exN q.1) nm s) := by
          intro z hz
          simp only [List.mem_cons, List.not_mem_nil, or_false] at hz
          rcases hz with rfl
          · exact Or.inr ⟨by decide, exN 4, C.2.2.2.2.1 _ clk_4, pass_ok (a := q.1) (b := 4) C (by rw [eq]; decide +kernel)⟩
        refine vx_catch (name := exN 3) C.2.2.2.1 [⟨0, 9, 12, 62⟩] ⟨0, 9, 15, 13⟩ [] (htab.trans rfl) hps (by decide) (by decide) (C.2.2.2.2.1 _ clk_3) (by rw [eq]; exact cast_ok C (by decide)) hcell hv hcl ?_
        refine m_astore_n C hl [(3, .ref q9), (0, .ref (ad 0)), (1, .int (iZ a1)), (2, .ref (ad 96))] d_Lw_reach_15 rfl (by decide) rfl (fun ls hl => ?_)
        refine m_iconst C d_Lw_reach_16 ?_
        exact m_iretC C w hr hlk hM (Nat.le_of_ble_eq_true rfl) (Nat.le_of_ble_eq_true rfl) d_Lw_reach_17
      · have hn1 : ¬ q.1 = 3 := eq
        simp [cidx, hn0, hn1] at ek
  · rw [if_pos hpost.1] at hM
    have w : Wd s D ad cA (FA ad) q.2.2 H locs := ⟨by rw [← ht]; exact hB, hS⟩
    rw [hpost.2]
    refine m_i2l C d_Lw_reach_7 ?_
    refine m_lst C w d_Lw_reach_8 (fun H locs w => ?_)
    refine m_goto C 18 d_Lw_reach_9 (by decide) ?_
    refine m_iconst C d_Lw_reach_18 ?_
    exact m_iretC C w hr hlk hM (Nat.le_of_ble_eq_true rfl) (Nat.le_of_ble_eq_true rfl) d_Lw_reach_19
def y_Lw_undo : MethodName := ⟨"FeastBookLaw", "undo", "(LFeastBook;[J)I"⟩
theorem d_Lw_undo_0 : decode method_17_code 0 = .ok (.aload_n 1, 1) := by decide +kernel
theorem d_Lw_undo_1 : decode method_17_code 1 = .ok (.iconst 0, 1) := by decide +kernel
theorem d_Lw_undo_2 : decode method_17_code 2 = .ok (.aload_n 0, 1) := by decide +kernel
theorem d_Lw_undo_3 : decode method_17_code 3 = .ok (.invokevirtual 64, 3) := by decide +kernel
theorem d_Lw_undo_6 : decode method_17_code 6 = .ok (.i2l, 1) := by decide +kernel
theorem d_Lw_undo_7 : decode method_17_code 7 = .ok (.lastore, 1) := by decide +kernel
theorem d_Lw_undo_8 : decode method_17_code 8 = .ok (.goto 6, 3) := by decide +kernel
theorem d_Lw_undo_11 : decode method_17_code 11 = .ok (.astore_n 2, 1) := by decide +kernel
theorem d_Lw_undo_12 : decode method_17_code 12 = .ok (.iconst 1, 1) := by decide +kernel
theorem d_Lw_undo_13 : decode method_17_code 13 = .ok (.ireturn, 1) := by decide +kernel
theorem d_Lw_undo_14 : decode method_17_code 14 = .ok (.iconst 0, 1) := by decide +kernel
theorem d_Lw_undo_15 : decode method_17_code 15 = .ok (.ireturn, 1) := by decide +kernel
theorem cw_Lw_undo : Cond.codeWith y_Lw_undo method_17_code 3 (some .int) [(0, 8, 11, 62)] ∈ TT := mT7 31 (by decide +kernel) (by decide +kernel)
theorem st_Lw_undo : Cond.static y_Lw_undo ∈ TT := mT7 30 (by decide +kernel) (by decide +kernel)
theorem lk_Lw_undo : Cond.methodLink "FeastBookLaw" 64 y_FB_undo ∈ TT := mT7 32 (by decide +kernel) (by decide +kernel)
set_option maxHeartbeats 4000000 in
set_option maxRecDepth 100000 in
theorem c_Lw_undo {l : Launch} {D : va_G} {ad : Nat → Nat} {cA : Nat → ClassId} {sd sv : Nat → Nat} {h : Hp} {N : Nat} {out : Int × Hp} (hI : Inj97 ad) (hst : l.stackTraces = false) (hM : M_Lw_undo N h = some out) : Met l y_Lw_undo (.codeWith y_Lw_undo method_17_code 3 (some .int) [(0, 8, 11, 62)] :: TT) (rmX 11 1 6) (PC D ad cA sd sv h [.ref (ad 0), .ref (ad 96)]) (QI D ad cA out) 1 6 (FA ad) := by
  unfold M_Lw_undo at hM
  refine entW (by decide) hI (Nat.le_of_ble_eq_true rfl) ?_
  intro p e s m args below meth c C hr hlk htab hP ls hl
  have C : Cx p s m args c method_17_code 3 "FeastBookLaw" D ad cA sd sv (FA ad) := C
  have hl : lv_has ls 3 [(0, .ref (ad 0)), (1, .ref (ad 96))] := hl
  have w : Wd s D ad cA (FA ad) h s.heap [] := ⟨hP, va_S.rf⟩
  obtain ⟨q, e1, hM⟩ := bnd_some hM
  refine m_aload_n C hl 1 d_Lw_undo_0 rfl rfl ?_
  refine m_iconst C d_Lw_undo_1 ?_
  refine m_aload_n C hl 0 d_Lw_undo_2 rfl rfl ?_
  refine vx_calli (runVX C w.1 w.2 kc_FB sh_0 (Nat.le_of_ble_eq_true rfl) (c_FB_undo hI hst e1) lk_Lw_undo mb_FB_undo rfl ⟨(Nat.le_of_ble_eq_true rfl), (Nat.le_of_ble_eq_true rfl)⟩ ⟨(Nat.le_of_ble_eq_true rfl), (Nat.le_of_ble_eq_true rfl)⟩ (Nat.le_of_ble_eq_true rfl) d_Lw_undo_3 hl.1 (rest := [.int (iZ 0), .ref (ad 96)]) rfl) w.2 (fun q _ hq => hq) (fun q hq => hq) (fun q _ hq => hq) (fun E ce q9 u t H locs ht hvm hpx hB hz hk hS hcell hv hcl => ?_) (fun r u t H locs ht hvm hpost hB hz hk hS => ?_)
  · rw [if_neg hpx] at hM
    obtain ⟨rfl, hB⟩ := hB
    have w : Wd s D ad cA (FA ad) q.2.2 H locs := ⟨by rw [← ht]; exact hB, hS⟩
    obtain ⟨k, ek, hM⟩ := bnd_some hM
    by_cases eq : q.1 = 4
    · have ek : k = 1 := by simp [cidx, eq] at ek; omega
      subst ek
      refine vx_catch (name := exN 4) C.2.2.2.1 [] ⟨0, 8, 11, 62⟩ [] (htab.trans rfl) (fun z hz => nomatch hz) (by decide) (by decide) (C.2.2.2.2.1 _ clk_4) (by rw [eq]; exact cast_ok C (by decide)) hcell hv hcl ?_
      refine m_astore_n C hl [(2, .ref q9), (0, .ref (ad 0)), (1, .ref (ad 96))] d_Lw_undo_11 rfl (by decide) rfl (fun ls hl => ?_)
      refine m_iconst C d_Lw_undo_12 ?_
      exact m_iretC C w hr hlk hM (Nat.le_of_ble_eq_true rfl) (Nat.le_of_ble_eq_true rfl) d_Lw_undo_13
    · have hn0 : ¬ q.1 = 4 := eq
      simp [cidx, hn0] at ek
  · rw [if_pos hpost.1] at hM
    have w : Wd s D ad cA (FA ad) q.2.2 H locs := ⟨by rw [← ht]; exact hB, hS⟩
    rw [hpost.2]
    refine m_i2l C d_Lw_undo_6 ?_
    refine m_lst C w d_Lw_undo_7 (fun H locs w => ?_)
    refine m_goto C 14 d_Lw_undo_8 (by decide) ?_
    refine m_iconst C d_Lw_undo_14 ?_
    exact m_iretC C w hr hlk hM (Nat.le_of_ble_eq_true rfl) (Nat.le_of_ble_eq_true rfl) d_Lw_undo_15
def y_Lw_cycle : MethodName := ⟨"FeastBookLaw", "cycle", "(LFeastBook;[J)I"⟩
theorem d_Lw_cycle_0 : decode method_18_code 0 = .ok (.aload_n 1, 1) := by decide +kernel
theorem d_Lw_cycle_1 : decode method_18_code 1 = .ok (.iconst 0, 1) := by decide +kernel
theorem d_Lw_cycle_2 : decode method_18_code 2 = .ok (.aload_n 0, 1) := by decide +kernel
theorem d_Lw_cycle_3 : decode method_18_code 3 = .ok (.invokevirtual 67, 3) := by decide +kernel
theorem d_Lw_cycle_6 : decode method_18_code 6 = .ok (.i2l, 1) := by decide +kernel
theorem d_Lw_cycle_7 : decode method_18_code 7 = .ok (.lastore, 1) := by decide +kernel
theorem d_Lw_cycle_8 : decode method_18_code 8 = .ok (.goto 6, 3) := by decide +kernel
theorem d_Lw_cycle_11 : decode method_18_code 11 = .ok (.astore_n 2, 1) := by decide +kernel
theorem d_Lw_cycle_12 : decode method_18_code 12 = .ok (.iconst 1, 1) := by decide +kernel
theorem d_Lw_cycle_13 : decode method_18_code 13 = .ok (.ireturn, 1) := by decide +kernel
theorem d_Lw_cycle_14 : decode method_18_code 14 = .ok (.iconst 0, 1) := by decide +kernel
theorem d_Lw_cycle_15 : decode method_18_code 15 = .ok (.ireturn, 1) := by decide +kernel
theorem cw_Lw_cycle : Cond.codeWith y_Lw_cycle method_18_code 3 (some .int) [(0, 8, 11, 62)] ∈ TT := mT7 43 (by decide +kernel) (by decide +kernel)
theorem st_Lw_cycle : Cond.static y_Lw_cycle ∈ TT := mT7 42 (by decide +kernel) (by decide +kernel)
theorem lk_Lw_cycle : Cond.methodLink "FeastBookLaw" 67 y_FB_cycle ∈ TT := mT7 44 (by decide +kernel) (by decide +kernel)
set_option maxHeartbeats 4000000 in
set_option maxRecDepth 100000 in
theorem c_Lw_cycle {l : Launch} {D : va_G} {ad : Nat → Nat} {cA : Nat → ClassId} {sd sv : Nat → Nat} {h : Hp} {out : Int × Hp} (hI : Inj97 ad) (hst : l.stackTraces = false) (hM : M_Lw_cycle h = some out) : Met l y_Lw_cycle (.codeWith y_Lw_cycle method_18_code 3 (some .int) [(0, 8, 11, 62)] :: TT) (rmX 12 1 6) (PC D ad cA sd sv h [.ref (ad 0), .ref (ad 96)]) (QI D ad cA out) 1 6 (FA ad) := by
  unfold M_Lw_cycle at hM
  refine entW (by decide) hI (Nat.le_of_ble_eq_true rfl) ?_
  intro p e s m args below meth c C hr hlk htab hP ls hl
  have C : Cx p s m args c method_18_code 3 "FeastBookLaw" D ad cA sd sv (FA ad) := C
  have hl : lv_has ls 3 [(0, .ref (ad 0)), (1, .ref (ad 96))] := hl
  have w : Wd s D ad cA (FA ad) h s.heap [] := ⟨hP, va_S.rf⟩
  obtain ⟨q, e1, hM⟩ := bnd_some hM
  refine m_aload_n C hl 1 d_Lw_cycle_0 rfl rfl ?_
  refine m_iconst C d_Lw_cycle_1 ?_
  refine m_aload_n C hl 0 d_Lw_cycle_2 rfl rfl ?_
  refine vx_calli (runVX C w.1 w.2 kc_FB sh_0 (Nat.le_of_ble_eq_true rfl) (c_FB_cycle hI hst e1) lk_Lw_cycle mb_FB_cycle rfl ⟨(Nat.le_of_ble_eq_true rfl), (Nat.le_of_ble_eq_true rfl)⟩ ⟨(Nat.le_of_ble_eq_true rfl), (Nat.le_of_ble_eq_true rfl)⟩ (Nat.le_of_ble_eq_true rfl) d_Lw_cycle_3 hl.1 (rest := [.int (iZ 0), .ref (ad 96)]) rfl) w.2 (fun q _ hq => hq) (fun q hq => hq) (fun q _ hq => hq) (fun E ce q9 u t H locs ht hvm hpx hB hz hk hS hcell hv hcl => ?_) (fun r u t H locs ht hvm hpost hB hz hk hS => ?_)
  · rw [if_neg hpx] at hM
    obtain ⟨rfl, hB⟩ := hB
    have w : Wd s D ad cA (FA ad) q.2.2 H locs := ⟨by rw [← ht]; exact hB, hS⟩
    obtain ⟨k, ek, hM⟩ := bnd_some hM
    by_cases eq : q.1 = 4
    · have ek : k = 1 := by simp [cidx, eq] at ek; omega
      subst ek
      refine vx_catch (name := exN 4) C.2.2.2.1 [] ⟨0, 8, 11, 62⟩ [] (htab.trans rfl) (fun z hz => nomatch hz) (by decide) (by decide) (C.2.2.2.2.1 _ clk_4) (by rw [eq]; exact cast_ok C (by decide)) hcell hv hcl ?_
      refine m_astore_n C hl [(2, .ref q9), (0, .ref (ad 0)), (1, .ref (ad 96))] d_Lw_cycle_11 rfl (by decide) rfl (fun ls hl => ?_)
      refine m_iconst C d_Lw_cycle_12 ?_
      exact m_iretC C w hr hlk hM (Nat.le_of_ble_eq_true rfl) (Nat.le_of_ble_eq_true rfl) d_Lw_cycle_13
    · have hn0 : ¬ q.1 = 4 := eq
      simp [cidx, hn0] at ek
  · rw [if_pos hpost.1] at hM
    have w : Wd s D ad cA (FA ad) q.2.2 H locs := ⟨by rw [← ht]; exact hB, hS⟩
    rw [hpost.2]
    refine m_i2l C d_Lw_cycle_6 ?_
    refine m_lst C w d_Lw_cycle_7 (fun H locs w => ?_)
    refine m_goto C 14 d_Lw_cycle_8 (by decide) ?_
    refine m_iconst C d_Lw_cycle_14 ?_
    exact m_iretC C w hr hlk hM (Nat.le_of_ble_eq_true rfl) (Nat.le_of_ble_eq_true rfl) d_Lw_cycle_15
def y_Lw_fates : MethodName := ⟨"FeastBookLaw", "fates", "(LFeastBook;IIZ[J)I"⟩
theorem d_Lw_fates_0 : decode method_19_code 0 = .ok (.aload 4, 2) := by decide +kernel
theorem d_Lw_fates_2 : decode method_19_code 2 = .ok (.iconst 0, 1) := by decide +kernel
theorem d_Lw_fates_3 : decode method_19_code 3 = .ok (.aload_n 0, 1) := by decide +kernel
theorem d_Lw_fates_4 : decode method_19_code 4 = .ok (.iload_n 1, 1) := by decide +kernel
theorem d_Lw_fates_5 : decode method_19_code 5 = .ok (.iload_n 2, 1) := by decide +kernel
theorem d_Lw_fates_6 : decode method_19_code 6 = .ok (.iload_n 3, 1) := by decide +kernel
theorem d_Lw_fates_7 : decode method_19_code 7 = .ok (.invokevirtual 70, 3) := by decide +kernel
theorem d_Lw_fates_10 : decode method_19_code 10 = .ok (.i2l, 1) := by decide +kernel
theorem d_Lw_fates_11 : decode method_19_code 11 = .ok (.lastore, 1) := by decide +kernel
theorem d_Lw_fates_12 : decode method_19_code 12 = .ok (.goto 11, 3) := by decide +kernel
theorem d_Lw_fates_15 : decode method_19_code 15 = .ok (.astore 5, 2) := by decide +kernel
theorem d_Lw_fates_17 : decode method_19_code 17 = .ok (.iconst 1, 1) := by decide +kernel
theorem d_Lw_fates_18 : decode method_19_code 18 = .ok (.ireturn, 1) := by decide +kernel
theorem d_Lw_fates_19 : decode method_19_code 19 = .ok (.astore 5, 2) := by decide +kernel
theorem d_Lw_fates_21 : decode method_19_code 21 = .ok (.iconst 2, 1) := by decide +kernel
theorem d_Lw_fates_22 : decode method_19_code 22 = .ok (.ireturn, 1) := by decide +kernel
theorem d_Lw_fates_23 : decode method_19_code 23 = .ok (.iconst 0, 1) := by decide +kernel
theorem d_Lw_fates_24 : decode method_19_code 24 = .ok (.ireturn, 1) := by decide +kernel
theorem cw_Lw_fates : Cond.codeWith y_Lw_fates method_19_code 6 (some .int) [(0, 12, 15, 19), (0, 12, 19, 13)] ∈ TT := mT7 50 (by decide +kernel) (by decide +kernel)
theorem st_Lw_fates : Cond.static y_Lw_fates ∈ TT := mT7 49 (by decide +kernel) (by decide +kernel)
theorem lk_Lw_fates : Cond.methodLink "FeastBookLaw" 70 y_FB_fates ∈ TT := mT7 51 (by decide +kernel) (by decide +kernel)
set_option maxHeartbeats 4000000 in
set_option maxRecDepth 100000 in
theorem c_Lw_fates {l : Launch} {D : va_G} {ad : Nat → Nat} {cA : Nat → ClassId} {sd sv : Nat → Nat} {h : Hp} {N : Nat} {a1 a2 a3 : Int} {out : Int × Hp} (hI : Inj97 ad) (hst : l.stackTraces = false) (hM : M_Lw_fates N h a1 a2 a3 = some out) : Met l y_Lw_fates (.codeWith y_Lw_fates method_19_code 6 (some .int) [(0, 12, 15, 19), (0, 12, 19, 13)] :: TT) (rmX 12 2 12) (PC D ad cA sd sv h [.ref (ad 0), .int (iZ a1), .int (iZ a2), .int (iZ a3), .ref (ad 96)]) (QI D ad cA out) 2 12 (FA ad) := by
  unfold M_Lw_fates at hM
  refine entW (by decide) hI (Nat.le_of_ble_eq_true rfl) ?_
  intro p e s m args below meth c C hr hlk htab hP ls hl
  have C : Cx p s m args c method_19_code 6 "FeastBookLaw" D ad cA sd sv (FA ad) := C
  have hl : lv_has ls 6 [(0, .ref (ad 0)), (1, .int (iZ a1)), (2, .int (iZ a2)), (3, .int (iZ a3)), (4, .ref (ad 96))] := hl
  have w : Wd s D ad cA (FA ad) h s.heap [] := ⟨hP, va_S.rf⟩
  obtain ⟨q, e1, hM⟩ := bnd_some hM
  refine m_aload C hl 4 d_Lw_fates_0 rfl ?_
  refine m_iconst C d_Lw_fates_2 ?_
  refine m_aload_n C hl 0 d_Lw_fates_3 rfl rfl ?_
  refine m_iload_n C hl 1 d_Lw_fates_4 rfl rfl ?_
  refine m_iload_n C hl 2 d_Lw_fates_5 rfl rfl ?_
  refine m_iload_n C hl 3 d_Lw_fates_6 rfl rfl ?_
  refine vx_calli (runVX C w.1 w.2 kc_FB sh_0 (Nat.le_of_ble_eq_true rfl) (c_FB_fates hI hst e1) lk_Lw_fates mb_FB_fates rfl ⟨(Nat.le_of_ble_eq_true rfl), (Nat.le_of_ble_eq_true rfl)⟩ ⟨(Nat.le_of_ble_eq_true rfl), (Nat.le_of_ble_eq_true rfl)⟩ (Nat.le_of_ble_eq_true rfl) d_Lw_fates_7 hl.1 (rest := [.int (iZ 0), .ref (ad 96)]) rfl) w.2 (fun q _ hq => hq) (fun q hq => hq) (fun q _ hq => hq) (fun E ce q9 u t H locs ht hvm hpx hB hz hk hS hcell hv hcl => ?_) (fun r u t H locs ht hvm hpost hB hz hk hS => ?_)
  · rw [if_neg hpx] at hM
    obtain ⟨rfl, hB⟩ := hB
    have w : Wd s D ad cA (FA ad) q.2.2 H locs := ⟨by rw [← ht]; exact hB, hS⟩
    obtain ⟨k, ek, hM⟩ := bnd_some hM
    by_cases eq : q.1 = 1
    · have ek : k = 1 := by simp [cidx, eq] at ek; omega
      subst ek
      refine vx_catch (name := exN 1) C.2.2.2.1 [] ⟨0, 12, 15, 19⟩ [⟨0, 12, 19, 13⟩] (htab.trans rfl) (fun z hz => nomatch hz) (by decide) (by decide) (C.2.2.2.2.1 _ clk_1) (by rw [eq]; exact cast_ok C (by decide)) hcell hv hcl ?_
      refine m_astore C hl [(5, .ref q9), (0, .ref (ad 0)), (1, .int (iZ a1)), (2, .int (iZ a2)), (3, .int (iZ a3)), (4, .ref (ad 96))] d_Lw_fates_15 (by decide) rfl (fun ls hl => ?_)
      refine m_iconst C d_Lw_fates_17 ?_
      exact m_iretC C w hr hlk hM (Nat.le_of_ble_eq_true rfl) (Nat.le_of_ble_eq_true rfl) d_Lw_fates_18
    · have hn0 : ¬ q.1 = 1 := eq
      by_cases eq : q.1 = 3
      · have ek : k = 2 := by simp [cidx, eq] at ek; omega
        subst ek
        have hps : ∀ z ∈ ([⟨0, 12, 15, 19⟩] : List ExceptionTableEntry), covers z 7 = false ∨ (z.catchType ≠ 0 ∧ ∃ nm : String, (Cond.classLink "FeastBookLaw" z.catchType nm).before args s = true ∧ va_Nc (exN q.1) nm s) := by
          intro z hz
          simp only [List.mem_cons, List.not_mem_nil, or_false] at hz
          rcases hz with rfl
          · exact Or.inr ⟨by decide, exN 1, C.2.2.2.2.1 _ clk_1, pass_ok (a := q.1) (b := 1) C (by rw [eq]; decide +kernel)⟩
        refine vx_catch (name := exN 3) C.2.2.2.1 [⟨0, 12, 15, 19⟩] ⟨0, 12, 19, 13⟩ [] (htab.trans rfl) hps (by decide) (by decide) (C.2.2.2.2.1 _ clk_3) (by rw [eq]; exact cast_ok C (by decide)) hcell hv hcl ?_
        refine m_astore C hl [(5, .ref q9), (0, .ref (ad 0)), (1, .int (iZ a1)), (2, .int (iZ a2)), (3, .int (iZ a3)), (4, .ref (ad 96))] d_Lw_fates_19 (by decide) rfl (fun ls hl => ?_)
        refine m_iconst C d_Lw_fates_21 ?_
        exact m_iretC C w hr hlk hM (Nat.le_of_ble_eq_true rfl) (Nat.le_of_ble_eq_true rfl) d_Lw_fates_22
      · have hn1 : ¬ q.1 = 3 := eq
        simp [cidx, hn0, hn1] at ek
  · rw [if_pos hpost.1] at hM
    have w : Wd s D ad cA (FA ad) q.2.2 H locs := ⟨by rw [← ht]; exact hB, hS⟩
    rw [hpost.2]
    refine m_i2l C d_Lw_fates_10 ?_
    refine m_lst C w d_Lw_fates_11 (fun H locs w => ?_)
    refine m_goto C 23 d_Lw_fates_12 (by decide) ?_
    refine m_iconst C d_Lw_fates_23 ?_
    exact m_iretC C w hr hlk hM (Nat.le_of_ble_eq_true rfl) (Nat.le_of_ble_eq_true rfl) d_Lw_fates_24
def y_Lw_far : MethodName := ⟨"FeastBookLaw", "far", "(LFeastBook;I[J)I"⟩
theorem d_Lw_far_0 : decode method_20_code 0 = .ok (.aload_n 2, 1) := by decide +kernel
theorem d_Lw_far_1 : decode method_20_code 1 = .ok (.iconst 0, 1) := by decide +kernel
theorem d_Lw_far_2 : decode method_20_code 2 = .ok (.aload_n 0, 1) := by decide +kernel
theorem d_Lw_far_3 : decode method_20_code 3 = .ok (.iload_n 1, 1) := by decide +kernel
theorem d_Lw_far_4 : decode method_20_code 4 = .ok (.invokevirtual 74, 3) := by decide +kernel
theorem d_Lw_far_7 : decode method_20_code 7 = .ok (.i2l, 1) := by decide +kernel
theorem d_Lw_far_8 : decode method_20_code 8 = .ok (.lastore, 1) := by decide +kernel
theorem d_Lw_far_9 : decode method_20_code 9 = .ok (.goto 6, 3) := by decide +kernel
theorem d_Lw_far_12 : decode method_20_code 12 = .ok (.astore_n 3, 1) := by decide +kernel
theorem d_Lw_far_13 : decode method_20_code 13 = .ok (.iconst 1, 1) := by decide +kernel
theorem d_Lw_far_14 : decode method_20_code 14 = .ok (.ireturn, 1) := by decide +kernel
theorem d_Lw_far_15 : decode method_20_code 15 = .ok (.iconst 0, 1) := by decide +kernel
theorem d_Lw_far_16 : decode method_20_code 16 = .ok (.ireturn, 1) := by decide +kernel
theorem cw_Lw_far : Cond.codeWith y_Lw_far method_20_code 4 (some .int) [(0, 9, 12, 19)] ∈ TT := mT7 75 (by decide +kernel) (by decide +kernel)
theorem st_Lw_far : Cond.static y_Lw_far ∈ TT := mT7 74 (by decide +kernel) (by decide +kernel)
theorem lk_Lw_far : Cond.methodLink "FeastBookLaw" 74 y_FB_far ∈ TT := mT7 76 (by decide +kernel) (by decide +kernel)
set_option maxHeartbeats 4000000 in
set_option maxRecDepth 100000 in
theorem c_Lw_far {l : Launch} {D : va_G} {ad : Nat → Nat} {cA : Nat → ClassId} {sd sv : Nat → Nat} {h : Hp} {N : Nat} {a1 : Int} {out : Int × Hp} (hI : Inj97 ad) (hst : l.stackTraces = false) (hM : M_Lw_far N h a1 = some out) : Met l y_Lw_far (.codeWith y_Lw_far method_20_code 4 (some .int) [(0, 9, 12, 19)] :: TT) (rmX 12 1 6) (PC D ad cA sd sv h [.ref (ad 0), .int (iZ a1), .ref (ad 96)]) (QI D ad cA out) 1 6 (FA ad) := by
  unfold M_Lw_far at hM
  refine entW (by decide) hI (Nat.le_of_ble_eq_true rfl) ?_
  intro p e s m args below meth c C hr hlk htab hP ls hl
  have C : Cx p s m args c method_20_code 4 "FeastBookLaw" D ad cA sd sv (FA ad) := C
  have hl : lv_has ls 4 [(0, .ref (ad 0)), (1, .int (iZ a1)), (2, .ref (ad 96))] := hl
  have w : Wd s D ad cA (FA ad) h s.heap [] := ⟨hP, va_S.rf⟩
  obtain ⟨q, e1, hM⟩ := bnd_some hM
  refine m_aload_n C hl 2 d_Lw_far_0 rfl rfl ?_
  refine m_iconst C d_Lw_far_1 ?_
  refine m_aload_n C hl 0 d_Lw_far_2 rfl rfl ?_
  refine m_iload_n C hl 1 d_Lw_far_3 rfl rfl ?_
  refine vx_calli (runVX C w.1 w.2 kc_FB sh_0 (Nat.le_of_ble_eq_true rfl) (c_FB_far hI hst e1) lk_Lw_far mb_FB_far rfl ⟨(Nat.le_of_ble_eq_true rfl), (Nat.le_of_ble_eq_true rfl)⟩ ⟨(Nat.le_of_ble_eq_true rfl), (Nat.le_of_ble_eq_true rfl)⟩ (Nat.le_of_ble_eq_true rfl) d_Lw_far_4 hl.1 (rest := [.int (iZ 0), .ref (ad 96)]) rfl) w.2 (fun q _ hq => hq) (fun q hq => hq) (fun q _ hq => hq) (fun E ce q9 u t H locs ht hvm hpx hB hz hk hS hcell hv hcl => ?_) (fun r u t H locs ht hvm hpost hB hz hk hS => ?_)
  · rw [if_neg hpx] at hM
    obtain ⟨rfl, hB⟩ := hB
    have w : Wd s D ad cA (FA ad) q.2.2 H locs := ⟨by rw [← ht]; exact hB, hS⟩
    obtain ⟨k, ek, hM⟩ := bnd_some hM
    by_cases eq : q.1 = 1
    · have ek : k = 1 := by simp [cidx, eq] at ek; omega
      subst ek
      refine vx_catch (name := exN 1) C.2.2.2.1 [] ⟨0, 9, 12, 19⟩ [] (htab.trans rfl) (fun z hz => nomatch hz) (by decide) (by decide) (C.2.2.2.2.1 _ clk_1) (by rw [eq]; exact cast_ok C (by decide)) hcell hv hcl ?_
      refine m_astore_n C hl [(3, .ref q9), (0, .ref (ad 0)), (1, .int (iZ a1)), (2, .ref (ad 96))] d_Lw_far_12 rfl (by decide) rfl (fun ls hl => ?_)
      refine m_iconst C d_Lw_far_13 ?_
      exact m_iretC C w hr hlk hM (Nat.le_of_ble_eq_true rfl) (Nat.le_of_ble_eq_true rfl) d_Lw_far_14
    · have hn0 : ¬ q.1 = 1 := eq
      simp [cidx, hn0] at ek
  · rw [if_pos hpost.1] at hM
    have w : Wd s D ad cA (FA ad) q.2.2 H locs := ⟨by rw [← ht]; exact hB, hS⟩
    rw [hpost.2]
    refine m_i2l C d_Lw_far_7 ?_
    refine m_lst C w d_Lw_far_8 (fun H locs w => ?_)
    refine m_goto C 15 d_Lw_far_9 (by decide) ?_
    refine m_iconst C d_Lw_far_15 ?_
    exact m_iretC C w hr hlk hM (Nat.le_of_ble_eq_true rfl) (Nat.le_of_ble_eq_true rfl) d_Lw_far_16
def y_Lw_span : MethodName := ⟨"FeastBookLaw", "span", "(LFeastBook;IZ[J)I"⟩
theorem d_Lw_span_0 : decode method_21_code 0 = .ok (.aload_n 3, 1) := by decide +kernel
theorem d_Lw_span_1 : decode method_21_code 1 = .ok (.iconst 0, 1) := by decide +kernel
theorem d_Lw_span_2 : decode method_21_code 2 = .ok (.aload_n 0, 1) := by decide +kernel
theorem d_Lw_span_3 : decode method_21_code 3 = .ok (.iload_n 1, 1) := by decide +kernel
theorem d_Lw_span_4 : decode method_21_code 4 = .ok (.iload_n 2, 1) := by decide +kernel
theorem d_Lw_span_5 : decode method_21_code 5 = .ok (.invokevirtual 77, 3) := by decide +kernel
theorem d_Lw_span_8 : decode method_21_code 8 = .ok (.i2l, 1) := by decide +kernel
theorem d_Lw_span_9 : decode method_21_code 9 = .ok (.lastore, 1) := by decide +kernel
theorem d_Lw_span_10 : decode method_21_code 10 = .ok (.goto 7, 3) := by decide +kernel
theorem d_Lw_span_13 : decode method_21_code 13 = .ok (.astore 4, 2) := by decide +kernel
theorem d_Lw_span_15 : decode method_21_code 15 = .ok (.iconst 1, 1) := by decide +kernel
theorem d_Lw_span_16 : decode method_21_code 16 = .ok (.ireturn, 1) := by decide +kernel
theorem d_Lw_span_17 : decode method_21_code 17 = .ok (.iconst 0, 1) := by decide +kernel
theorem d_Lw_span_18 : decode method_21_code 18 = .ok (.ireturn, 1) := by decide +kernel
theorem cw_Lw_span : Cond.codeWith y_Lw_span method_21_code 5 (some .int) [(0, 10, 13, 19)] ∈ TT := mT7 90 (by decide +kernel) (by decide +kernel)
theorem st_Lw_span : Cond.static y_Lw_span ∈ TT := mT7 89 (by decide +kernel) (by decide +kernel)
theorem lk_Lw_span : Cond.methodLink "FeastBookLaw" 77 y_FB_span ∈ TT := mT7 91 (by decide +kernel) (by decide +kernel)
set_option maxHeartbeats 4000000 in
set_option maxRecDepth 100000 in
theorem c_Lw_span {l : Launch} {D : va_G} {ad : Nat → Nat} {cA : Nat → ClassId} {sd sv : Nat → Nat} {h : Hp} {N : Nat} {a1 a2 : Int} {out : Int × Hp} (hI : Inj97 ad) (hst : l.stackTraces = false) (hM : M_Lw_span N h a1 a2 = some out) : Met l y_Lw_span (.codeWith y_Lw_span method_21_code 5 (some .int) [(0, 10, 13, 19)] :: TT) (rmX 12 1 6) (PC D ad cA sd sv h [.ref (ad 0), .int (iZ a1), .int (iZ a2), .ref (ad 96)]) (QI D ad cA out) 1 6 (FA ad) := by
  unfold M_Lw_span at hM
  refine entW (by decide) hI (Nat.le_of_ble_eq_true rfl) ?_
  intro p e s m args below meth c C hr hlk htab hP ls hl
  have C : Cx p s m args c method_21_code 5 "FeastBookLaw" D ad cA sd sv (FA ad) := C
  have hl : lv_has ls 5 [(0, .ref (ad 0)), (1, .int (iZ a1)), (2, .int (iZ a2)), (3, .ref (ad 96))] := hl
  have w : Wd s D ad cA (FA ad) h s.heap [] := ⟨hP, va_S.rf⟩
  obtain ⟨q, e1, hM⟩ := bnd_some hM
  refine m_aload_n C hl 3 d_Lw_span_0 rfl rfl ?_
  refine m_iconst C d_Lw_span_1 ?_
  refine m_aload_n C hl 0 d_Lw_span_2 rfl rfl ?_
  refine m_iload_n C hl 1 d_Lw_span_3 rfl rfl ?_
  refine m_iload_n C hl 2 d_Lw_span_4 rfl rfl ?_
  refine vx_calli (runVX C w.1 w.2 kc_FB sh_0 (Nat.le_of_ble_eq_true rfl) (c_FB_span hI hst e1) lk_Lw_span mb_FB_span rfl ⟨(Nat.le_of_ble_eq_true rfl), (Nat.le_of_ble_eq_true rfl)⟩ ⟨(Nat.le_of_ble_eq_true rfl), (Nat.le_of_ble_eq_true rfl)⟩ (Nat.le_of_ble_eq_true rfl) d_Lw_span_5 hl.1 (rest := [.int (iZ 0), .ref (ad 96)]) rfl) w.2 (fun q _ hq => hq) (fun q hq => hq) (fun q _ hq => hq) (fun E ce q9 u t H locs ht hvm hpx hB hz hk hS hcell hv hcl => ?_) (fun r u t H locs ht hvm hpost hB hz hk hS => ?_)
  · rw [if_neg hpx] at hM
    obtain ⟨rfl, hB⟩ := hB
    have w : Wd s D ad cA (FA ad) q.2.2 H locs := ⟨by rw [← ht]; exact hB, hS⟩
    obtain ⟨k, ek, hM⟩ := bnd_some hM
    by_cases eq : q.1 = 1
    · have ek : k = 1 := by simp [cidx, eq] at ek; omega
      subst ek
      refine vx_catch (name := exN 1) C.2.2.2.1 [] ⟨0, 10, 13, 19⟩ [] (htab.trans rfl) (fun z hz => nomatch hz) (by decide) (by decide) (C.2.2.2.2.1 _ clk_1) (by rw [eq]; exact cast_ok C (by decide)) hcell hv hcl ?_
      refine m_astore C hl [(4, .ref q9), (0, .ref (ad 0)), (1, .int (iZ a1)), (2, .int (iZ a2)), (3, .ref (ad 96))] d_Lw_span_13 (by decide) rfl (fun ls hl => ?_)
      refine m_iconst C d_Lw_span_15 ?_
      exact m_iretC C w hr hlk hM (Nat.le_of_ble_eq_true rfl) (Nat.le_of_ble_eq_true rfl) d_Lw_span_16
    · have hn0 : ¬ q.1 = 1 := eq
      simp [cidx, hn0] at ek
  · rw [if_pos hpost.1] at hM
    have w : Wd s D ad cA (FA ad) q.2.2 H locs := ⟨by rw [← ht]; exact hB, hS⟩
    rw [hpost.2]
    refine m_i2l C d_Lw_span_8 ?_
    refine m_lst C w d_Lw_span_9 (fun H locs w => ?_)
    refine m_goto C 17 d_Lw_span_10 (by decide) ?_
    refine m_iconst C d_Lw_span_17 ?_
    exact m_iretC C w hr hlk hM (Nat.le_of_ble_eq_true rfl) (Nat.le_of_ble_eq_true rfl) d_Lw_span_18
def y_Lw_meets : MethodName := ⟨"FeastBookLaw", "meets", "(LFeastBook;I[J)I"⟩
theorem d_Lw_meets_0 : decode method_22_code 0 = .ok (.aload_n 2, 1) := by decide +kernel
theorem d_Lw_meets_1 : decode method_22_code 1 = .ok (.iconst 0, 1) := by decide +kernel
theorem d_Lw_meets_2 : decode method_22_code 2 = .ok (.aload_n 0, 1) := by decide +kernel
theorem d_Lw_meets_3 : decode method_22_code 3 = .ok (.iload_n 1, 1) := by decide +kernel
theorem d_Lw_meets_4 : decode method_22_code 4 = .ok (.invokevirtual 81, 3) := by decide +kernel
theorem d_Lw_meets_7 : decode method_22_code 7 = .ok (.i2l, 1) := by decide +kernel
theorem d_Lw_meets_8 : decode method_22_code 8 = .ok (.lastore, 1) := by decide +kernel
theorem d_Lw_meets_9 : decode method_22_code 9 = .ok (.goto 6, 3) := by decide +kernel
theorem d_Lw_meets_12 : decode method_22_code 12 = .ok (.astore_n 3, 1) := by decide +kernel
theorem d_Lw_meets_13 : decode method_22_code 13 = .ok (.iconst 1, 1) := by decide +kernel
theorem d_Lw_meets_14 : decode method_22_code 14 = .ok (.ireturn, 1) := by decide +kernel
theorem d_Lw_meets_15 : decode method_22_code 15 = .ok (.iconst 0, 1) := by decide +kernel
theorem d_Lw_meets_16 : decode method_22_code 16 = .ok (.ireturn, 1) := by decide +kernel
theorem cw_Lw_meets : Cond.codeWith y_Lw_meets method_22_code 4 (some .int) [(0, 9, 12, 19)] ∈ TT := mT7 105 (by decide +kernel) (by decide +kernel)
theorem st_Lw_meets : Cond.static y_Lw_meets ∈ TT := mT7 104 (by decide +kernel) (by decide +kernel)
theorem lk_Lw_meets : Cond.methodLink "FeastBookLaw" 81 y_FB_meets ∈ TT := mT7 106 (by decide +kernel) (by decide +kernel)
set_option maxHeartbeats 4000000 in
set_option maxRecDepth 100000 in
theorem c_Lw_meets {l : Launch} {D : va_G} {ad : Nat → Nat} {cA : Nat → ClassId} {sd sv : Nat → Nat} {h : Hp} {N : Nat} {a1 : Int} {out : Int × Hp} (hI : Inj97 ad) (hst : l.stackTraces = false) (hM : M_Lw_meets N h a1 = some out) : Met l y_Lw_meets (.codeWith y_Lw_meets method_22_code 4 (some .int) [(0, 9, 12, 19)] :: TT) (rmX 12 1 6) (PC D ad cA sd sv h [.ref (ad 0), .int (iZ a1), .ref (ad 96)]) (QI D ad cA out) 1 6 (FA ad) := by
  unfold M_Lw_meets at hM
  refine entW (by decide) hI (Nat.le_of_ble_eq_true rfl) ?_
  intro p e s m args below meth c C hr hlk htab hP ls hl
  have C : Cx p s m args c method_22_code 4 "FeastBookLaw" D ad cA sd sv (FA ad) := C
  have hl : lv_has ls 4 [(0, .ref (ad 0)), (1, .int (iZ a1)), (2, .ref (ad 96))] := hl
  have w : Wd s D ad cA (FA ad) h s.heap [] := ⟨hP, va_S.rf⟩
  obtain ⟨q, e1, hM⟩ := bnd_some hM
  refine m_aload_n C hl 2 d_Lw_meets_0 rfl rfl ?_
  refine m_iconst C d_Lw_meets_1 ?_
  refine m_aload_n C hl 0 d_Lw_meets_2 rfl rfl ?_
  refine m_iload_n C hl 1 d_Lw_meets_3 rfl rfl ?_
  refine vx_calli (runVX C w.1 w.2 kc_FB sh_0 (Nat.le_of_ble_eq_true rfl) (c_FB_meets hI hst e1) lk_Lw_meets mb_FB_meets rfl ⟨(Nat.le_of_ble_eq_true rfl), (Nat.le_of_ble_eq_true rfl)⟩ ⟨(Nat.le_of_ble_eq_true rfl), (Nat.le_of_ble_eq_true rfl)⟩ (Nat.le_of_ble_eq_true rfl) d_Lw_meets_4 hl.1 (rest := [.int (iZ 0), .ref (ad 96)]) rfl) w.2 (fun q _ hq => hq) (fun q hq => hq) (fun q _ hq => hq) (fun E ce q9 u t H locs ht hvm hpx hB hz hk hS hcell hv hcl => ?_) (fun r u t H locs ht hvm hpost hB hz hk hS => ?_)
  · rw [if_neg hpx] at hM
    obtain ⟨rfl, hB⟩ := hB
    have w : Wd s D ad cA (FA ad) q.2.2 H locs := ⟨by rw [← ht]; exact hB, hS⟩
    obtain ⟨k, ek, hM⟩ := bnd_some hM
    by_cases eq : q.1 = 1
    · have ek : k = 1 := by simp [cidx, eq] at ek; omega
      subst ek
      refine vx_catch (name := exN 1) C.2.2.2.1 [] ⟨0, 9, 12, 19⟩ [] (htab.trans rfl) (fun z hz => nomatch hz) (by decide) (by decide) (C.2.2.2.2.1 _ clk_1) (by rw [eq]; exact cast_ok C (by decide)) hcell hv hcl ?_
      refine m_astore_n C hl [(3, .ref q9), (0, .ref (ad 0)), (1, .int (iZ a1)), (2, .ref (ad 96))] d_Lw_meets_12 rfl (by decide) rfl (fun ls hl => ?_)
      refine m_iconst C d_Lw_meets_13 ?_
      exact m_iretC C w hr hlk hM (Nat.le_of_ble_eq_true rfl) (Nat.le_of_ble_eq_true rfl) d_Lw_meets_14
    · have hn0 : ¬ q.1 = 1 := eq
      simp [cidx, hn0] at ek
  · rw [if_pos hpost.1] at hM
    have w : Wd s D ad cA (FA ad) q.2.2 H locs := ⟨by rw [← ht]; exact hB, hS⟩
    rw [hpost.2]
    refine m_i2l C d_Lw_meets_7 ?_
    refine m_lst C w d_Lw_meets_8 (fun H locs w => ?_)
    refine m_goto C 15 d_Lw_meets_9 (by decide) ?_
    refine m_iconst C d_Lw_meets_15 ?_
    exact m_iretC C w hr hlk hM (Nat.le_of_ble_eq_true rfl) (Nat.le_of_ble_eq_true rfl) d_Lw_meets_16
def y_Lw_beats : MethodName := ⟨"FeastBookLaw", "beats", "(LFeastBook;II[J)I"⟩
theorem d_Lw_beats_0 : decode method_23_code 0 = .ok (.aload_n 3, 1) := by decide +kernel
theorem d_Lw_beats_1 : decode method_23_code 1 = .ok (.iconst 0, 1) := by decide +kernel
theorem d_Lw_beats_2 : decode method_23_code 2 = .ok (.aload_n 0, 1) := by decide +kernel
theorem d_Lw_beats_3 : decode method_23_code 3 = .ok (.iload_n 1, 1) := by decide +kernel
theorem d_Lw_beats_4 : decode method_23_code 4 = .ok (.iload_n 2, 1) := by decide +kernel
theorem d_Lw_beats_5 : decode method_23_code 5 = .ok (.invokevirtual 84, 3) := by decide +kernel
theorem d_Lw_beats_8 : decode method_23_code 8 = .ok (.ifCond .eq 7, 3) := by decide +kernel
theorem d_Lw_beats_11 : decode method_23_code 11 = .ok (.lconst 1, 1) := by decide +kernel
theorem d_Lw_beats_12 : decode method_23_code 12 = .ok (.goto 4, 3) := by decide +kernel
theorem d_Lw_beats_15 : decode method_23_code 15 = .ok (.lconst 0, 1) := by decide +kernel
theorem d_Lw_beats_16 : decode method_23_code 16 = .ok (.lastore, 1) := by decide +kernel
theorem d_Lw_beats_17 : decode method_23_code 17 = .ok (.goto 11, 3) := by decide +kernel
theorem d_Lw_beats_20 : decode method_23_code 20 = .ok (.astore 4, 2) := by decide +kernel
theorem d_Lw_beats_22 : decode method_23_code 22 = .ok (.iconst 1, 1) := by decide +kernel
theorem d_Lw_beats_23 : decode method_23_code 23 = .ok (.ireturn, 1) := by decide +kernel
theorem d_Lw_beats_24 : decode method_23_code 24 = .ok (.astore 4, 2) := by decide +kernel
theorem d_Lw_beats_26 : decode method_23_code 26 = .ok (.iconst 2, 1) := by decide +kernel
theorem d_Lw_beats_27 : decode method_23_code 27 = .ok (.ireturn, 1) := by decide +kernel
theorem d_Lw_beats_28 : decode method_23_code 28 = .ok (.iconst 0, 1) := by decide +kernel
theorem d_Lw_beats_29 : decode method_23_code 29 = .ok (.ireturn, 1) := by decide +kernel
theorem cw_Lw_beats : Cond.codeWith y_Lw_beats method_23_code 5 (some .int) [(0, 17, 20, 19), (0, 17, 24, 13)] ∈ TT := mT7 121 (by decide +kernel) (by decide +kernel)
theorem st_Lw_beats : Cond.static y_Lw_beats ∈ TT := mT7 120 (by decide +kernel) (by decide +kernel)
theorem lk_Lw_beats : Cond.methodLink "FeastBookLaw" 84 y_FB_beats ∈ TT := mT7 122 (by decide +kernel) (by decide +kernel)
set_option maxHeartbeats 4000000 in
set_option maxRecDepth 100000 in
theorem c_Lw_beats {l : Launch} {D : va_G} {ad : Nat → Nat} {cA : Nat → ClassId} {sd sv : Nat → Nat} {h : Hp} {a1 a2 : Int} {out : Int × Hp} (hI : Inj97 ad) (hst : l.stackTraces = false) (hM : M_Lw_beats h a1 a2 = some out) : Met l y_Lw_beats (.codeWith y_Lw_beats method_23_code 5 (some .int) [(0, 17, 20, 19), (0, 17, 24, 13)] :: TT) (rmX 13 3 18) (PC D ad cA sd sv h [.ref (ad 0), .int (iZ a1), .int (iZ a2), .ref (ad 96)]) (QI D ad cA out) 3 18 (FA ad) := by
  unfold M_Lw_beats at hM
  refine entW (by decide) hI (Nat.le_of_ble_eq_true rfl) ?_
  intro p e s m args below meth c C hr hlk htab hP ls hl
  have C : Cx p s m args c method_23_code 5 "FeastBookLaw" D ad cA sd sv (FA ad) := C
  have hl : lv_has ls 5 [(0, .ref (ad 0)), (1, .int (iZ a1)), (2, .int (iZ a2)), (3, .ref (ad 96))] := hl
  have w : Wd s D ad cA (FA ad) h s.heap [] := ⟨hP, va_S.rf⟩
  obtain ⟨q, e1, hM⟩ := bnd_some hM
  refine m_aload_n C hl 3 d_Lw_beats_0 rfl rfl ?_
  refine m_iconst C d_Lw_beats_1 ?_
  refine m_aload_n C hl 0 d_Lw_beats_2 rfl rfl ?_
  refine m_iload_n C hl 1 d_Lw_beats_3 rfl rfl ?_
  refine m_iload_n C hl 2 d_Lw_beats_4 rfl rfl ?_
  refine vx_calli (runVX C w.1 w.2 kc_FB sh_0 (Nat.le_of_ble_eq_true rfl) (c_FB_beats hI hst e1) lk_Lw_beats mb_FB_beats rfl ⟨(Nat.le_of_ble_eq_true rfl), (Nat.le_of_ble_eq_true rfl)⟩ ⟨(Nat.le_of_ble_eq_true rfl), (Nat.le_of_ble_eq_true rfl)⟩ (Nat.le_of_ble_eq_true rfl) d_Lw_beats_5 hl.1 (rest := [.int (iZ 0), .ref (ad 96)]) rfl) w.2 (fun q _ hq => hq) (fun q hq => hq) (fun q _ hq => hq) (fun E ce q9 u t H locs ht hvm hpx hB hz hk hS hcell hv hcl => ?_) (fun r u t H locs ht hvm hpost hB hz hk hS => ?_)
  · rw [if_neg hpx] at hM
    obtain ⟨rfl, hB⟩ := hB
    have w : Wd s D ad cA (FA ad) q.2.2 H locs := ⟨by rw [← ht]; exact hB, hS⟩
    obtain ⟨k, ek, hM⟩ := bnd_some hM
    by_cases eq : q.1 = 1
    · have ek : k = 1 := by simp [cidx, eq] at ek; omega
      subst ek
      refine vx_catch (name := exN 1) C.2.2.2.1 [] ⟨0, 17, 20, 19⟩ [⟨0, 17, 24, 13⟩] (htab.trans rfl) (fun z hz => nomatch hz) (by decide) (by decide) (C.2.2.2.2.1 _ clk_1) (by rw [eq]; exact cast_ok C (by decide)) hcell hv hcl ?_
      refine m_astore C hl [(4, .ref q9), (0, .ref (ad 0)), (1, .int (iZ a1)), (2, .int (iZ a2)), (3, .ref (ad 96))] d_Lw_beats_20 (by decide) rfl (fun ls hl => ?_)
      refine m_iconst C d_Lw_beats_22 ?_
      exact m_iretC C w hr hlk hM (Nat.le_of_ble_eq_true rfl) (Nat.le_of_ble_eq_true rfl) d_Lw_beats_23
    · have hn0 : ¬ q.1 = 1 := eq
      by_cases eq : q.1 = 3
      · have ek : k = 2 := by simp [cidx, eq] at ek; omega
        subst ek
        have hps : ∀ z ∈ ([⟨0, 17, 20, 19⟩] : List ExceptionTableEntry), covers z 5 = false ∨ (z.catchType ≠ 0 ∧ ∃ nm : String, (Cond.classLink "FeastBookLaw" z.catchType nm).before args s = true ∧ va_Nc (exN q.1) nm s) := by
          intro z hz
          simp only [List.mem_cons, List.not_mem_nil, or_false] at hz
          rcases hz with rfl
          · exact Or.inr ⟨by decide, exN 1, C.2.2.2.2.1 _ clk_1, pass_ok (a := q.1) (b := 1) C (by rw [eq]; decide +kernel)⟩
        refine vx_catch (name := exN 3) C.2.2.2.1 [⟨0, 17, 20, 19⟩] ⟨0, 17, 24, 13⟩ [] (htab.trans rfl) hps (by decide) (by decide) (C.2.2.2.2.1 _ clk_3) (by rw [eq]; exact cast_ok C (by decide)) hcell hv hcl ?_
        refine m_astore C hl [(4, .ref q9), (0, .ref (ad 0)), (1, .int (iZ a1)), (2, .int (iZ a2)), (3, .ref (ad 96))] d_Lw_beats_24 (by decide) rfl (fun ls hl => ?_)
        refine m_iconst C d_Lw_beats_26 ?_
        exact m_iretC C w hr hlk hM (Nat.le_of_ble_eq_true rfl) (Nat.le_of_ble_eq_true rfl) d_Lw_beats_27
      · have hn1 : ¬ q.1 = 3 := eq
        simp [cidx, hn0, hn1] at ek
  · rw [if_pos hpost.1] at hM
    have w : Wd s D ad cA (FA ad) q.2.2 H locs := ⟨by rw [← ht]; exact hB, hS⟩
    rw [hpost.2]
    refine lv_if_eq C.1 C.2.1 d_Lw_beats_8 (tgt := 15) (by decide) (fun hc => ?_) (fun hc => ?_)
    · have hM : some ((0, hs q.2.2 96 0 0) : Int × Hp) = some out := by rw [← hM]; unfold bz01; rw [if_pos (show eqb q.2.1 0 = true from decide_eq_true hc)]
      refine lv_lconst (v := Int64.ofInt 0) C.1 C.2.1 d_Lw_beats_15 (by decide) ?_
      refine m_lst C w d_Lw_beats_16 (fun H locs w => ?_)
      refine m_goto C 28 d_Lw_beats_17 (by decide) ?_
      refine m_iconst C d_Lw_beats_28 ?_
      exact m_iretC C w hr hlk hM (Nat.le_of_ble_eq_true rfl) (Nat.le_of_ble_eq_true rfl) d_Lw_beats_29
    · have hM : some ((0, hs q.2.2 96 0 1) : Int × Hp) = some out := by rw [← hM]; unfold bz01; rw [if_neg (show ¬ eqb q.2.1 0 = true from fun z => hc (of_decide_eq_true z))]
      refine lv_lconst (v := Int64.ofInt 1) C.1 C.2.1 d_Lw_beats_11 (by decide) ?_
      refine m_goto C 16 d_Lw_beats_12 (by decide) ?_
      refine m_lst C w d_Lw_beats_16 (fun H locs w => ?_)
      refine m_goto C 28 d_Lw_beats_17 (by decide) ?_
      refine m_iconst C d_Lw_beats_28 ?_
      exact m_iretC C w hr hlk hM (Nat.le_of_ble_eq_true rfl) (Nat.le_of_ble_eq_true rfl) d_Lw_beats_29
def y_Lw_safe : MethodName := ⟨"FeastBookLaw", "safe", "(LFeastBook;I[J)I"⟩
theorem d_Lw_safe_0 : decode method_24_code 0 = .ok (.aload_n 2, 1) := by decide +kernel
theorem d_Lw_safe_1 : decode method_24_code 1 = .ok (.iconst 0, 1) := by decide +kernel
theorem d_Lw_safe_2 : decode method_24_code 2 = .ok (.aload_n 0, 1) := by decide +kernel
theorem d_Lw_safe_3 : decode method_24_code 3 = .ok (.iload_n 1, 1) := by decide +kernel
theorem d_Lw_safe_4 : decode method_24_code 4 = .ok (.invokevirtual 87, 3) := by decide +kernel
theorem d_Lw_safe_7 : decode method_24_code 7 = .ok (.i2l, 1) := by decide +kernel
theorem d_Lw_safe_8 : decode method_24_code 8 = .ok (.lastore, 1) := by decide +kernel
theorem d_Lw_safe_9 : decode method_24_code 9 = .ok (.goto 6, 3) := by decide +kernel
theorem d_Lw_safe_12 : decode method_24_code 12 = .ok (.astore_n 3, 1) := by decide +kernel
theorem d_Lw_safe_13 : decode method_24_code 13 = .ok (.iconst 1, 1) := by decide +kernel
theorem d_Lw_safe_14 : decode method_24_code 14 = .ok (.ireturn, 1) := by decide +kernel
theorem d_Lw_safe_15 : decode method_24_code 15 = .ok (.iconst 0, 1) := by decide +kernel
theorem d_Lw_safe_16 : decode method_24_code 16 = .ok (.ireturn, 1) := by decide +kernel
theorem cw_Lw_safe : Cond.codeWith y_Lw_safe method_24_code 4 (some .int) [(0, 9, 12, 19)] ∈ TT := mT7 133 (by decide +kernel) (by decide +kernel)
theorem st_Lw_safe : Cond.static y_Lw_safe ∈ TT := mT7 132 (by decide +kernel) (by decide +kernel)
theorem lk_Lw_safe : Cond.methodLink "FeastBookLaw" 87 y_FB_safe ∈ TT := mT7 134 (by decide +kernel) (by decide +kernel)
set_option maxHeartbeats 4000000 in
set_option maxRecDepth 100000 in
theorem c_Lw_safe {l : Launch} {D : va_G} {ad : Nat → Nat} {cA : Nat → ClassId} {sd sv : Nat → Nat} {h : Hp} {N : Nat} {a1 : Int} {out : Int × Hp} (hI : Inj97 ad) (hst : l.stackTraces = false) (hM : M_Lw_safe N h a1 = some out) : Met l y_Lw_safe (.codeWith y_Lw_safe method_24_code 4 (some .int) [(0, 9, 12, 19)] :: TT) (rmX 12 1 6) (PC D ad cA sd sv h [.ref (ad 0), .int (iZ a1), .ref (ad 96)]) (QI D ad cA out) 1 6 (FA ad) := by
  unfold M_Lw_safe at hM
  refine entW (by decide) hI (Nat.le_of_ble_eq_true rfl) ?_
  intro p e s m args below meth c C hr hlk htab hP ls hl
  have C : Cx p s m args c method_24_code 4 "FeastBookLaw" D ad cA sd sv (FA ad) := C
  have hl : lv_has ls 4 [(0, .ref (ad 0)), (1, .int (iZ a1)), (2, .ref (ad 96))] := hl
  have w : Wd s D ad cA (FA ad) h s.heap [] := ⟨hP, va_S.rf⟩
  obtain ⟨q, e1, hM⟩ := bnd_some hM
  refine m_aload_n C hl 2 d_Lw_safe_0 rfl rfl ?_
  refine m_iconst C d_Lw_safe_1 ?_
  refine m_aload_n C hl 0 d_Lw_safe_2 rfl rfl ?_
  refine m_iload_n C hl 1 d_Lw_safe_3 rfl rfl ?_
  refine vx_calli (runVX C w.1 w.2 kc_FB sh_0 (Nat.le_of_ble_eq_true rfl) (c_FB_safe hI hst e1) lk_Lw_safe mb_FB_safe rfl ⟨(Nat.le_of_ble_eq_true rfl), (Nat.le_of_ble_eq_true rfl)⟩ ⟨(Nat.le_of_ble_eq_true rfl), (Nat.le_of_ble_eq_true rfl)⟩ (Nat.le_of_ble_eq_true rfl) d_Lw_safe_4 hl.1 (rest := [.int (iZ 0), .ref (ad 96)]) rfl) w.2 (fun q _ hq => hq) (fun q hq => hq) (fun q _ hq => hq) (fun E ce q9 u t H locs ht hvm hpx hB hz hk hS hcell hv hcl => ?_) (fun r u t H locs ht hvm hpost hB hz hk hS => ?_)
  · rw [if_neg hpx] at hM
    obtain ⟨rfl, hB⟩ := hB
    have w : Wd s D ad cA (FA ad) q.2.2 H locs := ⟨by rw [← ht]; exact hB, hS⟩
    obtain ⟨k, ek, hM⟩ := bnd_some hM
    by_cases eq : q.1 = 1
    · have ek : k = 1 := by simp [cidx, eq] at ek; omega
      subst ek
      refine vx_catch (name := exN 1) C.2.2.2.1 [] ⟨0, 9, 12, 19⟩ [] (htab.trans rfl) (fun z hz => nomatch hz) (by decide) (by decide) (C.2.2.2.2.1 _ clk_1) (by rw [eq]; exact cast_ok C (by decide)) hcell hv hcl ?_
      refine m_astore_n C hl [(3, .ref q9), (0, .ref (ad 0)), (1, .int (iZ a1)), (2, .ref (ad 96))] d_Lw_safe_12 rfl (by decide) rfl (fun ls hl => ?_)
      refine m_iconst C d_Lw_safe_13 ?_
      exact m_iretC C w hr hlk hM (Nat.le_of_ble_eq_true rfl) (Nat.le_of_ble_eq_true rfl) d_Lw_safe_14
    · have hn0 : ¬ q.1 = 1 := eq
      simp [cidx, hn0] at ek
  · rw [if_pos hpost.1] at hM
    have w : Wd s D ad cA (FA ad) q.2.2 H locs := ⟨by rw [← ht]; exact hB, hS⟩
    rw [hpost.2]
    refine m_i2l C d_Lw_safe_7 ?_
    refine m_lst C w d_Lw_safe_8 (fun H locs w => ?_)
    refine m_goto C 15 d_Lw_safe_9 (by decide) ?_
    refine m_iconst C d_Lw_safe_15 ?_
    exact m_iretC C w hr hlk hM (Nat.le_of_ble_eq_true rfl) (Nat.le_of_ble_eq_true rfl) d_Lw_safe_16
def y_Lw_next : MethodName := ⟨"FeastBookLaw", "next", "(LFeastBook;III[J)I"⟩
theorem d_Lw_next_0 : decode method_25_code 0 = .ok (.aload 4, 2) := by decide +kernel
theorem d_Lw_next_2 : decode method_25_code 2 = .ok (.iconst 0, 1) := by decide +kernel
theorem d_Lw_next_3 : decode method_25_code 3 = .ok (.aload_n 0, 1) := by decide +kernel
theorem d_Lw_next_4 : decode method_25_code 4 = .ok (.iload_n 1, 1) := by decide +kernel
theorem d_Lw_next_5 : decode method_25_code 5 = .ok (.iload_n 2, 1) := by decide +kernel
theorem d_Lw_next_6 : decode method_25_code 6 = .ok (.iload_n 3, 1) := by decide +kernel
theorem d_Lw_next_7 : decode method_25_code 7 = .ok (.invokevirtual 90, 3) := by decide +kernel
theorem d_Lw_next_10 : decode method_25_code 10 = .ok (.i2l, 1) := by decide +kernel
theorem d_Lw_next_11 : decode method_25_code 11 = .ok (.lastore, 1) := by decide +kernel
theorem d_Lw_next_12 : decode method_25_code 12 = .ok (.goto 11, 3) := by decide +kernel
theorem d_Lw_next_15 : decode method_25_code 15 = .ok (.astore 5, 2) := by decide +kernel
theorem d_Lw_next_17 : decode method_25_code 17 = .ok (.iconst 1, 1) := by decide +kernel
theorem d_Lw_next_18 : decode method_25_code 18 = .ok (.ireturn, 1) := by decide +kernel
theorem d_Lw_next_19 : decode method_25_code 19 = .ok (.astore 5, 2) := by decide +kernel
theorem d_Lw_next_21 : decode method_25_code 21 = .ok (.iconst 2, 1) := by decide +kernel
theorem d_Lw_next_22 : decode method_25_code 22 = .ok (.ireturn, 1) := by decide +kernel
theorem d_Lw_next_23 : decode method_25_code 23 = .ok (.iconst 0, 1) := by decide +kernel
theorem d_Lw_next_24 : decode method_25_code 24 = .ok (.ireturn, 1) := by decide +kernel
theorem cw_Lw_next : Cond.codeWith y_Lw_next method_25_code 6 (some .int) [(0, 12, 15, 19), (0, 12, 19, 13)] ∈ TT := mT7 153 (by decide +kernel) (by decide +kernel)
theorem st_Lw_next : Cond.static y_Lw_next ∈ TT := mT7 152 (by decide +kernel) (by decide +kernel)
theorem lk_Lw_next : Cond.methodLink "FeastBookLaw" 90 y_FB_next ∈ TT := mT7 154 (by decide +kernel) (by decide +kernel)
set_option maxHeartbeats 4000000 in
set_option maxRecDepth 100000 in
theorem c_Lw_next {l : Launch} {D : va_G} {ad : Nat → Nat} {cA : Nat → ClassId} {sd sv : Nat → Nat} {h : Hp} {N : Nat} {a1 a2 a3 : Int} {out : Int × Hp} (hI : Inj97 ad) (hst : l.stackTraces = false) (hM : M_Lw_next N h a1 a2 a3 = some out) : Met l y_Lw_next (.codeWith y_Lw_next method_25_code 6 (some .int) [(0, 12, 15, 19), (0, 12, 19, 13)] :: TT) (rmX 12 3 18) (PC D ad cA sd sv h [.ref (ad 0), .int (iZ a1), .int (iZ a2), .int (iZ a3), .ref (ad 96)]) (QI D ad cA out) 3 18 (FA ad) := by
  unfold M_Lw_next at hM
  refine entW (by decide) hI (Nat.le_of_ble_eq_true rfl) ?_
  intro p e s m args below meth c C hr hlk htab hP ls hl
  have C : Cx p s m args c method_25_code 6 "FeastBookLaw" D ad cA sd sv (FA ad) := C
  have hl : lv_has ls 6 [(0, .ref (ad 0)), (1, .int (iZ a1)), (2, .int (iZ a2)), (3, .int (iZ a3)), (4, .ref (ad 96))] := hl
  have w : Wd s D ad cA (FA ad) h s.heap [] := ⟨hP, va_S.rf⟩
  obtain ⟨q, e1, hM⟩ := bnd_some hM
  refine m_aload C hl 4 d_Lw_next_0 rfl ?_
  refine m_iconst C d_Lw_next_2 ?_
  refine m_aload_n C hl 0 d_Lw_next_3 rfl rfl ?_
  refine m_iload_n C hl 1 d_Lw_next_4 rfl rfl ?_
  refine m_iload_n C hl 2 d_Lw_next_5 rfl rfl ?_
  refine m_iload_n C hl 3 d_Lw_next_6 rfl rfl ?_
  refine vx_calli (runVX C w.1 w.2 kc_FB sh_0 (Nat.le_of_ble_eq_true rfl) (c_FB_next hI hst e1) lk_Lw_next mb_FB_next rfl ⟨(Nat.le_of_ble_eq_true rfl), (Nat.le_of_ble_eq_true rfl)⟩ ⟨(Nat.le_of_ble_eq_true rfl), (Nat.le_of_ble_eq_true rfl)⟩ (Nat.le_of_ble_eq_true rfl) d_Lw_next_7 hl.1 (rest := [.int (iZ 0), .ref (ad 96)]) rfl) w.2 (fun q _ hq => hq) (fun q hq => hq) (fun q _ hq => hq) (fun E ce q9 u t H locs ht hvm hpx hB hz hk hS hcell hv hcl => ?_) (fun r u t H locs ht hvm hpost hB hz hk hS => ?_)
  · rw [if_neg hpx] at hM
    obtain ⟨rfl, hB⟩ := hB
    have w : Wd s D ad cA (FA ad) q.2.2 H locs := ⟨by rw [← ht]; exact hB, hS⟩
    obtain ⟨k, ek, hM⟩ := bnd_some hM
    by_cases eq : q.1 = 1
    · have ek : k = 1 := by simp [cidx, eq] at ek; omega
      subst ek
      refine vx_catch (name := exN 1) C.2.2.2.1 [] ⟨0, 12, 15, 19⟩ [⟨0, 12, 19, 13⟩] (htab.trans rfl) (fun z hz => nomatch hz) (by decide) (by decide) (C.2.2.2.2.1 _ clk_1) (by rw [eq]; exact cast_ok C (by decide)) hcell hv hcl ?_
      refine m_astore C hl [(5, .ref q9), (0, .ref (ad 0)), (1, .int (iZ a1)), (2, .int (iZ a2)), (3, .int (iZ a3)), (4, .ref (ad 96))] d_Lw_next_15 (by decide) rfl (fun ls hl => ?_)
      refine m_iconst C d_Lw_next_17 ?_
      exact m_iretC C w hr hlk hM (Nat.le_of_ble_eq_true rfl) (Nat.le_of_ble_eq_true rfl) d_Lw_next_18
    · have hn0 : ¬ q.1 = 1 := eq
      by_cases eq : q.1 = 3
      · have ek : k = 2 := by simp [cidx, eq] at ek; omega
        subst ek
        have hps : ∀ z ∈ ([⟨0, 12, 15, 19⟩] : List ExceptionTableEntry), covers z 7 = false ∨ (z.catchType ≠ 0 ∧ ∃ nm : String, (Cond.classLink "FeastBookLaw" z.catchType nm).before args s = true ∧ va_Nc (exN q.1) nm s) := by
          intro z hz
          simp only [List.mem_cons, List.not_mem_nil, or_false] at hz
          rcases hz with rfl
          · exact Or.inr ⟨by decide, exN 1, C.2.2.2.2.1 _ clk_1, pass_ok (a := q.1) (b := 1) C (by rw [eq]; decide +kernel)⟩
        refine vx_catch (name := exN 3) C.2.2.2.1 [⟨0, 12, 15, 19⟩] ⟨0, 12, 19, 13⟩ [] (htab.trans rfl) hps (by decide) (by decide) (C.2.2.2.2.1 _ clk_3) (by rw [eq]; exact cast_ok C (by decide)) hcell hv hcl ?_
        refine m_astore C hl [(5, .ref q9), (0, .ref (ad 0)), (1, .int (iZ a1)), (2, .int (iZ a2)), (3, .int (iZ a3)), (4, .ref (ad 96))] d_Lw_next_19 (by decide) rfl (fun ls hl => ?_)
        refine m_iconst C d_Lw_next_21 ?_
        exact m_iretC C w hr hlk hM (Nat.le_of_ble_eq_true rfl) (Nat.le_of_ble_eq_true rfl) d_Lw_next_22
      · have hn1 : ¬ q.1 = 3 := eq
        simp [cidx, hn0, hn1] at ek
  · rw [if_pos hpost.1] at hM
    have w : Wd s D ad cA (FA ad) q.2.2 H locs := ⟨by rw [← ht]; exact hB, hS⟩
    rw [hpost.2]
    refine m_i2l C d_Lw_next_10 ?_
    refine m_lst C w d_Lw_next_11 (fun H locs w => ?_)
    refine m_goto C 23 d_Lw_next_12 (by decide) ?_
    refine m_iconst C d_Lw_next_23 ?_
    exact m_iretC C w hr hlk hM (Nat.le_of_ble_eq_true rfl) (Nat.le_of_ble_eq_true rfl) d_Lw_next_24
def y_Lw_unresolved : MethodName := ⟨"FeastBookLaw", "unresolved", "(LFeastBook;[J)I"⟩
theorem d_Lw_unresolved_0 : decode method_26_code 0 = .ok (.aload_n 1, 1) := by decide +kernel
theorem d_Lw_unresolved_1 : decode method_26_code 1 = .ok (.iconst 0, 1) := by decide +kernel
theorem d_Lw_unresolved_2 : decode method_26_code 2 = .ok (.aload_n 0, 1) := by decide +kernel
theorem d_Lw_unresolved_3 : decode method_26_code 3 = .ok (.invokevirtual 93, 3) := by decide +kernel
theorem d_Lw_unresolved_6 : decode method_26_code 6 = .ok (.i2l, 1) := by decide +kernel
theorem d_Lw_unresolved_7 : decode method_26_code 7 = .ok (.lastore, 1) := by decide +kernel
theorem d_Lw_unresolved_8 : decode method_26_code 8 = .ok (.goto 6, 3) := by decide +kernel
theorem d_Lw_unresolved_11 : decode method_26_code 11 = .ok (.astore_n 2, 1) := by decide +kernel
theorem d_Lw_unresolved_12 : decode method_26_code 12 = .ok (.iconst 1, 1) := by decide +kernel
theorem d_Lw_unresolved_13 : decode method_26_code 13 = .ok (.ireturn, 1) := by decide +kernel
theorem d_Lw_unresolved_14 : decode method_26_code 14 = .ok (.iconst 0, 1) := by decide +kernel
theorem d_Lw_unresolved_15 : decode method_26_code 15 = .ok (.ireturn, 1) := by decide +kernel
theorem cw_Lw_unresolved : Cond.codeWith y_Lw_unresolved method_26_code 3 (some .int) [(0, 8, 11, 62)] ∈ TT := mT7 166 (by decide +kernel) (by decide +kernel)
theorem st_Lw_unresolved : Cond.static y_Lw_unresolved ∈ TT := mT7 165 (by decide +kernel) (by decide +kernel)
theorem lk_Lw_unresolved : Cond.methodLink "FeastBookLaw" 93 y_FB_unresolved ∈ TT := mT7 167 (by decide +kernel) (by decide +kernel)
set_option maxHeartbeats 4000000 in
set_option maxRecDepth 100000 in
theorem c_Lw_unresolved {l : Launch} {D : va_G} {ad : Nat → Nat} {cA : Nat → ClassId} {sd sv : Nat → Nat} {h : Hp} {N : Nat} {out : Int × Hp} (hI : Inj97 ad) (hst : l.stackTraces = false) (hM : M_Lw_unresolved N h = some out) : Met l y_Lw_unresolved (.codeWith y_Lw_unresolved method_26_code 3 (some .int) [(0, 8, 11, 62)] :: TT) (rmX 12 1 6) (PC D ad cA sd sv h [.ref (ad 0), .ref (ad 96)]) (QI D ad cA out) 1 6 (FA ad) := by
  unfold M_Lw_unresolved at hM
  refine entW (by decide) hI (Nat.le_of_ble_eq_true rfl) ?_
  intro p e s m args below meth c C hr hlk htab hP ls hl
  have C : Cx p s m args c method_26_code 3 "FeastBookLaw" D ad cA sd sv (FA ad) := C
  have hl : lv_has ls 3 [(0, .ref (ad 0)), (1, .ref (ad 96))] := hl
  have w : Wd s D ad cA (FA ad) h s.heap [] := ⟨hP, va_S.rf⟩
  obtain ⟨q, e1, hM⟩ := bnd_some hM
  refine m_aload_n C hl 1 d_Lw_unresolved_0 rfl rfl ?_
  refine m_iconst C d_Lw_unresolved_1 ?_
  refine m_aload_n C hl 0 d_Lw_unresolved_2 rfl rfl ?_
  refine vx_calli (runVX C w.1 w.2 kc_FB sh_0 (Nat.le_of_ble_eq_true rfl) (c_FB_unresolved hI hst e1) lk_Lw_unresolved mb_FB_unresolved rfl ⟨(Nat.le_of_ble_eq_true rfl), (Nat.le_of_ble_eq_true rfl)⟩ ⟨(Nat.le_of_ble_eq_true rfl), (Nat.le_of_ble_eq_true rfl)⟩ (Nat.le_of_ble_eq_true rfl) d_Lw_unresolved_3 hl.1 (rest := [.int (iZ 0), .ref (ad 96)]) rfl) w.2 (fun q _ hq => hq) (fun q hq => hq) (fun q _ hq => hq) (fun E ce q9 u t H locs ht hvm hpx hB hz hk hS hcell hv hcl => ?_) (fun r u t H locs ht hvm hpost hB hz hk hS => ?_)
  · rw [if_neg hpx] at hM
    obtain ⟨rfl, hB⟩ := hB
    have w : Wd s D ad cA (FA ad) q.2.2 H locs := ⟨by rw [← ht]; exact hB, hS⟩
    obtain ⟨k, ek, hM⟩ := bnd_some hM
    by_cases eq : q.1 = 4
    · have ek : k = 1 := by simp [cidx, eq] at ek; omega
      subst ek
      refine vx_catch (name := exN 4) C.2.2.2.1 [] ⟨0, 8, 11, 62⟩ [] (htab.trans rfl) (fun z hz => nomatch hz) (by decide) (by decide) (C.2.2.2.2.1 _ clk_4) (by rw [eq]; exact cast_ok C (by decide)) hcell hv hcl ?_
      refine m_astore_n C hl [(2, .ref q9), (0, .ref (ad 0)), (1, .ref (ad 96))] d_Lw_unresolved_11 rfl (by decide) rfl (fun ls hl => ?_)
      refine m_iconst C d_Lw_unresolved_12 ?_
      exact m_iretC C w hr hlk hM (Nat.le_of_ble_eq_true rfl) (Nat.le_of_ble_eq_true rfl) d_Lw_unresolved_13
    · have hn0 : ¬ q.1 = 4 := eq
      simp [cidx, hn0] at ek
  · rw [if_pos hpost.1] at hM
    have w : Wd s D ad cA (FA ad) q.2.2 H locs := ⟨by rw [← ht]; exact hB, hS⟩
    rw [hpost.2]
    refine m_i2l C d_Lw_unresolved_6 ?_
    refine m_lst C w d_Lw_unresolved_7 (fun H locs w => ?_)
    refine m_goto C 14 d_Lw_unresolved_8 (by decide) ?_
    refine m_iconst C d_Lw_unresolved_14 ?_
    exact m_iretC C w hr hlk hM (Nat.le_of_ble_eq_true rfl) (Nat.le_of_ble_eq_true rfl) d_Lw_unresolved_15
def y_Lw_paschs : MethodName := ⟨"FeastBookLaw", "paschs", "(LFeastBook;I[J)I"⟩
theorem d_Lw_paschs_0 : decode method_27_code 0 = .ok (.aload_n 2, 1) := by decide +kernel
theorem d_Lw_paschs_1 : decode method_27_code 1 = .ok (.iconst 0, 1) := by decide +kernel
theorem d_Lw_paschs_2 : decode method_27_code 2 = .ok (.aload_n 0, 1) := by decide +kernel
theorem d_Lw_paschs_3 : decode method_27_code 3 = .ok (.iload_n 1, 1) := by decide +kernel
theorem d_Lw_paschs_4 : decode method_27_code 4 = .ok (.invokevirtual 96, 3) := by decide +kernel
theorem d_Lw_paschs_7 : decode method_27_code 7 = .ok (.i2l, 1) := by decide +kernel
theorem d_Lw_paschs_8 : decode method_27_code 8 = .ok (.lastore, 1) := by decide +kernel
theorem d_Lw_paschs_9 : decode method_27_code 9 = .ok (.goto 6, 3) := by decide +kernel
theorem d_Lw_paschs_12 : decode method_27_code 12 = .ok (.astore_n 3, 1) := by decide +kernel
theorem d_Lw_paschs_13 : decode method_27_code 13 = .ok (.iconst 1, 1) := by decide +kernel
theorem d_Lw_paschs_14 : decode method_27_code 14 = .ok (.ireturn, 1) := by decide +kernel
theorem d_Lw_paschs_15 : decode method_27_code 15 = .ok (.iconst 0, 1) := by decide +kernel
theorem d_Lw_paschs_16 : decode method_27_code 16 = .ok (.ireturn, 1) := by decide +kernel
theorem cw_Lw_paschs : Cond.codeWith y_Lw_paschs method_27_code 4 (some .int) [(0, 9, 12, 62)] ∈ TT := mT7 178 (by decide +kernel) (by decide +kernel)
theorem st_Lw_paschs : Cond.static y_Lw_paschs ∈ TT := mT7 177 (by decide +kernel) (by decide +kernel)
theorem lk_Lw_paschs : Cond.methodLink "FeastBookLaw" 96 y_FB_paschs ∈ TT := mT7 179 (by decide +kernel) (by decide +kernel)
set_option maxHeartbeats 4000000 in
set_option maxRecDepth 100000 in
theorem c_Lw_paschs {l : Launch} {D : va_G} {ad : Nat → Nat} {cA : Nat → ClassId} {sd sv : Nat → Nat} {h : Hp} {N : Nat} {a1 : Int} {out : Int × Hp} (hI : Inj97 ad) (hst : l.stackTraces = false) (hM : M_Lw_paschs N h a1 = some out) : Met l y_Lw_paschs (.codeWith y_Lw_paschs method_27_code 4 (some .int) [(0, 9, 12, 62)] :: TT) (rmX 12 1 6) (PC D ad cA sd sv h [.ref (ad 0), .int (iZ a1), .ref (ad 96)]) (QI D ad cA out) 1 6 (FA ad) := by
  unfold M_Lw_paschs at hM
  refine entW (by decide) hI (Nat.le_of_ble_eq_true rfl) ?_
  intro p e s m args below meth c C hr hlk htab hP ls hl
  have C : Cx p s m args c method_27_code 4 "FeastBookLaw" D ad cA sd sv (FA ad) := C
  have hl : lv_has ls 4 [(0, .ref (ad 0)), (1, .int (iZ a1)), (2, .ref (ad 96))] := hl
  have w : Wd s D ad cA (FA ad) h s.heap [] := ⟨hP, va_S.rf⟩
  obtain ⟨q, e1, hM⟩ := bnd_some hM
  refine m_aload_n C hl 2 d_Lw_paschs_0 rfl rfl ?_
  refine m_iconst C d_Lw_paschs_1 ?_
  refine m_aload_n C hl 0 d_Lw_paschs_2 rfl rfl ?_
  refine m_iload_n C hl 1 d_Lw_paschs_3 rfl rfl ?_
  refine vx_calli (runVX C w.1 w.2 kc_FB sh_0 (Nat.le_of_ble_eq_true rfl) (c_FB_paschs hI hst e1) lk_Lw_paschs mb_FB_paschs rfl ⟨(Nat.le_of_ble_eq_true rfl), (Nat.le_of_ble_eq_true rfl)⟩ ⟨(Nat.le_of_ble_eq_true rfl), (Nat.le_of_ble_eq_true rfl)⟩ (Nat.le_of_ble_eq_true rfl) d_Lw_paschs_4 hl.1 (rest := [.int (iZ 0), .ref (ad 96)]) rfl) w.2 (fun q _ hq => hq) (fun q hq => hq) (fun q _ hq => hq) (fun E ce q9 u t H locs ht hvm hpx hB hz hk hS hcell hv hcl => ?_) (fun r u t H locs ht hvm hpost hB hz hk hS => ?_)
  · rw [if_neg hpx] at hM
    obtain ⟨rfl, hB⟩ := hB
    have w : Wd s D ad cA (FA ad) q.2.2 H locs := ⟨by rw [← ht]; exact hB, hS⟩
    obtain ⟨k, ek, hM⟩ := bnd_some hM
    by_cases eq : q.1 = 4
    · have ek : k = 1 := by simp [cidx, eq] at ek; omega
      subst ek
      refine vx_catch (name := exN 4) C.2.2.2.1 [] ⟨0, 9, 12, 62⟩ [] (htab.trans rfl) (fun z hz => nomatch hz) (by decide) (by decide) (C.2.2.2.2.1 _ clk_4) (by rw [eq]; exact cast_ok C (by decide)) hcell hv hcl ?_
      refine m_astore_n C hl [(3, .ref q9), (0, .ref (ad 0)), (1, .int (iZ a1)), (2, .ref (ad 96))] d_Lw_paschs_12 rfl (by decide) rfl (fun ls hl => ?_)
      refine m_iconst C d_Lw_paschs_13 ?_
      exact m_iretC C w hr hlk hM (Nat.le_of_ble_eq_true rfl) (Nat.le_of_ble_eq_true rfl) d_Lw_paschs_14
    · have hn0 : ¬ q.1 = 4 := eq
      simp [cidx, hn0] at ek
  · rw [if_pos hpost.1] at hM
    have w : Wd s D ad cA (FA ad) q.2.2 H locs := ⟨by rw [← ht]; exact hB, hS⟩
    rw [hpost.2]
    refine m_i2l C d_Lw_paschs_7 ?_
    refine m_lst C w d_Lw_paschs_8 (fun H locs w => ?_)
    refine m_goto C 15 d_Lw_paschs_9 (by decide) ?_
    refine m_iconst C d_Lw_paschs_15 ?_
    exact m_iretC C w hr hlk hM (Nat.le_of_ble_eq_true rfl) (Nat.le_of_ble_eq_true rfl) d_Lw_paschs_16
def y_Lw_alike : MethodName := ⟨"FeastBookLaw", "alike", "(LFeastBook;II[J)I"⟩
theorem d_Lw_alike_0 : decode method_28_code 0 = .ok (.aload_n 3, 1) := by decide +kernel
theorem d_Lw_alike_1 : decode method_28_code 1 = .ok (.iconst 0, 1) := by decide +kernel
theorem d_Lw_alike_2 : decode method_28_code 2 = .ok (.aload_n 0, 1) := by decide +kernel
theorem d_Lw_alike_3 : decode method_28_code 3 = .ok (.iload_n 1, 1) := by decide +kernel
theorem d_Lw_alike_4 : decode method_28_code 4 = .ok (.iload_n 2, 1) := by decide +kernel
theorem d_Lw_alike_5 : decode method_28_code 5 = .ok (.invokevirtual 99, 3) := by decide +kernel
theorem d_Lw_alike_8 : decode method_28_code 8 = .ok (.ifCond .eq 7, 3) := by decide +kernel
theorem d_Lw_alike_11 : decode method_28_code 11 = .ok (.lconst 1, 1) := by decide +kernel
theorem d_Lw_alike_12 : decode method_28_code 12 = .ok (.goto 4, 3) := by decide +kernel
theorem d_Lw_alike_15 : decode method_28_code 15 = .ok (.lconst 0, 1) := by decide +kernel
theorem d_Lw_alike_16 : decode method_28_code 16 = .ok (.lastore, 1) := by decide +kernel
theorem d_Lw_alike_17 : decode method_28_code 17 = .ok (.goto 7, 3) := by decide +kernel
theorem d_Lw_alike_20 : decode method_28_code 20 = .ok (.astore 4, 2) := by decide +kernel
theorem d_Lw_alike_22 : decode method_28_code 22 = .ok (.iconst 1, 1) := by decide +kernel
theorem d_Lw_alike_23 : decode method_28_code 23 = .ok (.ireturn, 1) := by decide +kernel
theorem d_Lw_alike_24 : decode method_28_code 24 = .ok (.iconst 0, 1) := by decide +kernel
theorem d_Lw_alike_25 : decode method_28_code 25 = .ok (.ireturn, 1) := by decide +kernel
theorem cw_Lw_alike : Cond.codeWith y_Lw_alike method_28_code 5 (some .int) [(0, 17, 20, 19)] ∈ TT := mT7 189 (by decide +kernel) (by decide +kernel)
theorem st_Lw_alike : Cond.static y_Lw_alike ∈ TT := mT7 188 (by decide +kernel) (by decide +kernel)
theorem lk_Lw_alike : Cond.methodLink "FeastBookLaw" 99 y_FB_alike ∈ TT := mT7 190 (by decide +kernel) (by decide +kernel)
set_option maxHeartbeats 4000000 in
set_option maxRecDepth 100000 in
theorem c_Lw_alike {l : Launch} {D : va_G} {ad : Nat → Nat} {cA : Nat → ClassId} {sd sv : Nat → Nat} {h : Hp} {a1 a2 : Int} {out : Int × Hp} (hI : Inj97 ad) (hst : l.stackTraces = false) (hM : M_Lw_alike h a1 a2 = some out) : Met l y_Lw_alike (.codeWith y_Lw_alike method_28_code 5 (some .int) [(0, 17, 20, 19)] :: TT) (rmX 12 2 12) (PC D ad cA sd sv h [.ref (ad 0), .int (iZ a1), .int (iZ a2), .ref (ad 96)]) (QI D ad cA out) 2 12 (FA ad) := by
  unfold M_Lw_alike at hM
  refine entW (by decide) hI (Nat.le_of_ble_eq_true rfl) ?_
  intro p e s m args below meth c C hr hlk htab hP ls hl
  have C : Cx p s m args c method_28_code 5 "FeastBookLaw" D ad cA sd sv (FA ad) := C
  have hl : lv_has ls 5 [(0, .ref (ad 0)), (1, .int (iZ a1)), (2, .int (iZ a2)), (3, .ref (ad 96))] := hl
  have w : Wd s D ad cA (FA ad) h s.heap [] := ⟨hP, va_S.rf⟩
  obtain ⟨q, e1, hM⟩ := bnd_some hM
  refine m_aload_n C hl 3 d_Lw_alike_0 rfl rfl ?_
  refine m_iconst C d_Lw_alike_1 ?_
  refine m_aload_n C hl 0 d_Lw_alike_2 rfl rfl ?_
  refine m_iload_n C hl 1 d_Lw_alike_3 rfl rfl ?_
  refine m_iload_n C hl 2 d_Lw_alike_4 rfl rfl ?_
  refine vx_calli (runVX C w.1 w.2 kc_FB sh_0 (Nat.le_of_ble_eq_true rfl) (c_FB_alike hI hst e1) lk_Lw_alike mb_FB_alike rfl ⟨(Nat.le_of_ble_eq_true rfl), (Nat.le_of_ble_eq_true rfl)⟩ ⟨(Nat.le_of_ble_eq_true rfl), (Nat.le_of_ble_eq_true rfl)⟩ (Nat.le_of_ble_eq_true rfl) d_Lw_alike_5 hl.1 (rest := [.int (iZ 0), .ref (ad 96)]) rfl) w.2 (fun q _ hq => hq) (fun q hq => hq) (fun q _ hq => hq) (fun E ce q9 u t H locs ht hvm hpx hB hz hk hS hcell hv hcl => ?_) (fun r u t H locs ht hvm hpost hB hz hk hS => ?_)
  · rw [if_neg hpx] at hM
    obtain ⟨rfl, hB⟩ := hB
    have w : Wd s D ad cA (FA ad) q.2.2 H locs := ⟨by rw [← ht]; exact hB, hS⟩
    obtain ⟨k, ek, hM⟩ := bnd_some hM
    by_cases eq : q.1 = 1
    · have ek : k = 1 := by simp [cidx, eq] at ek; omega
      subst ek
      refine vx_catch (name := exN 1) C.2.2.2.1 [] ⟨0, 17, 20, 19⟩ [] (htab.trans rfl) (fun z hz => nomatch hz) (by decide) (by decide) (C.2.2.2.2.1 _ clk_1) (by rw [eq]; exact cast_ok C (by decide)) hcell hv hcl ?_
      refine m_astore C hl [(4, .ref q9), (0, .ref (ad 0)), (1, .int (iZ a1)), (2, .int (iZ a2)), (3, .ref (ad 96))] d_Lw_alike_20 (by decide) rfl (fun ls hl => ?_)
      refine m_iconst C d_Lw_alike_22 ?_
      exact m_iretC C w hr hlk hM (Nat.le_of_ble_eq_true rfl) (Nat.le_of_ble_eq_true rfl) d_Lw_alike_23
    · have hn0 : ¬ q.1 = 1 := eq
      simp [cidx, hn0] at ek
  · rw [if_pos hpost.1] at hM
    have w : Wd s D ad cA (FA ad) q.2.2 H locs := ⟨by rw [← ht]; exact hB, hS⟩
    rw [hpost.2]
    refine lv_if_eq C.1 C.2.1 d_Lw_alike_8 (tgt := 15) (by decide) (fun hc => ?_) (fun hc => ?_)
    · have hM : some ((0, hs q.2.2 96 0 0) : Int × Hp) = some out := by rw [← hM]; unfold bz01; rw [if_pos (show eqb q.2.1 0 = true from decide_eq_true hc)]
      refine lv_lconst (v := Int64.ofInt 0) C.1 C.2.1 d_Lw_alike_15 (by decide) ?_
      refine m_lst C w d_Lw_alike_16 (fun H locs w => ?_)
      refine m_goto C 24 d_Lw_alike_17 (by decide) ?_
      refine m_iconst C d_Lw_alike_24 ?_
      exact m_iretC C w hr hlk hM (Nat.le_of_ble_eq_true rfl) (Nat.le_of_ble_eq_true rfl) d_Lw_alike_25
    · have hM : some ((0, hs q.2.2 96 0 1) : Int × Hp) = some out := by rw [← hM]; unfold bz01; rw [if_neg (show ¬ eqb q.2.1 0 = true from fun z => hc (of_decide_eq_true z))]
      refine lv_lconst (v := Int64.ofInt 1) C.1 C.2.1 d_Lw_alike_11 (by decide) ?_
      refine m_goto C 16 d_Lw_alike_12 (by decide) ?_
      refine m_lst C w d_Lw_alike_16 (fun H locs w => ?_)
      refine m_goto C 24 d_Lw_alike_17 (by decide) ?_
      refine m_iconst C d_Lw_alike_24 ?_
      exact m_iretC C w hr hlk hM (Nat.le_of_ble_eq_true rfl) (Nat.le_of_ble_eq_true rfl) d_Lw_alike_25
def y_Lw_sorts : MethodName := ⟨"FeastBookLaw", "sorts", "(LFeastBook;[J)I"⟩
theorem d_Lw_sorts_0 : decode method_29_code 0 = .ok (.aload_n 1, 1) := by decide +kernel
theorem d_Lw_sorts_1 : decode method_29_code 1 = .ok (.iconst 0, 1) := by decide +kernel
theorem d_Lw_sorts_2 : decode method_29_code 2 = .ok (.aload_n 0, 1) := by decide +kernel
theorem d_Lw_sorts_3 : decode method_29_code 3 = .ok (.invokevirtual 102, 3) := by decide +kernel
theorem d_Lw_sorts_6 : decode method_29_code 6 = .ok (.i2l, 1) := by decide +kernel
theorem d_Lw_sorts_7 : decode method_29_code 7 = .ok (.lastore, 1) := by decide +kernel
theorem d_Lw_sorts_8 : decode method_29_code 8 = .ok (.goto 6, 3) := by decide +kernel
theorem d_Lw_sorts_11 : decode method_29_code 11 = .ok (.astore_n 2, 1) := by decide +kernel
theorem d_Lw_sorts_12 : decode method_29_code 12 = .ok (.iconst 1, 1) := by decide +kernel
theorem d_Lw_sorts_13 : decode method_29_code 13 = .ok (.ireturn, 1) := by decide +kernel
theorem d_Lw_sorts_14 : decode method_29_code 14 = .ok (.iconst 0, 1) := by decide +kernel
theorem d_Lw_sorts_15 : decode method_29_code 15 = .ok (.ireturn, 1) := by decide +kernel
theorem cw_Lw_sorts : Cond.codeWith y_Lw_sorts method_29_code 3 (some .int) [(0, 8, 11, 62)] ∈ TT := mT7 196 (by decide +kernel) (by decide +kernel)
theorem st_Lw_sorts : Cond.static y_Lw_sorts ∈ TT := mT7 195 (by decide +kernel) (by decide +kernel)
theorem lk_Lw_sorts : Cond.methodLink "FeastBookLaw" 102 y_FB_sorts ∈ TT := mT7 197 (by decide +kernel) (by decide +kernel)
set_option maxHeartbeats 4000000 in
set_option maxRecDepth 100000 in
theorem c_Lw_sorts {l : Launch} {D : va_G} {ad : Nat → Nat} {cA : Nat → ClassId} {sd sv : Nat → Nat} {h : Hp} {N : Nat} {out : Int × Hp} (hI : Inj97 ad) (hst : l.stackTraces = false) (hM : M_Lw_sorts N h = some out) : Met l y_Lw_sorts (.codeWith y_Lw_sorts method_29_code 3 (some .int) [(0, 8, 11, 62)] :: TT) (rmX 12 1 6) (PC D ad cA sd sv h [.ref (ad 0), .ref (ad 96)]) (QI D ad cA out) 1 6 (FA ad) := by
  unfold M_Lw_sorts at hM
  refine entW (by decide) hI (Nat.le_of_ble_eq_true rfl) ?_
  intro p e s m args below meth c C hr hlk htab hP ls hl
  have C : Cx p s m args c method_29_code 3 "FeastBookLaw" D ad cA sd sv (FA ad) := C
  have hl : lv_has ls 3 [(0, .ref (ad 0)), (1, .ref (ad 96))] := hl
  have w : Wd s D ad cA (FA ad) h s.heap [] := ⟨hP, va_S.rf⟩
  obtain ⟨q, e1, hM⟩ := bnd_some hM
  refine m_aload_n C hl 1 d_Lw_sorts_0 rfl rfl ?_
  refine m_iconst C d_Lw_sorts_1 ?_
  refine m_aload_n C hl 0 d_Lw_sorts_2 rfl rfl ?_
  refine vx_calli (runVX C w.1 w.2 kc_FB sh_0 (Nat.le_of_ble_eq_true rfl) (c_FB_sorts hI hst e1) lk_Lw_sorts mb_FB_sorts rfl ⟨(Nat.le_of_ble_eq_true rfl), (Nat.le_of_ble_eq_true rfl)⟩ ⟨(Nat.le_of_ble_eq_true rfl), (Nat.le_of_ble_eq_true rfl)⟩ (Nat.le_of_ble_eq_true rfl) d_Lw_sorts_3 hl.1 (rest := [.int (iZ 0), .ref (ad 96)]) rfl) w.2 (fun q _ hq => hq) (fun q hq => hq) (fun q _ hq => hq) (fun E ce q9 u t H locs ht hvm hpx hB hz hk hS hcell hv hcl => ?_) (fun r u t H locs ht hvm hpost hB hz hk hS => ?_)
  · rw [if_neg hpx] at hM
    obtain ⟨rfl, hB⟩ := hB
    have w : Wd s D ad cA (FA ad) q.2.2 H locs := ⟨by rw [← ht]; exact hB, hS⟩
    obtain ⟨k, ek, hM⟩ := bnd_some hM
    by_cases eq : q.1 = 4
    · have ek : k = 1 := by simp [cidx, eq] at ek; omega
      subst ek
      refine vx_catch (name := exN 4) C.2.2.2.1 [] ⟨0, 8, 11, 62⟩ [] (htab.trans rfl) (fun z hz => nomatch hz) (by decide) (by decide) (C.2.2.2.2.1 _ clk_4) (by rw [eq]; exact cast_ok C (by decide)) hcell hv hcl ?_
      refine m_astore_n C hl [(2, .ref q9), (0, .ref (ad 0)), (1, .ref (ad 96))] d_Lw_sorts_11 rfl (by decide) rfl (fun ls hl => ?_)
      refine m_iconst C d_Lw_sorts_12 ?_
      exact m_iretC C w hr hlk hM (Nat.le_of_ble_eq_true rfl) (Nat.le_of_ble_eq_true rfl) d_Lw_sorts_13
    · have hn0 : ¬ q.1 = 4 := eq
      simp [cidx, hn0] at ek
  · rw [if_pos hpost.1] at hM
    have w : Wd s D ad cA (FA ad) q.2.2 H locs := ⟨by rw [← ht]; exact hB, hS⟩
    rw [hpost.2]
    refine m_i2l C d_Lw_sorts_6 ?_
    refine m_lst C w d_Lw_sorts_7 (fun H locs w => ?_)
    refine m_goto C 14 d_Lw_sorts_8 (by decide) ?_
    refine m_iconst C d_Lw_sorts_14 ?_
    exact m_iretC C w hr hlk hM (Nat.le_of_ble_eq_true rfl) (Nat.le_of_ble_eq_true rfl) d_Lw_sorts_15
def y_Lw_yields : MethodName := ⟨"FeastBookLaw", "yields", "(LFeastBook;II[J)I"⟩
theorem d_Lw_yields_0 : decode method_30_code 0 = .ok (.aload_n 3, 1) := by decide +kernel
theorem d_Lw_yields_1 : decode method_30_code 1 = .ok (.iconst 0, 1) := by decide +kernel
theorem d_Lw_yields_2 : decode method_30_code 2 = .ok (.aload_n 0, 1) := by decide +kernel
theorem d_Lw_yields_3 : decode method_30_code 3 = .ok (.iload_n 1, 1) := by decide +kernel
theorem d_Lw_yields_4 : decode method_30_code 4 = .ok (.iload_n 2, 1) := by decide +kernel
theorem d_Lw_yields_5 : decode method_30_code 5 = .ok (.invokevirtual 105, 3) := by decide +kernel
theorem d_Lw_yields_8 : decode method_30_code 8 = .ok (.i2l, 1) := by decide +kernel
theorem d_Lw_yields_9 : decode method_30_code 9 = .ok (.lastore, 1) := by decide +kernel
theorem d_Lw_yields_10 : decode method_30_code 10 = .ok (.goto 11, 3) := by decide +kernel
theorem d_Lw_yields_13 : decode method_30_code 13 = .ok (.astore 4, 2) := by decide +kernel
theorem d_Lw_yields_15 : decode method_30_code 15 = .ok (.iconst 1, 1) := by decide +kernel
theorem d_Lw_yields_16 : decode method_30_code 16 = .ok (.ireturn, 1) := by decide +kernel
theorem d_Lw_yields_17 : decode method_30_code 17 = .ok (.astore 4, 2) := by decide +kernel
theorem d_Lw_yields_19 : decode method_30_code 19 = .ok (.iconst 2, 1) := by decide +kernel
theorem d_Lw_yields_20 : decode method_30_code 20 = .ok (.ireturn, 1) := by decide +kernel
theorem d_Lw_yields_21 : decode method_30_code 21 = .ok (.iconst 0, 1) := by decide +kernel
theorem d_Lw_yields_22 : decode method_30_code 22 = .ok (.ireturn, 1) := by decide +kernel
theorem cw_Lw_yields : Cond.codeWith y_Lw_yields method_30_code 5 (some .int) [(0, 10, 13, 19), (0, 10, 17, 13)] ∈ TT := mT7 207 (by decide +kernel) (by decide +kernel)
theorem st_Lw_yields : Cond.static y_Lw_yields ∈ TT := mT7 206 (by decide +kernel) (by decide +kernel)
theorem lk_Lw_yields : Cond.methodLink "FeastBookLaw" 105 y_FB_yields ∈ TT := mT7 208 (by decide +kernel) (by decide +kernel)
set_option maxHeartbeats 4000000 in
set_option maxRecDepth 100000 in
theorem c_Lw_yields {l : Launch} {D : va_G} {ad : Nat → Nat} {cA : Nat → ClassId} {sd sv : Nat → Nat} {h : Hp} {N : Nat} {a1 a2 : Int} {out : Int × Hp} (hI : Inj97 ad) (hst : l.stackTraces = false) (hM : M_Lw_yields N h a1 a2 = some out) : Met l y_Lw_yields (.codeWith y_Lw_yields method_30_code 5 (some .int) [(0, 10, 13, 19), (0, 10, 17, 13)] :: TT) (rmX 13 3 18) (PC D ad cA sd sv h [.ref (ad 0), .int (iZ a1), .int (iZ a2), .ref (ad 96)]) (QI D ad cA out) 3 18 (FA ad) := by
  unfold M_Lw_yields at hM
  refine entW (by decide) hI (Nat.le_of_ble_eq_true rfl) ?_
  intro p e s m args below meth c C hr hlk htab hP ls hl
  have C : Cx p s m args c method_30_code 5 "FeastBookLaw" D ad cA sd sv (FA ad) := C
  have hl : lv_has ls 5 [(0, .ref (ad 0)), (1, .int (iZ a1)), (2, .int (iZ a2)), (3, .ref (ad 96))] := hl
  have w : Wd s D ad cA (FA ad) h s.heap [] := ⟨hP, va_S.rf⟩
  obtain ⟨q, e1, hM⟩ := bnd_some hM
  refine m_aload_n C hl 3 d_Lw_yields_0 rfl rfl ?_
  refine m_iconst C d_Lw_yields_1 ?_
  refine m_aload_n C hl 0 d_Lw_yields_2 rfl rfl ?_
  refine m_iload_n C hl 1 d_Lw_yields_3 rfl rfl ?_
  refine m_iload_n C hl 2 d_Lw_yields_4 rfl rfl ?_
  refine vx_calli (runVX C w.1 w.2 kc_FB sh_0 (Nat.le_of_ble_eq_true rfl) (c_FB_yields hI hst e1) lk_Lw_yields mb_FB_yields rfl ⟨(Nat.le_of_ble_eq_true rfl), (Nat.le_of_ble_eq_true rfl)⟩ ⟨(Nat.le_of_ble_eq_true rfl), (Nat.le_of_ble_eq_true rfl)⟩ (Nat.le_of_ble_eq_true rfl) d_Lw_yields_5 hl.1 (rest := [.int (iZ 0), .ref (ad 96)]) rfl) w.2 (fun q _ hq => hq) (fun q hq => hq) (fun q _ hq => hq) (fun E ce q9 u t H locs ht hvm hpx hB hz hk hS hcell hv hcl => ?_) (fun r u t H locs ht hvm hpost hB hz hk hS => ?_)
  · rw [if_neg hpx] at hM
    obtain ⟨rfl, hB⟩ := hB
    have w : Wd s D ad cA (FA ad) q.2.2 H locs := ⟨by rw [← ht]; exact hB, hS⟩
    obtain ⟨k, ek, hM⟩ := bnd_some hM
    by_cases eq : q.1 = 1
    · have ek : k = 1 := by simp [cidx, eq] at ek; omega
      subst ek
      refine vx_catch (name := exN 1) C.2.2.2.1 [] ⟨0, 10, 13, 19⟩ [⟨0, 10, 17, 13⟩] (htab.trans rfl) (fun z hz => nomatch hz) (by decide) (by decide) (C.2.2.2.2.1 _ clk_1) (by rw [eq]; exact cast_ok C (by decide)) hcell hv hcl ?_
      refine m_astore C hl [(4, .ref q9), (0, .ref (ad 0)), (1, .int (iZ a1)), (2, .int (iZ a2)), (3, .ref (ad 96))] d_Lw_yields_13 (by decide) rfl (fun ls hl => ?_)
      refine m_iconst C d_Lw_yields_15 ?_
      exact m_iretC C w hr hlk hM (Nat.le_of_ble_eq_true rfl) (Nat.le_of_ble_eq_true rfl) d_Lw_yields_16
    · have hn0 : ¬ q.1 = 1 := eq
      by_cases eq : q.1 = 3
      · have ek : k = 2 := by simp [cidx, eq] at ek; omega
        subst ek
        have hps : ∀ z ∈ ([⟨0, 10, 13, 19⟩] : List ExceptionTableEntry), covers z 5 = false ∨ (z.catchType ≠ 0 ∧ ∃ nm : String, (Cond.classLink "FeastBookLaw" z.catchType nm).before args s = true ∧ va_Nc (exN q.1) nm s) := by
          intro z hz
          simp only [List.mem_cons, List.not_mem_nil, or_false] at hz
          rcases hz with rfl
          · exact Or.inr ⟨by decide, exN 1, C.2.2.2.2.1 _ clk_1, pass_ok (a := q.1) (b := 1) C (by rw [eq]; decide +kernel)⟩
        refine vx_catch (name := exN 3) C.2.2.2.1 [⟨0, 10, 13, 19⟩] ⟨0, 10, 17, 13⟩ [] (htab.trans rfl) hps (by decide) (by decide) (C.2.2.2.2.1 _ clk_3) (by rw [eq]; exact cast_ok C (by decide)) hcell hv hcl ?_
        refine m_astore C hl [(4, .ref q9), (0, .ref (ad 0)), (1, .int (iZ a1)), (2, .int (iZ a2)), (3, .ref (ad 96))] d_Lw_yields_17 (by decide) rfl (fun ls hl => ?_)
        refine m_iconst C d_Lw_yields_19 ?_
        exact m_iretC C w hr hlk hM (Nat.le_of_ble_eq_true rfl) (Nat.le_of_ble_eq_true rfl) d_Lw_yields_20
      · have hn1 : ¬ q.1 = 3 := eq
        simp [cidx, hn0, hn1] at ek
  · rw [if_pos hpost.1] at hM
    have w : Wd s D ad cA (FA ad) q.2.2 H locs := ⟨by rw [← ht]; exact hB, hS⟩
    rw [hpost.2]
    refine m_i2l C d_Lw_yields_8 ?_
    refine m_lst C w d_Lw_yields_9 (fun H locs w => ?_)
    refine m_goto C 21 d_Lw_yields_10 (by decide) ?_
    refine m_iconst C d_Lw_yields_21 ?_
    exact m_iretC C w hr hlk hM (Nat.le_of_ble_eq_true rfl) (Nat.le_of_ble_eq_true rfl) d_Lw_yields_22
def y_Lw_course : MethodName := ⟨"FeastBookLaw", "course", "(LFeastBook;I[J)I"⟩
theorem d_Lw_course_0 : decode method_31_code 0 = .ok (.aload_n 2, 1) := by decide +kernel
theorem d_Lw_course_1 : decode method_31_code 1 = .ok (.iconst 0, 1) := by decide +kernel
theorem d_Lw_course_2 : decode method_31_code 2 = .ok (.aload_n 0, 1) := by decide +kernel
theorem d_Lw_course_3 : decode method_31_code 3 = .ok (.iload_n 1, 1) := by decide +kernel
theorem d_Lw_course_4 : decode method_31_code 4 = .ok (.invokevirtual 108, 3) := by decide +kernel
theorem d_Lw_course_7 : decode method_31_code 7 = .ok (.i2l, 1) := by decide +kernel
theorem d_Lw_course_8 : decode method_31_code 8 = .ok (.lastore, 1) := by decide +kernel
theorem d_Lw_course_9 : decode method_31_code 9 = .ok (.goto 9, 3) := by decide +kernel
theorem d_Lw_course_12 : decode method_31_code 12 = .ok (.astore_n 3, 1) := by decide +kernel
theorem d_Lw_course_13 : decode method_31_code 13 = .ok (.iconst 1, 1) := by decide +kernel
theorem d_Lw_course_14 : decode method_31_code 14 = .ok (.ireturn, 1) := by decide +kernel
theorem d_Lw_course_15 : decode method_31_code 15 = .ok (.astore_n 3, 1) := by decide +kernel
theorem d_Lw_course_16 : decode method_31_code 16 = .ok (.iconst 2, 1) := by decide +kernel
theorem d_Lw_course_17 : decode method_31_code 17 = .ok (.ireturn, 1) := by decide +kernel
theorem d_Lw_course_18 : decode method_31_code 18 = .ok (.iconst 0, 1) := by decide +kernel
theorem d_Lw_course_19 : decode method_31_code 19 = .ok (.ireturn, 1) := by decide +kernel
theorem cw_Lw_course : Cond.codeWith y_Lw_course method_31_code 4 (some .int) [(0, 9, 12, 62), (0, 9, 15, 21)] ∈ TT := mT7 218 (by decide +kernel) (by decide +kernel)
theorem st_Lw_course : Cond.static y_Lw_course ∈ TT := mT7 217 (by decide +kernel) (by decide +kernel)
theorem lk_Lw_course : Cond.methodLink "FeastBookLaw" 108 y_FB_course ∈ TT := mT7 219 (by decide +kernel) (by decide +kernel)
set_option maxHeartbeats 4000000 in
set_option maxRecDepth 100000 in
theorem c_Lw_course {l : Launch} {D : va_G} {ad : Nat → Nat} {cA : Nat → ClassId} {sd sv : Nat → Nat} {h : Hp} {N : Nat} {a1 : Int} {out : Int × Hp} (hI : Inj97 ad) (hst : l.stackTraces = false) (hM : M_Lw_course N h a1 = some out) : Met l y_Lw_course (.codeWith y_Lw_course method_31_code 4 (some .int) [(0, 9, 12, 62), (0, 9, 15, 21)] :: TT) (rmX 12 2 12) (PC D ad cA sd sv h [.ref (ad 0), .int (iZ a1), .ref (ad 96)]) (QI D ad cA out) 2 12 (FA ad) := by
  unfold M_Lw_course at hM
  refine entW (by decide) hI (Nat.le_of_ble_eq_true rfl) ?_
  intro p e s m args below meth c C hr hlk htab hP ls hl
  have C : Cx p s m args c method_31_code 4 "FeastBookLaw" D ad cA sd sv (FA ad) := C
  have hl : lv_has ls 4 [(0, .ref (ad 0)), (1, .int (iZ a1)), (2, .ref (ad 96))] := hl
  have w : Wd s D ad cA (FA ad) h s.heap [] := ⟨hP, va_S.rf⟩
  obtain ⟨q, e1, hM⟩ := bnd_some hM
  refine m_aload_n C hl 2 d_Lw_course_0 rfl rfl ?_
  refine m_iconst C d_Lw_course_1 ?_
  refine m_aload_n C hl 0 d_Lw_course_2 rfl rfl ?_
  refine m_iload_n C hl 1 d_Lw_course_3 rfl rfl ?_
  refine vx_calli (runVX C w.1 w.2 kc_FB sh_0 (Nat.le_of_ble_eq_true rfl) (c_FB_course hI hst e1) lk_Lw_course mb_FB_course rfl ⟨(Nat.le_of_ble_eq_true rfl), (Nat.le_of_ble_eq_true rfl)⟩ ⟨(Nat.le_of_ble_eq_true rfl), (Nat.le_of_ble_eq_true rfl)⟩ (Nat.le_of_ble_eq_true rfl) d_Lw_course_4 hl.1 (rest := [.int (iZ 0), .ref (ad 96)]) rfl) w.2 (fun q _ hq => hq) (fun q hq => hq) (fun q _ hq => hq) (fun E ce q9 u t H locs ht hvm hpx hB hz hk hS hcell hv hcl => ?_) (fun r u t H locs ht hvm hpost hB hz hk hS => ?_)
  · rw [if_neg hpx] at hM
    obtain ⟨rfl, hB⟩ := hB
    have w : Wd s D ad cA (FA ad) q.2.2 H locs := ⟨by rw [← ht]; exact hB, hS⟩
    obtain ⟨k, ek, hM⟩ := bnd_some hM
    by_cases eq : q.1 = 4
    · have ek : k = 1 := by simp [cidx, eq] at ek; omega
      subst ek
      refine vx_catch (name := exN 4) C.2.2.2.1 [] ⟨0, 9, 12, 62⟩ [⟨0, 9, 15, 21⟩] (htab.trans rfl) (fun z hz => nomatch hz) (by decide) (by decide) (C.2.2.2.2.1 _ clk_4) (by rw [eq]; exact cast_ok C (by decide)) hcell hv hcl ?_
      refine m_astore_n C hl [(3, .ref q9), (0, .ref (ad 0)), (1, .int (iZ a1)), (2, .ref (ad 96))] d_Lw_course_12 rfl (by decide) rfl (fun ls hl => ?_)
      refine m_iconst C d_Lw_course_13 ?_
      exact m_iretC C w hr hlk hM (Nat.le_of_ble_eq_true rfl) (Nat.le_of_ble_eq_true rfl) d_Lw_course_14
    · have hn0 : ¬ q.1 = 4 := eq
      by_cases eq : q.1 = 2
      · have ek : k = 2 := by simp [cidx, eq] at ek; omega
        subst ek
        have hps : ∀ z ∈ ([⟨0, 9, 12, 62⟩] : List ExceptionTableEntry), covers z 4 = false ∨ (z.catchType ≠ 0 ∧ ∃ nm : String, (Cond.classLink "FeastBookLaw" z.catchType nm).before args s = true ∧ va_Nc (exN q.1) nm s) := by
          intro z hz
          simp only [List.mem_cons, List.not_mem_nil, or_false] at hz
          rcases hz with rfl
          · exact Or.inr ⟨by decide, exN 4, C.2.2.2.2.1 _ clk_4, pass_ok (a := q.1) (b := 4) C (by rw [eq]; decide +kernel)⟩
        refine vx_catch (name := exN 2) C.2.2.2.1 [⟨0, 9, 12, 62⟩] ⟨0, 9, 15, 21⟩ [] (htab.trans rfl) hps (by decide) (by decide) (C.2.2.2.2.1 _ clk_2) (by rw [eq]; exact cast_ok C (by decide)) hcell hv hcl ?_
        refine m_astore_n C hl [(3, .ref q9), (0, .ref (ad 0)), (1, .int (iZ a1)), (2, .ref (ad 96))] d_Lw_course_15 rfl (by decide) rfl (fun ls hl => ?_)
        refine m_iconst C d_Lw_course_16 ?_
        exact m_iretC C w hr hlk hM (Nat.le_of_ble_eq_true rfl) (Nat.le_of_ble_eq_true rfl) d_Lw_course_17
      · have hn1 : ¬ q.1 = 2 := eq
        simp [cidx, hn0, hn1] at ek
  · rw [if_pos hpost.1] at hM
    have w : Wd s D ad cA (FA ad) q.2.2 H locs := ⟨by rw [← ht]; exact hB, hS⟩
    rw [hpost.2]
    refine m_i2l C d_Lw_course_7 ?_
    refine m_lst C w d_Lw_course_8 (fun H locs w => ?_)
    refine m_goto C 18 d_Lw_course_9 (by decide) ?_
    refine m_iconst C d_Lw_course_18 ?_
    exact m_iretC C w hr hlk hM (Nat.le_of_ble_eq_true rfl) (Nat.le_of_ble_eq_true rfl) d_Lw_course_19
def y_Lw_heaviest : MethodName := ⟨"FeastBookLaw", "heaviest", "(LFeastBook;IIZ[J)I"⟩
theorem d_Lw_heaviest_0 : decode method_32_code 0 = .ok (.aload 4, 2) := by decide +kernel
theorem d_Lw_heaviest_2 : decode method_32_code 2 = .ok (.iconst 0, 1) := by decide +kernel
theorem d_Lw_heaviest_3 : decode method_32_code 3 = .ok (.aload_n 0, 1) := by decide +kernel
theorem d_Lw_heaviest_4 : decode method_32_code 4 = .ok (.iload_n 1, 1) := by decide +kernel
theorem d_Lw_heaviest_5 : decode method_32_code 5 = .ok (.iload_n 2, 1) := by decide +kernel
theorem d_Lw_heaviest_6 : decode method_32_code 6 = .ok (.iload_n 3, 1) := by decide +kernel
theorem d_Lw_heaviest_7 : decode method_32_code 7 = .ok (.invokevirtual 111, 3) := by decide +kernel
theorem d_Lw_heaviest_10 : decode method_32_code 10 = .ok (.i2l, 1) := by decide +kernel
theorem d_Lw_heaviest_11 : decode method_32_code 11 = .ok (.lastore, 1) := by decide +kernel
theorem d_Lw_heaviest_12 : decode method_32_code 12 = .ok (.goto 11, 3) := by decide +kernel
theorem d_Lw_heaviest_15 : decode method_32_code 15 = .ok (.astore 5, 2) := by decide +kernel
theorem d_Lw_heaviest_17 : decode method_32_code 17 = .ok (.iconst 1, 1) := by decide +kernel
theorem d_Lw_heaviest_18 : decode method_32_code 18 = .ok (.ireturn, 1) := by decide +kernel
theorem d_Lw_heaviest_19 : decode method_32_code 19 = .ok (.astore 5, 2) := by decide +kernel
theorem d_Lw_heaviest_21 : decode method_32_code 21 = .ok (.iconst 2, 1) := by decide +kernel
theorem d_Lw_heaviest_22 : decode method_32_code 22 = .ok (.ireturn, 1) := by decide +kernel
theorem d_Lw_heaviest_23 : decode method_32_code 23 = .ok (.iconst 0, 1) := by decide +kernel
theorem d_Lw_heaviest_24 : decode method_32_code 24 = .ok (.ireturn, 1) := by decide +kernel
theorem cw_Lw_heaviest : Cond.codeWith y_Lw_heaviest method_32_code 6 (some .int) [(0, 12, 15, 19), (0, 12, 19, 13)] ∈ TT := mT7 235 (by decide +kernel) (by decide +kernel)
theorem st_Lw_heaviest : Cond.static y_Lw_heaviest ∈ TT := mT7 234 (by decide +kernel) (by decide +kernel)
theorem lk_Lw_heaviest : Cond.methodLink "FeastBookLaw" 111 y_FB_heaviest ∈ TT := mT7 236 (by decide +kernel) (by decide +kernel)
set_option maxHeartbeats 4000000 in
set_option maxRecDepth 100000 in
theorem c_Lw_heaviest {l : Launch} {D : va_G} {ad : Nat → Nat} {cA : Nat → ClassId} {sd sv : Nat → Nat} {h : Hp} {N : Nat} {a1 a2 a3 : Int} {out : Int × Hp} (hI : Inj97 ad) (hst : l.stackTraces = false) (hM : M_Lw_heaviest N h a1 a2 a3 = some out) : Met l y_Lw_heaviest (.codeWith y_Lw_heaviest method_32_code 6 (some .int) [(0, 12, 15, 19), (0, 12, 19, 13)] :: TT) (rmX 12 2 12) (PC D ad cA sd sv h [.ref (ad 0), .int (iZ a1), .int (iZ a2), .int (iZ a3), .ref (ad 96)]) (QI D ad cA out) 2 12 (FA ad) := by
  unfold M_Lw_heaviest at hM
  refine entW (by decide) hI (Nat.le_of_ble_eq_true rfl) ?_
  intro p e s m args below meth c C hr hlk htab hP ls hl
  have C : Cx p s m args c method_32_code 6 "FeastBookLaw" D ad cA sd sv (FA ad) := C
  have hl : lv_has ls 6 [(0, .ref (ad 0)), (1, .int (iZ a1)), (2, .int (iZ a2)), (3, .int (iZ a3)), (4, .ref (ad 96))] := hl
  have w : Wd s D ad cA (FA ad) h s.heap [] := ⟨hP, va_S.rf⟩
  obtain ⟨q, e1, hM⟩ := bnd_some hM
  refine m_aload C hl 4 d_Lw_heaviest_0 rfl ?_
  refine m_iconst C d_Lw_heaviest_2 ?_
  refine m_aload_n C hl 0 d_Lw_heaviest_3 rfl rfl ?_
  refine m_iload_n C hl 1 d_Lw_heaviest_4 rfl rfl ?_
  refine m_iload_n C hl 2 d_Lw_heaviest_5 rfl rfl ?_
  refine m_iload_n C hl 3 d_Lw_heaviest_6 rfl rfl ?_
  refine vx_calli (runVX C w.1 w.2 kc_FB sh_0 (Nat.le_of_ble_eq_true rfl) (c_FB_heaviest hI hst e1) lk_Lw_heaviest mb_FB_heaviest rfl ⟨(Nat.le_of_ble_eq_true rfl), (Nat.le_of_ble_eq_true rfl)⟩ ⟨(Nat.le_of_ble_eq_true rfl), (Nat.le_of_ble_eq_true rfl)⟩ (Nat.le_of_ble_eq_true rfl) d_Lw_heaviest_7 hl.1 (rest := [.int (iZ 0), .ref (ad 96)]) rfl) w.2 (fun q _ hq => hq) (fun q hq => hq) (fun q _ hq => hq) (fun E ce q9 u t H locs ht hvm hpx hB hz hk hS hcell hv hcl => ?_) (fun r u t H locs ht hvm hpost hB hz hk hS => ?_)
  · rw [if_neg hpx] at hM
    obtain ⟨rfl, hB⟩ := hB
    have w : Wd s D ad cA (FA ad) q.2.2 H locs := ⟨by rw [← ht]; exact hB, hS⟩
    obtain ⟨k, ek, hM⟩ := bnd_some hM
    by_cases eq : q.1 = 1
    · have ek : k = 1 := by simp [cidx, eq] at ek; omega
      subst ek
      refine vx_catch (name := exN 1) C.2.2.2.1 [] ⟨0, 12, 15, 19⟩ [⟨0, 12, 19, 13⟩] (htab.trans rfl) (fun z hz => nomatch hz) (by decide) (by decide) (C.2.2.2.2.1 _ clk_1) (by rw [eq]; exact cast_ok C (by decide)) hcell hv hcl ?_
      refine m_astore C hl [(5, .ref q9), (0, .ref (ad 0)), (1, .int (iZ a1)), (2, .int (iZ a2)), (3, .int (iZ a3)), (4, .ref (ad 96))] d_Lw_heaviest_15 (by decide) rfl (fun ls hl => ?_)
      refine m_iconst C d_Lw_heaviest_17 ?_
      exact m_iretC C w hr hlk hM (Nat.le_of_ble_eq_true rfl) (Nat.le_of_ble_eq_true rfl) d_Lw_heaviest_18
    · have hn0 : ¬ q.1 = 1 := eq
      by_cases eq : q.1 = 3
      · have ek : k = 2 := by simp [cidx, eq] at ek; omega
        subst ek
        have hps : ∀ z ∈ ([⟨0, 12, 15, 19⟩] : List ExceptionTableEntry), covers z 7 = false ∨ (z.catchType ≠ 0 ∧ ∃ nm : String, (Cond.classLink "FeastBookLaw" z.catchType nm).before args s = true ∧ va_Nc (exN q.1) nm s) := by
          intro z hz
          simp only [List.mem_cons, List.not_mem_nil, or_false] at hz
          rcases hz with rfl
          · exact Or.inr ⟨by decide, exN 1, C.2.2.2.2.1 _ clk_1, pass_ok (a := q.1) (b := 1) C (by rw [eq]; decide +kernel)⟩
        refine vx_catch (name := exN 3) C.2.2.2.1 [⟨0, 12, 15, 19⟩] ⟨0, 12, 19, 13⟩ [] (htab.trans rfl) hps (by decide) (by decide) (C.2.2.2.2.1 _ clk_3) (by rw [eq]; exact cast_ok C (by decide)) hcell hv hcl ?_
        refine m_astore C hl [(5, .ref q9), (0, .ref (ad 0)), (1, .int (iZ a1)), (2, .int (iZ a2)), (3, .int (iZ a3)), (4, .ref (ad 96))] d_Lw_heaviest_19 (by decide) rfl (fun ls hl => ?_)
        refine m_iconst C d_Lw_heaviest_21 ?_
        exact m_iretC C w hr hlk hM (Nat.le_of_ble_eq_true rfl) (Nat.le_of_ble_eq_true rfl) d_Lw_heaviest_22
      · have hn1 : ¬ q.1 = 3 := eq
        simp [cidx, hn0, hn1] at ek
  · rw [if_pos hpost.1] at hM
    have w : Wd s D ad cA (FA ad) q.2.2 H locs := ⟨by rw [← ht]; exact hB, hS⟩
    rw [hpost.2]
    refine m_i2l C d_Lw_heaviest_10 ?_
    refine m_lst C w d_Lw_heaviest_11 (fun H locs w => ?_)
    refine m_goto C 23 d_Lw_heaviest_12 (by decide) ?_
    refine m_iconst C d_Lw_heaviest_23 ?_
    exact m_iretC C w hr hlk hM (Nat.le_of_ble_eq_true rfl) (Nat.le_of_ble_eq_true rfl) d_Lw_heaviest_24
def y_Lw_interval : MethodName := ⟨"FeastBookLaw", "interval", "(LFeastBook;IZ[J)I"⟩
theorem d_Lw_interval_0 : decode method_33_code 0 = .ok (.aload_n 3, 1) := by decide +kernel
theorem d_Lw_interval_1 : decode method_33_code 1 = .ok (.iconst 0, 1) := by decide +kernel
theorem d_Lw_interval_2 : decode method_33_code 2 = .ok (.aload_n 0, 1) := by decide +kernel
theorem d_Lw_interval_3 : decode method_33_code 3 = .ok (.iload_n 1, 1) := by decide +kernel
theorem d_Lw_interval_4 : decode method_33_code 4 = .ok (.iload_n 2, 1) := by decide +kernel
theorem d_Lw_interval_5 : decode method_33_code 5 = .ok (.invokevirtual 114, 3) := by decide +kernel
theorem d_Lw_interval_8 : decode method_33_code 8 = .ok (.i2l, 1) := by decide +kernel
theorem d_Lw_interval_9 : decode method_33_code 9 = .ok (.lastore, 1) := by decide +kernel
theorem d_Lw_interval_10 : decode method_33_code 10 = .ok (.goto 7, 3) := by decide +kernel
theorem d_Lw_interval_13 : decode method_33_code 13 = .ok (.astore 4, 2) := by decide +kernel
theorem d_Lw_interval_15 : decode method_33_code 15 = .ok (.iconst 1, 1) := by decide +kernel
theorem d_Lw_interval_16 : decode method_33_code 16 = .ok (.ireturn, 1) := by decide +kernel
theorem d_Lw_interval_17 : decode method_33_code 17 = .ok (.iconst 0, 1) := by decide +kernel
theorem d_Lw_interval_18 : decode method_33_code 18 = .ok (.ireturn, 1) := by decide +kernel
theorem cw_Lw_interval : Cond.codeWith y_Lw_interval method_33_code 5 (some .int) [(0, 10, 13, 19)] ∈ TT := mT8 7 (by decide +kernel) (by decide +kernel)
theorem st_Lw_interval : Cond.static y_Lw_interval ∈ TT := mT8 6 (by decide +kernel) (by decide +kernel)
theorem lk_Lw_interval : Cond.methodLink "FeastBookLaw" 114 y_FB_interval ∈ TT := mT8 8 (by decide +kernel) (by decide +kernel)
set_option maxHeartbeats 4000000 in
set_option maxRecDepth 100000 in
theorem c_Lw_interval {l : Launch} {D : va_G} {ad : Nat → Nat} {cA : Nat → ClassId} {sd sv : Nat → Nat} {h : Hp} {N : Nat} {a1 a2 : Int} {out : Int × Hp} (hI : Inj97 ad) (hst : l.stackTraces = false) (hM : M_Lw_interval N h a1 a2 = some out) : Met l y_Lw_interval (.codeWith y_Lw_interval method_33_code 5 (some .int) [(0, 10, 13, 19)] :: TT) (rmX 12 1 6) (PC D ad cA sd sv h [.ref (ad 0), .int (iZ a1), .int (iZ a2), .ref (ad 96)]) (QI D ad cA out) 1 6 (FA ad) := by
  unfold M_Lw_interval at hM
  refine entW (by decide) hI (Nat.le_of_ble_eq_true rfl) ?_
  intro p e s m args below meth c C hr hlk htab hP ls hl
  have C : Cx p s m args c method_33_code 5 "FeastBookLaw" D ad cA sd sv (FA ad) := C
  have hl : lv_has ls 5 [(0, .ref (ad 0)), (1, .int (iZ a1)), (2, .int (iZ a2)), (3, .ref (ad 96))] := hl
  have w : Wd s D ad cA (FA ad) h s.heap [] := ⟨hP, va_S.rf⟩
  obtain ⟨q, e1, hM⟩ := bnd_some hM
  refine m_aload_n C hl 3 d_Lw_interval_0 rfl rfl ?_
  refine m_iconst C d_Lw_interval_1 ?_
  refine m_aload_n C hl 0 d_Lw_interval_2 rfl rfl ?_
  refine m_iload_n C hl 1 d_Lw_interval_3 rfl rfl ?_
  refine m_iload_n C hl 2 d_Lw_interval_4 rfl rfl ?_
  refine vx_calli (runVX C w.1 w.2 kc_FB sh_0 (Nat.le_of_ble_eq_true rfl) (c_FB_interval hI hst e1) lk_Lw_interval mb_FB_interval rfl ⟨(Nat.le_of_ble_eq_true rfl), (Nat.le_of_ble_eq_true rfl)⟩ ⟨(Nat.le_of_ble_eq_true rfl), (Nat.le_of_ble_eq_true rfl)⟩ (Nat.le_of_ble_eq_true rfl) d_Lw_interval_5 hl.1 (rest := [.int (iZ 0), .ref (ad 96)]) rfl) w.2 (fun q _ hq => hq) (fun q hq => hq) (fun q _ hq => hq) (fun E ce q9 u t H locs ht hvm hpx hB hz hk hS hcell hv hcl => ?_) (fun r u t H locs ht hvm hpost hB hz hk hS => ?_)
  · rw [if_neg hpx] at hM
    obtain ⟨rfl, hB⟩ := hB
    have w : Wd s D ad cA (FA ad) q.2.2 H locs := ⟨by rw [← ht]; exact hB, hS⟩
    obtain ⟨k, ek, hM⟩ := bnd_some hM
    by_cases eq : q.1 = 1
    · have ek : k = 1 := by simp [cidx, eq] at ek; omega
      subst ek
      refine vx_catch (name := exN 1) C.2.2.2.1 [] ⟨0, 10, 13, 19⟩ [] (htab.trans rfl) (fun z hz => nomatch hz) (by decide) (by decide) (C.2.2.2.2.1 _ clk_1) (by rw [eq]; exact cast_ok C (by decide)) hcell hv hcl ?_
      refine m_astore C hl [(4, .ref q9), (0, .ref (ad 0)), (1, .int (iZ a1)), (2, .int (iZ a2)), (3, .ref (ad 96))] d_Lw_interval_13 (by decide) rfl (fun ls hl => ?_)
      refine m_iconst C d_Lw_interval_15 ?_
      exact m_iretC C w hr hlk hM (Nat.le_of_ble_eq_true rfl) (Nat.le_of_ble_eq_true rfl) d_Lw_interval_16
    · have hn0 : ¬ q.1 = 1 := eq
      simp [cidx, hn0] at ek
  · rw [if_pos hpost.1] at hM
    have w : Wd s D ad cA (FA ad) q.2.2 H locs := ⟨by rw [← ht]; exact hB, hS⟩
    rw [hpost.2]
    refine m_i2l C d_Lw_interval_8 ?_
    refine m_lst C w d_Lw_interval_9 (fun H locs w => ?_)
    refine m_goto C 17 d_Lw_interval_10 (by decide) ?_
    refine m_iconst C d_Lw_interval_17 ?_
    exact m_iretC C w hr hlk hM (Nat.le_of_ble_eq_true rfl) (Nat.le_of_ble_eq_true rfl) d_Lw_interval_18
def y_Lw_better : MethodName := ⟨"FeastBookLaw", "better", "(LFeastBook;III[J)I"⟩
theorem d_Lw_better_0 : decode method_34_code 0 = .ok (.aload 4, 2) := by decide +kernel
theorem d_Lw_better_2 : decode method_34_code 2 = .ok (.iconst 0, 1) := by decide +kernel
theorem d_Lw_better_3 : decode method_34_code 3 = .ok (.aload_n 0, 1) := by decide +kernel
theorem d_Lw_better_4 : decode method_34_code 4 = .ok (.iload_n 1, 1) := by decide +kernel
theorem d_Lw_better_5 : decode method_34_code 5 = .ok (.iload_n 2, 1) := by decide +kernel
theorem d_Lw_better_6 : decode method_34_code 6 = .ok (.iload_n 3, 1) := by decide +kernel
theorem d_Lw_better_7 : decode method_34_code 7 = .ok (.invokevirtual 117, 3) := by decide +kernel
theorem d_Lw_better_10 : decode method_34_code 10 = .ok (.i2l, 1) := by decide +kernel
theorem d_Lw_better_11 : decode method_34_code 11 = .ok (.lastore, 1) := by decide +kernel
theorem d_Lw_better_12 : decode method_34_code 12 = .ok (.goto 15, 3) := by decide +kernel
theorem d_Lw_better_15 : decode method_34_code 15 = .ok (.astore 5, 2) := by decide +kernel
theorem d_Lw_better_17 : decode method_34_code 17 = .ok (.iconst 1, 1) := by decide +kernel
theorem d_Lw_better_18 : decode method_34_code 18 = .ok (.ireturn, 1) := by decide +kernel
theorem d_Lw_better_19 : decode method_34_code 19 = .ok (.astore 5, 2) := by decide +kernel
theorem d_Lw_better_21 : decode method_34_code 21 = .ok (.iconst 2, 1) := by decide +kernel
theorem d_Lw_better_22 : decode method_34_code 22 = .ok (.ireturn, 1) := by decide +kernel
theorem d_Lw_better_23 : decode method_34_code 23 = .ok (.astore 5, 2) := by decide +kernel
theorem d_Lw_better_25 : decode method_34_code 25 = .ok (.iconst 3, 1) := by decide +kernel
theorem d_Lw_better_26 : decode method_34_code 26 = .ok (.ireturn, 1) := by decide +kernel
theorem d_Lw_better_27 : decode method_34_code 27 = .ok (.iconst 0, 1) := by decide +kernel
theorem d_Lw_better_28 : decode method_34_code 28 = .ok (.ireturn, 1) := by decide +kernel
theorem cw_Lw_better : Cond.codeWith y_Lw_better method_34_code 6 (some .int) [(0, 12, 15, 19), (0, 12, 19, 21), (0, 12, 23, 13)] ∈ TT := mT8 19 (by decide +kernel) (by decide +kernel)
theorem st_Lw_better : Cond.static y_Lw_better ∈ TT := mT8 18 (by decide +kernel) (by decide +kernel)
theorem lk_Lw_better : Cond.methodLink "FeastBookLaw" 117 y_FB_better ∈ TT := mT8 20 (by decide +kernel) (by decide +kernel)
set_option maxHeartbeats 4000000 in
set_option maxRecDepth 100000 in
theorem c_Lw_better {l : Launch} {D : va_G} {ad : Nat → Nat} {cA : Nat → ClassId} {sd sv : Nat → Nat} {h : Hp} {N : Nat} {a1 a2 a3 : Int} {out : Int × Hp} (hI : Inj97 ad) (hst : l.stackTraces = false) (hM : M_Lw_better N h a1 a2 a3 = some out) : Met l y_Lw_better (.codeWith y_Lw_better method_34_code 6 (some .int) [(0, 12, 15, 19), (0, 12, 19, 21), (0, 12, 23, 13)] :: TT) (rmX 12 3 18) (PC D ad cA sd sv h [.ref (ad 0), .int (iZ a1), .int (iZ a2), .int (iZ a3), .ref (ad 96)]) (QI D ad cA out) 3 18 (FA ad) := by
  unfold M_Lw_better at hM
  refine entW (by decide) hI (Nat.le_of_ble_eq_true rfl) ?_
  intro p e s m args below meth c C hr hlk htab hP ls hl
  have C : Cx p s m args c method_34_code 6 "FeastBookLaw" D ad cA sd sv (FA ad) := C
  have hl : lv_has ls 6 [(0, .ref (ad 0)), (1, .int (iZ a1)), (2, .int (iZ a2)), (3, .int (iZ a3)), (4, .ref (ad 96))] := hl
  have w : Wd s D ad cA (FA ad) h s.heap [] := ⟨hP, va_S.rf⟩
  obtain ⟨q, e1, hM⟩ := bnd_some hM
  refine m_aload C hl 4 d_Lw_better_0 rfl ?_
  refine m_iconst C d_Lw_better_2 ?_
  refine m_aload_n C hl 0 d_Lw_better_3 rfl rfl ?_
  refine m_iload_n C hl 1 d_Lw_better_4 rfl rfl ?_
  refine m_iload_n C hl 2 d_Lw_better_5 rfl rfl ?_
  refine m_iload_n C hl 3 d_Lw_better_6 rfl rfl ?_
  refine vx_calli (runVX C w.1 w.2 kc_FB sh_0 (Nat.le_of_ble_eq_true rfl) (c_FB_better hI hst e1) lk_Lw_better mb_FB_better rfl ⟨(Nat.le_of_ble_eq_true rfl), (Nat.le_of_ble_eq_true rfl)⟩ ⟨(Nat.le_of_ble_eq_true rfl), (Nat.le_of_ble_eq_true rfl)⟩ (Nat.le_of_ble_eq_true rfl) d_Lw_better_7 hl.1 (rest := [.int (iZ 0), .ref (ad 96)]) rfl) w.2 (fun q _ hq => hq) (fun q hq => hq) (fun q _ hq => hq) (fun E ce q9 u t H locs ht hvm hpx hB hz hk hS hcell hv hcl => ?_) (fun r u t H locs ht hvm hpost hB hz hk hS => ?_)
  · rw [if_neg hpx] at hM
    obtain ⟨rfl, hB⟩ := hB
    have w : Wd s D ad cA (FA ad) q.2.2 H locs := ⟨by rw [← ht]; exact hB, hS⟩
    obtain ⟨k, ek, hM⟩ := bnd_some hM
    by_cases eq : q.1 = 1
    · have ek : k = 1 := by simp [cidx, eq] at ek; omega
      subst ek
      refine vx_catch (name := exN 1) C.2.2.2.1 [] ⟨0, 12, 15, 19⟩ [⟨0, 12, 19, 21⟩, ⟨0, 12, 23, 13⟩] (htab.trans rfl) (fun z hz => nomatch hz) (by decide) (by decide) (C.2.2.2.2.1 _ clk_1) (by rw [eq]; exact cast_ok C (by decide)) hcell hv hcl ?_
      refine m_astore C hl [(5, .ref q9), (0, .ref (ad 0)), (1, .int (iZ a1)), (2, .int (iZ a2)), (3, .int (iZ a3)), (4, .ref (ad 96))] d_Lw_better_15 (by decide) rfl (fun ls hl => ?_)
      refine m_iconst C d_Lw_better_17 ?_
      exact m_iretC C w hr hlk hM (Nat.le_of_ble_eq_true rfl) (Nat.le_of_ble_eq_true rfl) d_Lw_better_18
    · have hn0 : ¬ q.1 = 1 := eq
      by_cases eq : q.1 = 2
      · have ek : k = 2 := by simp [cidx, eq] at ek; omega
        subst ek
        have hps : ∀ z ∈ ([⟨0, 12, 15, 19⟩] : List ExceptionTableEntry), covers z 7 = false ∨ (z.catchType ≠ 0 ∧ ∃ nm : String, (Cond.classLink "FeastBookLaw" z.catchType nm).before args s = true ∧ va_Nc (exN q.1) nm s) := by
          intro z hz
          simp only [List.mem_cons, List.not_mem_nil, or_false] at hz
          rcases hz with rfl
          · exact Or.inr ⟨by decide, exN 1, C.2.2.2.2.1 _ clk_1, pass_ok (a := q.1) (b := 1) C (by rw [eq]; decide +kernel)⟩
        refine vx_catch (name := exN 2) C.2.2.2.1 [⟨0, 12, 15, 19⟩] ⟨0, 12, 19, 21⟩ [⟨0, 12, 23, 13⟩] (htab.trans rfl) hps (by decide) (by decide) (C.2.2.2.2.1 _ clk_2) (by rw [eq]; exact cast_ok C (by decide)) hcell hv hcl ?_
        refine m_astore C hl [(5, .ref q9), (0, .ref (ad 0)), (1, .int (iZ a1)), (2, .int (iZ a2)), (3, .int (iZ a3)), (4, .ref (ad 96))] d_Lw_better_19 (by decide) rfl (fun ls hl => ?_)
        refine m_iconst C d_Lw_better_21 ?_
        exact m_iretC C w hr hlk hM (Nat.le_of_ble_eq_true rfl) (Nat.le_of_ble_eq_true rfl) d_Lw_better_22
      · have hn1 : ¬ q.1 = 2 := eq
        by_cases eq : q.1 = 3
        · have ek : k = 3 := by simp [cidx, eq] at ek; omega
          subst ek
          have hps : ∀ z ∈ ([⟨0, 12, 15, 19⟩, ⟨0, 12, 19, 21⟩] : List ExceptionTableEntry), covers z 7 = false ∨ (z.catchType ≠ 0 ∧ ∃ nm : String, (Cond.classLink "FeastBookLaw" z.catchType nm).before args s = true ∧ va_Nc (exN q.1) nm s) := by
            intro z hz
            simp only [List.mem_cons, List.not_mem_nil, or_false] at hz
            rcases hz with rfl | rfl
            · exact Or.inr ⟨by decide, exN 1, C.2.2.2.2.1 _ clk_1, pass_ok (a := q.1) (b := 1) C (by rw [eq]; decide +kernel)⟩
            · exact Or.inr ⟨by decide, exN 2, C.2.2.2.2.1 _ clk_2, pass_ok (a := q.1) (b := 2) C (by rw [eq]; decide +kernel)⟩
          refine vx_catch (name := exN 3) C.2.2.2.1 [⟨0, 12, 15, 19⟩, ⟨0, 12, 19, 21⟩] ⟨0, 12, 23, 13⟩ [] (htab.trans rfl) hps (by decide) (by decide) (C.2.2.2.2.1 _ clk_3) (by rw [eq]; exact cast_ok C (by decide)) hcell hv hcl ?_
          refine m_astore C hl [(5, .ref q9), (0, .ref (ad 0)), (1, .int (iZ a1)), (2, .int (iZ a2)), (3, .int (iZ a3)), (4, .ref (ad 96))] d_Lw_better_23 (by decide) rfl (fun ls hl => ?_)
          refine m_iconst C d_Lw_better_25 ?_
          exact m_iretC C w hr hlk hM (Nat.le_of_ble_eq_true rfl) (Nat.le_of_ble_eq_true rfl) d_Lw_better_26
        · have hn2 : ¬ q.1 = 3 := eq
          simp [cidx, hn0, hn1, hn2] at ek
  · rw [if_pos hpost.1] at hM
    have w : Wd s D ad cA (FA ad) q.2.2 H locs := ⟨by rw [← ht]; exact hB, hS⟩
    rw [hpost.2]
    refine m_i2l C d_Lw_better_10 ?_
    refine m_lst C w d_Lw_better_11 (fun H locs w => ?_)
    refine m_goto C 27 d_Lw_better_12 (by decide) ?_
    refine m_iconst C d_Lw_better_27 ?_
    exact m_iretC C w hr hlk hM (Nat.le_of_ble_eq_true rfl) (Nat.le_of_ble_eq_true rfl) d_Lw_better_28
def y_Lw_rival : MethodName := ⟨"FeastBookLaw", "rival", "(LFeastBook;I[J)I"⟩
theorem d_Lw_rival_0 : decode method_35_code 0 = .ok (.aload_n 2, 1) := by decide +kernel
theorem d_Lw_rival_1 : decode method_35_code 1 = .ok (.iconst 0, 1) := by decide +kernel
theorem d_Lw_rival_2 : decode method_35_code 2 = .ok (.aload_n 0, 1) := by decide +kernel
theorem d_Lw_rival_3 : decode method_35_code 3 = .ok (.iload_n 1, 1) := by decide +kernel
theorem d_Lw_rival_4 : decode method_35_code 4 = .ok (.invokevirtual 120, 3) := by decide +kernel
theorem d_Lw_rival_7 : decode method_35_code 7 = .ok (.i2l, 1) := by decide +kernel
theorem d_Lw_rival_8 : decode method_35_code 8 = .ok (.lastore, 1) := by decide +kernel
theorem d_Lw_rival_9 : decode method_35_code 9 = .ok (.goto 6, 3) := by decide +kernel
theorem d_Lw_rival_12 : decode method_35_code 12 = .ok (.astore_n 3, 1) := by decide +kernel
theorem d_Lw_rival_13 : decode method_35_code 13 = .ok (.iconst 1, 1) := by decide +kernel
theorem d_Lw_rival_14 : decode method_35_code 14 = .ok (.ireturn, 1) := by decide +kernel
theorem d_Lw_rival_15 : decode method_35_code 15 = .ok (.iconst 0, 1) := by decide +kernel
theorem d_Lw_rival_16 : decode method_35_code 16 = .ok (.ireturn, 1) := by decide +kernel
theorem cw_Lw_rival : Cond.codeWith y_Lw_rival method_35_code 4 (some .int) [(0, 9, 12, 19)] ∈ TT := mT8 46 (by decide +kernel) (by decide +kernel)
theorem st_Lw_rival : Cond.static y_Lw_rival ∈ TT := mT8 45 (by decide +kernel) (by decide +kernel)
theorem lk_Lw_rival : Cond.methodLink "FeastBookLaw" 120 y_FB_rival ∈ TT := mT8 47 (by decide +kernel) (by decide +kernel)
set_option maxHeartbeats 4000000 in
set_option maxRecDepth 100000 in
theorem c_Lw_rival {l : Launch} {D : va_G} {ad : Nat → Nat} {cA : Nat → ClassId} {sd sv : Nat → Nat} {h : Hp} {N : Nat} {a1 : Int} {out : Int × Hp} (hI : Inj97 ad) (hst : l.stackTraces = false) (hM : M_Lw_rival N h a1 = some out) : Met l y_Lw_rival (.codeWith y_Lw_rival method_35_code 4 (some .int) [(0, 9, 12, 19)] :: TT) (rmX 12 1 6) (PC D ad cA sd sv h [.ref (ad 0), .int (iZ a1), .ref (ad 96)]) (QI D ad cA out) 1 6 (FA ad) := by
  unfold M_Lw_rival at hM
  refine entW (by decide) hI (Nat.le_of_ble_eq_true rfl) ?_
  intro p e s m args below meth c C hr hlk htab hP ls hl
  have C : Cx p s m args c method_35_code 4 "FeastBookLaw" D ad cA sd sv (FA ad) := C
  have hl : lv_has ls 4 [(0, .ref (ad 0)), (1, .int (iZ a1)), (2, .ref (ad 96))] := hl
  have w : Wd s D ad cA (FA ad) h s.heap [] := ⟨hP, va_S.rf⟩
  obtain ⟨q, e1, hM⟩ := bnd_some hM
  refine m_aload_n C hl 2 d_Lw_rival_0 rfl rfl ?_
  refine m_iconst C d_Lw_rival_1 ?_
  refine m_aload_n C hl 0 d_Lw_rival_2 rfl rfl ?_
  refine m_iload_n C hl 1 d_Lw_rival_3 rfl rfl ?_
  refine vx_calli (runVX C w.1 w.2 kc_FB sh_0 (Nat.le_of_ble_eq_true rfl) (c_FB_rival hI hst e1) lk_Lw_rival mb_FB_rival rfl ⟨(Nat.le_of_ble_eq_true rfl), (Nat.le_of_ble_eq_true rfl)⟩ ⟨(Nat.le_of_ble_eq_true rfl), (Nat.le_of_ble_eq_true rfl)⟩ (Nat.le_of_ble_eq_true rfl) d_Lw_rival_4 hl.1 (rest := [.int (iZ 0), .ref (ad 96)]) rfl) w.2 (fun q _ hq => hq) (fun q hq => hq) (fun q _ hq => hq) (fun E ce q9 u t H locs ht hvm hpx hB hz hk hS hcell hv hcl => ?_) (fun r u t H locs ht hvm hpost hB hz hk hS => ?_)
  · rw [if_neg hpx] at hM
    obtain ⟨rfl, hB⟩ := hB
    have w : Wd s D ad cA (FA ad) q.2.2 H locs := ⟨by rw [← ht]; exact hB, hS⟩
    obtain ⟨k, ek, hM⟩ := bnd_some hM
    by_cases eq : q.1 = 1
    · have ek : k = 1 := by simp [cidx, eq] at ek; omega
      subst ek
      refine vx_catch (name := exN 1) C.2.2.2.1 [] ⟨0, 9, 12, 19⟩ [] (htab.trans rfl) (fun z hz => nomatch hz) (by decide) (by decide) (C.2.2.2.2.1 _ clk_1) (by rw [eq]; exact cast_ok C (by decide)) hcell hv hcl ?_
      refine m_astore_n C hl [(3, .ref q9), (0, .ref (ad 0)), (1, .int (iZ a1)), (2, .ref (ad 96))] d_Lw_rival_12 rfl (by decide) rfl (fun ls hl => ?_)
      refine m_iconst C d_Lw_rival_13 ?_
      exact m_iretC C w hr hlk hM (Nat.le_of_ble_eq_true rfl) (Nat.le_of_ble_eq_true rfl) d_Lw_rival_14
    · have hn0 : ¬ q.1 = 1 := eq
      simp [cidx, hn0] at ek
  · rw [if_pos hpost.1] at hM
    have w : Wd s D ad cA (FA ad) q.2.2 H locs := ⟨by rw [← ht]; exact hB, hS⟩
    rw [hpost.2]
    refine m_i2l C d_Lw_rival_7 ?_
    refine m_lst C w d_Lw_rival_8 (fun H locs w => ?_)
    refine m_goto C 15 d_Lw_rival_9 (by decide) ?_
    refine m_iconst C d_Lw_rival_15 ?_
    exact m_iretC C w hr hlk hM (Nat.le_of_ble_eq_true rfl) (Nat.le_of_ble_eq_true rfl) d_Lw_rival_16
def y_Lw_lull : MethodName := ⟨"FeastBookLaw", "lull", "(LFeastBook;I[J)I"⟩
theorem d_Lw_lull_0 : decode method_36_code 0 = .ok (.aload_n 2, 1) := by decide +kernel
theorem d_Lw_lull_1 : decode method_36_code 1 = .ok (.iconst 0, 1) := by decide +kernel
theorem d_Lw_lull_2 : decode method_36_code 2 = .ok (.aload_n 0, 1) := by decide +kernel
theorem d_Lw_lull_3 : decode method_36_code 3 = .ok (.iload_n 1, 1) := by decide +kernel
theorem d_Lw_lull_4 : decode method_36_code 4 = .ok (.invokevirtual 123, 3) := by decide +kernel
theorem d_Lw_lull_7 : decode method_36_code 7 = .ok (.i2l, 1) := by decide +kernel
theorem d_Lw_lull_8 : decode method_36_code 8 = .ok (.lastore, 1) := by decide +kernel
theorem d_Lw_lull_9 : decode method_36_code 9 = .ok (.goto 9, 3) := by decide +kernel
theorem d_Lw_lull_12 : decode method_36_code 12 = .ok (.astore_n 3, 1) := by decide +kernel
theorem d_Lw_lull_13 : decode method_36_code 13 = .ok (.iconst 1, 1) := by decide +kernel
theorem d_Lw_lull_14 : decode method_36_code 14 = .ok (.ireturn, 1) := by decide +kernel
theorem d_Lw_lull_15 : decode method_36_code 15 = .ok (.astore_n 3, 1) := by decide +kernel
theorem d_Lw_lull_16 : decode method_36_code 16 = .ok (.iconst 2, 1) := by decide +kernel
theorem d_Lw_lull_17 : decode method_36_code 17 = .ok (.ireturn, 1) := by decide +kernel
theorem d_Lw_lull_18 : decode method_36_code 18 = .ok (.iconst 0, 1) := by decide +kernel
theorem d_Lw_lull_19 : decode method_36_code 19 = .ok (.ireturn, 1) := by decide +kernel
theorem cw_Lw_lull : Cond.codeWith y_Lw_lull method_36_code 4 (some .int) [(0, 9, 12, 62), (0, 9, 15, 13)] ∈ TT := mT8 58 (by decide +kernel) (by decide +kernel)
theorem st_Lw_lull : Cond.static y_Lw_lull ∈ TT := mT8 57 (by decide +kernel) (by decide +kernel)
theorem lk_Lw_lull : Cond.methodLink "FeastBookLaw" 123 y_FB_lull ∈ TT := mT8 59 (by decide +kernel) (by decide +kernel)
set_option maxHeartbeats 4000000 in
set_option maxRecDepth 100000 in
theorem c_Lw_lull {l : Launch} {D : va_G} {ad : Nat → Nat} {cA : Nat → ClassId} {sd sv : Nat → Nat} {h : Hp} {N : Nat} {a1 : Int} {out : Int × Hp} (hI : Inj97 ad) (hst : l.stackTraces = false) (hM : M_Lw_lull N h a1 = some out) : Met l y_Lw_lull (.codeWith y_Lw_lull method_36_code 4 (some .int) [(0, 9, 12, 62), (0, 9, 15, 13)] :: TT) (rmX 12 2 12) (PC D ad cA sd sv h [.ref (ad 0), .int (iZ a1), .ref (ad 96)]) (QI D ad cA out) 2 12 (FA ad) := by
  unfold M_Lw_lull at hM
  refine entW (by decide) hI (Nat.le_of_ble_eq_true rfl) ?_
  intro p e s m args below meth c C hr hlk htab hP ls hl
  have C : Cx p s m args c method_36_code 4 "FeastBookLaw" D ad cA sd sv (FA ad) := C
  have hl : lv_has ls 4 [(0, .ref (ad 0)), (1, .int (iZ a1)), (2, .ref (ad 96))] := hl
  have w : Wd s D ad cA (FA ad) h s.heap [] := ⟨hP, va_S.rf⟩
  obtain ⟨q, e1, hM⟩ := bnd_some hM
  refine m_aload_n C hl 2 d_Lw_lull_0 rfl rfl ?_
  refine m_iconst C d_Lw_lull_1 ?_
  refine m_aload_n C hl 0 d_Lw_lull_2 rfl rfl ?_
  refine m_iload_n C hl 1 d_Lw_lull_3 rfl rfl ?_
  refine vx_calli (runVX C w.1 w.2 kc_FB sh_0 (Nat.le_of_ble_eq_true rfl) (c_FB_lull hI hst e1) lk_Lw_lull mb_FB_lull rfl ⟨(Nat.le_of_ble_eq_true rfl), (Nat.le_of_ble_eq_true rfl)⟩ ⟨(Nat.le_of_ble_eq_true rfl), (Nat.le_of_ble_eq_true rfl)⟩ (Nat.le_of_ble_eq_true rfl) d_Lw_lull_4 hl.1 (rest := [.int (iZ 0), .ref (ad 96)]) rfl) w.2 (fun q _ hq => hq) (fun q hq => hq) (fun q _ hq => hq) (fun E ce q9 u t H locs ht hvm hpx hB hz hk hS hcell hv hcl => ?_) (fun r u t H locs ht hvm hpost hB hz hk hS => ?_)
  · rw [if_neg hpx] at hM
    obtain ⟨rfl, hB⟩ := hB
    have w : Wd s D ad cA (FA ad) q.2.2 H locs := ⟨by rw [← ht]; exact hB, hS⟩
    obtain ⟨k, ek, hM⟩ := bnd_some hM
    by_cases eq : q.1 = 4
    · have ek : k = 1 := by simp [cidx, eq] at ek; omega
      subst ek
      refine vx_catch (name := exN 4) C.2.2.2.1 [] ⟨0, 9, 12, 62⟩ [⟨0, 9, 15, 13⟩] (htab.trans rfl) (fun z hz => nomatch hz) (by decide) (by decide) (C.2.2.2.2.1 _ clk_4) (by rw [eq]; exact cast_ok C (by decide)) hcell hv hcl ?_
      refine m_astore_n C hl [(3, .ref q9), (0, .ref (ad 0)), (1, .int (iZ a1)), (2, .ref (ad 96))] d_Lw_lull_12 rfl (by decide) rfl (fun ls hl => ?_)
      refine m_iconst C d_Lw_lull_13 ?_
      exact m_iretC C w hr hlk hM (Nat.le_of_ble_eq_true rfl) (Nat.le_of_ble_eq_true rfl) d_Lw_lull_14
    · have hn0 : ¬ q.1 = 4 := eq
      by_cases eq : q.1 = 3
      · have ek : k = 2 := by simp [cidx, eq] at ek; omega
        subst ek
        have hps : ∀ z ∈ ([⟨0, 9, 12, 62⟩] : List ExceptionTableEntry), covers z 4 = false ∨ (z.catchType ≠ 0 ∧ ∃ nm : String, (Cond.classLink "FeastBookLaw" z.catchType nm).before args s = true ∧ va_Nc (exN q.1) nm s) := by
          intro z hz
          simp only [List.mem_cons, List.not_mem_nil, or_false] at hz
          rcases hz with rfl
          · exact Or.inr ⟨by decide, exN 4, C.2.2.2.2.1 _ clk_4, pass_ok (a := q.1) (b := 4) C (by rw [eq]; decide +kernel)⟩
        refine vx_catch (name := exN 3) C.2.2.2.1 [⟨0, 9, 12, 62⟩] ⟨0, 9, 15, 13⟩ [] (htab.trans rfl) hps (by decide) (by decide) (C.2.2.2.2.1 _ clk_3) (by rw [eq]; exact cast_ok C (by decide)) hcell hv hcl ?_
        refine m_astore_n C hl [(3, .ref q9), (0, .ref (ad 0)), (1, .int (iZ a1)), (2, .ref (ad 96))] d_Lw_lull_15 rfl (by decide) rfl (fun ls hl => ?_)
        refine m_iconst C d_Lw_lull_16 ?_
        exact m_iretC C w hr hlk hM (Nat.le_of_ble_eq_true rfl) (Nat.le_of_ble_eq_true rfl) d_Lw_lull_17
      · have hn1 : ¬ q.1 = 3 := eq
        simp [cidx, hn0, hn1] at ek
  · rw [if_pos hpost.1] at hM
    have w : Wd s D ad cA (FA ad) q.2.2 H locs := ⟨by rw [← ht]; exact hB, hS⟩
    rw [hpost.2]
    refine m_i2l C d_Lw_lull_7 ?_
    refine m_lst C w d_Lw_lull_8 (fun H locs w => ?_)
    refine m_goto C 18 d_Lw_lull_9 (by decide) ?_
    refine m_iconst C d_Lw_lull_18 ?_
    exact m_iretC C w hr hlk hM (Nat.le_of_ble_eq_true rfl) (Nat.le_of_ble_eq_true rfl) d_Lw_lull_19
def y_Lw_tally : MethodName := ⟨"FeastBookLaw", "tally", "(LFeastBook;II[J)I"⟩
theorem d_Lw_tally_0 : decode method_37_code 0 = .ok (.aload_n 3, 1) := by decide +kernel
theorem d_Lw_tally_1 : decode method_37_code 1 = .ok (.iconst 0, 1) := by decide +kernel
theorem d_Lw_tally_2 : decode method_37_code 2 = .ok (.aload_n 0, 1) := by decide +kernel
theorem d_Lw_tally_3 : decode method_37_code 3 = .ok (.iload_n 1, 1) := by decide +kernel
theorem d_Lw_tally_4 : decode method_37_code 4 = .ok (.iload_n 2, 1) := by decide +kernel
theorem d_Lw_tally_5 : decode method_37_code 5 = .ok (.invokevirtual 126, 3) := by decide +kernel
theorem d_Lw_tally_8 : decode method_37_code 8 = .ok (.i2l, 1) := by decide +kernel
theorem d_Lw_tally_9 : decode method_37_code 9 = .ok (.lastore, 1) := by decide +kernel
theorem d_Lw_tally_10 : decode method_37_code 10 = .ok (.goto 11, 3) := by decide +kernel
theorem d_Lw_tally_13 : decode method_37_code 13 = .ok (.astore 4, 2) := by decide +kernel
theorem d_Lw_tally_15 : decode method_37_code 15 = .ok (.iconst 1, 1) := by decide +kernel
theorem d_Lw_tally_16 : decode method_37_code 16 = .ok (.ireturn, 1) := by decide +kernel
theorem d_Lw_tally_17 : decode method_37_code 17 = .ok (.astore 4, 2) := by decide +kernel
theorem d_Lw_tally_19 : decode method_37_code 19 = .ok (.iconst 2, 1) := by decide +kernel
theorem d_Lw_tally_20 : decode method_37_code 20 = .ok (.ireturn, 1) := by decide +kernel
theorem d_Lw_tally_21 : decode method_37_code 21 = .ok (.iconst 0, 1) := by decide +kernel
theorem d_Lw_tally_22 : decode method_37_code 22 = .ok (.ireturn, 1) := by decide +kernel
theorem cw_Lw_tally : Cond.codeWith y_Lw_tally method_37_code 5 (some .int) [(0, 10, 13, 19), (0, 10, 17, 13)] ∈ TT := mT8 69 (by decide +kernel) (by decide +kernel)
theorem st_Lw_tally : Cond.static y_Lw_tally ∈ TT := mT8 68 (by decide +kernel) (by decide +kernel)
theorem lk_Lw_tally : Cond.methodLink "FeastBookLaw" 126 y_FB_tally ∈ TT := mT8 70 (by decide +kernel) (by decide +kernel)
set_option maxHeartbeats 4000000 in
set_option maxRecDepth 100000 in
theorem c_Lw_tally {l : Launch} {D : va_G} {ad : Nat → Nat} {cA : Nat → ClassId} {sd sv : Nat → Nat} {h : Hp} {N : Nat} {a1 a2 : Int} {out : Int × Hp} (hI : Inj97 ad) (hst : l.stackTraces = false) (hM : M_Lw_tally N h a1 a2 = some out) : Met l y_Lw_tally (.codeWith y_Lw_tally method_37_code 5 (some .int) [(0, 10, 13, 19), (0, 10, 17, 13)] :: TT) (rmX 12 2 12) (PC D ad cA sd sv h [.ref (ad 0), .int (iZ a1), .int (iZ a2), .ref (ad 96)]) (QI D ad cA out) 2 12 (FA ad) := by
  unfold M_Lw_tally at hM
  refine entW (by decide) hI (Nat.le_of_ble_eq_true rfl) ?_
  intro p e s m args below meth c C hr hlk htab hP ls hl
  have C : Cx p s m args c method_37_code 5 "FeastBookLaw" D ad cA sd sv (FA ad) := C
  have hl : lv_has ls 5 [(0, .ref (ad 0)), (1, .int (iZ a1)), (2, .int (iZ a2)), (3, .ref (ad 96))] := hl
  have w : Wd s D ad cA (FA ad) h s.heap [] := ⟨hP, va_S.rf⟩
  obtain ⟨q, e1, hM⟩ := bnd_some hM
  refine m_aload_n C hl 3 d_Lw_tally_0 rfl rfl ?_
  refine m_iconst C d_Lw_tally_1 ?_
  refine m_aload_n C hl 0 d_Lw_tally_2 rfl rfl ?_
  refine m_iload_n C hl 1 d_Lw_tally_3 rfl rfl ?_
  refine m_iload_n C hl 2 d_Lw_tally_4 rfl rfl ?_
  refine vx_calli (runVX C w.1 w.2 kc_FB sh_0 (Nat.le_of_ble_eq_true rfl) (c_FB_tally hI hst e1) lk_Lw_tally mb_FB_tally rfl ⟨(Nat.le_of_ble_eq_true rfl), (Nat.le_of_ble_eq_true rfl)⟩ ⟨(Nat.le_of_ble_eq_true rfl), (Nat.le_of_ble_eq_true rfl)⟩ (Nat.le_of_ble_eq_true rfl) d_Lw_tally_5 hl.1 (rest := [.int (iZ 0), .ref (ad 96)]) rfl) w.2 (fun q _ hq => hq) (fun q hq => hq) (fun q _ hq => hq) (fun E ce q9 u t H locs ht hvm hpx hB hz hk hS hcell hv hcl => ?_) (fun r u t H locs ht hvm hpost hB hz hk hS => ?_)
  · rw [if_neg hpx] at hM
    obtain ⟨rfl, hB⟩ := hB
    have w : Wd s D ad cA (FA ad) q.2.2 H locs := ⟨by rw [← ht]; exact hB, hS⟩
    obtain ⟨k, ek, hM⟩ := bnd_some hM
    by_cases eq : q.1 = 1
    · have ek : k = 1 := by simp [cidx, eq] at ek; omega
      subst ek
      refine vx_catch (name := exN 1) C.2.2.2.1 [] ⟨0, 10, 13, 19⟩ [⟨0, 10, 17, 13⟩] (htab.trans rfl) (fun z hz => nomatch hz) (by decide) (by decide) (C.2.2.2.2.1 _ clk_1) (by rw [eq]; exact cast_ok C (by decide)) hcell hv hcl ?_
      refine m_astore C hl [(4, .ref q9), (0, .ref (ad 0)), (1, .int (iZ a1)), (2, .int (iZ a2)), (3, .ref (ad 96))] d_Lw_tally_13 (by decide) rfl (fun ls hl => ?_)
      refine m_iconst C d_Lw_tally_15 ?_
      exact m_iretC C w hr hlk hM (Nat.le_of_ble_eq_true rfl) (Nat.le_of_ble_eq_true rfl) d_Lw_tally_16
    · have hn0 : ¬ q.1 = 1 := eq
      by_cases eq : q.1 = 3
      · have ek : k = 2 := by simp [cidx, eq] at ek; omega
        subst ek
        have hps : ∀ z ∈ ([⟨0, 10, 13, 19⟩] : List ExceptionTableEntry), covers z 5 = false ∨ (z.catchType ≠ 0 ∧ ∃ nm : String, (Cond.classLink "FeastBookLaw" z.catchType nm).before args s = true ∧ va_Nc (exN q.1) nm s) := by
          intro z hz
          simp only [List.mem_cons, List.not_mem_nil, or_false] at hz
          rcases hz with rfl
          · exact Or.inr ⟨by decide, exN 1, C.2.2.2.2.1 _ clk_1, pass_ok (a := q.1) (b := 1) C (by rw [eq]; decide +kernel)⟩
        refine vx_catch (name := exN 3) C.2.2.2.1 [⟨0, 10, 13, 19⟩] ⟨0, 10, 17, 13⟩ [] (htab.trans rfl) hps (by decide) (by decide) (C.2.2.2.2.1 _ clk_3) (by rw [eq]; exact cast_ok C (by decide)) hcell hv hcl ?_
        refine m_astore C hl [(4, .ref q9), (0, .ref (ad 0)), (1, .int (iZ a1)), (2, .int (iZ a2)), (3, .ref (ad 96))] d_Lw_tally_17 (by decide) rfl (fun ls hl => ?_)
        refine m_iconst C d_Lw_tally_19 ?_
        exact m_iretC C w hr hlk hM (Nat.le_of_ble_eq_true rfl) (Nat.le_of_ble_eq_true rfl) d_Lw_tally_20
      · have hn1 : ¬ q.1 = 3 := eq
        simp [cidx, hn0, hn1] at ek
  · rw [if_pos hpost.1] at hM
    have w : Wd s D ad cA (FA ad) q.2.2 H locs := ⟨by rw [← ht]; exact hB, hS⟩
    rw [hpost.2]
    refine m_i2l C d_Lw_tally_8 ?_
    refine m_lst C w d_Lw_tally_9 (fun H locs w => ?_)
    refine m_goto C 21 d_Lw_tally_10 (by decide) ?_
    refine m_iconst C d_Lw_tally_21 ?_
    exact m_iretC C w hr hlk hM (Nat.le_of_ble_eq_true rfl) (Nat.le_of_ble_eq_true rfl) d_Lw_tally_22
def y_Lw_leader : MethodName := ⟨"FeastBookLaw", "leader", "(LFeastBook;[J)I"⟩
theorem d_Lw_leader_0 : decode method_38_code 0 = .ok (.aload_n 1, 1) := by decide +kernel
theorem d_Lw_leader_1 : decode method_38_code 1 = .ok (.iconst 0, 1) := by decide +kernel
theorem d_Lw_leader_2 : decode method_38_code 2 = .ok (.aload_n 0, 1) := by decide +kernel
theorem d_Lw_leader_3 : decode method_38_code 3 = .ok (.invokevirtual 129, 3) := by decide +kernel
theorem d_Lw_leader_6 : decode method_38_code 6 = .ok (.i2l, 1) := by decide +kernel
theorem d_Lw_leader_7 : decode method_38_code 7 = .ok (.lastore, 1) := by decide +kernel
theorem d_Lw_leader_8 : decode method_38_code 8 = .ok (.goto 6, 3) := by decide +kernel
theorem d_Lw_leader_11 : decode method_38_code 11 = .ok (.astore_n 2, 1) := by decide +kernel
theorem d_Lw_leader_12 : decode method_38_code 12 = .ok (.iconst 1, 1) := by decide +kernel
theorem d_Lw_leader_13 : decode method_38_code 13 = .ok (.ireturn, 1) := by decide +kernel
theorem d_Lw_leader_14 : decode method_38_code 14 = .ok (.iconst 0, 1) := by decide +kernel
theorem d_Lw_leader_15 : decode method_38_code 15 = .ok (.ireturn, 1) := by decide +kernel
theorem cw_Lw_leader : Cond.codeWith y_Lw_leader method_38_code 3 (some .int) [(0, 8, 11, 62)] ∈ TT := mT8 80 (by decide +kernel) (by decide +kernel)
theorem st_Lw_leader : Cond.static y_Lw_leader ∈ TT := mT8 79 (by decide +kernel) (by decide +kernel)
theorem lk_Lw_leader : Cond.methodLink "FeastBookLaw" 129 y_FB_leader ∈ TT := mT8 81 (by decide +kernel) (by decide +kernel)
set_option maxHeartbeats 4000000 in
set_option maxRecDepth 100000 in
theorem c_Lw_leader {l : Launch} {D : va_G} {ad : Nat → Nat} {cA : Nat → ClassId} {sd sv : Nat → Nat} {h : Hp} {N : Nat} {out : Int × Hp} (hI : Inj97 ad) (hst : l.stackTraces = false) (hM : M_Lw_leader N h = some out) : Met l y_Lw_leader (.codeWith y_Lw_leader method_38_code 3 (some .int) [(0, 8, 11, 62)] :: TT) (rmX 12 1 6) (PC D ad cA sd sv h [.ref (ad 0), .ref (ad 96)]) (QI D ad cA out) 1 6 (FA ad) := by
  unfold M_Lw_leader at hM
  refine entW (by decide) hI (Nat.le_of_ble_eq_true rfl) ?_
  intro p e s m args below meth c C hr hlk htab hP ls hl
  have C : Cx p s m args c method_38_code 3 "FeastBookLaw" D ad cA sd sv (FA ad) := C
  have hl : lv_has ls 3 [(0, .ref (ad 0)), (1, .ref (ad 96))] := hl
  have w : Wd s D ad cA (FA ad) h s.heap [] := ⟨hP, va_S.rf⟩
  obtain ⟨q, e1, hM⟩ := bnd_some hM
  refine m_aload_n C hl 1 d_Lw_leader_0 rfl rfl ?_
  refine m_iconst C d_Lw_leader_1 ?_
  refine m_aload_n C hl 0 d_Lw_leader_2 rfl rfl ?_
  refine vx_calli (runVX C w.1 w.2 kc_FB sh_0 (Nat.le_of_ble_eq_true rfl) (c_FB_leader hI hst e1) lk_Lw_leader mb_FB_leader rfl ⟨(Nat.le_of_ble_eq_true rfl), (Nat.le_of_ble_eq_true rfl)⟩ ⟨(Nat.le_of_ble_eq_true rfl), (Nat.le_of_ble_eq_true rfl)⟩ (Nat.le_of_ble_eq_true rfl) d_Lw_leader_3 hl.1 (rest := [.int (iZ 0), .ref (ad 96)]) rfl) w.2 (fun q _ hq => hq) (fun q hq => hq) (fun q _ hq => hq) (fun E ce q9 u t H locs ht hvm hpx hB hz hk hS hcell hv hcl => ?_) (fun r u t H locs ht hvm hpost hB hz hk hS => ?_)
  · rw [if_neg hpx] at hM
    obtain ⟨rfl, hB⟩ := hB
    have w : Wd s D ad cA (FA ad) q.2.2 H locs := ⟨by rw [← ht]; exact hB, hS⟩
    obtain ⟨k, ek, hM⟩ := bnd_some hM
    by_cases eq : q.1 = 4
    · have ek : k = 1 := by simp [cidx, eq] at ek; omega
      subst ek
      refine vx_catch (name := exN 4) C.2.2.2.1 [] ⟨0, 8, 11, 62⟩ [] (htab.trans rfl) (fun z hz => nomatch hz) (by decide) (by decide) (C.2.2.2.2.1 _ clk_4) (by rw [eq]; exact cast_ok C (by decide)) hcell hv hcl ?_
      refine m_astore_n C hl [(2, .ref q9), (0, .ref (ad 0)), (1, .ref (ad 96))] d_Lw_leader_11 rfl (by decide) rfl (fun ls hl => ?_)
      refine m_iconst C d_Lw_leader_12 ?_
      exact m_iretC C w hr hlk hM (Nat.le_of_ble_eq_true rfl) (Nat.le_of_ble_eq_true rfl) d_Lw_leader_13
    · have hn0 : ¬ q.1 = 4 := eq
      simp [cidx, hn0] at ek
  · rw [if_pos hpost.1] at hM
    have w : Wd s D ad cA (FA ad) q.2.2 H locs := ⟨by rw [← ht]; exact hB, hS⟩
    rw [hpost.2]
    refine m_i2l C d_Lw_leader_6 ?_
    refine m_lst C w d_Lw_leader_7 (fun H locs w => ?_)
    refine m_goto C 14 d_Lw_leader_8 (by decide) ?_
    refine m_iconst C d_Lw_leader_14 ?_
    exact m_iretC C w hr hlk hM (Nat.le_of_ble_eq_true rfl) (Nat.le_of_ble_eq_true rfl) d_Lw_leader_15

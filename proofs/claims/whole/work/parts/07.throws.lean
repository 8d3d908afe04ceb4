def rmX (d mc ms : Nat) : Room := { frames := d, cells := mc, slots := ms, locals := 40 * d }
def exN (k : Nat) : String := if k = 1 then "java/lang/IndexOutOfBoundsException" else if k = 2 then "java/util/NoSuchElementException" else if k = 3 then "java/lang/IllegalArgumentException" else "java/lang/IllegalStateException"
def QX (D : va_G) (ad : Nat → Nat) (cA : Nat → ClassId) (out : XO) : Array Value → State → Outcome → State → Prop := va_Qi (S := Unit) (fun x _ => out.1 = 0 ∧ x = iZ out.2.1) (fun _ t => va_P D clL (wl ad cA out.2.2) t.heap) (FA ad)
def QXV (D : va_G) (ad : Nat → Nat) (cA : Nat → ClassId) (out : XO) : Array Value → State → Outcome → State → Prop := va_Qv (S := Unit) (fun _ => out.1 = 0) (fun _ t => va_P D clL (wl ad cA out.2.2) t.heap) (FA ad)
def XT (D : va_G) (ad : Nat → Nat) (cA : Nat → ClassId) (out : XO) : String → State → State → Prop := vx_X (S := Unit) (fun _ => out.1 ≠ 0) (fun E _ t => E = exN out.1 ∧ va_P D clL (wl ad cA out.2.2) t.heap) (FA ad)
section M7
variable {p : Program} {l : Launch} {e : Env} {R : Room} {s : State} {m : MethodId} {args : Array Value} {below : List Frame} {meth : Method} {c : Code} {H : Heap} {locs : List Loc} {cells slots : Nat} {Q : State → Prop}
variable {cc : ByteArray} {nL pc : Nat} {ls : Array Slot} {rest : List Value} {own : String} {D : va_G} {ad : Nat → Nat} {cA : Nat → ClassId} {sd sv : Nat → Nat} {A : Nat → Prop} {h : Hp}
theorem entX {y : MethodName} {maxL : Nat} {rt : Option FieldType} {rm : Room} {mc ms : Nat} {av : List Value} {Qc : Array Value → State → Outcome → State → Prop} {XC : String → State → State → Prop} {free : Addr → Prop} (hpl : plainName y.cls = true) (hI : Inj97 ad) (hlen : (lg_sl av).length ≤ maxL)
    (body : ∀ p e s m args below meth c, Cx p s m args c cc maxL y.cls D ad cA sd sv (FA ad) → meth.sig.returnType = rt → meth.locks = false → (∀ x ∈ c.exceptionTable.toList, False) → va_P D clL (wl ad cA h) s.heap → ∀ ls, lv_has ls maxL (lv_args 0 av) → W p l e rm s m args below meth c s.heap [] 0 0 (vx_MQ below Qc XC args s mc ms free) (F0 m 0 ls [])) :
    vx_Met l y (.code y cc maxL rt :: TT) rm (PC D ad cA sd sv h av) Qc XC mc ms free := by
  refine vx_ofW (cc := cc) (maxL := maxL) (ret := rt) hpl rfl ?_
  intro p e s m args below meth c s₁ B hml hnt hv
  obtain ⟨rfl, hP, hK, hE⟩ := hv
  have hts := atoms_spec (ws := .code y cc maxL rt :: TT) B.pre
  have hl := lv_entry av (n := maxL) hlen
  rw [lg_entry_eq]
  generalize (lg_sl av ++ List.replicate (maxL - (lg_sl av).length) Slot.unset).toArray = ls at hl ⊢
  exact body p e s m _ below meth c ⟨B.exec, B.bytes, hml, findClass_of_methodNamed B.named, fun w hw => hts w (List.mem_cons_of_mem _ hw), hK, ⟨hI, fun i hi => ⟨i, hi, rfl⟩⟩, hE⟩ B.returns B.notSynchronized hnt hP ls hl
theorem m_iretX (C : Cx p s m args c cc nL own D ad cA sd sv A) (w : Wd s D ad cA (FA ad) h H locs) {a : Int} {out : XO} {mc ms : Nat} (hr : meth.sig.returnType = some .int) (hlk : meth.locks = false) (hM : some (0, a, h) = some out) (hc : cells ≤ mc) (hs : slots ≤ ms) (d : decode cc pc = .ok (.ireturn, 1)) : W p l e R s m args below meth c H locs cells slots (vx_MQ below (QX D ad cA out) (XT D ad cA out) args s mc ms (FA ad)) (F0 m pc ls [.int (iZ a)]) := by
  cases hM
  refine vx_ret (W.widen hc hs ?_)
  exact W.iret (v := iZ a) C.1 C.2.1 hr (fun t ht _ => ⟨⟨iZ a, (), rfl, ⟨rfl, rfl⟩, by subst ht; exact w.1⟩, w.2.F ht⟩) w.2.2.2 d hlk
theorem m_zretX (C : Cx p s m args c cc nL own D ad cA sd sv A) (w : Wd s D ad cA (FA ad) h H locs) {a : Int} {out : XO} {mc ms : Nat} (hr : meth.sig.returnType = some .boolean) (hlk : meth.locks = false) (hM : ckB a (some (0, a, h)) = some out) (hc : cells ≤ mc) (hs : slots ≤ ms) (d : decode cc pc = .ok (.ireturn, 1)) : W p l e R s m args below meth c H locs cells slots (vx_MQ below (QX D ad cA out) (XT D ad cA out) args s mc ms (FA ad)) (F0 m pc ls [.int (iZ a)]) := by
  unfold ckB at hM
  by_cases hv : isB a = true
  · rw [if_pos hv] at hM
    have h01 : a = 0 ∨ a = 1 := by simpa [isB] using hv
    cases hM
    refine vx_ret (W.widen hc hs ?_)
    exact W.zret (v := iZ a) C.1 C.2.1 hr (by rcases h01 with rfl | rfl <;> rfl) (fun t ht _ => ⟨⟨iZ a, (), rfl, ⟨rfl, rfl⟩, by subst ht; exact w.1⟩, w.2.F ht⟩) w.2.2.2 d hlk
  · rw [if_neg hv] at hM; cases hM
theorem m_vretX (C : Cx p s m args c cc nL own D ad cA sd sv A) (w : Wd s D ad cA (FA ad) h H locs) {out : XO} {mc ms : Nat} (hr : meth.sig.returnType = none) (hlk : meth.locks = false) (hM : some ((0, 0, h) : XO) = some out) (hc : cells ≤ mc) (hs : slots ≤ ms) (d : decode cc pc = .ok (.return_, 1)) : W p l e R s m args below meth c H locs cells slots (vx_MQ below (QXV D ad cA out) (XT D ad cA out) args s mc ms (FA ad)) (F0 m pc ls []) := by
  cases hM
  refine vx_ret (W.widen hc hs ?_)
  exact W.vret C.1 C.2.1 hr (fun t ht _ => ⟨⟨(), rfl, rfl, by subst ht; exact w.1⟩, w.2.F ht⟩) w.2.2.2 d hlk
/-- what the tables say of an exception that FeastBook throws: class by link ik, constructor by link ic -/
def ThW (k ik ic : Nat) : Prop := Bundle.fit (exN k) = true ∧ Cond.classLink "FeastBook" ik (exN k) ∈ TT ∧ Cond.initialized (exN k) ∈ TT ∧ (∀ w ∈ vx_atS "FeastBook" ic (exN k) ["java/lang/RuntimeException", "java/lang/Exception"], w ∈ TT ∨ (∃ x ∈ dcL, w = .declares x) ∨ (∃ x ∈ ctL, w = .castable x x)) ∧ (∀ w ∈ Cond.classLink "FeastBook" ik (exN k) :: Cond.initialized (exN k) :: vx_atS "FeastBook" ic (exN k) ["java/lang/RuntimeException", "java/lang/Exception"], vx_ot w = true)
theorem fitN : ∀ n ∈ (["java/lang/RuntimeException", "java/lang/Exception"] : List String), Bundle.fit n = true := by decide +kernel
theorem kept_all {H : Heap} {t : State} (hP : va_P D clL (wl ad cA h) H) (hk : ∀ q : Nat, q < H.size → t.heap[q]? = H[q]?) : va_P D clL (wl ad cA h) t.heap := va_P.kept hP (fun k q hq => hk q.1 (hP k q hq).lt)
theorem hatW (C : Cx p s m args c cc nL own D ad cA sd sv A) {k ik ic : Nat} (hw : ThW k ik ic) : ∀ w ∈ vx_atS "FeastBook" ic (exN k) ["java/lang/RuntimeException", "java/lang/Exception"], w.before args s = true := by
  intro w hw1
  rcases hw.2.2.2.1 w hw1 with h1 | ⟨x, hx, rfl⟩ | ⟨x, hx, rfl⟩
  · exact C.2.2.2.2.1 w h1
  · exact va_Nw.use rfl (C.2.2.2.2.2.2.2.2.2.2.2.2.2.1 x hx)
  · exact va_Nw.use rfl (C.2.2.2.2.2.2.2.2.2.2.2.2.2.2.2.1 x hx)
theorem thr_hx (w : Wd s D ad cA (FA ad) h H locs) {k : Nat} {v : Int} (hk : k ≠ 0) : ∀ t : State, s.vm.Alike t.vm → H.size ≤ t.heap.size → (∀ q : Nat, q < H.size → t.heap[q]? = H[q]?) → XT D ad cA (k, v, h) (exN k) s t := fun t _ hz hq =>
  ⟨(), hk, ⟨rfl, kept_all w.1 hq⟩, ⟨Nat.le_trans w.2.1 hz, fun q h1 h2 => by rw [hq q (Nat.lt_of_lt_of_le h1 w.2.1)]; exact w.2.2.1 q h1 h2⟩⟩
theorem m_thrS (hst : l.stackTraces = false) (C : Cx p s m args c cc nL "FeastBook" D ad cA sd sv (FA ad)) (w : Wd s D ad cA (FA ad) h H locs) (hnt : ∀ x ∈ c.exceptionTable.toList, False) (hsz : ls.size = nL) (hlk : meth.locks = false) {Qc : XO → Array Value → State → Outcome → State → Prop} {out : XO} {k ik ic is t mc ms : Nat} {tx : String} (hw : ThW k ik ic) (ht : t < 46) (hs : stA t = ("FeastBook", is, tx)) (hk : k ≠ 0) (hM : some ((k, 0, h) : XO) = some out)
    (d0 : decode cc pc = .ok (.new ik, 3)) (d3 : decode cc (pc + 3) = .ok (.dup, 1)) (d4 : decode cc (pc + 4) = .ok (.ldc is, 2)) (d6 : decode cc (pc + 6) = .ok (.invokespecial ic, 3)) (d9 : decode cc (pc + 9) = .ok (.athrow, 1)) (hf : 5 < R.frames) (hlo : (rest.map fun v => v.category).sum + 82 ≤ R.locals) (hRc : cells + 1 ≤ R.cells) (hRs : slots + 6 ≤ R.slots) (hc : cells + 1 ≤ mc) (hs2 : slots + 6 ≤ ms) :
    W p l e R s m args below meth c H locs cells slots (vx_MQ below (Qc out) (XT D ad cA out) args s mc ms (FA ad)) (F0 m pc ls rest) := by
  cases hM
  have hstr := C.2.2.2.2.2.2.2.2.1 t ht
  rw [hs] at hstr
  exact vx_throwS (names := ["java/lang/RuntimeException", "java/lang/Exception"]) C.1 C.2.1 hst C.2.2.2.1 hw.1 fitN (C.2.2.2.2.1 _ hw.2.1) (C.2.2.2.2.1 _ hw.2.2.1) hstr (hatW C hw) hw.2.2.2.2 C.2.2.2.2.2.2.2.2.2.2.1 C.2.2.2.2.2.2.2.2.2.2.2.1 w.2 (hsz.trans C.2.2.1.symm) d0 d3 d4 d6 d9 (fun x hx => (hnt x hx).elim) hf hlo hRc hRs hlk (thr_hx w hk) w.2.2.2 hc hs2
theorem m_thrW (hst : l.stackTraces = false) (C : Cx p s m args c cc nL "FeastBook" D ad cA sd sv (FA ad)) (w : Wd s D ad cA (FA ad) h H locs) (hnt : ∀ x ∈ c.exceptionTable.toList, False) (hsz : ls.size = nL) (hlk : meth.locks = false) {Qc : XO → Array Value → State → Outcome → State → Prop} {out : XO} {k ik ic is t mc ms : Nat} {tx : String} (hw : ThW k ik ic) (ht : t < 46) (hs : stA t = ("FeastBook", is, tx)) (hk : k ≠ 0) (hM : some ((k, 0, h) : XO) = some out)
    (d0 : decode cc pc = .ok (.new ik, 3)) (d3 : decode cc (pc + 3) = .ok (.dup, 1)) (d4 : decode cc (pc + 4) = .ok (.ldc_w is, 3)) (d7 : decode cc (pc + 7) = .ok (.invokespecial ic, 3)) (d10 : decode cc (pc + 10) = .ok (.athrow, 1)) (hf : 5 < R.frames) (hlo : (rest.map fun v => v.category).sum + 82 ≤ R.locals) (hRc : cells + 1 ≤ R.cells) (hRs : slots + 6 ≤ R.slots) (hc : cells + 1 ≤ mc) (hs2 : slots + 6 ≤ ms) :
    W p l e R s m args below meth c H locs cells slots (vx_MQ below (Qc out) (XT D ad cA out) args s mc ms (FA ad)) (F0 m pc ls rest) := by
  cases hM
  have hstr := C.2.2.2.2.2.2.2.2.1 t ht
  rw [hs] at hstr
  exact vx_throwSW (names := ["java/lang/RuntimeException", "java/lang/Exception"]) C.1 C.2.1 hst C.2.2.2.1 hw.1 fitN (C.2.2.2.2.1 _ hw.2.1) (C.2.2.2.2.1 _ hw.2.2.1) hstr (hatW C hw) hw.2.2.2.2 C.2.2.2.2.2.2.2.2.2.2.1 C.2.2.2.2.2.2.2.2.2.2.2.1 w.2 (hsz.trans C.2.2.1.symm) d0 d3 d4 d7 d10 (fun x hx => (hnt x hx).elim) hf hlo hRc hRs hlk (thr_hx w hk) w.2.2.2 hc hs2
/-- a call of a method that returns nothing or throws, by one that doesn't catch -/
theorem m_xcall (C : Cx p s m args c cc nL own D ad cA sd sv (FA ad)) (w : Wd s D ad cA (FA ad) h H locs) (hnt : ∀ x ∈ c.exceptionTable.toList, False) (hlk : meth.locks = false) {Qc : XO → Array Value → State → Outcome → State → Prop} {x : Option XO} {f : Int → Hp → Option XO} {out : XO} {mc ms mc' ms' : Nat} {a : Array Value} {st0 : List Value} (hM : xbnd x f = some out) (hr : ∀ q, x = some q → vx_Run p l e R s m args below meth c H locs cells slots mc' ms' (F0 m pc ls st0) rest (QXV D ad cA q a) (XT D ad cA q) (FA ad)) (hc : cells + mc' ≤ mc) (hs : slots + ms' ≤ ms)
    (kk : ∀ (v : Int) (h : Hp) (H : Heap) (locs : List Loc), Wd s D ad cA (FA ad) h H locs → f v h = some out → W p l e R s m args below meth c H locs (cells + mc') (slots + ms') (vx_MQ below (Qc out) (XT D ad cA out) args s mc ms (FA ad)) (F0 m (pc + 3) ls rest)) :
    W p l e R s m args below meth c H locs cells slots (vx_MQ below (Qc out) (XT D ad cA out) args s mc ms (FA ad)) (F0 m pc ls st0) := by
  obtain ⟨q, hx, hM⟩ := bnd_some hM
  refine vx_callv (hr q hx) w.2 (fun q _ hq => hq) (fun q hq => hq) (fun q _ hq => hq) (fun E ce q9 u t H1 locs1 ht hvm hpx hB hz hk hS hcell hv hcl => ?_) (fun u t H1 locs1 ht hvm hpost hB hz hk hS => ?_)
  · rw [if_neg hpx] at hM
    cases hM
    obtain ⟨rfl, hB⟩ := hB
    refine vx_out (fun x hx => (hnt x hx).elim) hlk hcell hv hcl (fun t2 ht2 _ => ⟨(), hpx, ⟨rfl, ?_⟩, hS.F ht2⟩) hS.2.2 hc hs
    show va_P D clL (wl ad cA q.2.2) t2.heap
    rw [ht2, ← ht]
    exact hB
  · rw [if_pos hpost] at hM
    exact kk _ _ H1 locs1 ⟨by rw [← ht]; exact hB, hS⟩ hM
theorem runVX (C : Cx p s m args c cc nL own D ad cA sd sv A) (hP : va_P D clL (wl ad cA h) H) (hS : va_S A s.heap H locs) {o ci n idx maxL d' nn mc' ms' : Nat} {sl : List (Option Nat)} {Cn : String} {Tn : u_T} {ty : Nat → FieldType} (hc : KC ci Cn Tn nn ty) (hsh : shp o = .inl (ci, sl)) (ho : o < 97) {y : MethodName} {bytes : ByteArray} {ret : Option FieldType} {As : List Value} {Qc : Array Value → State → Outcome → State → Prop} {XC : String → State → State → Prop} {free : Addr → Prop}
    (hMet : vx_Met l y (.code y bytes maxL ret :: TT) (rmX d' mc' ms') (PC D ad cA sd sv h (.ref (ad o) :: As)) Qc XC mc' ms' free) (hl : Cond.methodLink own idx y ∈ TT) (hb : MBv Cn y bytes maxL ret n) (hn : As.length = n) (hR : d' + 1 ≤ R.frames ∧ 40 * (d' + 1) ≤ R.locals) (hcs : cells + mc' ≤ R.cells ∧ slots + ms' ≤ R.slots) (hcat : (rest.map fun v => v.category).sum ≤ 8) (d : decode cc pc = .ok (.invokevirtual idx, 3)) (hsz : ls.size = nL) {st : List Value} (hst : st = As.reverse ++ .ref (ad o) :: rest) :
    vx_Run p l e R s m args below meth c H locs cells slots mc' ms' (F0 m pc ls st) rest (Qc (Value.ref (ad o) :: As).toArray) XC free :=
  vx_runV (As := As) (rest := rest) ⟨C.1, C.2.1, C.2.2.1, C.2.2.2.1, C.2.2.2.2.1⟩ hMet (cwV n C.2.2.2.2.1 (good_V hl hb) rfl rfl rfl ⟨hb.2.2.2.2.2.1, hb.2.2.2.2.2.2.1, hb.2.2.2.2.2.2.2⟩ ⟨hR.1, by have := hb.2.2.2.2.1; have := hR.2; show 8 + (maxL + 11) + 40 * d' ≤ _; omega⟩) ⟨PC.blind, va_recv C.2.2.2.2.2.1 hP hc.1 (q0 := o) (by rw [wl_at ad cA h ho, ent_o hsh]), fun U hU hW => ⟨rfl, by rw [hU]; exact hP, va_K.moved hW.alike C.2.2.2.2.2.1, C.2.2.2.2.2.2.2.to hS hW hU (FA_A C)⟩⟩ rfl hn hsz hst (lv_room hcat) d hcs
theorem runSX (C : Cx p s m args c cc nL own D ad cA sd sv A) (hP : va_P D clL (wl ad cA h) H) (hS : va_S A s.heap H locs) {n idx maxL d' mc' ms' : Nat} {y : MethodName} {bytes : ByteArray} {ret : Option FieldType} {As : List Value} {Qc : Array Value → State → Outcome → State → Prop} {XC : String → State → State → Prop} {free : Addr → Prop}
    (hMet : vx_Met l y (.code y bytes maxL ret :: TT) (rmX d' mc' ms') (PC D ad cA sd sv h As) Qc XC mc' ms' free) (hl : Cond.methodLink own idx y ∈ TT) (hb : MBs y bytes maxL ret n) (hn : As.length = n) (hR : d' + 1 ≤ R.frames ∧ 40 * (d' + 1) ≤ R.locals) (hcs : cells + mc' ≤ R.cells ∧ slots + ms' ≤ R.slots) (hcat : (rest.map fun v => v.category).sum ≤ 8) (d : decode cc pc = .ok (.invokestatic idx, 3)) (hsz : ls.size = nL) {st : List Value} (hst : st = As.reverse ++ rest) :
    vx_Run p l e R s m args below meth c H locs cells slots mc' ms' (F0 m pc ls st) rest (Qc As.toArray) XC free :=
  vx_runS (As := As) (rest := rest) ⟨C.1, C.2.1, C.2.2.1, C.2.2.2.1, C.2.2.2.2.1⟩ hMet (va_cwS n C.2.2.2.2.1 (good_S hl hb) rfl rfl rfl ⟨hb.2.2.2.2.1, hb.2.2.2.2.2⟩ ⟨hR.1, by have := hb.2.2.2.1; have := hR.2; show 8 + (maxL + 11) + 40 * d' ≤ _; omega⟩) ⟨PC.blind, fun U hU hW => ⟨rfl, by rw [hU]; exact hP, va_K.moved hW.alike C.2.2.2.2.2.1, C.2.2.2.2.2.2.2.to hS hW hU (FA_A C)⟩⟩ rfl hn hsz hst (lv_room hcat) d hcs
end M7
theorem thw_1 : ThW 1 380 384 := by
  refine ⟨by decide +kernel, mT4 111 (by decide +kernel) (by decide +kernel), mT1 24 (by decide +kernel) (by decide +kernel), ?_, by decide +kernel⟩
  have e : (vx_atS "FeastBook" 384 (exN 1) ["java/lang/RuntimeException", "java/lang/Exception"]).all (fun w => (decide (w ∈ lw_tbl) && goodWord w) || dcL.any (fun x => decide (w = .declares x)) || ctL.any (fun x => decide (w = .castable x x))) = true := by decide +kernel
  intro w hw
  have h1 := List.all_eq_true.mp e w hw
  simp only [Bool.or_eq_true, Bool.and_eq_true, decide_eq_true_eq, List.any_eq_true] at h1
  rcases h1 with (⟨g1, g2⟩ | ⟨x, hx, e1⟩) | ⟨x, hx, e1⟩
  · exact Or.inl (List.mem_filter.mpr ⟨g1, g2⟩)
  · exact Or.inr (Or.inl ⟨x, hx, e1⟩)
  · exact Or.inr (Or.inr ⟨x, hx, e1⟩)
theorem thw_3 : ThW 3 83 87 := by
  refine ⟨by decide +kernel, mT4 29 (by decide +kernel) (by decide +kernel), mT1 20 (by decide +kernel) (by decide +kernel), ?_, by decide +kernel⟩
  have e : (vx_atS "FeastBook" 87 (exN 3) ["java/lang/RuntimeException", "java/lang/Exception"]).all (fun w => (decide (w ∈ lw_tbl) && goodWord w) || dcL.any (fun x => decide (w = .declares x)) || ctL.any (fun x => decide (w = .castable x x))) = true := by decide +kernel
  intro w hw
  have h1 := List.all_eq_true.mp e w hw
  simp only [Bool.or_eq_true, Bool.and_eq_true, decide_eq_true_eq, List.any_eq_true] at h1
  rcases h1 with (⟨g1, g2⟩ | ⟨x, hx, e1⟩) | ⟨x, hx, e1⟩
  · exact Or.inl (List.mem_filter.mpr ⟨g1, g2⟩)
  · exact Or.inr (Or.inl ⟨x, hx, e1⟩)
  · exact Or.inr (Or.inr ⟨x, hx, e1⟩)
theorem thw_4 : ThW 4 258 262 := by
  refine ⟨by decide +kernel, mT7 9 (by decide +kernel) (by decide +kernel), mT1 32 (by decide +kernel) (by decide +kernel), ?_, by decide +kernel⟩
  have e : (vx_atS "FeastBook" 262 (exN 4) ["java/lang/RuntimeException", "java/lang/Exception"]).all (fun w => (decide (w ∈ lw_tbl) && goodWord w) || dcL.any (fun x => decide (w = .declares x)) || ctL.any (fun x => decide (w = .castable x x))) = true := by decide +kernel
  intro w hw
  have h1 := List.all_eq_true.mp e w hw
  simp only [Bool.or_eq_true, Bool.and_eq_true, decide_eq_true_eq, List.any_eq_true] at h1
  rcases h1 with (⟨g1, g2⟩ | ⟨x, hx, e1⟩) | ⟨x, hx, e1⟩
  · exact Or.inl (List.mem_filter.mpr ⟨g1, g2⟩)
  · exact Or.inr (Or.inl ⟨x, hx, e1⟩)
  · exact Or.inr (Or.inr ⟨x, hx, e1⟩)

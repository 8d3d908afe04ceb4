set_option maxHeartbeats 4000000 in
set_option maxRecDepth 100000 in
theorem w_case_0 {p : Program} {l : Launch} {e : Env} {s : State} {m : MethodId} {args : Array Value} {below : List Frame} {meth : Method} {c : Code} {Q : State → Prop} {D : va_G} {ad : Nat → Nat} {cA : Nat → ClassId} {sd sv : Nat → Nat} {A : Nat → Prop} {b L : Nat} {xs : Nat → Int32} {N c0 s0 : Nat} {v4 : Int} (hI : Inj97 ad) (hst : l.stackTraces = false) (C : Cx p s m args c code 7 "FeastBookLaw" D ad cA sd sv A) (X : Sc s A b L xs) (hc0 : c0 + 4 ≤ 601024) (hs0 : s0 + 24 ≤ 7293034) {k : Hp → Option Int} (kW : ∀ h : Hp, k h = some 1 → ∀ (H : Heap) (locs : List Loc), Wd s D ad cA A h H locs → ∀ ls : Array Slot, lv_has ls 7 [(0, .ref b), (1, .ref (ad 0)), (2, .ref (ad 83)), (3, .ref (ad 96)), (4, .int (iZ v4))] → W p l e room_1 s m args below meth c H locs (c0 + 4) (s0 + 24) Q (F0 m 2814 ls [])) {h : Hp} {H : Heap} {locs : List Loc} (w : Wd s D ad cA A h H locs) {ls : Array Slot} (hl : lv_has ls 7 [(0, .ref b), (1, .ref (ad 0)), (2, .ref (ad 83)), (3, .ref (ad 96)), (4, .int (iZ v4))]) (hM : Lw_case_0 N L xs v4 h k = some 1) : W p l e room_1 s m args below meth c H locs c0 s0 Q (F0 m 228 ls []) := by
  unfold Lw_case_0 at hM
  have hz0 : c0 ≤ room_1.cells := by show c0 ≤ 601024; omega
  have hz1 : s0 ≤ room_1.slots := by show s0 ≤ 7293034; omega
  have hz2 : c0 + 4 ≤ room_1.cells := hc0
  have hz3 : s0 + 24 ≤ room_1.slots := hs0
  refine m_aload_n C hl 1 d_law_228 rfl rfl ?_
  refine m_aload_n C hl 0 d_law_229 rfl rfl ?_
  refine m_iload C hl 4 d_law_230 rfl ?_
  refine m_iconst C d_law_232 ?_
  refine m_iadd C d_law_233 ?_
  refine m_sld C X w hM d_law_234 (fun x1 hM => ?_)
  refine m_aload_n C hl 0 d_law_235 rfl rfl ?_
  refine m_iload C hl 4 d_law_236 rfl ?_
  refine m_iconst C d_law_238 ?_
  refine m_iadd C d_law_239 ?_
  refine m_sld C X w hM d_law_240 (fun x2 hM => ?_)
  refine m_aload_n C hl 0 d_law_241 rfl rfl ?_
  refine m_iload C hl 4 d_law_242 rfl ?_
  refine m_iconst C d_law_244 ?_
  refine m_iadd C d_law_245 ?_
  refine m_sld C X w hM d_law_246 (fun x3 hM => ?_)
  refine m_aload_n C hl 0 d_law_247 rfl rfl ?_
  refine m_iload C hl 4 d_law_248 rfl ?_
  refine m_iconst C d_law_250 ?_
  refine m_iadd C d_law_251 ?_
  refine m_sld C X w hM d_law_252 (fun x4 hM => ?_)
  refine m_aload_n C hl 0 d_law_253 rfl rfl ?_
  refine m_iload C hl 4 d_law_254 rfl ?_
  refine m_iconst C d_law_256 ?_
  refine m_iadd C d_law_257 ?_
  refine m_sld C X w hM d_law_258 (fun x5 hM => ?_)
  obtain ⟨q7, e6, hM⟩ := bnd_some hM
  refine aftI C w (runV C w.1 w.2 kc_FB sh_0 (Nat.le_of_ble_eq_true rfl) (c_FB_feed hI e6) lk_Lw_136 mb_FB_feed rfl ⟨Nat.le_of_ble_eq_true rfl, Nat.le_of_ble_eq_true rfl⟩ ⟨hz0, hz1⟩ (Nat.le_of_ble_eq_true rfl) d_law_259 hl.1 (rest := []) rfl) (fun H locs w => ?_)
  refine m_aload_n C hl 2 d_law_262 rfl rfl ?_
  refine m_aload_n C hl 0 d_law_263 rfl rfl ?_
  refine m_iload C hl 4 d_law_264 rfl ?_
  refine m_iconst C d_law_266 ?_
  refine m_iadd C d_law_267 ?_
  refine m_sld C X w hM d_law_268 (fun x8 hM => ?_)
  refine m_aload_n C hl 0 d_law_269 rfl rfl ?_
  refine m_iload C hl 4 d_law_270 rfl ?_
  refine m_iconst C d_law_272 ?_
  refine m_iadd C d_law_273 ?_
  refine m_sld C X w hM d_law_274 (fun x9 hM => ?_)
  refine m_aload_n C hl 0 d_law_275 rfl rfl ?_
  refine m_iload C hl 4 d_law_276 rfl ?_
  refine m_iconst C d_law_278 ?_
  refine m_iadd C d_law_279 ?_
  refine m_sld C X w hM d_law_280 (fun x10 hM => ?_)
  refine m_aload_n C hl 0 d_law_281 rfl rfl ?_
  refine m_iload C hl 4 d_law_282 rfl ?_
  refine m_iconst C d_law_284 ?_
  refine m_iadd C d_law_285 ?_
  refine m_sld C X w hM d_law_286 (fun x11 hM => ?_)
  refine m_aload_n C hl 0 d_law_287 rfl rfl ?_
  refine m_iload C hl 4 d_law_288 rfl ?_
  refine m_iconst C d_law_290 ?_
  refine m_iadd C d_law_291 ?_
  refine m_sld C X w hM d_law_292 (fun x12 hM => ?_)
  obtain ⟨q14, e13, hM⟩ := bnd_some hM
  refine aftI C w (runV C w.1 w.2 kc_Md sh_83 (Nat.le_of_ble_eq_true rfl) (c_Md_feed hI e13) lk_Lw_140 mb_Md_feed rfl ⟨Nat.le_of_ble_eq_true rfl, Nat.le_of_ble_eq_true rfl⟩ ⟨hz0, hz1⟩ (Nat.le_of_ble_eq_true rfl) d_law_293 hl.1 (rest := [.int (iZ q7.1)]) rfl) (fun H locs w => ?_)
  refine m_icmp_eq C hM 2814 d_law_296 (by decide) (fun hM => ?_) (fun hM => ?_)
  · refine W.widen (k := c0 + 4) (n := s0 + 24) (by omega) (by omega) ?_
    exact kW q14.2 hM _ _ w _ hl
  · refine m_iconst C d_law_299 ?_
    cases hM
set_option maxHeartbeats 4000000 in
set_option maxRecDepth 100000 in
theorem w_case_1 {p : Program} {l : Launch} {e : Env} {s : State} {m : MethodId} {args : Array Value} {below : List Frame} {meth : Method} {c : Code} {Q : State → Prop} {D : va_G} {ad : Nat → Nat} {cA : Nat → ClassId} {sd sv : Nat → Nat} {A : Nat → Prop} {b L : Nat} {xs : Nat → Int32} {N c0 s0 : Nat} {v4 : Int} (hI : Inj97 ad) (hst : l.stackTraces = false) (C : Cx p s m args c code 7 "FeastBookLaw" D ad cA sd sv A) (X : Sc s A b L xs) (hc0 : c0 + 4 ≤ 601024) (hs0 : s0 + 24 ≤ 7293034) {k : Hp → Option Int} (kW : ∀ h : Hp, k h = some 1 → ∀ (H : Heap) (locs : List Loc), Wd s D ad cA A h H locs → ∀ ls : Array Slot, lv_has ls 7 [(0, .ref b), (1, .ref (ad 0)), (2, .ref (ad 83)), (3, .ref (ad 96)), (4, .int (iZ v4))] → W p l e room_1 s m args below meth c H locs (c0 + 4) (s0 + 24) Q (F0 m 2814 ls [])) {h : Hp} {H : Heap} {locs : List Loc} (w : Wd s D ad cA A h H locs) {ls : Array Slot} (hl : lv_has ls 7 [(0, .ref b), (1, .ref (ad 0)), (2, .ref (ad 83)), (3, .ref (ad 96)), (4, .int (iZ v4))]) (hM : Lw_case_1 N L xs v4 h k = some 1) : W p l e room_1 s m args below meth c H locs c0 s0 Q (F0 m 301 ls []) := by
  unfold Lw_case_1 at hM
  have hz0 : c0 ≤ room_1.cells := by show c0 ≤ 601024; omega
  have hz1 : s0 ≤ room_1.slots := by show s0 ≤ 7293034; omega
  have hz2 : c0 + 4 ≤ room_1.cells := hc0
  have hz3 : s0 + 24 ≤ room_1.slots := hs0
  refine m_aload_n C hl 1 d_law_301 rfl rfl ?_
  refine m_aload_n C hl 0 d_law_302 rfl rfl ?_
  refine m_iload C hl 4 d_law_303 rfl ?_
  refine m_iconst C d_law_305 ?_
  refine m_iadd C d_law_306 ?_
  refine m_sld C X w hM d_law_307 (fun x15 hM => ?_)
  obtain ⟨q17, e16, hM⟩ := bnd_some hM
  refine aftI C w (runV C w.1 w.2 kc_FB sh_0 (Nat.le_of_ble_eq_true rfl) (c_FB_end hI e16) lk_Lw_141 mb_FB_end rfl ⟨Nat.le_of_ble_eq_true rfl, Nat.le_of_ble_eq_true rfl⟩ ⟨hz0, hz1⟩ (Nat.le_of_ble_eq_true rfl) d_law_308 hl.1 (rest := []) rfl) (fun H locs w => ?_)
  refine m_aload_n C hl 2 d_law_311 rfl rfl ?_
  refine m_aload_n C hl 0 d_law_312 rfl rfl ?_
  refine m_iload C hl 4 d_law_313 rfl ?_
  refine m_iconst C d_law_315 ?_
  refine m_iadd C d_law_316 ?_
  refine m_sld C X w hM d_law_317 (fun x18 hM => ?_)
  obtain ⟨q20, e19, hM⟩ := bnd_some hM
  refine aftI C w (runV C w.1 w.2 kc_Md sh_83 (Nat.le_of_ble_eq_true rfl) (c_Md_end hI e19) lk_Lw_145 mb_Md_end rfl ⟨Nat.le_of_ble_eq_true rfl, Nat.le_of_ble_eq_true rfl⟩ ⟨hz0, hz1⟩ (Nat.le_of_ble_eq_true rfl) d_law_318 hl.1 (rest := [.int (iZ q17.1)]) rfl) (fun H locs w => ?_)
  refine m_icmp_eq C hM 2814 d_law_321 (by decide) (fun hM => ?_) (fun hM => ?_)
  · refine W.widen (k := c0 + 4) (n := s0 + 24) (by omega) (by omega) ?_
    exact kW q20.2 hM _ _ w _ hl
  · refine m_iconst C d_law_324 ?_
    cases hM
set_option maxHeartbeats 4000000 in
set_option maxRecDepth 100000 in
theorem w_case_2 {p : Program} {l : Launch} {e : Env} {s : State} {m : MethodId} {args : Array Value} {below : List Frame} {meth : Method} {c : Code} {Q : State → Prop} {D : va_G} {ad : Nat → Nat} {cA : Nat → ClassId} {sd sv : Nat → Nat} {A : Nat → Prop} {b L : Nat} {xs : Nat → Int32} {N c0 s0 : Nat} {v4 : Int} (hI : Inj97 ad) (hst : l.stackTraces = false) (C : Cx p s m args c code 7 "FeastBookLaw" D ad cA sd sv A) (X : Sc s A b L xs) (hc0 : c0 + 4 ≤ 601024) (hs0 : s0 + 24 ≤ 7293034) {k : Hp → Option Int} (kW : ∀ h : Hp, k h = some 1 → ∀ (H : Heap) (locs : List Loc), Wd s D ad cA A h H locs → ∀ ls : Array Slot, lv_has ls 7 [(0, .ref b), (1, .ref (ad 0)), (2, .ref (ad 83)), (3, .ref (ad 96)), (4, .int (iZ v4))] → W p l e room_1 s m args below meth c H locs (c0 + 4) (s0 + 24) Q (F0 m 2814 ls [])) {h : Hp} {H : Heap} {locs : List Loc} (w : Wd s D ad cA A h H locs) {ls : Array Slot} (hl : lv_has ls 7 [(0, .ref b), (1, .ref (ad 0)), (2, .ref (ad 83)), (3, .ref (ad 96)), (4, .int (iZ v4))]) (hM : Lw_case_2 N L xs v4 h k = some 1) : W p l e room_1 s m args below meth c H locs c0 s0 Q (F0 m 326 ls []) := by
  unfold Lw_case_2 at hM
  have hz0 : c0 ≤ room_1.cells := by show c0 ≤ 601024; omega
  have hz1 : s0 ≤ room_1.slots := by show s0 ≤ 7293034; omega
  have hz2 : c0 + 4 ≤ room_1.cells := hc0
  have hz3 : s0 + 24 ≤ room_1.slots := hs0
  refine m_aload_n C hl 1 d_law_326 rfl rfl ?_
  refine m_aload_n C hl 3 d_law_327 rfl rfl ?_
  obtain ⟨q21, e22, hM⟩ := bnd_some hM
  refine aftW (c1 := c0 + 4) (s1 := s0 + 24) C w (runSW (n := 2) C w.1 w.2 (c_Lw_book hI hst e22) lh_146 st_Lw_book in_Law cw_Lw_book ⟨by decide +kernel, by decide +kernel, by decide +kernel⟩ rfl ⟨(Nat.le_of_ble_eq_true rfl), (Nat.le_of_ble_eq_true rfl)⟩ ⟨by show c0 + 1 ≤ 601024; omega, by show s0 + 6 ≤ 7293034; omega⟩ (Nat.le_of_ble_eq_true rfl) d_law_328 hl.1 (rest := []) rfl) (by omega) (by omega) (fun H locs w => ?_)
  refine m_istore C hl [(5, .int (iZ q21.1)), (0, .ref b), (1, .ref (ad 0)), (2, .ref (ad 83)), (3, .ref (ad 96)), (4, .int (iZ v4))] d_law_331 (by decide) rfl (fun ls hl => ?_)
  refine m_aload_n C hl 3 d_law_333 rfl rfl ?_
  obtain ⟨q24, e23, hM⟩ := bnd_some hM
  refine aftI C w (runV C w.1 w.2 kc_Md sh_83 (Nat.le_of_ble_eq_true rfl) (c_Md_book hI e23) lk_Lw_151 mb_Md_book rfl ⟨Nat.le_of_ble_eq_true rfl, Nat.le_of_ble_eq_true rfl⟩ ⟨hz2, hz3⟩ (Nat.le_of_ble_eq_true rfl) d_law_334 hl.1 (rest := []) rfl) (fun H locs w => ?_)
  refine m_istore C hl [(6, .int (iZ q24.1)), (5, .int (iZ q21.1)), (0, .ref b), (1, .ref (ad 0)), (2, .ref (ad 83)), (3, .ref (ad 96)), (4, .int (iZ v4))] d_law_337 (by decide) rfl (fun ls hl => ?_)
  refine m_aload_n C hl 4 d_law_339 rfl rfl ?_
  obtain ⟨x26, e25, hM⟩ := bnd_some hM
  refine aftR (runV C w.1 w.2 kc_Md sh_83 (Nat.le_of_ble_eq_true rfl) (c_Md_thrown hI e25) lk_Lw_152 mb_Md_thrown rfl ⟨Nat.le_of_ble_eq_true rfl, Nat.le_of_ble_eq_true rfl⟩ ⟨hz2, hz3⟩ (Nat.le_of_ble_eq_true rfl) d_law_340 hl.1 (rest := []) rfl) ?_
  refine m_iload C hl 1 d_law_343 rfl ?_
  refine m_icmp_eq C hM 350 d_law_345 (by decide) (fun hM => ?_) (fun hM => ?_)
  · refine m_iload C hl 1 d_law_350 rfl ?_
    refine m_if_ne C hM 367 d_law_352 (by decide) (fun hM => ?_) (fun hM => ?_)
    · refine m_goto C 2814 d_law_367 (by decide) ?_
      exact kW q24.2 hM _ _ w _ (lv_sub hl [2, 3, 4, 5, 6] rfl)
    · refine m_aload_n C hl 5 d_law_355 rfl rfl ?_
      refine m_iconst C d_law_356 ?_
      refine m_lald C w d_law_357 ?_
      refine m_iload C hl 0 d_law_358 rfl ?_
      refine m_i2l C d_law_360 ?_
      refine m_lceq C hM 367 d_law_361 d_law_362 (by decide) (fun hM => ?_) (fun hM => ?_)
      · refine m_goto C 2814 d_law_367 (by decide) ?_
        exact kW q24.2 hM _ _ w _ (lv_sub hl [2, 3, 4, 5, 6] rfl)
      · refine m_iconst C d_law_365 ?_
        cases hM
  · refine m_iconst C d_law_348 ?_
    cases hM
set_option maxHeartbeats 4000000 in
set_option maxRecDepth 100000 in
theorem w_case_3 {p : Program} {l : Launch} {e : Env} {s : State} {m : MethodId} {args : Array Value} {below : List Frame} {meth : Method} {c : Code} {Q : State → Prop} {D : va_G} {ad : Nat → Nat} {cA : Nat → ClassId} {sd sv : Nat → Nat} {A : Nat → Prop} {b L : Nat} {xs : Nat → Int32} {N c0 s0 : Nat} {v4 : Int} (hI : Inj97 ad) (hst : l.stackTraces = false) (C : Cx p s m args c code 7 "FeastBookLaw" D ad cA sd sv A) (X : Sc s A b L xs) (hc0 : c0 + 4 ≤ 601024) (hs0 : s0 + 24 ≤ 7293034) {k : Hp → Option Int} (kW : ∀ h : Hp, k h = some 1 → ∀ (H : Heap) (locs : List Loc), Wd s D ad cA A h H locs → ∀ ls : Array Slot, lv_has ls 7 [(0, .ref b), (1, .ref (ad 0)), (2, .ref (ad 83)), (3, .ref (ad 96)), (4, .int (iZ v4))] → W p l e room_1 s m args below meth c H locs (c0 + 4) (s0 + 24) Q (F0 m 2814 ls [])) {h : Hp} {H : Heap} {locs : List Loc} (w : Wd s D ad cA A h H locs) {ls : Array Slot} (hl : lv_has ls 7 [(0, .ref b), (1, .ref (ad 0)), (2, .ref (ad 83)), (3, .ref (ad 96)), (4, .int (iZ v4))]) (hM : Lw_case_3 N L xs v4 h k = some 1) : W p l e room_1 s m args below meth c H locs c0 s0 Q (F0 m 370 ls []) := by
  unfold Lw_case_3 at hM
  have hz0 : c0 ≤ room_1.cells := by show c0 ≤ 601024; omega
  have hz1 : s0 ≤ room_1.slots := by show s0 ≤ 7293034; omega
  have hz2 : c0 + 4 ≤ room_1.cells := hc0
  have hz3 : s0 + 24 ≤ room_1.slots := hs0
  refine m_aload_n C hl 1 d_law_370 rfl rfl ?_
  obtain ⟨x28, e27, hM⟩ := bnd_some hM
  refine aftR (runV C w.1 w.2 kc_FB sh_0 (Nat.le_of_ble_eq_true rfl) (c_FB_fault hI e27) lk_Lw_155 mb_FB_fault rfl ⟨Nat.le_of_ble_eq_true rfl, Nat.le_of_ble_eq_true rfl⟩ ⟨hz0, hz1⟩ (Nat.le_of_ble_eq_true rfl) d_law_371 hl.1 (rest := []) rfl) ?_
  refine m_aload_n C hl 2 d_law_374 rfl rfl ?_
  obtain ⟨q30, e29, hM⟩ := bnd_some hM
  refine aftI C w (runV C w.1 w.2 kc_Md sh_83 (Nat.le_of_ble_eq_true rfl) (c_Md_fault hI e29) lk_Lw_158 mb_Md_fault rfl ⟨Nat.le_of_ble_eq_true rfl, Nat.le_of_ble_eq_true rfl⟩ ⟨hz0, hz1⟩ (Nat.le_of_ble_eq_true rfl) d_law_375 hl.1 (rest := [.int (iZ x28)]) rfl) (fun H locs w => ?_)
  refine m_icmp_eq C hM 2814 d_law_378 (by decide) (fun hM => ?_) (fun hM => ?_)
  · refine W.widen (k := c0 + 4) (n := s0 + 24) (by omega) (by omega) ?_
    exact kW q30.2 hM _ _ w _ hl
  · refine m_iconst C d_law_381 ?_
    cases hM
set_option maxHeartbeats 4000000 in
set_option maxRecDepth 100000 in
theorem w_case_4 {p : Program} {l : Launch} {e : Env} {s : State} {m : MethodId} {args : Array Value} {below : List Frame} {meth : Method} {c : Code} {Q : State → Prop} {D : va_G} {ad : Nat → Nat} {cA : Nat → ClassId} {sd sv : Nat → Nat} {A : Nat → Prop} {b L : Nat} {xs : Nat → Int32} {N c0 s0 : Nat} {v4 : Int} (hI : Inj97 ad) (hst : l.stackTraces = false) (C : Cx p s m args c code 7 "FeastBookLaw" D ad cA sd sv A) (X : Sc s A b L xs) (hc0 : c0 + 4 ≤ 601024) (hs0 : s0 + 24 ≤ 7293034) {k : Hp → Option Int} (kW : ∀ h : Hp, k h = some 1 → ∀ (H : Heap) (locs : List Loc), Wd s D ad cA A h H locs → ∀ ls : Array Slot, lv_has ls 7 [(0, .ref b), (1, .ref (ad 0)), (2, .ref (ad 83)), (3, .ref (ad 96)), (4, .int (iZ v4))] → W p l e room_1 s m args below meth c H locs (c0 + 4) (s0 + 24) Q (F0 m 2814 ls [])) {h : Hp} {H : Heap} {locs : List Loc} (w : Wd s D ad cA A h H locs) {ls : Array Slot} (hl : lv_has ls 7 [(0, .ref b), (1, .ref (ad 0)), (2, .ref (ad 83)), (3, .ref (ad 96)), (4, .int (iZ v4))]) (hM : Lw_case_4 N L xs v4 h k = some 1) : W p l e room_1 s m args below meth c H locs c0 s0 Q (F0 m 383 ls []) := by
  unfold Lw_case_4 at hM
  have hz0 : c0 ≤ room_1.cells := by show c0 ≤ 601024; omega
  have hz1 : s0 ≤ room_1.slots := by show s0 ≤ 7293034; omega
  have hz2 : c0 + 4 ≤ room_1.cells := hc0
  have hz3 : s0 + 24 ≤ room_1.slots := hs0
  refine m_aload_n C hl 1 d_law_383 rfl rfl ?_
  refine m_aload_n C hl 0 d_law_384 rfl rfl ?_
  refine m_iload C hl 4 d_law_385 rfl ?_
  refine m_iconst C d_law_387 ?_
  refine m_iadd C d_law_388 ?_
  refine m_sld C X w hM d_law_389 (fun x31 hM => ?_)
  refine m_aload_n C hl 0 d_law_390 rfl rfl ?_
  refine m_iload C hl 4 d_law_391 rfl ?_
  refine m_iconst C d_law_393 ?_
  refine m_iadd C d_law_394 ?_
  refine m_sld C X w hM d_law_395 (fun x32 hM => ?_)
  refine m_aload_n C hl 3 d_law_396 rfl rfl ?_
  obtain ⟨q33, e34, hM⟩ := bnd_some hM
  refine aftW (c1 := c0 + 4) (s1 := s0 + 24) C w (runSW (n := 4) C w.1 w.2 (c_Lw_year hI hst e34) lh_159 st_Lw_year in_Law cw_Lw_year ⟨by decide +kernel, by decide +kernel, by decide +kernel⟩ rfl ⟨(Nat.le_of_ble_eq_true rfl), (Nat.le_of_ble_eq_true rfl)⟩ ⟨by show c0 + 2 ≤ 601024; omega, by show s0 + 12 ≤ 7293034; omega⟩ (Nat.le_of_ble_eq_true rfl) d_law_397 hl.1 (rest := []) rfl) (by omega) (by omega) (fun H locs w => ?_)
  refine m_istore C hl [(5, .int (iZ q33.1)), (0, .ref b), (1, .ref (ad 0)), (2, .ref (ad 83)), (3, .ref (ad 96)), (4, .int (iZ v4))] d_law_400 (by decide) rfl (fun ls hl => ?_)
  refine m_aload_n C hl 3 d_law_402 rfl rfl ?_
  refine m_aload_n C hl 1 d_law_403 rfl rfl ?_
  refine m_iload C hl 5 d_law_404 rfl ?_
  refine m_iconst C d_law_406 ?_
  refine m_iadd C d_law_407 ?_
  refine m_sld C X w hM d_law_408 (fun x35 hM => ?_)
  refine m_aload_n C hl 1 d_law_409 rfl rfl ?_
  refine m_iload C hl 5 d_law_410 rfl ?_
  refine m_iconst C d_law_412 ?_
  refine m_iadd C d_law_413 ?_
  refine m_sld C X w hM d_law_414 (fun x36 hM => ?_)
  obtain ⟨q38, e37, hM⟩ := bnd_some hM
  refine aftI C w (runV C w.1 w.2 kc_Md sh_83 (Nat.le_of_ble_eq_true rfl) (c_Md_year hI e37) lk_Lw_162 mb_Md_year rfl ⟨Nat.le_of_ble_eq_true rfl, Nat.le_of_ble_eq_true rfl⟩ ⟨hz2, hz3⟩ (Nat.le_of_ble_eq_true rfl) d_law_415 hl.1 (rest := []) rfl) (fun H locs w => ?_)
  refine m_istore C hl [(6, .int (iZ q38.1)), (5, .int (iZ q33.1)), (0, .ref b), (1, .ref (ad 0)), (2, .ref (ad 83)), (3, .ref (ad 96)), (4, .int (iZ v4))] d_law_418 (by decide) rfl (fun ls hl => ?_)
  refine m_aload_n C hl 4 d_law_420 rfl rfl ?_
  obtain ⟨x40, e39, hM⟩ := bnd_some hM
  refine aftR (runV C w.1 w.2 kc_Md sh_83 (Nat.le_of_ble_eq_true rfl) (c_Md_thrown hI e39) lk_Lw_152 mb_Md_thrown rfl ⟨Nat.le_of_ble_eq_true rfl, Nat.le_of_ble_eq_true rfl⟩ ⟨hz2, hz3⟩ (Nat.le_of_ble_eq_true rfl) d_law_421 hl.1 (rest := []) rfl) ?_
  refine m_iload C hl 1 d_law_424 rfl ?_
  refine m_icmp_eq C hM 431 d_law_426 (by decide) (fun hM => ?_) (fun hM => ?_)
  · refine m_iload C hl 1 d_law_431 rfl ?_
    refine m_if_ne C hM 448 d_law_433 (by decide) (fun hM => ?_) (fun hM => ?_)
    · refine m_goto C 2814 d_law_448 (by decide) ?_
      exact kW q38.2 hM _ _ w _ (lv_sub hl [2, 3, 4, 5, 6] rfl)
    · refine m_aload_n C hl 5 d_law_436 rfl rfl ?_
      refine m_iconst C d_law_437 ?_
      refine m_lald C w d_law_438 ?_
      refine m_iload C hl 0 d_law_439 rfl ?_
      refine m_i2l C d_law_441 ?_
      refine m_lceq C hM 448 d_law_442 d_law_443 (by decide) (fun hM => ?_) (fun hM => ?_)
      · refine m_goto C 2814 d_law_448 (by decide) ?_
        exact kW q38.2 hM _ _ w _ (lv_sub hl [2, 3, 4, 5, 6] rfl)
      · refine m_iconst C d_law_446 ?_
        cases hM
  · refine m_iconst C d_law_429 ?_
    cases hM
set_option maxHeartbeats 4000000 in
set_option maxRecDepth 100000 in
theorem w_case_5 {p : Program} {l : Launch} {e : Env} {s : State} {m : MethodId} {args : Array Value} {below : List Frame} {meth : Method} {c : Code} {Q : State → Prop} {D : va_G} {ad : Nat → Nat} {cA : Nat → ClassId} {sd sv : Nat → Nat} {A : Nat → Prop} {b L : Nat} {xs : Nat → Int32} {N c0 s0 : Nat} {v4 : Int} (hI : Inj97 ad) (hst : l.stackTraces = false) (C : Cx p s m args c code 7 "FeastBookLaw" D ad cA sd sv A) (X : Sc s A b L xs) (hc0 : c0 + 4 ≤ 601024) (hs0 : s0 + 24 ≤ 7293034) {k : Hp → Option Int} (kW : ∀ h : Hp, k h = some 1 → ∀ (H : Heap) (locs : List Loc), Wd s D ad cA A h H locs → ∀ ls : Array Slot, lv_has ls 7 [(0, .ref b), (1, .ref (ad 0)), (2, .ref (ad 83)), (3, .ref (ad 96)), (4, .int (iZ v4))] → W p l e room_1 s m args below meth c H locs (c0 + 4) (s0 + 24) Q (F0 m 2814 ls [])) {h : Hp} {H : Heap} {locs : List Loc} (w : Wd s D ad cA A h H locs) {ls : Array Slot} (hl : lv_has ls 7 [(0, .ref b), (1, .ref (ad 0)), (2, .ref (ad 83)), (3, .ref (ad 96)), (4, .int (iZ v4))]) (hM : Lw_case_5 N L xs v4 h k = some 1) : W p l e room_1 s m args below meth c H locs c0 s0 Q (F0 m 451 ls []) := by
  unfold Lw_case_5 at hM
  have hz0 : c0 ≤ room_1.cells := by show c0 ≤ 601024; omega
  have hz1 : s0 ≤ room_1.slots := by show s0 ≤ 7293034; omega
  have hz2 : c0 + 4 ≤ room_1.cells := hc0
  have hz3 : s0 + 24 ≤ room_1.slots := hs0
  refine m_aload_n C hl 1 d_law_451 rfl rfl ?_
  refine m_aload_n C hl 0 d_law_452 rfl rfl ?_
  refine m_iload C hl 4 d_law_453 rfl ?_
  refine m_iconst C d_law_455 ?_
  refine m_iadd C d_law_456 ?_
  refine m_sld C X w hM d_law_457 (fun x41 hM => ?_)
  refine m_aload_n C hl 0 d_law_458 rfl rfl ?_
  refine m_iload C hl 4 d_law_459 rfl ?_
  refine m_iconst C d_law_461 ?_
  refine m_iadd C d_law_462 ?_
  refine m_sld C X w hM d_law_463 (fun x42 hM => ?_)
  refine m_aload_n C hl 0 d_law_464 rfl rfl ?_
  refine m_iload C hl 4 d_law_465 rfl ?_
  refine m_iconst C d_law_467 ?_
  refine m_iadd C d_law_468 ?_
  refine m_sld C X w hM d_law_469 (fun x43 hM => ?_)
  refine m_aload_n C hl 3 d_law_470 rfl rfl ?_
  obtain ⟨q44, e45, hM⟩ := bnd_some hM
  refine aftW (c1 := c0 + 4) (s1 := s0 + 24) C w (runSW (n := 5) C w.1 w.2 (c_Lw_day hI hst e45) lh_163 st_Lw_day in_Law cw_Lw_day ⟨by decide +kernel, by decide +kernel, by decide +kernel⟩ rfl ⟨(Nat.le_of_ble_eq_true rfl), (Nat.le_of_ble_eq_true rfl)⟩ ⟨by show c0 + 3 ≤ 601024; omega, by show s0 + 18 ≤ 7293034; omega⟩ (Nat.le_of_ble_eq_true rfl) d_law_471 hl.1 (rest := []) rfl) (by omega) (by omega) (fun H locs w => ?_)
  refine m_istore C hl [(5, .int (iZ q44.1)), (0, .ref b), (1, .ref (ad 0)), (2, .ref (ad 83)), (3, .ref (ad 96)), (4, .int (iZ v4))] d_law_474 (by decide) rfl (fun ls hl => ?_)
  refine m_aload_n C hl 3 d_law_476 rfl rfl ?_
  refine m_aload_n C hl 1 d_law_477 rfl rfl ?_
  refine m_iload C hl 5 d_law_478 rfl ?_
  refine m_iconst C d_law_480 ?_
  refine m_iadd C d_law_481 ?_
  refine m_sld C X w hM d_law_482 (fun x46 hM => ?_)
  refine m_aload_n C hl 1 d_law_483 rfl rfl ?_
  refine m_iload C hl 5 d_law_484 rfl ?_
  refine m_iconst C d_law_486 ?_
  refine m_iadd C d_law_487 ?_
  refine m_sld C X w hM d_law_488 (fun x47 hM => ?_)
  refine m_aload_n C hl 1 d_law_489 rfl rfl ?_
  refine m_iload C hl 5 d_law_490 rfl ?_
  refine m_iconst C d_law_492 ?_
  refine m_iadd C d_law_493 ?_
  refine m_sld C X w hM d_law_494 (fun x48 hM => ?_)
  obtain ⟨q50, e49, hM⟩ := bnd_some hM
  refine aftI C w (runV C w.1 w.2 kc_Md sh_83 (Nat.le_of_ble_eq_true rfl) (c_Md_day hI e49) lk_Lw_166 mb_Md_day rfl ⟨Nat.le_of_ble_eq_true rfl, Nat.le_of_ble_eq_true rfl⟩ ⟨hz2, hz3⟩ (Nat.le_of_ble_eq_true rfl) d_law_495 hl.1 (rest := []) rfl) (fun H locs w => ?_)
  refine m_istore C hl [(6, .int (iZ q50.1)), (5, .int (iZ q44.1)), (0, .ref b), (1, .ref (ad 0)), (2, .ref (ad 83)), (3, .ref (ad 96)), (4, .int (iZ v4))] d_law_498 (by decide) rfl (fun ls hl => ?_)
  refine m_aload_n C hl 4 d_law_500 rfl rfl ?_
  obtain ⟨x52, e51, hM⟩ := bnd_some hM
  refine aftR (runV C w.1 w.2 kc_Md sh_83 (Nat.le_of_ble_eq_true rfl) (c_Md_thrown hI e51) lk_Lw_152 mb_Md_thrown rfl ⟨Nat.le_of_ble_eq_true rfl, Nat.le_of_ble_eq_true rfl⟩ ⟨hz2, hz3⟩ (Nat.le_of_ble_eq_true rfl) d_law_501 hl.1 (rest := []) rfl) ?_
  refine m_iload C hl 1 d_law_504 rfl ?_
  refine m_icmp_eq C hM 511 d_law_506 (by decide) (fun hM => ?_) (fun hM => ?_)
  · refine m_iload C hl 1 d_law_511 rfl ?_
    refine m_if_ne C hM 528 d_law_513 (by decide) (fun hM => ?_) (fun hM => ?_)
    · refine m_goto C 2814 d_law_528 (by decide) ?_
      exact kW q50.2 hM _ _ w _ (lv_sub hl [2, 3, 4, 5, 6] rfl)
    · refine m_aload_n C hl 5 d_law_516 rfl rfl ?_
      refine m_iconst C d_law_517 ?_
      refine m_lald C w d_law_518 ?_
      refine m_iload C hl 0 d_law_519 rfl ?_
      refine m_i2l C d_law_521 ?_
      refine m_lceq C hM 528 d_law_522 d_law_523 (by decide) (fun hM => ?_) (fun hM => ?_)
      · refine m_goto C 2814 d_law_528 (by decide) ?_
        exact kW q50.2 hM _ _ w _ (lv_sub hl [2, 3, 4, 5, 6] rfl)
      · refine m_iconst C d_law_526 ?_
        cases hM
  · refine m_iconst C d_law_509 ?_
    cases hM
set_option maxHeartbeats 4000000 in
set_option maxRecDepth 100000 in
theorem w_case_6 {p : Program} {l : Launch} {e : Env} {s : State} {m : MethodId} {args : Array Value} {below : List Frame} {meth : Method} {c : Code} {Q : State → Prop} {D : va_G} {ad : Nat → Nat} {cA : Nat → ClassId} {sd sv : Nat → Nat} {A : Nat → Prop} {b L : Nat} {xs : Nat → Int32} {N c0 s0 : Nat} {v4 : Int} (hI : Inj97 ad) (hst : l.stackTraces = false) (C : Cx p s m args c code 7 "FeastBookLaw" D ad cA sd sv A) (X : Sc s A b L xs) (hc0 : c0 + 4 ≤ 601024) (hs0 : s0 + 24 ≤ 7293034) {k : Hp → Option Int} (kW : ∀ h : Hp, k h = some 1 → ∀ (H : Heap) (locs : List Loc), Wd s D ad cA A h H locs → ∀ ls : Array Slot, lv_has ls 7 [(0, .ref b), (1, .ref (ad 0)), (2, .ref (ad 83)), (3, .ref (ad 96)), (4, .int (iZ v4))] → W p l e room_1 s m args below meth c H locs (c0 + 4) (s0 + 24) Q (F0 m 2814 ls [])) {h : Hp} {H : Heap} {locs : List Loc} (w : Wd s D ad cA A h H locs) {ls : Array Slot} (hl : lv_has ls 7 [(0, .ref b), (1, .ref (ad 0)), (2, .ref (ad 83)), (3, .ref (ad 96)), (4, .int (iZ v4))]) (hM : Lw_case_6 N L xs v4 h k = some 1) : W p l e room_1 s m args below meth c H locs c0 s0 Q (F0 m 531 ls []) := by
  unfold Lw_case_6 at hM
  have hz0 : c0 ≤ room_1.cells := by show c0 ≤ 601024; omega
  have hz1 : s0 ≤ room_1.slots := by show s0 ≤ 7293034; omega
  have hz2 : c0 + 4 ≤ room_1.cells := hc0
  have hz3 : s0 + 24 ≤ room_1.slots := hs0
  refine m_aload_n C hl 1 d_law_531 rfl rfl ?_
  refine m_aload_n C hl 0 d_law_532 rfl rfl ?_
  refine m_iload C hl 4 d_law_533 rfl ?_
  refine m_iconst C d_law_535 ?_
  refine m_iadd C d_law_536 ?_
  refine m_sld C X w hM d_law_537 (fun x53 hM => ?_)
  refine m_aload_n C hl 0 d_law_538 rfl rfl ?_
  refine m_iload C hl 4 d_law_539 rfl ?_
  refine m_iconst C d_law_541 ?_
  refine m_iadd C d_law_542 ?_
  refine m_sld C X w hM d_law_543 (fun x54 hM => ?_)
  refine m_aload_n C hl 0 d_law_544 rfl rfl ?_
  refine m_iload C hl 4 d_law_545 rfl ?_
  refine m_iconst C d_law_547 ?_
  refine m_iadd C d_law_548 ?_
  refine m_sld C X w hM d_law_549 (fun x55 hM => ?_)
  refine m_aload_n C hl 3 d_law_550 rfl rfl ?_
  obtain ⟨q56, e57, hM⟩ := bnd_some hM
  refine aftW (c1 := c0 + 4) (s1 := s0 + 24) C w (runSW (n := 5) C w.1 w.2 (c_Lw_office hI hst e57) lh_167 st_Lw_office in_Law cw_Lw_office ⟨by decide +kernel, by decide +kernel, by decide +kernel⟩ rfl ⟨(Nat.le_of_ble_eq_true rfl), (Nat.le_of_ble_eq_true rfl)⟩ ⟨by show c0 + 3 ≤ 601024; omega, by show s0 + 18 ≤ 7293034; omega⟩ (Nat.le_of_ble_eq_true rfl) d_law_551 hl.1 (rest := []) rfl) (by omega) (by omega) (fun H locs w => ?_)
  refine m_istore C hl [(5, .int (iZ q56.1)), (0, .ref b), (1, .ref (ad 0)), (2, .ref (ad 83)), (3, .ref (ad 96)), (4, .int (iZ v4))] d_law_554 (by decide) rfl (fun ls hl => ?_)
  refine m_aload_n C hl 3 d_law_556 rfl rfl ?_
  refine m_aload_n C hl 1 d_law_557 rfl rfl ?_
  refine m_iload C hl 5 d_law_558 rfl ?_
  refine m_iconst C d_law_560 ?_
  refine m_iadd C d_law_561 ?_
  refine m_sld C X w hM d_law_562 (fun x58 hM => ?_)
  refine m_aload_n C hl 1 d_law_563 rfl rfl ?_
  refine m_iload C hl 5 d_law_564 rfl ?_
  refine m_iconst C d_law_566 ?_
  refine m_iadd C d_law_567 ?_
  refine m_sld C X w hM d_law_568 (fun x59 hM => ?_)
  refine m_aload_n C hl 1 d_law_569 rfl rfl ?_
  refine m_iload C hl 5 d_law_570 rfl ?_
  refine m_iconst C d_law_572 ?_
  refine m_iadd C d_law_573 ?_
  refine m_sld C X w hM d_law_574 (fun x60 hM => ?_)
  obtain ⟨q62, e61, hM⟩ := bnd_some hM
  refine aftI C w (runV C w.1 w.2 kc_Md sh_83 (Nat.le_of_ble_eq_true rfl) (c_Md_office hI e61) lk_Lw_169 mb_Md_office rfl ⟨Nat.le_of_ble_eq_true rfl, Nat.le_of_ble_eq_true rfl⟩ ⟨hz2, hz3⟩ (Nat.le_of_ble_eq_true rfl) d_law_575 hl.1 (rest := []) rfl) (fun H locs w => ?_)
  refine m_istore C hl [(6, .int (iZ q62.1)), (5, .int (iZ q56.1)), (0, .ref b), (1, .ref (ad 0)), (2, .ref (ad 83)), (3, .ref (ad 96)), (4, .int (iZ v4))] d_law_578 (by decide) rfl (fun ls hl => ?_)
  refine m_aload_n C hl 4 d_law_580 rfl rfl ?_
  obtain ⟨x64, e63, hM⟩ := bnd_some hM
  refine aftR (runV C w.1 w.2 kc_Md sh_83 (Nat.le_of_ble_eq_true rfl) (c_Md_thrown hI e63) lk_Lw_152 mb_Md_thrown rfl ⟨Nat.le_of_ble_eq_true rfl, Nat.le_of_ble_eq_true rfl⟩ ⟨hz2, hz3⟩ (Nat.le_of_ble_eq_true rfl) d_law_581 hl.1 (rest := []) rfl) ?_
  refine m_iload C hl 1 d_law_584 rfl ?_
  refine m_icmp_eq C hM 591 d_law_586 (by decide) (fun hM => ?_) (fun hM => ?_)
  · refine m_iload C hl 1 d_law_591 rfl ?_
    refine m_if_ne C hM 608 d_law_593 (by decide) (fun hM => ?_) (fun hM => ?_)
    · refine m_goto C 2814 d_law_608 (by decide) ?_
      exact kW q62.2 hM _ _ w _ (lv_sub hl [2, 3, 4, 5, 6] rfl)
    · refine m_aload_n C hl 5 d_law_596 rfl rfl ?_
      refine m_iconst C d_law_597 ?_
      refine m_lald C w d_law_598 ?_
      refine m_iload C hl 0 d_law_599 rfl ?_
      refine m_i2l C d_law_601 ?_
      refine m_lceq C hM 608 d_law_602 d_law_603 (by decide) (fun hM => ?_) (fun hM => ?_)
      · refine m_goto C 2814 d_law_608 (by decide) ?_
        exact kW q62.2 hM _ _ w _ (lv_sub hl [2, 3, 4, 5, 6] rfl)
      · refine m_iconst C d_law_606 ?_
        cases hM
  · refine m_iconst C d_law_589 ?_
    cases hM
set_option maxHeartbeats 4000000 in
set_option maxRecDepth 100000 in
theorem w_case_7 {p : Program} {l : Launch} {e : Env} {s : State} {m : MethodId} {args : Array Value} {below : List Frame} {meth : Method} {c : Code} {Q : State → Prop} {D : va_G} {ad : Nat → Nat} {cA : Nat → ClassId} {sd sv : Nat → Nat} {A : Nat → Prop} {b L : Nat} {xs : Nat → Int32} {N c0 s0 : Nat} {v4 : Int} (hI : Inj97 ad) (hst : l.stackTraces = false) (C : Cx p s m args c code 7 "FeastBookLaw" D ad cA sd sv A) (X : Sc s A b L xs) (hc0 : c0 + 4 ≤ 601024) (hs0 : s0 + 24 ≤ 7293034) {k : Hp → Option Int} (kW : ∀ h : Hp, k h = some 1 → ∀ (H : Heap) (locs : List Loc), Wd s D ad cA A h H locs → ∀ ls : Array Slot, lv_has ls 7 [(0, .ref b), (1, .ref (ad 0)), (2, .ref (ad 83)), (3, .ref (ad 96)), (4, .int (iZ v4))] → W p l e room_1 s m args below meth c H locs (c0 + 4) (s0 + 24) Q (F0 m 2814 ls [])) {h : Hp} {H : Heap} {locs : List Loc} (w : Wd s D ad cA A h H locs) {ls : Array Slot} (hl : lv_has ls 7 [(0, .ref b), (1, .ref (ad 0)), (2, .ref (ad 83)), (3, .ref (ad 96)), (4, .int (iZ v4))]) (hM : Lw_case_7 N L xs v4 h k = some 1) : W p l e room_1 s m args below meth c H locs c0 s0 Q (F0 m 611 ls []) := by
  unfold Lw_case_7 at hM
  have hz0 : c0 ≤ room_1.cells := by show c0 ≤ 601024; omega
  have hz1 : s0 ≤ room_1.slots := by show s0 ≤ 7293034; omega
  have hz2 : c0 + 4 ≤ room_1.cells := hc0
  have hz3 : s0 + 24 ≤ room_1.slots := hs0
  refine m_aload_n C hl 1 d_law_611 rfl rfl ?_
  refine m_aload_n C hl 0 d_law_612 rfl rfl ?_
  refine m_iload C hl 4 d_law_613 rfl ?_
  refine m_iconst C d_law_615 ?_
  refine m_iadd C d_law_616 ?_
  refine m_sld C X w hM d_law_617 (fun x65 hM => ?_)
  refine m_aload_n C hl 0 d_law_618 rfl rfl ?_
  refine m_iload C hl 4 d_law_619 rfl ?_
  refine m_iconst C d_law_621 ?_
  refine m_iadd C d_law_622 ?_
  refine m_sld C X w hM d_law_623 (fun x66 hM => ?_)
  refine m_aload_n C hl 0 d_law_624 rfl rfl ?_
  refine m_iload C hl 4 d_law_625 rfl ?_
  refine m_iconst C d_law_627 ?_
  refine m_iadd C d_law_628 ?_
  refine m_sld C X w hM d_law_629 (fun x67 hM => ?_)
  refine m_aload_n C hl 3 d_law_630 rfl rfl ?_
  obtain ⟨q68, e69, hM⟩ := bnd_some hM
  refine aftW (c1 := c0 + 4) (s1 := s0 + 24) C w (runSW (n := 5) C w.1 w.2 (c_Lw_base hI hst e69) lh_170 st_Lw_base in_Law cw_Lw_base ⟨by decide +kernel, by decide +kernel, by decide +kernel⟩ rfl ⟨(Nat.le_of_ble_eq_true rfl), (Nat.le_of_ble_eq_true rfl)⟩ ⟨by show c0 + 3 ≤ 601024; omega, by show s0 + 18 ≤ 7293034; omega⟩ (Nat.le_of_ble_eq_true rfl) d_law_631 hl.1 (rest := []) rfl) (by omega) (by omega) (fun H locs w => ?_)
  refine m_istore C hl [(5, .int (iZ q68.1)), (0, .ref b), (1, .ref (ad 0)), (2, .ref (ad 83)), (3, .ref (ad 96)), (4, .int (iZ v4))] d_law_634 (by decide) rfl (fun ls hl => ?_)
  refine m_aload_n C hl 3 d_law_636 rfl rfl ?_
  refine m_aload_n C hl 1 d_law_637 rfl rfl ?_
  refine m_iload C hl 5 d_law_638 rfl ?_
  refine m_iconst C d_law_640 ?_
  refine m_iadd C d_law_641 ?_
  refine m_sld C X w hM d_law_642 (fun x70 hM => ?_)
  refine m_aload_n C hl 1 d_law_643 rfl rfl ?_
  refine m_iload C hl 5 d_law_644 rfl ?_
  refine m_iconst C d_law_646 ?_
  refine m_iadd C d_law_647 ?_
  refine m_sld C X w hM d_law_648 (fun x71 hM => ?_)
  refine m_aload_n C hl 1 d_law_649 rfl rfl ?_
  refine m_iload C hl 5 d_law_650 rfl ?_
  refine m_iconst C d_law_652 ?_
  refine m_iadd C d_law_653 ?_
  refine m_sld C X w hM d_law_654 (fun x72 hM => ?_)
  obtain ⟨q74, e73, hM⟩ := bnd_some hM
  refine aftI C w (runV C w.1 w.2 kc_Md sh_83 (Nat.le_of_ble_eq_true rfl) (c_Md_base hI e73) lk_Lw_172 mb_Md_base rfl ⟨Nat.le_of_ble_eq_true rfl, Nat.le_of_ble_eq_true rfl⟩ ⟨hz2, hz3⟩ (Nat.le_of_ble_eq_true rfl) d_law_655 hl.1 (rest := []) rfl) (fun H locs w => ?_)
  refine m_istore C hl [(6, .int (iZ q74.1)), (5, .int (iZ q68.1)), (0, .ref b), (1, .ref (ad 0)), (2, .ref (ad 83)), (3, .ref (ad 96)), (4, .int (iZ v4))] d_law_658 (by decide) rfl (fun ls hl => ?_)
  refine m_aload_n C hl 4 d_law_660 rfl rfl ?_
  obtain ⟨x76, e75, hM⟩ := bnd_some hM
  refine aftR (runV C w.1 w.2 kc_Md sh_83 (Nat.le_of_ble_eq_true rfl) (c_Md_thrown hI e75) lk_Lw_152 mb_Md_thrown rfl ⟨Nat.le_of_ble_eq_true rfl, Nat.le_of_ble_eq_true rfl⟩ ⟨hz2, hz3⟩ (Nat.le_of_ble_eq_true rfl) d_law_661 hl.1 (rest := []) rfl) ?_
  refine m_iload C hl 1 d_law_664 rfl ?_
  refine m_icmp_eq C hM 671 d_law_666 (by decide) (fun hM => ?_) (fun hM => ?_)
  · refine m_iload C hl 1 d_law_671 rfl ?_
    refine m_if_ne C hM 688 d_law_673 (by decide) (fun hM => ?_) (fun hM => ?_)
    · refine m_goto C 2814 d_law_688 (by decide) ?_
      exact kW q74.2 hM _ _ w _ (lv_sub hl [2, 3, 4, 5, 6] rfl)
    · refine m_aload_n C hl 5 d_law_676 rfl rfl ?_
      refine m_iconst C d_law_677 ?_
      refine m_lald C w d_law_678 ?_
      refine m_iload C hl 0 d_law_679 rfl ?_
      refine m_i2l C d_law_681 ?_
      refine m_lceq C hM 688 d_law_682 d_law_683 (by decide) (fun hM => ?_) (fun hM => ?_)
      · refine m_goto C 2814 d_law_688 (by decide) ?_
        exact kW q74.2 hM _ _ w _ (lv_sub hl [2, 3, 4, 5, 6] rfl)
      · refine m_iconst C d_law_686 ?_
        cases hM
  · refine m_iconst C d_law_669 ?_
    cases hM
set_option maxHeartbeats 4000000 in
set_option maxRecDepth 100000 in
theorem w_case_8 {p : Program} {l : Launch} {e : Env} {s : State} {m : MethodId} {args : Array Value} {below : List Frame} {meth : Method} {c : Code} {Q : State → Prop} {D : va_G} {ad : Nat → Nat} {cA : Nat → ClassId} {sd sv : Nat → Nat} {A : Nat → Prop} {b L : Nat} {xs : Nat → Int32} {N c0 s0 : Nat} {v4 : Int} (hI : Inj97 ad) (hst : l.stackTraces = false) (C : Cx p s m args c code 7 "FeastBookLaw" D ad cA sd sv A) (X : Sc s A b L xs) (hc0 : c0 + 4 ≤ 601024) (hs0 : s0 + 24 ≤ 7293034) {k : Hp → Option Int} (kW : ∀ h : Hp, k h = some 1 → ∀ (H : Heap) (locs : List Loc), Wd s D ad cA A h H locs → ∀ ls : Array Slot, lv_has ls 7 [(0, .ref b), (1, .ref (ad 0)), (2, .ref (ad 83)), (3, .ref (ad 96)), (4, .int (iZ v4))] → W p l e room_1 s m args below meth c H locs (c0 + 4) (s0 + 24) Q (F0 m 2814 ls [])) {h : Hp} {H : Heap} {locs : List Loc} (w : Wd s D ad cA A h H locs) {ls : Array Slot} (hl : lv_has ls 7 [(0, .ref b), (1, .ref (ad 0)), (2, .ref (ad 83)), (3, .ref (ad 96)), (4, .int (iZ v4))]) (hM : Lw_case_8 N L xs v4 h k = some 1) : W p l e room_1 s m args below meth c H locs c0 s0 Q (F0 m 691 ls []) := by
  unfold Lw_case_8 at hM
  have hz0 : c0 ≤ room_1.cells := by show c0 ≤ 601024; omega
  have hz1 : s0 ≤ room_1.slots := by show s0 ≤ 7293034; omega
  have hz2 : c0 + 4 ≤ room_1.cells := hc0
  have hz3 : s0 + 24 ≤ room_1.slots := hs0
  refine m_aload_n C hl 1 d_law_691 rfl rfl ?_
  refine m_aload_n C hl 0 d_law_692 rfl rfl ?_
  refine m_iload C hl 4 d_law_693 rfl ?_
  refine m_iconst C d_law_695 ?_
  refine m_iadd C d_law_696 ?_
  refine m_sld C X w hM d_law_697 (fun x77 hM => ?_)
  refine m_aload_n C hl 0 d_law_698 rfl rfl ?_
  refine m_iload C hl 4 d_law_699 rfl ?_
  refine m_iconst C d_law_701 ?_
  refine m_iadd C d_law_702 ?_
  refine m_sld C X w hM d_law_703 (fun x78 hM => ?_)
  refine m_aload_n C hl 3 d_law_704 rfl rfl ?_
  obtain ⟨q79, e80, hM⟩ := bnd_some hM
  refine aftW (c1 := c0 + 4) (s1 := s0 + 24) C w (runSW (n := 4) C w.1 w.2 (c_Lw_fast hI hst e80) lh_173 st_Lw_fast in_Law cw_Lw_fast ⟨by decide +kernel, by decide +kernel, by decide +kernel⟩ rfl ⟨(Nat.le_of_ble_eq_true rfl), (Nat.le_of_ble_eq_true rfl)⟩ ⟨by show c0 + 2 ≤ 601024; omega, by show s0 + 12 ≤ 7293034; omega⟩ (Nat.le_of_ble_eq_true rfl) d_law_705 hl.1 (rest := []) rfl) (by omega) (by omega) (fun H locs w => ?_)
  refine m_istore C hl [(5, .int (iZ q79.1)), (0, .ref b), (1, .ref (ad 0)), (2, .ref (ad 83)), (3, .ref (ad 96)), (4, .int (iZ v4))] d_law_708 (by decide) rfl (fun ls hl => ?_)
  refine m_aload_n C hl 3 d_law_710 rfl rfl ?_
  refine m_aload_n C hl 1 d_law_711 rfl rfl ?_
  refine m_iload C hl 5 d_law_712 rfl ?_
  refine m_iconst C d_law_714 ?_
  refine m_iadd C d_law_715 ?_
  refine m_sld C X w hM d_law_716 (fun x81 hM => ?_)
  refine m_aload_n C hl 1 d_law_717 rfl rfl ?_
  refine m_iload C hl 5 d_law_718 rfl ?_
  refine m_iconst C d_law_720 ?_
  refine m_iadd C d_law_721 ?_
  refine m_sld C X w hM d_law_722 (fun x82 hM => ?_)
  obtain ⟨q84, e83, hM⟩ := bnd_some hM
  refine aftI C w (runV C w.1 w.2 kc_Md sh_83 (Nat.le_of_ble_eq_true rfl) (c_Md_fast hI e83) lk_Lw_175 mb_Md_fast rfl ⟨Nat.le_of_ble_eq_true rfl, Nat.le_of_ble_eq_true rfl⟩ ⟨hz2, hz3⟩ (Nat.le_of_ble_eq_true rfl) d_law_723 hl.1 (rest := []) rfl) (fun H locs w => ?_)
  refine m_istore C hl [(6, .int (iZ q84.1)), (5, .int (iZ q79.1)), (0, .ref b), (1, .ref (ad 0)), (2, .ref (ad 83)), (3, .ref (ad 96)), (4, .int (iZ v4))] d_law_726 (by decide) rfl (fun ls hl => ?_)
  refine m_aload_n C hl 4 d_law_728 rfl rfl ?_
  obtain ⟨x86, e85, hM⟩ := bnd_some hM
  refine aftR (runV C w.1 w.2 kc_Md sh_83 (Nat.le_of_ble_eq_true rfl) (c_Md_thrown hI e85) lk_Lw_152 mb_Md_thrown rfl ⟨Nat.le_of_ble_eq_true rfl, Nat.le_of_ble_eq_true rfl⟩ ⟨hz2, hz3⟩ (Nat.le_of_ble_eq_true rfl) d_law_729 hl.1 (rest := []) rfl) ?_
  refine m_iload C hl 1 d_law_732 rfl ?_
  refine m_icmp_eq C hM 739 d_law_734 (by decide) (fun hM => ?_) (fun hM => ?_)
  · refine m_iload C hl 1 d_law_739 rfl ?_
    refine m_if_ne C hM 763 d_law_741 (by decide) (fun hM => ?_) (fun hM => ?_)
    · refine m_goto C 2814 d_law_763 (by decide) ?_
      exact kW q84.2 hM _ _ w _ (lv_sub hl [2, 3, 4, 5, 6] rfl)
    · refine m_aload_n C hl 5 d_law_744 rfl rfl ?_
      refine m_iconst C d_law_745 ?_
      refine m_lald C w d_law_746 ?_
      refine m_iload C hl 0 d_law_747 rfl ?_
      refine m_bl01 C d_law_749 d_law_752 d_law_753 d_law_756 ?_
      refine m_lceq C hM 763 d_law_757 d_law_758 (by decide) (fun hM => ?_) (fun hM => ?_)
      · refine m_goto C 2814 d_law_763 (by decide) ?_
        exact kW q84.2 hM _ _ w _ (lv_sub hl [2, 3, 4, 5, 6] rfl)
      · refine m_iconst C d_law_761 ?_
        cases hM
  · refine m_iconst C d_law_737 ?_
    cases hM
set_option maxHeartbeats 4000000 in
set_option maxRecDepth 100000 in
theorem w_case_9 {p : Program} {l : Launch} {e : Env} {s : State} {m : MethodId} {args : Array Value} {below : List Frame} {meth : Method} {c : Code} {Q : State → Prop} {D : va_G} {ad : Nat → Nat} {cA : Nat → ClassId} {sd sv : Nat → Nat} {A : Nat → Prop} {b L : Nat} {xs : Nat → Int32} {N c0 s0 : Nat} {v4 : Int} (hI : Inj97 ad) (hst : l.stackTraces = false) (C : Cx p s m args c code 7 "FeastBookLaw" D ad cA sd sv A) (X : Sc s A b L xs) (hc0 : c0 + 4 ≤ 601024) (hs0 : s0 + 24 ≤ 7293034) {k : Hp → Option Int} (kW : ∀ h : Hp, k h = some 1 → ∀ (H : Heap) (locs : List Loc), Wd s D ad cA A h H locs → ∀ ls : Array Slot, lv_has ls 7 [(0, .ref b), (1, .ref (ad 0)), (2, .ref (ad 83)), (3, .ref (ad 96)), (4, .int (iZ v4))] → W p l e room_1 s m args below meth c H locs (c0 + 4) (s0 + 24) Q (F0 m 2814 ls [])) {h : Hp} {H : Heap} {locs : List Loc} (w : Wd s D ad cA A h H locs) {ls : Array Slot} (hl : lv_has ls 7 [(0, .ref b), (1, .ref (ad 0)), (2, .ref (ad 83)), (3, .ref (ad 96)), (4, .int (iZ v4))]) (hM : Lw_case_9 N L xs v4 h k = some 1) : W p l e room_1 s m args below meth c H locs c0 s0 Q (F0 m 766 ls []) := by
  unfold Lw_case_9 at hM
  have hz0 : c0 ≤ room_1.cells := by show c0 ≤ 601024; omega
  have hz1 : s0 ≤ room_1.slots := by show s0 ≤ 7293034; omega
  have hz2 : c0 + 4 ≤ room_1.cells := hc0
  have hz3 : s0 + 24 ≤ room_1.slots := hs0
  refine m_aload_n C hl 1 d_law_766 rfl rfl ?_
  refine m_aload_n C hl 0 d_law_767 rfl rfl ?_
  refine m_iload C hl 4 d_law_768 rfl ?_
  refine m_iconst C d_law_770 ?_
  refine m_iadd C d_law_771 ?_
  refine m_sld C X w hM d_law_772 (fun x87 hM => ?_)
  refine m_aload_n C hl 0 d_law_773 rfl rfl ?_
  refine m_iload C hl 4 d_law_774 rfl ?_
  refine m_iconst C d_law_776 ?_
  refine m_iadd C d_law_777 ?_
  refine m_sld C X w hM d_law_778 (fun x88 hM => ?_)
  refine m_aload_n C hl 3 d_law_779 rfl rfl ?_
  obtain ⟨q89, e90, hM⟩ := bnd_some hM
  refine aftW (c1 := c0 + 4) (s1 := s0 + 24) C w (runSW (n := 4) C w.1 w.2 (c_Lw_lesson hI hst e90) lh_176 st_Lw_lesson in_Law cw_Lw_lesson ⟨by decide +kernel, by decide +kernel, by decide +kernel⟩ rfl ⟨(Nat.le_of_ble_eq_true rfl), (Nat.le_of_ble_eq_true rfl)⟩ ⟨by show c0 + 2 ≤ 601024; omega, by show s0 + 12 ≤ 7293034; omega⟩ (Nat.le_of_ble_eq_true rfl) d_law_780 hl.1 (rest := []) rfl) (by omega) (by omega) (fun H locs w => ?_)
  refine m_istore C hl [(5, .int (iZ q89.1)), (0, .ref b), (1, .ref (ad 0)), (2, .ref (ad 83)), (3, .ref (ad 96)), (4, .int (iZ v4))] d_law_783 (by decide) rfl (fun ls hl => ?_)
  refine m_aload_n C hl 3 d_law_785 rfl rfl ?_
  refine m_aload_n C hl 1 d_law_786 rfl rfl ?_
  refine m_iload C hl 5 d_law_787 rfl ?_
  refine m_iconst C d_law_789 ?_
  refine m_iadd C d_law_790 ?_
  refine m_sld C X w hM d_law_791 (fun x91 hM => ?_)
  refine m_aload_n C hl 1 d_law_792 rfl rfl ?_
  refine m_iload C hl 5 d_law_793 rfl ?_
  refine m_iconst C d_law_795 ?_
  refine m_iadd C d_law_796 ?_
  refine m_sld C X w hM d_law_797 (fun x92 hM => ?_)
  obtain ⟨q94, e93, hM⟩ := bnd_some hM
  refine aftI C w (runV C w.1 w.2 kc_Md sh_83 (Nat.le_of_ble_eq_true rfl) (c_Md_lesson hI e93) lk_Lw_178 mb_Md_lesson rfl ⟨Nat.le_of_ble_eq_true rfl, Nat.le_of_ble_eq_true rfl⟩ ⟨hz2, hz3⟩ (Nat.le_of_ble_eq_true rfl) d_law_798 hl.1 (rest := []) rfl) (fun H locs w => ?_)
  refine m_istore C hl [(6, .int (iZ q94.1)), (5, .int (iZ q89.1)), (0, .ref b), (1, .ref (ad 0)), (2, .ref (ad 83)), (3, .ref (ad 96)), (4, .int (iZ v4))] d_law_801 (by decide) rfl (fun ls hl => ?_)
  refine m_aload_n C hl 4 d_law_803 rfl rfl ?_
  obtain ⟨x96, e95, hM⟩ := bnd_some hM
  refine aftR (runV C w.1 w.2 kc_Md sh_83 (Nat.le_of_ble_eq_true rfl) (c_Md_thrown hI e95) lk_Lw_152 mb_Md_thrown rfl ⟨Nat.le_of_ble_eq_true rfl, Nat.le_of_ble_eq_true rfl⟩ ⟨hz2, hz3⟩ (Nat.le_of_ble_eq_true rfl) d_law_804 hl.1 (rest := []) rfl) ?_
  refine m_iload C hl 1 d_law_807 rfl ?_
  refine m_icmp_eq C hM 814 d_law_809 (by decide) (fun hM => ?_) (fun hM => ?_)
  · refine m_iload C hl 1 d_law_814 rfl ?_
    refine m_if_ne C hM 831 d_law_816 (by decide) (fun hM => ?_) (fun hM => ?_)
    · refine m_goto C 2814 d_law_831 (by decide) ?_
      exact kW q94.2 hM _ _ w _ (lv_sub hl [2, 3, 4, 5, 6] rfl)
    · refine m_aload_n C hl 5 d_law_819 rfl rfl ?_
      refine m_iconst C d_law_820 ?_
      refine m_lald C w d_law_821 ?_
      refine m_iload C hl 0 d_law_822 rfl ?_
      refine m_i2l C d_law_824 ?_
      refine m_lceq C hM 831 d_law_825 d_law_826 (by decide) (fun hM => ?_) (fun hM => ?_)
      · refine m_goto C 2814 d_law_831 (by decide) ?_
        exact kW q94.2 hM _ _ w _ (lv_sub hl [2, 3, 4, 5, 6] rfl)
      · refine m_iconst C d_law_829 ?_
        cases hM
  · refine m_iconst C d_law_812 ?_
    cases hM
set_option maxHeartbeats 4000000 in
set_option maxRecDepth 100000 in
theorem w_case_10 {p : Program} {l : Launch} {e : Env} {s : State} {m : MethodId} {args : Array Value} {below : List Frame} {meth : Method} {c : Code} {Q : State → Prop} {D : va_G} {ad : Nat → Nat} {cA : Nat → ClassId} {sd sv : Nat → Nat} {A : Nat → Prop} {b L : Nat} {xs : Nat → Int32} {N c0 s0 : Nat} {v4 : Int} (hI : Inj97 ad) (hst : l.stackTraces = false) (C : Cx p s m args c code 7 "FeastBookLaw" D ad cA sd sv A) (X : Sc s A b L xs) (hc0 : c0 + 4 ≤ 601024) (hs0 : s0 + 24 ≤ 7293034) {k : Hp → Option Int} (kW : ∀ h : Hp, k h = some 1 → ∀ (H : Heap) (locs : List Loc), Wd s D ad cA A h H locs → ∀ ls : Array Slot, lv_has ls 7 [(0, .ref b), (1, .ref (ad 0)), (2, .ref (ad 83)), (3, .ref (ad 96)), (4, .int (iZ v4))] → W p l e room_1 s m args below meth c H locs (c0 + 4) (s0 + 24) Q (F0 m 2814 ls [])) {h : Hp} {H : Heap} {locs : List Loc} (w : Wd s D ad cA A h H locs) {ls : Array Slot} (hl : lv_has ls 7 [(0, .ref b), (1, .ref (ad 0)), (2, .ref (ad 83)), (3, .ref (ad 96)), (4, .int (iZ v4))]) (hM : Lw_case_10 N L xs v4 h k = some 1) : W p l e room_1 s m args below meth c H locs c0 s0 Q (F0 m 834 ls []) := by
  unfold Lw_case_10 at hM
  have hz0 : c0 ≤ room_1.cells := by show c0 ≤ 601024; omega
  have hz1 : s0 ≤ room_1.slots := by show s0 ≤ 7293034; omega
  have hz2 : c0 + 4 ≤ room_1.cells := hc0
  have hz3 : s0 + 24 ≤ room_1.slots := hs0
  refine m_aload_n C hl 1 d_law_834 rfl rfl ?_
  refine m_aload_n C hl 0 d_law_835 rfl rfl ?_
  refine m_iload C hl 4 d_law_836 rfl ?_
  refine m_iconst C d_law_838 ?_
  refine m_iadd C d_law_839 ?_
  refine m_sld C X w hM d_law_840 (fun x97 hM => ?_)
  refine m_aload_n C hl 0 d_law_841 rfl rfl ?_
  refine m_iload C hl 4 d_law_842 rfl ?_
  refine m_iconst C d_law_844 ?_
  refine m_iadd C d_law_845 ?_
  refine m_sld C X w hM d_law_846 (fun x98 hM => ?_)
  refine m_aload_n C hl 3 d_law_847 rfl rfl ?_
  obtain ⟨q99, e100, hM⟩ := bnd_some hM
  refine aftW (c1 := c0 + 4) (s1 := s0 + 24) C w (runSW (n := 4) C w.1 w.2 (c_Lw_joined hI hst e100) lh_179 st_Lw_joined in_Law cw_Lw_joined ⟨by decide +kernel, by decide +kernel, by decide +kernel⟩ rfl ⟨(Nat.le_of_ble_eq_true rfl), (Nat.le_of_ble_eq_true rfl)⟩ ⟨by show c0 + 2 ≤ 601024; omega, by show s0 + 12 ≤ 7293034; omega⟩ (Nat.le_of_ble_eq_true rfl) d_law_848 hl.1 (rest := []) rfl) (by omega) (by omega) (fun H locs w => ?_)
  refine m_istore C hl [(5, .int (iZ q99.1)), (0, .ref b), (1, .ref (ad 0)), (2, .ref (ad 83)), (3, .ref (ad 96)), (4, .int (iZ v4))] d_law_851 (by decide) rfl (fun ls hl => ?_)
  refine m_aload_n C hl 3 d_law_853 rfl rfl ?_
  refine m_aload_n C hl 1 d_law_854 rfl rfl ?_
  refine m_iload C hl 5 d_law_855 rfl ?_
  refine m_iconst C d_law_857 ?_
  refine m_iadd C d_law_858 ?_
  refine m_sld C X w hM d_law_859 (fun x101 hM => ?_)
  refine m_aload_n C hl 1 d_law_860 rfl rfl ?_
  refine m_iload C hl 5 d_law_861 rfl ?_
  refine m_iconst C d_law_863 ?_
  refine m_iadd C d_law_864 ?_
  refine m_sld C X w hM d_law_865 (fun x102 hM => ?_)
  obtain ⟨q104, e103, hM⟩ := bnd_some hM
  refine aftI C w (runV C w.1 w.2 kc_Md sh_83 (Nat.le_of_ble_eq_true rfl) (c_Md_joined hI e103) lk_Lw_181 mb_Md_joined rfl ⟨Nat.le_of_ble_eq_true rfl, Nat.le_of_ble_eq_true rfl⟩ ⟨hz2, hz3⟩ (Nat.le_of_ble_eq_true rfl) d_law_866 hl.1 (rest := []) rfl) (fun H locs w => ?_)
  refine m_istore C hl [(6, .int (iZ q104.1)), (5, .int (iZ q99.1)), (0, .ref b), (1, .ref (ad 0)), (2, .ref (ad 83)), (3, .ref (ad 96)), (4, .int (iZ v4))] d_law_869 (by decide) rfl (fun ls hl => ?_)
  refine m_aload_n C hl 4 d_law_871 rfl rfl ?_
  obtain ⟨x106, e105, hM⟩ := bnd_some hM
  refine aftR (runV C w.1 w.2 kc_Md sh_83 (Nat.le_of_ble_eq_true rfl) (c_Md_thrown hI e105) lk_Lw_152 mb_Md_thrown rfl ⟨Nat.le_of_ble_eq_true rfl, Nat.le_of_ble_eq_true rfl⟩ ⟨hz2, hz3⟩ (Nat.le_of_ble_eq_true rfl) d_law_872 hl.1 (rest := []) rfl) ?_
  refine m_iload C hl 1 d_law_875 rfl ?_
  refine m_icmp_eq C hM 882 d_law_877 (by decide) (fun hM => ?_) (fun hM => ?_)
  · refine m_iload C hl 1 d_law_882 rfl ?_
    refine m_if_ne C hM 899 d_law_884 (by decide) (fun hM => ?_) (fun hM => ?_)
    · refine m_goto C 2814 d_law_899 (by decide) ?_
      exact kW q104.2 hM _ _ w _ (lv_sub hl [2, 3, 4, 5, 6] rfl)
    · refine m_aload_n C hl 5 d_law_887 rfl rfl ?_
      refine m_iconst C d_law_888 ?_
      refine m_lald C w d_law_889 ?_
      refine m_iload C hl 0 d_law_890 rfl ?_
      refine m_i2l C d_law_892 ?_
      refine m_lceq C hM 899 d_law_893 d_law_894 (by decide) (fun hM => ?_) (fun hM => ?_)
      · refine m_goto C 2814 d_law_899 (by decide) ?_
        exact kW q104.2 hM _ _ w _ (lv_sub hl [2, 3, 4, 5, 6] rfl)
      · refine m_iconst C d_law_897 ?_
        cases hM
  · refine m_iconst C d_law_880 ?_
    cases hM
set_option maxHeartbeats 4000000 in
set_option maxRecDepth 100000 in
theorem w_case_11 {p : Program} {l : Launch} {e : Env} {s : State} {m : MethodId} {args : Array Value} {below : List Frame} {meth : Method} {c : Code} {Q : State → Prop} {D : va_G} {ad : Nat → Nat} {cA : Nat → ClassId} {sd sv : Nat → Nat} {A : Nat → Prop} {b L : Nat} {xs : Nat → Int32} {N c0 s0 : Nat} {v4 : Int} (hI : Inj97 ad) (hst : l.stackTraces = false) (C : Cx p s m args c code 7 "FeastBookLaw" D ad cA sd sv A) (X : Sc s A b L xs) (hc0 : c0 + 4 ≤ 601024) (hs0 : s0 + 24 ≤ 7293034) {k : Hp → Option Int} (kW : ∀ h : Hp, k h = some 1 → ∀ (H : Heap) (locs : List Loc), Wd s D ad cA A h H locs → ∀ ls : Array Slot, lv_has ls 7 [(0, .ref b), (1, .ref (ad 0)), (2, .ref (ad 83)), (3, .ref (ad 96)), (4, .int (iZ v4))] → W p l e room_1 s m args below meth c H locs (c0 + 4) (s0 + 24) Q (F0 m 2814 ls [])) {h : Hp} {H : Heap} {locs : List Loc} (w : Wd s D ad cA A h H locs) {ls : Array Slot} (hl : lv_has ls 7 [(0, .ref b), (1, .ref (ad 0)), (2, .ref (ad 83)), (3, .ref (ad 96)), (4, .int (iZ v4))]) (hM : Lw_case_11 N L xs v4 h k = some 1) : W p l e room_1 s m args below meth c H locs c0 s0 Q (F0 m 902 ls []) := by
  unfold Lw_case_11 at hM
  have hz0 : c0 ≤ room_1.cells := by show c0 ≤ 601024; omega
  have hz1 : s0 ≤ room_1.slots := by show s0 ≤ 7293034; omega
  have hz2 : c0 + 4 ≤ room_1.cells := hc0
  have hz3 : s0 + 24 ≤ room_1.slots := hs0
  refine m_aload_n C hl 1 d_law_902 rfl rfl ?_
  refine m_aload_n C hl 0 d_law_903 rfl rfl ?_
  refine m_iload C hl 4 d_law_904 rfl ?_
  refine m_iconst C d_law_906 ?_
  refine m_iadd C d_law_907 ?_
  refine m_sld C X w hM d_law_908 (fun x107 hM => ?_)
  refine m_aload_n C hl 0 d_law_909 rfl rfl ?_
  refine m_iload C hl 4 d_law_910 rfl ?_
  refine m_iconst C d_law_912 ?_
  refine m_iadd C d_law_913 ?_
  refine m_sld C X w hM d_law_914 (fun x108 hM => ?_)
  refine m_aload_n C hl 3 d_law_915 rfl rfl ?_
  obtain ⟨q109, e110, hM⟩ := bnd_some hM
  refine aftW (c1 := c0 + 4) (s1 := s0 + 24) C w (runSW (n := 4) C w.1 w.2 (c_Lw_feast hI hst e110) lh_182 st_Lw_feast in_Law cw_Lw_feast ⟨by decide +kernel, by decide +kernel, by decide +kernel⟩ rfl ⟨(Nat.le_of_ble_eq_true rfl), (Nat.le_of_ble_eq_true rfl)⟩ ⟨by show c0 + 2 ≤ 601024; omega, by show s0 + 12 ≤ 7293034; omega⟩ (Nat.le_of_ble_eq_true rfl) d_law_916 hl.1 (rest := []) rfl) (by omega) (by omega) (fun H locs w => ?_)
  refine m_istore C hl [(5, .int (iZ q109.1)), (0, .ref b), (1, .ref (ad 0)), (2, .ref (ad 83)), (3, .ref (ad 96)), (4, .int (iZ v4))] d_law_919 (by decide) rfl (fun ls hl => ?_)
  refine m_aload_n C hl 3 d_law_921 rfl rfl ?_
  refine m_aload_n C hl 1 d_law_922 rfl rfl ?_
  refine m_iload C hl 5 d_law_923 rfl ?_
  refine m_iconst C d_law_925 ?_
  refine m_iadd C d_law_926 ?_
  refine m_sld C X w hM d_law_927 (fun x111 hM => ?_)
  refine m_aload_n C hl 1 d_law_928 rfl rfl ?_
  refine m_iload C hl 5 d_law_929 rfl ?_
  refine m_iconst C d_law_931 ?_
  refine m_iadd C d_law_932 ?_
  refine m_sld C X w hM d_law_933 (fun x112 hM => ?_)
  obtain ⟨q114, e113, hM⟩ := bnd_some hM
  refine aftI C w (runV C w.1 w.2 kc_Md sh_83 (Nat.le_of_ble_eq_true rfl) (c_Md_feast hI e113) lk_Lw_184 mb_Md_feast rfl ⟨Nat.le_of_ble_eq_true rfl, Nat.le_of_ble_eq_true rfl⟩ ⟨hz2, hz3⟩ (Nat.le_of_ble_eq_true rfl) d_law_934 hl.1 (rest := []) rfl) (fun H locs w => ?_)
  refine m_istore C hl [(6, .int (iZ q114.1)), (5, .int (iZ q109.1)), (0, .ref b), (1, .ref (ad 0)), (2, .ref (ad 83)), (3, .ref (ad 96)), (4, .int (iZ v4))] d_law_937 (by decide) rfl (fun ls hl => ?_)
  refine m_aload_n C hl 4 d_law_939 rfl rfl ?_
  obtain ⟨x116, e115, hM⟩ := bnd_some hM
  refine aftR (runV C w.1 w.2 kc_Md sh_83 (Nat.le_of_ble_eq_true rfl) (c_Md_thrown hI e115) lk_Lw_152 mb_Md_thrown rfl ⟨Nat.le_of_ble_eq_true rfl, Nat.le_of_ble_eq_true rfl⟩ ⟨hz2, hz3⟩ (Nat.le_of_ble_eq_true rfl) d_law_940 hl.1 (rest := []) rfl) ?_
  refine m_iload C hl 1 d_law_943 rfl ?_
  refine m_icmp_eq C hM 950 d_law_945 (by decide) (fun hM => ?_) (fun hM => ?_)
  · refine m_iload C hl 1 d_law_950 rfl ?_
    refine m_if_ne C hM 967 d_law_952 (by decide) (fun hM => ?_) (fun hM => ?_)
    · refine m_goto C 2814 d_law_967 (by decide) ?_
      exact kW q114.2 hM _ _ w _ (lv_sub hl [2, 3, 4, 5, 6] rfl)
    · refine m_aload_n C hl 5 d_law_955 rfl rfl ?_
      refine m_iconst C d_law_956 ?_
      refine m_lald C w d_law_957 ?_
      refine m_iload C hl 0 d_law_958 rfl ?_
      refine m_i2l C d_law_960 ?_
      refine m_lceq C hM 967 d_law_961 d_law_962 (by decide) (fun hM => ?_) (fun hM => ?_)
      · refine m_goto C 2814 d_law_967 (by decide) ?_
        exact kW q114.2 hM _ _ w _ (lv_sub hl [2, 3, 4, 5, 6] rfl)
      · refine m_iconst C d_law_965 ?_
        cases hM
  · refine m_iconst C d_law_948 ?_
    cases hM
set_option maxHeartbeats 4000000 in
set_option maxRecDepth 100000 in
theorem w_case_12 {p : Program} {l : Launch} {e : Env} {s : State} {m : MethodId} {args : Array Value} {below : List Frame} {meth : Method} {c : Code} {Q : State → Prop} {D : va_G} {ad : Nat → Nat} {cA : Nat → ClassId} {sd sv : Nat → Nat} {A : Nat → Prop} {b L : Nat} {xs : Nat → Int32} {N c0 s0 : Nat} {v4 : Int} (hI : Inj97 ad) (hst : l.stackTraces = false) (C : Cx p s m args c code 7 "FeastBookLaw" D ad cA sd sv A) (X : Sc s A b L xs) (hc0 : c0 + 4 ≤ 601024) (hs0 : s0 + 24 ≤ 7293034) {k : Hp → Option Int} (kW : ∀ h : Hp, k h = some 1 → ∀ (H : Heap) (locs : List Loc), Wd s D ad cA A h H locs → ∀ ls : Array Slot, lv_has ls 7 [(0, .ref b), (1, .ref (ad 0)), (2, .ref (ad 83)), (3, .ref (ad 96)), (4, .int (iZ v4))] → W p l e room_1 s m args below meth c H locs (c0 + 4) (s0 + 24) Q (F0 m 2814 ls [])) {h : Hp} {H : Heap} {locs : List Loc} (w : Wd s D ad cA A h H locs) {ls : Array Slot} (hl : lv_has ls 7 [(0, .ref b), (1, .ref (ad 0)), (2, .ref (ad 83)), (3, .ref (ad 96)), (4, .int (iZ v4))]) (hM : Lw_case_12 N L xs v4 h k = some 1) : W p l e room_1 s m args below meth c H locs c0 s0 Q (F0 m 970 ls []) := by
  unfold Lw_case_12 at hM
  have hz0 : c0 ≤ room_1.cells := by show c0 ≤ 601024; omega
  have hz1 : s0 ≤ room_1.slots := by show s0 ≤ 7293034; omega
  have hz2 : c0 + 4 ≤ room_1.cells := hc0
  have hz3 : s0 + 24 ≤ room_1.slots := hs0
  refine m_aload_n C hl 1 d_law_970 rfl rfl ?_
  refine m_aload_n C hl 0 d_law_971 rfl rfl ?_
  refine m_iload C hl 4 d_law_972 rfl ?_
  refine m_iconst C d_law_974 ?_
  refine m_iadd C d_law_975 ?_
  refine m_sld C X w hM d_law_976 (fun x117 hM => ?_)
  refine m_aload_n C hl 0 d_law_977 rfl rfl ?_
  refine m_iload C hl 4 d_law_978 rfl ?_
  refine m_iconst C d_law_980 ?_
  refine m_iadd C d_law_981 ?_
  refine m_sld C X w hM d_law_982 (fun x118 hM => ?_)
  refine m_aload_n C hl 0 d_law_983 rfl rfl ?_
  refine m_iload C hl 4 d_law_984 rfl ?_
  refine m_iconst C d_law_986 ?_
  refine m_iadd C d_law_987 ?_
  refine m_sld C X w hM d_law_988 (fun x119 hM => ?_)
  refine m_aload_n C hl 3 d_law_989 rfl rfl ?_
  obtain ⟨q120, e121, hM⟩ := bnd_some hM
  refine aftW (c1 := c0 + 4) (s1 := s0 + 24) C w (runSW (n := 5) C w.1 w.2 (c_Lw_of hI hst e121) lh_185 st_Lw_of in_Law cw_Lw_of ⟨by decide +kernel, by decide +kernel, by decide +kernel⟩ rfl ⟨(Nat.le_of_ble_eq_true rfl), (Nat.le_of_ble_eq_true rfl)⟩ ⟨by show c0 + 3 ≤ 601024; omega, by show s0 + 18 ≤ 7293034; omega⟩ (Nat.le_of_ble_eq_true rfl) d_law_990 hl.1 (rest := []) rfl) (by omega) (by omega) (fun H locs w => ?_)
  refine m_istore C hl [(5, .int (iZ q120.1)), (0, .ref b), (1, .ref (ad 0)), (2, .ref (ad 83)), (3, .ref (ad 96)), (4, .int (iZ v4))] d_law_993 (by decide) rfl (fun ls hl => ?_)
  refine m_aload_n C hl 3 d_law_995 rfl rfl ?_
  refine m_aload_n C hl 1 d_law_996 rfl rfl ?_
  refine m_iload C hl 5 d_law_997 rfl ?_
  refine m_iconst C d_law_999 ?_
  refine m_iadd C d_law_1000 ?_
  refine m_sld C X w hM d_law_1001 (fun x122 hM => ?_)
  refine m_aload_n C hl 1 d_law_1002 rfl rfl ?_
  refine m_iload C hl 5 d_law_1003 rfl ?_
  refine m_iconst C d_law_1005 ?_
  refine m_iadd C d_law_1006 ?_
  refine m_sld C X w hM d_law_1007 (fun x123 hM => ?_)
  refine m_aload_n C hl 1 d_law_1008 rfl rfl ?_
  refine m_iload C hl 5 d_law_1009 rfl ?_
  refine m_iconst C d_law_1011 ?_
  refine m_iadd C d_law_1012 ?_
  refine m_sld C X w hM d_law_1013 (fun x124 hM => ?_)
  obtain ⟨q126, e125, hM⟩ := bnd_some hM
  refine aftI C w (runV C w.1 w.2 kc_Md sh_83 (Nat.le_of_ble_eq_true rfl) (c_Md_of hI e125) lk_Lw_187 mb_Md_of rfl ⟨Nat.le_of_ble_eq_true rfl, Nat.le_of_ble_eq_true rfl⟩ ⟨hz2, hz3⟩ (Nat.le_of_ble_eq_true rfl) d_law_1014 hl.1 (rest := []) rfl) (fun H locs w => ?_)
  refine m_istore C hl [(6, .int (iZ q126.1)), (5, .int (iZ q120.1)), (0, .ref b), (1, .ref (ad 0)), (2, .ref (ad 83)), (3, .ref (ad 96)), (4, .int (iZ v4))] d_law_1017 (by decide) rfl (fun ls hl => ?_)
  refine m_aload_n C hl 4 d_law_1019 rfl rfl ?_
  obtain ⟨x128, e127, hM⟩ := bnd_some hM
  refine aftR (runV C w.1 w.2 kc_Md sh_83 (Nat.le_of_ble_eq_true rfl) (c_Md_thrown hI e127) lk_Lw_152 mb_Md_thrown rfl ⟨Nat.le_of_ble_eq_true rfl, Nat.le_of_ble_eq_true rfl⟩ ⟨hz2, hz3⟩ (Nat.le_of_ble_eq_true rfl) d_law_1020 hl.1 (rest := []) rfl) ?_
  refine m_iload C hl 1 d_law_1023 rfl ?_
  refine m_icmp_eq C hM 1030 d_law_1025 (by decide) (fun hM => ?_) (fun hM => ?_)
  · refine m_iload C hl 1 d_law_1030 rfl ?_
    refine m_if_ne C hM 1047 d_law_1032 (by decide) (fun hM => ?_) (fun hM => ?_)
    · refine m_goto C 2814 d_law_1047 (by decide) ?_
      exact kW q126.2 hM _ _ w _ (lv_sub hl [2, 3, 4, 5, 6] rfl)
    · refine m_aload_n C hl 5 d_law_1035 rfl rfl ?_
      refine m_iconst C d_law_1036 ?_
      refine m_lald C w d_law_1037 ?_
      refine m_iload C hl 0 d_law_1038 rfl ?_
      refine m_i2l C d_law_1040 ?_
      refine m_lceq C hM 1047 d_law_1041 d_law_1042 (by decide) (fun hM => ?_) (fun hM => ?_)
      · refine m_goto C 2814 d_law_1047 (by decide) ?_
        exact kW q126.2 hM _ _ w _ (lv_sub hl [2, 3, 4, 5, 6] rfl)
      · refine m_iconst C d_law_1045 ?_
        cases hM
  · refine m_iconst C d_law_1028 ?_
    cases hM
set_option maxHeartbeats 4000000 in
set_option maxRecDepth 100000 in
theorem w_case_13 {p : Program} {l : Launch} {e : Env} {s : State} {m : MethodId} {args : Array Value} {below : List Frame} {meth : Method} {c : Code} {Q : State → Prop} {D : va_G} {ad : Nat → Nat} {cA : Nat → ClassId} {sd sv : Nat → Nat} {A : Nat → Prop} {b L : Nat} {xs : Nat → Int32} {N c0 s0 : Nat} {v4 : Int} (hI : Inj97 ad) (hst : l.stackTraces = false) (C : Cx p s m args c code 7 "FeastBookLaw" D ad cA sd sv A) (X : Sc s A b L xs) (hc0 : c0 + 4 ≤ 601024) (hs0 : s0 + 24 ≤ 7293034) {k : Hp → Option Int} (kW : ∀ h : Hp, k h = some 1 → ∀ (H : Heap) (locs : List Loc), Wd s D ad cA A h H locs → ∀ ls : Array Slot, lv_has ls 7 [(0, .ref b), (1, .ref (ad 0)), (2, .ref (ad 83)), (3, .ref (ad 96)), (4, .int (iZ v4))] → W p l e room_1 s m args below meth c H locs (c0 + 4) (s0 + 24) Q (F0 m 2814 ls [])) {h : Hp} {H : Heap} {locs : List Loc} (w : Wd s D ad cA A h H locs) {ls : Array Slot} (hl : lv_has ls 7 [(0, .ref b), (1, .ref (ad 0)), (2, .ref (ad 83)), (3, .ref (ad 96)), (4, .int (iZ v4))]) (hM : Lw_case_13 N L xs v4 h k = some 1) : W p l e room_1 s m args below meth c H locs c0 s0 Q (F0 m 1050 ls []) := by
  unfold Lw_case_13 at hM
  have hz0 : c0 ≤ room_1.cells := by show c0 ≤ 601024; omega
  have hz1 : s0 ≤ room_1.slots := by show s0 ≤ 7293034; omega
  have hz2 : c0 + 4 ≤ room_1.cells := hc0
  have hz3 : s0 + 24 ≤ room_1.slots := hs0
  refine m_aload_n C hl 1 d_law_1050 rfl rfl ?_
  refine m_aload_n C hl 0 d_law_1051 rfl rfl ?_
  refine m_iload C hl 4 d_law_1052 rfl ?_
  refine m_iconst C d_law_1054 ?_
  refine m_iadd C d_law_1055 ?_
  refine m_sld C X w hM d_law_1056 (fun x129 hM => ?_)
  refine m_aload_n C hl 0 d_law_1057 rfl rfl ?_
  refine m_iload C hl 4 d_law_1058 rfl ?_
  refine m_iconst C d_law_1060 ?_
  refine m_iadd C d_law_1061 ?_
  refine m_sld C X w hM d_law_1062 (fun x130 hM => ?_)
  refine m_aload_n C hl 3 d_law_1063 rfl rfl ?_
  obtain ⟨q131, e132, hM⟩ := bnd_some hM
  refine aftW (c1 := c0 + 4) (s1 := s0 + 24) C w (runSW (n := 4) C w.1 w.2 (c_Lw_rank hI hst e132) lh_188 st_Lw_rank in_Law cw_Lw_rank ⟨by decide +kernel, by decide +kernel, by decide +kernel⟩ rfl ⟨(Nat.le_of_ble_eq_true rfl), (Nat.le_of_ble_eq_true rfl)⟩ ⟨by show c0 + 2 ≤ 601024; omega, by show s0 + 12 ≤ 7293034; omega⟩ (Nat.le_of_ble_eq_true rfl) d_law_1064 hl.1 (rest := []) rfl) (by omega) (by omega) (fun H locs w => ?_)
  refine m_istore C hl [(5, .int (iZ q131.1)), (0, .ref b), (1, .ref (ad 0)), (2, .ref (ad 83)), (3, .ref (ad 96)), (4, .int (iZ v4))] d_law_1067 (by decide) rfl (fun ls hl => ?_)
  refine m_aload_n C hl 3 d_law_1069 rfl rfl ?_
  refine m_aload_n C hl 1 d_law_1070 rfl rfl ?_
  refine m_iload C hl 5 d_law_1071 rfl ?_
  refine m_iconst C d_law_1073 ?_
  refine m_iadd C d_law_1074 ?_
  refine m_sld C X w hM d_law_1075 (fun x133 hM => ?_)
  refine m_aload_n C hl 1 d_law_1076 rfl rfl ?_
  refine m_iload C hl 5 d_law_1077 rfl ?_
  refine m_iconst C d_law_1079 ?_
  refine m_iadd C d_law_1080 ?_
  refine m_sld C X w hM d_law_1081 (fun x134 hM => ?_)
  obtain ⟨q136, e135, hM⟩ := bnd_some hM
  refine aftI C w (runV C w.1 w.2 kc_Md sh_83 (Nat.le_of_ble_eq_true rfl) (c_Md_rank hI e135) lk_Lw_190 mb_Md_rank rfl ⟨Nat.le_of_ble_eq_true rfl, Nat.le_of_ble_eq_true rfl⟩ ⟨hz2, hz3⟩ (Nat.le_of_ble_eq_true rfl) d_law_1082 hl.1 (rest := []) rfl) (fun H locs w => ?_)
  refine m_istore C hl [(6, .int (iZ q136.1)), (5, .int (iZ q131.1)), (0, .ref b), (1, .ref (ad 0)), (2, .ref (ad 83)), (3, .ref (ad 96)), (4, .int (iZ v4))] d_law_1085 (by decide) rfl (fun ls hl => ?_)
  refine m_aload_n C hl 4 d_law_1087 rfl rfl ?_
  obtain ⟨x138, e137, hM⟩ := bnd_some hM
  refine aftR (runV C w.1 w.2 kc_Md sh_83 (Nat.le_of_ble_eq_true rfl) (c_Md_thrown hI e137) lk_Lw_152 mb_Md_thrown rfl ⟨Nat.le_of_ble_eq_true rfl, Nat.le_of_ble_eq_true rfl⟩ ⟨hz2, hz3⟩ (Nat.le_of_ble_eq_true rfl) d_law_1088 hl.1 (rest := []) rfl) ?_
  refine m_iload C hl 1 d_law_1091 rfl ?_
  refine m_icmp_eq C hM 1098 d_law_1093 (by decide) (fun hM => ?_) (fun hM => ?_)
  · refine m_iload C hl 1 d_law_1098 rfl ?_
    refine m_if_ne C hM 1115 d_law_1100 (by decide) (fun hM => ?_) (fun hM => ?_)
    · refine m_goto C 2814 d_law_1115 (by decide) ?_
      exact kW q136.2 hM _ _ w _ (lv_sub hl [2, 3, 4, 5, 6] rfl)
    · refine m_aload_n C hl 5 d_law_1103 rfl rfl ?_
      refine m_iconst C d_law_1104 ?_
      refine m_lald C w d_law_1105 ?_
      refine m_iload C hl 0 d_law_1106 rfl ?_
      refine m_i2l C d_law_1108 ?_
      refine m_lceq C hM 1115 d_law_1109 d_law_1110 (by decide) (fun hM => ?_) (fun hM => ?_)
      · refine m_goto C 2814 d_law_1115 (by decide) ?_
        exact kW q136.2 hM _ _ w _ (lv_sub hl [2, 3, 4, 5, 6] rfl)
      · refine m_iconst C d_law_1113 ?_
        cases hM
  · refine m_iconst C d_law_1096 ?_
    cases hM
set_option maxHeartbeats 4000000 in
set_option maxRecDepth 100000 in
theorem w_case_14 {p : Program} {l : Launch} {e : Env} {s : State} {m : MethodId} {args : Array Value} {below : List Frame} {meth : Method} {c : Code} {Q : State → Prop} {D : va_G} {ad : Nat → Nat} {cA : Nat → ClassId} {sd sv : Nat → Nat} {A : Nat → Prop} {b L : Nat} {xs : Nat → Int32} {N c0 s0 : Nat} {v4 : Int} (hI : Inj97 ad) (hst : l.stackTraces = false) (C : Cx p s m args c code 7 "FeastBookLaw" D ad cA sd sv A) (X : Sc s A b L xs) (hc0 : c0 + 4 ≤ 601024) (hs0 : s0 + 24 ≤ 7293034) {k : Hp → Option Int} (kW : ∀ h : Hp, k h = some 1 → ∀ (H : Heap) (locs : List Loc), Wd s D ad cA A h H locs → ∀ ls : Array Slot, lv_has ls 7 [(0, .ref b), (1, .ref (ad 0)), (2, .ref (ad 83)), (3, .ref (ad 96)), (4, .int (iZ v4))] → W p l e room_1 s m args below meth c H locs (c0 + 4) (s0 + 24) Q (F0 m 2814 ls [])) {h : Hp} {H : Heap} {locs : List Loc} (w : Wd s D ad cA A h H locs) {ls : Array Slot} (hl : lv_has ls 7 [(0, .ref b), (1, .ref (ad 0)), (2, .ref (ad 83)), (3, .ref (ad 96)), (4, .int (iZ v4))]) (hM : Lw_case_14 N L xs v4 h k = some 1) : W p l e room_1 s m args below meth c H locs c0 s0 Q (F0 m 1118 ls []) := by
  unfold Lw_case_14 at hM
  have hz0 : c0 ≤ room_1.cells := by show c0 ≤ 601024; omega
  have hz1 : s0 ≤ room_1.slots := by show s0 ≤ 7293034; omega
  have hz2 : c0 + 4 ≤ room_1.cells := hc0
  have hz3 : s0 + 24 ≤ room_1.slots := hs0
  refine m_aload_n C hl 1 d_law_1118 rfl rfl ?_
  refine m_aload_n C hl 0 d_law_1119 rfl rfl ?_
  refine m_iload C hl 4 d_law_1120 rfl ?_
  refine m_iconst C d_law_1122 ?_
  refine m_iadd C d_law_1123 ?_
  refine m_sld C X w hM d_law_1124 (fun x139 hM => ?_)
  refine m_aload_n C hl 0 d_law_1125 rfl rfl ?_
  refine m_iload C hl 4 d_law_1126 rfl ?_
  refine m_iconst C d_law_1128 ?_
  refine m_iadd C d_law_1129 ?_
  refine m_sld C X w hM d_law_1130 (fun x140 hM => ?_)
  refine m_aload_n C hl 3 d_law_1131 rfl rfl ?_
  obtain ⟨q141, e142, hM⟩ := bnd_some hM
  refine aftW (c1 := c0 + 4) (s1 := s0 + 24) C w (runSW (n := 4) C w.1 w.2 (c_Lw_law hI hst e142) lh_191 st_Lw_law in_Law cw_Lw_law ⟨by decide +kernel, by decide +kernel, by decide +kernel⟩ rfl ⟨(Nat.le_of_ble_eq_true rfl), (Nat.le_of_ble_eq_true rfl)⟩ ⟨by show c0 + 2 ≤ 601024; omega, by show s0 + 12 ≤ 7293034; omega⟩ (Nat.le_of_ble_eq_true rfl) d_law_1132 hl.1 (rest := []) rfl) (by omega) (by omega) (fun H locs w => ?_)
  refine m_istore C hl [(5, .int (iZ q141.1)), (0, .ref b), (1, .ref (ad 0)), (2, .ref (ad 83)), (3, .ref (ad 96)), (4, .int (iZ v4))] d_law_1135 (by decide) rfl (fun ls hl => ?_)
  refine m_aload_n C hl 3 d_law_1137 rfl rfl ?_
  refine m_aload_n C hl 1 d_law_1138 rfl rfl ?_
  refine m_iload C hl 5 d_law_1139 rfl ?_
  refine m_iconst C d_law_1141 ?_
  refine m_iadd C d_law_1142 ?_
  refine m_sld C X w hM d_law_1143 (fun x143 hM => ?_)
  refine m_aload_n C hl 1 d_law_1144 rfl rfl ?_
  refine m_iload C hl 5 d_law_1145 rfl ?_
  refine m_iconst C d_law_1147 ?_
  refine m_iadd C d_law_1148 ?_
  refine m_sld C X w hM d_law_1149 (fun x144 hM => ?_)
  obtain ⟨q146, e145, hM⟩ := bnd_some hM
  refine aftI C w (runV C w.1 w.2 kc_Md sh_83 (Nat.le_of_ble_eq_true rfl) (c_Md_law hI e145) lk_Lw_193 mb_Md_law rfl ⟨Nat.le_of_ble_eq_true rfl, Nat.le_of_ble_eq_true rfl⟩ ⟨hz2, hz3⟩ (Nat.le_of_ble_eq_true rfl) d_law_1150 hl.1 (rest := []) rfl) (fun H locs w => ?_)
  refine m_istore C hl [(6, .int (iZ q146.1)), (5, .int (iZ q141.1)), (0, .ref b), (1, .ref (ad 0)), (2, .ref (ad 83)), (3, .ref (ad 96)), (4, .int (iZ v4))] d_law_1153 (by decide) rfl (fun ls hl => ?_)
  refine m_aload_n C hl 4 d_law_1155 rfl rfl ?_
  obtain ⟨x148, e147, hM⟩ := bnd_some hM
  refine aftR (runV C w.1 w.2 kc_Md sh_83 (Nat.le_of_ble_eq_true rfl) (c_Md_thrown hI e147) lk_Lw_152 mb_Md_thrown rfl ⟨Nat.le_of_ble_eq_true rfl, Nat.le_of_ble_eq_true rfl⟩ ⟨hz2, hz3⟩ (Nat.le_of_ble_eq_true rfl) d_law_1156 hl.1 (rest := []) rfl) ?_
  refine m_iload C hl 1 d_law_1159 rfl ?_
  refine m_icmp_eq C hM 1166 d_law_1161 (by decide) (fun hM => ?_) (fun hM => ?_)
  · refine m_iload C hl 1 d_law_1166 rfl ?_
    refine m_if_ne C hM 1183 d_law_1168 (by decide) (fun hM => ?_) (fun hM => ?_)
    · refine m_goto C 2814 d_law_1183 (by decide) ?_
      exact kW q146.2 hM _ _ w _ (lv_sub hl [2, 3, 4, 5, 6] rfl)
    · refine m_aload_n C hl 5 d_law_1171 rfl rfl ?_
      refine m_iconst C d_law_1172 ?_
      refine m_lald C w d_law_1173 ?_
      refine m_iload C hl 0 d_law_1174 rfl ?_
      refine m_i2l C d_law_1176 ?_
      refine m_lceq C hM 1183 d_law_1177 d_law_1178 (by decide) (fun hM => ?_) (fun hM => ?_)
      · refine m_goto C 2814 d_law_1183 (by decide) ?_
        exact kW q146.2 hM _ _ w _ (lv_sub hl [2, 3, 4, 5, 6] rfl)
      · refine m_iconst C d_law_1181 ?_
        cases hM
  · refine m_iconst C d_law_1164 ?_
    cases hM
set_option maxHeartbeats 4000000 in
set_option maxRecDepth 100000 in
theorem w_case_15 {p : Program} {l : Launch} {e : Env} {s : State} {m : MethodId} {args : Array Value} {below : List Frame} {meth : Method} {c : Code} {Q : State → Prop} {D : va_G} {ad : Nat → Nat} {cA : Nat → ClassId} {sd sv : Nat → Nat} {A : Nat → Prop} {b L : Nat} {xs : Nat → Int32} {N c0 s0 : Nat} {v4 : Int} (hI : Inj97 ad) (hst : l.stackTraces = false) (C : Cx p s m args c code 7 "FeastBookLaw" D ad cA sd sv A) (X : Sc s A b L xs) (hc0 : c0 + 4 ≤ 601024) (hs0 : s0 + 24 ≤ 7293034) {k : Hp → Option Int} (kW : ∀ h : Hp, k h = some 1 → ∀ (H : Heap) (locs : List Loc), Wd s D ad cA A h H locs → ∀ ls : Array Slot, lv_has ls 7 [(0, .ref b), (1, .ref (ad 0)), (2, .ref (ad 83)), (3, .ref (ad 96)), (4, .int (iZ v4))] → W p l e room_1 s m args below meth c H locs (c0 + 4) (s0 + 24) Q (F0 m 2814 ls [])) {h : Hp} {H : Heap} {locs : List Loc} (w : Wd s D ad cA A h H locs) {ls : Array Slot} (hl : lv_has ls 7 [(0, .ref b), (1, .ref (ad 0)), (2, .ref (ad 83)), (3, .ref (ad 96)), (4, .int (iZ v4))]) (hM : Lw_case_15 N L xs v4 h k = some 1) : W p l e room_1 s m args below meth c H locs c0 s0 Q (F0 m 1186 ls []) := by
  unfold Lw_case_15 at hM
  have hz0 : c0 ≤ room_1.cells := by show c0 ≤ 601024; omega
  have hz1 : s0 ≤ room_1.slots := by show s0 ≤ 7293034; omega
  have hz2 : c0 + 4 ≤ room_1.cells := hc0
  have hz3 : s0 + 24 ≤ room_1.slots := hs0
  refine m_aload_n C hl 1 d_law_1186 rfl rfl ?_
  refine m_aload_n C hl 0 d_law_1187 rfl rfl ?_
  refine m_iload C hl 4 d_law_1188 rfl ?_
  refine m_iconst C d_law_1190 ?_
  refine m_iadd C d_law_1191 ?_
  refine m_sld C X w hM d_law_1192 (fun x149 hM => ?_)
  refine m_aload_n C hl 0 d_law_1193 rfl rfl ?_
  refine m_iload C hl 4 d_law_1194 rfl ?_
  refine m_iconst C d_law_1196 ?_
  refine m_iadd C d_law_1197 ?_
  refine m_sld C X w hM d_law_1198 (fun x150 hM => ?_)
  refine m_aload_n C hl 0 d_law_1199 rfl rfl ?_
  refine m_iload C hl 4 d_law_1200 rfl ?_
  refine m_iconst C d_law_1202 ?_
  refine m_iadd C d_law_1203 ?_
  refine m_sld C X w hM d_law_1204 (fun x151 hM => ?_)
  refine m_aload_n C hl 3 d_law_1205 rfl rfl ?_
  obtain ⟨q152, e153, hM⟩ := bnd_some hM
  refine aftW (c1 := c0 + 4) (s1 := s0 + 24) C w (runSW (n := 5) C w.1 w.2 (c_Lw_put hI hst e153) lh_194 st_Lw_put in_Law cw_Lw_put ⟨by decide +kernel, by decide +kernel, by decide +kernel⟩ rfl ⟨(Nat.le_of_ble_eq_true rfl), (Nat.le_of_ble_eq_true rfl)⟩ ⟨by show c0 + 2 ≤ 601024; omega, by show s0 + 12 ≤ 7293034; omega⟩ (Nat.le_of_ble_eq_true rfl) d_law_1206 hl.1 (rest := []) rfl) (by omega) (by omega) (fun H locs w => ?_)
  refine m_istore C hl [(5, .int (iZ q152.1)), (0, .ref b), (1, .ref (ad 0)), (2, .ref (ad 83)), (3, .ref (ad 96)), (4, .int (iZ v4))] d_law_1209 (by decide) rfl (fun ls hl => ?_)
  refine m_aload_n C hl 3 d_law_1211 rfl rfl ?_
  refine m_aload_n C hl 1 d_law_1212 rfl rfl ?_
  refine m_iload C hl 5 d_law_1213 rfl ?_
  refine m_iconst C d_law_1215 ?_
  refine m_iadd C d_law_1216 ?_
  refine m_sld C X w hM d_law_1217 (fun x154 hM => ?_)
  refine m_aload_n C hl 1 d_law_1218 rfl rfl ?_
  refine m_iload C hl 5 d_law_1219 rfl ?_
  refine m_iconst C d_law_1221 ?_
  refine m_iadd C d_law_1222 ?_
  refine m_sld C X w hM d_law_1223 (fun x155 hM => ?_)
  refine m_aload_n C hl 1 d_law_1224 rfl rfl ?_
  refine m_iload C hl 5 d_law_1225 rfl ?_
  refine m_iconst C d_law_1227 ?_
  refine m_iadd C d_law_1228 ?_
  refine m_sld C X w hM d_law_1229 (fun x156 hM => ?_)
  obtain ⟨q158, e157, hM⟩ := bnd_some hM
  refine aftI C w (runV C w.1 w.2 kc_Md sh_83 (Nat.le_of_ble_eq_true rfl) (c_Md_put hI e157) lk_Lw_196 mb_Md_put rfl ⟨Nat.le_of_ble_eq_true rfl, Nat.le_of_ble_eq_true rfl⟩ ⟨hz2, hz3⟩ (Nat.le_of_ble_eq_true rfl) d_law_1230 hl.1 (rest := []) rfl) (fun H locs w => ?_)
  refine m_istore C hl [(6, .int (iZ q158.1)), (5, .int (iZ q152.1)), (0, .ref b), (1, .ref (ad 0)), (2, .ref (ad 83)), (3, .ref (ad 96)), (4, .int (iZ v4))] d_law_1233 (by decide) rfl (fun ls hl => ?_)
  refine m_aload_n C hl 4 d_law_1235 rfl rfl ?_
  obtain ⟨x160, e159, hM⟩ := bnd_some hM
  refine aftR (runV C w.1 w.2 kc_Md sh_83 (Nat.le_of_ble_eq_true rfl) (c_Md_thrown hI e159) lk_Lw_152 mb_Md_thrown rfl ⟨Nat.le_of_ble_eq_true rfl, Nat.le_of_ble_eq_true rfl⟩ ⟨hz2, hz3⟩ (Nat.le_of_ble_eq_true rfl) d_law_1236 hl.1 (rest := []) rfl) ?_
  refine m_iload C hl 1 d_law_1239 rfl ?_
  refine m_icmp_eq C hM 1246 d_law_1241 (by decide) (fun hM => ?_) (fun hM => ?_)
  · refine m_iload C hl 1 d_law_1246 rfl ?_
    refine m_if_ne C hM 1263 d_law_1248 (by decide) (fun hM => ?_) (fun hM => ?_)
    · refine m_goto C 2814 d_law_1263 (by decide) ?_
      exact kW q158.2 hM _ _ w _ (lv_sub hl [2, 3, 4, 5, 6] rfl)
    · refine m_aload_n C hl 5 d_law_1251 rfl rfl ?_
      refine m_iconst C d_law_1252 ?_
      refine m_lald C w d_law_1253 ?_
      refine m_iload C hl 0 d_law_1254 rfl ?_
      refine m_i2l C d_law_1256 ?_
      refine m_lceq C hM 1263 d_law_1257 d_law_1258 (by decide) (fun hM => ?_) (fun hM => ?_)
      · refine m_goto C 2814 d_law_1263 (by decide) ?_
        exact kW q158.2 hM _ _ w _ (lv_sub hl [2, 3, 4, 5, 6] rfl)
      · refine m_iconst C d_law_1261 ?_
        cases hM
  · refine m_iconst C d_law_1244 ?_
    cases hM
set_option maxHeartbeats 4000000 in
set_option maxRecDepth 100000 in
theorem w_case_16 {p : Program} {l : Launch} {e : Env} {s : State} {m : MethodId} {args : Array Value} {below : List Frame} {meth : Method} {c : Code} {Q : State → Prop} {D : va_G} {ad : Nat → Nat} {cA : Nat → ClassId} {sd sv : Nat → Nat} {A : Nat → Prop} {b L : Nat} {xs : Nat → Int32} {N c0 s0 : Nat} {v4 : Int} (hI : Inj97 ad) (hst : l.stackTraces = false) (C : Cx p s m args c code 7 "FeastBookLaw" D ad cA sd sv A) (X : Sc s A b L xs) (hc0 : c0 + 4 ≤ 601024) (hs0 : s0 + 24 ≤ 7293034) {k : Hp → Option Int} (kW : ∀ h : Hp, k h = some 1 → ∀ (H : Heap) (locs : List Loc), Wd s D ad cA A h H locs → ∀ ls : Array Slot, lv_has ls 7 [(0, .ref b), (1, .ref (ad 0)), (2, .ref (ad 83)), (3, .ref (ad 96)), (4, .int (iZ v4))] → W p l e room_1 s m args below meth c H locs (c0 + 4) (s0 + 24) Q (F0 m 2814 ls [])) {h : Hp} {H : Heap} {locs : List Loc} (w : Wd s D ad cA A h H locs) {ls : Array Slot} (hl : lv_has ls 7 [(0, .ref b), (1, .ref (ad 0)), (2, .ref (ad 83)), (3, .ref (ad 96)), (4, .int (iZ v4))]) (hM : Lw_case_16 N L xs v4 h k = some 1) : W p l e room_1 s m args below meth c H locs c0 s0 Q (F0 m 1266 ls []) := by
  unfold Lw_case_16 at hM
  have hz0 : c0 ≤ room_1.cells := by show c0 ≤ 601024; omega
  have hz1 : s0 ≤ room_1.slots := by show s0 ≤ 7293034; omega
  have hz2 : c0 + 4 ≤ room_1.cells := hc0
  have hz3 : s0 + 24 ≤ room_1.slots := hs0
  refine m_aload_n C hl 1 d_law_1266 rfl rfl ?_
  refine m_aload_n C hl 0 d_law_1267 rfl rfl ?_
  refine m_iload C hl 4 d_law_1268 rfl ?_
  refine m_iconst C d_law_1270 ?_
  refine m_iadd C d_law_1271 ?_
  refine m_sld C X w hM d_law_1272 (fun x161 hM => ?_)
  refine m_aload_n C hl 3 d_law_1273 rfl rfl ?_
  obtain ⟨q162, e163, hM⟩ := bnd_some hM
  refine aftW (c1 := c0 + 4) (s1 := s0 + 24) C w (runSW (n := 3) C w.1 w.2 (c_Lw_reach hI hst e163) lh_197 st_Lw_reach in_Law cw_Lw_reach ⟨by decide +kernel, by decide +kernel, by decide +kernel⟩ rfl ⟨(Nat.le_of_ble_eq_true rfl), (Nat.le_of_ble_eq_true rfl)⟩ ⟨by show c0 + 2 ≤ 601024; omega, by show s0 + 12 ≤ 7293034; omega⟩ (Nat.le_of_ble_eq_true rfl) d_law_1274 hl.1 (rest := []) rfl) (by omega) (by omega) (fun H locs w => ?_)
  refine m_istore C hl [(5, .int (iZ q162.1)), (0, .ref b), (1, .ref (ad 0)), (2, .ref (ad 83)), (3, .ref (ad 96)), (4, .int (iZ v4))] d_law_1277 (by decide) rfl (fun ls hl => ?_)
  refine m_aload_n C hl 3 d_law_1279 rfl rfl ?_
  refine m_aload_n C hl 1 d_law_1280 rfl rfl ?_
  refine m_iload C hl 5 d_law_1281 rfl ?_
  refine m_iconst C d_law_1283 ?_
  refine m_iadd C d_law_1284 ?_
  refine m_sld C X w hM d_law_1285 (fun x164 hM => ?_)
  obtain ⟨q166, e165, hM⟩ := bnd_some hM
  refine aftI C w (runV C w.1 w.2 kc_Md sh_83 (Nat.le_of_ble_eq_true rfl) (c_Md_reach hI e165) lk_Lw_200 mb_Md_reach rfl ⟨Nat.le_of_ble_eq_true rfl, Nat.le_of_ble_eq_true rfl⟩ ⟨hz2, hz3⟩ (Nat.le_of_ble_eq_true rfl) d_law_1286 hl.1 (rest := []) rfl) (fun H locs w => ?_)
  refine m_istore C hl [(6, .int (iZ q166.1)), (5, .int (iZ q162.1)), (0, .ref b), (1, .ref (ad 0)), (2, .ref (ad 83)), (3, .ref (ad 96)), (4, .int (iZ v4))] d_law_1289 (by decide) rfl (fun ls hl => ?_)
  refine m_aload_n C hl 4 d_law_1291 rfl rfl ?_
  obtain ⟨x168, e167, hM⟩ := bnd_some hM
  refine aftR (runV C w.1 w.2 kc_Md sh_83 (Nat.le_of_ble_eq_true rfl) (c_Md_thrown hI e167) lk_Lw_152 mb_Md_thrown rfl ⟨Nat.le_of_ble_eq_true rfl, Nat.le_of_ble_eq_true rfl⟩ ⟨hz2, hz3⟩ (Nat.le_of_ble_eq_true rfl) d_law_1292 hl.1 (rest := []) rfl) ?_
  refine m_iload C hl 1 d_law_1295 rfl ?_
  refine m_icmp_eq C hM 1302 d_law_1297 (by decide) (fun hM => ?_) (fun hM => ?_)
  · refine m_iload C hl 1 d_law_1302 rfl ?_
    refine m_if_ne C hM 1319 d_law_1304 (by decide) (fun hM => ?_) (fun hM => ?_)
    · refine m_goto C 2814 d_law_1319 (by decide) ?_
      exact kW q166.2 hM _ _ w _ (lv_sub hl [2, 3, 4, 5, 6] rfl)
    · refine m_aload_n C hl 5 d_law_1307 rfl rfl ?_
      refine m_iconst C d_law_1308 ?_
      refine m_lald C w d_law_1309 ?_
      refine m_iload C hl 0 d_law_1310 rfl ?_
      refine m_i2l C d_law_1312 ?_
      refine m_lceq C hM 1319 d_law_1313 d_law_1314 (by decide) (fun hM => ?_) (fun hM => ?_)
      · refine m_goto C 2814 d_law_1319 (by decide) ?_
        exact kW q166.2 hM _ _ w _ (lv_sub hl [2, 3, 4, 5, 6] rfl)
      · refine m_iconst C d_law_1317 ?_
        cases hM
  · refine m_iconst C d_law_1300 ?_
    cases hM
set_option maxHeartbeats 4000000 in
set_option maxRecDepth 100000 in
theorem w_case_17 {p : Program} {l : Launch} {e : Env} {s : State} {m : MethodId} {args : Array Value} {below : List Frame} {meth : Method} {c : Code} {Q : State → Prop} {D : va_G} {ad : Nat → Nat} {cA : Nat → ClassId} {sd sv : Nat → Nat} {A : Nat → Prop} {b L : Nat} {xs : Nat → Int32} {N c0 s0 : Nat} {v4 : Int} (hI : Inj97 ad) (hst : l.stackTraces = false) (C : Cx p s m args c code 7 "FeastBookLaw" D ad cA sd sv A) (X : Sc s A b L xs) (hc0 : c0 + 4 ≤ 601024) (hs0 : s0 + 24 ≤ 7293034) {k : Hp → Option Int} (kW : ∀ h : Hp, k h = some 1 → ∀ (H : Heap) (locs : List Loc), Wd s D ad cA A h H locs → ∀ ls : Array Slot, lv_has ls 7 [(0, .ref b), (1, .ref (ad 0)), (2, .ref (ad 83)), (3, .ref (ad 96)), (4, .int (iZ v4))] → W p l e room_1 s m args below meth c H locs (c0 + 4) (s0 + 24) Q (F0 m 2814 ls [])) {h : Hp} {H : Heap} {locs : List Loc} (w : Wd s D ad cA A h H locs) {ls : Array Slot} (hl : lv_has ls 7 [(0, .ref b), (1, .ref (ad 0)), (2, .ref (ad 83)), (3, .ref (ad 96)), (4, .int (iZ v4))]) (hM : Lw_case_17 N L xs v4 h k = some 1) : W p l e room_1 s m args below meth c H locs c0 s0 Q (F0 m 1322 ls []) := by
  unfold Lw_case_17 at hM
  have hz0 : c0 ≤ room_1.cells := by show c0 ≤ 601024; omega
  have hz1 : s0 ≤ room_1.slots := by show s0 ≤ 7293034; omega
  have hz2 : c0 + 4 ≤ room_1.cells := hc0
  have hz3 : s0 + 24 ≤ room_1.slots := hs0
  refine m_aload_n C hl 1 d_law_1322 rfl rfl ?_
  refine m_aload_n C hl 3 d_law_1323 rfl rfl ?_
  obtain ⟨q169, e170, hM⟩ := bnd_some hM
  refine aftW (c1 := c0 + 4) (s1 := s0 + 24) C w (runSW (n := 2) C w.1 w.2 (c_Lw_undo hI hst e170) lh_201 st_Lw_undo in_Law cw_Lw_undo ⟨by decide +kernel, by decide +kernel, by decide +kernel⟩ rfl ⟨(Nat.le_of_ble_eq_true rfl), (Nat.le_of_ble_eq_true rfl)⟩ ⟨by show c0 + 1 ≤ 601024; omega, by show s0 + 6 ≤ 7293034; omega⟩ (Nat.le_of_ble_eq_true rfl) d_law_1324 hl.1 (rest := []) rfl) (by omega) (by omega) (fun H locs w => ?_)
  refine m_istore C hl [(5, .int (iZ q169.1)), (0, .ref b), (1, .ref (ad 0)), (2, .ref (ad 83)), (3, .ref (ad 96)), (4, .int (iZ v4))] d_law_1327 (by decide) rfl (fun ls hl => ?_)
  refine m_aload_n C hl 3 d_law_1329 rfl rfl ?_
  obtain ⟨q172, e171, hM⟩ := bnd_some hM
  refine aftI C w (runV C w.1 w.2 kc_Md sh_83 (Nat.le_of_ble_eq_true rfl) (c_Md_undo hI e171) lk_Lw_203 mb_Md_undo rfl ⟨Nat.le_of_ble_eq_true rfl, Nat.le_of_ble_eq_true rfl⟩ ⟨hz2, hz3⟩ (Nat.le_of_ble_eq_true rfl) d_law_1330 hl.1 (rest := []) rfl) (fun H locs w => ?_)
  refine m_istore C hl [(6, .int (iZ q172.1)), (5, .int (iZ q169.1)), (0, .ref b), (1, .ref (ad 0)), (2, .ref (ad 83)), (3, .ref (ad 96)), (4, .int (iZ v4))] d_law_1333 (by decide) rfl (fun ls hl => ?_)
  refine m_aload_n C hl 4 d_law_1335 rfl rfl ?_
  obtain ⟨x174, e173, hM⟩ := bnd_some hM
  refine aftR (runV C w.1 w.2 kc_Md sh_83 (Nat.le_of_ble_eq_true rfl) (c_Md_thrown hI e173) lk_Lw_152 mb_Md_thrown rfl ⟨Nat.le_of_ble_eq_true rfl, Nat.le_of_ble_eq_true rfl⟩ ⟨hz2, hz3⟩ (Nat.le_of_ble_eq_true rfl) d_law_1336 hl.1 (rest := []) rfl) ?_
  refine m_iload C hl 1 d_law_1339 rfl ?_
  refine m_icmp_eq C hM 1346 d_law_1341 (by decide) (fun hM => ?_) (fun hM => ?_)
  · refine m_iload C hl 1 d_law_1346 rfl ?_
    refine m_if_ne C hM 1363 d_law_1348 (by decide) (fun hM => ?_) (fun hM => ?_)
    · refine m_goto C 2814 d_law_1363 (by decide) ?_
      exact kW q172.2 hM _ _ w _ (lv_sub hl [2, 3, 4, 5, 6] rfl)
    · refine m_aload_n C hl 5 d_law_1351 rfl rfl ?_
      refine m_iconst C d_law_1352 ?_
      refine m_lald C w d_law_1353 ?_
      refine m_iload C hl 0 d_law_1354 rfl ?_
      refine m_i2l C d_law_1356 ?_
      refine m_lceq C hM 1363 d_law_1357 d_law_1358 (by decide) (fun hM => ?_) (fun hM => ?_)
      · refine m_goto C 2814 d_law_1363 (by decide) ?_
        exact kW q172.2 hM _ _ w _ (lv_sub hl [2, 3, 4, 5, 6] rfl)
      · refine m_iconst C d_law_1361 ?_
        cases hM
  · refine m_iconst C d_law_1344 ?_
    cases hM
set_option maxHeartbeats 4000000 in
set_option maxRecDepth 100000 in
theorem w_case_18 {p : Program} {l : Launch} {e : Env} {s : State} {m : MethodId} {args : Array Value} {below : List Frame} {meth : Method} {c : Code} {Q : State → Prop} {D : va_G} {ad : Nat → Nat} {cA : Nat → ClassId} {sd sv : Nat → Nat} {A : Nat → Prop} {b L : Nat} {xs : Nat → Int32} {N c0 s0 : Nat} {v4 : Int} (hI : Inj97 ad) (hst : l.stackTraces = false) (C : Cx p s m args c code 7 "FeastBookLaw" D ad cA sd sv A) (X : Sc s A b L xs) (hc0 : c0 + 4 ≤ 601024) (hs0 : s0 + 24 ≤ 7293034) {k : Hp → Option Int} (kW : ∀ h : Hp, k h = some 1 → ∀ (H : Heap) (locs : List Loc), Wd s D ad cA A h H locs → ∀ ls : Array Slot, lv_has ls 7 [(0, .ref b), (1, .ref (ad 0)), (2, .ref (ad 83)), (3, .ref (ad 96)), (4, .int (iZ v4))] → W p l e room_1 s m args below meth c H locs (c0 + 4) (s0 + 24) Q (F0 m 2814 ls [])) {h : Hp} {H : Heap} {locs : List Loc} (w : Wd s D ad cA A h H locs) {ls : Array Slot} (hl : lv_has ls 7 [(0, .ref b), (1, .ref (ad 0)), (2, .ref (ad 83)), (3, .ref (ad 96)), (4, .int (iZ v4))]) (hM : Lw_case_18 N L xs v4 h k = some 1) : W p l e room_1 s m args below meth c H locs c0 s0 Q (F0 m 1366 ls []) := by
  unfold Lw_case_18 at hM
  have hz0 : c0 ≤ room_1.cells := by show c0 ≤ 601024; omega
  have hz1 : s0 ≤ room_1.slots := by show s0 ≤ 7293034; omega
  have hz2 : c0 + 4 ≤ room_1.cells := hc0
  have hz3 : s0 + 24 ≤ room_1.slots := hs0
  refine m_aload_n C hl 1 d_law_1366 rfl rfl ?_
  refine m_aload_n C hl 3 d_law_1367 rfl rfl ?_
  obtain ⟨q175, e176, hM⟩ := bnd_some hM
  refine aftW (c1 := c0 + 4) (s1 := s0 + 24) C w (runSW (n := 2) C w.1 w.2 (c_Lw_cycle hI hst e176) lh_204 st_Lw_cycle in_Law cw_Lw_cycle ⟨by decide +kernel, by decide +kernel, by decide +kernel⟩ rfl ⟨(Nat.le_of_ble_eq_true rfl), (Nat.le_of_ble_eq_true rfl)⟩ ⟨by show c0 + 1 ≤ 601024; omega, by show s0 + 6 ≤ 7293034; omega⟩ (Nat.le_of_ble_eq_true rfl) d_law_1368 hl.1 (rest := []) rfl) (by omega) (by omega) (fun H locs w => ?_)
  refine m_istore C hl [(5, .int (iZ q175.1)), (0, .ref b), (1, .ref (ad 0)), (2, .ref (ad 83)), (3, .ref (ad 96)), (4, .int (iZ v4))] d_law_1371 (by decide) rfl (fun ls hl => ?_)
  refine m_aload_n C hl 3 d_law_1373 rfl rfl ?_
  obtain ⟨q178, e177, hM⟩ := bnd_some hM
  refine aftI C w (runV C w.1 w.2 kc_Md sh_83 (Nat.le_of_ble_eq_true rfl) (c_Md_cycle hI e177) lk_Lw_206 mb_Md_cycle rfl ⟨Nat.le_of_ble_eq_true rfl, Nat.le_of_ble_eq_true rfl⟩ ⟨hz2, hz3⟩ (Nat.le_of_ble_eq_true rfl) d_law_1374 hl.1 (rest := []) rfl) (fun H locs w => ?_)
  refine m_istore C hl [(6, .int (iZ q178.1)), (5, .int (iZ q175.1)), (0, .ref b), (1, .ref (ad 0)), (2, .ref (ad 83)), (3, .ref (ad 96)), (4, .int (iZ v4))] d_law_1377 (by decide) rfl (fun ls hl => ?_)
  refine m_aload_n C hl 4 d_law_1379 rfl rfl ?_
  obtain ⟨x180, e179, hM⟩ := bnd_some hM
  refine aftR (runV C w.1 w.2 kc_Md sh_83 (Nat.le_of_ble_eq_true rfl) (c_Md_thrown hI e179) lk_Lw_152 mb_Md_thrown rfl ⟨Nat.le_of_ble_eq_true rfl, Nat.le_of_ble_eq_true rfl⟩ ⟨hz2, hz3⟩ (Nat.le_of_ble_eq_true rfl) d_law_1380 hl.1 (rest := []) rfl) ?_
  refine m_iload C hl 1 d_law_1383 rfl ?_
  refine m_icmp_eq C hM 1390 d_law_1385 (by decide) (fun hM => ?_) (fun hM => ?_)
  · refine m_iload C hl 1 d_law_1390 rfl ?_
    refine m_if_ne C hM 1407 d_law_1392 (by decide) (fun hM => ?_) (fun hM => ?_)
    · refine m_goto C 2814 d_law_1407 (by decide) ?_
      exact kW q178.2 hM _ _ w _ (lv_sub hl [2, 3, 4, 5, 6] rfl)
    · refine m_aload_n C hl 5 d_law_1395 rfl rfl ?_
      refine m_iconst C d_law_1396 ?_
      refine m_lald C w d_law_1397 ?_
      refine m_iload C hl 0 d_law_1398 rfl ?_
      refine m_i2l C d_law_1400 ?_
      refine m_lceq C hM 1407 d_law_1401 d_law_1402 (by decide) (fun hM => ?_) (fun hM => ?_)
      · refine m_goto C 2814 d_law_1407 (by decide) ?_
        exact kW q178.2 hM _ _ w _ (lv_sub hl [2, 3, 4, 5, 6] rfl)
      · refine m_iconst C d_law_1405 ?_
        cases hM
  · refine m_iconst C d_law_1388 ?_
    cases hM
set_option maxHeartbeats 4000000 in
set_option maxRecDepth 100000 in
theorem w_case_19 {p : Program} {l : Launch} {e : Env} {s : State} {m : MethodId} {args : Array Value} {below : List Frame} {meth : Method} {c : Code} {Q : State → Prop} {D : va_G} {ad : Nat → Nat} {cA : Nat → ClassId} {sd sv : Nat → Nat} {A : Nat → Prop} {b L : Nat} {xs : Nat → Int32} {N c0 s0 : Nat} {v4 : Int} (hI : Inj97 ad) (hst : l.stackTraces = false) (C : Cx p s m args c code 7 "FeastBookLaw" D ad cA sd sv A) (X : Sc s A b L xs) (hc0 : c0 + 4 ≤ 601024) (hs0 : s0 + 24 ≤ 7293034) {k : Hp → Option Int} (kW : ∀ h : Hp, k h = some 1 → ∀ (H : Heap) (locs : List Loc), Wd s D ad cA A h H locs → ∀ ls : Array Slot, lv_has ls 7 [(0, .ref b), (1, .ref (ad 0)), (2, .ref (ad 83)), (3, .ref (ad 96)), (4, .int (iZ v4))] → W p l e room_1 s m args below meth c H locs (c0 + 4) (s0 + 24) Q (F0 m 2814 ls [])) {h : Hp} {H : Heap} {locs : List Loc} (w : Wd s D ad cA A h H locs) {ls : Array Slot} (hl : lv_has ls 7 [(0, .ref b), (1, .ref (ad 0)), (2, .ref (ad 83)), (3, .ref (ad 96)), (4, .int (iZ v4))]) (hM : Lw_case_19 N L xs v4 h k = some 1) : W p l e room_1 s m args below meth c H locs c0 s0 Q (F0 m 1410 ls []) := by
  unfold Lw_case_19 at hM
  have hz0 : c0 ≤ room_1.cells := by show c0 ≤ 601024; omega
  have hz1 : s0 ≤ room_1.slots := by show s0 ≤ 7293034; omega
  have hz2 : c0 + 4 ≤ room_1.cells := hc0
  have hz3 : s0 + 24 ≤ room_1.slots := hs0
  refine m_aload_n C hl 1 d_law_1410 rfl rfl ?_
  refine m_aload_n C hl 0 d_law_1411 rfl rfl ?_
  refine m_iload C hl 4 d_law_1412 rfl ?_
  refine m_iconst C d_law_1414 ?_
  refine m_iadd C d_law_1415 ?_
  refine m_sld C X w hM d_law_1416 (fun x181 hM => ?_)
  refine m_aload_n C hl 0 d_law_1417 rfl rfl ?_
  refine m_iload C hl 4 d_law_1418 rfl ?_
  refine m_iconst C d_law_1420 ?_
  refine m_iadd C d_law_1421 ?_
  refine m_sld C X w hM d_law_1422 (fun x182 hM => ?_)
  refine m_aload_n C hl 0 d_law_1423 rfl rfl ?_
  refine m_iload C hl 4 d_law_1424 rfl ?_
  refine m_iconst C d_law_1426 ?_
  refine m_iadd C d_law_1427 ?_
  refine m_sld C X w hM d_law_1428 (fun x183 hM => ?_)
  refine m_b01 C d_law_1429 d_law_1432 d_law_1433 d_law_1436 ?_
  refine m_aload_n C hl 3 d_law_1437 rfl rfl ?_
  obtain ⟨q184, e185, hM⟩ := bnd_some hM
  refine aftW (c1 := c0 + 4) (s1 := s0 + 24) C w (runSW (n := 5) C w.1 w.2 (c_Lw_fates hI hst e185) lh_207 st_Lw_fates in_Law cw_Lw_fates ⟨by decide +kernel, by decide +kernel, by decide +kernel⟩ rfl ⟨(Nat.le_of_ble_eq_true rfl), (Nat.le_of_ble_eq_true rfl)⟩ ⟨by show c0 + 2 ≤ 601024; omega, by show s0 + 12 ≤ 7293034; omega⟩ (Nat.le_of_ble_eq_true rfl) d_law_1438 hl.1 (rest := []) rfl) (by omega) (by omega) (fun H locs w => ?_)
  refine m_istore C hl [(5, .int (iZ q184.1)), (0, .ref b), (1, .ref (ad 0)), (2, .ref (ad 83)), (3, .ref (ad 96)), (4, .int (iZ v4))] d_law_1441 (by decide) rfl (fun ls hl => ?_)
  refine m_aload_n C hl 3 d_law_1443 rfl rfl ?_
  refine m_aload_n C hl 1 d_law_1444 rfl rfl ?_
  refine m_iload C hl 5 d_law_1445 rfl ?_
  refine m_iconst C d_law_1447 ?_
  refine m_iadd C d_law_1448 ?_
  refine m_sld C X w hM d_law_1449 (fun x186 hM => ?_)
  refine m_aload_n C hl 1 d_law_1450 rfl rfl ?_
  refine m_iload C hl 5 d_law_1451 rfl ?_
  refine m_iconst C d_law_1453 ?_
  refine m_iadd C d_law_1454 ?_
  refine m_sld C X w hM d_law_1455 (fun x187 hM => ?_)
  refine m_aload_n C hl 1 d_law_1456 rfl rfl ?_
  refine m_iload C hl 5 d_law_1457 rfl ?_
  refine m_iconst C d_law_1459 ?_
  refine m_iadd C d_law_1460 ?_
  refine m_sld C X w hM d_law_1461 (fun x188 hM => ?_)
  refine m_b01 C d_law_1462 d_law_1465 d_law_1466 d_law_1469 ?_
  obtain ⟨q190, e189, hM⟩ := bnd_some hM
  refine aftI C w (runV C w.1 w.2 kc_Md sh_83 (Nat.le_of_ble_eq_true rfl) (c_Md_fates hI e189) lk_Lw_210 mb_Md_fates rfl ⟨Nat.le_of_ble_eq_true rfl, Nat.le_of_ble_eq_true rfl⟩ ⟨hz2, hz3⟩ (Nat.le_of_ble_eq_true rfl) d_law_1470 hl.1 (rest := []) rfl) (fun H locs w => ?_)
  refine m_istore C hl [(6, .int (iZ q190.1)), (5, .int (iZ q184.1)), (0, .ref b), (1, .ref (ad 0)), (2, .ref (ad 83)), (3, .ref (ad 96)), (4, .int (iZ v4))] d_law_1473 (by decide) rfl (fun ls hl => ?_)
  refine m_aload_n C hl 4 d_law_1475 rfl rfl ?_
  obtain ⟨x192, e191, hM⟩ := bnd_some hM
  refine aftR (runV C w.1 w.2 kc_Md sh_83 (Nat.le_of_ble_eq_true rfl) (c_Md_thrown hI e191) lk_Lw_152 mb_Md_thrown rfl ⟨Nat.le_of_ble_eq_true rfl, Nat.le_of_ble_eq_true rfl⟩ ⟨hz2, hz3⟩ (Nat.le_of_ble_eq_true rfl) d_law_1476 hl.1 (rest := []) rfl) ?_
  refine m_iload C hl 1 d_law_1479 rfl ?_
  refine m_icmp_eq C hM 1486 d_law_1481 (by decide) (fun hM => ?_) (fun hM => ?_)
  · refine m_iload C hl 1 d_law_1486 rfl ?_
    refine m_if_ne C hM 1503 d_law_1488 (by decide) (fun hM => ?_) (fun hM => ?_)
    · refine m_goto C 2814 d_law_1503 (by decide) ?_
      exact kW q190.2 hM _ _ w _ (lv_sub hl [2, 3, 4, 5, 6] rfl)
    · refine m_aload_n C hl 5 d_law_1491 rfl rfl ?_
      refine m_iconst C d_law_1492 ?_
      refine m_lald C w d_law_1493 ?_
      refine m_iload C hl 0 d_law_1494 rfl ?_
      refine m_i2l C d_law_1496 ?_
      refine m_lceq C hM 1503 d_law_1497 d_law_1498 (by decide) (fun hM => ?_) (fun hM => ?_)
      · refine m_goto C 2814 d_law_1503 (by decide) ?_
        exact kW q190.2 hM _ _ w _ (lv_sub hl [2, 3, 4, 5, 6] rfl)
      · refine m_iconst C d_law_1501 ?_
        cases hM
  · refine m_iconst C d_law_1484 ?_
    cases hM
set_option maxHeartbeats 4000000 in
set_option maxRecDepth 100000 in
theorem w_case_20 {p : Program} {l : Launch} {e : Env} {s : State} {m : MethodId} {args : Array Value} {below : List Frame} {meth : Method} {c : Code} {Q : State → Prop} {D : va_G} {ad : Nat → Nat} {cA : Nat → ClassId} {sd sv : Nat → Nat} {A : Nat → Prop} {b L : Nat} {xs : Nat → Int32} {N c0 s0 : Nat} {v4 : Int} (hI : Inj97 ad) (hst : l.stackTraces = false) (C : Cx p s m args c code 7 "FeastBookLaw" D ad cA sd sv A) (X : Sc s A b L xs) (hc0 : c0 + 4 ≤ 601024) (hs0 : s0 + 24 ≤ 7293034) {k : Hp → Option Int} (kW : ∀ h : Hp, k h = some 1 → ∀ (H : Heap) (locs : List Loc), Wd s D ad cA A h H locs → ∀ ls : Array Slot, lv_has ls 7 [(0, .ref b), (1, .ref (ad 0)), (2, .ref (ad 83)), (3, .ref (ad 96)), (4, .int (iZ v4))] → W p l e room_1 s m args below meth c H locs (c0 + 4) (s0 + 24) Q (F0 m 2814 ls [])) {h : Hp} {H : Heap} {locs : List Loc} (w : Wd s D ad cA A h H locs) {ls : Array Slot} (hl : lv_has ls 7 [(0, .ref b), (1, .ref (ad 0)), (2, .ref (ad 83)), (3, .ref (ad 96)), (4, .int (iZ v4))]) (hM : Lw_case_20 N L xs v4 h k = some 1) : W p l e room_1 s m args below meth c H locs c0 s0 Q (F0 m 1506 ls []) := by
  unfold Lw_case_20 at hM
  have hz0 : c0 ≤ room_1.cells := by show c0 ≤ 601024; omega
  have hz1 : s0 ≤ room_1.slots := by show s0 ≤ 7293034; omega
  have hz2 : c0 + 4 ≤ room_1.cells := hc0
  have hz3 : s0 + 24 ≤ room_1.slots := hs0
  refine m_aload_n C hl 1 d_law_1506 rfl rfl ?_
  refine m_aload_n C hl 0 d_law_1507 rfl rfl ?_
  refine m_iload C hl 4 d_law_1508 rfl ?_
  refine m_iconst C d_law_1510 ?_
  refine m_iadd C d_law_1511 ?_
  refine m_sld C X w hM d_law_1512 (fun x193 hM => ?_)
  refine m_aload_n C hl 3 d_law_1513 rfl rfl ?_
  obtain ⟨q194, e195, hM⟩ := bnd_some hM
  refine aftW (c1 := c0 + 4) (s1 := s0 + 24) C w (runSW (n := 3) C w.1 w.2 (c_Lw_far hI hst e195) lh_211 st_Lw_far in_Law cw_Lw_far ⟨by decide +kernel, by decide +kernel, by decide +kernel⟩ rfl ⟨(Nat.le_of_ble_eq_true rfl), (Nat.le_of_ble_eq_true rfl)⟩ ⟨by show c0 + 1 ≤ 601024; omega, by show s0 + 6 ≤ 7293034; omega⟩ (Nat.le_of_ble_eq_true rfl) d_law_1514 hl.1 (rest := []) rfl) (by omega) (by omega) (fun H locs w => ?_)
  refine m_istore C hl [(5, .int (iZ q194.1)), (0, .ref b), (1, .ref (ad 0)), (2, .ref (ad 83)), (3, .ref (ad 96)), (4, .int (iZ v4))] d_law_1517 (by decide) rfl (fun ls hl => ?_)
  refine m_aload_n C hl 3 d_law_1519 rfl rfl ?_
  refine m_aload_n C hl 1 d_law_1520 rfl rfl ?_
  refine m_iload C hl 5 d_law_1521 rfl ?_
  refine m_iconst C d_law_1523 ?_
  refine m_iadd C d_law_1524 ?_
  refine m_sld C X w hM d_law_1525 (fun x196 hM => ?_)
  obtain ⟨q198, e197, hM⟩ := bnd_some hM
  refine aftI C w (runV C w.1 w.2 kc_Md sh_83 (Nat.le_of_ble_eq_true rfl) (c_Md_far hI e197) lk_Lw_213 mb_Md_far rfl ⟨Nat.le_of_ble_eq_true rfl, Nat.le_of_ble_eq_true rfl⟩ ⟨hz2, hz3⟩ (Nat.le_of_ble_eq_true rfl) d_law_1526 hl.1 (rest := []) rfl) (fun H locs w => ?_)
  refine m_istore C hl [(6, .int (iZ q198.1)), (5, .int (iZ q194.1)), (0, .ref b), (1, .ref (ad 0)), (2, .ref (ad 83)), (3, .ref (ad 96)), (4, .int (iZ v4))] d_law_1529 (by decide) rfl (fun ls hl => ?_)
  refine m_aload_n C hl 4 d_law_1531 rfl rfl ?_
  obtain ⟨x200, e199, hM⟩ := bnd_some hM
  refine aftR (runV C w.1 w.2 kc_Md sh_83 (Nat.le_of_ble_eq_true rfl) (c_Md_thrown hI e199) lk_Lw_152 mb_Md_thrown rfl ⟨Nat.le_of_ble_eq_true rfl, Nat.le_of_ble_eq_true rfl⟩ ⟨hz2, hz3⟩ (Nat.le_of_ble_eq_true rfl) d_law_1532 hl.1 (rest := []) rfl) ?_
  refine m_iload C hl 1 d_law_1535 rfl ?_
  refine m_icmp_eq C hM 1542 d_law_1537 (by decide) (fun hM => ?_) (fun hM => ?_)
  · refine m_iload C hl 1 d_law_1542 rfl ?_
    refine m_if_ne C hM 1559 d_law_1544 (by decide) (fun hM => ?_) (fun hM => ?_)
    · refine m_goto C 2814 d_law_1559 (by decide) ?_
      exact kW q198.2 hM _ _ w _ (lv_sub hl [2, 3, 4, 5, 6] rfl)
    · refine m_aload_n C hl 5 d_law_1547 rfl rfl ?_
      refine m_iconst C d_law_1548 ?_
      refine m_lald C w d_law_1549 ?_
      refine m_iload C hl 0 d_law_1550 rfl ?_
      refine m_i2l C d_law_1552 ?_
      refine m_lceq C hM 1559 d_law_1553 d_law_1554 (by decide) (fun hM => ?_) (fun hM => ?_)
      · refine m_goto C 2814 d_law_1559 (by decide) ?_
        exact kW q198.2 hM _ _ w _ (lv_sub hl [2, 3, 4, 5, 6] rfl)
      · refine m_iconst C d_law_1557 ?_
        cases hM
  · refine m_iconst C d_law_1540 ?_
    cases hM
set_option maxHeartbeats 4000000 in
set_option maxRecDepth 100000 in
theorem w_case_21 {p : Program} {l : Launch} {e : Env} {s : State} {m : MethodId} {args : Array Value} {below : List Frame} {meth : Method} {c : Code} {Q : State → Prop} {D : va_G} {ad : Nat → Nat} {cA : Nat → ClassId} {sd sv : Nat → Nat} {A : Nat → Prop} {b L : Nat} {xs : Nat → Int32} {N c0 s0 : Nat} {v4 : Int} (hI : Inj97 ad) (hst : l.stackTraces = false) (C : Cx p s m args c code 7 "FeastBookLaw" D ad cA sd sv A) (X : Sc s A b L xs) (hc0 : c0 + 4 ≤ 601024) (hs0 : s0 + 24 ≤ 7293034) {k : Hp → Option Int} (kW : ∀ h : Hp, k h = some 1 → ∀ (H : Heap) (locs : List Loc), Wd s D ad cA A h H locs → ∀ ls : Array Slot, lv_has ls 7 [(0, .ref b), (1, .ref (ad 0)), (2, .ref (ad 83)), (3, .ref (ad 96)), (4, .int (iZ v4))] → W p l e room_1 s m args below meth c H locs (c0 + 4) (s0 + 24) Q (F0 m 2814 ls [])) {h : Hp} {H : Heap} {locs : List Loc} (w : Wd s D ad cA A h H locs) {ls : Array Slot} (hl : lv_has ls 7 [(0, .ref b), (1, .ref (ad 0)), (2, .ref (ad 83)), (3, .ref (ad 96)), (4, .int (iZ v4))]) (hM : Lw_case_21 N L xs v4 h k = some 1) : W p l e room_1 s m args below meth c H locs c0 s0 Q (F0 m 1562 ls []) := by
  unfold Lw_case_21 at hM
  have hz0 : c0 ≤ room_1.cells := by show c0 ≤ 601024; omega
  have hz1 : s0 ≤ room_1.slots := by show s0 ≤ 7293034; omega
  have hz2 : c0 + 4 ≤ room_1.cells := hc0
  have hz3 : s0 + 24 ≤ room_1.slots := hs0
  refine m_aload_n C hl 1 d_law_1562 rfl rfl ?_
  refine m_aload_n C hl 0 d_law_1563 rfl rfl ?_
  refine m_iload C hl 4 d_law_1564 rfl ?_
  refine m_iconst C d_law_1566 ?_
  refine m_iadd C d_law_1567 ?_
  refine m_sld C X w hM d_law_1568 (fun x201 hM => ?_)
  refine m_aload_n C hl 0 d_law_1569 rfl rfl ?_
  refine m_iload C hl 4 d_law_1570 rfl ?_
  refine m_iconst C d_law_1572 ?_
  refine m_iadd C d_law_1573 ?_
  refine m_sld C X w hM d_law_1574 (fun x202 hM => ?_)
  refine m_b01 C d_law_1575 d_law_1578 d_law_1579 d_law_1582 ?_
  refine m_aload_n C hl 3 d_law_1583 rfl rfl ?_
  obtain ⟨q203, e204, hM⟩ := bnd_some hM
  refine aftW (c1 := c0 + 4) (s1 := s0 + 24) C w (runSW (n := 4) C w.1 w.2 (c_Lw_span hI hst e204) lh_214 st_Lw_span in_Law cw_Lw_span ⟨by decide +kernel, by decide +kernel, by decide +kernel⟩ rfl ⟨(Nat.le_of_ble_eq_true rfl), (Nat.le_of_ble_eq_true rfl)⟩ ⟨by show c0 + 1 ≤ 601024; omega, by show s0 + 6 ≤ 7293034; omega⟩ (Nat.le_of_ble_eq_true rfl) d_law_1584 hl.1 (rest := []) rfl) (by omega) (by omega) (fun H locs w => ?_)
  refine m_istore C hl [(5, .int (iZ q203.1)), (0, .ref b), (1, .ref (ad 0)), (2, .ref (ad 83)), (3, .ref (ad 96)), (4, .int (iZ v4))] d_law_1587 (by decide) rfl (fun ls hl => ?_)
  refine m_aload_n C hl 3 d_law_1589 rfl rfl ?_
  refine m_aload_n C hl 1 d_law_1590 rfl rfl ?_
  refine m_iload C hl 5 d_law_1591 rfl ?_
  refine m_iconst C d_law_1593 ?_
  refine m_iadd C d_law_1594 ?_
  refine m_sld C X w hM d_law_1595 (fun x205 hM => ?_)
  refine m_aload_n C hl 1 d_law_1596 rfl rfl ?_
  refine m_iload C hl 5 d_law_1597 rfl ?_
  refine m_iconst C d_law_1599 ?_
  refine m_iadd C d_law_1600 ?_
  refine m_sld C X w hM d_law_1601 (fun x206 hM => ?_)
  refine m_b01 C d_law_1602 d_law_1605 d_law_1606 d_law_1609 ?_
  obtain ⟨q208, e207, hM⟩ := bnd_some hM
  refine aftI C w (runV C w.1 w.2 kc_Md sh_83 (Nat.le_of_ble_eq_true rfl) (c_Md_span hI e207) lk_Lw_217 mb_Md_span rfl ⟨Nat.le_of_ble_eq_true rfl, Nat.le_of_ble_eq_true rfl⟩ ⟨hz2, hz3⟩ (Nat.le_of_ble_eq_true rfl) d_law_1610 hl.1 (rest := []) rfl) (fun H locs w => ?_)
  refine m_istore C hl [(6, .int (iZ q208.1)), (5, .int (iZ q203.1)), (0, .ref b), (1, .ref (ad 0)), (2, .ref (ad 83)), (3, .ref (ad 96)), (4, .int (iZ v4))] d_law_1613 (by decide) rfl (fun ls hl => ?_)
  refine m_aload_n C hl 4 d_law_1615 rfl rfl ?_
  obtain ⟨x210, e209, hM⟩ := bnd_some hM
  refine aftR (runV C w.1 w.2 kc_Md sh_83 (Nat.le_of_ble_eq_true rfl) (c_Md_thrown hI e209) lk_Lw_152 mb_Md_thrown rfl ⟨Nat.le_of_ble_eq_true rfl, Nat.le_of_ble_eq_true rfl⟩ ⟨hz2, hz3⟩ (Nat.le_of_ble_eq_true rfl) d_law_1616 hl.1 (rest := []) rfl) ?_
  refine m_iload C hl 1 d_law_1619 rfl ?_
  refine m_icmp_eq C hM 1626 d_law_1621 (by decide) (fun hM => ?_) (fun hM => ?_)
  · refine m_iload C hl 1 d_law_1626 rfl ?_
    refine m_if_ne C hM 1643 d_law_1628 (by decide) (fun hM => ?_) (fun hM => ?_)
    · refine m_goto C 2814 d_law_1643 (by decide) ?_
      exact kW q208.2 hM _ _ w _ (lv_sub hl [2, 3, 4, 5, 6] rfl)
    · refine m_aload_n C hl 5 d_law_1631 rfl rfl ?_
      refine m_iconst C d_law_1632 ?_
      refine m_lald C w d_law_1633 ?_
      refine m_iload C hl 0 d_law_1634 rfl ?_
      refine m_i2l C d_law_1636 ?_
      refine m_lceq C hM 1643 d_law_1637 d_law_1638 (by decide) (fun hM => ?_) (fun hM => ?_)
      · refine m_goto C 2814 d_law_1643 (by decide) ?_
        exact kW q208.2 hM _ _ w _ (lv_sub hl [2, 3, 4, 5, 6] rfl)
      · refine m_iconst C d_law_1641 ?_
        cases hM
  · refine m_iconst C d_law_1624 ?_
    cases hM
set_option maxHeartbeats 4000000 in
set_option maxRecDepth 100000 in
theorem w_case_22 {p : Program} {l : Launch} {e : Env} {s : State} {m : MethodId} {args : Array Value} {below : List Frame} {meth : Method} {c : Code} {Q : State → Prop} {D : va_G} {ad : Nat → Nat} {cA : Nat → ClassId} {sd sv : Nat → Nat} {A : Nat → Prop} {b L : Nat} {xs : Nat → Int32} {N c0 s0 : Nat} {v4 : Int} (hI : Inj97 ad) (hst : l.stackTraces = false) (C : Cx p s m args c code 7 "FeastBookLaw" D ad cA sd sv A) (X : Sc s A b L xs) (hc0 : c0 + 4 ≤ 601024) (hs0 : s0 + 24 ≤ 7293034) {k : Hp → Option Int} (kW : ∀ h : Hp, k h = some 1 → ∀ (H : Heap) (locs : List Loc), Wd s D ad cA A h H locs → ∀ ls : Array Slot, lv_has ls 7 [(0, .ref b), (1, .ref (ad 0)), (2, .ref (ad 83)), (3, .ref (ad 96)), (4, .int (iZ v4))] → W p l e room_1 s m args below meth c H locs (c0 + 4) (s0 + 24) Q (F0 m 2814 ls [])) {h : Hp} {H : Heap} {locs : List Loc} (w : Wd s D ad cA A h H locs) {ls : Array Slot} (hl : lv_has ls 7 [(0, .ref b), (1, .ref (ad 0)), (2, .ref (ad 83)), (3, .ref (ad 96)), (4, .int (iZ v4))]) (hM : Lw_case_22 N L xs v4 h k = some 1) : W p l e room_1 s m args below meth c H locs c0 s0 Q (F0 m 1646 ls []) := by
  unfold Lw_case_22 at hM
  have hz0 : c0 ≤ room_1.cells := by show c0 ≤ 601024; omega
  have hz1 : s0 ≤ room_1.slots := by show s0 ≤ 7293034; omega
  have hz2 : c0 + 4 ≤ room_1.cells := hc0
  have hz3 : s0 + 24 ≤ room_1.slots := hs0
  refine m_aload_n C hl 1 d_law_1646 rfl rfl ?_
  refine m_aload_n C hl 0 d_law_1647 rfl rfl ?_
  refine m_iload C hl 4 d_law_1648 rfl ?_
  refine m_iconst C d_law_1650 ?_
  refine m_iadd C d_law_1651 ?_
  refine m_sld C X w hM d_law_1652 (fun x211 hM => ?_)
  refine m_aload_n C hl 3 d_law_1653 rfl rfl ?_
  obtain ⟨q212, e213, hM⟩ := bnd_some hM
  refine aftW (c1 := c0 + 4) (s1 := s0 + 24) C w (runSW (n := 3) C w.1 w.2 (c_Lw_meets hI hst e213) lh_218 st_Lw_meets in_Law cw_Lw_meets ⟨by decide +kernel, by decide +kernel, by decide +kernel⟩ rfl ⟨(Nat.le_of_ble_eq_true rfl), (Nat.le_of_ble_eq_true rfl)⟩ ⟨by show c0 + 1 ≤ 601024; omega, by show s0 + 6 ≤ 7293034; omega⟩ (Nat.le_of_ble_eq_true rfl) d_law_1654 hl.1 (rest := []) rfl) (by omega) (by omega) (fun H locs w => ?_)
  refine m_istore C hl [(5, .int (iZ q212.1)), (0, .ref b), (1, .ref (ad 0)), (2, .ref (ad 83)), (3, .ref (ad 96)), (4, .int (iZ v4))] d_law_1657 (by decide) rfl (fun ls hl => ?_)
  refine m_aload_n C hl 3 d_law_1659 rfl rfl ?_
  refine m_aload_n C hl 1 d_law_1660 rfl rfl ?_
  refine m_iload C hl 5 d_law_1661 rfl ?_
  refine m_iconst C d_law_1663 ?_
  refine m_iadd C d_law_1664 ?_
  refine m_sld C X w hM d_law_1665 (fun x214 hM => ?_)
  obtain ⟨q216, e215, hM⟩ := bnd_some hM
  refine aftI C w (runV C w.1 w.2 kc_Md sh_83 (Nat.le_of_ble_eq_true rfl) (c_Md_meets hI e215) lk_Lw_220 mb_Md_meets rfl ⟨Nat.le_of_ble_eq_true rfl, Nat.le_of_ble_eq_true rfl⟩ ⟨hz2, hz3⟩ (Nat.le_of_ble_eq_true rfl) d_law_1666 hl.1 (rest := []) rfl) (fun H locs w => ?_)
  refine m_istore C hl [(6, .int (iZ q216.1)), (5, .int (iZ q212.1)), (0, .ref b), (1, .ref (ad 0)), (2, .ref (ad 83)), (3, .ref (ad 96)), (4, .int (iZ v4))] d_law_1669 (by decide) rfl (fun ls hl => ?_)
  refine m_aload_n C hl 4 d_law_1671 rfl rfl ?_
  obtain ⟨x218, e217, hM⟩ := bnd_some hM
  refine aftR (runV C w.1 w.2 kc_Md sh_83 (Nat.le_of_ble_eq_true rfl) (c_Md_thrown hI e217) lk_Lw_152 mb_Md_thrown rfl ⟨Nat.le_of_ble_eq_true rfl, Nat.le_of_ble_eq_true rfl⟩ ⟨hz2, hz3⟩ (Nat.le_of_ble_eq_true rfl) d_law_1672 hl.1 (rest := []) rfl) ?_
  refine m_iload C hl 1 d_law_1675 rfl ?_
  refine m_icmp_eq C hM 1682 d_law_1677 (by decide) (fun hM => ?_) (fun hM => ?_)
  · refine m_iload C hl 1 d_law_1682 rfl ?_
    refine m_if_ne C hM 1699 d_law_1684 (by decide) (fun hM => ?_) (fun hM => ?_)
    · refine m_goto C 2814 d_law_1699 (by decide) ?_
      exact kW q216.2 hM _ _ w _ (lv_sub hl [2, 3, 4, 5, 6] rfl)
    · refine m_aload_n C hl 5 d_law_1687 rfl rfl ?_
      refine m_iconst C d_law_1688 ?_
      refine m_lald C w d_law_1689 ?_
      refine m_iload C hl 0 d_law_1690 rfl ?_
      refine m_i2l C d_law_1692 ?_
      refine m_lceq C hM 1699 d_law_1693 d_law_1694 (by decide) (fun hM => ?_) (fun hM => ?_)
      · refine m_goto C 2814 d_law_1699 (by decide) ?_
        exact kW q216.2 hM _ _ w _ (lv_sub hl [2, 3, 4, 5, 6] rfl)
      · refine m_iconst C d_law_1697 ?_
        cases hM
  · refine m_iconst C d_law_1680 ?_
    cases hM
set_option maxHeartbeats 4000000 in
set_option maxRecDepth 100000 in
theorem w_case_23 {p : Program} {l : Launch} {e : Env} {s : State} {m : MethodId} {args : Array Value} {below : List Frame} {meth : Method} {c : Code} {Q : State → Prop} {D : va_G} {ad : Nat → Nat} {cA : Nat → ClassId} {sd sv : Nat → Nat} {A : Nat → Prop} {b L : Nat} {xs : Nat → Int32} {N c0 s0 : Nat} {v4 : Int} (hI : Inj97 ad) (hst : l.stackTraces = false) (C : Cx p s m args c code 7 "FeastBookLaw" D ad cA sd sv A) (X : Sc s A b L xs) (hc0 : c0 + 4 ≤ 601024) (hs0 : s0 + 24 ≤ 7293034) {k : Hp → Option Int} (kW : ∀ h : Hp, k h = some 1 → ∀ (H : Heap) (locs : List Loc), Wd s D ad cA A h H locs → ∀ ls : Array Slot, lv_has ls 7 [(0, .ref b), (1, .ref (ad 0)), (2, .ref (ad 83)), (3, .ref (ad 96)), (4, .int (iZ v4))] → W p l e room_1 s m args below meth c H locs (c0 + 4) (s0 + 24) Q (F0 m 2814 ls [])) {h : Hp} {H : Heap} {locs : List Loc} (w : Wd s D ad cA A h H locs) {ls : Array Slot} (hl : lv_has ls 7 [(0, .ref b), (1, .ref (ad 0)), (2, .ref (ad 83)), (3, .ref (ad 96)), (4, .int (iZ v4))]) (hM : Lw_case_23 N L xs v4 h k = some 1) : W p l e room_1 s m args below meth c H locs c0 s0 Q (F0 m 1702 ls []) := by
  unfold Lw_case_23 at hM
  have hz0 : c0 ≤ room_1.cells := by show c0 ≤ 601024; omega
  have hz1 : s0 ≤ room_1.slots := by show s0 ≤ 7293034; omega
  have hz2 : c0 + 4 ≤ room_1.cells := hc0
  have hz3 : s0 + 24 ≤ room_1.slots := hs0
  refine m_aload_n C hl 1 d_law_1702 rfl rfl ?_
  refine m_aload_n C hl 0 d_law_1703 rfl rfl ?_
  refine m_iload C hl 4 d_law_1704 rfl ?_
  refine m_iconst C d_law_1706 ?_
  refine m_iadd C d_law_1707 ?_
  refine m_sld C X w hM d_law_1708 (fun x219 hM => ?_)
  refine m_aload_n C hl 0 d_law_1709 rfl rfl ?_
  refine m_iload C hl 4 d_law_1710 rfl ?_
  refine m_iconst C d_law_1712 ?_
  refine m_iadd C d_law_1713 ?_
  refine m_sld C X w hM d_law_1714 (fun x220 hM => ?_)
  refine m_aload_n C hl 3 d_law_1715 rfl rfl ?_
  obtain ⟨q221, e222, hM⟩ := bnd_some hM
  refine aftW (c1 := c0 + 4) (s1 := s0 + 24) C w (runSW (n := 4) C w.1 w.2 (c_Lw_beats hI hst e222) lh_221 st_Lw_beats in_Law cw_Lw_beats ⟨by decide +kernel, by decide +kernel, by decide +kernel⟩ rfl ⟨(Nat.le_of_ble_eq_true rfl), (Nat.le_of_ble_eq_true rfl)⟩ ⟨by show c0 + 3 ≤ 601024; omega, by show s0 + 18 ≤ 7293034; omega⟩ (Nat.le_of_ble_eq_true rfl) d_law_1716 hl.1 (rest := []) rfl) (by omega) (by omega) (fun H locs w => ?_)
  refine m_istore C hl [(5, .int (iZ q221.1)), (0, .ref b), (1, .ref (ad 0)), (2, .ref (ad 83)), (3, .ref (ad 96)), (4, .int (iZ v4))] d_law_1719 (by decide) rfl (fun ls hl => ?_)
  refine m_aload_n C hl 3 d_law_1721 rfl rfl ?_
  refine m_aload_n C hl 1 d_law_1722 rfl rfl ?_
  refine m_iload C hl 5 d_law_1723 rfl ?_
  refine m_iconst C d_law_1725 ?_
  refine m_iadd C d_law_1726 ?_
  refine m_sld C X w hM d_law_1727 (fun x223 hM => ?_)
  refine m_aload_n C hl 1 d_law_1728 rfl rfl ?_
  refine m_iload C hl 5 d_law_1729 rfl ?_
  refine m_iconst C d_law_1731 ?_
  refine m_iadd C d_law_1732 ?_
  refine m_sld C X w hM d_law_1733 (fun x224 hM => ?_)
  obtain ⟨q226, e225, hM⟩ := bnd_some hM
  refine aftI C w (runV C w.1 w.2 kc_Md sh_83 (Nat.le_of_ble_eq_true rfl) (c_Md_beats hI e225) lk_Lw_223 mb_Md_beats rfl ⟨Nat.le_of_ble_eq_true rfl, Nat.le_of_ble_eq_true rfl⟩ ⟨hz2, hz3⟩ (Nat.le_of_ble_eq_true rfl) d_law_1734 hl.1 (rest := []) rfl) (fun H locs w => ?_)
  refine m_istore C hl [(6, .int (iZ q226.1)), (5, .int (iZ q221.1)), (0, .ref b), (1, .ref (ad 0)), (2, .ref (ad 83)), (3, .ref (ad 96)), (4, .int (iZ v4))] d_law_1737 (by decide) rfl (fun ls hl => ?_)
  refine m_aload_n C hl 4 d_law_1739 rfl rfl ?_
  obtain ⟨x228, e227, hM⟩ := bnd_some hM
  refine aftR (runV C w.1 w.2 kc_Md sh_83 (Nat.le_of_ble_eq_true rfl) (c_Md_thrown hI e227) lk_Lw_152 mb_Md_thrown rfl ⟨Nat.le_of_ble_eq_true rfl, Nat.le_of_ble_eq_true rfl⟩ ⟨hz2, hz3⟩ (Nat.le_of_ble_eq_true rfl) d_law_1740 hl.1 (rest := []) rfl) ?_
  refine m_iload C hl 1 d_law_1743 rfl ?_
  refine m_icmp_eq C hM 1750 d_law_1745 (by decide) (fun hM => ?_) (fun hM => ?_)
  · refine m_iload C hl 1 d_law_1750 rfl ?_
    refine m_if_ne C hM 1774 d_law_1752 (by decide) (fun hM => ?_) (fun hM => ?_)
    · refine m_goto C 2814 d_law_1774 (by decide) ?_
      exact kW q226.2 hM _ _ w _ (lv_sub hl [2, 3, 4, 5, 6] rfl)
    · refine m_aload_n C hl 5 d_law_1755 rfl rfl ?_
      refine m_iconst C d_law_1756 ?_
      refine m_lald C w d_law_1757 ?_
      refine m_iload C hl 0 d_law_1758 rfl ?_
      refine m_bl01 C d_law_1760 d_law_1763 d_law_1764 d_law_1767 ?_
      refine m_lceq C hM 1774 d_law_1768 d_law_1769 (by decide) (fun hM => ?_) (fun hM => ?_)
      · refine m_goto C 2814 d_law_1774 (by decide) ?_
        exact kW q226.2 hM _ _ w _ (lv_sub hl [2, 3, 4, 5, 6] rfl)
      · refine m_iconst C d_law_1772 ?_
        cases hM
  · refine m_iconst C d_law_1748 ?_
    cases hM
set_option maxHeartbeats 4000000 in
set_option maxRecDepth 100000 in
theorem w_case_24 {p : Program} {l : Launch} {e : Env} {s : State} {m : MethodId} {args : Array Value} {below : List Frame} {meth : Method} {c : Code} {Q : State → Prop} {D : va_G} {ad : Nat → Nat} {cA : Nat → ClassId} {sd sv : Nat → Nat} {A : Nat → Prop} {b L : Nat} {xs : Nat → Int32} {N c0 s0 : Nat} {v4 : Int} (hI : Inj97 ad) (hst : l.stackTraces = false) (C : Cx p s m args c code 7 "FeastBookLaw" D ad cA sd sv A) (X : Sc s A b L xs) (hc0 : c0 + 4 ≤ 601024) (hs0 : s0 + 24 ≤ 7293034) {k : Hp → Option Int} (kW : ∀ h : Hp, k h = some 1 → ∀ (H : Heap) (locs : List Loc), Wd s D ad cA A h H locs → ∀ ls : Array Slot, lv_has ls 7 [(0, .ref b), (1, .ref (ad 0)), (2, .ref (ad 83)), (3, .ref (ad 96)), (4, .int (iZ v4))] → W p l e room_1 s m args below meth c H locs (c0 + 4) (s0 + 24) Q (F0 m 2814 ls [])) {h : Hp} {H : Heap} {locs : List Loc} (w : Wd s D ad cA A h H locs) {ls : Array Slot} (hl : lv_has ls 7 [(0, .ref b), (1, .ref (ad 0)), (2, .ref (ad 83)), (3, .ref (ad 96)), (4, .int (iZ v4))]) (hM : Lw_case_24 N L xs v4 h k = some 1) : W p l e room_1 s m args below meth c H locs c0 s0 Q (F0 m 1777 ls []) := by
  unfold Lw_case_24 at hM
  have hz0 : c0 ≤ room_1.cells := by show c0 ≤ 601024; omega
  have hz1 : s0 ≤ room_1.slots := by show s0 ≤ 7293034; omega
  have hz2 : c0 + 4 ≤ room_1.cells := hc0
  have hz3 : s0 + 24 ≤ room_1.slots := hs0
  refine m_aload_n C hl 1 d_law_1777 rfl rfl ?_
  refine m_aload_n C hl 0 d_law_1778 rfl rfl ?_
  refine m_iload C hl 4 d_law_1779 rfl ?_
  refine m_iconst C d_law_1781 ?_
  refine m_iadd C d_law_1782 ?_
  refine m_sld C X w hM d_law_1783 (fun x229 hM => ?_)
  refine m_aload_n C hl 3 d_law_1784 rfl rfl ?_
  obtain ⟨q230, e231, hM⟩ := bnd_some hM
  refine aftW (c1 := c0 + 4) (s1 := s0 + 24) C w (runSW (n := 3) C w.1 w.2 (c_Lw_safe hI hst e231) lh_224 st_Lw_safe in_Law cw_Lw_safe ⟨by decide +kernel, by decide +kernel, by decide +kernel⟩ rfl ⟨(Nat.le_of_ble_eq_true rfl), (Nat.le_of_ble_eq_true rfl)⟩ ⟨by show c0 + 1 ≤ 601024; omega, by show s0 + 6 ≤ 7293034; omega⟩ (Nat.le_of_ble_eq_true rfl) d_law_1785 hl.1 (rest := []) rfl) (by omega) (by omega) (fun H locs w => ?_)
  refine m_istore C hl [(5, .int (iZ q230.1)), (0, .ref b), (1, .ref (ad 0)), (2, .ref (ad 83)), (3, .ref (ad 96)), (4, .int (iZ v4))] d_law_1788 (by decide) rfl (fun ls hl => ?_)
  refine m_aload_n C hl 3 d_law_1790 rfl rfl ?_
  refine m_aload_n C hl 1 d_law_1791 rfl rfl ?_
  refine m_iload C hl 5 d_law_1792 rfl ?_
  refine m_iconst C d_law_1794 ?_
  refine m_iadd C d_law_1795 ?_
  refine m_sld C X w hM d_law_1796 (fun x232 hM => ?_)
  obtain ⟨q234, e233, hM⟩ := bnd_some hM
  refine aftI C w (runV C w.1 w.2 kc_Md sh_83 (Nat.le_of_ble_eq_true rfl) (c_Md_safe hI e233) lk_Lw_226 mb_Md_safe rfl ⟨Nat.le_of_ble_eq_true rfl, Nat.le_of_ble_eq_true rfl⟩ ⟨hz2, hz3⟩ (Nat.le_of_ble_eq_true rfl) d_law_1797 hl.1 (rest := []) rfl) (fun H locs w => ?_)
  refine m_istore C hl [(6, .int (iZ q234.1)), (5, .int (iZ q230.1)), (0, .ref b), (1, .ref (ad 0)), (2, .ref (ad 83)), (3, .ref (ad 96)), (4, .int (iZ v4))] d_law_1800 (by decide) rfl (fun ls hl => ?_)
  refine m_aload_n C hl 4 d_law_1802 rfl rfl ?_
  obtain ⟨x236, e235, hM⟩ := bnd_some hM
  refine aftR (runV C w.1 w.2 kc_Md sh_83 (Nat.le_of_ble_eq_true rfl) (c_Md_thrown hI e235) lk_Lw_152 mb_Md_thrown rfl ⟨Nat.le_of_ble_eq_true rfl, Nat.le_of_ble_eq_true rfl⟩ ⟨hz2, hz3⟩ (Nat.le_of_ble_eq_true rfl) d_law_1803 hl.1 (rest := []) rfl) ?_
  refine m_iload C hl 1 d_law_1806 rfl ?_
  refine m_icmp_eq C hM 1813 d_law_1808 (by decide) (fun hM => ?_) (fun hM => ?_)
  · refine m_iload C hl 1 d_law_1813 rfl ?_
    refine m_if_ne C hM 1830 d_law_1815 (by decide) (fun hM => ?_) (fun hM => ?_)
    · refine m_goto C 2814 d_law_1830 (by decide) ?_
      exact kW q234.2 hM _ _ w _ (lv_sub hl [2, 3, 4, 5, 6] rfl)
    · refine m_aload_n C hl 5 d_law_1818 rfl rfl ?_
      refine m_iconst C d_law_1819 ?_
      refine m_lald C w d_law_1820 ?_
      refine m_iload C hl 0 d_law_1821 rfl ?_
      refine m_i2l C d_law_1823 ?_
      refine m_lceq C hM 1830 d_law_1824 d_law_1825 (by decide) (fun hM => ?_) (fun hM => ?_)
      · refine m_goto C 2814 d_law_1830 (by decide) ?_
        exact kW q234.2 hM _ _ w _ (lv_sub hl [2, 3, 4, 5, 6] rfl)
      · refine m_iconst C d_law_1828 ?_
        cases hM
  · refine m_iconst C d_law_1811 ?_
    cases hM
set_option maxHeartbeats 4000000 in
set_option maxRecDepth 100000 in
theorem w_case_25 {p : Program} {l : Launch} {e : Env} {s : State} {m : MethodId} {args : Array Value} {below : List Frame} {meth : Method} {c : Code} {Q : State → Prop} {D : va_G} {ad : Nat → Nat} {cA : Nat → ClassId} {sd sv : Nat → Nat} {A : Nat → Prop} {b L : Nat} {xs : Nat → Int32} {N c0 s0 : Nat} {v4 : Int} (hI : Inj97 ad) (hst : l.stackTraces = false) (C : Cx p s m args c code 7 "FeastBookLaw" D ad cA sd sv A) (X : Sc s A b L xs) (hc0 : c0 + 4 ≤ 601024) (hs0 : s0 + 24 ≤ 7293034) {k : Hp → Option Int} (kW : ∀ h : Hp, k h = some 1 → ∀ (H : Heap) (locs : List Loc), Wd s D ad cA A h H locs → ∀ ls : Array Slot, lv_has ls 7 [(0, .ref b), (1, .ref (ad 0)), (2, .ref (ad 83)), (3, .ref (ad 96)), (4, .int (iZ v4))] → W p l e room_1 s m args below meth c H locs (c0 + 4) (s0 + 24) Q (F0 m 2814 ls [])) {h : Hp} {H : Heap} {locs : List Loc} (w : Wd s D ad cA A h H locs) {ls : Array Slot} (hl : lv_has ls 7 [(0, .ref b), (1, .ref (ad 0)), (2, .ref (ad 83)), (3, .ref (ad 96)), (4, .int (iZ v4))]) (hM : Lw_case_25 N L xs v4 h k = some 1) : W p l e room_1 s m args below meth c H locs c0 s0 Q (F0 m 1833 ls []) := by
  unfold Lw_case_25 at hM
  have hz0 : c0 ≤ room_1.cells := by show c0 ≤ 601024; omega
  have hz1 : s0 ≤ room_1.slots := by show s0 ≤ 7293034; omega
  have hz2 : c0 + 4 ≤ room_1.cells := hc0
  have hz3 : s0 + 24 ≤ room_1.slots := hs0
  refine m_aload_n C hl 1 d_law_1833 rfl rfl ?_
  refine m_aload_n C hl 0 d_law_1834 rfl rfl ?_
  refine m_iload C hl 4 d_law_1835 rfl ?_
  refine m_iconst C d_law_1837 ?_
  refine m_iadd C d_law_1838 ?_
  refine m_sld C X w hM d_law_1839 (fun x237 hM => ?_)
  refine m_aload_n C hl 0 d_law_1840 rfl rfl ?_
  refine m_iload C hl 4 d_law_1841 rfl ?_
  refine m_iconst C d_law_1843 ?_
  refine m_iadd C d_law_1844 ?_
  refine m_sld C X w hM d_law_1845 (fun x238 hM => ?_)
  refine m_aload_n C hl 0 d_law_1846 rfl rfl ?_
  refine m_iload C hl 4 d_law_1847 rfl ?_
  refine m_iconst C d_law_1849 ?_
  refine m_iadd C d_law_1850 ?_
  refine m_sld C X w hM d_law_1851 (fun x239 hM => ?_)
  refine m_aload_n C hl 3 d_law_1852 rfl rfl ?_
  obtain ⟨q240, e241, hM⟩ := bnd_some hM
  refine aftW (c1 := c0 + 4) (s1 := s0 + 24) C w (runSW (n := 5) C w.1 w.2 (c_Lw_next hI hst e241) lh_227 st_Lw_next in_Law cw_Lw_next ⟨by decide +kernel, by decide +kernel, by decide +kernel⟩ rfl ⟨(Nat.le_of_ble_eq_true rfl), (Nat.le_of_ble_eq_true rfl)⟩ ⟨by show c0 + 3 ≤ 601024; omega, by show s0 + 18 ≤ 7293034; omega⟩ (Nat.le_of_ble_eq_true rfl) d_law_1853 hl.1 (rest := []) rfl) (by omega) (by omega) (fun H locs w => ?_)
  refine m_istore C hl [(5, .int (iZ q240.1)), (0, .ref b), (1, .ref (ad 0)), (2, .ref (ad 83)), (3, .ref (ad 96)), (4, .int (iZ v4))] d_law_1856 (by decide) rfl (fun ls hl => ?_)
  refine m_aload_n C hl 3 d_law_1858 rfl rfl ?_
  refine m_aload_n C hl 1 d_law_1859 rfl rfl ?_
  refine m_iload C hl 5 d_law_1860 rfl ?_
  refine m_iconst C d_law_1862 ?_
  refine m_iadd C d_law_1863 ?_
  refine m_sld C X w hM d_law_1864 (fun x242 hM => ?_)
  refine m_aload_n C hl 1 d_law_1865 rfl rfl ?_
  refine m_iload C hl 5 d_law_1866 rfl ?_
  refine m_iconst C d_law_1868 ?_
  refine m_iadd C d_law_1869 ?_
  refine m_sld C X w hM d_law_1870 (fun x243 hM => ?_)
  refine m_aload_n C hl 1 d_law_1871 rfl rfl ?_
  refine m_iload C hl 5 d_law_1872 rfl ?_
  refine m_iconst C d_law_1874 ?_
  refine m_iadd C d_law_1875 ?_
  refine m_sld C X w hM d_law_1876 (fun x244 hM => ?_)
  obtain ⟨q246, e245, hM⟩ := bnd_some hM
  refine aftI C w (runV C w.1 w.2 kc_Md sh_83 (Nat.le_of_ble_eq_true rfl) (c_Md_next hI e245) lk_Lw_229 mb_Md_next rfl ⟨Nat.le_of_ble_eq_true rfl, Nat.le_of_ble_eq_true rfl⟩ ⟨hz2, hz3⟩ (Nat.le_of_ble_eq_true rfl) d_law_1877 hl.1 (rest := []) rfl) (fun H locs w => ?_)
  refine m_istore C hl [(6, .int (iZ q246.1)), (5, .int (iZ q240.1)), (0, .ref b), (1, .ref (ad 0)), (2, .ref (ad 83)), (3, .ref (ad 96)), (4, .int (iZ v4))] d_law_1880 (by decide) rfl (fun ls hl => ?_)
  refine m_aload_n C hl 4 d_law_1882 rfl rfl ?_
  obtain ⟨x248, e247, hM⟩ := bnd_some hM
  refine aftR (runV C w.1 w.2 kc_Md sh_83 (Nat.le_of_ble_eq_true rfl) (c_Md_thrown hI e247) lk_Lw_152 mb_Md_thrown rfl ⟨Nat.le_of_ble_eq_true rfl, Nat.le_of_ble_eq_true rfl⟩ ⟨hz2, hz3⟩ (Nat.le_of_ble_eq_true rfl) d_law_1883 hl.1 (rest := []) rfl) ?_
  refine m_iload C hl 1 d_law_1886 rfl ?_
  refine m_icmp_eq C hM 1893 d_law_1888 (by decide) (fun hM => ?_) (fun hM => ?_)
  · refine m_iload C hl 1 d_law_1893 rfl ?_
    refine m_if_ne C hM 1910 d_law_1895 (by decide) (fun hM => ?_) (fun hM => ?_)
    · refine m_goto C 2814 d_law_1910 (by decide) ?_
      exact kW q246.2 hM _ _ w _ (lv_sub hl [2, 3, 4, 5, 6] rfl)
    · refine m_aload_n C hl 5 d_law_1898 rfl rfl ?_
      refine m_iconst C d_law_1899 ?_
      refine m_lald C w d_law_1900 ?_
      refine m_iload C hl 0 d_law_1901 rfl ?_
      refine m_i2l C d_law_1903 ?_
      refine m_lceq C hM 1910 d_law_1904 d_law_1905 (by decide) (fun hM => ?_) (fun hM => ?_)
      · refine m_goto C 2814 d_law_1910 (by decide) ?_
        exact kW q246.2 hM _ _ w _ (lv_sub hl [2, 3, 4, 5, 6] rfl)
      · refine m_iconst C d_law_1908 ?_
        cases hM
  · refine m_iconst C d_law_1891 ?_
    cases hM
set_option maxHeartbeats 4000000 in
set_option maxRecDepth 100000 in
theorem w_case_26 {p : Program} {l : Launch} {e : Env} {s : State} {m : MethodId} {args : Array Value} {below : List Frame} {meth : Method} {c : Code} {Q : State → Prop} {D : va_G} {ad : Nat → Nat} {cA : Nat → ClassId} {sd sv : Nat → Nat} {A : Nat → Prop} {b L : Nat} {xs : Nat → Int32} {N c0 s0 : Nat} {v4 : Int} (hI : Inj97 ad) (hst : l.stackTraces = false) (C : Cx p s m args c code 7 "FeastBookLaw" D ad cA sd sv A) (X : Sc s A b L xs) (hc0 : c0 + 4 ≤ 601024) (hs0 : s0 + 24 ≤ 7293034) {k : Hp → Option Int} (kW : ∀ h : Hp, k h = some 1 → ∀ (H : Heap) (locs : List Loc), Wd s D ad cA A h H locs → ∀ ls : Array Slot, lv_has ls 7 [(0, .ref b), (1, .ref (ad 0)), (2, .ref (ad 83)), (3, .ref (ad 96)), (4, .int (iZ v4))] → W p l e room_1 s m args below meth c H locs (c0 + 4) (s0 + 24) Q (F0 m 2814 ls [])) {h : Hp} {H : Heap} {locs : List Loc} (w : Wd s D ad cA A h H locs) {ls : Array Slot} (hl : lv_has ls 7 [(0, .ref b), (1, .ref (ad 0)), (2, .ref (ad 83)), (3, .ref (ad 96)), (4, .int (iZ v4))]) (hM : Lw_case_26 N L xs v4 h k = some 1) : W p l e room_1 s m args below meth c H locs c0 s0 Q (F0 m 1913 ls []) := by
  unfold Lw_case_26 at hM
  have hz0 : c0 ≤ room_1.cells := by show c0 ≤ 601024; omega
  have hz1 : s0 ≤ room_1.slots := by show s0 ≤ 7293034; omega
  have hz2 : c0 + 4 ≤ room_1.cells := hc0
  have hz3 : s0 + 24 ≤ room_1.slots := hs0
  refine m_aload_n C hl 1 d_law_1913 rfl rfl ?_
  refine m_aload_n C hl 3 d_law_1914 rfl rfl ?_
  obtain ⟨q249, e250, hM⟩ := bnd_some hM
  refine aftW (c1 := c0 + 4) (s1 := s0 + 24) C w (runSW (n := 2) C w.1 w.2 (c_Lw_unresolved hI hst e250) lh_230 st_Lw_unresolved in_Law cw_Lw_unresolved ⟨by decide +kernel, by decide +kernel, by decide +kernel⟩ rfl ⟨(Nat.le_of_ble_eq_true rfl), (Nat.le_of_ble_eq_true rfl)⟩ ⟨by show c0 + 1 ≤ 601024; omega, by show s0 + 6 ≤ 7293034; omega⟩ (Nat.le_of_ble_eq_true rfl) d_law_1915 hl.1 (rest := []) rfl) (by omega) (by omega) (fun H locs w => ?_)
  refine m_istore C hl [(5, .int (iZ q249.1)), (0, .ref b), (1, .ref (ad 0)), (2, .ref (ad 83)), (3, .ref (ad 96)), (4, .int (iZ v4))] d_law_1918 (by decide) rfl (fun ls hl => ?_)
  refine m_aload_n C hl 3 d_law_1920 rfl rfl ?_
  obtain ⟨q252, e251, hM⟩ := bnd_some hM
  refine aftI C w (runV C w.1 w.2 kc_Md sh_83 (Nat.le_of_ble_eq_true rfl) (c_Md_unresolved hI e251) lk_Lw_232 mb_Md_unresolved rfl ⟨Nat.le_of_ble_eq_true rfl, Nat.le_of_ble_eq_true rfl⟩ ⟨hz2, hz3⟩ (Nat.le_of_ble_eq_true rfl) d_law_1921 hl.1 (rest := []) rfl) (fun H locs w => ?_)
  refine m_istore C hl [(6, .int (iZ q252.1)), (5, .int (iZ q249.1)), (0, .ref b), (1, .ref (ad 0)), (2, .ref (ad 83)), (3, .ref (ad 96)), (4, .int (iZ v4))] d_law_1924 (by decide) rfl (fun ls hl => ?_)
  refine m_aload_n C hl 4 d_law_1926 rfl rfl ?_
  obtain ⟨x254, e253, hM⟩ := bnd_some hM
  refine aftR (runV C w.1 w.2 kc_Md sh_83 (Nat.le_of_ble_eq_true rfl) (c_Md_thrown hI e253) lk_Lw_152 mb_Md_thrown rfl ⟨Nat.le_of_ble_eq_true rfl, Nat.le_of_ble_eq_true rfl⟩ ⟨hz2, hz3⟩ (Nat.le_of_ble_eq_true rfl) d_law_1927 hl.1 (rest := []) rfl) ?_
  refine m_iload C hl 1 d_law_1930 rfl ?_
  refine m_icmp_eq C hM 1937 d_law_1932 (by decide) (fun hM => ?_) (fun hM => ?_)
  · refine m_iload C hl 1 d_law_1937 rfl ?_
    refine m_if_ne C hM 1954 d_law_1939 (by decide) (fun hM => ?_) (fun hM => ?_)
    · refine m_goto C 2814 d_law_1954 (by decide) ?_
      exact kW q252.2 hM _ _ w _ (lv_sub hl [2, 3, 4, 5, 6] rfl)
    · refine m_aload_n C hl 5 d_law_1942 rfl rfl ?_
      refine m_iconst C d_law_1943 ?_
      refine m_lald C w d_law_1944 ?_
      refine m_iload C hl 0 d_law_1945 rfl ?_
      refine m_i2l C d_law_1947 ?_
      refine m_lceq C hM 1954 d_law_1948 d_law_1949 (by decide) (fun hM => ?_) (fun hM => ?_)
      · refine m_goto C 2814 d_law_1954 (by decide) ?_
        exact kW q252.2 hM _ _ w _ (lv_sub hl [2, 3, 4, 5, 6] rfl)
      · refine m_iconst C d_law_1952 ?_
        cases hM
  · refine m_iconst C d_law_1935 ?_
    cases hM
set_option maxHeartbeats 4000000 in
set_option maxRecDepth 100000 in
theorem w_case_27 {p : Program} {l : Launch} {e : Env} {s : State} {m : MethodId} {args : Array Value} {below : List Frame} {meth : Method} {c : Code} {Q : State → Prop} {D : va_G} {ad : Nat → Nat} {cA : Nat → ClassId} {sd sv : Nat → Nat} {A : Nat → Prop} {b L : Nat} {xs : Nat → Int32} {N c0 s0 : Nat} {v4 : Int} (hI : Inj97 ad) (hst : l.stackTraces = false) (C : Cx p s m args c code 7 "FeastBookLaw" D ad cA sd sv A) (X : Sc s A b L xs) (hc0 : c0 + 4 ≤ 601024) (hs0 : s0 + 24 ≤ 7293034) {k : Hp → Option Int} (kW : ∀ h : Hp, k h = some 1 → ∀ (H : Heap) (locs : List Loc), Wd s D ad cA A h H locs → ∀ ls : Array Slot, lv_has ls 7 [(0, .ref b), (1, .ref (ad 0)), (2, .ref (ad 83)), (3, .ref (ad 96)), (4, .int (iZ v4))] → W p l e room_1 s m args below meth c H locs (c0 + 4) (s0 + 24) Q (F0 m 2814 ls [])) {h : Hp} {H : Heap} {locs : List Loc} (w : Wd s D ad cA A h H locs) {ls : Array Slot} (hl : lv_has ls 7 [(0, .ref b), (1, .ref (ad 0)), (2, .ref (ad 83)), (3, .ref (ad 96)), (4, .int (iZ v4))]) (hM : Lw_case_27 N L xs v4 h k = some 1) : W p l e room_1 s m args below meth c H locs c0 s0 Q (F0 m 1957 ls []) := by
  unfold Lw_case_27 at hM
  have hz0 : c0 ≤ room_1.cells := by show c0 ≤ 601024; omega
  have hz1 : s0 ≤ room_1.slots := by show s0 ≤ 7293034; omega
  have hz2 : c0 + 4 ≤ room_1.cells := hc0
  have hz3 : s0 + 24 ≤ room_1.slots := hs0
  refine m_aload_n C hl 1 d_law_1957 rfl rfl ?_
  refine m_aload_n C hl 0 d_law_1958 rfl rfl ?_
  refine m_iload C hl 4 d_law_1959 rfl ?_
  refine m_iconst C d_law_1961 ?_
  refine m_iadd C d_law_1962 ?_
  refine m_sld C X w hM d_law_1963 (fun x255 hM => ?_)
  refine m_aload_n C hl 3 d_law_1964 rfl rfl ?_
  obtain ⟨q256, e257, hM⟩ := bnd_some hM
  refine aftW (c1 := c0 + 4) (s1 := s0 + 24) C w (runSW (n := 3) C w.1 w.2 (c_Lw_paschs hI hst e257) lh_233 st_Lw_paschs in_Law cw_Lw_paschs ⟨by decide +kernel, by decide +kernel, by decide +kernel⟩ rfl ⟨(Nat.le_of_ble_eq_true rfl), (Nat.le_of_ble_eq_true rfl)⟩ ⟨by show c0 + 1 ≤ 601024; omega, by show s0 + 6 ≤ 7293034; omega⟩ (Nat.le_of_ble_eq_true rfl) d_law_1965 hl.1 (rest := []) rfl) (by omega) (by omega) (fun H locs w => ?_)
  refine m_istore C hl [(5, .int (iZ q256.1)), (0, .ref b), (1, .ref (ad 0)), (2, .ref (ad 83)), (3, .ref (ad 96)), (4, .int (iZ v4))] d_law_1968 (by decide) rfl (fun ls hl => ?_)
  refine m_aload_n C hl 3 d_law_1970 rfl rfl ?_
  refine m_aload_n C hl 1 d_law_1971 rfl rfl ?_
  refine m_iload C hl 5 d_law_1972 rfl ?_
  refine m_iconst C d_law_1974 ?_
  refine m_iadd C d_law_1975 ?_
  refine m_sld C X w hM d_law_1976 (fun x258 hM => ?_)
  obtain ⟨q260, e259, hM⟩ := bnd_some hM
  refine aftI C w (runV C w.1 w.2 kc_Md sh_83 (Nat.le_of_ble_eq_true rfl) (c_Md_paschs hI e259) lk_Lw_235 mb_Md_paschs rfl ⟨Nat.le_of_ble_eq_true rfl, Nat.le_of_ble_eq_true rfl⟩ ⟨hz2, hz3⟩ (Nat.le_of_ble_eq_true rfl) d_law_1977 hl.1 (rest := []) rfl) (fun H locs w => ?_)
  refine m_istore C hl [(6, .int (iZ q260.1)), (5, .int (iZ q256.1)), (0, .ref b), (1, .ref (ad 0)), (2, .ref (ad 83)), (3, .ref (ad 96)), (4, .int (iZ v4))] d_law_1980 (by decide) rfl (fun ls hl => ?_)
  refine m_aload_n C hl 4 d_law_1982 rfl rfl ?_
  obtain ⟨x262, e261, hM⟩ := bnd_some hM
  refine aftR (runV C w.1 w.2 kc_Md sh_83 (Nat.le_of_ble_eq_true rfl) (c_Md_thrown hI e261) lk_Lw_152 mb_Md_thrown rfl ⟨Nat.le_of_ble_eq_true rfl, Nat.le_of_ble_eq_true rfl⟩ ⟨hz2, hz3⟩ (Nat.le_of_ble_eq_true rfl) d_law_1983 hl.1 (rest := []) rfl) ?_
  refine m_iload C hl 1 d_law_1986 rfl ?_
  refine m_icmp_eq C hM 1993 d_law_1988 (by decide) (fun hM => ?_) (fun hM => ?_)
  · refine m_iload C hl 1 d_law_1993 rfl ?_
    refine m_if_ne C hM 2010 d_law_1995 (by decide) (fun hM => ?_) (fun hM => ?_)
    · refine m_goto C 2814 d_law_2010 (by decide) ?_
      exact kW q260.2 hM _ _ w _ (lv_sub hl [2, 3, 4, 5, 6] rfl)
    · refine m_aload_n C hl 5 d_law_1998 rfl rfl ?_
      refine m_iconst C d_law_1999 ?_
      refine m_lald C w d_law_2000 ?_
      refine m_iload C hl 0 d_law_2001 rfl ?_
      refine m_i2l C d_law_2003 ?_
      refine m_lceq C hM 2010 d_law_2004 d_law_2005 (by decide) (fun hM => ?_) (fun hM => ?_)
      · refine m_goto C 2814 d_law_2010 (by decide) ?_
        exact kW q260.2 hM _ _ w _ (lv_sub hl [2, 3, 4, 5, 6] rfl)
      · refine m_iconst C d_law_2008 ?_
        cases hM
  · refine m_iconst C d_law_1991 ?_
    cases hM
set_option maxHeartbeats 4000000 in
set_option maxRecDepth 100000 in
theorem w_case_28 {p : Program} {l : Launch} {e : Env} {s : State} {m : MethodId} {args : Array Value} {below : List Frame} {meth : Method} {c : Code} {Q : State → Prop} {D : va_G} {ad : Nat → Nat} {cA : Nat → ClassId} {sd sv : Nat → Nat} {A : Nat → Prop} {b L : Nat} {xs : Nat → Int32} {N c0 s0 : Nat} {v4 : Int} (hI : Inj97 ad) (hst : l.stackTraces = false) (C : Cx p s m args c code 7 "FeastBookLaw" D ad cA sd sv A) (X : Sc s A b L xs) (hc0 : c0 + 4 ≤ 601024) (hs0 : s0 + 24 ≤ 7293034) {k : Hp → Option Int} (kW : ∀ h : Hp, k h = some 1 → ∀ (H : Heap) (locs : List Loc), Wd s D ad cA A h H locs → ∀ ls : Array Slot, lv_has ls 7 [(0, .ref b), (1, .ref (ad 0)), (2, .ref (ad 83)), (3, .ref (ad 96)), (4, .int (iZ v4))] → W p l e room_1 s m args below meth c H locs (c0 + 4) (s0 + 24) Q (F0 m 2814 ls [])) {h : Hp} {H : Heap} {locs : List Loc} (w : Wd s D ad cA A h H locs) {ls : Array Slot} (hl : lv_has ls 7 [(0, .ref b), (1, .ref (ad 0)), (2, .ref (ad 83)), (3, .ref (ad 96)), (4, .int (iZ v4))]) (hM : Lw_case_28 N L xs v4 h k = some 1) : W p l e room_1 s m args below meth c H locs c0 s0 Q (F0 m 2013 ls []) := by
  unfold Lw_case_28 at hM
  have hz0 : c0 ≤ room_1.cells := by show c0 ≤ 601024; omega
  have hz1 : s0 ≤ room_1.slots := by show s0 ≤ 7293034; omega
  have hz2 : c0 + 4 ≤ room_1.cells := hc0
  have hz3 : s0 + 24 ≤ room_1.slots := hs0
  refine m_aload_n C hl 1 d_law_2013 rfl rfl ?_
  refine m_aload_n C hl 0 d_law_2014 rfl rfl ?_
  refine m_iload C hl 4 d_law_2015 rfl ?_
  refine m_iconst C d_law_2017 ?_
  refine m_iadd C d_law_2018 ?_
  refine m_sld C X w hM d_law_2019 (fun x263 hM => ?_)
  refine m_aload_n C hl 0 d_law_2020 rfl rfl ?_
  refine m_iload C hl 4 d_law_2021 rfl ?_
  refine m_iconst C d_law_2023 ?_
  refine m_iadd C d_law_2024 ?_
  refine m_sld C X w hM d_law_2025 (fun x264 hM => ?_)
  refine m_aload_n C hl 3 d_law_2026 rfl rfl ?_
  obtain ⟨q265, e266, hM⟩ := bnd_some hM
  refine aftW (c1 := c0 + 4) (s1 := s0 + 24) C w (runSW (n := 4) C w.1 w.2 (c_Lw_alike hI hst e266) lh_236 st_Lw_alike in_Law cw_Lw_alike ⟨by decide +kernel, by decide +kernel, by decide +kernel⟩ rfl ⟨(Nat.le_of_ble_eq_true rfl), (Nat.le_of_ble_eq_true rfl)⟩ ⟨by show c0 + 2 ≤ 601024; omega, by show s0 + 12 ≤ 7293034; omega⟩ (Nat.le_of_ble_eq_true rfl) d_law_2027 hl.1 (rest := []) rfl) (by omega) (by omega) (fun H locs w => ?_)
  refine m_istore C hl [(5, .int (iZ q265.1)), (0, .ref b), (1, .ref (ad 0)), (2, .ref (ad 83)), (3, .ref (ad 96)), (4, .int (iZ v4))] d_law_2030 (by decide) rfl (fun ls hl => ?_)
  refine m_aload_n C hl 3 d_law_2032 rfl rfl ?_
  refine m_aload_n C hl 1 d_law_2033 rfl rfl ?_
  refine m_iload C hl 5 d_law_2034 rfl ?_
  refine m_iconst C d_law_2036 ?_
  refine m_iadd C d_law_2037 ?_
  refine m_sld C X w hM d_law_2038 (fun x267 hM => ?_)
  refine m_aload_n C hl 1 d_law_2039 rfl rfl ?_
  refine m_iload C hl 5 d_law_2040 rfl ?_
  refine m_iconst C d_law_2042 ?_
  refine m_iadd C d_law_2043 ?_
  refine m_sld C X w hM d_law_2044 (fun x268 hM => ?_)
  obtain ⟨q270, e269, hM⟩ := bnd_some hM
  refine aftI C w (runV C w.1 w.2 kc_Md sh_83 (Nat.le_of_ble_eq_true rfl) (c_Md_alike hI e269) lk_Lw_238 mb_Md_alike rfl ⟨Nat.le_of_ble_eq_true rfl, Nat.le_of_ble_eq_true rfl⟩ ⟨hz2, hz3⟩ (Nat.le_of_ble_eq_true rfl) d_law_2045 hl.1 (rest := []) rfl) (fun H locs w => ?_)
  refine m_istore C hl [(6, .int (iZ q270.1)), (5, .int (iZ q265.1)), (0, .ref b), (1, .ref (ad 0)), (2, .ref (ad 83)), (3, .ref (ad 96)), (4, .int (iZ v4))] d_law_2048 (by decide) rfl (fun ls hl => ?_)
  refine m_aload_n C hl 4 d_law_2050 rfl rfl ?_
  obtain ⟨x272, e271, hM⟩ := bnd_some hM
  refine aftR (runV C w.1 w.2 kc_Md sh_83 (Nat.le_of_ble_eq_true rfl) (c_Md_thrown hI e271) lk_Lw_152 mb_Md_thrown rfl ⟨Nat.le_of_ble_eq_true rfl, Nat.le_of_ble_eq_true rfl⟩ ⟨hz2, hz3⟩ (Nat.le_of_ble_eq_true rfl) d_law_2051 hl.1 (rest := []) rfl) ?_
  refine m_iload C hl 1 d_law_2054 rfl ?_
  refine m_icmp_eq C hM 2061 d_law_2056 (by decide) (fun hM => ?_) (fun hM => ?_)
  · refine m_iload C hl 1 d_law_2061 rfl ?_
    refine m_if_ne C hM 2085 d_law_2063 (by decide) (fun hM => ?_) (fun hM => ?_)
    · refine m_goto C 2814 d_law_2085 (by decide) ?_
      exact kW q270.2 hM _ _ w _ (lv_sub hl [2, 3, 4, 5, 6] rfl)
    · refine m_aload_n C hl 5 d_law_2066 rfl rfl ?_
      refine m_iconst C d_law_2067 ?_
      refine m_lald C w d_law_2068 ?_
      refine m_iload C hl 0 d_law_2069 rfl ?_
      refine m_bl01 C d_law_2071 d_law_2074 d_law_2075 d_law_2078 ?_
      refine m_lceq C hM 2085 d_law_2079 d_law_2080 (by decide) (fun hM => ?_) (fun hM => ?_)
      · refine m_goto C 2814 d_law_2085 (by decide) ?_
        exact kW q270.2 hM _ _ w _ (lv_sub hl [2, 3, 4, 5, 6] rfl)
      · refine m_iconst C d_law_2083 ?_
        cases hM
  · refine m_iconst C d_law_2059 ?_
    cases hM
set_option maxHeartbeats 4000000 in
set_option maxRecDepth 100000 in
theorem w_case_29 {p : Program} {l : Launch} {e : Env} {s : State} {m : MethodId} {args : Array Value} {below : List Frame} {meth : Method} {c : Code} {Q : State → Prop} {D : va_G} {ad : Nat → Nat} {cA : Nat → ClassId} {sd sv : Nat → Nat} {A : Nat → Prop} {b L : Nat} {xs : Nat → Int32} {N c0 s0 : Nat} {v4 : Int} (hI : Inj97 ad) (hst : l.stackTraces = false) (C : Cx p s m args c code 7 "FeastBookLaw" D ad cA sd sv A) (X : Sc s A b L xs) (hc0 : c0 + 4 ≤ 601024) (hs0 : s0 + 24 ≤ 7293034) {k : Hp → Option Int} (kW : ∀ h : Hp, k h = some 1 → ∀ (H : Heap) (locs : List Loc), Wd s D ad cA A h H locs → ∀ ls : Array Slot, lv_has ls 7 [(0, .ref b), (1, .ref (ad 0)), (2, .ref (ad 83)), (3, .ref (ad 96)), (4, .int (iZ v4))] → W p l e room_1 s m args below meth c H locs (c0 + 4) (s0 + 24) Q (F0 m 2814 ls [])) {h : Hp} {H : Heap} {locs : List Loc} (w : Wd s D ad cA A h H locs) {ls : Array Slot} (hl : lv_has ls 7 [(0, .ref b), (1, .ref (ad 0)), (2, .ref (ad 83)), (3, .ref (ad 96)), (4, .int (iZ v4))]) (hM : Lw_case_29 N L xs v4 h k = some 1) : W p l e room_1 s m args below meth c H locs c0 s0 Q (F0 m 2088 ls []) := by
  unfold Lw_case_29 at hM
  have hz0 : c0 ≤ room_1.cells := by show c0 ≤ 601024; omega
  have hz1 : s0 ≤ room_1.slots := by show s0 ≤ 7293034; omega
  have hz2 : c0 + 4 ≤ room_1.cells := hc0
  have hz3 : s0 + 24 ≤ room_1.slots := hs0
  refine m_aload_n C hl 1 d_law_2088 rfl rfl ?_
  refine m_aload_n C hl 3 d_law_2089 rfl rfl ?_
  obtain ⟨q273, e274, hM⟩ := bnd_some hM
  refine aftW (c1 := c0 + 4) (s1 := s0 + 24) C w (runSW (n := 2) C w.1 w.2 (c_Lw_sorts hI hst e274) lh_239 st_Lw_sorts in_Law cw_Lw_sorts ⟨by decide +kernel, by decide +kernel, by decide +kernel⟩ rfl ⟨(Nat.le_of_ble_eq_true rfl), (Nat.le_of_ble_eq_true rfl)⟩ ⟨by show c0 + 1 ≤ 601024; omega, by show s0 + 6 ≤ 7293034; omega⟩ (Nat.le_of_ble_eq_true rfl) d_law_2090 hl.1 (rest := []) rfl) (by omega) (by omega) (fun H locs w => ?_)
  refine m_istore C hl [(5, .int (iZ q273.1)), (0, .ref b), (1, .ref (ad 0)), (2, .ref (ad 83)), (3, .ref (ad 96)), (4, .int (iZ v4))] d_law_2093 (by decide) rfl (fun ls hl => ?_)
  refine m_aload_n C hl 3 d_law_2095 rfl rfl ?_
  obtain ⟨q276, e275, hM⟩ := bnd_some hM
  refine aftI C w (runV C w.1 w.2 kc_Md sh_83 (Nat.le_of_ble_eq_true rfl) (c_Md_sorts hI e275) lk_Lw_241 mb_Md_sorts rfl ⟨Nat.le_of_ble_eq_true rfl, Nat.le_of_ble_eq_true rfl⟩ ⟨hz2, hz3⟩ (Nat.le_of_ble_eq_true rfl) d_law_2096 hl.1 (rest := []) rfl) (fun H locs w => ?_)
  refine m_istore C hl [(6, .int (iZ q276.1)), (5, .int (iZ q273.1)), (0, .ref b), (1, .ref (ad 0)), (2, .ref (ad 83)), (3, .ref (ad 96)), (4, .int (iZ v4))] d_law_2099 (by decide) rfl (fun ls hl => ?_)
  refine m_aload_n C hl 4 d_law_2101 rfl rfl ?_
  obtain ⟨x278, e277, hM⟩ := bnd_some hM
  refine aftR (runV C w.1 w.2 kc_Md sh_83 (Nat.le_of_ble_eq_true rfl) (c_Md_thrown hI e277) lk_Lw_152 mb_Md_thrown rfl ⟨Nat.le_of_ble_eq_true rfl, Nat.le_of_ble_eq_true rfl⟩ ⟨hz2, hz3⟩ (Nat.le_of_ble_eq_true rfl) d_law_2102 hl.1 (rest := []) rfl) ?_
  refine m_iload C hl 1 d_law_2105 rfl ?_
  refine m_icmp_eq C hM 2112 d_law_2107 (by decide) (fun hM => ?_) (fun hM => ?_)
  · refine m_iload C hl 1 d_law_2112 rfl ?_
    refine m_if_ne C hM 2129 d_law_2114 (by decide) (fun hM => ?_) (fun hM => ?_)
    · refine m_goto C 2814 d_law_2129 (by decide) ?_
      exact kW q276.2 hM _ _ w _ (lv_sub hl [2, 3, 4, 5, 6] rfl)
    · refine m_aload_n C hl 5 d_law_2117 rfl rfl ?_
      refine m_iconst C d_law_2118 ?_
      refine m_lald C w d_law_2119 ?_
      refine m_iload C hl 0 d_law_2120 rfl ?_
      refine m_i2l C d_law_2122 ?_
      refine m_lceq C hM 2129 d_law_2123 d_law_2124 (by decide) (fun hM => ?_) (fun hM => ?_)
      · refine m_goto C 2814 d_law_2129 (by decide) ?_
        exact kW q276.2 hM _ _ w _ (lv_sub hl [2, 3, 4, 5, 6] rfl)
      · refine m_iconst C d_law_2127 ?_
        cases hM
  · refine m_iconst C d_law_2110 ?_
    cases hM
set_option maxHeartbeats 4000000 in
set_option maxRecDepth 100000 in
theorem w_case_30 {p : Program} {l : Launch} {e : Env} {s : State} {m : MethodId} {args : Array Value} {below : List Frame} {meth : Method} {c : Code} {Q : State → Prop} {D : va_G} {ad : Nat → Nat} {cA : Nat → ClassId} {sd sv : Nat → Nat} {A : Nat → Prop} {b L : Nat} {xs : Nat → Int32} {N c0 s0 : Nat} {v4 : Int} (hI : Inj97 ad) (hst : l.stackTraces = false) (C : Cx p s m args c code 7 "FeastBookLaw" D ad cA sd sv A) (X : Sc s A b L xs) (hc0 : c0 + 4 ≤ 601024) (hs0 : s0 + 24 ≤ 7293034) {k : Hp → Option Int} (kW : ∀ h : Hp, k h = some 1 → ∀ (H : Heap) (locs : List Loc), Wd s D ad cA A h H locs → ∀ ls : Array Slot, lv_has ls 7 [(0, .ref b), (1, .ref (ad 0)), (2, .ref (ad 83)), (3, .ref (ad 96)), (4, .int (iZ v4))] → W p l e room_1 s m args below meth c H locs (c0 + 4) (s0 + 24) Q (F0 m 2814 ls [])) {h : Hp} {H : Heap} {locs : List Loc} (w : Wd s D ad cA A h H locs) {ls : Array Slot} (hl : lv_has ls 7 [(0, .ref b), (1, .ref (ad 0)), (2, .ref (ad 83)), (3, .ref (ad 96)), (4, .int (iZ v4))]) (hM : Lw_case_30 N L xs v4 h k = some 1) : W p l e room_1 s m args below meth c H locs c0 s0 Q (F0 m 2132 ls []) := by
  unfold Lw_case_30 at hM
  have hz0 : c0 ≤ room_1.cells := by show c0 ≤ 601024; omega
  have hz1 : s0 ≤ room_1.slots := by show s0 ≤ 7293034; omega
  have hz2 : c0 + 4 ≤ room_1.cells := hc0
  have hz3 : s0 + 24 ≤ room_1.slots := hs0
  refine m_aload_n C hl 1 d_law_2132 rfl rfl ?_
  refine m_aload_n C hl 0 d_law_2133 rfl rfl ?_
  refine m_iload C hl 4 d_law_2134 rfl ?_
  refine m_iconst C d_law_2136 ?_
  refine m_iadd C d_law_2137 ?_
  refine m_sld C X w hM d_law_2138 (fun x279 hM => ?_)
  refine m_aload_n C hl 0 d_law_2139 rfl rfl ?_
  refine m_iload C hl 4 d_law_2140 rfl ?_
  refine m_iconst C d_law_2142 ?_
  refine m_iadd C d_law_2143 ?_
  refine m_sld C X w hM d_law_2144 (fun x280 hM => ?_)
  refine m_aload_n C hl 3 d_law_2145 rfl rfl ?_
  obtain ⟨q281, e282, hM⟩ := bnd_some hM
  refine aftW (c1 := c0 + 4) (s1 := s0 + 24) C w (runSW (n := 4) C w.1 w.2 (c_Lw_yields hI hst e282) lh_242 st_Lw_yields in_Law cw_Lw_yields ⟨by decide +kernel, by decide +kernel, by decide +kernel⟩ rfl ⟨(Nat.le_of_ble_eq_true rfl), (Nat.le_of_ble_eq_true rfl)⟩ ⟨by show c0 + 3 ≤ 601024; omega, by show s0 + 18 ≤ 7293034; omega⟩ (Nat.le_of_ble_eq_true rfl) d_law_2146 hl.1 (rest := []) rfl) (by omega) (by omega) (fun H locs w => ?_)
  refine m_istore C hl [(5, .int (iZ q281.1)), (0, .ref b), (1, .ref (ad 0)), (2, .ref (ad 83)), (3, .ref (ad 96)), (4, .int (iZ v4))] d_law_2149 (by decide) rfl (fun ls hl => ?_)
  refine m_aload_n C hl 3 d_law_2151 rfl rfl ?_
  refine m_aload_n C hl 1 d_law_2152 rfl rfl ?_
  refine m_iload C hl 5 d_law_2153 rfl ?_
  refine m_iconst C d_law_2155 ?_
  refine m_iadd C d_law_2156 ?_
  refine m_sld C X w hM d_law_2157 (fun x283 hM => ?_)
  refine m_aload_n C hl 1 d_law_2158 rfl rfl ?_
  refine m_iload C hl 5 d_law_2159 rfl ?_
  refine m_iconst C d_law_2161 ?_
  refine m_iadd C d_law_2162 ?_
  refine m_sld C X w hM d_law_2163 (fun x284 hM => ?_)
  obtain ⟨q286, e285, hM⟩ := bnd_some hM
  refine aftI C w (runV C w.1 w.2 kc_Md sh_83 (Nat.le_of_ble_eq_true rfl) (c_Md_yields hI e285) lk_Lw_244 mb_Md_yields rfl ⟨Nat.le_of_ble_eq_true rfl, Nat.le_of_ble_eq_true rfl⟩ ⟨hz2, hz3⟩ (Nat.le_of_ble_eq_true rfl) d_law_2164 hl.1 (rest := []) rfl) (fun H locs w => ?_)
  refine m_istore C hl [(6, .int (iZ q286.1)), (5, .int (iZ q281.1)), (0, .ref b), (1, .ref (ad 0)), (2, .ref (ad 83)), (3, .ref (ad 96)), (4, .int (iZ v4))] d_law_2167 (by decide) rfl (fun ls hl => ?_)
  refine m_aload_n C hl 4 d_law_2169 rfl rfl ?_
  obtain ⟨x288, e287, hM⟩ := bnd_some hM
  refine aftR (runV C w.1 w.2 kc_Md sh_83 (Nat.le_of_ble_eq_true rfl) (c_Md_thrown hI e287) lk_Lw_152 mb_Md_thrown rfl ⟨Nat.le_of_ble_eq_true rfl, Nat.le_of_ble_eq_true rfl⟩ ⟨hz2, hz3⟩ (Nat.le_of_ble_eq_true rfl) d_law_2170 hl.1 (rest := []) rfl) ?_
  refine m_iload C hl 1 d_law_2173 rfl ?_
  refine m_icmp_eq C hM 2180 d_law_2175 (by decide) (fun hM => ?_) (fun hM => ?_)
  · refine m_iload C hl 1 d_law_2180 rfl ?_
    refine m_if_ne C hM 2197 d_law_2182 (by decide) (fun hM => ?_) (fun hM => ?_)
    · refine m_goto C 2814 d_law_2197 (by decide) ?_
      exact kW q286.2 hM _ _ w _ (lv_sub hl [2, 3, 4, 5, 6] rfl)
    · refine m_aload_n C hl 5 d_law_2185 rfl rfl ?_
      refine m_iconst C d_law_2186 ?_
      refine m_lald C w d_law_2187 ?_
      refine m_iload C hl 0 d_law_2188 rfl ?_
      refine m_i2l C d_law_2190 ?_
      refine m_lceq C hM 2197 d_law_2191 d_law_2192 (by decide) (fun hM => ?_) (fun hM => ?_)
      · refine m_goto C 2814 d_law_2197 (by decide) ?_
        exact kW q286.2 hM _ _ w _ (lv_sub hl [2, 3, 4, 5, 6] rfl)
      · refine m_iconst C d_law_2195 ?_
        cases hM
  · refine m_iconst C d_law_2178 ?_
    cases hM
set_option maxHeartbeats 4000000 in
set_option maxRecDepth 100000 in
theorem w_case_31 {p : Program} {l : Launch} {e : Env} {s : State} {m : MethodId} {args : Array Value} {below : List Frame} {meth : Method} {c : Code} {Q : State → Prop} {D : va_G} {ad : Nat → Nat} {cA : Nat → ClassId} {sd sv : Nat → Nat} {A : Nat → Prop} {b L : Nat} {xs : Nat → Int32} {N c0 s0 : Nat} {v4 : Int} (hI : Inj97 ad) (hst : l.stackTraces = false) (C : Cx p s m args c code 7 "FeastBookLaw" D ad cA sd sv A) (X : Sc s A b L xs) (hc0 : c0 + 4 ≤ 601024) (hs0 : s0 + 24 ≤ 7293034) {k : Hp → Option Int} (kW : ∀ h : Hp, k h = some 1 → ∀ (H : Heap) (locs : List Loc), Wd s D ad cA A h H locs → ∀ ls : Array Slot, lv_has ls 7 [(0, .ref b), (1, .ref (ad 0)), (2, .ref (ad 83)), (3, .ref (ad 96)), (4, .int (iZ v4))] → W p l e room_1 s m args below meth c H locs (c0 + 4) (s0 + 24) Q (F0 m 2814 ls [])) {h : Hp} {H : Heap} {locs : List Loc} (w : Wd s D ad cA A h H locs) {ls : Array Slot} (hl : lv_has ls 7 [(0, .ref b), (1, .ref (ad 0)), (2, .ref (ad 83)), (3, .ref (ad 96)), (4, .int (iZ v4))]) (hM : Lw_case_31 N L xs v4 h k = some 1) : W p l e room_1 s m args below meth c H locs c0 s0 Q (F0 m 2200 ls []) := by
  unfold Lw_case_31 at hM
  have hz0 : c0 ≤ room_1.cells := by show c0 ≤ 601024; omega
  have hz1 : s0 ≤ room_1.slots := by show s0 ≤ 7293034; omega
  have hz2 : c0 + 4 ≤ room_1.cells := hc0
  have hz3 : s0 + 24 ≤ room_1.slots := hs0
  refine m_aload_n C hl 1 d_law_2200 rfl rfl ?_
  refine m_aload_n C hl 0 d_law_2201 rfl rfl ?_
  refine m_iload C hl 4 d_law_2202 rfl ?_
  refine m_iconst C d_law_2204 ?_
  refine m_iadd C d_law_2205 ?_
  refine m_sld C X w hM d_law_2206 (fun x289 hM => ?_)
  refine m_aload_n C hl 3 d_law_2207 rfl rfl ?_
  obtain ⟨q290, e291, hM⟩ := bnd_some hM
  refine aftW (c1 := c0 + 4) (s1 := s0 + 24) C w (runSW (n := 3) C w.1 w.2 (c_Lw_course hI hst e291) lh_245 st_Lw_course in_Law cw_Lw_course ⟨by decide +kernel, by decide +kernel, by decide +kernel⟩ rfl ⟨(Nat.le_of_ble_eq_true rfl), (Nat.le_of_ble_eq_true rfl)⟩ ⟨by show c0 + 2 ≤ 601024; omega, by show s0 + 12 ≤ 7293034; omega⟩ (Nat.le_of_ble_eq_true rfl) d_law_2208 hl.1 (rest := []) rfl) (by omega) (by omega) (fun H locs w => ?_)
  refine m_istore C hl [(5, .int (iZ q290.1)), (0, .ref b), (1, .ref (ad 0)), (2, .ref (ad 83)), (3, .ref (ad 96)), (4, .int (iZ v4))] d_law_2211 (by decide) rfl (fun ls hl => ?_)
  refine m_aload_n C hl 3 d_law_2213 rfl rfl ?_
  refine m_aload_n C hl 1 d_law_2214 rfl rfl ?_
  refine m_iload C hl 5 d_law_2215 rfl ?_
  refine m_iconst C d_law_2217 ?_
  refine m_iadd C d_law_2218 ?_
  refine m_sld C X w hM d_law_2219 (fun x292 hM => ?_)
  obtain ⟨q294, e293, hM⟩ := bnd_some hM
  refine aftI C w (runV C w.1 w.2 kc_Md sh_83 (Nat.le_of_ble_eq_true rfl) (c_Md_course hI e293) lk_Lw_247 mb_Md_course rfl ⟨Nat.le_of_ble_eq_true rfl, Nat.le_of_ble_eq_true rfl⟩ ⟨hz2, hz3⟩ (Nat.le_of_ble_eq_true rfl) d_law_2220 hl.1 (rest := []) rfl) (fun H locs w => ?_)
  refine m_istore C hl [(6, .int (iZ q294.1)), (5, .int (iZ q290.1)), (0, .ref b), (1, .ref (ad 0)), (2, .ref (ad 83)), (3, .ref (ad 96)), (4, .int (iZ v4))] d_law_2223 (by decide) rfl (fun ls hl => ?_)
  refine m_aload_n C hl 4 d_law_2225 rfl rfl ?_
  obtain ⟨x296, e295, hM⟩ := bnd_some hM
  refine aftR (runV C w.1 w.2 kc_Md sh_83 (Nat.le_of_ble_eq_true rfl) (c_Md_thrown hI e295) lk_Lw_152 mb_Md_thrown rfl ⟨Nat.le_of_ble_eq_true rfl, Nat.le_of_ble_eq_true rfl⟩ ⟨hz2, hz3⟩ (Nat.le_of_ble_eq_true rfl) d_law_2226 hl.1 (rest := []) rfl) ?_
  refine m_iload C hl 1 d_law_2229 rfl ?_
  refine m_icmp_eq C hM 2236 d_law_2231 (by decide) (fun hM => ?_) (fun hM => ?_)
  · refine m_iload C hl 1 d_law_2236 rfl ?_
    refine m_if_ne C hM 2253 d_law_2238 (by decide) (fun hM => ?_) (fun hM => ?_)
    · refine m_goto C 2814 d_law_2253 (by decide) ?_
      exact kW q294.2 hM _ _ w _ (lv_sub hl [2, 3, 4, 5, 6] rfl)
    · refine m_aload_n C hl 5 d_law_2241 rfl rfl ?_
      refine m_iconst C d_law_2242 ?_
      refine m_lald C w d_law_2243 ?_
      refine m_iload C hl 0 d_law_2244 rfl ?_
      refine m_i2l C d_law_2246 ?_
      refine m_lceq C hM 2253 d_law_2247 d_law_2248 (by decide) (fun hM => ?_) (fun hM => ?_)
      · refine m_goto C 2814 d_law_2253 (by decide) ?_
        exact kW q294.2 hM _ _ w _ (lv_sub hl [2, 3, 4, 5, 6] rfl)
      · refine m_iconst C d_law_2251 ?_
        cases hM
  · refine m_iconst C d_law_2234 ?_
    cases hM
set_option maxHeartbeats 4000000 in
set_option maxRecDepth 100000 in
theorem w_case_32 {p : Program} {l : Launch} {e : Env} {s : State} {m : MethodId} {args : Array Value} {below : List Frame} {meth : Method} {c : Code} {Q : State → Prop} {D : va_G} {ad : Nat → Nat} {cA : Nat → ClassId} {sd sv : Nat → Nat} {A : Nat → Prop} {b L : Nat} {xs : Nat → Int32} {N c0 s0 : Nat} {v4 : Int} (hI : Inj97 ad) (hst : l.stackTraces = false) (C : Cx p s m args c code 7 "FeastBookLaw" D ad cA sd sv A) (X : Sc s A b L xs) (hc0 : c0 + 4 ≤ 601024) (hs0 : s0 + 24 ≤ 7293034) {k : Hp → Option Int} (kW : ∀ h : Hp, k h = some 1 → ∀ (H : Heap) (locs : List Loc), Wd s D ad cA A h H locs → ∀ ls : Array Slot, lv_has ls 7 [(0, .ref b), (1, .ref (ad 0)), (2, .ref (ad 83)), (3, .ref (ad 96)), (4, .int (iZ v4))] → W p l e room_1 s m args below meth c H locs (c0 + 4) (s0 + 24) Q (F0 m 2814 ls [])) {h : Hp} {H : Heap} {locs : List Loc} (w : Wd s D ad cA A h H locs) {ls : Array Slot} (hl : lv_has ls 7 [(0, .ref b), (1, .ref (ad 0)), (2, .ref (ad 83)), (3, .ref (ad 96)), (4, .int (iZ v4))]) (hM : Lw_case_32 N L xs v4 h k = some 1) : W p l e room_1 s m args below meth c H locs c0 s0 Q (F0 m 2256 ls []) := by
  unfold Lw_case_32 at hM
  have hz0 : c0 ≤ room_1.cells := by show c0 ≤ 601024; omega
  have hz1 : s0 ≤ room_1.slots := by show s0 ≤ 7293034; omega
  have hz2 : c0 + 4 ≤ room_1.cells := hc0
  have hz3 : s0 + 24 ≤ room_1.slots := hs0
  refine m_aload_n C hl 1 d_law_2256 rfl rfl ?_
  refine m_aload_n C hl 0 d_law_2257 rfl rfl ?_
  refine m_iload C hl 4 d_law_2258 rfl ?_
  refine m_iconst C d_law_2260 ?_
  refine m_iadd C d_law_2261 ?_
  refine m_sld C X w hM d_law_2262 (fun x297 hM => ?_)
  refine m_aload_n C hl 0 d_law_2263 rfl rfl ?_
  refine m_iload C hl 4 d_law_2264 rfl ?_
  refine m_iconst C d_law_2266 ?_
  refine m_iadd C d_law_2267 ?_
  refine m_sld C X w hM d_law_2268 (fun x298 hM => ?_)
  refine m_aload_n C hl 0 d_law_2269 rfl rfl ?_
  refine m_iload C hl 4 d_law_2270 rfl ?_
  refine m_iconst C d_law_2272 ?_
  refine m_iadd C d_law_2273 ?_
  refine m_sld C X w hM d_law_2274 (fun x299 hM => ?_)
  refine m_b01 C d_law_2275 d_law_2278 d_law_2279 d_law_2282 ?_
  refine m_aload_n C hl 3 d_law_2283 rfl rfl ?_
  obtain ⟨q300, e301, hM⟩ := bnd_some hM
  refine aftW (c1 := c0 + 4) (s1 := s0 + 24) C w (runSW (n := 5) C w.1 w.2 (c_Lw_heaviest hI hst e301) lh_248 st_Lw_heaviest in_Law cw_Lw_heaviest ⟨by decide +kernel, by decide +kernel, by decide +kernel⟩ rfl ⟨(Nat.le_of_ble_eq_true rfl), (Nat.le_of_ble_eq_true rfl)⟩ ⟨by show c0 + 2 ≤ 601024; omega, by show s0 + 12 ≤ 7293034; omega⟩ (Nat.le_of_ble_eq_true rfl) d_law_2284 hl.1 (rest := []) rfl) (by omega) (by omega) (fun H locs w => ?_)
  refine m_istore C hl [(5, .int (iZ q300.1)), (0, .ref b), (1, .ref (ad 0)), (2, .ref (ad 83)), (3, .ref (ad 96)), (4, .int (iZ v4))] d_law_2287 (by decide) rfl (fun ls hl => ?_)
  refine m_aload_n C hl 3 d_law_2289 rfl rfl ?_
  refine m_aload_n C hl 1 d_law_2290 rfl rfl ?_
  refine m_iload C hl 5 d_law_2291 rfl ?_
  refine m_iconst C d_law_2293 ?_
  refine m_iadd C d_law_2294 ?_
  refine m_sld C X w hM d_law_2295 (fun x302 hM => ?_)
  refine m_aload_n C hl 1 d_law_2296 rfl rfl ?_
  refine m_iload C hl 5 d_law_2297 rfl ?_
  refine m_iconst C d_law_2299 ?_
  refine m_iadd C d_law_2300 ?_
  refine m_sld C X w hM d_law_2301 (fun x303 hM => ?_)
  refine m_aload_n C hl 1 d_law_2302 rfl rfl ?_
  refine m_iload C hl 5 d_law_2303 rfl ?_
  refine m_iconst C d_law_2305 ?_
  refine m_iadd C d_law_2306 ?_
  refine m_sld C X w hM d_law_2307 (fun x304 hM => ?_)
  refine m_b01 C d_law_2308 d_law_2311 d_law_2312 d_law_2315 ?_
  obtain ⟨q306, e305, hM⟩ := bnd_some hM
  refine aftI C w (runV C w.1 w.2 kc_Md sh_83 (Nat.le_of_ble_eq_true rfl) (c_Md_heaviest hI e305) lk_Lw_250 mb_Md_heaviest rfl ⟨Nat.le_of_ble_eq_true rfl, Nat.le_of_ble_eq_true rfl⟩ ⟨hz2, hz3⟩ (Nat.le_of_ble_eq_true rfl) d_law_2316 hl.1 (rest := []) rfl) (fun H locs w => ?_)
  refine m_istore C hl [(6, .int (iZ q306.1)), (5, .int (iZ q300.1)), (0, .ref b), (1, .ref (ad 0)), (2, .ref (ad 83)), (3, .ref (ad 96)), (4, .int (iZ v4))] d_law_2319 (by decide) rfl (fun ls hl => ?_)
  refine m_aload_n C hl 4 d_law_2321 rfl rfl ?_
  obtain ⟨x308, e307, hM⟩ := bnd_some hM
  refine aftR (runV C w.1 w.2 kc_Md sh_83 (Nat.le_of_ble_eq_true rfl) (c_Md_thrown hI e307) lk_Lw_152 mb_Md_thrown rfl ⟨Nat.le_of_ble_eq_true rfl, Nat.le_of_ble_eq_true rfl⟩ ⟨hz2, hz3⟩ (Nat.le_of_ble_eq_true rfl) d_law_2322 hl.1 (rest := []) rfl) ?_
  refine m_iload C hl 1 d_law_2325 rfl ?_
  refine m_icmp_eq C hM 2332 d_law_2327 (by decide) (fun hM => ?_) (fun hM => ?_)
  · refine m_iload C hl 1 d_law_2332 rfl ?_
    refine m_if_ne C hM 2349 d_law_2334 (by decide) (fun hM => ?_) (fun hM => ?_)
    · refine m_goto C 2814 d_law_2349 (by decide) ?_
      exact kW q306.2 hM _ _ w _ (lv_sub hl [2, 3, 4, 5, 6] rfl)
    · refine m_aload_n C hl 5 d_law_2337 rfl rfl ?_
      refine m_iconst C d_law_2338 ?_
      refine m_lald C w d_law_2339 ?_
      refine m_iload C hl 0 d_law_2340 rfl ?_
      refine m_i2l C d_law_2342 ?_
      refine m_lceq C hM 2349 d_law_2343 d_law_2344 (by decide) (fun hM => ?_) (fun hM => ?_)
      · refine m_goto C 2814 d_law_2349 (by decide) ?_
        exact kW q306.2 hM _ _ w _ (lv_sub hl [2, 3, 4, 5, 6] rfl)
      · refine m_iconst C d_law_2347 ?_
        cases hM
  · refine m_iconst C d_law_2330 ?_
    cases hM
set_option maxHeartbeats 4000000 in
set_option maxRecDepth 100000 in
theorem w_case_33 {p : Program} {l : Launch} {e : Env} {s : State} {m : MethodId} {args : Array Value} {below : List Frame} {meth : Method} {c : Code} {Q : State → Prop} {D : va_G} {ad : Nat → Nat} {cA : Nat → ClassId} {sd sv : Nat → Nat} {A : Nat → Prop} {b L : Nat} {xs : Nat → Int32} {N c0 s0 : Nat} {v4 : Int} (hI : Inj97 ad) (hst : l.stackTraces = false) (C : Cx p s m args c code 7 "FeastBookLaw" D ad cA sd sv A) (X : Sc s A b L xs) (hc0 : c0 + 4 ≤ 601024) (hs0 : s0 + 24 ≤ 7293034) {k : Hp → Option Int} (kW : ∀ h : Hp, k h = some 1 → ∀ (H : Heap) (locs : List Loc), Wd s D ad cA A h H locs → ∀ ls : Array Slot, lv_has ls 7 [(0, .ref b), (1, .ref (ad 0)), (2, .ref (ad 83)), (3, .ref (ad 96)), (4, .int (iZ v4))] → W p l e room_1 s m args below meth c H locs (c0 + 4) (s0 + 24) Q (F0 m 2814 ls [])) {h : Hp} {H : Heap} {locs : List Loc} (w : Wd s D ad cA A h H locs) {ls : Array Slot} (hl : lv_has ls 7 [(0, .ref b), (1, .ref (ad 0)), (2, .ref (ad 83)), (3, .ref (ad 96)), (4, .int (iZ v4))]) (hM : Lw_case_33 N L xs v4 h k = some 1) : W p l e room_1 s m args below meth c H locs c0 s0 Q (F0 m 2352 ls []) := by
  unfold Lw_case_33 at hM
  have hz0 : c0 ≤ room_1.cells := by show c0 ≤ 601024; omega
  have hz1 : s0 ≤ room_1.slots := by show s0 ≤ 7293034; omega
  have hz2 : c0 + 4 ≤ room_1.cells := hc0
  have hz3 : s0 + 24 ≤ room_1.slots := hs0
  refine m_aload_n C hl 1 d_law_2352 rfl rfl ?_
  refine m_aload_n C hl 0 d_law_2353 rfl rfl ?_
  refine m_iload C hl 4 d_law_2354 rfl ?_
  refine m_iconst C d_law_2356 ?_
  refine m_iadd C d_law_2357 ?_
  refine m_sld C X w hM d_law_2358 (fun x309 hM => ?_)
  refine m_aload_n C hl 0 d_law_2359 rfl rfl ?_
  refine m_iload C hl 4 d_law_2360 rfl ?_
  refine m_iconst C d_law_2362 ?_
  refine m_iadd C d_law_2363 ?_
  refine m_sld C X w hM d_law_2364 (fun x310 hM => ?_)
  refine m_b01 C d_law_2365 d_law_2368 d_law_2369 d_law_2372 ?_
  refine m_aload_n C hl 3 d_law_2373 rfl rfl ?_
  obtain ⟨q311, e312, hM⟩ := bnd_some hM
  refine aftW (c1 := c0 + 4) (s1 := s0 + 24) C w (runSW (n := 4) C w.1 w.2 (c_Lw_interval hI hst e312) lh_251 st_Lw_interval in_Law cw_Lw_interval ⟨by decide +kernel, by decide +kernel, by decide +kernel⟩ rfl ⟨(Nat.le_of_ble_eq_true rfl), (Nat.le_of_ble_eq_true rfl)⟩ ⟨by show c0 + 1 ≤ 601024; omega, by show s0 + 6 ≤ 7293034; omega⟩ (Nat.le_of_ble_eq_true rfl) d_law_2374 hl.1 (rest := []) rfl) (by omega) (by omega) (fun H locs w => ?_)
  refine m_istore C hl [(5, .int (iZ q311.1)), (0, .ref b), (1, .ref (ad 0)), (2, .ref (ad 83)), (3, .ref (ad 96)), (4, .int (iZ v4))] d_law_2377 (by decide) rfl (fun ls hl => ?_)
  refine m_aload_n C hl 3 d_law_2379 rfl rfl ?_
  refine m_aload_n C hl 1 d_law_2380 rfl rfl ?_
  refine m_iload C hl 5 d_law_2381 rfl ?_
  refine m_iconst C d_law_2383 ?_
  refine m_iadd C d_law_2384 ?_
  refine m_sld C X w hM d_law_2385 (fun x313 hM => ?_)
  refine m_aload_n C hl 1 d_law_2386 rfl rfl ?_
  refine m_iload C hl 5 d_law_2387 rfl ?_
  refine m_iconst C d_law_2389 ?_
  refine m_iadd C d_law_2390 ?_
  refine m_sld C X w hM d_law_2391 (fun x314 hM => ?_)
  refine m_b01 C d_law_2392 d_law_2395 d_law_2396 d_law_2399 ?_
  obtain ⟨q316, e315, hM⟩ := bnd_some hM
  refine aftI C w (runV C w.1 w.2 kc_Md sh_83 (Nat.le_of_ble_eq_true rfl) (c_Md_interval hI e315) lk_Lw_253 mb_Md_interval rfl ⟨Nat.le_of_ble_eq_true rfl, Nat.le_of_ble_eq_true rfl⟩ ⟨hz2, hz3⟩ (Nat.le_of_ble_eq_true rfl) d_law_2400 hl.1 (rest := []) rfl) (fun H locs w => ?_)
  refine m_istore C hl [(6, .int (iZ q316.1)), (5, .int (iZ q311.1)), (0, .ref b), (1, .ref (ad 0)), (2, .ref (ad 83)), (3, .ref (ad 96)), (4, .int (iZ v4))] d_law_2403 (by decide) rfl (fun ls hl => ?_)
  refine m_aload_n C hl 4 d_law_2405 rfl rfl ?_
  obtain ⟨x318, e317, hM⟩ := bnd_some hM
  refine aftR (runV C w.1 w.2 kc_Md sh_83 (Nat.le_of_ble_eq_true rfl) (c_Md_thrown hI e317) lk_Lw_152 mb_Md_thrown rfl ⟨Nat.le_of_ble_eq_true rfl, Nat.le_of_ble_eq_true rfl⟩ ⟨hz2, hz3⟩ (Nat.le_of_ble_eq_true rfl) d_law_2406 hl.1 (rest := []) rfl) ?_
  refine m_iload C hl 1 d_law_2409 rfl ?_
  refine m_icmp_eq C hM 2416 d_law_2411 (by decide) (fun hM => ?_) (fun hM => ?_)
  · refine m_iload C hl 1 d_law_2416 rfl ?_
    refine m_if_ne C hM 2433 d_law_2418 (by decide) (fun hM => ?_) (fun hM => ?_)
    · refine m_goto C 2814 d_law_2433 (by decide) ?_
      exact kW q316.2 hM _ _ w _ (lv_sub hl [2, 3, 4, 5, 6] rfl)
    · refine m_aload_n C hl 5 d_law_2421 rfl rfl ?_
      refine m_iconst C d_law_2422 ?_
      refine m_lald C w d_law_2423 ?_
      refine m_iload C hl 0 d_law_2424 rfl ?_
      refine m_i2l C d_law_2426 ?_
      refine m_lceq C hM 2433 d_law_2427 d_law_2428 (by decide) (fun hM => ?_) (fun hM => ?_)
      · refine m_goto C 2814 d_law_2433 (by decide) ?_
        exact kW q316.2 hM _ _ w _ (lv_sub hl [2, 3, 4, 5, 6] rfl)
      · refine m_iconst C d_law_2431 ?_
        cases hM
  · refine m_iconst C d_law_2414 ?_
    cases hM
set_option maxHeartbeats 4000000 in
set_option maxRecDepth 100000 in
theorem w_case_34 {p : Program} {l : Launch} {e : Env} {s : State} {m : MethodId} {args : Array Value} {below : List Frame} {meth : Method} {c : Code} {Q : State → Prop} {D : va_G} {ad : Nat → Nat} {cA : Nat → ClassId} {sd sv : Nat → Nat} {A : Nat → Prop} {b L : Nat} {xs : Nat → Int32} {N c0 s0 : Nat} {v4 : Int} (hI : Inj97 ad) (hst : l.stackTraces = false) (C : Cx p s m args c code 7 "FeastBookLaw" D ad cA sd sv A) (X : Sc s A b L xs) (hc0 : c0 + 4 ≤ 601024) (hs0 : s0 + 24 ≤ 7293034) {k : Hp → Option Int} (kW : ∀ h : Hp, k h = some 1 → ∀ (H : Heap) (locs : List Loc), Wd s D ad cA A h H locs → ∀ ls : Array Slot, lv_has ls 7 [(0, .ref b), (1, .ref (ad 0)), (2, .ref (ad 83)), (3, .ref (ad 96)), (4, .int (iZ v4))] → W p l e room_1 s m args below meth c H locs (c0 + 4) (s0 + 24) Q (F0 m 2814 ls [])) {h : Hp} {H : Heap} {locs : List Loc} (w : Wd s D ad cA A h H locs) {ls : Array Slot} (hl : lv_has ls 7 [(0, .ref b), (1, .ref (ad 0)), (2, .ref (ad 83)), (3, .ref (ad 96)), (4, .int (iZ v4))]) (hM : Lw_case_34 N L xs v4 h k = some 1) : W p l e room_1 s m args below meth c H locs c0 s0 Q (F0 m 2436 ls []) := by
  unfold Lw_case_34 at hM
  have hz0 : c0 ≤ room_1.cells := by show c0 ≤ 601024; omega
  have hz1 : s0 ≤ room_1.slots := by show s0 ≤ 7293034; omega
  have hz2 : c0 + 4 ≤ room_1.cells := hc0
  have hz3 : s0 + 24 ≤ room_1.slots := hs0
  refine m_aload_n C hl 1 d_law_2436 rfl rfl ?_
  refine m_aload_n C hl 0 d_law_2437 rfl rfl ?_
  refine m_iload C hl 4 d_law_2438 rfl ?_
  refine m_iconst C d_law_2440 ?_
  refine m_iadd C d_law_2441 ?_
  refine m_sld C X w hM d_law_2442 (fun x319 hM => ?_)
  obtain ⟨x321, e320, hM⟩ := bnd_some hM
  refine aftR (runV C w.1 w.2 kc_FB sh_0 (Nat.le_of_ble_eq_true rfl) (c_FB_order hI e320) lk_Lw_254 mb_FB_order rfl ⟨Nat.le_of_ble_eq_true rfl, Nat.le_of_ble_eq_true rfl⟩ ⟨hz0, hz1⟩ (Nat.le_of_ble_eq_true rfl) d_law_2443 hl.1 (rest := []) rfl) ?_
  refine m_aload_n C hl 2 d_law_2446 rfl rfl ?_
  refine m_aload_n C hl 0 d_law_2447 rfl rfl ?_
  refine m_iload C hl 4 d_law_2448 rfl ?_
  refine m_iconst C d_law_2450 ?_
  refine m_iadd C d_law_2451 ?_
  refine m_sld C X w hM d_law_2452 (fun x322 hM => ?_)
  obtain ⟨q324, e323, hM⟩ := bnd_some hM
  refine aftI C w (runV C w.1 w.2 kc_Md sh_83 (Nat.le_of_ble_eq_true rfl) (c_Md_order hI e323) lk_Lw_257 mb_Md_order rfl ⟨Nat.le_of_ble_eq_true rfl, Nat.le_of_ble_eq_true rfl⟩ ⟨hz0, hz1⟩ (Nat.le_of_ble_eq_true rfl) d_law_2453 hl.1 (rest := [.int (iZ x321)]) rfl) (fun H locs w => ?_)
  refine m_icmp_eq C hM 2814 d_law_2456 (by decide) (fun hM => ?_) (fun hM => ?_)
  · refine W.widen (k := c0 + 4) (n := s0 + 24) (by omega) (by omega) ?_
    exact kW q324.2 hM _ _ w _ hl
  · refine m_iconst C d_law_2459 ?_
    cases hM
set_option maxHeartbeats 4000000 in
set_option maxRecDepth 100000 in
theorem w_case_35 {p : Program} {l : Launch} {e : Env} {s : State} {m : MethodId} {args : Array Value} {below : List Frame} {meth : Method} {c : Code} {Q : State → Prop} {D : va_G} {ad : Nat → Nat} {cA : Nat → ClassId} {sd sv : Nat → Nat} {A : Nat → Prop} {b L : Nat} {xs : Nat → Int32} {N c0 s0 : Nat} {v4 : Int} (hI : Inj97 ad) (hst : l.stackTraces = false) (C : Cx p s m args c code 7 "FeastBookLaw" D ad cA sd sv A) (X : Sc s A b L xs) (hc0 : c0 + 4 ≤ 601024) (hs0 : s0 + 24 ≤ 7293034) {k : Hp → Option Int} (kW : ∀ h : Hp, k h = some 1 → ∀ (H : Heap) (locs : List Loc), Wd s D ad cA A h H locs → ∀ ls : Array Slot, lv_has ls 7 [(0, .ref b), (1, .ref (ad 0)), (2, .ref (ad 83)), (3, .ref (ad 96)), (4, .int (iZ v4))] → W p l e room_1 s m args below meth c H locs (c0 + 4) (s0 + 24) Q (F0 m 2814 ls [])) {h : Hp} {H : Heap} {locs : List Loc} (w : Wd s D ad cA A h H locs) {ls : Array Slot} (hl : lv_has ls 7 [(0, .ref b), (1, .ref (ad 0)), (2, .ref (ad 83)), (3, .ref (ad 96)), (4, .int (iZ v4))]) (hM : Lw_case_35 N L xs v4 h k = some 1) : W p l e room_1 s m args below meth c H locs c0 s0 Q (F0 m 2461 ls []) := by
  unfold Lw_case_35 at hM
  have hz0 : c0 ≤ room_1.cells := by show c0 ≤ 601024; omega
  have hz1 : s0 ≤ room_1.slots := by show s0 ≤ 7293034; omega
  have hz2 : c0 + 4 ≤ room_1.cells := hc0
  have hz3 : s0 + 24 ≤ room_1.slots := hs0
  refine m_aload_n C hl 1 d_law_2461 rfl rfl ?_
  refine m_aload_n C hl 0 d_law_2462 rfl rfl ?_
  refine m_iload C hl 4 d_law_2463 rfl ?_
  refine m_iconst C d_law_2465 ?_
  refine m_iadd C d_law_2466 ?_
  refine m_sld C X w hM d_law_2467 (fun x325 hM => ?_)
  refine m_aload_n C hl 0 d_law_2468 rfl rfl ?_
  refine m_iload C hl 4 d_law_2469 rfl ?_
  refine m_iconst C d_law_2471 ?_
  refine m_iadd C d_law_2472 ?_
  refine m_sld C X w hM d_law_2473 (fun x326 hM => ?_)
  refine m_aload_n C hl 0 d_law_2474 rfl rfl ?_
  refine m_iload C hl 4 d_law_2475 rfl ?_
  refine m_iconst C d_law_2477 ?_
  refine m_iadd C d_law_2478 ?_
  refine m_sld C X w hM d_law_2479 (fun x327 hM => ?_)
  refine m_aload_n C hl 3 d_law_2480 rfl rfl ?_
  obtain ⟨q328, e329, hM⟩ := bnd_some hM
  refine aftW (c1 := c0 + 4) (s1 := s0 + 24) C w (runSW (n := 5) C w.1 w.2 (c_Lw_better hI hst e329) lh_258 st_Lw_better in_Law cw_Lw_better ⟨by decide +kernel, by decide +kernel, by decide +kernel⟩ rfl ⟨(Nat.le_of_ble_eq_true rfl), (Nat.le_of_ble_eq_true rfl)⟩ ⟨by show c0 + 3 ≤ 601024; omega, by show s0 + 18 ≤ 7293034; omega⟩ (Nat.le_of_ble_eq_true rfl) d_law_2481 hl.1 (rest := []) rfl) (by omega) (by omega) (fun H locs w => ?_)
  refine m_istore C hl [(5, .int (iZ q328.1)), (0, .ref b), (1, .ref (ad 0)), (2, .ref (ad 83)), (3, .ref (ad 96)), (4, .int (iZ v4))] d_law_2484 (by decide) rfl (fun ls hl => ?_)
  refine m_aload_n C hl 3 d_law_2486 rfl rfl ?_
  refine m_aload_n C hl 1 d_law_2487 rfl rfl ?_
  refine m_iload C hl 5 d_law_2488 rfl ?_
  refine m_iconst C d_law_2490 ?_
  refine m_iadd C d_law_2491 ?_
  refine m_sld C X w hM d_law_2492 (fun x330 hM => ?_)
  refine m_aload_n C hl 1 d_law_2493 rfl rfl ?_
  refine m_iload C hl 5 d_law_2494 rfl ?_
  refine m_iconst C d_law_2496 ?_
  refine m_iadd C d_law_2497 ?_
  refine m_sld C X w hM d_law_2498 (fun x331 hM => ?_)
  refine m_aload_n C hl 1 d_law_2499 rfl rfl ?_
  refine m_iload C hl 5 d_law_2500 rfl ?_
  refine m_iconst C d_law_2502 ?_
  refine m_iadd C d_law_2503 ?_
  refine m_sld C X w hM d_law_2504 (fun x332 hM => ?_)
  obtain ⟨q334, e333, hM⟩ := bnd_some hM
  refine aftI C w (runV C w.1 w.2 kc_Md sh_83 (Nat.le_of_ble_eq_true rfl) (c_Md_better hI e333) lk_Lw_260 mb_Md_better rfl ⟨Nat.le_of_ble_eq_true rfl, Nat.le_of_ble_eq_true rfl⟩ ⟨hz2, hz3⟩ (Nat.le_of_ble_eq_true rfl) d_law_2505 hl.1 (rest := []) rfl) (fun H locs w => ?_)
  refine m_istore C hl [(6, .int (iZ q334.1)), (5, .int (iZ q328.1)), (0, .ref b), (1, .ref (ad 0)), (2, .ref (ad 83)), (3, .ref (ad 96)), (4, .int (iZ v4))] d_law_2508 (by decide) rfl (fun ls hl => ?_)
  refine m_aload_n C hl 4 d_law_2510 rfl rfl ?_
  obtain ⟨x336, e335, hM⟩ := bnd_some hM
  refine aftR (runV C w.1 w.2 kc_Md sh_83 (Nat.le_of_ble_eq_true rfl) (c_Md_thrown hI e335) lk_Lw_152 mb_Md_thrown rfl ⟨Nat.le_of_ble_eq_true rfl, Nat.le_of_ble_eq_true rfl⟩ ⟨hz2, hz3⟩ (Nat.le_of_ble_eq_true rfl) d_law_2511 hl.1 (rest := []) rfl) ?_
  refine m_iload C hl 1 d_law_2514 rfl ?_
  refine m_icmp_eq C hM 2521 d_law_2516 (by decide) (fun hM => ?_) (fun hM => ?_)
  · refine m_iload C hl 1 d_law_2521 rfl ?_
    refine m_if_ne C hM 2538 d_law_2523 (by decide) (fun hM => ?_) (fun hM => ?_)
    · refine m_goto C 2814 d_law_2538 (by decide) ?_
      exact kW q334.2 hM _ _ w _ (lv_sub hl [2, 3, 4, 5, 6] rfl)
    · refine m_aload_n C hl 5 d_law_2526 rfl rfl ?_
      refine m_iconst C d_law_2527 ?_
      refine m_lald C w d_law_2528 ?_
      refine m_iload C hl 0 d_law_2529 rfl ?_
      refine m_i2l C d_law_2531 ?_
      refine m_lceq C hM 2538 d_law_2532 d_law_2533 (by decide) (fun hM => ?_) (fun hM => ?_)
      · refine m_goto C 2814 d_law_2538 (by decide) ?_
        exact kW q334.2 hM _ _ w _ (lv_sub hl [2, 3, 4, 5, 6] rfl)
      · refine m_iconst C d_law_2536 ?_
        cases hM
  · refine m_iconst C d_law_2519 ?_
    cases hM
set_option maxHeartbeats 4000000 in
set_option maxRecDepth 100000 in
theorem w_case_36 {p : Program} {l : Launch} {e : Env} {s : State} {m : MethodId} {args : Array Value} {below : List Frame} {meth : Method} {c : Code} {Q : State → Prop} {D : va_G} {ad : Nat → Nat} {cA : Nat → ClassId} {sd sv : Nat → Nat} {A : Nat → Prop} {b L : Nat} {xs : Nat → Int32} {N c0 s0 : Nat} {v4 : Int} (hI : Inj97 ad) (hst : l.stackTraces = false) (C : Cx p s m args c code 7 "FeastBookLaw" D ad cA sd sv A) (X : Sc s A b L xs) (hc0 : c0 + 4 ≤ 601024) (hs0 : s0 + 24 ≤ 7293034) {k : Hp → Option Int} (kW : ∀ h : Hp, k h = some 1 → ∀ (H : Heap) (locs : List Loc), Wd s D ad cA A h H locs → ∀ ls : Array Slot, lv_has ls 7 [(0, .ref b), (1, .ref (ad 0)), (2, .ref (ad 83)), (3, .ref (ad 96)), (4, .int (iZ v4))] → W p l e room_1 s m args below meth c H locs (c0 + 4) (s0 + 24) Q (F0 m 2814 ls [])) {h : Hp} {H : Heap} {locs : List Loc} (w : Wd s D ad cA A h H locs) {ls : Array Slot} (hl : lv_has ls 7 [(0, .ref b), (1, .ref (ad 0)), (2, .ref (ad 83)), (3, .ref (ad 96)), (4, .int (iZ v4))]) (hM : Lw_case_36 N L xs v4 h k = some 1) : W p l e room_1 s m args below meth c H locs c0 s0 Q (F0 m 2541 ls []) := by
  unfold Lw_case_36 at hM
  have hz0 : c0 ≤ room_1.cells := by show c0 ≤ 601024; omega
  have hz1 : s0 ≤ room_1.slots := by show s0 ≤ 7293034; omega
  have hz2 : c0 + 4 ≤ room_1.cells := hc0
  have hz3 : s0 + 24 ≤ room_1.slots := hs0
  refine m_aload_n C hl 1 d_law_2541 rfl rfl ?_
  refine m_aload_n C hl 0 d_law_2542 rfl rfl ?_
  refine m_iload C hl 4 d_law_2543 rfl ?_
  refine m_iconst C d_law_2545 ?_
  refine m_iadd C d_law_2546 ?_
  refine m_sld C X w hM d_law_2547 (fun x337 hM => ?_)
  refine m_aload_n C hl 3 d_law_2548 rfl rfl ?_
  obtain ⟨q338, e339, hM⟩ := bnd_some hM
  refine aftW (c1 := c0 + 4) (s1 := s0 + 24) C w (runSW (n := 3) C w.1 w.2 (c_Lw_rival hI hst e339) lh_261 st_Lw_rival in_Law cw_Lw_rival ⟨by decide +kernel, by decide +kernel, by decide +kernel⟩ rfl ⟨(Nat.le_of_ble_eq_true rfl), (Nat.le_of_ble_eq_true rfl)⟩ ⟨by show c0 + 1 ≤ 601024; omega, by show s0 + 6 ≤ 7293034; omega⟩ (Nat.le_of_ble_eq_true rfl) d_law_2549 hl.1 (rest := []) rfl) (by omega) (by omega) (fun H locs w => ?_)
  refine m_istore C hl [(5, .int (iZ q338.1)), (0, .ref b), (1, .ref (ad 0)), (2, .ref (ad 83)), (3, .ref (ad 96)), (4, .int (iZ v4))] d_law_2552 (by decide) rfl (fun ls hl => ?_)
  refine m_aload_n C hl 3 d_law_2554 rfl rfl ?_
  refine m_aload_n C hl 1 d_law_2555 rfl rfl ?_
  refine m_iload C hl 5 d_law_2556 rfl ?_
  refine m_iconst C d_law_2558 ?_
  refine m_iadd C d_law_2559 ?_
  refine m_sld C X w hM d_law_2560 (fun x340 hM => ?_)
  obtain ⟨q342, e341, hM⟩ := bnd_some hM
  refine aftI C w (runV C w.1 w.2 kc_Md sh_83 (Nat.le_of_ble_eq_true rfl) (c_Md_rival hI e341) lk_Lw_263 mb_Md_rival rfl ⟨Nat.le_of_ble_eq_true rfl, Nat.le_of_ble_eq_true rfl⟩ ⟨hz2, hz3⟩ (Nat.le_of_ble_eq_true rfl) d_law_2561 hl.1 (rest := []) rfl) (fun H locs w => ?_)
  refine m_istore C hl [(6, .int (iZ q342.1)), (5, .int (iZ q338.1)), (0, .ref b), (1, .ref (ad 0)), (2, .ref (ad 83)), (3, .ref (ad 96)), (4, .int (iZ v4))] d_law_2564 (by decide) rfl (fun ls hl => ?_)
  refine m_aload_n C hl 4 d_law_2566 rfl rfl ?_
  obtain ⟨x344, e343, hM⟩ := bnd_some hM
  refine aftR (runV C w.1 w.2 kc_Md sh_83 (Nat.le_of_ble_eq_true rfl) (c_Md_thrown hI e343) lk_Lw_152 mb_Md_thrown rfl ⟨Nat.le_of_ble_eq_true rfl, Nat.le_of_ble_eq_true rfl⟩ ⟨hz2, hz3⟩ (Nat.le_of_ble_eq_true rfl) d_law_2567 hl.1 (rest := []) rfl) ?_
  refine m_iload C hl 1 d_law_2570 rfl ?_
  refine m_icmp_eq C hM 2577 d_law_2572 (by decide) (fun hM => ?_) (fun hM => ?_)
  · refine m_iload C hl 1 d_law_2577 rfl ?_
    refine m_if_ne C hM 2594 d_law_2579 (by decide) (fun hM => ?_) (fun hM => ?_)
    · refine m_goto C 2814 d_law_2594 (by decide) ?_
      exact kW q342.2 hM _ _ w _ (lv_sub hl [2, 3, 4, 5, 6] rfl)
    · refine m_aload_n C hl 5 d_law_2582 rfl rfl ?_
      refine m_iconst C d_law_2583 ?_
      refine m_lald C w d_law_2584 ?_
      refine m_iload C hl 0 d_law_2585 rfl ?_
      refine m_i2l C d_law_2587 ?_
      refine m_lceq C hM 2594 d_law_2588 d_law_2589 (by decide) (fun hM => ?_) (fun hM => ?_)
      · refine m_goto C 2814 d_law_2594 (by decide) ?_
        exact kW q342.2 hM _ _ w _ (lv_sub hl [2, 3, 4, 5, 6] rfl)
      · refine m_iconst C d_law_2592 ?_
        cases hM
  · refine m_iconst C d_law_2575 ?_
    cases hM
set_option maxHeartbeats 4000000 in
set_option maxRecDepth 100000 in
theorem w_case_37 {p : Program} {l : Launch} {e : Env} {s : State} {m : MethodId} {args : Array Value} {below : List Frame} {meth : Method} {c : Code} {Q : State → Prop} {D : va_G} {ad : Nat → Nat} {cA : Nat → ClassId} {sd sv : Nat → Nat} {A : Nat → Prop} {b L : Nat} {xs : Nat → Int32} {N c0 s0 : Nat} {v4 : Int} (hI : Inj97 ad) (hst : l.stackTraces = false) (C : Cx p s m args c code 7 "FeastBookLaw" D ad cA sd sv A) (X : Sc s A b L xs) (hc0 : c0 + 4 ≤ 601024) (hs0 : s0 + 24 ≤ 7293034) {k : Hp → Option Int} (kW : ∀ h : Hp, k h = some 1 → ∀ (H : Heap) (locs : List Loc), Wd s D ad cA A h H locs → ∀ ls : Array Slot, lv_has ls 7 [(0, .ref b), (1, .ref (ad 0)), (2, .ref (ad 83)), (3, .ref (ad 96)), (4, .int (iZ v4))] → W p l e room_1 s m args below meth c H locs (c0 + 4) (s0 + 24) Q (F0 m 2814 ls [])) {h : Hp} {H : Heap} {locs : List Loc} (w : Wd s D ad cA A h H locs) {ls : Array Slot} (hl : lv_has ls 7 [(0, .ref b), (1, .ref (ad 0)), (2, .ref (ad 83)), (3, .ref (ad 96)), (4, .int (iZ v4))]) (hM : Lw_case_37 N L xs v4 h k = some 1) : W p l e room_1 s m args below meth c H locs c0 s0 Q (F0 m 2597 ls []) := by
  unfold Lw_case_37 at hM
  have hz0 : c0 ≤ room_1.cells := by show c0 ≤ 601024; omega
  have hz1 : s0 ≤ room_1.slots := by show s0 ≤ 7293034; omega
  have hz2 : c0 + 4 ≤ room_1.cells := hc0
  have hz3 : s0 + 24 ≤ room_1.slots := hs0
  refine m_aload_n C hl 1 d_law_2597 rfl rfl ?_
  refine m_aload_n C hl 0 d_law_2598 rfl rfl ?_
  refine m_iload C hl 4 d_law_2599 rfl ?_
  refine m_iconst C d_law_2601 ?_
  refine m_iadd C d_law_2602 ?_
  refine m_sld C X w hM d_law_2603 (fun x345 hM => ?_)
  refine m_aload_n C hl 3 d_law_2604 rfl rfl ?_
  obtain ⟨q346, e347, hM⟩ := bnd_some hM
  refine aftW (c1 := c0 + 4) (s1 := s0 + 24) C w (runSW (n := 3) C w.1 w.2 (c_Lw_lull hI hst e347) lh_264 st_Lw_lull in_Law cw_Lw_lull ⟨by decide +kernel, by decide +kernel, by decide +kernel⟩ rfl ⟨(Nat.le_of_ble_eq_true rfl), (Nat.le_of_ble_eq_true rfl)⟩ ⟨by show c0 + 2 ≤ 601024; omega, by show s0 + 12 ≤ 7293034; omega⟩ (Nat.le_of_ble_eq_true rfl) d_law_2605 hl.1 (rest := []) rfl) (by omega) (by omega) (fun H locs w => ?_)
  refine m_istore C hl [(5, .int (iZ q346.1)), (0, .ref b), (1, .ref (ad 0)), (2, .ref (ad 83)), (3, .ref (ad 96)), (4, .int (iZ v4))] d_law_2608 (by decide) rfl (fun ls hl => ?_)
  refine m_aload_n C hl 3 d_law_2610 rfl rfl ?_
  refine m_aload_n C hl 1 d_law_2611 rfl rfl ?_
  refine m_iload C hl 5 d_law_2612 rfl ?_
  refine m_iconst C d_law_2614 ?_
  refine m_iadd C d_law_2615 ?_
  refine m_sld C X w hM d_law_2616 (fun x348 hM => ?_)
  obtain ⟨q350, e349, hM⟩ := bnd_some hM
  refine aftI C w (runV C w.1 w.2 kc_Md sh_83 (Nat.le_of_ble_eq_true rfl) (c_Md_lull hI e349) lk_Lw_266 mb_Md_lull rfl ⟨Nat.le_of_ble_eq_true rfl, Nat.le_of_ble_eq_true rfl⟩ ⟨hz2, hz3⟩ (Nat.le_of_ble_eq_true rfl) d_law_2617 hl.1 (rest := []) rfl) (fun H locs w => ?_)
  refine m_istore C hl [(6, .int (iZ q350.1)), (5, .int (iZ q346.1)), (0, .ref b), (1, .ref (ad 0)), (2, .ref (ad 83)), (3, .ref (ad 96)), (4, .int (iZ v4))] d_law_2620 (by decide) rfl (fun ls hl => ?_)
  refine m_aload_n C hl 4 d_law_2622 rfl rfl ?_
  obtain ⟨x352, e351, hM⟩ := bnd_some hM
  refine aftR (runV C w.1 w.2 kc_Md sh_83 (Nat.le_of_ble_eq_true rfl) (c_Md_thrown hI e351) lk_Lw_152 mb_Md_thrown rfl ⟨Nat.le_of_ble_eq_true rfl, Nat.le_of_ble_eq_true rfl⟩ ⟨hz2, hz3⟩ (Nat.le_of_ble_eq_true rfl) d_law_2623 hl.1 (rest := []) rfl) ?_
  refine m_iload C hl 1 d_law_2626 rfl ?_
  refine m_icmp_eq C hM 2633 d_law_2628 (by decide) (fun hM => ?_) (fun hM => ?_)
  · refine m_iload C hl 1 d_law_2633 rfl ?_
    refine m_if_ne C hM 2650 d_law_2635 (by decide) (fun hM => ?_) (fun hM => ?_)
    · refine m_goto C 2814 d_law_2650 (by decide) ?_
      exact kW q350.2 hM _ _ w _ (lv_sub hl [2, 3, 4, 5, 6] rfl)
    · refine m_aload_n C hl 5 d_law_2638 rfl rfl ?_
      refine m_iconst C d_law_2639 ?_
      refine m_lald C w d_law_2640 ?_
      refine m_iload C hl 0 d_law_2641 rfl ?_
      refine m_i2l C d_law_2643 ?_
      refine m_lceq C hM 2650 d_law_2644 d_law_2645 (by decide) (fun hM => ?_) (fun hM => ?_)
      · refine m_goto C 2814 d_law_2650 (by decide) ?_
        exact kW q350.2 hM _ _ w _ (lv_sub hl [2, 3, 4, 5, 6] rfl)
      · refine m_iconst C d_law_2648 ?_
        cases hM
  · refine m_iconst C d_law_2631 ?_
    cases hM
set_option maxHeartbeats 4000000 in
set_option maxRecDepth 100000 in
theorem w_case_38 {p : Program} {l : Launch} {e : Env} {s : State} {m : MethodId} {args : Array Value} {below : List Frame} {meth : Method} {c : Code} {Q : State → Prop} {D : va_G} {ad : Nat → Nat} {cA : Nat → ClassId} {sd sv : Nat → Nat} {A : Nat → Prop} {b L : Nat} {xs : Nat → Int32} {N c0 s0 : Nat} {v4 : Int} (hI : Inj97 ad) (hst : l.stackTraces = false) (C : Cx p s m args c code 7 "FeastBookLaw" D ad cA sd sv A) (X : Sc s A b L xs) (hc0 : c0 + 4 ≤ 601024) (hs0 : s0 + 24 ≤ 7293034) {k : Hp → Option Int} (kW : ∀ h : Hp, k h = some 1 → ∀ (H : Heap) (locs : List Loc), Wd s D ad cA A h H locs → ∀ ls : Array Slot, lv_has ls 7 [(0, .ref b), (1, .ref (ad 0)), (2, .ref (ad 83)), (3, .ref (ad 96)), (4, .int (iZ v4))] → W p l e room_1 s m args below meth c H locs (c0 + 4) (s0 + 24) Q (F0 m 2814 ls [])) {h : Hp} {H : Heap} {locs : List Loc} (w : Wd s D ad cA A h H locs) {ls : Array Slot} (hl : lv_has ls 7 [(0, .ref b), (1, .ref (ad 0)), (2, .ref (ad 83)), (3, .ref (ad 96)), (4, .int (iZ v4))]) (hM : Lw_case_38 N L xs v4 h k = some 1) : W p l e room_1 s m args below meth c H locs c0 s0 Q (F0 m 2653 ls []) := by
  unfold Lw_case_38 at hM
  have hz0 : c0 ≤ room_1.cells := by show c0 ≤ 601024; omega
  have hz1 : s0 ≤ room_1.slots := by show s0 ≤ 7293034; omega
  have hz2 : c0 + 4 ≤ room_1.cells := hc0
  have hz3 : s0 + 24 ≤ room_1.slots := hs0
  refine m_aload_n C hl 1 d_law_2653 rfl rfl ?_
  refine m_aload_n C hl 0 d_law_2654 rfl rfl ?_
  refine m_iload C hl 4 d_law_2655 rfl ?_
  refine m_iconst C d_law_2657 ?_
  refine m_iadd C d_law_2658 ?_
  refine m_sld C X w hM d_law_2659 (fun x353 hM => ?_)
  refine m_aload_n C hl 0 d_law_2660 rfl rfl ?_
  refine m_iload C hl 4 d_law_2661 rfl ?_
  refine m_iconst C d_law_2663 ?_
  refine m_iadd C d_law_2664 ?_
  refine m_sld C X w hM d_law_2665 (fun x354 hM => ?_)
  refine m_aload_n C hl 3 d_law_2666 rfl rfl ?_
  obtain ⟨q355, e356, hM⟩ := bnd_some hM
  refine aftW (c1 := c0 + 4) (s1 := s0 + 24) C w (runSW (n := 4) C w.1 w.2 (c_Lw_tally hI hst e356) lh_267 st_Lw_tally in_Law cw_Lw_tally ⟨by decide +kernel, by decide +kernel, by decide +kernel⟩ rfl ⟨(Nat.le_of_ble_eq_true rfl), (Nat.le_of_ble_eq_true rfl)⟩ ⟨by show c0 + 2 ≤ 601024; omega, by show s0 + 12 ≤ 7293034; omega⟩ (Nat.le_of_ble_eq_true rfl) d_law_2667 hl.1 (rest := []) rfl) (by omega) (by omega) (fun H locs w => ?_)
  refine m_istore C hl [(5, .int (iZ q355.1)), (0, .ref b), (1, .ref (ad 0)), (2, .ref (ad 83)), (3, .ref (ad 96)), (4, .int (iZ v4))] d_law_2670 (by decide) rfl (fun ls hl => ?_)
  refine m_aload_n C hl 3 d_law_2672 rfl rfl ?_
  refine m_aload_n C hl 1 d_law_2673 rfl rfl ?_
  refine m_iload C hl 5 d_law_2674 rfl ?_
  refine m_iconst C d_law_2676 ?_
  refine m_iadd C d_law_2677 ?_
  refine m_sld C X w hM d_law_2678 (fun x357 hM => ?_)
  refine m_aload_n C hl 1 d_law_2679 rfl rfl ?_
  refine m_iload C hl 5 d_law_2680 rfl ?_
  refine m_iconst C d_law_2682 ?_
  refine m_iadd C d_law_2683 ?_
  refine m_sld C X w hM d_law_2684 (fun x358 hM => ?_)
  obtain ⟨q360, e359, hM⟩ := bnd_some hM
  refine aftI C w (runV C w.1 w.2 kc_Md sh_83 (Nat.le_of_ble_eq_true rfl) (c_Md_tally hI e359) lk_Lw_269 mb_Md_tally rfl ⟨Nat.le_of_ble_eq_true rfl, Nat.le_of_ble_eq_true rfl⟩ ⟨hz2, hz3⟩ (Nat.le_of_ble_eq_true rfl) d_law_2685 hl.1 (rest := []) rfl) (fun H locs w => ?_)
  refine m_istore C hl [(6, .int (iZ q360.1)), (5, .int (iZ q355.1)), (0, .ref b), (1, .ref (ad 0)), (2, .ref (ad 83)), (3, .ref (ad 96)), (4, .int (iZ v4))] d_law_2688 (by decide) rfl (fun ls hl => ?_)
  refine m_aload_n C hl 4 d_law_2690 rfl rfl ?_
  obtain ⟨x362, e361, hM⟩ := bnd_some hM
  refine aftR (runV C w.1 w.2 kc_Md sh_83 (Nat.le_of_ble_eq_true rfl) (c_Md_thrown hI e361) lk_Lw_152 mb_Md_thrown rfl ⟨Nat.le_of_ble_eq_true rfl, Nat.le_of_ble_eq_true rfl⟩ ⟨hz2, hz3⟩ (Nat.le_of_ble_eq_true rfl) d_law_2691 hl.1 (rest := []) rfl) ?_
  refine m_iload C hl 1 d_law_2694 rfl ?_
  refine m_icmp_eq C hM 2701 d_law_2696 (by decide) (fun hM => ?_) (fun hM => ?_)
  · refine m_iload C hl 1 d_law_2701 rfl ?_
    refine m_if_ne C hM 2718 d_law_2703 (by decide) (fun hM => ?_) (fun hM => ?_)
    · refine m_goto C 2814 d_law_2718 (by decide) ?_
      exact kW q360.2 hM _ _ w _ (lv_sub hl [2, 3, 4, 5, 6] rfl)
    · refine m_aload_n C hl 5 d_law_2706 rfl rfl ?_
      refine m_iconst C d_law_2707 ?_
      refine m_lald C w d_law_2708 ?_
      refine m_iload C hl 0 d_law_2709 rfl ?_
      refine m_i2l C d_law_2711 ?_
      refine m_lceq C hM 2718 d_law_2712 d_law_2713 (by decide) (fun hM => ?_) (fun hM => ?_)
      · refine m_goto C 2814 d_law_2718 (by decide) ?_
        exact kW q360.2 hM _ _ w _ (lv_sub hl [2, 3, 4, 5, 6] rfl)
      · refine m_iconst C d_law_2716 ?_
        cases hM
  · refine m_iconst C d_law_2699 ?_
    cases hM
set_option maxHeartbeats 4000000 in
set_option maxRecDepth 100000 in
theorem w_case_39 {p : Program} {l : Launch} {e : Env} {s : State} {m : MethodId} {args : Array Value} {below : List Frame} {meth : Method} {c : Code} {Q : State → Prop} {D : va_G} {ad : Nat → Nat} {cA : Nat → ClassId} {sd sv : Nat → Nat} {A : Nat → Prop} {b L : Nat} {xs : Nat → Int32} {N c0 s0 : Nat} {v4 : Int} (hI : Inj97 ad) (hst : l.stackTraces = false) (C : Cx p s m args c code 7 "FeastBookLaw" D ad cA sd sv A) (X : Sc s A b L xs) (hc0 : c0 + 4 ≤ 601024) (hs0 : s0 + 24 ≤ 7293034) {k : Hp → Option Int} (kW : ∀ h : Hp, k h = some 1 → ∀ (H : Heap) (locs : List Loc), Wd s D ad cA A h H locs → ∀ ls : Array Slot, lv_has ls 7 [(0, .ref b), (1, .ref (ad 0)), (2, .ref (ad 83)), (3, .ref (ad 96)), (4, .int (iZ v4))] → W p l e room_1 s m args below meth c H locs (c0 + 4) (s0 + 24) Q (F0 m 2814 ls [])) {h : Hp} {H : Heap} {locs : List Loc} (w : Wd s D ad cA A h H locs) {ls : Array Slot} (hl : lv_has ls 7 [(0, .ref b), (1, .ref (ad 0)), (2, .ref (ad 83)), (3, .ref (ad 96)), (4, .int (iZ v4))]) (hM : Lw_case_39 N L xs v4 h k = some 1) : W p l e room_1 s m args below meth c H locs c0 s0 Q (F0 m 2721 ls []) := by
  unfold Lw_case_39 at hM
  have hz0 : c0 ≤ room_1.cells := by show c0 ≤ 601024; omega
  have hz1 : s0 ≤ room_1.slots := by show s0 ≤ 7293034; omega
  have hz2 : c0 + 4 ≤ room_1.cells := hc0
  have hz3 : s0 + 24 ≤ room_1.slots := hs0
  refine m_aload_n C hl 1 d_law_2721 rfl rfl ?_
  refine m_aload_n C hl 3 d_law_2722 rfl rfl ?_
  obtain ⟨q363, e364, hM⟩ := bnd_some hM
  refine aftW (c1 := c0 + 4) (s1 := s0 + 24) C w (runSW (n := 2) C w.1 w.2 (c_Lw_leader hI hst e364) lh_270 st_Lw_leader in_Law cw_Lw_leader ⟨by decide +kernel, by decide +kernel, by decide +kernel⟩ rfl ⟨(Nat.le_of_ble_eq_true rfl), (Nat.le_of_ble_eq_true rfl)⟩ ⟨by show c0 + 1 ≤ 601024; omega, by show s0 + 6 ≤ 7293034; omega⟩ (Nat.le_of_ble_eq_true rfl) d_law_2723 hl.1 (rest := []) rfl) (by omega) (by omega) (fun H locs w => ?_)
  refine m_istore C hl [(5, .int (iZ q363.1)), (0, .ref b), (1, .ref (ad 0)), (2, .ref (ad 83)), (3, .ref (ad 96)), (4, .int (iZ v4))] d_law_2726 (by decide) rfl (fun ls hl => ?_)
  refine m_aload_n C hl 3 d_law_2728 rfl rfl ?_
  obtain ⟨q366, e365, hM⟩ := bnd_some hM
  refine aftI C w (runV C w.1 w.2 kc_Md sh_83 (Nat.le_of_ble_eq_true rfl) (c_Md_leader hI e365) lk_Lw_272 mb_Md_leader rfl ⟨Nat.le_of_ble_eq_true rfl, Nat.le_of_ble_eq_true rfl⟩ ⟨hz2, hz3⟩ (Nat.le_of_ble_eq_true rfl) d_law_2729 hl.1 (rest := []) rfl) (fun H locs w => ?_)
  refine m_istore C hl [(6, .int (iZ q366.1)), (5, .int (iZ q363.1)), (0, .ref b), (1, .ref (ad 0)), (2, .ref (ad 83)), (3, .ref (ad 96)), (4, .int (iZ v4))] d_law_2732 (by decide) rfl (fun ls hl => ?_)
  refine m_aload_n C hl 4 d_law_2734 rfl rfl ?_
  obtain ⟨x368, e367, hM⟩ := bnd_some hM
  refine aftR (runV C w.1 w.2 kc_Md sh_83 (Nat.le_of_ble_eq_true rfl) (c_Md_thrown hI e367) lk_Lw_152 mb_Md_thrown rfl ⟨Nat.le_of_ble_eq_true rfl, Nat.le_of_ble_eq_true rfl⟩ ⟨hz2, hz3⟩ (Nat.le_of_ble_eq_true rfl) d_law_2735 hl.1 (rest := []) rfl) ?_
  refine m_iload C hl 1 d_law_2738 rfl ?_
  refine m_icmp_eq C hM 2745 d_law_2740 (by decide) (fun hM => ?_) (fun hM => ?_)
  · refine m_iload C hl 1 d_law_2745 rfl ?_
    refine m_if_ne C hM 2762 d_law_2747 (by decide) (fun hM => ?_) (fun hM => ?_)
    · refine m_goto C 2814 d_law_2762 (by decide) ?_
      exact kW q366.2 hM _ _ w _ (lv_sub hl [2, 3, 4, 5, 6] rfl)
    · refine m_aload_n C hl 5 d_law_2750 rfl rfl ?_
      refine m_iconst C d_law_2751 ?_
      refine m_lald C w d_law_2752 ?_
      refine m_iload C hl 0 d_law_2753 rfl ?_
      refine m_i2l C d_law_2755 ?_
      refine m_lceq C hM 2762 d_law_2756 d_law_2757 (by decide) (fun hM => ?_) (fun hM => ?_)
      · refine m_goto C 2814 d_law_2762 (by decide) ?_
        exact kW q366.2 hM _ _ w _ (lv_sub hl [2, 3, 4, 5, 6] rfl)
      · refine m_iconst C d_law_2760 ?_
        cases hM
  · refine m_iconst C d_law_2743 ?_
    cases hM
set_option maxHeartbeats 4000000 in
set_option maxRecDepth 100000 in
theorem w_case_40 {p : Program} {l : Launch} {e : Env} {s : State} {m : MethodId} {args : Array Value} {below : List Frame} {meth : Method} {c : Code} {Q : State → Prop} {D : va_G} {ad : Nat → Nat} {cA : Nat → ClassId} {sd sv : Nat → Nat} {A : Nat → Prop} {b L : Nat} {xs : Nat → Int32} {N c0 s0 : Nat} {v4 : Int} (hI : Inj97 ad) (hst : l.stackTraces = false) (C : Cx p s m args c code 7 "FeastBookLaw" D ad cA sd sv A) (X : Sc s A b L xs) (hc0 : c0 + 4 ≤ 601024) (hs0 : s0 + 24 ≤ 7293034) {k : Hp → Option Int} (kW : ∀ h : Hp, k h = some 1 → ∀ (H : Heap) (locs : List Loc), Wd s D ad cA A h H locs → ∀ ls : Array Slot, lv_has ls 7 [(0, .ref b), (1, .ref (ad 0)), (2, .ref (ad 83)), (3, .ref (ad 96)), (4, .int (iZ v4))] → W p l e room_1 s m args below meth c H locs (c0 + 4) (s0 + 24) Q (F0 m 2814 ls [])) {h : Hp} {H : Heap} {locs : List Loc} (w : Wd s D ad cA A h H locs) {ls : Array Slot} (hl : lv_has ls 7 [(0, .ref b), (1, .ref (ad 0)), (2, .ref (ad 83)), (3, .ref (ad 96)), (4, .int (iZ v4))]) (hM : Lw_case_40 N L xs v4 h k = some 1) : W p l e room_1 s m args below meth c H locs c0 s0 Q (F0 m 2765 ls []) := by
  unfold Lw_case_40 at hM
  have hz0 : c0 ≤ room_1.cells := by show c0 ≤ 601024; omega
  have hz1 : s0 ≤ room_1.slots := by show s0 ≤ 7293034; omega
  have hz2 : c0 + 4 ≤ room_1.cells := hc0
  have hz3 : s0 + 24 ≤ room_1.slots := hs0
  refine m_aload_n C hl 1 d_law_2765 rfl rfl ?_
  obtain ⟨h370, e369, hM⟩ := bnd_some hM
  refine aftV C w (runV C w.1 w.2 kc_FB sh_0 (Nat.le_of_ble_eq_true rfl) (c_FB_image hI e369) lk_Lw_273 mb_FB_image rfl ⟨Nat.le_of_ble_eq_true rfl, Nat.le_of_ble_eq_true rfl⟩ ⟨hz0, hz1⟩ (Nat.le_of_ble_eq_true rfl) d_law_2766 hl.1 (rest := []) rfl) (fun H locs w => ?_)
  refine m_aload_n C hl 2 d_law_2769 rfl rfl ?_
  obtain ⟨h372, e371, hM⟩ := bnd_some hM
  refine aftV C w (runV C w.1 w.2 kc_Md sh_83 (Nat.le_of_ble_eq_true rfl) (c_Md_image hI e371) lk_Lw_276 mb_Md_image rfl ⟨Nat.le_of_ble_eq_true rfl, Nat.le_of_ble_eq_true rfl⟩ ⟨hz0, hz1⟩ (Nat.le_of_ble_eq_true rfl) d_law_2770 hl.1 (rest := []) rfl) (fun H locs w => ?_)
  refine m_goto C 2814 d_law_2773 (by decide) ?_
  refine W.widen (k := c0 + 4) (n := s0 + 24) (by omega) (by omega) ?_
  exact kW h372 hM _ _ w _ hl
set_option maxHeartbeats 4000000 in
set_option maxRecDepth 100000 in
theorem w_case_41 {p : Program} {l : Launch} {e : Env} {s : State} {m : MethodId} {args : Array Value} {below : List Frame} {meth : Method} {c : Code} {Q : State → Prop} {D : va_G} {ad : Nat → Nat} {cA : Nat → ClassId} {sd sv : Nat → Nat} {A : Nat → Prop} {b L : Nat} {xs : Nat → Int32} {N c0 s0 : Nat} {v4 : Int} (hI : Inj97 ad) (hst : l.stackTraces = false) (C : Cx p s m args c code 7 "FeastBookLaw" D ad cA sd sv A) (X : Sc s A b L xs) (hc0 : c0 + 4 ≤ 601024) (hs0 : s0 + 24 ≤ 7293034) {k : Hp → Option Int} (kW : ∀ h : Hp, k h = some 1 → ∀ (H : Heap) (locs : List Loc), Wd s D ad cA A h H locs → ∀ ls : Array Slot, lv_has ls 7 [(0, .ref b), (1, .ref (ad 0)), (2, .ref (ad 83)), (3, .ref (ad 96)), (4, .int (iZ v4))] → W p l e room_1 s m args below meth c H locs (c0 + 4) (s0 + 24) Q (F0 m 2814 ls [])) {h : Hp} {H : Heap} {locs : List Loc} (w : Wd s D ad cA A h H locs) {ls : Array Slot} (hl : lv_has ls 7 [(0, .ref b), (1, .ref (ad 0)), (2, .ref (ad 83)), (3, .ref (ad 96)), (4, .int (iZ v4))]) (hM : Lw_case_41 N L xs v4 h k = some 1) : W p l e room_1 s m args below meth c H locs c0 s0 Q (F0 m 2776 ls []) := by
  unfold Lw_case_41 at hM
  have hz0 : c0 ≤ room_1.cells := by show c0 ≤ 601024; omega
  have hz1 : s0 ≤ room_1.slots := by show s0 ≤ 7293034; omega
  have hz2 : c0 + 4 ≤ room_1.cells := hc0
  have hz3 : s0 + 24 ≤ room_1.slots := hs0
  refine m_aload_n C hl 1 d_law_2776 rfl rfl ?_
  obtain ⟨q374, e373, hM⟩ := bnd_some hM
  refine aftI C w (runV C w.1 w.2 kc_FB sh_0 (Nat.le_of_ble_eq_true rfl) (c_FB_back hI e373) lk_Lw_277 mb_FB_back rfl ⟨Nat.le_of_ble_eq_true rfl, Nat.le_of_ble_eq_true rfl⟩ ⟨hz0, hz1⟩ (Nat.le_of_ble_eq_true rfl) d_law_2777 hl.1 (rest := []) rfl) (fun H locs w => ?_)
  refine m_aload_n C hl 2 d_law_2780 rfl rfl ?_
  obtain ⟨q376, e375, hM⟩ := bnd_some hM
  refine aftI C w (runV C w.1 w.2 kc_Md sh_83 (Nat.le_of_ble_eq_true rfl) (c_Md_back hI e375) lk_Lw_281 mb_Md_back rfl ⟨Nat.le_of_ble_eq_true rfl, Nat.le_of_ble_eq_true rfl⟩ ⟨hz0, hz1⟩ (Nat.le_of_ble_eq_true rfl) d_law_2781 hl.1 (rest := [.int (iZ q374.1)]) rfl) (fun H locs w => ?_)
  refine m_icmp_eq C hM 2814 d_law_2784 (by decide) (fun hM => ?_) (fun hM => ?_)
  · refine W.widen (k := c0 + 4) (n := s0 + 24) (by omega) (by omega) ?_
    exact kW q376.2 hM _ _ w _ hl
  · refine m_iconst C d_law_2787 ?_
    cases hM
set_option maxHeartbeats 4000000 in
set_option maxRecDepth 100000 in
theorem w_case_42 {p : Program} {l : Launch} {e : Env} {s : State} {m : MethodId} {args : Array Value} {below : List Frame} {meth : Method} {c : Code} {Q : State → Prop} {D : va_G} {ad : Nat → Nat} {cA : Nat → ClassId} {sd sv : Nat → Nat} {A : Nat → Prop} {b L : Nat} {xs : Nat → Int32} {N c0 s0 : Nat} {v4 : Int} (hI : Inj97 ad) (hst : l.stackTraces = false) (C : Cx p s m args c code 7 "FeastBookLaw" D ad cA sd sv A) (X : Sc s A b L xs) (hc0 : c0 + 4 ≤ 601024) (hs0 : s0 + 24 ≤ 7293034) {k : Hp → Option Int} (kW : ∀ h : Hp, k h = some 1 → ∀ (H : Heap) (locs : List Loc), Wd s D ad cA A h H locs → ∀ ls : Array Slot, lv_has ls 7 [(0, .ref b), (1, .ref (ad 0)), (2, .ref (ad 83)), (3, .ref (ad 96)), (4, .int (iZ v4))] → W p l e room_1 s m args below meth c H locs (c0 + 4) (s0 + 24) Q (F0 m 2814 ls [])) {h : Hp} {H : Heap} {locs : List Loc} (w : Wd s D ad cA A h H locs) {ls : Array Slot} (hl : lv_has ls 7 [(0, .ref b), (1, .ref (ad 0)), (2, .ref (ad 83)), (3, .ref (ad 96)), (4, .int (iZ v4))]) (hM : Lw_case_42 N L xs v4 h k = some 1) : W p l e room_1 s m args below meth c H locs c0 s0 Q (F0 m 2789 ls []) := by
  unfold Lw_case_42 at hM
  have hz0 : c0 ≤ room_1.cells := by show c0 ≤ 601024; omega
  have hz1 : s0 ≤ room_1.slots := by show s0 ≤ 7293034; omega
  have hz2 : c0 + 4 ≤ room_1.cells := hc0
  have hz3 : s0 + 24 ≤ room_1.slots := hs0
  refine m_aload_n C hl 1 d_law_2789 rfl rfl ?_
  refine m_aload_n C hl 0 d_law_2790 rfl rfl ?_
  refine m_iload C hl 4 d_law_2791 rfl ?_
  refine m_iconst C d_law_2793 ?_
  refine m_iadd C d_law_2794 ?_
  refine m_sld C X w hM d_law_2795 (fun x377 hM => ?_)
  obtain ⟨x379, e378, hM⟩ := bnd_some hM
  refine aftR (runV C w.1 w.2 kc_FB sh_0 (Nat.le_of_ble_eq_true rfl) (c_FB_count hI e378) lk_Lw_282 mb_FB_count rfl ⟨Nat.le_of_ble_eq_true rfl, Nat.le_of_ble_eq_true rfl⟩ ⟨hz0, hz1⟩ (Nat.le_of_ble_eq_true rfl) d_law_2796 hl.1 (rest := []) rfl) ?_
  refine m_aload_n C hl 2 d_law_2799 rfl rfl ?_
  refine m_aload_n C hl 0 d_law_2800 rfl rfl ?_
  refine m_iload C hl 4 d_law_2801 rfl ?_
  refine m_iconst C d_law_2803 ?_
  refine m_iadd C d_law_2804 ?_
  refine m_sld C X w hM d_law_2805 (fun x380 hM => ?_)
  obtain ⟨q382, e381, hM⟩ := bnd_some hM
  refine aftI C w (runV C w.1 w.2 kc_Md sh_83 (Nat.le_of_ble_eq_true rfl) (c_Md_count hI e381) lk_Lw_285 mb_Md_count rfl ⟨Nat.le_of_ble_eq_true rfl, Nat.le_of_ble_eq_true rfl⟩ ⟨hz0, hz1⟩ (Nat.le_of_ble_eq_true rfl) d_law_2806 hl.1 (rest := [.int (iZ x379)]) rfl) (fun H locs w => ?_)
  refine m_icmp_eq C hM 2814 d_law_2809 (by decide) (fun hM => ?_) (fun hM => ?_)
  · refine W.widen (k := c0 + 4) (n := s0 + 24) (by omega) (by omega) ?_
    exact kW q382.2 hM _ _ w _ hl
  · refine m_iconst C d_law_2812 ?_
    cases hM

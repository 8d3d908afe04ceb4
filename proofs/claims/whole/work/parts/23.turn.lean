set_option maxHeartbeats 8000000 in
set_option maxRecDepth 100000 in
theorem w_turn {p : Program} {l : Launch} {e : Env} {s : State} {m : MethodId} {args : Array Value} {below : List Frame} {meth : Method} {c : Code} {Q : State → Prop} {D : va_G} {ad : Nat → Nat} {cA : Nat → ClassId} {sd sv : Nat → Nat} {A : Nat → Prop} {b L : Nat} {xs : Nat → Int32} {N c0 s0 : Nat} {v4 : Int} (hI : Inj97 ad) (hst : l.stackTraces = false) (C : Cx p s m args c code 7 "FeastBookLaw" D ad cA sd sv A) (X : Sc s A b L xs) (hc0 : c0 + 4 ≤ 601024) (hs0 : s0 + 24 ≤ 7293034) {k : Hp → Option Int} (kW : ∀ h : Hp, k h = some 1 → ∀ (H : Heap) (locs : List Loc), Wd s D ad cA A h H locs → ∀ ls : Array Slot, lv_has ls 7 [(0, .ref b), (1, .ref (ad 0)), (2, .ref (ad 83)), (3, .ref (ad 96)), (4, .int (iZ v4))] → W p l e room_1 s m args below meth c H locs (c0 + 4) (s0 + 24) Q (F0 m 2814 ls [])) {h : Hp} {H : Heap} {locs : List Loc} (w : Wd s D ad cA A h H locs) {ls : Array Slot} (hl : lv_has ls 7 [(0, .ref b), (1, .ref (ad 0)), (2, .ref (ad 83)), (3, .ref (ad 96)), (4, .int (iZ v4))]) (hM : Lw_turn N L xs v4 h k = some 1) : W p l e room_1 s m args below meth c H locs c0 s0 Q (F0 m 33 ls []) := by
  unfold Lw_turn at hM
  refine m_aload_n C hl 0 d_law_33 rfl rfl ?_
  refine m_iload C hl 4 d_law_34 rfl ?_
  refine m_sld C X w hM d_law_36 (fun x0 hM => ?_)
  refine m_bipush C d_law_37 (by decide) ?_
  refine m_iand C d_law_39 ?_
  refine lt_join hM (fun x ex hM => ?_)
  subst ex
  refine m_swc 0 hM (fun ek hM => ?_) (fun hn0 hM => ?_)
  · refine lv_tableIn C.1 C.2.1 d_law_40 (tgt := 228) (off := 188) (by rw [ek]; decide) (by rw [ek]; decide) (by rw [ek]; rfl) (by decide) ?_
    exact w_case_0 hI hst C X hc0 hs0 kW w hl hM
  refine m_swc 1 hM (fun ek hM => ?_) (fun hn1 hM => ?_)
  · refine lv_tableIn C.1 C.2.1 d_law_40 (tgt := 301) (off := 261) (by rw [ek]; decide) (by rw [ek]; decide) (by rw [ek]; rfl) (by decide) ?_
    exact w_case_1 hI hst C X hc0 hs0 kW w hl hM
  refine m_swc 2 hM (fun ek hM => ?_) (fun hn2 hM => ?_)
  · refine lv_tableIn C.1 C.2.1 d_law_40 (tgt := 326) (off := 286) (by rw [ek]; decide) (by rw [ek]; decide) (by rw [ek]; rfl) (by decide) ?_
    exact w_case_2 hI hst C X hc0 hs0 kW w hl hM
  refine m_swc 3 hM (fun ek hM => ?_) (fun hn3 hM => ?_)
  · refine lv_tableIn C.1 C.2.1 d_law_40 (tgt := 370) (off := 330) (by rw [ek]; decide) (by rw [ek]; decide) (by rw [ek]; rfl) (by decide) ?_
    exact w_case_3 hI hst C X hc0 hs0 kW w hl hM
  refine m_swc 4 hM (fun ek hM => ?_) (fun hn4 hM => ?_)
  · refine lv_tableIn C.1 C.2.1 d_law_40 (tgt := 383) (off := 343) (by rw [ek]; decide) (by rw [ek]; decide) (by rw [ek]; rfl) (by decide) ?_
    exact w_case_4 hI hst C X hc0 hs0 kW w hl hM
  refine m_swc 5 hM (fun ek hM => ?_) (fun hn5 hM => ?_)
  · refine lv_tableIn C.1 C.2.1 d_law_40 (tgt := 451) (off := 411) (by rw [ek]; decide) (by rw [ek]; decide) (by rw [ek]; rfl) (by decide) ?_
    exact w_case_5 hI hst C X hc0 hs0 kW w hl hM
  refine m_swc 6 hM (fun ek hM => ?_) (fun hn6 hM => ?_)
  · refine lv_tableIn C.1 C.2.1 d_law_40 (tgt := 531) (off := 491) (by rw [ek]; decide) (by rw [ek]; decide) (by rw [ek]; rfl) (by decide) ?_
    exact w_case_6 hI hst C X hc0 hs0 kW w hl hM
  refine m_swc 7 hM (fun ek hM => ?_) (fun hn7 hM => ?_)
  · refine lv_tableIn C.1 C.2.1 d_law_40 (tgt := 611) (off := 571) (by rw [ek]; decide) (by rw [ek]; decide) (by rw [ek]; rfl) (by decide) ?_
    exact w_case_7 hI hst C X hc0 hs0 kW w hl hM
  refine m_swc 8 hM (fun ek hM => ?_) (fun hn8 hM => ?_)
  · refine lv_tableIn C.1 C.2.1 d_law_40 (tgt := 691) (off := 651) (by rw [ek]; decide) (by rw [ek]; decide) (by rw [ek]; rfl) (by decide) ?_
    exact w_case_8 hI hst C X hc0 hs0 kW w hl hM
  refine m_swc 9 hM (fun ek hM => ?_) (fun hn9 hM => ?_)
  · refine lv_tableIn C.1 C.2.1 d_law_40 (tgt := 766) (off := 726) (by rw [ek]; decide) (by rw [ek]; decide) (by rw [ek]; rfl) (by decide) ?_
    exact w_case_9 hI hst C X hc0 hs0 kW w hl hM
  refine m_swc 10 hM (fun ek hM => ?_) (fun hn10 hM => ?_)
  · refine lv_tableIn C.1 C.2.1 d_law_40 (tgt := 834) (off := 794) (by rw [ek]; decide) (by rw [ek]; decide) (by rw [ek]; rfl) (by decide) ?_
    exact w_case_10 hI hst C X hc0 hs0 kW w hl hM
  refine m_swc 11 hM (fun ek hM => ?_) (fun hn11 hM => ?_)
  · refine lv_tableIn C.1 C.2.1 d_law_40 (tgt := 902) (off := 862) (by rw [ek]; decide) (by rw [ek]; decide) (by rw [ek]; rfl) (by decide) ?_
    exact w_case_11 hI hst C X hc0 hs0 kW w hl hM
  refine m_swc 12 hM (fun ek hM => ?_) (fun hn12 hM => ?_)
  · refine lv_tableIn C.1 C.2.1 d_law_40 (tgt := 970) (off := 930) (by rw [ek]; decide) (by rw [ek]; decide) (by rw [ek]; rfl) (by decide) ?_
    exact w_case_12 hI hst C X hc0 hs0 kW w hl hM
  refine m_swc 13 hM (fun ek hM => ?_) (fun hn13 hM => ?_)
  · refine lv_tableIn C.1 C.2.1 d_law_40 (tgt := 1050) (off := 1010) (by rw [ek]; decide) (by rw [ek]; decide) (by rw [ek]; rfl) (by decide) ?_
    exact w_case_13 hI hst C X hc0 hs0 kW w hl hM
  refine m_swc 14 hM (fun ek hM => ?_) (fun hn14 hM => ?_)
  · refine lv_tableIn C.1 C.2.1 d_law_40 (tgt := 1118) (off := 1078) (by rw [ek]; decide) (by rw [ek]; decide) (by rw [ek]; rfl) (by decide) ?_
    exact w_case_14 hI hst C X hc0 hs0 kW w hl hM
  refine m_swc 15 hM (fun ek hM => ?_) (fun hn15 hM => ?_)
  · refine lv_tableIn C.1 C.2.1 d_law_40 (tgt := 1186) (off := 1146) (by rw [ek]; decide) (by rw [ek]; decide) (by rw [ek]; rfl) (by decide) ?_
    exact w_case_15 hI hst C X hc0 hs0 kW w hl hM
  refine m_swc 16 hM (fun ek hM => ?_) (fun hn16 hM => ?_)
  · refine lv_tableIn C.1 C.2.1 d_law_40 (tgt := 1266) (off := 1226) (by rw [ek]; decide) (by rw [ek]; decide) (by rw [ek]; rfl) (by decide) ?_
    exact w_case_16 hI hst C X hc0 hs0 kW w hl hM
  refine m_swc 17 hM (fun ek hM => ?_) (fun hn17 hM => ?_)
  · refine lv_tableIn C.1 C.2.1 d_law_40 (tgt := 1322) (off := 1282) (by rw [ek]; decide) (by rw [ek]; decide) (by rw [ek]; rfl) (by decide) ?_
    exact w_case_17 hI hst C X hc0 hs0 kW w hl hM
  refine m_swc 18 hM (fun ek hM => ?_) (fun hn18 hM => ?_)
  · refine lv_tableIn C.1 C.2.1 d_law_40 (tgt := 1366) (off := 1326) (by rw [ek]; decide) (by rw [ek]; decide) (by rw [ek]; rfl) (by decide) ?_
    exact w_case_18 hI hst C X hc0 hs0 kW w hl hM
  refine m_swc 19 hM (fun ek hM => ?_) (fun hn19 hM => ?_)
  · refine lv_tableIn C.1 C.2.1 d_law_40 (tgt := 1410) (off := 1370) (by rw [ek]; decide) (by rw [ek]; decide) (by rw [ek]; rfl) (by decide) ?_
    exact w_case_19 hI hst C X hc0 hs0 kW w hl hM
  refine m_swc 20 hM (fun ek hM => ?_) (fun hn20 hM => ?_)
  · refine lv_tableIn C.1 C.2.1 d_law_40 (tgt := 1506) (off := 1466) (by rw [ek]; decide) (by rw [ek]; decide) (by rw [ek]; rfl) (by decide) ?_
    exact w_case_20 hI hst C X hc0 hs0 kW w hl hM
  refine m_swc 21 hM (fun ek hM => ?_) (fun hn21 hM => ?_)
  · refine lv_tableIn C.1 C.2.1 d_law_40 (tgt := 1562) (off := 1522) (by rw [ek]; decide) (by rw [ek]; decide) (by rw [ek]; rfl) (by decide) ?_
    exact w_case_21 hI hst C X hc0 hs0 kW w hl hM
  refine m_swc 22 hM (fun ek hM => ?_) (fun hn22 hM => ?_)
  · refine lv_tableIn C.1 C.2.1 d_law_40 (tgt := 1646) (off := 1606) (by rw [ek]; decide) (by rw [ek]; decide) (by rw [ek]; rfl) (by decide) ?_
    exact w_case_22 hI hst C X hc0 hs0 kW w hl hM
  refine m_swc 23 hM (fun ek hM => ?_) (fun hn23 hM => ?_)
  · refine lv_tableIn C.1 C.2.1 d_law_40 (tgt := 1702) (off := 1662) (by rw [ek]; decide) (by rw [ek]; decide) (by rw [ek]; rfl) (by decide) ?_
    exact w_case_23 hI hst C X hc0 hs0 kW w hl hM
  refine m_swc 24 hM (fun ek hM => ?_) (fun hn24 hM => ?_)
  · refine lv_tableIn C.1 C.2.1 d_law_40 (tgt := 1777) (off := 1737) (by rw [ek]; decide) (by rw [ek]; decide) (by rw [ek]; rfl) (by decide) ?_
    exact w_case_24 hI hst C X hc0 hs0 kW w hl hM
  refine m_swc 25 hM (fun ek hM => ?_) (fun hn25 hM => ?_)
  · refine lv_tableIn C.1 C.2.1 d_law_40 (tgt := 1833) (off := 1793) (by rw [ek]; decide) (by rw [ek]; decide) (by rw [ek]; rfl) (by decide) ?_
    exact w_case_25 hI hst C X hc0 hs0 kW w hl hM
  refine m_swc 26 hM (fun ek hM => ?_) (fun hn26 hM => ?_)
  · refine lv_tableIn C.1 C.2.1 d_law_40 (tgt := 1913) (off := 1873) (by rw [ek]; decide) (by rw [ek]; decide) (by rw [ek]; rfl) (by decide) ?_
    exact w_case_26 hI hst C X hc0 hs0 kW w hl hM
  refine m_swc 27 hM (fun ek hM => ?_) (fun hn27 hM => ?_)
  · refine lv_tableIn C.1 C.2.1 d_law_40 (tgt := 1957) (off := 1917) (by rw [ek]; decide) (by rw [ek]; decide) (by rw [ek]; rfl) (by decide) ?_
    exact w_case_27 hI hst C X hc0 hs0 kW w hl hM
  refine m_swc 28 hM (fun ek hM => ?_) (fun hn28 hM => ?_)
  · refine lv_tableIn C.1 C.2.1 d_law_40 (tgt := 2013) (off := 1973) (by rw [ek]; decide) (by rw [ek]; decide) (by rw [ek]; rfl) (by decide) ?_
    exact w_case_28 hI hst C X hc0 hs0 kW w hl hM
  refine m_swc 29 hM (fun ek hM => ?_) (fun hn29 hM => ?_)
  · refine lv_tableIn C.1 C.2.1 d_law_40 (tgt := 2088) (off := 2048) (by rw [ek]; decide) (by rw [ek]; decide) (by rw [ek]; rfl) (by decide) ?_
    exact w_case_29 hI hst C X hc0 hs0 kW w hl hM
  refine m_swc 30 hM (fun ek hM => ?_) (fun hn30 hM => ?_)
  · refine lv_tableIn C.1 C.2.1 d_law_40 (tgt := 2132) (off := 2092) (by rw [ek]; decide) (by rw [ek]; decide) (by rw [ek]; rfl) (by decide) ?_
    exact w_case_30 hI hst C X hc0 hs0 kW w hl hM
  refine m_swc 31 hM (fun ek hM => ?_) (fun hn31 hM => ?_)
  · refine lv_tableIn C.1 C.2.1 d_law_40 (tgt := 2200) (off := 2160) (by rw [ek]; decide) (by rw [ek]; decide) (by rw [ek]; rfl) (by decide) ?_
    exact w_case_31 hI hst C X hc0 hs0 kW w hl hM
  refine m_swc 32 hM (fun ek hM => ?_) (fun hn32 hM => ?_)
  · refine lv_tableIn C.1 C.2.1 d_law_40 (tgt := 2256) (off := 2216) (by rw [ek]; decide) (by rw [ek]; decide) (by rw [ek]; rfl) (by decide) ?_
    exact w_case_32 hI hst C X hc0 hs0 kW w hl hM
  refine m_swc 33 hM (fun ek hM => ?_) (fun hn33 hM => ?_)
  · refine lv_tableIn C.1 C.2.1 d_law_40 (tgt := 2352) (off := 2312) (by rw [ek]; decide) (by rw [ek]; decide) (by rw [ek]; rfl) (by decide) ?_
    exact w_case_33 hI hst C X hc0 hs0 kW w hl hM
  refine m_swc 34 hM (fun ek hM => ?_) (fun hn34 hM => ?_)
  · refine lv_tableIn C.1 C.2.1 d_law_40 (tgt := 2436) (off := 2396) (by rw [ek]; decide) (by rw [ek]; decide) (by rw [ek]; rfl) (by decide) ?_
    exact w_case_34 hI hst C X hc0 hs0 kW w hl hM
  refine m_swc 35 hM (fun ek hM => ?_) (fun hn35 hM => ?_)
  · refine lv_tableIn C.1 C.2.1 d_law_40 (tgt := 2461) (off := 2421) (by rw [ek]; decide) (by rw [ek]; decide) (by rw [ek]; rfl) (by decide) ?_
    exact w_case_35 hI hst C X hc0 hs0 kW w hl hM
  refine m_swc 36 hM (fun ek hM => ?_) (fun hn36 hM => ?_)
  · refine lv_tableIn C.1 C.2.1 d_law_40 (tgt := 2541) (off := 2501) (by rw [ek]; decide) (by rw [ek]; decide) (by rw [ek]; rfl) (by decide) ?_
    exact w_case_36 hI hst C X hc0 hs0 kW w hl hM
  refine m_swc 37 hM (fun ek hM => ?_) (fun hn37 hM => ?_)
  · refine lv_tableIn C.1 C.2.1 d_law_40 (tgt := 2597) (off := 2557) (by rw [ek]; decide) (by rw [ek]; decide) (by rw [ek]; rfl) (by decide) ?_
    exact w_case_37 hI hst C X hc0 hs0 kW w hl hM
  refine m_swc 38 hM (fun ek hM => ?_) (fun hn38 hM => ?_)
  · refine lv_tableIn C.1 C.2.1 d_law_40 (tgt := 2653) (off := 2613) (by rw [ek]; decide) (by rw [ek]; decide) (by rw [ek]; rfl) (by decide) ?_
    exact w_case_38 hI hst C X hc0 hs0 kW w hl hM
  refine m_swc 39 hM (fun ek hM => ?_) (fun hn39 hM => ?_)
  · refine lv_tableIn C.1 C.2.1 d_law_40 (tgt := 2721) (off := 2681) (by rw [ek]; decide) (by rw [ek]; decide) (by rw [ek]; rfl) (by decide) ?_
    exact w_case_39 hI hst C X hc0 hs0 kW w hl hM
  refine m_swc 40 hM (fun ek hM => ?_) (fun hn40 hM => ?_)
  · refine lv_tableIn C.1 C.2.1 d_law_40 (tgt := 2765) (off := 2725) (by rw [ek]; decide) (by rw [ek]; decide) (by rw [ek]; rfl) (by decide) ?_
    exact w_case_40 hI hst C X hc0 hs0 kW w hl hM
  refine m_swc 41 hM (fun ek hM => ?_) (fun hn41 hM => ?_)
  · refine lv_tableIn C.1 C.2.1 d_law_40 (tgt := 2776) (off := 2736) (by rw [ek]; decide) (by rw [ek]; decide) (by rw [ek]; rfl) (by decide) ?_
    exact w_case_41 hI hst C X hc0 hs0 kW w hl hM
  refine m_swc 42 hM (fun ek hM => ?_) (fun hn42 hM => ?_)
  · refine lv_tableIn C.1 C.2.1 d_law_40 (tgt := 2789) (off := 2749) (by rw [ek]; decide) (by rw [ek]; decide) (by rw [ek]; rfl) (by decide) ?_
    exact w_case_42 hI hst C X hc0 hs0 kW w hl hM
  refine lv_tableOut C.1 C.2.1 d_law_40 (tgt := 2814) ?_ (by decide) ?_
  · have g0 := lv_neT hn0 (show (iZ 0).toInt = 0 from rfl); have g1 := lv_neT hn1 (show (iZ 1).toInt = 1 from rfl); have g2 := lv_neT hn2 (show (iZ 2).toInt = 2 from rfl); have g3 := lv_neT hn3 (show (iZ 3).toInt = 3 from rfl); have g4 := lv_neT hn4 (show (iZ 4).toInt = 4 from rfl); have g5 := lv_neT hn5 (show (iZ 5).toInt = 5 from rfl); have g6 := lv_neT hn6 (show (iZ 6).toInt = 6 from rfl); have g7 := lv_neT hn7 (show (iZ 7).toInt = 7 from rfl); have g8 := lv_neT hn8 (show (iZ 8).toInt = 8 from rfl); have g9 := lv_neT hn9 (show (iZ 9).toInt = 9 from rfl); have g10 := lv_neT hn10 (show (iZ 10).toInt = 10 from rfl); have g11 := lv_neT hn11 (show (iZ 11).toInt = 11 from rfl); have g12 := lv_neT hn12 (show (iZ 12).toInt = 12 from rfl); have g13 := lv_neT hn13 (show (iZ 13).toInt = 13 from rfl); have g14 := lv_neT hn14 (show (iZ 14).toInt = 14 from rfl); have g15 := lv_neT hn15 (show (iZ 15).toInt = 15 from rfl); have g16 := lv_neT hn16 (show (iZ 16).toInt = 16 from rfl); have g17 := lv_neT hn17 (show (iZ 17).toInt = 17 from rfl); have g18 := lv_neT hn18 (show (iZ 18).toInt = 18 from rfl); have g19 := lv_neT hn19 (show (iZ 19).toInt = 19 from rfl); have g20 := lv_neT hn20 (show (iZ 20).toInt = 20 from rfl); have g21 := lv_neT hn21 (show (iZ 21).toInt = 21 from rfl); have g22 := lv_neT hn22 (show (iZ 22).toInt = 22 from rfl); have g23 := lv_neT hn23 (show (iZ 23).toInt = 23 from rfl); have g24 := lv_neT hn24 (show (iZ 24).toInt = 24 from rfl); have g25 := lv_neT hn25 (show (iZ 25).toInt = 25 from rfl); have g26 := lv_neT hn26 (show (iZ 26).toInt = 26 from rfl); have g27 := lv_neT hn27 (show (iZ 27).toInt = 27 from rfl); have g28 := lv_neT hn28 (show (iZ 28).toInt = 28 from rfl); have g29 := lv_neT hn29 (show (iZ 29).toInt = 29 from rfl); have g30 := lv_neT hn30 (show (iZ 30).toInt = 30 from rfl); have g31 := lv_neT hn31 (show (iZ 31).toInt = 31 from rfl); have g32 := lv_neT hn32 (show (iZ 32).toInt = 32 from rfl); have g33 := lv_neT hn33 (show (iZ 33).toInt = 33 from rfl); have g34 := lv_neT hn34 (show (iZ 34).toInt = 34 from rfl); have g35 := lv_neT hn35 (show (iZ 35).toInt = 35 from rfl); have g36 := lv_neT hn36 (show (iZ 36).toInt = 36 from rfl); have g37 := lv_neT hn37 (show (iZ 37).toInt = 37 from rfl); have g38 := lv_neT hn38 (show (iZ 38).toInt = 38 from rfl); have g39 := lv_neT hn39 (show (iZ 39).toInt = 39 from rfl); have g40 := lv_neT hn40 (show (iZ 40).toInt = 40 from rfl); have g41 := lv_neT hn41 (show (iZ 41).toInt = 41 from rfl); have g42 := lv_neT hn42 (show (iZ 42).toInt = 42 from rfl); omega
  · refine W.widen (k := c0 + 4) (n := s0 + 24) (by omega) (by omega) ?_
    exact kW h hM _ _ w _ hl

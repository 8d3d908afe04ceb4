theorem mL1 {w : Cond} (i : Nat) (h0 : tables_1_1[i]? = some w) : w ∈ lw_tbl := List.mem_append_right _ (by have h := List.mem_of_getElem? h0; exact List.mem_append_left _ h)
theorem mL2 {w : Cond} (i : Nat) (h0 : tables_1_2[i]? = some w) : w ∈ lw_tbl := List.mem_append_right _ (by have h := List.mem_of_getElem? h0; exact List.mem_append_right _ (List.mem_append_left _ h))
theorem mL3 {w : Cond} (i : Nat) (h0 : tables_1_3[i]? = some w) : w ∈ lw_tbl := List.mem_append_right _ (by have h := List.mem_of_getElem? h0; exact List.mem_append_right _ (List.mem_append_right _ (List.mem_append_left _ h)))
theorem mL4 {w : Cond} (i : Nat) (h0 : tables_1_4[i]? = some w) : w ∈ lw_tbl := List.mem_append_right _ (by have h := List.mem_of_getElem? h0; exact List.mem_append_right _ (List.mem_append_right _ (List.mem_append_right _ (List.mem_append_left _ h))))
theorem mL5 {w : Cond} (i : Nat) (h0 : tables_1_5[i]? = some w) : w ∈ lw_tbl := List.mem_append_right _ (by have h := List.mem_of_getElem? h0; exact List.mem_append_right _ (List.mem_append_right _ (List.mem_append_right _ (List.mem_append_right _ (List.mem_append_left _ h)))))
theorem mL6 {w : Cond} (i : Nat) (h0 : tables_1_6[i]? = some w) : w ∈ lw_tbl := List.mem_append_right _ (by have h := List.mem_of_getElem? h0; exact List.mem_append_right _ (List.mem_append_right _ (List.mem_append_right _ (List.mem_append_right _ (List.mem_append_right _ (List.mem_append_left _ h))))))
theorem mL7 {w : Cond} (i : Nat) (h0 : tables_1_7[i]? = some w) : w ∈ lw_tbl := List.mem_append_right _ (by have h := List.mem_of_getElem? h0; exact List.mem_append_right _ (List.mem_append_right _ (List.mem_append_right _ (List.mem_append_right _ (List.mem_append_right _ (List.mem_append_right _ (List.mem_append_left _ h)))))))
theorem mL8 {w : Cond} (i : Nat) (h0 : tables_1_8[i]? = some w) : w ∈ lw_tbl := List.mem_append_right _ (by have h := List.mem_of_getElem? h0; exact List.mem_append_right _ (List.mem_append_right _ (List.mem_append_right _ (List.mem_append_right _ (List.mem_append_right _ (List.mem_append_right _ (List.mem_append_right _ (List.mem_append_left _ h))))))))
theorem mL9 {w : Cond} (i : Nat) (h0 : tables_1_9[i]? = some w) : w ∈ lw_tbl := List.mem_append_right _ (by have h := List.mem_of_getElem? h0; exact List.mem_append_right _ (List.mem_append_right _ (List.mem_append_right _ (List.mem_append_right _ (List.mem_append_right _ (List.mem_append_right _ (List.mem_append_right _ (List.mem_append_right _ (List.mem_append_left _ h)))))))))
theorem mL10 {w : Cond} (i : Nat) (h0 : tables_1_10[i]? = some w) : w ∈ lw_tbl := List.mem_append_right _ (by have h := List.mem_of_getElem? h0; exact List.mem_append_right _ (List.mem_append_right _ (List.mem_append_right _ (List.mem_append_right _ (List.mem_append_right _ (List.mem_append_right _ (List.mem_append_right _ (List.mem_append_right _ (List.mem_append_right _ (h))))))))))
def FLt : List Cond := flatC (Jvm.Cond.and given_1 narrow_1)
theorem fl_at {args : Array Value} {s : State} (h : (Jvm.Cond.and given_1 narrow_1).before args s = true) {w : Cond} (i : Nat) (e : FLt[i]? = some w) : w.before args s = true := flat_of_before _ h w (List.mem_of_getElem? e)
theorem sx_of {args : Array Value} {s : State} {own : String} {k : Nat} {bs : List Int32} {A : Nat → Prop} (hb : bs.length < 2 ^ 31) (h1 : (Cond.exactly (.string own k) "java/lang/String").before args s = true) (h2 : (Cond.eq (.field (.string own k) "java/lang/String" "coder" "B") (.int 0)).before args s = true) (h3 : (Cond.arrayOf (.field (.string own k) "java/lang/String" "value" "[B") .byte).before args s = true) (h4 : (Cond.eq (.length (.field (.string own k) "java/lang/String" "value" "[B")) (.int (Int32.ofNat bs.length))).before args s = true)
    (h5 : ∀ j : Nat, j < bs.length → (Cond.eq (.elem (.field (.string own k) "java/lang/String" "value" "[B") (.int (Int32.ofNat j))) (.int (bs.getD j 0))).before args s = true) (hA : ∀ a : Nat, a < s.heap.size → ¬ A a) : ∃ a v : Nat, vk_S 1 [bs.length] [bs] (fun _ => a) (fun _ => v) A s s.heap ∧ (Term.string own k).eval args s none [] s = some (.ref a) := by
  obtain ⟨adK, adV, g1, g2⟩ := vk_Sof (args := args) (s := s) (N := 1) (tm := fun _ => .string own k) (len := [bs.length]) (byt := [bs]) (A := A) (fun i hi => by obtain rfl := Nat.lt_one_iff.mp hi; exact hb) (fun _ _ => h1) (fun _ _ => h2) (fun _ _ => h3) (fun i hi => by obtain rfl := Nat.lt_one_iff.mp hi; exact h4) (fun i hi j hj => by obtain rfl := Nat.lt_one_iff.mp hi; exact h5 j hj) (fun i j hi hj hne => absurd (show i = j by omega) hne) hA
  have hk : ∀ i, i < 1 → i = 0 := fun i hi => by omega
  refine ⟨adK 0, adV 0, ⟨fun i hi => ?_, fun i j hi hj _ => by omega⟩, g2 0 (by omega)⟩
  obtain rfl := hk i hi
  exact g1.1 0 (by omega)
def stB : List Nat := [280, 288, 296, 304, 313, 319, 325, 333, 341, 349, 357, 366, 376, 386, 396, 404, 413, 421, 699, 708, 717, 726, 736, 745, 754, 763, 774, 785, 795, 802, 809, 818, 827, 836, 845, 855, 429, 450, 466, 554, 569, 586, 608, 632, 652, 676]
theorem sx_0 {args : Array Value} {s : State} {A : Nat → Prop} (h : (Jvm.Cond.and given_1 narrow_1).before args s = true) (hA : ∀ a : Nat, a < s.heap.size → ¬ A a) : ∃ a v : Nat, vk_S 1 [(byS.getD 0 []).length] [byS.getD 0 []] (fun _ => a) (fun _ => v) A s s.heap ∧ (Term.string "FeastBook$Reader" 74).eval args s none [] s = some (.ref a) :=
  sx_of (bs := [98, 111, 111, 107]) (by decide) (fl_at h 280 (by decide +kernel)) (fl_at h 281 (by decide +kernel)) (fl_at h 282 (by decide +kernel)) (fl_at h 283 (by decide +kernel)) (fun j hj => by
    match j, hj with
    | 0, _ => exact fl_at h 284 (by decide +kernel)
    | 1, _ => exact fl_at h 285 (by decide +kernel)
    | 2, _ => exact fl_at h 286 (by decide +kernel)
    | 3, _ => exact fl_at h 287 (by decide +kernel)
    | j + 4, hj => exact absurd hj (by simp)) hA
theorem sx_1 {args : Array Value} {s : State} {A : Nat → Prop} (h : (Jvm.Cond.and given_1 narrow_1).before args s = true) (hA : ∀ a : Nat, a < s.heap.size → ¬ A a) : ∃ a v : Nat, vk_S 1 [(byS.getD 1 []).length] [byS.getD 1 []] (fun _ => a) (fun _ => v) A s s.heap ∧ (Term.string "FeastBook$Reader" 100).eval args s none [] s = some (.ref a) :=
  sx_of (bs := [108, 101, 97, 112]) (by decide) (fl_at h 288 (by decide +kernel)) (fl_at h 289 (by decide +kernel)) (fl_at h 290 (by decide +kernel)) (fl_at h 291 (by decide +kernel)) (fun j hj => by
    match j, hj with
    | 0, _ => exact fl_at h 292 (by decide +kernel)
    | 1, _ => exact fl_at h 293 (by decide +kernel)
    | 2, _ => exact fl_at h 294 (by decide +kernel)
    | 3, _ => exact fl_at h 295 (by decide +kernel)
    | j + 4, hj => exact absurd hj (by simp)) hA
theorem sx_2 {args : Array Value} {s : State} {A : Nat → Prop} (h : (Jvm.Cond.and given_1 narrow_1).before args s = true) (hA : ∀ a : Nat, a < s.heap.size → ¬ A a) : ∃ a v : Nat, vk_S 1 [(byS.getD 2 []).length] [byS.getD 2 []] (fun _ => a) (fun _ => v) A s s.heap ∧ (Term.string "FeastBook$Reader" 108).eval args s none [] s = some (.ref a) :=
  sx_of (bs := [109, 111, 111, 110]) (by decide) (fl_at h 296 (by decide +kernel)) (fl_at h 297 (by decide +kernel)) (fl_at h 298 (by decide +kernel)) (fl_at h 299 (by decide +kernel)) (fun j hj => by
    match j, hj with
    | 0, _ => exact fl_at h 300 (by decide +kernel)
    | 1, _ => exact fl_at h 301 (by decide +kernel)
    | 2, _ => exact fl_at h 302 (by decide +kernel)
    | 3, _ => exact fl_at h 303 (by decide +kernel)
    | j + 4, hj => exact absurd hj (by simp)) hA
theorem sx_3 {args : Array Value} {s : State} {A : Nat → Prop} (h : (Jvm.Cond.and given_1 narrow_1).before args s = true) (hA : ∀ a : Nat, a < s.heap.size → ¬ A a) : ∃ a v : Nat, vk_S 1 [(byS.getD 3 []).length] [byS.getD 3 []] (fun _ => a) (fun _ => v) A s s.heap ∧ (Term.string "FeastBook$Reader" 142).eval args s none [] s = some (.ref a) :=
  sx_of (bs := [102, 101, 97, 115, 116]) (by decide) (fl_at h 304 (by decide +kernel)) (fl_at h 305 (by decide +kernel)) (fl_at h 306 (by decide +kernel)) (fl_at h 307 (by decide +kernel)) (fun j hj => by
    match j, hj with
    | 0, _ => exact fl_at h 308 (by decide +kernel)
    | 1, _ => exact fl_at h 309 (by decide +kernel)
    | 2, _ => exact fl_at h 310 (by decide +kernel)
    | 3, _ => exact fl_at h 311 (by decide +kernel)
    | 4, _ => exact fl_at h 312 (by decide +kernel)
    | j + 5, hj => exact absurd hj (by simp)) hA
theorem sx_4 {args : Array Value} {s : State} {A : Nat → Prop} (h : (Jvm.Cond.and given_1 narrow_1).before args s = true) (hA : ∀ a : Nat, a < s.heap.size → ¬ A a) : ∃ a v : Nat, vk_S 1 [(byS.getD 4 []).length] [byS.getD 4 []] (fun _ => a) (fun _ => v) A s s.heap ∧ (Term.string "FeastBook$Reader" 197).eval args s none [] s = some (.ref a) :=
  sx_of (bs := [97, 116]) (by decide) (fl_at h 313 (by decide +kernel)) (fl_at h 314 (by decide +kernel)) (fl_at h 315 (by decide +kernel)) (fl_at h 316 (by decide +kernel)) (fun j hj => by
    match j, hj with
    | 0, _ => exact fl_at h 317 (by decide +kernel)
    | 1, _ => exact fl_at h 318 (by decide +kernel)
    | j + 2, hj => exact absurd hj (by simp)) hA
theorem sx_5 {args : Array Value} {s : State} {A : Nat → Prop} (h : (Jvm.Cond.and given_1 narrow_1).before args s = true) (hA : ∀ a : Nat, a < s.heap.size → ¬ A a) : ∃ a v : Nat, vk_S 1 [(byS.getD 5 []).length] [byS.getD 5 []] (fun _ => a) (fun _ => v) A s s.heap ∧ (Term.string "FeastBook$Reader" 198).eval args s none [] s = some (.ref a) :=
  sx_of (bs := [111, 110]) (by decide) (fl_at h 319 (by decide +kernel)) (fl_at h 320 (by decide +kernel)) (fl_at h 321 (by decide +kernel)) (fl_at h 322 (by decide +kernel)) (fun j hj => by
    match j, hj with
    | 0, _ => exact fl_at h 323 (by decide +kernel)
    | 1, _ => exact fl_at h 324 (by decide +kernel)
    | j + 2, hj => exact absurd hj (by simp)) hA
theorem sx_6 {args : Array Value} {s : State} {A : Nat → Prop} (h : (Jvm.Cond.and given_1 narrow_1).before args s = true) (hA : ∀ a : Nat, a < s.heap.size → ¬ A a) : ∃ a v : Nat, vk_S 1 [(byS.getD 6 []).length] [byS.getD 6 []] (fun _ => a) (fun _ => v) A s s.heap ∧ (Term.string "FeastBook$Reader" 222).eval args s none [] s = some (.ref a) :=
  sx_of (bs := [109, 111, 118, 101]) (by decide) (fl_at h 325 (by decide +kernel)) (fl_at h 326 (by decide +kernel)) (fl_at h 327 (by decide +kernel)) (fl_at h 328 (by decide +kernel)) (fun j hj => by
    match j, hj with
    | 0, _ => exact fl_at h 329 (by decide +kernel)
    | 1, _ => exact fl_at h 330 (by decide +kernel)
    | 2, _ => exact fl_at h 331 (by decide +kernel)
    | 3, _ => exact fl_at h 332 (by decide +kernel)
    | j + 4, hj => exact absurd hj (by simp)) hA
theorem sx_7 {args : Array Value} {s : State} {A : Nat → Prop} (h : (Jvm.Cond.and given_1 narrow_1).before args s = true) (hA : ∀ a : Nat, a < s.heap.size → ¬ A a) : ∃ a v : Nat, vk_S 1 [(byS.getD 7 []).length] [byS.getD 7 []] (fun _ => a) (fun _ => v) A s s.heap ∧ (Term.string "FeastBook$Reader" 224).eval args s none [] s = some (.ref a) :=
  sx_of (bs := [98, 97, 99, 107]) (by decide) (fl_at h 333 (by decide +kernel)) (fl_at h 334 (by decide +kernel)) (fl_at h 335 (by decide +kernel)) (fl_at h 336 (by decide +kernel)) (fun j hj => by
    match j, hj with
    | 0, _ => exact fl_at h 337 (by decide +kernel)
    | 1, _ => exact fl_at h 338 (by decide +kernel)
    | 2, _ => exact fl_at h 339 (by decide +kernel)
    | 3, _ => exact fl_at h 340 (by decide +kernel)
    | j + 4, hj => exact absurd hj (by simp)) hA
theorem sx_8 {args : Array Value} {s : State} {A : Nat → Prop} (h : (Jvm.Cond.and given_1 narrow_1).before args s = true) (hA : ∀ a : Nat, a < s.heap.size → ¬ A a) : ∃ a v : Nat, vk_S 1 [(byS.getD 8 []).length] [byS.getD 8 []] (fun _ => a) (fun _ => v) A s s.heap ∧ (Term.string "FeastBook$Reader" 226).eval args s none [] s = some (.ref a) :=
  sx_of (bs := [106, 111, 105, 110]) (by decide) (fl_at h 341 (by decide +kernel)) (fl_at h 342 (by decide +kernel)) (fl_at h 343 (by decide +kernel)) (fl_at h 344 (by decide +kernel)) (fun j hj => by
    match j, hj with
    | 0, _ => exact fl_at h 345 (by decide +kernel)
    | 1, _ => exact fl_at h 346 (by decide +kernel)
    | 2, _ => exact fl_at h 347 (by decide +kernel)
    | 3, _ => exact fl_at h 348 (by decide +kernel)
    | j + 4, hj => exact absurd hj (by simp)) hA
theorem sx_9 {args : Array Value} {s : State} {A : Nat → Prop} (h : (Jvm.Cond.and given_1 narrow_1).before args s = true) (hA : ∀ a : Nat, a < s.heap.size → ¬ A a) : ∃ a v : Nat, vk_S 1 [(byS.getD 9 []).length] [byS.getD 9 []] (fun _ => a) (fun _ => v) A s s.heap ∧ (Term.string "FeastBook$Reader" 228).eval args s none [] s = some (.ref a) :=
  sx_of (bs := [100, 114, 111, 112]) (by decide) (fl_at h 349 (by decide +kernel)) (fl_at h 350 (by decide +kernel)) (fl_at h 351 (by decide +kernel)) (fl_at h 352 (by decide +kernel)) (fun j hj => by
    match j, hj with
    | 0, _ => exact fl_at h 353 (by decide +kernel)
    | 1, _ => exact fl_at h 354 (by decide +kernel)
    | 2, _ => exact fl_at h 355 (by decide +kernel)
    | 3, _ => exact fl_at h 356 (by decide +kernel)
    | j + 4, hj => exact absurd hj (by simp)) hA
theorem sx_10 {args : Array Value} {s : State} {A : Nat → Prop} (h : (Jvm.Cond.and given_1 narrow_1).before args s = true) (hA : ∀ a : Nat, a < s.heap.size → ¬ A a) : ∃ a v : Nat, vk_S 1 [(byS.getD 10 []).length] [byS.getD 10 []] (fun _ => a) (fun _ => v) A s s.heap ∧ (Term.string "FeastBook$Reader" 207).eval args s none [] s = some (.ref a) :=
  sx_of (bs := [118, 105, 103, 105, 108]) (by decide) (fl_at h 357 (by decide +kernel)) (fl_at h 358 (by decide +kernel)) (fl_at h 359 (by decide +kernel)) (fl_at h 360 (by decide +kernel)) (fun j hj => by
    match j, hj with
    | 0, _ => exact fl_at h 361 (by decide +kernel)
    | 1, _ => exact fl_at h 362 (by decide +kernel)
    | 2, _ => exact fl_at h 363 (by decide +kernel)
    | 3, _ => exact fl_at h 364 (by decide +kernel)
    | 4, _ => exact fl_at h 365 (by decide +kernel)
    | j + 5, hj => exact absurd hj (by simp)) hA
theorem sx_11 {args : Array Value} {s : State} {A : Nat → Prop} (h : (Jvm.Cond.and given_1 narrow_1).before args s = true) (hA : ∀ a : Nat, a < s.heap.size → ¬ A a) : ∃ a v : Nat, vk_S 1 [(byS.getD 11 []).length] [byS.getD 11 []] (fun _ => a) (fun _ => v) A s s.heap ∧ (Term.string "FeastBook$Reader" 213).eval args s none [] s = some (.ref a) :=
  sx_of (bs := [111, 99, 116, 97, 118, 101]) (by decide) (fl_at h 366 (by decide +kernel)) (fl_at h 367 (by decide +kernel)) (fl_at h 368 (by decide +kernel)) (fl_at h 369 (by decide +kernel)) (fun j hj => by
    match j, hj with
    | 0, _ => exact fl_at h 370 (by decide +kernel)
    | 1, _ => exact fl_at h 371 (by decide +kernel)
    | 2, _ => exact fl_at h 372 (by decide +kernel)
    | 3, _ => exact fl_at h 373 (by decide +kernel)
    | 4, _ => exact fl_at h 374 (by decide +kernel)
    | 5, _ => exact fl_at h 375 (by decide +kernel)
    | j + 6, hj => exact absurd hj (by simp)) hA
theorem sx_12 {args : Array Value} {s : State} {A : Nat → Prop} (h : (Jvm.Cond.and given_1 narrow_1).before args s = true) (hA : ∀ a : Nat, a < s.heap.size → ¬ A a) : ∃ a v : Nat, vk_S 1 [(byS.getD 12 []).length] [byS.getD 12 []] (fun _ => a) (fun _ => v) A s s.heap ∧ (Term.string "FeastBook$Reader" 147).eval args s none [] s = some (.ref a) :=
  sx_of (bs := [115, 101, 97, 115, 111, 110]) (by decide) (fl_at h 376 (by decide +kernel)) (fl_at h 377 (by decide +kernel)) (fl_at h 378 (by decide +kernel)) (fl_at h 379 (by decide +kernel)) (fun j hj => by
    match j, hj with
    | 0, _ => exact fl_at h 380 (by decide +kernel)
    | 1, _ => exact fl_at h 381 (by decide +kernel)
    | 2, _ => exact fl_at h 382 (by decide +kernel)
    | 3, _ => exact fl_at h 383 (by decide +kernel)
    | 4, _ => exact fl_at h 384 (by decide +kernel)
    | 5, _ => exact fl_at h 385 (by decide +kernel)
    | j + 6, hj => exact absurd hj (by simp)) hA
theorem sx_13 {args : Array Value} {s : State} {A : Nat → Prop} (h : (Jvm.Cond.and given_1 narrow_1).before args s = true) (hA : ∀ a : Nat, a < s.heap.size → ¬ A a) : ∃ a v : Nat, vk_S 1 [(byS.getD 13 []).length] [byS.getD 13 []] (fun _ => a) (fun _ => v) A s s.heap ∧ (Term.string "FeastBook$Reader" 152).eval args s none [] s = some (.ref a) :=
  sx_of (bs := [99, 108, 111, 115, 101, 100]) (by decide) (fl_at h 386 (by decide +kernel)) (fl_at h 387 (by decide +kernel)) (fl_at h 388 (by decide +kernel)) (fl_at h 389 (by decide +kernel)) (fun j hj => by
    match j, hj with
    | 0, _ => exact fl_at h 390 (by decide +kernel)
    | 1, _ => exact fl_at h 391 (by decide +kernel)
    | 2, _ => exact fl_at h 392 (by decide +kernel)
    | 3, _ => exact fl_at h 393 (by decide +kernel)
    | 4, _ => exact fl_at h 394 (by decide +kernel)
    | 5, _ => exact fl_at h 395 (by decide +kernel)
    | j + 6, hj => exact absurd hj (by simp)) hA
theorem sx_14 {args : Array Value} {s : State} {A : Nat → Prop} (h : (Jvm.Cond.and given_1 narrow_1).before args s = true) (hA : ∀ a : Nat, a < s.heap.size → ¬ A a) : ∃ a v : Nat, vk_S 1 [(byS.getD 14 []).length] [byS.getD 14 []] (fun _ => a) (fun _ => v) A s s.heap ∧ (Term.string "FeastBook$Reader" 157).eval args s none [] s = some (.ref a) :=
  sx_of (bs := [102, 97, 115, 116]) (by decide) (fl_at h 396 (by decide +kernel)) (fl_at h 397 (by decide +kernel)) (fl_at h 398 (by decide +kernel)) (fl_at h 399 (by decide +kernel)) (fun j hj => by
    match j, hj with
    | 0, _ => exact fl_at h 400 (by decide +kernel)
    | 1, _ => exact fl_at h 401 (by decide +kernel)
    | 2, _ => exact fl_at h 402 (by decide +kernel)
    | 3, _ => exact fl_at h 403 (by decide +kernel)
    | j + 4, hj => exact absurd hj (by simp)) hA
theorem sx_15 {args : Array Value} {s : State} {A : Nat → Prop} (h : (Jvm.Cond.and given_1 narrow_1).before args s = true) (hA : ∀ a : Nat, a < s.heap.size → ¬ A a) : ∃ a v : Nat, vk_S 1 [(byS.getD 15 []).length] [byS.getD 15 []] (fun _ => a) (fun _ => v) A s s.heap ∧ (Term.string "FeastBook$Reader" 165).eval args s none [] s = some (.ref a) :=
  sx_of (bs := [114, 101, 97, 99, 104]) (by decide) (fl_at h 404 (by decide +kernel)) (fl_at h 405 (by decide +kernel)) (fl_at h 406 (by decide +kernel)) (fl_at h 407 (by decide +kernel)) (fun j hj => by
    match j, hj with
    | 0, _ => exact fl_at h 408 (by decide +kernel)
    | 1, _ => exact fl_at h 409 (by decide +kernel)
    | 2, _ => exact fl_at h 410 (by decide +kernel)
    | 3, _ => exact fl_at h 411 (by decide +kernel)
    | 4, _ => exact fl_at h 412 (by decide +kernel)
    | j + 5, hj => exact absurd hj (by simp)) hA
theorem sx_16 {args : Array Value} {s : State} {A : Nat → Prop} (h : (Jvm.Cond.and given_1 narrow_1).before args s = true) (hA : ∀ a : Nat, a < s.heap.size → ¬ A a) : ∃ a v : Nat, vk_S 1 [(byS.getD 16 []).length] [byS.getD 16 []] (fun _ => a) (fun _ => v) A s s.heap ∧ (Term.string "FeastBook$Reader" 169).eval args s none [] s = some (.ref a) :=
  sx_of (bs := [114, 101, 115, 116]) (by decide) (fl_at h 413 (by decide +kernel)) (fl_at h 414 (by decide +kernel)) (fl_at h 415 (by decide +kernel)) (fl_at h 416 (by decide +kernel)) (fun j hj => by
    match j, hj with
    | 0, _ => exact fl_at h 417 (by decide +kernel)
    | 1, _ => exact fl_at h 418 (by decide +kernel)
    | 2, _ => exact fl_at h 419 (by decide +kernel)
    | 3, _ => exact fl_at h 420 (by decide +kernel)
    | j + 4, hj => exact absurd hj (by simp)) hA
theorem sx_17 {args : Array Value} {s : State} {A : Nat → Prop} (h : (Jvm.Cond.and given_1 narrow_1).before args s = true) (hA : ∀ a : Nat, a < s.heap.size → ¬ A a) : ∃ a v : Nat, vk_S 1 [(byS.getD 17 []).length] [byS.getD 17 []] (fun _ => a) (fun _ => v) A s s.heap ∧ (Term.string "FeastBook$Reader" 173).eval args s none [] s = some (.ref a) :=
  sx_of (bs := [108, 105, 102, 116]) (by decide) (fl_at h 421 (by decide +kernel)) (fl_at h 422 (by decide +kernel)) (fl_at h 423 (by decide +kernel)) (fl_at h 424 (by decide +kernel)) (fun j hj => by
    match j, hj with
    | 0, _ => exact fl_at h 425 (by decide +kernel)
    | 1, _ => exact fl_at h 426 (by decide +kernel)
    | 2, _ => exact fl_at h 427 (by decide +kernel)
    | 3, _ => exact fl_at h 428 (by decide +kernel)
    | j + 4, hj => exact absurd hj (by simp)) hA
theorem sx_18 {args : Array Value} {s : State} {A : Nat → Prop} (h : (Jvm.Cond.and given_1 narrow_1).before args s = true) (hA : ∀ a : Nat, a < s.heap.size → ¬ A a) : ∃ a v : Nat, vk_S 1 [(byS.getD 18 []).length] [byS.getD 18 []] (fun _ => a) (fun _ => v) A s s.heap ∧ (Term.string "FeastBookModel" 192).eval args s none [] s = some (.ref a) :=
  sx_of (bs := [98, 111, 111, 107]) (by decide) (fl_at h 699 (by decide +kernel)) (fl_at h 700 (by decide +kernel)) (fl_at h 701 (by decide +kernel)) (fl_at h 702 (by decide +kernel)) (fun j hj => by
    match j, hj with
    | 0, _ => exact fl_at h 703 (by decide +kernel)
    | 1, _ => exact fl_at h 704 (by decide +kernel)
    | 2, _ => exact fl_at h 705 (by decide +kernel)
    | 3, _ => exact fl_at h 706 (by decide +kernel)
    | j + 4, hj => exact absurd hj (by simp)) hA
theorem sx_19 {args : Array Value} {s : State} {A : Nat → Prop} (h : (Jvm.Cond.and given_1 narrow_1).before args s = true) (hA : ∀ a : Nat, a < s.heap.size → ¬ A a) : ∃ a v : Nat, vk_S 1 [(byS.getD 19 []).length] [byS.getD 19 []] (fun _ => a) (fun _ => v) A s s.heap ∧ (Term.string "FeastBookModel" 204).eval args s none [] s = some (.ref a) :=
  sx_of (bs := [108, 101, 97, 112]) (by decide) (fl_at h 708 (by decide +kernel)) (fl_at h 709 (by decide +kernel)) (fl_at h 710 (by decide +kernel)) (fl_at h 711 (by decide +kernel)) (fun j hj => by
    match j, hj with
    | 0, _ => exact fl_at h 712 (by decide +kernel)
    | 1, _ => exact fl_at h 713 (by decide +kernel)
    | 2, _ => exact fl_at h 714 (by decide +kernel)
    | 3, _ => exact fl_at h 715 (by decide +kernel)
    | j + 4, hj => exact absurd hj (by simp)) hA
theorem sx_20 {args : Array Value} {s : State} {A : Nat → Prop} (h : (Jvm.Cond.and given_1 narrow_1).before args s = true) (hA : ∀ a : Nat, a < s.heap.size → ¬ A a) : ∃ a v : Nat, vk_S 1 [(byS.getD 20 []).length] [byS.getD 20 []] (fun _ => a) (fun _ => v) A s s.heap ∧ (Term.string "FeastBookModel" 206).eval args s none [] s = some (.ref a) :=
  sx_of (bs := [109, 111, 111, 110]) (by decide) (fl_at h 717 (by decide +kernel)) (fl_at h 718 (by decide +kernel)) (fl_at h 719 (by decide +kernel)) (fl_at h 720 (by decide +kernel)) (fun j hj => by
    match j, hj with
    | 0, _ => exact fl_at h 721 (by decide +kernel)
    | 1, _ => exact fl_at h 722 (by decide +kernel)
    | 2, _ => exact fl_at h 723 (by decide +kernel)
    | 3, _ => exact fl_at h 724 (by decide +kernel)
    | j + 4, hj => exact absurd hj (by simp)) hA
theorem sx_21 {args : Array Value} {s : State} {A : Nat → Prop} (h : (Jvm.Cond.and given_1 narrow_1).before args s = true) (hA : ∀ a : Nat, a < s.heap.size → ¬ A a) : ∃ a v : Nat, vk_S 1 [(byS.getD 21 []).length] [byS.getD 21 []] (fun _ => a) (fun _ => v) A s s.heap ∧ (Term.string "FeastBookModel" 232).eval args s none [] s = some (.ref a) :=
  sx_of (bs := [114, 101, 97, 99, 104]) (by decide) (fl_at h 726 (by decide +kernel)) (fl_at h 727 (by decide +kernel)) (fl_at h 728 (by decide +kernel)) (fl_at h 729 (by decide +kernel)) (fun j hj => by
    match j, hj with
    | 0, _ => exact fl_at h 730 (by decide +kernel)
    | 1, _ => exact fl_at h 731 (by decide +kernel)
    | 2, _ => exact fl_at h 732 (by decide +kernel)
    | 3, _ => exact fl_at h 733 (by decide +kernel)
    | 4, _ => exact fl_at h 734 (by decide +kernel)
    | j + 5, hj => exact absurd hj (by simp)) hA
theorem sx_22 {args : Array Value} {s : State} {A : Nat → Prop} (h : (Jvm.Cond.and given_1 narrow_1).before args s = true) (hA : ∀ a : Nat, a < s.heap.size → ¬ A a) : ∃ a v : Nat, vk_S 1 [(byS.getD 22 []).length] [byS.getD 22 []] (fun _ => a) (fun _ => v) A s s.heap ∧ (Term.string "FeastBookModel" 238).eval args s none [] s = some (.ref a) :=
  sx_of (bs := [114, 101, 115, 116]) (by decide) (fl_at h 736 (by decide +kernel)) (fl_at h 737 (by decide +kernel)) (fl_at h 738 (by decide +kernel)) (fl_at h 739 (by decide +kernel)) (fun j hj => by
    match j, hj with
    | 0, _ => exact fl_at h 740 (by decide +kernel)
    | 1, _ => exact fl_at h 741 (by decide +kernel)
    | 2, _ => exact fl_at h 742 (by decide +kernel)
    | 3, _ => exact fl_at h 743 (by decide +kernel)
    | j + 4, hj => exact absurd hj (by simp)) hA
theorem sx_23 {args : Array Value} {s : State} {A : Nat → Prop} (h : (Jvm.Cond.and given_1 narrow_1).before args s = true) (hA : ∀ a : Nat, a < s.heap.size → ¬ A a) : ∃ a v : Nat, vk_S 1 [(byS.getD 23 []).length] [byS.getD 23 []] (fun _ => a) (fun _ => v) A s s.heap ∧ (Term.string "FeastBookModel" 240).eval args s none [] s = some (.ref a) :=
  sx_of (bs := [108, 105, 102, 116]) (by decide) (fl_at h 745 (by decide +kernel)) (fl_at h 746 (by decide +kernel)) (fl_at h 747 (by decide +kernel)) (fl_at h 748 (by decide +kernel)) (fun j hj => by
    match j, hj with
    | 0, _ => exact fl_at h 749 (by decide +kernel)
    | 1, _ => exact fl_at h 750 (by decide +kernel)
    | 2, _ => exact fl_at h 751 (by decide +kernel)
    | 3, _ => exact fl_at h 752 (by decide +kernel)
    | j + 4, hj => exact absurd hj (by simp)) hA
theorem sx_24 {args : Array Value} {s : State} {A : Nat → Prop} (h : (Jvm.Cond.and given_1 narrow_1).before args s = true) (hA : ∀ a : Nat, a < s.heap.size → ¬ A a) : ∃ a v : Nat, vk_S 1 [(byS.getD 24 []).length] [byS.getD 24 []] (fun _ => a) (fun _ => v) A s s.heap ∧ (Term.string "FeastBookModel" 242).eval args s none [] s = some (.ref a) :=
  sx_of (bs := [102, 97, 115, 116]) (by decide) (fl_at h 754 (by decide +kernel)) (fl_at h 755 (by decide +kernel)) (fl_at h 756 (by decide +kernel)) (fl_at h 757 (by decide +kernel)) (fun j hj => by
    match j, hj with
    | 0, _ => exact fl_at h 758 (by decide +kernel)
    | 1, _ => exact fl_at h 759 (by decide +kernel)
    | 2, _ => exact fl_at h 760 (by decide +kernel)
    | 3, _ => exact fl_at h 761 (by decide +kernel)
    | j + 4, hj => exact absurd hj (by simp)) hA
theorem sx_25 {args : Array Value} {s : State} {A : Nat → Prop} (h : (Jvm.Cond.and given_1 narrow_1).before args s = true) (hA : ∀ a : Nat, a < s.heap.size → ¬ A a) : ∃ a v : Nat, vk_S 1 [(byS.getD 25 []).length] [byS.getD 25 []] (fun _ => a) (fun _ => v) A s s.heap ∧ (Term.string "FeastBookModel" 247).eval args s none [] s = some (.ref a) :=
  sx_of (bs := [115, 101, 97, 115, 111, 110]) (by decide) (fl_at h 763 (by decide +kernel)) (fl_at h 764 (by decide +kernel)) (fl_at h 765 (by decide +kernel)) (fl_at h 766 (by decide +kernel)) (fun j hj => by
    match j, hj with
    | 0, _ => exact fl_at h 767 (by decide +kernel)
    | 1, _ => exact fl_at h 768 (by decide +kernel)
    | 2, _ => exact fl_at h 769 (by decide +kernel)
    | 3, _ => exact fl_at h 770 (by decide +kernel)
    | 4, _ => exact fl_at h 771 (by decide +kernel)
    | 5, _ => exact fl_at h 772 (by decide +kernel)
    | j + 6, hj => exact absurd hj (by simp)) hA
theorem sx_26 {args : Array Value} {s : State} {A : Nat → Prop} (h : (Jvm.Cond.and given_1 narrow_1).before args s = true) (hA : ∀ a : Nat, a < s.heap.size → ¬ A a) : ∃ a v : Nat, vk_S 1 [(byS.getD 26 []).length] [byS.getD 26 []] (fun _ => a) (fun _ => v) A s s.heap ∧ (Term.string "FeastBookModel" 252).eval args s none [] s = some (.ref a) :=
  sx_of (bs := [99, 108, 111, 115, 101, 100]) (by decide) (fl_at h 774 (by decide +kernel)) (fl_at h 775 (by decide +kernel)) (fl_at h 776 (by decide +kernel)) (fl_at h 777 (by decide +kernel)) (fun j hj => by
    match j, hj with
    | 0, _ => exact fl_at h 778 (by decide +kernel)
    | 1, _ => exact fl_at h 779 (by decide +kernel)
    | 2, _ => exact fl_at h 780 (by decide +kernel)
    | 3, _ => exact fl_at h 781 (by decide +kernel)
    | 4, _ => exact fl_at h 782 (by decide +kernel)
    | 5, _ => exact fl_at h 783 (by decide +kernel)
    | j + 6, hj => exact absurd hj (by simp)) hA
theorem sx_27 {args : Array Value} {s : State} {A : Nat → Prop} (h : (Jvm.Cond.and given_1 narrow_1).before args s = true) (hA : ∀ a : Nat, a < s.heap.size → ¬ A a) : ∃ a v : Nat, vk_S 1 [(byS.getD 27 []).length] [byS.getD 27 []] (fun _ => a) (fun _ => v) A s s.heap ∧ (Term.string "FeastBookModel" 257).eval args s none [] s = some (.ref a) :=
  sx_of (bs := [102, 101, 97, 115, 116]) (by decide) (fl_at h 785 (by decide +kernel)) (fl_at h 786 (by decide +kernel)) (fl_at h 787 (by decide +kernel)) (fl_at h 788 (by decide +kernel)) (fun j hj => by
    match j, hj with
    | 0, _ => exact fl_at h 789 (by decide +kernel)
    | 1, _ => exact fl_at h 790 (by decide +kernel)
    | 2, _ => exact fl_at h 791 (by decide +kernel)
    | 3, _ => exact fl_at h 792 (by decide +kernel)
    | 4, _ => exact fl_at h 793 (by decide +kernel)
    | j + 5, hj => exact absurd hj (by simp)) hA
theorem sx_28 {args : Array Value} {s : State} {A : Nat → Prop} (h : (Jvm.Cond.and given_1 narrow_1).before args s = true) (hA : ∀ a : Nat, a < s.heap.size → ¬ A a) : ∃ a v : Nat, vk_S 1 [(byS.getD 28 []).length] [byS.getD 28 []] (fun _ => a) (fun _ => v) A s s.heap ∧ (Term.string "FeastBookModel" 222).eval args s none [] s = some (.ref a) :=
  sx_of (bs := [97, 116]) (by decide) (fl_at h 795 (by decide +kernel)) (fl_at h 796 (by decide +kernel)) (fl_at h 797 (by decide +kernel)) (fl_at h 798 (by decide +kernel)) (fun j hj => by
    match j, hj with
    | 0, _ => exact fl_at h 799 (by decide +kernel)
    | 1, _ => exact fl_at h 800 (by decide +kernel)
    | j + 2, hj => exact absurd hj (by simp)) hA
theorem sx_29 {args : Array Value} {s : State} {A : Nat → Prop} (h : (Jvm.Cond.and given_1 narrow_1).before args s = true) (hA : ∀ a : Nat, a < s.heap.size → ¬ A a) : ∃ a v : Nat, vk_S 1 [(byS.getD 29 []).length] [byS.getD 29 []] (fun _ => a) (fun _ => v) A s s.heap ∧ (Term.string "FeastBookModel" 223).eval args s none [] s = some (.ref a) :=
  sx_of (bs := [111, 110]) (by decide) (fl_at h 802 (by decide +kernel)) (fl_at h 803 (by decide +kernel)) (fl_at h 804 (by decide +kernel)) (fl_at h 805 (by decide +kernel)) (fun j hj => by
    match j, hj with
    | 0, _ => exact fl_at h 806 (by decide +kernel)
    | 1, _ => exact fl_at h 807 (by decide +kernel)
    | j + 2, hj => exact absurd hj (by simp)) hA
theorem sx_30 {args : Array Value} {s : State} {A : Nat → Prop} (h : (Jvm.Cond.and given_1 narrow_1).before args s = true) (hA : ∀ a : Nat, a < s.heap.size → ¬ A a) : ∃ a v : Nat, vk_S 1 [(byS.getD 30 []).length] [byS.getD 30 []] (fun _ => a) (fun _ => v) A s s.heap ∧ (Term.string "FeastBookModel" 214).eval args s none [] s = some (.ref a) :=
  sx_of (bs := [109, 111, 118, 101]) (by decide) (fl_at h 809 (by decide +kernel)) (fl_at h 810 (by decide +kernel)) (fl_at h 811 (by decide +kernel)) (fl_at h 812 (by decide +kernel)) (fun j hj => by
    match j, hj with
    | 0, _ => exact fl_at h 813 (by decide +kernel)
    | 1, _ => exact fl_at h 814 (by decide +kernel)
    | 2, _ => exact fl_at h 815 (by decide +kernel)
    | 3, _ => exact fl_at h 816 (by decide +kernel)
    | j + 4, hj => exact absurd hj (by simp)) hA
theorem sx_31 {args : Array Value} {s : State} {A : Nat → Prop} (h : (Jvm.Cond.and given_1 narrow_1).before args s = true) (hA : ∀ a : Nat, a < s.heap.size → ¬ A a) : ∃ a v : Nat, vk_S 1 [(byS.getD 31 []).length] [byS.getD 31 []] (fun _ => a) (fun _ => v) A s s.heap ∧ (Term.string "FeastBookModel" 216).eval args s none [] s = some (.ref a) :=
  sx_of (bs := [98, 97, 99, 107]) (by decide) (fl_at h 818 (by decide +kernel)) (fl_at h 819 (by decide +kernel)) (fl_at h 820 (by decide +kernel)) (fl_at h 821 (by decide +kernel)) (fun j hj => by
    match j, hj with
    | 0, _ => exact fl_at h 822 (by decide +kernel)
    | 1, _ => exact fl_at h 823 (by decide +kernel)
    | 2, _ => exact fl_at h 824 (by decide +kernel)
    | 3, _ => exact fl_at h 825 (by decide +kernel)
    | j + 4, hj => exact absurd hj (by simp)) hA
theorem sx_32 {args : Array Value} {s : State} {A : Nat → Prop} (h : (Jvm.Cond.and given_1 narrow_1).before args s = true) (hA : ∀ a : Nat, a < s.heap.size → ¬ A a) : ∃ a v : Nat, vk_S 1 [(byS.getD 32 []).length] [byS.getD 32 []] (fun _ => a) (fun _ => v) A s s.heap ∧ (Term.string "FeastBookModel" 218).eval args s none [] s = some (.ref a) :=
  sx_of (bs := [106, 111, 105, 110]) (by decide) (fl_at h 827 (by decide +kernel)) (fl_at h 828 (by decide +kernel)) (fl_at h 829 (by decide +kernel)) (fl_at h 830 (by decide +kernel)) (fun j hj => by
    match j, hj with
    | 0, _ => exact fl_at h 831 (by decide +kernel)
    | 1, _ => exact fl_at h 832 (by decide +kernel)
    | 2, _ => exact fl_at h 833 (by decide +kernel)
    | 3, _ => exact fl_at h 834 (by decide +kernel)
    | j + 4, hj => exact absurd hj (by simp)) hA
theorem sx_33 {args : Array Value} {s : State} {A : Nat → Prop} (h : (Jvm.Cond.and given_1 narrow_1).before args s = true) (hA : ∀ a : Nat, a < s.heap.size → ¬ A a) : ∃ a v : Nat, vk_S 1 [(byS.getD 33 []).length] [byS.getD 33 []] (fun _ => a) (fun _ => v) A s s.heap ∧ (Term.string "FeastBookModel" 220).eval args s none [] s = some (.ref a) :=
  sx_of (bs := [100, 114, 111, 112]) (by decide) (fl_at h 836 (by decide +kernel)) (fl_at h 837 (by decide +kernel)) (fl_at h 838 (by decide +kernel)) (fl_at h 839 (by decide +kernel)) (fun j hj => by
    match j, hj with
    | 0, _ => exact fl_at h 840 (by decide +kernel)
    | 1, _ => exact fl_at h 841 (by decide +kernel)
    | 2, _ => exact fl_at h 842 (by decide +kernel)
    | 3, _ => exact fl_at h 843 (by decide +kernel)
    | j + 4, hj => exact absurd hj (by simp)) hA
theorem sx_34 {args : Array Value} {s : State} {A : Nat → Prop} (h : (Jvm.Cond.and given_1 narrow_1).before args s = true) (hA : ∀ a : Nat, a < s.heap.size → ¬ A a) : ∃ a v : Nat, vk_S 1 [(byS.getD 34 []).length] [byS.getD 34 []] (fun _ => a) (fun _ => v) A s s.heap ∧ (Term.string "FeastBookModel" 228).eval args s none [] s = some (.ref a) :=
  sx_of (bs := [118, 105, 103, 105, 108]) (by decide) (fl_at h 845 (by decide +kernel)) (fl_at h 846 (by decide +kernel)) (fl_at h 847 (by decide +kernel)) (fl_at h 848 (by decide +kernel)) (fun j hj => by
    match j, hj with
    | 0, _ => exact fl_at h 849 (by decide +kernel)
    | 1, _ => exact fl_at h 850 (by decide +kernel)
    | 2, _ => exact fl_at h 851 (by decide +kernel)
    | 3, _ => exact fl_at h 852 (by decide +kernel)
    | 4, _ => exact fl_at h 853 (by decide +kernel)
    | j + 5, hj => exact absurd hj (by simp)) hA
theorem sx_35 {args : Array Value} {s : State} {A : Nat → Prop} (h : (Jvm.Cond.and given_1 narrow_1).before args s = true) (hA : ∀ a : Nat, a < s.heap.size → ¬ A a) : ∃ a v : Nat, vk_S 1 [(byS.getD 35 []).length] [byS.getD 35 []] (fun _ => a) (fun _ => v) A s s.heap ∧ (Term.string "FeastBookModel" 230).eval args s none [] s = some (.ref a) :=
  sx_of (bs := [111, 99, 116, 97, 118, 101]) (by decide) (fl_at h 855 (by decide +kernel)) (fl_at h 856 (by decide +kernel)) (fl_at h 857 (by decide +kernel)) (fl_at h 858 (by decide +kernel)) (fun j hj => by
    match j, hj with
    | 0, _ => exact fl_at h 859 (by decide +kernel)
    | 1, _ => exact fl_at h 860 (by decide +kernel)
    | 2, _ => exact fl_at h 861 (by decide +kernel)
    | 3, _ => exact fl_at h 862 (by decide +kernel)
    | 4, _ => exact fl_at h 863 (by decide +kernel)
    | 5, _ => exact fl_at h 864 (by decide +kernel)
    | j + 6, hj => exact absurd hj (by simp)) hA
theorem sx_36 {args : Array Value} {s : State} (h : (Jvm.Cond.and given_1 narrow_1).before args s = true) : ∃ a : Nat, (Term.string "FeastBook" 85).eval args s none [] s = some (.ref a) := by
  obtain ⟨a, _, _, _, h1, _⟩ := Cond.exactly_spec (fl_at h 429 (w := .exactly (.string "FeastBook" 85) "java/lang/String") (by decide +kernel))
  exact ⟨a, h1⟩
theorem sx_37 {args : Array Value} {s : State} (h : (Jvm.Cond.and given_1 narrow_1).before args s = true) : ∃ a : Nat, (Term.string "FeastBook" 382).eval args s none [] s = some (.ref a) := by
  obtain ⟨a, _, _, _, h1, _⟩ := Cond.exactly_spec (fl_at h 450 (w := .exactly (.string "FeastBook" 382) "java/lang/String") (by decide +kernel))
  exact ⟨a, h1⟩
theorem sx_38 {args : Array Value} {s : State} (h : (Jvm.Cond.and given_1 narrow_1).before args s = true) : ∃ a : Nat, (Term.string "FeastBook" 393).eval args s none [] s = some (.ref a) := by
  obtain ⟨a, _, _, _, h1, _⟩ := Cond.exactly_spec (fl_at h 466 (w := .exactly (.string "FeastBook" 393) "java/lang/String") (by decide +kernel))
  exact ⟨a, h1⟩
theorem sx_39 {args : Array Value} {s : State} (h : (Jvm.Cond.and given_1 narrow_1).before args s = true) : ∃ a : Nat, (Term.string "FeastBook" 385).eval args s none [] s = some (.ref a) := by
  obtain ⟨a, _, _, _, h1, _⟩ := Cond.exactly_spec (fl_at h 554 (w := .exactly (.string "FeastBook" 385) "java/lang/String") (by decide +kernel))
  exact ⟨a, h1⟩
theorem sx_40 {args : Array Value} {s : State} (h : (Jvm.Cond.and given_1 narrow_1).before args s = true) : ∃ a : Nat, (Term.string "FeastBook" 387).eval args s none [] s = some (.ref a) := by
  obtain ⟨a, _, _, _, h1, _⟩ := Cond.exactly_spec (fl_at h 569 (w := .exactly (.string "FeastBook" 387) "java/lang/String") (by decide +kernel))
  exact ⟨a, h1⟩
theorem sx_41 {args : Array Value} {s : State} (h : (Jvm.Cond.and given_1 narrow_1).before args s = true) : ∃ a : Nat, (Term.string "FeastBook" 396).eval args s none [] s = some (.ref a) := by
  obtain ⟨a, _, _, _, h1, _⟩ := Cond.exactly_spec (fl_at h 586 (w := .exactly (.string "FeastBook" 396) "java/lang/String") (by decide +kernel))
  exact ⟨a, h1⟩
theorem sx_42 {args : Array Value} {s : State} (h : (Jvm.Cond.and given_1 narrow_1).before args s = true) : ∃ a : Nat, (Term.string "FeastBook" 243).eval args s none [] s = some (.ref a) := by
  obtain ⟨a, _, _, _, h1, _⟩ := Cond.exactly_spec (fl_at h 608 (w := .exactly (.string "FeastBook" 243) "java/lang/String") (by decide +kernel))
  exact ⟨a, h1⟩
theorem sx_43 {args : Array Value} {s : State} (h : (Jvm.Cond.and given_1 narrow_1).before args s = true) : ∃ a : Nat, (Term.string "FeastBook" 378).eval args s none [] s = some (.ref a) := by
  obtain ⟨a, _, _, _, h1, _⟩ := Cond.exactly_spec (fl_at h 632 (w := .exactly (.string "FeastBook" 378) "java/lang/String") (by decide +kernel))
  exact ⟨a, h1⟩
theorem sx_44 {args : Array Value} {s : State} (h : (Jvm.Cond.and given_1 narrow_1).before args s = true) : ∃ a : Nat, (Term.string "FeastBook" 260).eval args s none [] s = some (.ref a) := by
  obtain ⟨a, _, _, _, h1, _⟩ := Cond.exactly_spec (fl_at h 652 (w := .exactly (.string "FeastBook" 260) "java/lang/String") (by decide +kernel))
  exact ⟨a, h1⟩
theorem sx_45 {args : Array Value} {s : State} (h : (Jvm.Cond.and given_1 narrow_1).before args s = true) : ∃ a : Nat, (Term.string "FeastBook" 389).eval args s none [] s = some (.ref a) := by
  obtain ⟨a, _, _, _, h1, _⟩ := Cond.exactly_spec (fl_at h 676 (w := .exactly (.string "FeastBook" 389) "java/lang/String") (by decide +kernel))
  exact ⟨a, h1⟩
theorem sr_0 : Cond.stringRef "FeastBook$Reader" 74 "book" ∈ lw_tbl := (mL3 98 (by decide +kernel))
theorem sr_1 : Cond.stringRef "FeastBook$Reader" 100 "leap" ∈ lw_tbl := (mL3 178 (by decide +kernel))
theorem sr_2 : Cond.stringRef "FeastBook$Reader" 108 "moon" ∈ lw_tbl := (mL3 179 (by decide +kernel))
theorem sr_3 : Cond.stringRef "FeastBook$Reader" 142 "feast" ∈ lw_tbl := (mL3 191 (by decide +kernel))
theorem sr_4 : Cond.stringRef "FeastBook$Reader" 197 "at" ∈ lw_tbl := (mL3 196 (by decide +kernel))
theorem sr_5 : Cond.stringRef "FeastBook$Reader" 198 "on" ∈ lw_tbl := (mL3 197 (by decide +kernel))
theorem sr_6 : Cond.stringRef "FeastBook$Reader" 222 "move" ∈ lw_tbl := (mL3 210 (by decide +kernel))
theorem sr_7 : Cond.stringRef "FeastBook$Reader" 224 "back" ∈ lw_tbl := (mL3 211 (by decide +kernel))
theorem sr_8 : Cond.stringRef "FeastBook$Reader" 226 "join" ∈ lw_tbl := (mL3 212 (by decide +kernel))
theorem sr_9 : Cond.stringRef "FeastBook$Reader" 228 "drop" ∈ lw_tbl := (mL3 213 (by decide +kernel))
theorem sr_10 : Cond.stringRef "FeastBook$Reader" 207 "vigil" ∈ lw_tbl := (mL3 214 (by decide +kernel))
theorem sr_11 : Cond.stringRef "FeastBook$Reader" 213 "octave" ∈ lw_tbl := (mL3 219 (by decide +kernel))
theorem sr_12 : Cond.stringRef "FeastBook$Reader" 147 "season" ∈ lw_tbl := (mL3 224 (by decide +kernel))
theorem sr_13 : Cond.stringRef "FeastBook$Reader" 152 "closed" ∈ lw_tbl := (mL3 233 (by decide +kernel))
theorem sr_14 : Cond.stringRef "FeastBook$Reader" 157 "fast" ∈ lw_tbl := (mL3 238 (by decide +kernel))
theorem sr_15 : Cond.stringRef "FeastBook$Reader" 165 "reach" ∈ lw_tbl := (mL4 7 (by decide +kernel))
theorem sr_16 : Cond.stringRef "FeastBook$Reader" 169 "rest" ∈ lw_tbl := (mL4 8 (by decide +kernel))
theorem sr_17 : Cond.stringRef "FeastBook$Reader" 173 "lift" ∈ lw_tbl := (mL4 9 (by decide +kernel))
theorem sr_18 : Cond.stringRef "FeastBookModel" 192 "book" ∈ lw_tbl := (mL8 199 (by decide +kernel))
theorem sr_19 : Cond.stringRef "FeastBookModel" 204 "leap" ∈ lw_tbl := (mL8 230 (by decide +kernel))
theorem sr_20 : Cond.stringRef "FeastBookModel" 206 "moon" ∈ lw_tbl := (mL8 231 (by decide +kernel))
theorem sr_21 : Cond.stringRef "FeastBookModel" 232 "reach" ∈ lw_tbl := (mL8 239 (by decide +kernel))
theorem sr_22 : Cond.stringRef "FeastBookModel" 238 "rest" ∈ lw_tbl := (mL9 4 (by decide +kernel))
theorem sr_23 : Cond.stringRef "FeastBookModel" 240 "lift" ∈ lw_tbl := (mL9 5 (by decide +kernel))
theorem sr_24 : Cond.stringRef "FeastBookModel" 242 "fast" ∈ lw_tbl := (mL9 6 (by decide +kernel))
theorem sr_25 : Cond.stringRef "FeastBookModel" 247 "season" ∈ lw_tbl := (mL9 11 (by decide +kernel))
theorem sr_26 : Cond.stringRef "FeastBookModel" 252 "closed" ∈ lw_tbl := (mL9 20 (by decide +kernel))
theorem sr_27 : Cond.stringRef "FeastBookModel" 257 "feast" ∈ lw_tbl := (mL9 25 (by decide +kernel))
theorem sr_28 : Cond.stringRef "FeastBookModel" 222 "at" ∈ lw_tbl := (mL9 30 (by decide +kernel))
theorem sr_29 : Cond.stringRef "FeastBookModel" 223 "on" ∈ lw_tbl := (mL9 31 (by decide +kernel))
theorem sr_30 : Cond.stringRef "FeastBookModel" 214 "move" ∈ lw_tbl := (mL9 36 (by decide +kernel))
theorem sr_31 : Cond.stringRef "FeastBookModel" 216 "back" ∈ lw_tbl := (mL9 37 (by decide +kernel))
theorem sr_32 : Cond.stringRef "FeastBookModel" 218 "join" ∈ lw_tbl := (mL9 38 (by decide +kernel))
theorem sr_33 : Cond.stringRef "FeastBookModel" 220 "drop" ∈ lw_tbl := (mL9 39 (by decide +kernel))
theorem sr_34 : Cond.stringRef "FeastBookModel" 228 "vigil" ∈ lw_tbl := (mL9 40 (by decide +kernel))
theorem sr_35 : Cond.stringRef "FeastBookModel" 230 "octave" ∈ lw_tbl := (mL9 41 (by decide +kernel))
theorem sr_36 : Cond.stringRef "FeastBook" 85 "the text is wrong" ∈ lw_tbl := (mL4 72 (by decide +kernel))
theorem sr_37 : Cond.stringRef "FeastBook" 382 "no such year" ∈ lw_tbl := (mL4 120 (by decide +kernel))
theorem sr_38 : Cond.stringRef "FeastBook" 393 "no such what" ∈ lw_tbl := (mL4 139 (by decide +kernel))
theorem sr_39 : Cond.stringRef "FeastBook" 385 "no such day" ∈ lw_tbl := (mL6 95 (by decide +kernel))
theorem sr_40 : Cond.stringRef "FeastBook" 387 "no such feast" ∈ lw_tbl := (mL6 162 (by decide +kernel))
theorem sr_41 : Cond.stringRef "FeastBook" 396 "the number is none" ∈ lw_tbl := (mL6 190 (by decide +kernel))
theorem sr_42 : Cond.stringRef "FeastBook" 243 "no such month or day" ∈ lw_tbl := (mL6 232 (by decide +kernel))
theorem sr_43 : Cond.stringRef "FeastBook" 378 "there is no book" ∈ lw_tbl := (mL7 18 (by decide +kernel))
theorem sr_44 : Cond.stringRef "FeastBook" 260 "nothing to take back" ∈ lw_tbl := (mL7 36 (by decide +kernel))
theorem sr_45 : Cond.stringRef "FeastBook" 389 "both feasts are one" ∈ lw_tbl := (mL7 130 (by decide +kernel))
theorem ev_str {args : Array Value} {s : State} {A : Nat → Prop} (h : (Jvm.Cond.and given_1 narrow_1).before args s = true) (hA : ∀ a : Nat, a < s.heap.size → ¬ A a) (i : Nat) : ∃ q : Nat × Nat, (i < 36 → vk_S 1 [(byS.getD i []).length] [byS.getD i []] (fun _ => q.1) (fun _ => q.2) A s s.heap) ∧ (i < 46 → (Term.string (stA i).1 (stA i).2.1).eval args s none [] s = some (.ref q.1)) := by
  match i with
  | 0 => obtain ⟨a, v, h1, h2⟩ := sx_0 (A := A) h hA; exact ⟨(a, v), fun _ => h1, fun _ => h2⟩
  | 1 => obtain ⟨a, v, h1, h2⟩ := sx_1 (A := A) h hA; exact ⟨(a, v), fun _ => h1, fun _ => h2⟩
  | 2 => obtain ⟨a, v, h1, h2⟩ := sx_2 (A := A) h hA; exact ⟨(a, v), fun _ => h1, fun _ => h2⟩
  | 3 => obtain ⟨a, v, h1, h2⟩ := sx_3 (A := A) h hA; exact ⟨(a, v), fun _ => h1, fun _ => h2⟩
  | 4 => obtain ⟨a, v, h1, h2⟩ := sx_4 (A := A) h hA; exact ⟨(a, v), fun _ => h1, fun _ => h2⟩
  | 5 => obtain ⟨a, v, h1, h2⟩ := sx_5 (A := A) h hA; exact ⟨(a, v), fun _ => h1, fun _ => h2⟩
  | 6 => obtain ⟨a, v, h1, h2⟩ := sx_6 (A := A) h hA; exact ⟨(a, v), fun _ => h1, fun _ => h2⟩
  | 7 => obtain ⟨a, v, h1, h2⟩ := sx_7 (A := A) h hA; exact ⟨(a, v), fun _ => h1, fun _ => h2⟩
  | 8 => obtain ⟨a, v, h1, h2⟩ := sx_8 (A := A) h hA; exact ⟨(a, v), fun _ => h1, fun _ => h2⟩
  | 9 => obtain ⟨a, v, h1, h2⟩ := sx_9 (A := A) h hA; exact ⟨(a, v), fun _ => h1, fun _ => h2⟩
  | 10 => obtain ⟨a, v, h1, h2⟩ := sx_10 (A := A) h hA; exact ⟨(a, v), fun _ => h1, fun _ => h2⟩
  | 11 => obtain ⟨a, v, h1, h2⟩ := sx_11 (A := A) h hA; exact ⟨(a, v), fun _ => h1, fun _ => h2⟩
  | 12 => obtain ⟨a, v, h1, h2⟩ := sx_12 (A := A) h hA; exact ⟨(a, v), fun _ => h1, fun _ => h2⟩
  | 13 => obtain ⟨a, v, h1, h2⟩ := sx_13 (A := A) h hA; exact ⟨(a, v), fun _ => h1, fun _ => h2⟩
  | 14 => obtain ⟨a, v, h1, h2⟩ := sx_14 (A := A) h hA; exact ⟨(a, v), fun _ => h1, fun _ => h2⟩
  | 15 => obtain ⟨a, v, h1, h2⟩ := sx_15 (A := A) h hA; exact ⟨(a, v), fun _ => h1, fun _ => h2⟩
  | 16 => obtain ⟨a, v, h1, h2⟩ := sx_16 (A := A) h hA; exact ⟨(a, v), fun _ => h1, fun _ => h2⟩
  | 17 => obtain ⟨a, v, h1, h2⟩ := sx_17 (A := A) h hA; exact ⟨(a, v), fun _ => h1, fun _ => h2⟩
  | 18 => obtain ⟨a, v, h1, h2⟩ := sx_18 (A := A) h hA; exact ⟨(a, v), fun _ => h1, fun _ => h2⟩
  | 19 => obtain ⟨a, v, h1, h2⟩ := sx_19 (A := A) h hA; exact ⟨(a, v), fun _ => h1, fun _ => h2⟩
  | 20 => obtain ⟨a, v, h1, h2⟩ := sx_20 (A := A) h hA; exact ⟨(a, v), fun _ => h1, fun _ => h2⟩
  | 21 => obtain ⟨a, v, h1, h2⟩ := sx_21 (A := A) h hA; exact ⟨(a, v), fun _ => h1, fun _ => h2⟩
  | 22 => obtain ⟨a, v, h1, h2⟩ := sx_22 (A := A) h hA; exact ⟨(a, v), fun _ => h1, fun _ => h2⟩
  | 23 => obtain ⟨a, v, h1, h2⟩ := sx_23 (A := A) h hA; exact ⟨(a, v), fun _ => h1, fun _ => h2⟩
  | 24 => obtain ⟨a, v, h1, h2⟩ := sx_24 (A := A) h hA; exact ⟨(a, v), fun _ => h1, fun _ => h2⟩
  | 25 => obtain ⟨a, v, h1, h2⟩ := sx_25 (A := A) h hA; exact ⟨(a, v), fun _ => h1, fun _ => h2⟩
  | 26 => obtain ⟨a, v, h1, h2⟩ := sx_26 (A := A) h hA; exact ⟨(a, v), fun _ => h1, fun _ => h2⟩
  | 27 => obtain ⟨a, v, h1, h2⟩ := sx_27 (A := A) h hA; exact ⟨(a, v), fun _ => h1, fun _ => h2⟩
  | 28 => obtain ⟨a, v, h1, h2⟩ := sx_28 (A := A) h hA; exact ⟨(a, v), fun _ => h1, fun _ => h2⟩
  | 29 => obtain ⟨a, v, h1, h2⟩ := sx_29 (A := A) h hA; exact ⟨(a, v), fun _ => h1, fun _ => h2⟩
  | 30 => obtain ⟨a, v, h1, h2⟩ := sx_30 (A := A) h hA; exact ⟨(a, v), fun _ => h1, fun _ => h2⟩
  | 31 => obtain ⟨a, v, h1, h2⟩ := sx_31 (A := A) h hA; exact ⟨(a, v), fun _ => h1, fun _ => h2⟩
  | 32 => obtain ⟨a, v, h1, h2⟩ := sx_32 (A := A) h hA; exact ⟨(a, v), fun _ => h1, fun _ => h2⟩
  | 33 => obtain ⟨a, v, h1, h2⟩ := sx_33 (A := A) h hA; exact ⟨(a, v), fun _ => h1, fun _ => h2⟩
  | 34 => obtain ⟨a, v, h1, h2⟩ := sx_34 (A := A) h hA; exact ⟨(a, v), fun _ => h1, fun _ => h2⟩
  | 35 => obtain ⟨a, v, h1, h2⟩ := sx_35 (A := A) h hA; exact ⟨(a, v), fun _ => h1, fun _ => h2⟩
  | 36 => obtain ⟨a, h2⟩ := sx_36 h; exact ⟨(a, 0), fun z => absurd z (by decide), fun _ => h2⟩
  | 37 => obtain ⟨a, h2⟩ := sx_37 h; exact ⟨(a, 0), fun z => absurd z (by decide), fun _ => h2⟩
  | 38 => obtain ⟨a, h2⟩ := sx_38 h; exact ⟨(a, 0), fun z => absurd z (by decide), fun _ => h2⟩
  | 39 => obtain ⟨a, h2⟩ := sx_39 h; exact ⟨(a, 0), fun z => absurd z (by decide), fun _ => h2⟩
  | 40 => obtain ⟨a, h2⟩ := sx_40 h; exact ⟨(a, 0), fun z => absurd z (by decide), fun _ => h2⟩
  | 41 => obtain ⟨a, h2⟩ := sx_41 h; exact ⟨(a, 0), fun z => absurd z (by decide), fun _ => h2⟩
  | 42 => obtain ⟨a, h2⟩ := sx_42 h; exact ⟨(a, 0), fun z => absurd z (by decide), fun _ => h2⟩
  | 43 => obtain ⟨a, h2⟩ := sx_43 h; exact ⟨(a, 0), fun z => absurd z (by decide), fun _ => h2⟩
  | 44 => obtain ⟨a, h2⟩ := sx_44 h; exact ⟨(a, 0), fun z => absurd z (by decide), fun _ => h2⟩
  | 45 => obtain ⟨a, h2⟩ := sx_45 h; exact ⟨(a, 0), fun z => absurd z (by decide), fun _ => h2⟩
  | n + 46 => exact ⟨(0, 0), fun z => absurd z (by omega), fun z => absurd z (by omega)⟩
theorem sr_all : ∀ i, i < 46 → Cond.stringRef (stA i).1 (stA i).2.1 (stA i).2.2 ∈ lw_tbl := by
  intro i hi
  match i, hi with
  | 0, _ => exact sr_0
  | 1, _ => exact sr_1
  | 2, _ => exact sr_2
  | 3, _ => exact sr_3
  | 4, _ => exact sr_4
  | 5, _ => exact sr_5
  | 6, _ => exact sr_6
  | 7, _ => exact sr_7
  | 8, _ => exact sr_8
  | 9, _ => exact sr_9
  | 10, _ => exact sr_10
  | 11, _ => exact sr_11
  | 12, _ => exact sr_12
  | 13, _ => exact sr_13
  | 14, _ => exact sr_14
  | 15, _ => exact sr_15
  | 16, _ => exact sr_16
  | 17, _ => exact sr_17
  | 18, _ => exact sr_18
  | 19, _ => exact sr_19
  | 20, _ => exact sr_20
  | 21, _ => exact sr_21
  | 22, _ => exact sr_22
  | 23, _ => exact sr_23
  | 24, _ => exact sr_24
  | 25, _ => exact sr_25
  | 26, _ => exact sr_26
  | 27, _ => exact sr_27
  | 28, _ => exact sr_28
  | 29, _ => exact sr_29
  | 30, _ => exact sr_30
  | 31, _ => exact sr_31
  | 32, _ => exact sr_32
  | 33, _ => exact sr_33
  | 34, _ => exact sr_34
  | 35, _ => exact sr_35
  | 36, _ => exact sr_36
  | 37, _ => exact sr_37
  | 38, _ => exact sr_38
  | 39, _ => exact sr_39
  | 40, _ => exact sr_40
  | 41, _ => exact sr_41
  | 42, _ => exact sr_42
  | 43, _ => exact sr_43
  | 44, _ => exact sr_44
  | 45, _ => exact sr_45
  | n + 46, hi => exact absurd hi (by omega)
theorem dc_0 : Cond.declares ⟨"java/lang/RuntimeException", "<init>", "()V"⟩ ∈ lw_tbl := (mL4 32 (by decide +kernel))
theorem dc_1 : Cond.declares ⟨"java/lang/RuntimeException", "<init>", "(Ljava/lang/String;)V"⟩ ∈ lw_tbl := (mL4 33 (by decide +kernel))
theorem dc_2 : Cond.declares ⟨"java/lang/Exception", "<init>", "()V"⟩ ∈ lw_tbl := (mL4 34 (by decide +kernel))
theorem dc_3 : Cond.declares ⟨"java/lang/Exception", "<init>", "(Ljava/lang/String;)V"⟩ ∈ lw_tbl := (mL4 35 (by decide +kernel))
theorem dc_4 : Cond.declares ⟨"java/lang/Throwable", "<init>", "()V"⟩ ∈ lw_tbl := (mL4 36 (by decide +kernel))
theorem dc_5 : Cond.declares ⟨"java/lang/Throwable", "<init>", "(Ljava/lang/String;)V"⟩ ∈ lw_tbl := (mL4 37 (by decide +kernel))
theorem dc_6 : Cond.declares ⟨"java/lang/IndexOutOfBoundsException", "<init>", "()V"⟩ ∈ lw_tbl := (mL5 190 (by decide +kernel))
theorem dc_7 : Cond.declares ⟨"java/lang/IndexOutOfBoundsException", "<init>", "(Ljava/lang/String;)V"⟩ ∈ lw_tbl := (mL5 191 (by decide +kernel))
theorem mn_0 : Cond.methodLinkNest "FeastBook" 11 ⟨"FeastBook$Tape", "<init>", "()V"⟩ "FeastBook" ∈ lw_tbl := (mL1 43 (by decide +kernel))
theorem mn_1 : Cond.methodLinkNest "FeastBook$Reader" 11 ⟨"FeastBook$Book", "<init>", "()V"⟩ "FeastBook" ∈ lw_tbl := (mL1 65 (by decide +kernel))
theorem mn_2 : Cond.methodLinkNest "FeastBook$Book" 24 ⟨"FeastBook$Spans", "<init>", "()V"⟩ "FeastBook" ∈ lw_tbl := (mL1 71 (by decide +kernel))
theorem mn_3 : Cond.methodLinkNest "FeastBook$Book" 34 ⟨"FeastBook$Feasts", "<init>", "()V"⟩ "FeastBook" ∈ lw_tbl := (mL1 95 (by decide +kernel))
theorem mn_4 : Cond.methodLinkNest "FeastBook" 27 ⟨"FeastBook$Book", "<init>", "()V"⟩ "FeastBook" ∈ lw_tbl := (mL2 30 (by decide +kernel))
theorem mn_5 : Cond.methodLinkNest "FeastBook" 37 ⟨"FeastBook$Past", "<init>", "()V"⟩ "FeastBook" ∈ lw_tbl := (mL2 33 (by decide +kernel))
theorem ct_0 : Cond.castable "java/lang/IndexOutOfBoundsException" "java/lang/IndexOutOfBoundsException" ∈ lw_tbl := (mL4 113 (by decide +kernel))
theorem ct_1 : Cond.castable "java/util/NoSuchElementException" "java/util/NoSuchElementException" ∈ lw_tbl := (mL4 132 (by decide +kernel))
theorem ct_2 : Cond.castable "java/lang/IllegalArgumentException" "java/lang/IllegalArgumentException" ∈ lw_tbl := (mL4 31 (by decide +kernel))
theorem ct_3 : Cond.castable "java/lang/IllegalStateException" "java/lang/IllegalStateException" ∈ lw_tbl := (mL7 11 (by decide +kernel))
theorem ev_start {args : Array Value} {s : State} {A : Nat → Prop} (hts : ∀ w ∈ lw_tbl, w.before args s = true) (h : (Jvm.Cond.and given_1 narrow_1).before args s = true) (hA : ∀ a : Nat, a < s.heap.size → ¬ A a) : ∃ sd sv : Nat → Nat, EV sd sv A s s.heap := by
  obtain ⟨f, hf⟩ := Classical.axiomOfChoice (ev_str (A := A) h hA)
  refine ⟨fun i => (f i).1, fun i => (f i).2, fun i hi => (hf i).1 hi, fun i hi => vk_R.of (hts _ (sr_all i hi)) ((hf i).2 hi), ?_, ?_, ?_, ?_, ?_, ?_, ?_, ?_⟩
  · exact va_Zof (hts _ (mL3 112 (by decide +kernel))) (hts _ (mL1 11 (by decide +kernel))) (va_eqi (fl_at h 4 (by decide +kernel))) hA
  · exact vx_Zqof (hts _ (mL4 56 (by decide +kernel))) (hts _ (mL1 17 (by decide +kernel))) (fl_at h 9 (by decide +kernel)) hA
  · exact vx_Zqof (hts _ (mL4 58 (by decide +kernel))) (hts _ (mL1 17 (by decide +kernel))) (fl_at h 10 (by decide +kernel)) hA
  · exact va_Zqof (hts _ (mL3 128 (by decide +kernel))) (hts _ (mL1 13 (by decide +kernel))) (fl_at h 5 (by decide +kernel)) hA
  · intro x hx
    simp only [dcL, List.mem_cons, List.not_mem_nil, or_false] at hx
    rcases hx with rfl | rfl | rfl | rfl | rfl | rfl | rfl | rfl
    · exact va_Nw.of rfl (hts _ dc_0)
    · exact va_Nw.of rfl (hts _ dc_1)
    · exact va_Nw.of rfl (hts _ dc_2)
    · exact va_Nw.of rfl (hts _ dc_3)
    · exact va_Nw.of rfl (hts _ dc_4)
    · exact va_Nw.of rfl (hts _ dc_5)
    · exact va_Nw.of rfl (hts _ dc_6)
    · exact va_Nw.of rfl (hts _ dc_7)
  · intro x hx
    simp only [mnL, List.mem_cons, List.not_mem_nil, or_false] at hx
    rcases hx with rfl | rfl | rfl | rfl | rfl | rfl
    · exact va_Nw.of rfl (hts _ mn_0)
    · exact va_Nw.of rfl (hts _ mn_1)
    · exact va_Nw.of rfl (hts _ mn_2)
    · exact va_Nw.of rfl (hts _ mn_3)
    · exact va_Nw.of rfl (hts _ mn_4)
    · exact va_Nw.of rfl (hts _ mn_5)
  · intro x hx
    simp only [ctL, List.mem_cons, List.not_mem_nil, or_false] at hx
    rcases hx with rfl | rfl | rfl | rfl
    · exact va_Nw.of rfl (hts _ ct_0)
    · exact va_Nw.of rfl (hts _ ct_1)
    · exact va_Nw.of rfl (hts _ ct_2)
    · exact va_Nw.of rfl (hts _ ct_3)
  · intro x hx
    simp only [ncL, List.mem_cons, List.not_mem_nil, or_false] at hx
    rcases hx with rfl | rfl | rfl | rfl | rfl
    · exact va_Nc.of (fl_at h 244 (by decide +kernel))
    · exact va_Nc.of (fl_at h 243 (by decide +kernel))
    · exact va_Nc.of (fl_at h 274 (by decide +kernel))
    · exact va_Nc.of (fl_at h 258 (by decide +kernel))
    · exact va_Nc.of (fl_at h 276 (by decide +kernel))

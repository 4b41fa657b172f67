/-! what is given at the start -/
def qFX : List Nat := [7, 209, 225, 242, 260, 279, 299, 319, 342, 366, 392, 124, 133, 141, 151, 162, 176, 192, 416, 440, 469, 495, 522, 552]
def qFC : List Nat := [8, 210, 226, 243, 261, 280, 300, 320, 343, 367, 393, 125, 134, 142, 152, 163, 177, 193, 417, 441, 470, 496, 523, 553]
def qFA : List Nat := [9, 211, 227, 244, 262, 281, 301, 321, 344, 368, 394, 126, 135, 143, 153, 164, 178, 194, 418, 442, 471, 497, 524, 554]
def qFLn : List Nat := [10, 212, 228, 245, 263, 282, 302, 322, 345, 369, 395, 127, 136, 144, 154, 165, 179, 195, 419, 443, 472, 498, 525, 555]
def qFE : List (List Nat) := [[11, 12, 13, 14, 15, 16, 17, 18, 19, 20, 21, 22, 23, 24, 25, 26, 27, 28, 29, 30, 31, 32, 33, 34, 35, 36, 37, 38, 39, 40, 41, 42, 43, 44, 45, 46, 47, 48, 49, 50, 51, 52, 53, 54, 55, 56, 57, 58, 59, 60, 61, 62, 63, 64, 65, 66, 67, 68, 69, 70, 71, 72, 73, 74, 75, 76, 77, 78, 79, 80, 81, 82, 83, 84, 85, 86, 87, 88, 89, 90, 91, 92, 93, 94, 95, 96, 97, 98, 99, 100, 101, 102, 103, 104, 105, 106, 107, 108, 109, 110, 111, 112, 113, 114, 115, 116, 117, 118, 119, 120, 121, 122, 123], [213, 214, 215, 216], [229, 230, 231, 232], [246, 247, 248, 249], [264, 265, 266, 267], [283, 284, 285, 286], [303, 304, 305], [323, 324, 325, 326, 327], [346, 347, 348, 349, 350], [370, 371, 372, 373, 374, 375], [396, 397, 398], [128, 129, 130, 131], [137, 138], [145, 146, 147], [155, 156, 157], [166, 167, 168, 169, 170], [180, 181, 182, 183, 184, 185], [196, 197, 198, 199, 200, 201], [420, 421], [444, 445, 446, 447, 448, 449], [473, 474], [499, 500], [526, 527, 528, 529], [556, 557, 558, 559]]
def qFN : List (List Nat) := [[0, 217, 233, 250, 268, 287, 306, 328, 351, 376, 399, 132, 139, 148, 158, 171, 186, 202, 422, 450, 475, 501, 530, 560], [0, 0, 241, 258, 276, 295, 314, 336, 359, 384, 407, 0, 0, 0, 0, 0, 0, 0, 430, 458, 483, 509, 538, 568], [0, 0, 0, 259, 277, 296, 315, 337, 360, 385, 408, 0, 0, 0, 0, 0, 0, 0, 431, 459, 484, 510, 539, 569], [0, 0, 0, 0, 278, 297, 316, 338, 361, 386, 409, 0, 0, 0, 0, 0, 0, 0, 432, 460, 485, 511, 540, 570], [0, 0, 0, 0, 0, 298, 317, 339, 362, 387, 410, 0, 0, 0, 0, 0, 0, 0, 433, 461, 486, 512, 541, 571], [0, 0, 0, 0, 0, 0, 318, 340, 363, 388, 411, 0, 0, 0, 0, 0, 0, 0, 434, 462, 487, 513, 542, 572], [0, 0, 0, 0, 0, 0, 0, 341, 364, 389, 412, 0, 0, 0, 0, 0, 0, 0, 435, 463, 488, 514, 543, 573], [0, 0, 0, 0, 0, 0, 0, 0, 365, 390, 413, 0, 0, 0, 0, 0, 0, 0, 436, 464, 489, 515, 544, 574], [0, 0, 0, 0, 0, 0, 0, 0, 0, 391, 414, 0, 0, 0, 0, 0, 0, 0, 437, 465, 490, 516, 545, 575], [0, 0, 0, 0, 0, 0, 0, 0, 0, 0, 415, 0, 0, 0, 0, 0, 0, 0, 438, 466, 491, 517, 546, 576], [0, 0, 0, 0, 0, 0, 0, 0, 0, 0, 0, 0, 0, 0, 0, 0, 0, 0, 439, 467, 492, 518, 547, 577], [0, 218, 234, 251, 269, 288, 307, 329, 352, 377, 400, 0, 140, 149, 159, 172, 187, 203, 423, 451, 476, 502, 531, 561], [0, 219, 235, 252, 270, 289, 308, 330, 353, 378, 401, 0, 0, 150, 160, 173, 188, 204, 424, 452, 477, 503, 532, 562], [0, 220, 236, 253, 271, 290, 309, 331, 354, 379, 402, 0, 0, 0, 161, 174, 189, 205, 425, 453, 478, 504, 533, 563], [0, 221, 237, 254, 272, 291, 310, 332, 355, 380, 403, 0, 0, 0, 0, 175, 190, 206, 426, 454, 479, 505, 534, 564], [0, 222, 238, 255, 273, 292, 311, 333, 356, 381, 404, 0, 0, 0, 0, 0, 191, 207, 427, 455, 480, 506, 535, 565], [0, 223, 239, 256, 274, 293, 312, 334, 357, 382, 405, 0, 0, 0, 0, 0, 0, 208, 428, 456, 481, 507, 536, 566], [0, 224, 240, 257, 275, 294, 313, 335, 358, 383, 406, 0, 0, 0, 0, 0, 0, 0, 429, 457, 482, 508, 537, 567], [0, 0, 0, 0, 0, 0, 0, 0, 0, 0, 0, 0, 0, 0, 0, 0, 0, 0, 0, 468, 493, 519, 548, 578], [0, 0, 0, 0, 0, 0, 0, 0, 0, 0, 0, 0, 0, 0, 0, 0, 0, 0, 0, 0, 494, 520, 549, 579], [0, 0, 0, 0, 0, 0, 0, 0, 0, 0, 0, 0, 0, 0, 0, 0, 0, 0, 0, 0, 0, 521, 550, 580], [0, 0, 0, 0, 0, 0, 0, 0, 0, 0, 0, 0, 0, 0, 0, 0, 0, 0, 0, 0, 0, 0, 551, 581], [0, 0, 0, 0, 0, 0, 0, 0, 0, 0, 0, 0, 0, 0, 0, 0, 0, 0, 0, 0, 0, 0, 0, 582], [0, 0, 0, 0, 0, 0, 0, 0, 0, 0, 0, 0, 0, 0, 0, 0, 0, 0, 0, 0, 0, 0, 0, 0]]
def qIN : List Nat := [148, 541, 262, 521, 300, 434, 142, 361, 367, 495, 134, 1302]
def qNI : List Nat := [143, 149, 263, 301, 440, 442, 528, 542, 547, 549, 551, 664, 697, 729, 734, 983]
def qSI : List Nat := [823, 1513, 1514, 1515, 1516, 1517, 1518, 1519, 1520, 1521, 1522, 1496, 1503, 1504, 1505, 1506, 1507, 1508, 1523, 1524, 1525, 1526, 1527, 1528]
def qtm (i : Nat) : Term := .string (qcn (qST.getD i (0, 0, "")).1) (qST.getD i (0, 0, "")).2.1
def qtv (i : Nat) : Term := .field (qtm i) "java/lang/String" "value" "[B"
def qfl : List Cond := flatC narrow_1
set_option maxRecDepth 100000 in
theorem fl_1 : (List.range 24).all (fun i => decide (qfl[qFX.getD i 0]? = some (.exactly (qtm i) "java/lang/String")) && decide (qfl[qFC.getD i 0]? = some (.eq (.field (qtm i) "java/lang/String" "coder" "B") (.int 0))) && decide (qfl[qFA.getD i 0]? = some (.arrayOf (qtv i) .byte)) && decide (qfl[qFLn.getD i 0]? = some (.eq (.length (qtv i)) (.int (Int32.ofNat (qSlen.getD i 0)))))) = true := by decide +kernel
set_option maxRecDepth 100000 in
theorem fl_2 : (List.range 24).all (fun i => (List.range (qSlen.getD i 0)).all (fun j => decide (qfl[(qFE.getD i []).getD j 0]? = some (.eq (.elem (qtv i) (.int (Int32.ofNat j))) (.int ((qSbyt.getD i []).getD j 0)))))) = true := by decide +kernel
set_option maxRecDepth 100000 in
theorem fl_3 : (List.range 24).all (fun i => (List.range 24).all (fun j => i == j || decide (qfl[(qFN.getD i []).getD j 0]? = some (.not (.eq (qtm i) (qtm j)))) || decide (qfl[(qFN.getD j []).getD i 0]? = some (.not (.eq (qtm j) (qtm i)))))) = true := by decide +kernel
set_option maxRecDepth 100000 in
theorem ins_ok : (List.range 12).all (fun ci => decide (lw_tbl[qIN.getD ci 0]? = some (.instantiable (qcn ci) (qN ci)))) = true := by decide +kernel
set_option maxRecDepth 100000 in
theorem nw_ok : (List.range 16).all (fun i => decide (lw_tbl[qNI.getD i 0]? = qNW[i]?)) = true := by decide +kernel
set_option maxRecDepth 100000 in
theorem sr_ok : (List.range 24).all (fun i => decide (lw_tbl[qSI.getD i 0]? = (qST[i]?).map (fun z => Cond.stringRef (qcn z.1) z.2.1 z.2.2))) = true := by decide +kernel
set_option maxRecDepth 100000 in
theorem fl_c : qfl[2]? = some (.eq (.static "java/lang/String" "COMPACT_STRINGS" "Z") (.int 1)) ∧ qfl[3]? = some (.isRef (.static "jdk/internal/util/Preconditions" "SIOOBE_FORMATTER" "Ljava/util/function/BiFunction;")) := by decide +kernel
theorem sl_lt : ∀ i, i < 24 → qSlen.getD i 0 < 1000 := by decide +kernel
def SG (X : Cx) (base : Nat) (U : State) : Prop := (∀ (i : Nat) (z : Nat × Nat × String), qST[i]? = some z → vk_R (qcn z.1) z.2.1 z.2.2 (xk X i) U) ∧ vk_S 24 qSlen qSbyt (xk X) (xv X) (jA base) U U.heap ∧ va_Z "java/lang/String" "COMPACT_STRINGS" "Z" (.int 1) (jA base) U U.heap ∧ ∃ vF : Value, (vF = .null ∨ ∃ aF : Nat, vF = .ref aF) ∧ va_Z "jdk/internal/util/Preconditions" "SIOOBE_FORMATTER" "Ljava/util/function/BiFunction;" vF (jA base) U U.heap
theorem isRef_ev {args : Array Value} {s : State} {t : Term} (h : (Cond.isRef t).before args s = true) : ∃ v : Value, (v = .null ∨ ∃ a : Nat, v = .ref a) ∧ t.eval args s none [] s = some v := by
  cases hv : t.eval args s none [] s with
  | none => simp [Cond.before, Cond.holds, Cond.value, hv] at h
  | some w =>
    simp only [Cond.before, Cond.holds, Cond.value, hv] at h
    cases w <;> first | exact ⟨_, Or.inr ⟨_, rfl⟩, rfl⟩ | exact ⟨_, Or.inl rfl, rfl⟩ | simp_all
set_option maxRecDepth 100000 in
theorem st_given {p : Program} {s : State} {m : MethodId} {meth : Method} {c : Code} (l : Launch) {b L : Nat} {xs : Nat → Int32} (C0 : lw_At p s m meth c b L xs) : ∃ X : Cx, xl X = l ∧ JG X s.heap.size s ∧ SG X s.heap.size s := by
  obtain ⟨hx, hb, hr, hml, hown, hts, hX, hbl, hlk, hgv⟩ := C0
  have hg : ∀ w ∈ qgw, w.before #[Value.ref b] s = true := fun w hw => hts w (List.mem_filter.mp hw).1
  have hq : ∀ (k : Nat) (w : Cond), qfl[k]? = some w → w.before #[Value.ref b] s = true := fun k w hw => flat_of_before _ hgv w (List.mem_append_right _ (List.mem_of_getElem? hw))
  have hkn : ∀ ci : Nat, ∃ q : ClassId × (Nat → Nat), ci < 12 → u_Kn s (qcn ci) (qT ci) (qN ci) q.1 q.2 := fun ci => by
    by_cases h : ci < 12
    · have h1 := of_decide_eq_true (all_of ins_ok (List.mem_range.mpr h))
      obtain ⟨cC, iS, hk⟩ := u_known hg (qLW_in h) (hts _ (List.mem_of_getElem? h1))
      exact ⟨(cC, iS), fun _ => hk⟩
    · exact ⟨(m.cls, fun _ => 0), fun z => absurd z h⟩
  obtain ⟨f, hf⟩ := Classical.axiomOfChoice hkn
  obtain ⟨cI, kI, pI, i1, i2, i3⟩ := Cond.arrayClass_spec (hg (.arrayClass .int) (qgw_of (i := 162) rfl rfl))
  obtain ⟨cZ, kZ, pZ, z1, z2, z3⟩ := Cond.arrayClass_spec (hg (.arrayClass .boolean) (qgw_of (i := 359) rfl rfl))
  obtain ⟨cJ, kJ, pJ, j1, j2, j3⟩ := Cond.arrayClass_spec (hg (.arrayClass .long) (qgw_of (i := 1425) rfl rfl))
  have hAO : (Cond.arrayOver (.object "ClayBoots$Shire")).before #[Value.ref b] s = true := hts _ (List.mem_of_getElem? (i := 527) rfl)
  obtain ⟨comp, cS, kS, s1, s2, s3, s4, s5⟩ := Cond.arrayOver_spec hAO
  have f1 : ∀ i, i < 24 → qfl[qFX.getD i 0]? = some (.exactly (qtm i) "java/lang/String") ∧ qfl[qFC.getD i 0]? = some (.eq (.field (qtm i) "java/lang/String" "coder" "B") (.int 0)) ∧ qfl[qFA.getD i 0]? = some (.arrayOf (qtv i) .byte) ∧ qfl[qFLn.getD i 0]? = some (.eq (.length (qtv i)) (.int (Int32.ofNat (qSlen.getD i 0)))) := fun i hi => by
    have h := all_of fl_1 (List.mem_range.mpr hi)
    simp only [Bool.and_eq_true, decide_eq_true_eq] at h
    exact ⟨h.1.1.1, h.1.1.2, h.1.2, h.2⟩
  obtain ⟨adK, adV, hS, hev⟩ := vk_Sof (args := #[Value.ref b]) (s := s) (N := 24) (tm := qtm) (len := qSlen) (byt := qSbyt) (A := jA s.heap.size) (fun i hi => Nat.lt_of_lt_of_le (sl_lt i hi) (by decide)) (fun i hi => hq _ _ (f1 i hi).1) (fun i hi => hq _ _ (f1 i hi).2.1) (fun i hi => hq _ _ (f1 i hi).2.2.1) (fun i hi => hq _ _ (f1 i hi).2.2.2) (fun i hi j hj => hq _ _ (of_decide_eq_true (all_of (all_of fl_2 (List.mem_range.mpr hi)) (List.mem_range.mpr hj))))
    (fun i j hi hj hij => by
      have h := all_of (all_of fl_3 (List.mem_range.mpr hi)) (List.mem_range.mpr hj)
      simp only [Bool.or_eq_true, beq_iff_eq, decide_eq_true_eq] at h
      rcases h with (h | h) | h
      · exact absurd h hij
      · exact Or.inl (hq _ _ h)
      · exact Or.inr (hq _ _ h)) (fun a ha => Nat.not_le.mpr ha)
  refine ⟨(l, (fun ci => (f ci).1, fun ci => (f ci).2), fun _ _ => 0, fun k => [cI, cZ, cJ, cS].getD k cI, adK, adV), rfl, ⟨⟨fun k q hk => ?_, fun k q hk => ?_⟩, fun w hw => ?_, hAO, Nat.le_refl _⟩, fun i z hz => ?_, hS, ?_, ?_⟩
  · have hk12 : k < 12 := by
      have := (List.getElem?_eq_some_iff.mp hk).1
      simpa [qcl] using this
    have := qcl_at hk12
    rw [hk] at this
    cases this
    exact hf k hk12
  · match k, hk with
    | 0, hk => cases hk; exact ⟨fun n z => ⟨fun k h => (by cases h), kI, i2, pI, i3⟩, i1⟩
    | 1, hk => cases hk; exact ⟨fun n z => ⟨fun k h => (by cases h), kZ, z2, pZ, z3⟩, z1⟩
    | 2, hk => cases hk; exact ⟨fun n z => ⟨fun k h => (by cases h), kJ, j2, pJ, j3⟩, j1⟩
    | 3, hk => cases hk; exact ⟨fun n z => ⟨fun k h => (by cases h), kS, s3, comp, s4⟩, kS, comp, s3, s4, s1, s5⟩
    | n + 4, hk => cases hk
  · obtain ⟨i, hi⟩ := List.getElem?_of_mem hw
    have h16 : i < 16 := by
      have := (List.getElem?_eq_some_iff.mp hi).1
      simpa [qNW] using this
    have h := of_decide_eq_true (all_of nw_ok (List.mem_range.mpr h16))
    rw [hi] at h
    have hb1 := hts w (List.mem_of_getElem? h)
    obtain ⟨z1, z2, z3, z4, rfl⟩ : ∃ a i x hh, w = .methodLinkNest a i x hh := by
      simp only [qNW, List.mem_cons, List.not_mem_nil, or_false] at hw
      rcases hw with h | h | h | h | h | h | h | h | h | h | h | h | h | h | h | h <;> exact ⟨_, _, _, _, h⟩
    exact va_Nw.of rfl hb1
  · have h24 : i < 24 := by
      have := (List.getElem?_eq_some_iff.mp hz).1
      simpa [qST] using this
    have h := of_decide_eq_true (all_of sr_ok (List.mem_range.mpr h24))
    rw [hz] at h
    have h2 := hev i h24
    unfold qtm at h2
    rw [List.getD_eq_getElem?_getD, hz] at h2
    exact vk_R.of (hts _ (List.mem_of_getElem? h)) h2
  · exact va_Zof (hts (.laysStatic "java/lang/String" "COMPACT_STRINGS" "Z") (List.mem_of_getElem? (i := 833) rfl)) (hg (.initialized "java/lang/String") (qgw_of (i := 128) rfl rfl)) (va_eqi (hq _ _ fl_c.1)) (fun a ha => Nat.not_le.mpr ha)
  · obtain ⟨vF, hvF, hF⟩ := isRef_ev (hq _ _ fl_c.2)
    exact ⟨vF, hvF, va_Zof (hts (.laysStatic "jdk/internal/util/Preconditions" "SIOOBE_FORMATTER" "Ljava/util/function/BiFunction;") (List.mem_of_getElem? (i := 849) rfl)) (hg (.initialized "jdk/internal/util/Preconditions") (qgw_of (i := 130) rfl rfl)) hF (fun a ha => Nat.not_le.mpr ha)⟩

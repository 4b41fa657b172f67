/-! the law's loop -/
theorem and63 (y : Int32) : ∃ b : Nat, b < 64 ∧ y &&& 63 = iN b := by
  refine ⟨(y.toBitVec &&& 63#32).toNat, ?_, ?_⟩
  · rw [BitVec.toNat_and]
    exact Nat.lt_of_le_of_lt Nat.and_le_right (by decide)
  · apply Int32.toBitVec.inj
    show y.toBitVec &&& 63#32 = BitVec.ofNat 32 (y.toBitVec &&& 63#32).toNat
    rw [BitVec.ofNat_toNat, BitVec.setWidth_eq]
theorem sub6 {L t : Nat} (h1 : 6 * t ≤ L) (h2 : L ≤ 3072) (h3 : ¬ iN L - 6 < iN (6 * t)) : 6 * t + 6 ≤ L := by
  by_cases h6 : 6 ≤ L
  · have e : iN L - 6 = iN (L - 6) := by
      have e1 : iN L = iN (L - 6) + iN 6 := by rw [iN_add, show L - 6 + 6 = L by omega]
      rw [e1]
      show iN (L - 6) + iN 6 - iN 6 = _
      rw [Int32.add_sub_cancel]
    rw [e, iN_lt (by omega) (by omega)] at h3
    omega
  · have ht : t = 0 := by omega
    subst ht
    have key : ∀ L, L < 6 → iN L - 6 < iN (6 * 0) := by decide +kernel
    exact absurd (key L (by omega)) h3
set_option maxRecDepth 100000 in
theorem d_sw : decode code 33 = .ok (.tableswitch 1588 0 42 #[187, 210, 243, 282, 325, 368, 411, 444, 467, 530, 553, 576, 599, 632, 665, 698, 751, 784, 817, 870, 923, 976, 1009, 1032, 1065, 1088, 1121, 1154, 1177, 1210, 1243, 1266, 1299, 1332, 1355, 1388, 1411, 1444, 1467, 1490, 1513, 1526, 1565], 187) := by decide +kernel
section LL
variable {X : Cx} {b L : Nat} {xs : Nat → Int32} {p : Program} {e : Env} {R : Room} {s : State} {m : MethodId} {args : Array Value} {below : List Frame} {meth : Method} {c : Code} {cells slots : Nat} {Q : State → Prop}
set_option maxRecDepth 100000 in
set_option maxHeartbeats 4000000 in
theorem l_body (C : LC X b L xs p s m args c) (hRf : 42 ≤ R.frames) (hRl : 5000 ≤ R.locals) (hcl : cells ≤ R.cells) (hsl : slots ≤ R.slots) {i B : Nat} {M : Mem} {H : Heap} {locs : List Loc} {ls : Array Slot} (hi : i + 6 ≤ L) (hB : B < 1073741824) (hl : lv_has ls 4 (lvs i (xa X 100 0) (xa X 2 0) b)) (hP : Rp X M H) (hI : Inv B M) (hS : va_S (jA s.heap.size) s.heap H locs) (x : Nat) (hx64 : x < 64)
    (hk : ∀ (M2 : Mem) (H : Heap) (locs : List Loc), Rp X M2 H → Inv (B + 151200) M2 → va_S (jA s.heap.size) s.heap H locs → W p (xl X) e R s m args below meth c H locs cells slots Q (F0 m 1621 ls [])) : W p (xl X) e R s m args below meth c H locs cells slots Q (F0 m 33 ls [.int (iN x)]) := by
  by_cases h43 : x < 43
  · match x, h43 with
    | 0, _ => exact lv_tableIn (tgt := 220) (off := 187) C.1 C.2.1 d_sw (by decide) (by decide) (by decide) (by decide) (l_0 C hS hl hP hI hB hi hRf hRl hcl hsl hk)
    | 1, _ => exact lv_tableIn (tgt := 243) (off := 210) C.1 C.2.1 d_sw (by decide) (by decide) (by decide) (by decide) (l_1 C hS hl hP hI hB hi hRf hRl hcl hsl hk)
    | 2, _ => exact lv_tableIn (tgt := 276) (off := 243) C.1 C.2.1 d_sw (by decide) (by decide) (by decide) (by decide) (l_2 C hS hl hP hI hB hi hRf hRl hcl hsl hk)
    | 3, _ => exact lv_tableIn (tgt := 315) (off := 282) C.1 C.2.1 d_sw (by decide) (by decide) (by decide) (by decide) (l_3 C hS hl hP hI hB hi hRf hRl hcl hsl hk)
    | 4, _ => exact lv_tableIn (tgt := 358) (off := 325) C.1 C.2.1 d_sw (by decide) (by decide) (by decide) (by decide) (l_4 C hS hl hP hI hB hi hRf hRl hcl hsl hk)
    | 5, _ => exact lv_tableIn (tgt := 401) (off := 368) C.1 C.2.1 d_sw (by decide) (by decide) (by decide) (by decide) (l_5 C hS hl hP hI hB hi hRf hRl hcl hsl hk)
    | 6, _ => exact lv_tableIn (tgt := 444) (off := 411) C.1 C.2.1 d_sw (by decide) (by decide) (by decide) (by decide) (l_6 C hS hl hP hI hB hi hRf hRl hcl hsl hk)
    | 7, _ => exact lv_tableIn (tgt := 477) (off := 444) C.1 C.2.1 d_sw (by decide) (by decide) (by decide) (by decide) (l_7 C hS hl hP hI hB hi hRf hRl hcl hsl hk)
    | 8, _ => exact lv_tableIn (tgt := 500) (off := 467) C.1 C.2.1 d_sw (by decide) (by decide) (by decide) (by decide) (l_8 C hS hl hP hI hB hi hRf hRl hcl hsl hk)
    | 9, _ => exact lv_tableIn (tgt := 563) (off := 530) C.1 C.2.1 d_sw (by decide) (by decide) (by decide) (by decide) (l_9 C hS hl hP hI hB hi hRf hRl hcl hsl hk)
    | 10, _ => exact lv_tableIn (tgt := 586) (off := 553) C.1 C.2.1 d_sw (by decide) (by decide) (by decide) (by decide) (l_10 C hS hl hP hI hB hi hRf hRl hcl hsl hk)
    | 11, _ => exact lv_tableIn (tgt := 609) (off := 576) C.1 C.2.1 d_sw (by decide) (by decide) (by decide) (by decide) (l_11 C hS hl hP hI hB hi hRf hRl hcl hsl hk)
    | 12, _ => exact lv_tableIn (tgt := 632) (off := 599) C.1 C.2.1 d_sw (by decide) (by decide) (by decide) (by decide) (l_12 C hS hl hP hI hB hi hRf hRl hcl hsl hk)
    | 13, _ => exact lv_tableIn (tgt := 665) (off := 632) C.1 C.2.1 d_sw (by decide) (by decide) (by decide) (by decide) (l_13 C hS hl hP hI hB hi hRf hRl hcl hsl hk)
    | 14, _ => exact lv_tableIn (tgt := 698) (off := 665) C.1 C.2.1 d_sw (by decide) (by decide) (by decide) (by decide) (l_14 C hS hl hP hI hB hi hRf hRl hcl hsl hk)
    | 15, _ => exact lv_tableIn (tgt := 731) (off := 698) C.1 C.2.1 d_sw (by decide) (by decide) (by decide) (by decide) (l_15 C hS hl hP hI hB hi hRf hRl hcl hsl hk)
    | 16, _ => exact lv_tableIn (tgt := 784) (off := 751) C.1 C.2.1 d_sw (by decide) (by decide) (by decide) (by decide) (l_16 C hS hl hP hI hB hi hRf hRl hcl hsl hk)
    | 17, _ => exact lv_tableIn (tgt := 817) (off := 784) C.1 C.2.1 d_sw (by decide) (by decide) (by decide) (by decide) (l_17 C hS hl hP hI hB hi hRf hRl hcl hsl hk)
    | 18, _ => exact lv_tableIn (tgt := 850) (off := 817) C.1 C.2.1 d_sw (by decide) (by decide) (by decide) (by decide) (l_18 C hS hl hP hI hB hi hRf hRl hcl hsl hk)
    | 19, _ => exact lv_tableIn (tgt := 903) (off := 870) C.1 C.2.1 d_sw (by decide) (by decide) (by decide) (by decide) (l_19 C hS hl hP hI hB hi hRf hRl hcl hsl hk)
    | 20, _ => exact lv_tableIn (tgt := 956) (off := 923) C.1 C.2.1 d_sw (by decide) (by decide) (by decide) (by decide) (l_20 C hS hl hP hI hB hi hRf hRl hcl hsl hk)
    | 21, _ => exact lv_tableIn (tgt := 1009) (off := 976) C.1 C.2.1 d_sw (by decide) (by decide) (by decide) (by decide) (l_21 C hS hl hP hI hB hi hRf hRl hcl hsl hk)
    | 22, _ => exact lv_tableIn (tgt := 1042) (off := 1009) C.1 C.2.1 d_sw (by decide) (by decide) (by decide) (by decide) (l_22 C hS hl hP hI hB hi hRf hRl hcl hsl hk)
    | 23, _ => exact lv_tableIn (tgt := 1065) (off := 1032) C.1 C.2.1 d_sw (by decide) (by decide) (by decide) (by decide) (l_23 C hS hl hP hI hB hi hRf hRl hcl hsl hk)
    | 24, _ => exact lv_tableIn (tgt := 1098) (off := 1065) C.1 C.2.1 d_sw (by decide) (by decide) (by decide) (by decide) (l_24 C hS hl hP hI hB hi hRf hRl hcl hsl hk)
    | 25, _ => exact lv_tableIn (tgt := 1121) (off := 1088) C.1 C.2.1 d_sw (by decide) (by decide) (by decide) (by decide) (l_25 C hS hl hP hI hB hi hRf hRl hcl hsl hk)
    | 26, _ => exact lv_tableIn (tgt := 1154) (off := 1121) C.1 C.2.1 d_sw (by decide) (by decide) (by decide) (by decide) (l_26 C hS hl hP hI hB hi hRf hRl hcl hsl hk)
    | 27, _ => exact lv_tableIn (tgt := 1187) (off := 1154) C.1 C.2.1 d_sw (by decide) (by decide) (by decide) (by decide) (l_27 C hS hl hP hI hB hi hRf hRl hcl hsl hk)
    | 28, _ => exact lv_tableIn (tgt := 1210) (off := 1177) C.1 C.2.1 d_sw (by decide) (by decide) (by decide) (by decide) (l_28 C hS hl hP hI hB hi hRf hRl hcl hsl hk)
    | 29, _ => exact lv_tableIn (tgt := 1243) (off := 1210) C.1 C.2.1 d_sw (by decide) (by decide) (by decide) (by decide) (l_29 C hS hl hP hI hB hi hRf hRl hcl hsl hk)
    | 30, _ => exact lv_tableIn (tgt := 1276) (off := 1243) C.1 C.2.1 d_sw (by decide) (by decide) (by decide) (by decide) (l_30 C hS hl hP hI hB hi hRf hRl hcl hsl hk)
    | 31, _ => exact lv_tableIn (tgt := 1299) (off := 1266) C.1 C.2.1 d_sw (by decide) (by decide) (by decide) (by decide) (l_31 C hS hl hP hI hB hi hRf hRl hcl hsl hk)
    | 32, _ => exact lv_tableIn (tgt := 1332) (off := 1299) C.1 C.2.1 d_sw (by decide) (by decide) (by decide) (by decide) (l_32 C hS hl hP hI hB hi hRf hRl hcl hsl hk)
    | 33, _ => exact lv_tableIn (tgt := 1365) (off := 1332) C.1 C.2.1 d_sw (by decide) (by decide) (by decide) (by decide) (l_33 C hS hl hP hI hB hi hRf hRl hcl hsl hk)
    | 34, _ => exact lv_tableIn (tgt := 1388) (off := 1355) C.1 C.2.1 d_sw (by decide) (by decide) (by decide) (by decide) (l_34 C hS hl hP hI hB hi hRf hRl hcl hsl hk)
    | 35, _ => exact lv_tableIn (tgt := 1421) (off := 1388) C.1 C.2.1 d_sw (by decide) (by decide) (by decide) (by decide) (l_35 C hS hl hP hI hB hi hRf hRl hcl hsl hk)
    | 36, _ => exact lv_tableIn (tgt := 1444) (off := 1411) C.1 C.2.1 d_sw (by decide) (by decide) (by decide) (by decide) (l_36 C hS hl hP hI hB hi hRf hRl hcl hsl hk)
    | 37, _ => exact lv_tableIn (tgt := 1477) (off := 1444) C.1 C.2.1 d_sw (by decide) (by decide) (by decide) (by decide) (l_37 C hS hl hP hI hB hi hRf hRl hcl hsl hk)
    | 38, _ => exact lv_tableIn (tgt := 1500) (off := 1467) C.1 C.2.1 d_sw (by decide) (by decide) (by decide) (by decide) (l_38 C hS hl hP hI hB hi hRf hRl hcl hsl hk)
    | 39, _ => exact lv_tableIn (tgt := 1523) (off := 1490) C.1 C.2.1 d_sw (by decide) (by decide) (by decide) (by decide) (l_39 C hS hl hP hI hB hi hRf hRl hcl hsl hk)
    | 40, _ => exact lv_tableIn (tgt := 1546) (off := 1513) C.1 C.2.1 d_sw (by decide) (by decide) (by decide) (by decide) (l_40 C hS hl hP hI hB hi hRf hRl hcl hsl hk)
    | 41, _ => exact lv_tableIn (tgt := 1559) (off := 1526) C.1 C.2.1 d_sw (by decide) (by decide) (by decide) (by decide) (l_41 C hS hl hP hI hB hi hRf hRl hcl hsl hk)
    | 42, _ => exact lv_tableIn (tgt := 1598) (off := 1565) C.1 C.2.1 d_sw (by decide) (by decide) (by decide) (by decide) (l_42 C hS hl hP hI hB hi hRf hRl hcl hsl hk)
    | n + 43, h => exact absurd h (by omega)
  · refine lv_tableOut (tgt := 1621) C.1 C.2.1 d_sw (Or.inr ?_) (by decide) (hk M H locs hP hI.up hS)
    have h1 : ∀ x, x < 64 → ¬ x < 43 → (42 : Int) < (iN x).toInt := by decide +kernel
    exact h1 x hx64 h43
set_option maxRecDepth 100000 in
theorem l_iter (C : LC X b L xs p s m args c) (hRf : 42 ≤ R.frames) (hRl : 5000 ≤ R.locals) (hcl : cells ≤ R.cells) (hsl : slots ≤ R.slots) {t : Nat} {M : Mem} {H : Heap} {locs : List Loc} {ls : Array Slot} (ht : 6 * t ≤ L) (hl : lv_has ls 4 (lvs (6 * t) (xa X 100 0) (xa X 2 0) b)) (hP : Rp X M H) (hI : Inv (151200 * t) M) (hS : va_S (jA s.heap.size) s.heap H locs)
    (fin : ∀ (H : Heap) (locs : List Loc) (ls : Array Slot), va_S (jA s.heap.size) s.heap H locs → W p (xl X) e R s m args below meth c H locs cells slots Q (F0 m 1627 ls []))
    (next : 6 * t + 6 ≤ L → ∀ (M : Mem) (H : Heap) (locs : List Loc) (ls : Array Slot), lv_has ls 4 (lvs (6 * (t + 1)) (xa X 100 0) (xa X 2 0) b) → Rp X M H → Inv (151200 * (t + 1)) M → va_S (jA s.heap.size) s.heap H locs → W p (xl X) e R s m args below meth c H locs cells slots Q (F0 m 18 ls [])) : W p (xl X) e R s m args below meth c H locs cells slots Q (F0 m 18 ls []) := by
  have C0 := C
  obtain ⟨hx, hb, hml, hown, hts, hX, hbl, hG, hin, hL⟩ := C
  have hbA : ¬ jA s.heap.size b := fun z => absurd hbl (Nat.not_lt.mpr z)
  refine lv_iload_n hx hb (show decode code 18 = .ok (.iload_n 3, 1) from by decide +kernel) rfl (lv_at hl 0 rfl) ?_
  refine lv_aload_n hx hb (show decode code 19 = .ok (.aload_n 0, 1) from by decide +kernel) rfl (lv_at hl 3 rfl) ?_
  refine va_slen hx hb hX hbl hbA hS (show decode code 20 = .ok (.arraylength, 1) from by decide +kernel) ?_
  refine lv_bipush (v := 6) hx hb (show decode code 21 = .ok (.bipush 6, 2) from by decide +kernel) (by decide) ?_
  refine lv_isub hx hb (show decode code 23 = .ok (.isub, 1) from by decide +kernel) ?_
  refine lv_icmp_gt (tgt := 1627) hx hb (show decode code 24 = .ok (.if_icmp .gt 1603, 3) from by decide +kernel) (by decide) (fun _ => fin H locs ls hS) (fun hz => ?_)
  have h6 : 6 * t + 6 ≤ L := sub6 ht hL hz
  refine lv_aload_n hx hb (show decode code 27 = .ok (.aload_n 0, 1) from by decide +kernel) rfl (lv_at hl 3 rfl) ?_
  refine lv_iload_n hx hb (show decode code 28 = .ok (.iload_n 3, 1) from by decide +kernel) rfl (lv_at hl 0 rfl) ?_
  refine va_sld hx hb hX hbl hbA hS (inb_of (by omega) (by omega)) (show decode code 29 = .ok (.iaload, 1) from by decide +kernel) ?_
  refine lv_bipush (v := 63) hx hb (show decode code 30 = .ok (.bipush 63, 2) from by decide +kernel) (by decide) ?_
  refine lv_iand hx hb (show decode code 32 = .ok (.iand, 1) from by decide +kernel) ?_
  obtain ⟨x, hx64, he⟩ := and63 (xs (iN (6 * t)).toNatClampNeg)
  rw [he]
  refine l_body C0 hRf hRl hcl hsl h6 (by omega) hl hP hI hS x hx64 (fun M2 H locs hP hI hS => ?_)
  refine lv_iinc (k := 0) (v := iN (6 * (t + 1))) (lv' := lvs (6 * (t + 1)) (xa X 100 0) (xa X 2 0) b) hx hb (show decode code 1621 = .ok (.iinc 3 6, 3) from by decide +kernel) hl rfl ?_ (by decide) rfl (fun ls hl => ?_)
  · show iN (6 * t) + iN 6 = _
    rw [iN_add, show 6 * (t + 1) = 6 * t + 6 by omega]
  refine lv_goto (tgt := 18) hx hb (show decode code 1624 = .ok (.goto (-1606), 3) from by decide +kernel) (by decide) ?_
  exact next h6 M2 H locs ls hl hP (by rw [show 151200 * (t + 1) = 151200 * t + 151200 by omega]; exact hI) hS
theorem l_loop (C : LC X b L xs p s m args c) (hRf : 42 ≤ R.frames) (hRl : 5000 ≤ R.locals) (hcl : cells ≤ R.cells) (hsl : slots ≤ R.slots) (fin : ∀ (H : Heap) (locs : List Loc) (ls : Array Slot), va_S (jA s.heap.size) s.heap H locs → W p (xl X) e R s m args below meth c H locs cells slots Q (F0 m 1627 ls [])) : ∀ (n t : Nat), 6 * t ≤ L → L < 6 * t + 6 * (n + 1) → ∀ (M : Mem) (H : Heap) (locs : List Loc) (ls : Array Slot), lv_has ls 4 (lvs (6 * t) (xa X 100 0) (xa X 2 0) b) → Rp X M H → Inv (151200 * t) M → va_S (jA s.heap.size) s.heap H locs → W p (xl X) e R s m args below meth c H locs cells slots Q (F0 m 18 ls []) := by
  intro n
  induction n with
  | zero =>
    intro t h1 h2 M H locs ls hl hP hI hS
    exact l_iter C hRf hRl hcl hsl h1 hl hP hI hS fin (fun h => absurd h (by omega))
  | succ n ih =>
    intro t h1 h2 M H locs ls hl hP hI hS
    exact l_iter C hRf hRl hcl hsl h1 hl hP hI hS fin (fun h => ih (t + 1) (by omega) (by omega))
end LL

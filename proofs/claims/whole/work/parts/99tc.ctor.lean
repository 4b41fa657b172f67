/-! constructors -/
abbrev T_Rd : Type := Nat × T_Law × Nat × T_Plans × Nat × Nat × Nat × Nat
def oRd (sh : Nat) (u : T_Rd) : List Value := [.ref sh, .ref u.1, .ref u.2.2.1, .ref u.2.2.2.2.1, .ref u.2.2.2.2.2.1, .ref u.2.2.2.2.2.2.1, .ref u.2.2.2.2.2.2.2, .int 0, .int 0, .int 0, .int 0, .int 0, .int 0, .int 0, .int (-1)]
def mkRd (X : Cx) (u : T_Rd) : va_W := ((((((([] : va_W) ++ (u.1, .inr (2, oLaw u.2.1)) :: mkLaw X u.2.1) ++ (u.2.2.1, .inr (4, oPlans u.2.2.2.1)) :: mkPlans X u.2.2.2.1) ++ [(u.2.2.2.2.1, jar X 400)]) ++ [(u.2.2.2.2.2.1, jar X 401)]) ++ [(u.2.2.2.2.2.2.1, jar X 401)]) ++ [(u.2.2.2.2.2.2.2, jar X 32)])
set_option maxRecDepth 100000 in
set_option maxHeartbeats 4000000 in
theorem ci_Rd {X : Cx} {base : Nat} {sh : Nat} : CI X base ⟨"ClayBoots$Reader", "<init>", "(LClayBoots$Shire;)V"⟩ prog_7_method_1_code 2 { frames := 2, cells := 21, slots := 1926, locals := 200 } 5 [.null, .null, .null, .null, .null, .null, .null, .int 0, .int 0, .int 0, .int 0, .int 0, .int 0, .int 0, .int 0] [.ref sh] 21 1926 (oRd sh) (mkRd X) := by
  refine CI_of (by decide +kernel) rfl ?_
  intro ws k a hk p e s m below meth c C hP hD
  have hS : va_S (jA base) s.heap s.heap [] := va_S.rf
  have hl := lv_entry ([.ref a, .ref sh]) (n := 2) (Nat.le_of_ble_eq_true rfl)
  rw [lg_entry_eq]
  generalize (lg_sl ([.ref a, .ref sh]) ++ List.replicate (2 - (lg_sl ([.ref a, .ref sh])).length) Slot.unset).toArray = ls at hl ⊢
  have hl : lv_has ls 2 [(0, .ref a), (1, .ref sh)] := hl
  refine lv_aload_n C.1 C.2.1 (show decode prog_7_method_1_code 0 = .ok (.aload_n 0, 1) from by decide +kernel) rfl (lv_at hl 0 rfl) ?_
  refine j_obj C hl.1 (qgw_of (i := 438) rfl rfl) (by decide) (by decide) (show decode prog_7_method_1_code 1 = .ok (.invokespecial 3, 3) from by decide +kernel) ?_
  refine lv_aload_n C.1 C.2.1 (show decode prog_7_method_1_code 4 = .ok (.aload_n 0, 1) from by decide +kernel) rfl (lv_at hl 0 rfl) ?_
  refine j_newc C hP hD hS 2 8 (by decide) (by decide) qdf_2 (qgw_of (i := 439) rfl rfl) (qgw_of (i := 262) rfl rfl) (qgw_of (i := 117) rfl rfl) (cells' := 1) (slots' := 8) (by decide) (by decide) (by decide) (by decide) (show decode prog_7_method_1_code 5 = .ok (.new 9, 3) from by decide +kernel) (fun q0 H hP hD hS => ?_)
  refine lv_dup C.1 C.2.1 (show decode prog_7_method_1_code 8 = .ok (.dup, 1) from by decide +kernel) rfl ?_
  refine j_call (as := []) (rest := [.ref q0, .ref a]) C hl.1 hP hD hS (ci_Law (X := X) (base := base)) (index := 11) (n := 0) (Or.inr (by decide +kernel)) (qgw_of (i := 265) rfl rfl) (qgw_of (i := 117) rfl rfl) (qgw_of (i := 264) rfl rfl) rfl ⟨by decide, by decide, by decide +kernel⟩ rfl rfl rfl ⟨by decide, by decide⟩ (cells' := 7) (slots' := 504) (by decide) (by decide) (by decide) (by decide) rfl (Nat.le_of_ble_eq_true rfl) (show decode prog_7_method_1_code 9 = .ok (.invokespecial 11, 3) from by decide +kernel) (fun u1 H locs hP hD hS => ?_)
  refine j_put (fs' := [.null, .ref q0, .null, .null, .null, .null, .null, .int 0, .int 0, .int 0, .int 0, .int 0, .int 0, .int 0, .int 0]) C hP hD hS hk 1 (by decide) (by decide) (qgw_of (i := 444) rfl rfl) rfl rfl (by rw [qy_5_1]; rfl) (by rw [qy_5_1]; rfl) (Nat.le_of_ble_eq_true rfl) rfl (show decode prog_7_method_1_code 12 = .ok (.putfield 12, 3) from by decide +kernel) (fun H locs hP hD hS => ?_)
  refine lv_aload_n C.1 C.2.1 (show decode prog_7_method_1_code 15 = .ok (.aload_n 0, 1) from by decide +kernel) rfl (lv_at hl 0 rfl) ?_
  refine j_newc C hP hD hS 4 12 (by decide) (by decide) qdf_4 (qgw_of (i := 441) rfl rfl) (qgw_of (i := 300) rfl rfl) (qgw_of (i := 118) rfl rfl) (cells' := 8) (slots' := 516) (by decide) (by decide) (by decide) (by decide) (show decode prog_7_method_1_code 16 = .ok (.new 18, 3) from by decide +kernel) (fun q2 H hP hD hS => ?_)
  refine lv_dup C.1 C.2.1 (show decode prog_7_method_1_code 19 = .ok (.dup, 1) from by decide +kernel) rfl ?_
  refine j_call (as := []) (rest := [.ref q2, .ref a]) C hl.1 hP hD hS (ci_Plans (X := X) (base := base)) (index := 20) (n := 0) (Or.inr (by decide +kernel)) (qgw_of (i := 303) rfl rfl) (qgw_of (i := 118) rfl rfl) (qgw_of (i := 302) rfl rfl) rfl ⟨by decide, by decide, by decide +kernel⟩ rfl rfl rfl ⟨by decide, by decide⟩ (cells' := 17) (slots' := 692) (by decide) (by decide) (by decide) (by decide) rfl (Nat.le_of_ble_eq_true rfl) (show decode prog_7_method_1_code 20 = .ok (.invokespecial 20, 3) from by decide +kernel) (fun u3 H locs hP hD hS => ?_)
  refine j_put (fs' := [.null, .ref q0, .ref q2, .null, .null, .null, .null, .int 0, .int 0, .int 0, .int 0, .int 0, .int 0, .int 0, .int 0]) C hP hD hS hk 2 (by decide) (by decide) (qgw_of (i := 446) rfl rfl) rfl rfl (by rw [qy_5_2]; rfl) (by rw [qy_5_2]; rfl) (Nat.le_of_ble_eq_true rfl) rfl (show decode prog_7_method_1_code 23 = .ok (.putfield 21, 3) from by decide +kernel) (fun H locs hP hD hS => ?_)
  refine lv_aload_n C.1 C.2.1 (show decode prog_7_method_1_code 26 = .ok (.aload_n 0, 1) from by decide +kernel) rfl (lv_at hl 0 rfl) ?_
  refine lv_sipush (v := 400) C.1 C.2.1 (show decode prog_7_method_1_code 27 = .ok (.sipush 400, 3) from by decide +kernel) (by decide) ?_
  refine j_newI C hP hD hS 400 (by decide) (by decide) (by decide) (cells' := 18) (slots' := 1092) (by decide) (by decide) (by decide) (by decide) (show decode prog_7_method_1_code 30 = .ok (.newarray .int, 2) from by decide +kernel) (fun q4 H hP hD hS => ?_)
  refine j_put (fs' := [.null, .ref q0, .ref q2, .ref q4, .null, .null, .null, .int 0, .int 0, .int 0, .int 0, .int 0, .int 0, .int 0, .int 0]) C hP hD hS hk 3 (by decide) (by decide) (qgw_of (i := 448) rfl rfl) rfl rfl (by rw [qy_5_3]; rfl) (by rw [qy_5_3]; rfl) (Nat.le_of_ble_eq_true rfl) rfl (show decode prog_7_method_1_code 32 = .ok (.putfield 25, 3) from by decide +kernel) (fun H locs hP hD hS => ?_)
  refine lv_aload_n C.1 C.2.1 (show decode prog_7_method_1_code 35 = .ok (.aload_n 0, 1) from by decide +kernel) rfl (lv_at hl 0 rfl) ?_
  refine lv_sipush (v := 401) C.1 C.2.1 (show decode prog_7_method_1_code 36 = .ok (.sipush 401, 3) from by decide +kernel) (by decide) ?_
  refine j_newI C hP hD hS 401 (by decide) (by decide) (by decide) (cells' := 19) (slots' := 1493) (by decide) (by decide) (by decide) (by decide) (show decode prog_7_method_1_code 39 = .ok (.newarray .int, 2) from by decide +kernel) (fun q5 H hP hD hS => ?_)
  refine j_put (fs' := [.null, .ref q0, .ref q2, .ref q4, .ref q5, .null, .null, .int 0, .int 0, .int 0, .int 0, .int 0, .int 0, .int 0, .int 0]) C hP hD hS hk 4 (by decide) (by decide) (qgw_of (i := 449) rfl rfl) rfl rfl (by rw [qy_5_4]; rfl) (by rw [qy_5_4]; rfl) (Nat.le_of_ble_eq_true rfl) rfl (show decode prog_7_method_1_code 41 = .ok (.putfield 29, 3) from by decide +kernel) (fun H locs hP hD hS => ?_)
  refine lv_aload_n C.1 C.2.1 (show decode prog_7_method_1_code 44 = .ok (.aload_n 0, 1) from by decide +kernel) rfl (lv_at hl 0 rfl) ?_
  refine lv_sipush (v := 401) C.1 C.2.1 (show decode prog_7_method_1_code 45 = .ok (.sipush 401, 3) from by decide +kernel) (by decide) ?_
  refine j_newI C hP hD hS 401 (by decide) (by decide) (by decide) (cells' := 20) (slots' := 1894) (by decide) (by decide) (by decide) (by decide) (show decode prog_7_method_1_code 48 = .ok (.newarray .int, 2) from by decide +kernel) (fun q6 H hP hD hS => ?_)
  refine j_put (fs' := [.null, .ref q0, .ref q2, .ref q4, .ref q5, .ref q6, .null, .int 0, .int 0, .int 0, .int 0, .int 0, .int 0, .int 0, .int 0]) C hP hD hS hk 5 (by decide) (by decide) (qgw_of (i := 450) rfl rfl) rfl rfl (by rw [qy_5_5]; rfl) (by rw [qy_5_5]; rfl) (Nat.le_of_ble_eq_true rfl) rfl (show decode prog_7_method_1_code 50 = .ok (.putfield 32, 3) from by decide +kernel) (fun H locs hP hD hS => ?_)
  refine lv_aload_n C.1 C.2.1 (show decode prog_7_method_1_code 53 = .ok (.aload_n 0, 1) from by decide +kernel) rfl (lv_at hl 0 rfl) ?_
  refine lv_bipush (v := 32) C.1 C.2.1 (show decode prog_7_method_1_code 54 = .ok (.bipush 32, 2) from by decide +kernel) (by decide) ?_
  refine j_newI C hP hD hS 32 (by decide) (by decide) (by decide) (cells' := 21) (slots' := 1926) (by decide) (by decide) (by decide) (by decide) (show decode prog_7_method_1_code 56 = .ok (.newarray .int, 2) from by decide +kernel) (fun q7 H hP hD hS => ?_)
  refine j_put (fs' := [.null, .ref q0, .ref q2, .ref q4, .ref q5, .ref q6, .ref q7, .int 0, .int 0, .int 0, .int 0, .int 0, .int 0, .int 0, .int 0]) C hP hD hS hk 6 (by decide) (by decide) (qgw_of (i := 451) rfl rfl) rfl rfl (by rw [qy_5_6]; rfl) (by rw [qy_5_6]; rfl) (Nat.le_of_ble_eq_true rfl) rfl (show decode prog_7_method_1_code 58 = .ok (.putfield 35, 3) from by decide +kernel) (fun H locs hP hD hS => ?_)
  refine lv_aload_n C.1 C.2.1 (show decode prog_7_method_1_code 61 = .ok (.aload_n 0, 1) from by decide +kernel) rfl (lv_at hl 0 rfl) ?_
  refine lv_iconst (v := (-1)) C.1 C.2.1 (show decode prog_7_method_1_code 62 = .ok (.iconst (-1), 1) from by decide +kernel) (by decide) ?_
  refine j_put (fs' := [.null, .ref q0, .ref q2, .ref q4, .ref q5, .ref q6, .ref q7, .int 0, .int 0, .int 0, .int 0, .int 0, .int 0, .int 0, .int (-1)]) C hP hD hS hk 14 (by decide) (by decide) (qgw_of (i := 461) rfl rfl) rfl rfl (by rw [qy_5_14]; rfl) (by rw [qy_5_14]; rfl) (Nat.le_of_ble_eq_true rfl) rfl (show decode prog_7_method_1_code 63 = .ok (.putfield 38, 3) from by decide +kernel) (fun H locs hP hD hS => ?_)
  refine lv_aload_n C.1 C.2.1 (show decode prog_7_method_1_code 66 = .ok (.aload_n 0, 1) from by decide +kernel) rfl (lv_at hl 0 rfl) ?_
  refine lv_aload_n C.1 C.2.1 (show decode prog_7_method_1_code 67 = .ok (.aload_n 1, 1) from by decide +kernel) rfl (lv_at hl 1 rfl) ?_
  refine j_put (fs' := [.ref sh, .ref q0, .ref q2, .ref q4, .ref q5, .ref q6, .ref q7, .int 0, .int 0, .int 0, .int 0, .int 0, .int 0, .int 0, .int (-1)]) C hP hD hS hk 0 (by decide) (by decide) (qgw_of (i := 443) rfl rfl) rfl rfl (by rw [qy_5_0]; rfl) (by rw [qy_5_0]; rfl) (Nat.le_of_ble_eq_true rfl) rfl (show decode prog_7_method_1_code 68 = .ok (.putfield 42, 3) from by decide +kernel) (fun H locs hP hD hS => ?_)
  exact j_ret (o := oRd sh) (mk := mkRd X) C (q0, u1, q2, u3, q4, q5, q6, q7) hP hD hS (show decode prog_7_method_1_code 71 = .ok (.return_, 1) from by decide +kernel)
abbrev T_Wk : Type := Nat
def oWk (sh la pl : Nat) (th : Int32) (u : T_Wk) : List Value := [.ref sh, .ref la, .ref pl, .int th, .ref u, .int 0]
def mkWk (X : Cx) (u : T_Wk) : va_W := (([] : va_W) ++ [(u, jar X 10)])
set_option maxRecDepth 100000 in
set_option maxHeartbeats 4000000 in
theorem ci_Wk {X : Cx} {base : Nat} {sh la pl : Nat} {th : Int32} (hth : th = 0 ∨ th = 1) : CI X base ⟨"ClayBoots$Walk", "<init>", "(LClayBoots$Shire;LClayBoots$Law;LClayBoots$Plans;Z)V"⟩ prog_11_method_1_code 5 { frames := 1, cells := 1, slots := 10, locals := 100 } 9 [.null, .null, .null, .int 0, .null, .int 0] [.ref sh, .ref la, .ref pl, .int th] 1 10 (oWk sh la pl th) (mkWk X) := by
  refine CI_of (by decide +kernel) rfl ?_
  intro ws k a hk p e s m below meth c C hP hD
  have hS : va_S (jA base) s.heap s.heap [] := va_S.rf
  have hl := lv_entry ([.ref a, .ref sh, .ref la, .ref pl, .int th]) (n := 5) (Nat.le_of_ble_eq_true rfl)
  rw [lg_entry_eq]
  generalize (lg_sl ([.ref a, .ref sh, .ref la, .ref pl, .int th]) ++ List.replicate (5 - (lg_sl ([.ref a, .ref sh, .ref la, .ref pl, .int th])).length) Slot.unset).toArray = ls at hl ⊢
  have hl : lv_has ls 5 [(0, .ref a), (1, .ref sh), (2, .ref la), (3, .ref pl), (4, .int th)] := hl
  refine lv_aload_n C.1 C.2.1 (show decode prog_11_method_1_code 0 = .ok (.aload_n 0, 1) from by decide +kernel) rfl (lv_at hl 0 rfl) ?_
  refine j_obj C hl.1 (qgw_of (i := 499) rfl rfl) (by decide) (by decide) (show decode prog_11_method_1_code 1 = .ok (.invokespecial 3, 3) from by decide +kernel) ?_
  refine lv_aload_n C.1 C.2.1 (show decode prog_11_method_1_code 4 = .ok (.aload_n 0, 1) from by decide +kernel) rfl (lv_at hl 0 rfl) ?_
  refine lv_bipush (v := 10) C.1 C.2.1 (show decode prog_11_method_1_code 5 = .ok (.bipush 10, 2) from by decide +kernel) (by decide) ?_
  refine j_newI C hP hD hS 10 (by decide) (by decide) (by decide) (cells' := 1) (slots' := 10) (by decide) (by decide) (by decide) (by decide) (show decode prog_11_method_1_code 7 = .ok (.newarray .int, 2) from by decide +kernel) (fun q0 H hP hD hS => ?_)
  refine j_put (fs' := [.null, .null, .null, .int 0, .ref q0, .int 0]) C hP hD hS hk 4 (by decide) (by decide) (qgw_of (i := 504) rfl rfl) rfl rfl (by rw [qy_9_4]; rfl) (by rw [qy_9_4]; rfl) (Nat.le_of_ble_eq_true rfl) rfl (show decode prog_11_method_1_code 9 = .ok (.putfield 9, 3) from by decide +kernel) (fun H locs hP hD hS => ?_)
  refine lv_aload_n C.1 C.2.1 (show decode prog_11_method_1_code 12 = .ok (.aload_n 0, 1) from by decide +kernel) rfl (lv_at hl 0 rfl) ?_
  refine lv_aload_n C.1 C.2.1 (show decode prog_11_method_1_code 13 = .ok (.aload_n 1, 1) from by decide +kernel) rfl (lv_at hl 1 rfl) ?_
  refine j_put (fs' := [.ref sh, .null, .null, .int 0, .ref q0, .int 0]) C hP hD hS hk 0 (by decide) (by decide) (qgw_of (i := 500) rfl rfl) rfl rfl (by rw [qy_9_0]; rfl) (by rw [qy_9_0]; rfl) (Nat.le_of_ble_eq_true rfl) rfl (show decode prog_11_method_1_code 14 = .ok (.putfield 15, 3) from by decide +kernel) (fun H locs hP hD hS => ?_)
  refine lv_aload_n C.1 C.2.1 (show decode prog_11_method_1_code 17 = .ok (.aload_n 0, 1) from by decide +kernel) rfl (lv_at hl 0 rfl) ?_
  refine lv_aload_n C.1 C.2.1 (show decode prog_11_method_1_code 18 = .ok (.aload_n 2, 1) from by decide +kernel) rfl (lv_at hl 2 rfl) ?_
  refine j_put (fs' := [.ref sh, .ref la, .null, .int 0, .ref q0, .int 0]) C hP hD hS hk 1 (by decide) (by decide) (qgw_of (i := 501) rfl rfl) rfl rfl (by rw [qy_9_1]; rfl) (by rw [qy_9_1]; rfl) (Nat.le_of_ble_eq_true rfl) rfl (show decode prog_11_method_1_code 19 = .ok (.putfield 19, 3) from by decide +kernel) (fun H locs hP hD hS => ?_)
  refine lv_aload_n C.1 C.2.1 (show decode prog_11_method_1_code 22 = .ok (.aload_n 0, 1) from by decide +kernel) rfl (lv_at hl 0 rfl) ?_
  refine lv_aload_n C.1 C.2.1 (show decode prog_11_method_1_code 23 = .ok (.aload_n 3, 1) from by decide +kernel) rfl (lv_at hl 3 rfl) ?_
  refine j_put (fs' := [.ref sh, .ref la, .ref pl, .int 0, .ref q0, .int 0]) C hP hD hS hk 2 (by decide) (by decide) (qgw_of (i := 502) rfl rfl) rfl rfl (by rw [qy_9_2]; rfl) (by rw [qy_9_2]; rfl) (Nat.le_of_ble_eq_true rfl) rfl (show decode prog_11_method_1_code 24 = .ok (.putfield 23, 3) from by decide +kernel) (fun H locs hP hD hS => ?_)
  refine lv_aload_n C.1 C.2.1 (show decode prog_11_method_1_code 27 = .ok (.aload_n 0, 1) from by decide +kernel) rfl (lv_at hl 0 rfl) ?_
  refine lv_iload C.1 C.2.1 (show decode prog_11_method_1_code 28 = .ok (.iload 4, 2) from by decide +kernel) (lv_at hl 4 rfl) ?_
  refine j_put (fs' := [.ref sh, .ref la, .ref pl, .int th, .ref q0, .int 0]) C hP hD hS hk 3 (by decide) (by decide) (qgw_of (i := 503) rfl rfl) rfl rfl (by rw [qy_9_3]; rcases hth with rfl | rfl <;> rfl) (by rw [qy_9_3]; rcases hth with rfl | rfl <;> rfl) (Nat.le_of_ble_eq_true rfl) rfl (show decode prog_11_method_1_code 30 = .ok (.putfield 27, 3) from by decide +kernel) (fun H locs hP hD hS => ?_)
  exact j_ret (o := oWk sh la pl th) (mk := mkWk X) C (q0) hP hD hS (show decode prog_11_method_1_code 33 = .ok (.return_, 1) from by decide +kernel)
abbrev T_Im : Type := Nat × T_Shire × Nat × T_Law × Nat × T_Plans × Nat × T_Th
def oIm (u : T_Im) : List Value := [.int 0, .ref u.1, .ref u.2.2.1, .ref u.2.2.2.2.1, .ref u.2.2.2.2.2.2.1]
def mkIm (X : Cx) (u : T_Im) : va_W := ((((([] : va_W) ++ (u.1, .inr (6, oShire u.2.1)) :: mkShire X u.2.1) ++ (u.2.2.1, .inr (2, oLaw u.2.2.2.1)) :: mkLaw X u.2.2.2.1) ++ (u.2.2.2.2.1, .inr (4, oPlans u.2.2.2.2.2.1)) :: mkPlans X u.2.2.2.2.2.1) ++ (u.2.2.2.2.2.2.1, .inr (7, oTh u.2.2.2.2.2.2.2)) :: mkTh X u.2.2.2.2.2.2.2)
set_option maxRecDepth 100000 in
set_option maxHeartbeats 4000000 in
theorem ci_Im {X : Cx} {base : Nat} : CI X base ⟨"ClayBoots$Image", "<init>", "()V"⟩ prog_3_method_1_code 1 { frames := 3, cells := 52, slots := 1828, locals := 300 } 1 [.int 0, .null, .null, .null, .null] [] 52 1828 (oIm) (mkIm X) := by
  refine CI_of (by decide +kernel) rfl ?_
  intro ws k a hk p e s m below meth c C hP hD
  have hS : va_S (jA base) s.heap s.heap [] := va_S.rf
  have hl := lv_entry ([.ref a]) (n := 1) (Nat.le_of_ble_eq_true rfl)
  rw [lg_entry_eq]
  generalize (lg_sl ([.ref a]) ++ List.replicate (1 - (lg_sl ([.ref a])).length) Slot.unset).toArray = ls at hl ⊢
  have hl : lv_has ls 1 [(0, .ref a)] := hl
  refine lv_aload_n C.1 C.2.1 (show decode prog_3_method_1_code 0 = .ok (.aload_n 0, 1) from by decide +kernel) rfl (lv_at hl 0 rfl) ?_
  refine j_obj C hl.1 (qgw_of (i := 545) rfl rfl) (by decide) (by decide) (show decode prog_3_method_1_code 1 = .ok (.invokespecial 1, 3) from by decide +kernel) ?_
  refine lv_aload_n C.1 C.2.1 (show decode prog_3_method_1_code 4 = .ok (.aload_n 0, 1) from by decide +kernel) rfl (lv_at hl 0 rfl) ?_
  refine j_newc C hP hD hS 6 18 (by decide) (by decide) qdf_6 (qgw_of (i := 546) rfl rfl) (qgw_of (i := 142) rfl rfl) (qgw_of (i := 115) rfl rfl) (cells' := 1) (slots' := 18) (by decide) (by decide) (by decide) (by decide) (show decode prog_3_method_1_code 5 = .ok (.new 7, 3) from by decide +kernel) (fun q0 H hP hD hS => ?_)
  refine lv_dup C.1 C.2.1 (show decode prog_3_method_1_code 8 = .ok (.dup, 1) from by decide +kernel) rfl ?_
  refine j_call (as := []) (rest := [.ref q0, .ref a]) C hl.1 hP hD hS (ci_Shire (X := X) (base := base)) (index := 9) (n := 0) (Or.inr (by decide +kernel)) (qgw_of (i := 145) rfl rfl) (qgw_of (i := 115) rfl rfl) (qgw_of (i := 144) rfl rfl) rfl ⟨by decide, by decide, by decide +kernel⟩ rfl rfl rfl ⟨by decide, by decide⟩ (cells' := 12) (slots' := 896) (by decide) (by decide) (by decide) (by decide) rfl (Nat.le_of_ble_eq_true rfl) (show decode prog_3_method_1_code 9 = .ok (.invokespecial 9, 3) from by decide +kernel) (fun u1 H locs hP hD hS => ?_)
  refine j_put (fs' := [.int 0, .ref q0, .null, .null, .null]) C hP hD hS hk 1 (by decide) (by decide) (qgw_of (i := 555) rfl rfl) rfl rfl (by rw [qy_1_1]; rfl) (by rw [qy_1_1]; rfl) (Nat.le_of_ble_eq_true rfl) rfl (show decode prog_3_method_1_code 12 = .ok (.putfield 10, 3) from by decide +kernel) (fun H locs hP hD hS => ?_)
  refine lv_aload_n C.1 C.2.1 (show decode prog_3_method_1_code 15 = .ok (.aload_n 0, 1) from by decide +kernel) rfl (lv_at hl 0 rfl) ?_
  refine j_newc C hP hD hS 2 8 (by decide) (by decide) qdf_2 (qgw_of (i := 548) rfl rfl) (qgw_of (i := 262) rfl rfl) (qgw_of (i := 117) rfl rfl) (cells' := 13) (slots' := 904) (by decide) (by decide) (by decide) (by decide) (show decode prog_3_method_1_code 16 = .ok (.new 16, 3) from by decide +kernel) (fun q2 H hP hD hS => ?_)
  refine lv_dup C.1 C.2.1 (show decode prog_3_method_1_code 19 = .ok (.dup, 1) from by decide +kernel) rfl ?_
  refine j_call (as := []) (rest := [.ref q2, .ref a]) C hl.1 hP hD hS (ci_Law (X := X) (base := base)) (index := 18) (n := 0) (Or.inr (by decide +kernel)) (qgw_of (i := 265) rfl rfl) (qgw_of (i := 117) rfl rfl) (qgw_of (i := 264) rfl rfl) rfl ⟨by decide, by decide, by decide +kernel⟩ rfl rfl rfl ⟨by decide, by decide⟩ (cells' := 19) (slots' := 1400) (by decide) (by decide) (by decide) (by decide) rfl (Nat.le_of_ble_eq_true rfl) (show decode prog_3_method_1_code 20 = .ok (.invokespecial 18, 3) from by decide +kernel) (fun u3 H locs hP hD hS => ?_)
  refine j_put (fs' := [.int 0, .ref q0, .ref q2, .null, .null]) C hP hD hS hk 2 (by decide) (by decide) (qgw_of (i := 557) rfl rfl) rfl rfl (by rw [qy_1_2]; rfl) (by rw [qy_1_2]; rfl) (Nat.le_of_ble_eq_true rfl) rfl (show decode prog_3_method_1_code 23 = .ok (.putfield 19, 3) from by decide +kernel) (fun H locs hP hD hS => ?_)
  refine lv_aload_n C.1 C.2.1 (show decode prog_3_method_1_code 26 = .ok (.aload_n 0, 1) from by decide +kernel) rfl (lv_at hl 0 rfl) ?_
  refine j_newc C hP hD hS 4 12 (by decide) (by decide) qdf_4 (qgw_of (i := 550) rfl rfl) (qgw_of (i := 300) rfl rfl) (qgw_of (i := 118) rfl rfl) (cells' := 20) (slots' := 1412) (by decide) (by decide) (by decide) (by decide) (show decode prog_3_method_1_code 27 = .ok (.new 23, 3) from by decide +kernel) (fun q4 H hP hD hS => ?_)
  refine lv_dup C.1 C.2.1 (show decode prog_3_method_1_code 30 = .ok (.dup, 1) from by decide +kernel) rfl ?_
  refine j_call (as := []) (rest := [.ref q4, .ref a]) C hl.1 hP hD hS (ci_Plans (X := X) (base := base)) (index := 25) (n := 0) (Or.inr (by decide +kernel)) (qgw_of (i := 303) rfl rfl) (qgw_of (i := 118) rfl rfl) (qgw_of (i := 302) rfl rfl) rfl ⟨by decide, by decide, by decide +kernel⟩ rfl rfl rfl ⟨by decide, by decide⟩ (cells' := 29) (slots' := 1588) (by decide) (by decide) (by decide) (by decide) rfl (Nat.le_of_ble_eq_true rfl) (show decode prog_3_method_1_code 31 = .ok (.invokespecial 25, 3) from by decide +kernel) (fun u5 H locs hP hD hS => ?_)
  refine j_put (fs' := [.int 0, .ref q0, .ref q2, .ref q4, .null]) C hP hD hS hk 3 (by decide) (by decide) (qgw_of (i := 559) rfl rfl) rfl rfl (by rw [qy_1_3]; rfl) (by rw [qy_1_3]; rfl) (Nat.le_of_ble_eq_true rfl) rfl (show decode prog_3_method_1_code 34 = .ok (.putfield 26, 3) from by decide +kernel) (fun H locs hP hD hS => ?_)
  refine lv_aload_n C.1 C.2.1 (show decode prog_3_method_1_code 37 = .ok (.aload_n 0, 1) from by decide +kernel) rfl (lv_at hl 0 rfl) ?_
  refine j_newc C hP hD hS 7 12 (by decide) (by decide) qdf_7 (qgw_of (i := 552) rfl rfl) (qgw_of (i := 361) rfl rfl) (qgw_of (i := 119) rfl rfl) (cells' := 30) (slots' := 1600) (by decide) (by decide) (by decide) (by decide) (show decode prog_3_method_1_code 38 = .ok (.new 30, 3) from by decide +kernel) (fun q6 H hP hD hS => ?_)
  refine lv_dup C.1 C.2.1 (show decode prog_3_method_1_code 41 = .ok (.dup, 1) from by decide +kernel) rfl ?_
  refine j_call (as := []) (rest := [.ref q6, .ref a]) C hl.1 hP hD hS (ci_Th (X := X) (base := base)) (index := 32) (n := 0) (Or.inl (qgw_of (i := 553) rfl rfl)) (qgw_of (i := 364) rfl rfl) (qgw_of (i := 119) rfl rfl) (qgw_of (i := 363) rfl rfl) rfl ⟨by decide, by decide, by decide +kernel⟩ rfl rfl rfl ⟨by decide, by decide⟩ (cells' := 52) (slots' := 1828) (by decide) (by decide) (by decide) (by decide) rfl (Nat.le_of_ble_eq_true rfl) (show decode prog_3_method_1_code 42 = .ok (.invokespecial 32, 3) from by decide +kernel) (fun u7 H locs hP hD hS => ?_)
  refine j_put (fs' := [.int 0, .ref q0, .ref q2, .ref q4, .ref q6]) C hP hD hS hk 4 (by decide) (by decide) (qgw_of (i := 561) rfl rfl) rfl rfl (by rw [qy_1_4]; rfl) (by rw [qy_1_4]; rfl) (Nat.le_of_ble_eq_true rfl) rfl (show decode prog_3_method_1_code 45 = .ok (.putfield 33, 3) from by decide +kernel) (fun H locs hP hD hS => ?_)
  exact j_ret (o := oIm) (mk := mkIm X) C (q0, u1, q2, u3, q4, u5, q6, u7) hP hD hS (show decode prog_3_method_1_code 48 = .ok (.return_, 1) from by decide +kernel)

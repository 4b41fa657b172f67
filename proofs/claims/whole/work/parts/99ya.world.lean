/-! the columns, one by one -/
set_option maxRecDepth 100000 in
theorem tP_2_0 {X : Cx} {q q2 : Nat} {u : T_Clay} {v : T_Mdl} : (LF X q q2 u v (e9X X q q2 u v))[0]? = some (aX q q2 u v 2 0, qent (X1 X q q2 u v) M0 2 0) := by
  have h1 : aX q q2 u v 2 0 = q := by
    unfold aX aL
    rfl
  have h2 : qent (X1 X q q2 u v) M0 2 0 = .inr (10, oClay u) := by
    simp [qent, qcol, qCOLS, qfv, oClay, M0, xa, X1, aX, aL]
  rw [h1, h2]
  unfold LF
  rfl
set_option maxRecDepth 100000 in
theorem tP_3_0 {X : Cx} {q q2 : Nat} {u : T_Clay} {v : T_Mdl} : (LF X q q2 u v (e9X X q q2 u v))[65]? = some (aX q q2 u v 3 0, qent (X1 X q q2 u v) M0 3 0) := by
  have h1 : aX q q2 u v 3 0 = u.2.2.2.2.2.2.2.2.2.2.1 := by
    unfold aX aL
    rfl
  have h2 : qent (X1 X q q2 u v) M0 3 0 = .inr (5, oRd u.1 u.2.2.2.2.2.2.2.2.2.2.2.1) := by
    simp [qent, qcol, qCOLS, qfv, oRd, M0, xa, X1, aX, aL]
  rw [h1, h2]
  unfold LF
  rfl
set_option maxRecDepth 100000 in
theorem tP_4_0 {X : Cx} {q q2 : Nat} {u : T_Clay} {v : T_Mdl} : (LF X q q2 u v (e9X X q q2 u v))[83]? = some (aX q q2 u v 4 0, qent (X1 X q q2 u v) M0 4 0) := by
  have h1 : aX q q2 u v 4 0 = u.2.2.2.2.2.2.2.2.2.2.2.1.2.2.2.2.1 := by
    unfold aX aL
    rfl
  have h2 : qent (X1 X q q2 u v) M0 4 0 = jar X 400 := by
    rfl
  rw [h1, h2]
  unfold LF
  rfl
set_option maxRecDepth 100000 in
theorem tP_5_0 {X : Cx} {q q2 : Nat} {u : T_Clay} {v : T_Mdl} : (LF X q q2 u v (e9X X q q2 u v))[84]? = some (aX q q2 u v 5 0, qent (X1 X q q2 u v) M0 5 0) := by
  have h1 : aX q q2 u v 5 0 = u.2.2.2.2.2.2.2.2.2.2.2.1.2.2.2.2.2.1 := by
    unfold aX aL
    rfl
  have h2 : qent (X1 X q q2 u v) M0 5 0 = jar X 401 := by
    rfl
  rw [h1, h2]
  unfold LF
  rfl
set_option maxRecDepth 100000 in
theorem tP_6_0 {X : Cx} {q q2 : Nat} {u : T_Clay} {v : T_Mdl} : (LF X q q2 u v (e9X X q q2 u v))[85]? = some (aX q q2 u v 6 0, qent (X1 X q q2 u v) M0 6 0) := by
  have h1 : aX q q2 u v 6 0 = u.2.2.2.2.2.2.2.2.2.2.2.1.2.2.2.2.2.2.1 := by
    unfold aX aL
    rfl
  have h2 : qent (X1 X q q2 u v) M0 6 0 = jar X 401 := by
    rfl
  rw [h1, h2]
  unfold LF
  rfl
set_option maxRecDepth 100000 in
theorem tP_7_0 {X : Cx} {q q2 : Nat} {u : T_Clay} {v : T_Mdl} : (LF X q q2 u v (e9X X q q2 u v))[86]? = some (aX q q2 u v 7 0, qent (X1 X q q2 u v) M0 7 0) := by
  have h1 : aX q q2 u v 7 0 = u.2.2.2.2.2.2.2.2.2.2.2.1.2.2.2.2.2.2.2 := by
    unfold aX aL
    rfl
  have h2 : qent (X1 X q q2 u v) M0 7 0 = jar X 32 := by
    rfl
  rw [h1, h2]
  unfold LF
  rfl
set_option maxRecDepth 100000 in
theorem tP_8_0 {X : Cx} {q q2 : Nat} {u : T_Clay} {v : T_Mdl} : (LF X q q2 u v (e9X X q q2 u v))[91]? = some (aX q q2 u v 8 0, qent (X1 X q q2 u v) M0 8 0) := by
  have h1 : aX q q2 u v 8 0 = u.2.2.2.2.2.2.2.2.2.2.2.2.2.2.2.2.1 := by
    unfold aX aL
    rfl
  have h2 : qent (X1 X q q2 u v) M0 8 0 = .inr (3, oPast u.2.2.2.2.2.2.2.2.2.2.2.2.2.2.2.2.2.1) := by
    simp [qent, qcol, qCOLS, qfv, oPast, M0, xa, X1, aX, aL]
  rw [h1, h2]
  unfold LF
  rfl
set_option maxRecDepth 100000 in
theorem tP_9_0 {X : Cx} {q q2 : Nat} {u : T_Clay} {v : T_Mdl} : (LF X q q2 u v (e9X X q q2 u v))[92]? = some (aX q q2 u v 9 0, qent (X1 X q q2 u v) M0 9 0) := by
  have h1 : aX q q2 u v 9 0 = u.2.2.2.2.2.2.2.2.2.2.2.2.2.2.2.2.2.1.1 := by
    unfold aX aL
    rfl
  have h2 : qent (X1 X q q2 u v) M0 9 0 = e9X X q q2 u v := by
    rfl
  rw [h1, h2]
  unfold LF
  rfl
set_option maxRecDepth 100000 in
theorem tP_10_0 {X : Cx} {q q2 : Nat} {u : T_Clay} {v : T_Mdl} : (LF X q q2 u v (e9X X q q2 u v))[165]? = some (aX q q2 u v 10 0, qent (X1 X q q2 u v) M0 10 0) := by
  have h1 : aX q q2 u v 10 0 = u.2.2.2.2.2.2.2.2.2.2.2.2.2.2.2.2.2.2.1 := by
    unfold aX aL
    rfl
  have h2 : qent (X1 X q q2 u v) M0 10 0 = .inr (1, oIm u.2.2.2.2.2.2.2.2.2.2.2.2.2.2.2.2.2.2.2) := by
    simp [qent, qcol, qCOLS, qfv, oIm, M0, xa, X1, aX, aL]
  rw [h1, h2]
  unfold LF
  rfl
set_option maxRecDepth 100000 in
theorem tP_11_0 {X : Cx} {q q2 : Nat} {u : T_Clay} {v : T_Mdl} : (LF X q q2 u v (e9X X q q2 u v))[87]? = some (aX q q2 u v 11 0, qent (X1 X q q2 u v) M0 11 0) := by
  have h1 : aX q q2 u v 11 0 = u.2.2.2.2.2.2.2.2.2.2.2.2.1 := by
    unfold aX aL
    rfl
  have h2 : qent (X1 X q q2 u v) M0 11 0 = .inr (9, oWk u.1 u.2.2.2.2.1 u.2.2.2.2.2.2.1 0 u.2.2.2.2.2.2.2.2.2.2.2.2.2.1) := by
    simp [qent, qcol, qCOLS, qfv, oWk, M0, xa, X1, aX, aL]
  rw [h1, h2]
  unfold LF
  rfl
set_option maxRecDepth 100000 in
theorem tP_11_1 {X : Cx} {q q2 : Nat} {u : T_Clay} {v : T_Mdl} : (LF X q q2 u v (e9X X q q2 u v))[89]? = some (aX q q2 u v 11 1, qent (X1 X q q2 u v) M0 11 1) := by
  have h1 : aX q q2 u v 11 1 = u.2.2.2.2.2.2.2.2.2.2.2.2.2.2.1 := by
    unfold aX aL
    rfl
  have h2 : qent (X1 X q q2 u v) M0 11 1 = .inr (9, oWk u.2.2.1 u.2.2.2.2.1 u.2.2.2.2.2.2.1 1 u.2.2.2.2.2.2.2.2.2.2.2.2.2.2.2.1) := by
    simp [qent, qcol, qCOLS, qfv, oWk, M0, xa, X1, aX, aL]
  rw [h1, h2]
  unfold LF
  rfl
set_option maxRecDepth 100000 in
theorem tP_12_0 {X : Cx} {q q2 : Nat} {u : T_Clay} {v : T_Mdl} : (LF X q q2 u v (e9X X q q2 u v))[88]? = some (aX q q2 u v 12 0, qent (X1 X q q2 u v) M0 12 0) := by
  have h1 : aX q q2 u v 12 0 = u.2.2.2.2.2.2.2.2.2.2.2.2.2.1 := by
    unfold aX aL
    rfl
  have h2 : qent (X1 X q q2 u v) M0 12 0 = jar X 10 := by
    rfl
  rw [h1, h2]
  unfold LF
  rfl
set_option maxRecDepth 100000 in
theorem tP_12_1 {X : Cx} {q q2 : Nat} {u : T_Clay} {v : T_Mdl} : (LF X q q2 u v (e9X X q q2 u v))[90]? = some (aX q q2 u v 12 1, qent (X1 X q q2 u v) M0 12 1) := by
  have h1 : aX q q2 u v 12 1 = u.2.2.2.2.2.2.2.2.2.2.2.2.2.2.2.1 := by
    unfold aX aL
    rfl
  have h2 : qent (X1 X q q2 u v) M0 12 1 = jar X 10 := by
    rfl
  rw [h1, h2]
  unfold LF
  rfl
set_option maxRecDepth 100000 in
theorem tP_20_0 {X : Cx} {q q2 : Nat} {u : T_Clay} {v : T_Mdl} : (LF X q q2 u v (e9X X q q2 u v))[1]? = some (aX q q2 u v 20 0, qent (X1 X q q2 u v) M0 20 0) := by
  have h1 : aX q q2 u v 20 0 = u.1 := by
    unfold aX aL
    rfl
  have h2 : qent (X1 X q q2 u v) M0 20 0 = .inr (6, oShire u.2.1) := by
    simp [qent, qcol, qCOLS, qfv, oShire, M0, xa, X1, aX, aL]
  rw [h1, h2]
  unfold LF
  rfl
set_option maxRecDepth 100000 in
theorem tP_20_1 {X : Cx} {q q2 : Nat} {u : T_Clay} {v : T_Mdl} : (LF X q q2 u v (e9X X q q2 u v))[13]? = some (aX q q2 u v 20 1, qent (X1 X q q2 u v) M0 20 1) := by
  have h1 : aX q q2 u v 20 1 = u.2.2.1 := by
    unfold aX aL
    rfl
  have h2 : qent (X1 X q q2 u v) M0 20 1 = .inr (6, oShire u.2.2.2.1) := by
    simp [qent, qcol, qCOLS, qfv, oShire, M0, xa, X1, aX, aL]
  rw [h1, h2]
  unfold LF
  rfl
set_option maxRecDepth 100000 in
theorem tP_20_2 {X : Cx} {q q2 : Nat} {u : T_Clay} {v : T_Mdl} : (LF X q q2 u v (e9X X q q2 u v))[93]? = some (aX q q2 u v 20 2, qent (X1 X q q2 u v) M0 20 2) := by
  have h1 : aX q q2 u v 20 2 = u.2.2.2.2.2.2.2.2.2.2.2.2.2.2.2.2.2.1.2.1 := by
    unfold aX aL
    rfl
  have h2 : qent (X1 X q q2 u v) M0 20 2 = .inr (6, oShire u.2.2.2.2.2.2.2.2.2.2.2.2.2.2.2.2.2.1.2.2.1) := by
    simp [qent, qcol, qCOLS, qfv, oShire, M0, xa, X1, aX, aL]
  rw [h1, h2]
  unfold LF
  rfl
set_option maxRecDepth 100000 in
theorem tP_20_3 {X : Cx} {q q2 : Nat} {u : T_Clay} {v : T_Mdl} : (LF X q q2 u v (e9X X q q2 u v))[105]? = some (aX q q2 u v 20 3, qent (X1 X q q2 u v) M0 20 3) := by
  have h1 : aX q q2 u v 20 3 = u.2.2.2.2.2.2.2.2.2.2.2.2.2.2.2.2.2.1.2.2.2.1 := by
    unfold aX aL
    rfl
  have h2 : qent (X1 X q q2 u v) M0 20 3 = .inr (6, oShire u.2.2.2.2.2.2.2.2.2.2.2.2.2.2.2.2.2.1.2.2.2.2.1) := by
    simp [qent, qcol, qCOLS, qfv, oShire, M0, xa, X1, aX, aL]
  rw [h1, h2]
  unfold LF
  rfl
set_option maxRecDepth 100000 in
theorem tP_20_4 {X : Cx} {q q2 : Nat} {u : T_Clay} {v : T_Mdl} : (LF X q q2 u v (e9X X q q2 u v))[117]? = some (aX q q2 u v 20 4, qent (X1 X q q2 u v) M0 20 4) := by
  have h1 : aX q q2 u v 20 4 = u.2.2.2.2.2.2.2.2.2.2.2.2.2.2.2.2.2.1.2.2.2.2.2.1 := by
    unfold aX aL
    rfl
  have h2 : qent (X1 X q q2 u v) M0 20 4 = .inr (6, oShire u.2.2.2.2.2.2.2.2.2.2.2.2.2.2.2.2.2.1.2.2.2.2.2.2.1) := by
    simp [qent, qcol, qCOLS, qfv, oShire, M0, xa, X1, aX, aL]
  rw [h1, h2]
  unfold LF
  rfl
set_option maxRecDepth 100000 in
theorem tP_20_5 {X : Cx} {q q2 : Nat} {u : T_Clay} {v : T_Mdl} : (LF X q q2 u v (e9X X q q2 u v))[129]? = some (aX q q2 u v 20 5, qent (X1 X q q2 u v) M0 20 5) := by
  have h1 : aX q q2 u v 20 5 = u.2.2.2.2.2.2.2.2.2.2.2.2.2.2.2.2.2.1.2.2.2.2.2.2.2.1 := by
    unfold aX aL
    rfl
  have h2 : qent (X1 X q q2 u v) M0 20 5 = .inr (6, oShire u.2.2.2.2.2.2.2.2.2.2.2.2.2.2.2.2.2.1.2.2.2.2.2.2.2.2.1) := by
    simp [qent, qcol, qCOLS, qfv, oShire, M0, xa, X1, aX, aL]
  rw [h1, h2]
  unfold LF
  rfl
set_option maxRecDepth 100000 in
theorem tP_20_6 {X : Cx} {q q2 : Nat} {u : T_Clay} {v : T_Mdl} : (LF X q q2 u v (e9X X q q2 u v))[141]? = some (aX q q2 u v 20 6, qent (X1 X q q2 u v) M0 20 6) := by
  have h1 : aX q q2 u v 20 6 = u.2.2.2.2.2.2.2.2.2.2.2.2.2.2.2.2.2.1.2.2.2.2.2.2.2.2.2.1 := by
    unfold aX aL
    rfl
  have h2 : qent (X1 X q q2 u v) M0 20 6 = .inr (6, oShire u.2.2.2.2.2.2.2.2.2.2.2.2.2.2.2.2.2.1.2.2.2.2.2.2.2.2.2.2.1) := by
    simp [qent, qcol, qCOLS, qfv, oShire, M0, xa, X1, aX, aL]
  rw [h1, h2]
  unfold LF
  rfl
def qTR0 : List (Nat × Nat × Nat) := [(0, 2, 0), (65, 3, 0), (83, 4, 0), (84, 5, 0), (85, 6, 0), (86, 7, 0), (91, 8, 0), (92, 9, 0), (165, 10, 0), (87, 11, 0), (89, 11, 1), (88, 12, 0), (90, 12, 1), (1, 20, 0), (13, 20, 1), (93, 20, 2), (105, 20, 3), (117, 20, 4), (129, 20, 5), (141, 20, 6)]
theorem aTR0 {X : Cx} {q q2 : Nat} {u : T_Clay} {v : T_Mdl} : ∀ t ∈ qTR0, (LF X q q2 u v (e9X X q q2 u v))[t.1]? = some (aX q q2 u v t.2.1 t.2.2, qent (X1 X q q2 u v) M0 t.2.1 t.2.2) := List.forall_mem_cons.mpr ⟨tP_2_0, List.forall_mem_cons.mpr ⟨tP_3_0, List.forall_mem_cons.mpr ⟨tP_4_0, List.forall_mem_cons.mpr ⟨tP_5_0, List.forall_mem_cons.mpr ⟨tP_6_0, List.forall_mem_cons.mpr ⟨tP_7_0, List.forall_mem_cons.mpr ⟨tP_8_0, List.forall_mem_cons.mpr ⟨tP_9_0, List.forall_mem_cons.mpr ⟨tP_10_0, List.forall_mem_cons.mpr ⟨tP_11_0, List.forall_mem_cons.mpr ⟨tP_11_1, List.forall_mem_cons.mpr ⟨tP_12_0, List.forall_mem_cons.mpr ⟨tP_12_1, List.forall_mem_cons.mpr ⟨tP_20_0, List.forall_mem_cons.mpr ⟨tP_20_1, List.forall_mem_cons.mpr ⟨tP_20_2, List.forall_mem_cons.mpr ⟨tP_20_3, List.forall_mem_cons.mpr ⟨tP_20_4, List.forall_mem_cons.mpr ⟨tP_20_5, List.forall_mem_cons.mpr ⟨tP_20_6, fun _ h => absurd h List.not_mem_nil⟩⟩⟩⟩⟩⟩⟩⟩⟩⟩⟩⟩⟩⟩⟩⟩⟩⟩⟩⟩
set_option maxRecDepth 100000 in
theorem tP_20_7 {X : Cx} {q q2 : Nat} {u : T_Clay} {v : T_Mdl} : (LF X q q2 u v (e9X X q q2 u v))[153]? = some (aX q q2 u v 20 7, qent (X1 X q q2 u v) M0 20 7) := by
  have h1 : aX q q2 u v 20 7 = u.2.2.2.2.2.2.2.2.2.2.2.2.2.2.2.2.2.1.2.2.2.2.2.2.2.2.2.2.2.1 := by
    unfold aX aL
    rfl
  have h2 : qent (X1 X q q2 u v) M0 20 7 = .inr (6, oShire u.2.2.2.2.2.2.2.2.2.2.2.2.2.2.2.2.2.1.2.2.2.2.2.2.2.2.2.2.2.2) := by
    simp [qent, qcol, qCOLS, qfv, oShire, M0, xa, X1, aX, aL]
  rw [h1, h2]
  unfold LF
  rfl
set_option maxRecDepth 100000 in
theorem tP_20_8 {X : Cx} {q q2 : Nat} {u : T_Clay} {v : T_Mdl} : (LF X q q2 u v (e9X X q q2 u v))[166]? = some (aX q q2 u v 20 8, qent (X1 X q q2 u v) M0 20 8) := by
  have h1 : aX q q2 u v 20 8 = u.2.2.2.2.2.2.2.2.2.2.2.2.2.2.2.2.2.2.2.1 := by
    unfold aX aL
    rfl
  have h2 : qent (X1 X q q2 u v) M0 20 8 = .inr (6, oShire u.2.2.2.2.2.2.2.2.2.2.2.2.2.2.2.2.2.2.2.2.1) := by
    simp [qent, qcol, qCOLS, qfv, oShire, M0, xa, X1, aX, aL]
  rw [h1, h2]
  unfold LF
  rfl
set_option maxRecDepth 100000 in
theorem tP_21_0 {X : Cx} {q q2 : Nat} {u : T_Clay} {v : T_Mdl} : (LF X q q2 u v (e9X X q q2 u v))[2]? = some (aX q q2 u v 21 0, qent (X1 X q q2 u v) M0 21 0) := by
  have h1 : aX q q2 u v 21 0 = u.2.1.1 := by
    unfold aX aL
    rfl
  have h2 : qent (X1 X q q2 u v) M0 21 0 = jar X 10 := by
    rfl
  rw [h1, h2]
  unfold LF
  rfl
set_option maxRecDepth 100000 in
theorem tP_21_1 {X : Cx} {q q2 : Nat} {u : T_Clay} {v : T_Mdl} : (LF X q q2 u v (e9X X q q2 u v))[14]? = some (aX q q2 u v 21 1, qent (X1 X q q2 u v) M0 21 1) := by
  have h1 : aX q q2 u v 21 1 = u.2.2.2.1.1 := by
    unfold aX aL
    rfl
  have h2 : qent (X1 X q q2 u v) M0 21 1 = jar X 10 := by
    rfl
  rw [h1, h2]
  unfold LF
  rfl
set_option maxRecDepth 100000 in
theorem tP_21_2 {X : Cx} {q q2 : Nat} {u : T_Clay} {v : T_Mdl} : (LF X q q2 u v (e9X X q q2 u v))[94]? = some (aX q q2 u v 21 2, qent (X1 X q q2 u v) M0 21 2) := by
  have h1 : aX q q2 u v 21 2 = u.2.2.2.2.2.2.2.2.2.2.2.2.2.2.2.2.2.1.2.2.1.1 := by
    unfold aX aL
    rfl
  have h2 : qent (X1 X q q2 u v) M0 21 2 = jar X 10 := by
    rfl
  rw [h1, h2]
  unfold LF
  rfl
set_option maxRecDepth 100000 in
theorem tP_21_3 {X : Cx} {q q2 : Nat} {u : T_Clay} {v : T_Mdl} : (LF X q q2 u v (e9X X q q2 u v))[106]? = some (aX q q2 u v 21 3, qent (X1 X q q2 u v) M0 21 3) := by
  have h1 : aX q q2 u v 21 3 = u.2.2.2.2.2.2.2.2.2.2.2.2.2.2.2.2.2.1.2.2.2.2.1.1 := by
    unfold aX aL
    rfl
  have h2 : qent (X1 X q q2 u v) M0 21 3 = jar X 10 := by
    rfl
  rw [h1, h2]
  unfold LF
  rfl
set_option maxRecDepth 100000 in
theorem tP_21_4 {X : Cx} {q q2 : Nat} {u : T_Clay} {v : T_Mdl} : (LF X q q2 u v (e9X X q q2 u v))[118]? = some (aX q q2 u v 21 4, qent (X1 X q q2 u v) M0 21 4) := by
  have h1 : aX q q2 u v 21 4 = u.2.2.2.2.2.2.2.2.2.2.2.2.2.2.2.2.2.1.2.2.2.2.2.2.1.1 := by
    unfold aX aL
    rfl
  have h2 : qent (X1 X q q2 u v) M0 21 4 = jar X 10 := by
    rfl
  rw [h1, h2]
  unfold LF
  rfl
set_option maxRecDepth 100000 in
theorem tP_21_5 {X : Cx} {q q2 : Nat} {u : T_Clay} {v : T_Mdl} : (LF X q q2 u v (e9X X q q2 u v))[130]? = some (aX q q2 u v 21 5, qent (X1 X q q2 u v) M0 21 5) := by
  have h1 : aX q q2 u v 21 5 = u.2.2.2.2.2.2.2.2.2.2.2.2.2.2.2.2.2.1.2.2.2.2.2.2.2.2.1.1 := by
    unfold aX aL
    rfl
  have h2 : qent (X1 X q q2 u v) M0 21 5 = jar X 10 := by
    rfl
  rw [h1, h2]
  unfold LF
  rfl
set_option maxRecDepth 100000 in
theorem tP_21_6 {X : Cx} {q q2 : Nat} {u : T_Clay} {v : T_Mdl} : (LF X q q2 u v (e9X X q q2 u v))[142]? = some (aX q q2 u v 21 6, qent (X1 X q q2 u v) M0 21 6) := by
  have h1 : aX q q2 u v 21 6 = u.2.2.2.2.2.2.2.2.2.2.2.2.2.2.2.2.2.1.2.2.2.2.2.2.2.2.2.2.1.1 := by
    unfold aX aL
    rfl
  have h2 : qent (X1 X q q2 u v) M0 21 6 = jar X 10 := by
    rfl
  rw [h1, h2]
  unfold LF
  rfl
set_option maxRecDepth 100000 in
theorem tP_21_7 {X : Cx} {q q2 : Nat} {u : T_Clay} {v : T_Mdl} : (LF X q q2 u v (e9X X q q2 u v))[154]? = some (aX q q2 u v 21 7, qent (X1 X q q2 u v) M0 21 7) := by
  have h1 : aX q q2 u v 21 7 = u.2.2.2.2.2.2.2.2.2.2.2.2.2.2.2.2.2.1.2.2.2.2.2.2.2.2.2.2.2.2.1 := by
    unfold aX aL
    rfl
  have h2 : qent (X1 X q q2 u v) M0 21 7 = jar X 10 := by
    rfl
  rw [h1, h2]
  unfold LF
  rfl
set_option maxRecDepth 100000 in
theorem tP_21_8 {X : Cx} {q q2 : Nat} {u : T_Clay} {v : T_Mdl} : (LF X q q2 u v (e9X X q q2 u v))[167]? = some (aX q q2 u v 21 8, qent (X1 X q q2 u v) M0 21 8) := by
  have h1 : aX q q2 u v 21 8 = u.2.2.2.2.2.2.2.2.2.2.2.2.2.2.2.2.2.2.2.2.1.1 := by
    unfold aX aL
    rfl
  have h2 : qent (X1 X q q2 u v) M0 21 8 = jar X 10 := by
    rfl
  rw [h1, h2]
  unfold LF
  rfl
set_option maxRecDepth 100000 in
theorem tP_22_0 {X : Cx} {q q2 : Nat} {u : T_Clay} {v : T_Mdl} : (LF X q q2 u v (e9X X q q2 u v))[3]? = some (aX q q2 u v 22 0, qent (X1 X q q2 u v) M0 22 0) := by
  have h1 : aX q q2 u v 22 0 = u.2.1.2.1 := by
    unfold aX aL
    rfl
  have h2 : qent (X1 X q q2 u v) M0 22 0 = jar X 10 := by
    rfl
  rw [h1, h2]
  unfold LF
  rfl
set_option maxRecDepth 100000 in
theorem tP_22_1 {X : Cx} {q q2 : Nat} {u : T_Clay} {v : T_Mdl} : (LF X q q2 u v (e9X X q q2 u v))[15]? = some (aX q q2 u v 22 1, qent (X1 X q q2 u v) M0 22 1) := by
  have h1 : aX q q2 u v 22 1 = u.2.2.2.1.2.1 := by
    unfold aX aL
    rfl
  have h2 : qent (X1 X q q2 u v) M0 22 1 = jar X 10 := by
    rfl
  rw [h1, h2]
  unfold LF
  rfl
set_option maxRecDepth 100000 in
theorem tP_22_2 {X : Cx} {q q2 : Nat} {u : T_Clay} {v : T_Mdl} : (LF X q q2 u v (e9X X q q2 u v))[95]? = some (aX q q2 u v 22 2, qent (X1 X q q2 u v) M0 22 2) := by
  have h1 : aX q q2 u v 22 2 = u.2.2.2.2.2.2.2.2.2.2.2.2.2.2.2.2.2.1.2.2.1.2.1 := by
    unfold aX aL
    rfl
  have h2 : qent (X1 X q q2 u v) M0 22 2 = jar X 10 := by
    rfl
  rw [h1, h2]
  unfold LF
  rfl
set_option maxRecDepth 100000 in
theorem tP_22_3 {X : Cx} {q q2 : Nat} {u : T_Clay} {v : T_Mdl} : (LF X q q2 u v (e9X X q q2 u v))[107]? = some (aX q q2 u v 22 3, qent (X1 X q q2 u v) M0 22 3) := by
  have h1 : aX q q2 u v 22 3 = u.2.2.2.2.2.2.2.2.2.2.2.2.2.2.2.2.2.1.2.2.2.2.1.2.1 := by
    unfold aX aL
    rfl
  have h2 : qent (X1 X q q2 u v) M0 22 3 = jar X 10 := by
    rfl
  rw [h1, h2]
  unfold LF
  rfl
set_option maxRecDepth 100000 in
theorem tP_22_4 {X : Cx} {q q2 : Nat} {u : T_Clay} {v : T_Mdl} : (LF X q q2 u v (e9X X q q2 u v))[119]? = some (aX q q2 u v 22 4, qent (X1 X q q2 u v) M0 22 4) := by
  have h1 : aX q q2 u v 22 4 = u.2.2.2.2.2.2.2.2.2.2.2.2.2.2.2.2.2.1.2.2.2.2.2.2.1.2.1 := by
    unfold aX aL
    rfl
  have h2 : qent (X1 X q q2 u v) M0 22 4 = jar X 10 := by
    rfl
  rw [h1, h2]
  unfold LF
  rfl
set_option maxRecDepth 100000 in
theorem tP_22_5 {X : Cx} {q q2 : Nat} {u : T_Clay} {v : T_Mdl} : (LF X q q2 u v (e9X X q q2 u v))[131]? = some (aX q q2 u v 22 5, qent (X1 X q q2 u v) M0 22 5) := by
  have h1 : aX q q2 u v 22 5 = u.2.2.2.2.2.2.2.2.2.2.2.2.2.2.2.2.2.1.2.2.2.2.2.2.2.2.1.2.1 := by
    unfold aX aL
    rfl
  have h2 : qent (X1 X q q2 u v) M0 22 5 = jar X 10 := by
    rfl
  rw [h1, h2]
  unfold LF
  rfl
set_option maxRecDepth 100000 in
theorem tP_22_6 {X : Cx} {q q2 : Nat} {u : T_Clay} {v : T_Mdl} : (LF X q q2 u v (e9X X q q2 u v))[143]? = some (aX q q2 u v 22 6, qent (X1 X q q2 u v) M0 22 6) := by
  have h1 : aX q q2 u v 22 6 = u.2.2.2.2.2.2.2.2.2.2.2.2.2.2.2.2.2.1.2.2.2.2.2.2.2.2.2.2.1.2.1 := by
    unfold aX aL
    rfl
  have h2 : qent (X1 X q q2 u v) M0 22 6 = jar X 10 := by
    rfl
  rw [h1, h2]
  unfold LF
  rfl
set_option maxRecDepth 100000 in
theorem tP_22_7 {X : Cx} {q q2 : Nat} {u : T_Clay} {v : T_Mdl} : (LF X q q2 u v (e9X X q q2 u v))[155]? = some (aX q q2 u v 22 7, qent (X1 X q q2 u v) M0 22 7) := by
  have h1 : aX q q2 u v 22 7 = u.2.2.2.2.2.2.2.2.2.2.2.2.2.2.2.2.2.1.2.2.2.2.2.2.2.2.2.2.2.2.2.1 := by
    unfold aX aL
    rfl
  have h2 : qent (X1 X q q2 u v) M0 22 7 = jar X 10 := by
    rfl
  rw [h1, h2]
  unfold LF
  rfl
set_option maxRecDepth 100000 in
theorem tP_22_8 {X : Cx} {q q2 : Nat} {u : T_Clay} {v : T_Mdl} : (LF X q q2 u v (e9X X q q2 u v))[168]? = some (aX q q2 u v 22 8, qent (X1 X q q2 u v) M0 22 8) := by
  have h1 : aX q q2 u v 22 8 = u.2.2.2.2.2.2.2.2.2.2.2.2.2.2.2.2.2.2.2.2.1.2.1 := by
    unfold aX aL
    rfl
  have h2 : qent (X1 X q q2 u v) M0 22 8 = jar X 10 := by
    rfl
  rw [h1, h2]
  unfold LF
  rfl
def qTR1 : List (Nat × Nat × Nat) := [(153, 20, 7), (166, 20, 8), (2, 21, 0), (14, 21, 1), (94, 21, 2), (106, 21, 3), (118, 21, 4), (130, 21, 5), (142, 21, 6), (154, 21, 7), (167, 21, 8), (3, 22, 0), (15, 22, 1), (95, 22, 2), (107, 22, 3), (119, 22, 4), (131, 22, 5), (143, 22, 6), (155, 22, 7), (168, 22, 8)]
theorem aTR1 {X : Cx} {q q2 : Nat} {u : T_Clay} {v : T_Mdl} : ∀ t ∈ qTR1, (LF X q q2 u v (e9X X q q2 u v))[t.1]? = some (aX q q2 u v t.2.1 t.2.2, qent (X1 X q q2 u v) M0 t.2.1 t.2.2) := List.forall_mem_cons.mpr ⟨tP_20_7, List.forall_mem_cons.mpr ⟨tP_20_8, List.forall_mem_cons.mpr ⟨tP_21_0, List.forall_mem_cons.mpr ⟨tP_21_1, List.forall_mem_cons.mpr ⟨tP_21_2, List.forall_mem_cons.mpr ⟨tP_21_3, List.forall_mem_cons.mpr ⟨tP_21_4, List.forall_mem_cons.mpr ⟨tP_21_5, List.forall_mem_cons.mpr ⟨tP_21_6, List.forall_mem_cons.mpr ⟨tP_21_7, List.forall_mem_cons.mpr ⟨tP_21_8, List.forall_mem_cons.mpr ⟨tP_22_0, List.forall_mem_cons.mpr ⟨tP_22_1, List.forall_mem_cons.mpr ⟨tP_22_2, List.forall_mem_cons.mpr ⟨tP_22_3, List.forall_mem_cons.mpr ⟨tP_22_4, List.forall_mem_cons.mpr ⟨tP_22_5, List.forall_mem_cons.mpr ⟨tP_22_6, List.forall_mem_cons.mpr ⟨tP_22_7, List.forall_mem_cons.mpr ⟨tP_22_8, fun _ h => absurd h List.not_mem_nil⟩⟩⟩⟩⟩⟩⟩⟩⟩⟩⟩⟩⟩⟩⟩⟩⟩⟩⟩⟩
set_option maxRecDepth 100000 in
theorem tP_23_0 {X : Cx} {q q2 : Nat} {u : T_Clay} {v : T_Mdl} : (LF X q q2 u v (e9X X q q2 u v))[4]? = some (aX q q2 u v 23 0, qent (X1 X q q2 u v) M0 23 0) := by
  have h1 : aX q q2 u v 23 0 = u.2.1.2.2.1 := by
    unfold aX aL
    rfl
  have h2 : qent (X1 X q q2 u v) M0 23 0 = jar X 8 := by
    rfl
  rw [h1, h2]
  unfold LF
  rfl
set_option maxRecDepth 100000 in
theorem tP_23_1 {X : Cx} {q q2 : Nat} {u : T_Clay} {v : T_Mdl} : (LF X q q2 u v (e9X X q q2 u v))[16]? = some (aX q q2 u v 23 1, qent (X1 X q q2 u v) M0 23 1) := by
  have h1 : aX q q2 u v 23 1 = u.2.2.2.1.2.2.1 := by
    unfold aX aL
    rfl
  have h2 : qent (X1 X q q2 u v) M0 23 1 = jar X 8 := by
    rfl
  rw [h1, h2]
  unfold LF
  rfl
set_option maxRecDepth 100000 in
theorem tP_23_2 {X : Cx} {q q2 : Nat} {u : T_Clay} {v : T_Mdl} : (LF X q q2 u v (e9X X q q2 u v))[96]? = some (aX q q2 u v 23 2, qent (X1 X q q2 u v) M0 23 2) := by
  have h1 : aX q q2 u v 23 2 = u.2.2.2.2.2.2.2.2.2.2.2.2.2.2.2.2.2.1.2.2.1.2.2.1 := by
    unfold aX aL
    rfl
  have h2 : qent (X1 X q q2 u v) M0 23 2 = jar X 8 := by
    rfl
  rw [h1, h2]
  unfold LF
  rfl
set_option maxRecDepth 100000 in
theorem tP_23_3 {X : Cx} {q q2 : Nat} {u : T_Clay} {v : T_Mdl} : (LF X q q2 u v (e9X X q q2 u v))[108]? = some (aX q q2 u v 23 3, qent (X1 X q q2 u v) M0 23 3) := by
  have h1 : aX q q2 u v 23 3 = u.2.2.2.2.2.2.2.2.2.2.2.2.2.2.2.2.2.1.2.2.2.2.1.2.2.1 := by
    unfold aX aL
    rfl
  have h2 : qent (X1 X q q2 u v) M0 23 3 = jar X 8 := by
    rfl
  rw [h1, h2]
  unfold LF
  rfl
set_option maxRecDepth 100000 in
theorem tP_23_4 {X : Cx} {q q2 : Nat} {u : T_Clay} {v : T_Mdl} : (LF X q q2 u v (e9X X q q2 u v))[120]? = some (aX q q2 u v 23 4, qent (X1 X q q2 u v) M0 23 4) := by
  have h1 : aX q q2 u v 23 4 = u.2.2.2.2.2.2.2.2.2.2.2.2.2.2.2.2.2.1.2.2.2.2.2.2.1.2.2.1 := by
    unfold aX aL
    rfl
  have h2 : qent (X1 X q q2 u v) M0 23 4 = jar X 8 := by
    rfl
  rw [h1, h2]
  unfold LF
  rfl
set_option maxRecDepth 100000 in
theorem tP_23_5 {X : Cx} {q q2 : Nat} {u : T_Clay} {v : T_Mdl} : (LF X q q2 u v (e9X X q q2 u v))[132]? = some (aX q q2 u v 23 5, qent (X1 X q q2 u v) M0 23 5) := by
  have h1 : aX q q2 u v 23 5 = u.2.2.2.2.2.2.2.2.2.2.2.2.2.2.2.2.2.1.2.2.2.2.2.2.2.2.1.2.2.1 := by
    unfold aX aL
    rfl
  have h2 : qent (X1 X q q2 u v) M0 23 5 = jar X 8 := by
    rfl
  rw [h1, h2]
  unfold LF
  rfl
set_option maxRecDepth 100000 in
theorem tP_23_6 {X : Cx} {q q2 : Nat} {u : T_Clay} {v : T_Mdl} : (LF X q q2 u v (e9X X q q2 u v))[144]? = some (aX q q2 u v 23 6, qent (X1 X q q2 u v) M0 23 6) := by
  have h1 : aX q q2 u v 23 6 = u.2.2.2.2.2.2.2.2.2.2.2.2.2.2.2.2.2.1.2.2.2.2.2.2.2.2.2.2.1.2.2.1 := by
    unfold aX aL
    rfl
  have h2 : qent (X1 X q q2 u v) M0 23 6 = jar X 8 := by
    rfl
  rw [h1, h2]
  unfold LF
  rfl
set_option maxRecDepth 100000 in
theorem tP_23_7 {X : Cx} {q q2 : Nat} {u : T_Clay} {v : T_Mdl} : (LF X q q2 u v (e9X X q q2 u v))[156]? = some (aX q q2 u v 23 7, qent (X1 X q q2 u v) M0 23 7) := by
  have h1 : aX q q2 u v 23 7 = u.2.2.2.2.2.2.2.2.2.2.2.2.2.2.2.2.2.1.2.2.2.2.2.2.2.2.2.2.2.2.2.2.1 := by
    unfold aX aL
    rfl
  have h2 : qent (X1 X q q2 u v) M0 23 7 = jar X 8 := by
    rfl
  rw [h1, h2]
  unfold LF
  rfl
set_option maxRecDepth 100000 in
theorem tP_23_8 {X : Cx} {q q2 : Nat} {u : T_Clay} {v : T_Mdl} : (LF X q q2 u v (e9X X q q2 u v))[169]? = some (aX q q2 u v 23 8, qent (X1 X q q2 u v) M0 23 8) := by
  have h1 : aX q q2 u v 23 8 = u.2.2.2.2.2.2.2.2.2.2.2.2.2.2.2.2.2.2.2.2.1.2.2.1 := by
    unfold aX aL
    rfl
  have h2 : qent (X1 X q q2 u v) M0 23 8 = jar X 8 := by
    rfl
  rw [h1, h2]
  unfold LF
  rfl
set_option maxRecDepth 100000 in
theorem tP_24_0 {X : Cx} {q q2 : Nat} {u : T_Clay} {v : T_Mdl} : (LF X q q2 u v (e9X X q q2 u v))[5]? = some (aX q q2 u v 24 0, qent (X1 X q q2 u v) M0 24 0) := by
  have h1 : aX q q2 u v 24 0 = u.2.1.2.2.2.1 := by
    unfold aX aL
    rfl
  have h2 : qent (X1 X q q2 u v) M0 24 0 = jar X 80 := by
    rfl
  rw [h1, h2]
  unfold LF
  rfl
set_option maxRecDepth 100000 in
theorem tP_24_1 {X : Cx} {q q2 : Nat} {u : T_Clay} {v : T_Mdl} : (LF X q q2 u v (e9X X q q2 u v))[17]? = some (aX q q2 u v 24 1, qent (X1 X q q2 u v) M0 24 1) := by
  have h1 : aX q q2 u v 24 1 = u.2.2.2.1.2.2.2.1 := by
    unfold aX aL
    rfl
  have h2 : qent (X1 X q q2 u v) M0 24 1 = jar X 80 := by
    rfl
  rw [h1, h2]
  unfold LF
  rfl
set_option maxRecDepth 100000 in
theorem tP_24_2 {X : Cx} {q q2 : Nat} {u : T_Clay} {v : T_Mdl} : (LF X q q2 u v (e9X X q q2 u v))[97]? = some (aX q q2 u v 24 2, qent (X1 X q q2 u v) M0 24 2) := by
  have h1 : aX q q2 u v 24 2 = u.2.2.2.2.2.2.2.2.2.2.2.2.2.2.2.2.2.1.2.2.1.2.2.2.1 := by
    unfold aX aL
    rfl
  have h2 : qent (X1 X q q2 u v) M0 24 2 = jar X 80 := by
    rfl
  rw [h1, h2]
  unfold LF
  rfl
set_option maxRecDepth 100000 in
theorem tP_24_3 {X : Cx} {q q2 : Nat} {u : T_Clay} {v : T_Mdl} : (LF X q q2 u v (e9X X q q2 u v))[109]? = some (aX q q2 u v 24 3, qent (X1 X q q2 u v) M0 24 3) := by
  have h1 : aX q q2 u v 24 3 = u.2.2.2.2.2.2.2.2.2.2.2.2.2.2.2.2.2.1.2.2.2.2.1.2.2.2.1 := by
    unfold aX aL
    rfl
  have h2 : qent (X1 X q q2 u v) M0 24 3 = jar X 80 := by
    rfl
  rw [h1, h2]
  unfold LF
  rfl
set_option maxRecDepth 100000 in
theorem tP_24_4 {X : Cx} {q q2 : Nat} {u : T_Clay} {v : T_Mdl} : (LF X q q2 u v (e9X X q q2 u v))[121]? = some (aX q q2 u v 24 4, qent (X1 X q q2 u v) M0 24 4) := by
  have h1 : aX q q2 u v 24 4 = u.2.2.2.2.2.2.2.2.2.2.2.2.2.2.2.2.2.1.2.2.2.2.2.2.1.2.2.2.1 := by
    unfold aX aL
    rfl
  have h2 : qent (X1 X q q2 u v) M0 24 4 = jar X 80 := by
    rfl
  rw [h1, h2]
  unfold LF
  rfl
set_option maxRecDepth 100000 in
theorem tP_24_5 {X : Cx} {q q2 : Nat} {u : T_Clay} {v : T_Mdl} : (LF X q q2 u v (e9X X q q2 u v))[133]? = some (aX q q2 u v 24 5, qent (X1 X q q2 u v) M0 24 5) := by
  have h1 : aX q q2 u v 24 5 = u.2.2.2.2.2.2.2.2.2.2.2.2.2.2.2.2.2.1.2.2.2.2.2.2.2.2.1.2.2.2.1 := by
    unfold aX aL
    rfl
  have h2 : qent (X1 X q q2 u v) M0 24 5 = jar X 80 := by
    rfl
  rw [h1, h2]
  unfold LF
  rfl
set_option maxRecDepth 100000 in
theorem tP_24_6 {X : Cx} {q q2 : Nat} {u : T_Clay} {v : T_Mdl} : (LF X q q2 u v (e9X X q q2 u v))[145]? = some (aX q q2 u v 24 6, qent (X1 X q q2 u v) M0 24 6) := by
  have h1 : aX q q2 u v 24 6 = u.2.2.2.2.2.2.2.2.2.2.2.2.2.2.2.2.2.1.2.2.2.2.2.2.2.2.2.2.1.2.2.2.1 := by
    unfold aX aL
    rfl
  have h2 : qent (X1 X q q2 u v) M0 24 6 = jar X 80 := by
    rfl
  rw [h1, h2]
  unfold LF
  rfl
set_option maxRecDepth 100000 in
theorem tP_24_7 {X : Cx} {q q2 : Nat} {u : T_Clay} {v : T_Mdl} : (LF X q q2 u v (e9X X q q2 u v))[157]? = some (aX q q2 u v 24 7, qent (X1 X q q2 u v) M0 24 7) := by
  have h1 : aX q q2 u v 24 7 = u.2.2.2.2.2.2.2.2.2.2.2.2.2.2.2.2.2.1.2.2.2.2.2.2.2.2.2.2.2.2.2.2.2.1 := by
    unfold aX aL
    rfl
  have h2 : qent (X1 X q q2 u v) M0 24 7 = jar X 80 := by
    rfl
  rw [h1, h2]
  unfold LF
  rfl
set_option maxRecDepth 100000 in
theorem tP_24_8 {X : Cx} {q q2 : Nat} {u : T_Clay} {v : T_Mdl} : (LF X q q2 u v (e9X X q q2 u v))[170]? = some (aX q q2 u v 24 8, qent (X1 X q q2 u v) M0 24 8) := by
  have h1 : aX q q2 u v 24 8 = u.2.2.2.2.2.2.2.2.2.2.2.2.2.2.2.2.2.2.2.2.1.2.2.2.1 := by
    unfold aX aL
    rfl
  have h2 : qent (X1 X q q2 u v) M0 24 8 = jar X 80 := by
    rfl
  rw [h1, h2]
  unfold LF
  rfl
set_option maxRecDepth 100000 in
theorem tP_25_0 {X : Cx} {q q2 : Nat} {u : T_Clay} {v : T_Mdl} : (LF X q q2 u v (e9X X q q2 u v))[6]? = some (aX q q2 u v 25 0, qent (X1 X q q2 u v) M0 25 0) := by
  have h1 : aX q q2 u v 25 0 = u.2.1.2.2.2.2.1 := by
    unfold aX aL
    rfl
  have h2 : qent (X1 X q q2 u v) M0 25 0 = jar X 12 := by
    rfl
  rw [h1, h2]
  unfold LF
  rfl
set_option maxRecDepth 100000 in
theorem tP_25_1 {X : Cx} {q q2 : Nat} {u : T_Clay} {v : T_Mdl} : (LF X q q2 u v (e9X X q q2 u v))[18]? = some (aX q q2 u v 25 1, qent (X1 X q q2 u v) M0 25 1) := by
  have h1 : aX q q2 u v 25 1 = u.2.2.2.1.2.2.2.2.1 := by
    unfold aX aL
    rfl
  have h2 : qent (X1 X q q2 u v) M0 25 1 = jar X 12 := by
    rfl
  rw [h1, h2]
  unfold LF
  rfl
def qTR2 : List (Nat × Nat × Nat) := [(4, 23, 0), (16, 23, 1), (96, 23, 2), (108, 23, 3), (120, 23, 4), (132, 23, 5), (144, 23, 6), (156, 23, 7), (169, 23, 8), (5, 24, 0), (17, 24, 1), (97, 24, 2), (109, 24, 3), (121, 24, 4), (133, 24, 5), (145, 24, 6), (157, 24, 7), (170, 24, 8), (6, 25, 0), (18, 25, 1)]
theorem aTR2 {X : Cx} {q q2 : Nat} {u : T_Clay} {v : T_Mdl} : ∀ t ∈ qTR2, (LF X q q2 u v (e9X X q q2 u v))[t.1]? = some (aX q q2 u v t.2.1 t.2.2, qent (X1 X q q2 u v) M0 t.2.1 t.2.2) := List.forall_mem_cons.mpr ⟨tP_23_0, List.forall_mem_cons.mpr ⟨tP_23_1, List.forall_mem_cons.mpr ⟨tP_23_2, List.forall_mem_cons.mpr ⟨tP_23_3, List.forall_mem_cons.mpr ⟨tP_23_4, List.forall_mem_cons.mpr ⟨tP_23_5, List.forall_mem_cons.mpr ⟨tP_23_6, List.forall_mem_cons.mpr ⟨tP_23_7, List.forall_mem_cons.mpr ⟨tP_23_8, List.forall_mem_cons.mpr ⟨tP_24_0, List.forall_mem_cons.mpr ⟨tP_24_1, List.forall_mem_cons.mpr ⟨tP_24_2, List.forall_mem_cons.mpr ⟨tP_24_3, List.forall_mem_cons.mpr ⟨tP_24_4, List.forall_mem_cons.mpr ⟨tP_24_5, List.forall_mem_cons.mpr ⟨tP_24_6, List.forall_mem_cons.mpr ⟨tP_24_7, List.forall_mem_cons.mpr ⟨tP_24_8, List.forall_mem_cons.mpr ⟨tP_25_0, List.forall_mem_cons.mpr ⟨tP_25_1, fun _ h => absurd h List.not_mem_nil⟩⟩⟩⟩⟩⟩⟩⟩⟩⟩⟩⟩⟩⟩⟩⟩⟩⟩⟩⟩
set_option maxRecDepth 100000 in
theorem tP_25_2 {X : Cx} {q q2 : Nat} {u : T_Clay} {v : T_Mdl} : (LF X q q2 u v (e9X X q q2 u v))[98]? = some (aX q q2 u v 25 2, qent (X1 X q q2 u v) M0 25 2) := by
  have h1 : aX q q2 u v 25 2 = u.2.2.2.2.2.2.2.2.2.2.2.2.2.2.2.2.2.1.2.2.1.2.2.2.2.1 := by
    unfold aX aL
    rfl
  have h2 : qent (X1 X q q2 u v) M0 25 2 = jar X 12 := by
    rfl
  rw [h1, h2]
  unfold LF
  rfl
set_option maxRecDepth 100000 in
theorem tP_25_3 {X : Cx} {q q2 : Nat} {u : T_Clay} {v : T_Mdl} : (LF X q q2 u v (e9X X q q2 u v))[110]? = some (aX q q2 u v 25 3, qent (X1 X q q2 u v) M0 25 3) := by
  have h1 : aX q q2 u v 25 3 = u.2.2.2.2.2.2.2.2.2.2.2.2.2.2.2.2.2.1.2.2.2.2.1.2.2.2.2.1 := by
    unfold aX aL
    rfl
  have h2 : qent (X1 X q q2 u v) M0 25 3 = jar X 12 := by
    rfl
  rw [h1, h2]
  unfold LF
  rfl
set_option maxRecDepth 100000 in
theorem tP_25_4 {X : Cx} {q q2 : Nat} {u : T_Clay} {v : T_Mdl} : (LF X q q2 u v (e9X X q q2 u v))[122]? = some (aX q q2 u v 25 4, qent (X1 X q q2 u v) M0 25 4) := by
  have h1 : aX q q2 u v 25 4 = u.2.2.2.2.2.2.2.2.2.2.2.2.2.2.2.2.2.1.2.2.2.2.2.2.1.2.2.2.2.1 := by
    unfold aX aL
    rfl
  have h2 : qent (X1 X q q2 u v) M0 25 4 = jar X 12 := by
    rfl
  rw [h1, h2]
  unfold LF
  rfl
set_option maxRecDepth 100000 in
theorem tP_25_5 {X : Cx} {q q2 : Nat} {u : T_Clay} {v : T_Mdl} : (LF X q q2 u v (e9X X q q2 u v))[134]? = some (aX q q2 u v 25 5, qent (X1 X q q2 u v) M0 25 5) := by
  have h1 : aX q q2 u v 25 5 = u.2.2.2.2.2.2.2.2.2.2.2.2.2.2.2.2.2.1.2.2.2.2.2.2.2.2.1.2.2.2.2.1 := by
    unfold aX aL
    rfl
  have h2 : qent (X1 X q q2 u v) M0 25 5 = jar X 12 := by
    rfl
  rw [h1, h2]
  unfold LF
  rfl
set_option maxRecDepth 100000 in
theorem tP_25_6 {X : Cx} {q q2 : Nat} {u : T_Clay} {v : T_Mdl} : (LF X q q2 u v (e9X X q q2 u v))[146]? = some (aX q q2 u v 25 6, qent (X1 X q q2 u v) M0 25 6) := by
  have h1 : aX q q2 u v 25 6 = u.2.2.2.2.2.2.2.2.2.2.2.2.2.2.2.2.2.1.2.2.2.2.2.2.2.2.2.2.1.2.2.2.2.1 := by
    unfold aX aL
    rfl
  have h2 : qent (X1 X q q2 u v) M0 25 6 = jar X 12 := by
    rfl
  rw [h1, h2]
  unfold LF
  rfl
set_option maxRecDepth 100000 in
theorem tP_25_7 {X : Cx} {q q2 : Nat} {u : T_Clay} {v : T_Mdl} : (LF X q q2 u v (e9X X q q2 u v))[158]? = some (aX q q2 u v 25 7, qent (X1 X q q2 u v) M0 25 7) := by
  have h1 : aX q q2 u v 25 7 = u.2.2.2.2.2.2.2.2.2.2.2.2.2.2.2.2.2.1.2.2.2.2.2.2.2.2.2.2.2.2.2.2.2.2.1 := by
    unfold aX aL
    rfl
  have h2 : qent (X1 X q q2 u v) M0 25 7 = jar X 12 := by
    rfl
  rw [h1, h2]
  unfold LF
  rfl
set_option maxRecDepth 100000 in
theorem tP_25_8 {X : Cx} {q q2 : Nat} {u : T_Clay} {v : T_Mdl} : (LF X q q2 u v (e9X X q q2 u v))[171]? = some (aX q q2 u v 25 8, qent (X1 X q q2 u v) M0 25 8) := by
  have h1 : aX q q2 u v 25 8 = u.2.2.2.2.2.2.2.2.2.2.2.2.2.2.2.2.2.2.2.2.1.2.2.2.2.1 := by
    unfold aX aL
    rfl
  have h2 : qent (X1 X q q2 u v) M0 25 8 = jar X 12 := by
    rfl
  rw [h1, h2]
  unfold LF
  rfl
set_option maxRecDepth 100000 in
theorem tP_26_0 {X : Cx} {q q2 : Nat} {u : T_Clay} {v : T_Mdl} : (LF X q q2 u v (e9X X q q2 u v))[7]? = some (aX q q2 u v 26 0, qent (X1 X q q2 u v) M0 26 0) := by
  have h1 : aX q q2 u v 26 0 = u.2.1.2.2.2.2.2.1 := by
    unfold aX aL
    rfl
  have h2 : qent (X1 X q q2 u v) M0 26 0 = jar X 12 := by
    rfl
  rw [h1, h2]
  unfold LF
  rfl
set_option maxRecDepth 100000 in
theorem tP_26_1 {X : Cx} {q q2 : Nat} {u : T_Clay} {v : T_Mdl} : (LF X q q2 u v (e9X X q q2 u v))[19]? = some (aX q q2 u v 26 1, qent (X1 X q q2 u v) M0 26 1) := by
  have h1 : aX q q2 u v 26 1 = u.2.2.2.1.2.2.2.2.2.1 := by
    unfold aX aL
    rfl
  have h2 : qent (X1 X q q2 u v) M0 26 1 = jar X 12 := by
    rfl
  rw [h1, h2]
  unfold LF
  rfl
set_option maxRecDepth 100000 in
theorem tP_26_2 {X : Cx} {q q2 : Nat} {u : T_Clay} {v : T_Mdl} : (LF X q q2 u v (e9X X q q2 u v))[99]? = some (aX q q2 u v 26 2, qent (X1 X q q2 u v) M0 26 2) := by
  have h1 : aX q q2 u v 26 2 = u.2.2.2.2.2.2.2.2.2.2.2.2.2.2.2.2.2.1.2.2.1.2.2.2.2.2.1 := by
    unfold aX aL
    rfl
  have h2 : qent (X1 X q q2 u v) M0 26 2 = jar X 12 := by
    rfl
  rw [h1, h2]
  unfold LF
  rfl
set_option maxRecDepth 100000 in
theorem tP_26_3 {X : Cx} {q q2 : Nat} {u : T_Clay} {v : T_Mdl} : (LF X q q2 u v (e9X X q q2 u v))[111]? = some (aX q q2 u v 26 3, qent (X1 X q q2 u v) M0 26 3) := by
  have h1 : aX q q2 u v 26 3 = u.2.2.2.2.2.2.2.2.2.2.2.2.2.2.2.2.2.1.2.2.2.2.1.2.2.2.2.2.1 := by
    unfold aX aL
    rfl
  have h2 : qent (X1 X q q2 u v) M0 26 3 = jar X 12 := by
    rfl
  rw [h1, h2]
  unfold LF
  rfl
set_option maxRecDepth 100000 in
theorem tP_26_4 {X : Cx} {q q2 : Nat} {u : T_Clay} {v : T_Mdl} : (LF X q q2 u v (e9X X q q2 u v))[123]? = some (aX q q2 u v 26 4, qent (X1 X q q2 u v) M0 26 4) := by
  have h1 : aX q q2 u v 26 4 = u.2.2.2.2.2.2.2.2.2.2.2.2.2.2.2.2.2.1.2.2.2.2.2.2.1.2.2.2.2.2.1 := by
    unfold aX aL
    rfl
  have h2 : qent (X1 X q q2 u v) M0 26 4 = jar X 12 := by
    rfl
  rw [h1, h2]
  unfold LF
  rfl
set_option maxRecDepth 100000 in
theorem tP_26_5 {X : Cx} {q q2 : Nat} {u : T_Clay} {v : T_Mdl} : (LF X q q2 u v (e9X X q q2 u v))[135]? = some (aX q q2 u v 26 5, qent (X1 X q q2 u v) M0 26 5) := by
  have h1 : aX q q2 u v 26 5 = u.2.2.2.2.2.2.2.2.2.2.2.2.2.2.2.2.2.1.2.2.2.2.2.2.2.2.1.2.2.2.2.2.1 := by
    unfold aX aL
    rfl
  have h2 : qent (X1 X q q2 u v) M0 26 5 = jar X 12 := by
    rfl
  rw [h1, h2]
  unfold LF
  rfl
set_option maxRecDepth 100000 in
theorem tP_26_6 {X : Cx} {q q2 : Nat} {u : T_Clay} {v : T_Mdl} : (LF X q q2 u v (e9X X q q2 u v))[147]? = some (aX q q2 u v 26 6, qent (X1 X q q2 u v) M0 26 6) := by
  have h1 : aX q q2 u v 26 6 = u.2.2.2.2.2.2.2.2.2.2.2.2.2.2.2.2.2.1.2.2.2.2.2.2.2.2.2.2.1.2.2.2.2.2.1 := by
    unfold aX aL
    rfl
  have h2 : qent (X1 X q q2 u v) M0 26 6 = jar X 12 := by
    rfl
  rw [h1, h2]
  unfold LF
  rfl
set_option maxRecDepth 100000 in
theorem tP_26_7 {X : Cx} {q q2 : Nat} {u : T_Clay} {v : T_Mdl} : (LF X q q2 u v (e9X X q q2 u v))[159]? = some (aX q q2 u v 26 7, qent (X1 X q q2 u v) M0 26 7) := by
  have h1 : aX q q2 u v 26 7 = u.2.2.2.2.2.2.2.2.2.2.2.2.2.2.2.2.2.1.2.2.2.2.2.2.2.2.2.2.2.2.2.2.2.2.2.1 := by
    unfold aX aL
    rfl
  have h2 : qent (X1 X q q2 u v) M0 26 7 = jar X 12 := by
    rfl
  rw [h1, h2]
  unfold LF
  rfl
set_option maxRecDepth 100000 in
theorem tP_26_8 {X : Cx} {q q2 : Nat} {u : T_Clay} {v : T_Mdl} : (LF X q q2 u v (e9X X q q2 u v))[172]? = some (aX q q2 u v 26 8, qent (X1 X q q2 u v) M0 26 8) := by
  have h1 : aX q q2 u v 26 8 = u.2.2.2.2.2.2.2.2.2.2.2.2.2.2.2.2.2.2.2.2.1.2.2.2.2.2.1 := by
    unfold aX aL
    rfl
  have h2 : qent (X1 X q q2 u v) M0 26 8 = jar X 12 := by
    rfl
  rw [h1, h2]
  unfold LF
  rfl
set_option maxRecDepth 100000 in
theorem tP_27_0 {X : Cx} {q q2 : Nat} {u : T_Clay} {v : T_Mdl} : (LF X q q2 u v (e9X X q q2 u v))[8]? = some (aX q q2 u v 27 0, qent (X1 X q q2 u v) M0 27 0) := by
  have h1 : aX q q2 u v 27 0 = u.2.1.2.2.2.2.2.2.1 := by
    unfold aX aL
    rfl
  have h2 : qent (X1 X q q2 u v) M0 27 0 = jar X 12 := by
    rfl
  rw [h1, h2]
  unfold LF
  rfl
set_option maxRecDepth 100000 in
theorem tP_27_1 {X : Cx} {q q2 : Nat} {u : T_Clay} {v : T_Mdl} : (LF X q q2 u v (e9X X q q2 u v))[20]? = some (aX q q2 u v 27 1, qent (X1 X q q2 u v) M0 27 1) := by
  have h1 : aX q q2 u v 27 1 = u.2.2.2.1.2.2.2.2.2.2.1 := by
    unfold aX aL
    rfl
  have h2 : qent (X1 X q q2 u v) M0 27 1 = jar X 12 := by
    rfl
  rw [h1, h2]
  unfold LF
  rfl
set_option maxRecDepth 100000 in
theorem tP_27_2 {X : Cx} {q q2 : Nat} {u : T_Clay} {v : T_Mdl} : (LF X q q2 u v (e9X X q q2 u v))[100]? = some (aX q q2 u v 27 2, qent (X1 X q q2 u v) M0 27 2) := by
  have h1 : aX q q2 u v 27 2 = u.2.2.2.2.2.2.2.2.2.2.2.2.2.2.2.2.2.1.2.2.1.2.2.2.2.2.2.1 := by
    unfold aX aL
    rfl
  have h2 : qent (X1 X q q2 u v) M0 27 2 = jar X 12 := by
    rfl
  rw [h1, h2]
  unfold LF
  rfl
set_option maxRecDepth 100000 in
theorem tP_27_3 {X : Cx} {q q2 : Nat} {u : T_Clay} {v : T_Mdl} : (LF X q q2 u v (e9X X q q2 u v))[112]? = some (aX q q2 u v 27 3, qent (X1 X q q2 u v) M0 27 3) := by
  have h1 : aX q q2 u v 27 3 = u.2.2.2.2.2.2.2.2.2.2.2.2.2.2.2.2.2.1.2.2.2.2.1.2.2.2.2.2.2.1 := by
    unfold aX aL
    rfl
  have h2 : qent (X1 X q q2 u v) M0 27 3 = jar X 12 := by
    rfl
  rw [h1, h2]
  unfold LF
  rfl
def qTR3 : List (Nat × Nat × Nat) := [(98, 25, 2), (110, 25, 3), (122, 25, 4), (134, 25, 5), (146, 25, 6), (158, 25, 7), (171, 25, 8), (7, 26, 0), (19, 26, 1), (99, 26, 2), (111, 26, 3), (123, 26, 4), (135, 26, 5), (147, 26, 6), (159, 26, 7), (172, 26, 8), (8, 27, 0), (20, 27, 1), (100, 27, 2), (112, 27, 3)]
theorem aTR3 {X : Cx} {q q2 : Nat} {u : T_Clay} {v : T_Mdl} : ∀ t ∈ qTR3, (LF X q q2 u v (e9X X q q2 u v))[t.1]? = some (aX q q2 u v t.2.1 t.2.2, qent (X1 X q q2 u v) M0 t.2.1 t.2.2) := List.forall_mem_cons.mpr ⟨tP_25_2, List.forall_mem_cons.mpr ⟨tP_25_3, List.forall_mem_cons.mpr ⟨tP_25_4, List.forall_mem_cons.mpr ⟨tP_25_5, List.forall_mem_cons.mpr ⟨tP_25_6, List.forall_mem_cons.mpr ⟨tP_25_7, List.forall_mem_cons.mpr ⟨tP_25_8, List.forall_mem_cons.mpr ⟨tP_26_0, List.forall_mem_cons.mpr ⟨tP_26_1, List.forall_mem_cons.mpr ⟨tP_26_2, List.forall_mem_cons.mpr ⟨tP_26_3, List.forall_mem_cons.mpr ⟨tP_26_4, List.forall_mem_cons.mpr ⟨tP_26_5, List.forall_mem_cons.mpr ⟨tP_26_6, List.forall_mem_cons.mpr ⟨tP_26_7, List.forall_mem_cons.mpr ⟨tP_26_8, List.forall_mem_cons.mpr ⟨tP_27_0, List.forall_mem_cons.mpr ⟨tP_27_1, List.forall_mem_cons.mpr ⟨tP_27_2, List.forall_mem_cons.mpr ⟨tP_27_3, fun _ h => absurd h List.not_mem_nil⟩⟩⟩⟩⟩⟩⟩⟩⟩⟩⟩⟩⟩⟩⟩⟩⟩⟩⟩⟩
set_option maxRecDepth 100000 in
theorem tP_27_4 {X : Cx} {q q2 : Nat} {u : T_Clay} {v : T_Mdl} : (LF X q q2 u v (e9X X q q2 u v))[124]? = some (aX q q2 u v 27 4, qent (X1 X q q2 u v) M0 27 4) := by
  have h1 : aX q q2 u v 27 4 = u.2.2.2.2.2.2.2.2.2.2.2.2.2.2.2.2.2.1.2.2.2.2.2.2.1.2.2.2.2.2.2.1 := by
    unfold aX aL
    rfl
  have h2 : qent (X1 X q q2 u v) M0 27 4 = jar X 12 := by
    rfl
  rw [h1, h2]
  unfold LF
  rfl
set_option maxRecDepth 100000 in
theorem tP_27_5 {X : Cx} {q q2 : Nat} {u : T_Clay} {v : T_Mdl} : (LF X q q2 u v (e9X X q q2 u v))[136]? = some (aX q q2 u v 27 5, qent (X1 X q q2 u v) M0 27 5) := by
  have h1 : aX q q2 u v 27 5 = u.2.2.2.2.2.2.2.2.2.2.2.2.2.2.2.2.2.1.2.2.2.2.2.2.2.2.1.2.2.2.2.2.2.1 := by
    unfold aX aL
    rfl
  have h2 : qent (X1 X q q2 u v) M0 27 5 = jar X 12 := by
    rfl
  rw [h1, h2]
  unfold LF
  rfl
set_option maxRecDepth 100000 in
theorem tP_27_6 {X : Cx} {q q2 : Nat} {u : T_Clay} {v : T_Mdl} : (LF X q q2 u v (e9X X q q2 u v))[148]? = some (aX q q2 u v 27 6, qent (X1 X q q2 u v) M0 27 6) := by
  have h1 : aX q q2 u v 27 6 = u.2.2.2.2.2.2.2.2.2.2.2.2.2.2.2.2.2.1.2.2.2.2.2.2.2.2.2.2.1.2.2.2.2.2.2.1 := by
    unfold aX aL
    rfl
  have h2 : qent (X1 X q q2 u v) M0 27 6 = jar X 12 := by
    rfl
  rw [h1, h2]
  unfold LF
  rfl
set_option maxRecDepth 100000 in
theorem tP_27_7 {X : Cx} {q q2 : Nat} {u : T_Clay} {v : T_Mdl} : (LF X q q2 u v (e9X X q q2 u v))[160]? = some (aX q q2 u v 27 7, qent (X1 X q q2 u v) M0 27 7) := by
  have h1 : aX q q2 u v 27 7 = u.2.2.2.2.2.2.2.2.2.2.2.2.2.2.2.2.2.1.2.2.2.2.2.2.2.2.2.2.2.2.2.2.2.2.2.2.1 := by
    unfold aX aL
    rfl
  have h2 : qent (X1 X q q2 u v) M0 27 7 = jar X 12 := by
    rfl
  rw [h1, h2]
  unfold LF
  rfl
set_option maxRecDepth 100000 in
theorem tP_27_8 {X : Cx} {q q2 : Nat} {u : T_Clay} {v : T_Mdl} : (LF X q q2 u v (e9X X q q2 u v))[173]? = some (aX q q2 u v 27 8, qent (X1 X q q2 u v) M0 27 8) := by
  have h1 : aX q q2 u v 27 8 = u.2.2.2.2.2.2.2.2.2.2.2.2.2.2.2.2.2.2.2.2.1.2.2.2.2.2.2.1 := by
    unfold aX aL
    rfl
  have h2 : qent (X1 X q q2 u v) M0 27 8 = jar X 12 := by
    rfl
  rw [h1, h2]
  unfold LF
  rfl
set_option maxRecDepth 100000 in
theorem tP_28_0 {X : Cx} {q q2 : Nat} {u : T_Clay} {v : T_Mdl} : (LF X q q2 u v (e9X X q q2 u v))[9]? = some (aX q q2 u v 28 0, qent (X1 X q q2 u v) M0 28 0) := by
  have h1 : aX q q2 u v 28 0 = u.2.1.2.2.2.2.2.2.2.1 := by
    unfold aX aL
    rfl
  have h2 : qent (X1 X q q2 u v) M0 28 0 = jar X 12 := by
    rfl
  rw [h1, h2]
  unfold LF
  rfl
set_option maxRecDepth 100000 in
theorem tP_28_1 {X : Cx} {q q2 : Nat} {u : T_Clay} {v : T_Mdl} : (LF X q q2 u v (e9X X q q2 u v))[21]? = some (aX q q2 u v 28 1, qent (X1 X q q2 u v) M0 28 1) := by
  have h1 : aX q q2 u v 28 1 = u.2.2.2.1.2.2.2.2.2.2.2.1 := by
    unfold aX aL
    rfl
  have h2 : qent (X1 X q q2 u v) M0 28 1 = jar X 12 := by
    rfl
  rw [h1, h2]
  unfold LF
  rfl
set_option maxRecDepth 100000 in
theorem tP_28_2 {X : Cx} {q q2 : Nat} {u : T_Clay} {v : T_Mdl} : (LF X q q2 u v (e9X X q q2 u v))[101]? = some (aX q q2 u v 28 2, qent (X1 X q q2 u v) M0 28 2) := by
  have h1 : aX q q2 u v 28 2 = u.2.2.2.2.2.2.2.2.2.2.2.2.2.2.2.2.2.1.2.2.1.2.2.2.2.2.2.2.1 := by
    unfold aX aL
    rfl
  have h2 : qent (X1 X q q2 u v) M0 28 2 = jar X 12 := by
    rfl
  rw [h1, h2]
  unfold LF
  rfl
set_option maxRecDepth 100000 in
theorem tP_28_3 {X : Cx} {q q2 : Nat} {u : T_Clay} {v : T_Mdl} : (LF X q q2 u v (e9X X q q2 u v))[113]? = some (aX q q2 u v 28 3, qent (X1 X q q2 u v) M0 28 3) := by
  have h1 : aX q q2 u v 28 3 = u.2.2.2.2.2.2.2.2.2.2.2.2.2.2.2.2.2.1.2.2.2.2.1.2.2.2.2.2.2.2.1 := by
    unfold aX aL
    rfl
  have h2 : qent (X1 X q q2 u v) M0 28 3 = jar X 12 := by
    rfl
  rw [h1, h2]
  unfold LF
  rfl
set_option maxRecDepth 100000 in
theorem tP_28_4 {X : Cx} {q q2 : Nat} {u : T_Clay} {v : T_Mdl} : (LF X q q2 u v (e9X X q q2 u v))[125]? = some (aX q q2 u v 28 4, qent (X1 X q q2 u v) M0 28 4) := by
  have h1 : aX q q2 u v 28 4 = u.2.2.2.2.2.2.2.2.2.2.2.2.2.2.2.2.2.1.2.2.2.2.2.2.1.2.2.2.2.2.2.2.1 := by
    unfold aX aL
    rfl
  have h2 : qent (X1 X q q2 u v) M0 28 4 = jar X 12 := by
    rfl
  rw [h1, h2]
  unfold LF
  rfl
set_option maxRecDepth 100000 in
theorem tP_28_5 {X : Cx} {q q2 : Nat} {u : T_Clay} {v : T_Mdl} : (LF X q q2 u v (e9X X q q2 u v))[137]? = some (aX q q2 u v 28 5, qent (X1 X q q2 u v) M0 28 5) := by
  have h1 : aX q q2 u v 28 5 = u.2.2.2.2.2.2.2.2.2.2.2.2.2.2.2.2.2.1.2.2.2.2.2.2.2.2.1.2.2.2.2.2.2.2.1 := by
    unfold aX aL
    rfl
  have h2 : qent (X1 X q q2 u v) M0 28 5 = jar X 12 := by
    rfl
  rw [h1, h2]
  unfold LF
  rfl
set_option maxRecDepth 100000 in
theorem tP_28_6 {X : Cx} {q q2 : Nat} {u : T_Clay} {v : T_Mdl} : (LF X q q2 u v (e9X X q q2 u v))[149]? = some (aX q q2 u v 28 6, qent (X1 X q q2 u v) M0 28 6) := by
  have h1 : aX q q2 u v 28 6 = u.2.2.2.2.2.2.2.2.2.2.2.2.2.2.2.2.2.1.2.2.2.2.2.2.2.2.2.2.1.2.2.2.2.2.2.2.1 := by
    unfold aX aL
    rfl
  have h2 : qent (X1 X q q2 u v) M0 28 6 = jar X 12 := by
    rfl
  rw [h1, h2]
  unfold LF
  rfl
set_option maxRecDepth 100000 in
theorem tP_28_7 {X : Cx} {q q2 : Nat} {u : T_Clay} {v : T_Mdl} : (LF X q q2 u v (e9X X q q2 u v))[161]? = some (aX q q2 u v 28 7, qent (X1 X q q2 u v) M0 28 7) := by
  have h1 : aX q q2 u v 28 7 = u.2.2.2.2.2.2.2.2.2.2.2.2.2.2.2.2.2.1.2.2.2.2.2.2.2.2.2.2.2.2.2.2.2.2.2.2.2.1 := by
    unfold aX aL
    rfl
  have h2 : qent (X1 X q q2 u v) M0 28 7 = jar X 12 := by
    rfl
  rw [h1, h2]
  unfold LF
  rfl
set_option maxRecDepth 100000 in
theorem tP_28_8 {X : Cx} {q q2 : Nat} {u : T_Clay} {v : T_Mdl} : (LF X q q2 u v (e9X X q q2 u v))[174]? = some (aX q q2 u v 28 8, qent (X1 X q q2 u v) M0 28 8) := by
  have h1 : aX q q2 u v 28 8 = u.2.2.2.2.2.2.2.2.2.2.2.2.2.2.2.2.2.2.2.2.1.2.2.2.2.2.2.2.1 := by
    unfold aX aL
    rfl
  have h2 : qent (X1 X q q2 u v) M0 28 8 = jar X 12 := by
    rfl
  rw [h1, h2]
  unfold LF
  rfl
set_option maxRecDepth 100000 in
theorem tP_29_0 {X : Cx} {q q2 : Nat} {u : T_Clay} {v : T_Mdl} : (LF X q q2 u v (e9X X q q2 u v))[10]? = some (aX q q2 u v 29 0, qent (X1 X q q2 u v) M0 29 0) := by
  have h1 : aX q q2 u v 29 0 = u.2.1.2.2.2.2.2.2.2.2.1 := by
    unfold aX aL
    rfl
  have h2 : qent (X1 X q q2 u v) M0 29 0 = jar X 120 := by
    rfl
  rw [h1, h2]
  unfold LF
  rfl
set_option maxRecDepth 100000 in
theorem tP_29_1 {X : Cx} {q q2 : Nat} {u : T_Clay} {v : T_Mdl} : (LF X q q2 u v (e9X X q q2 u v))[22]? = some (aX q q2 u v 29 1, qent (X1 X q q2 u v) M0 29 1) := by
  have h1 : aX q q2 u v 29 1 = u.2.2.2.1.2.2.2.2.2.2.2.2.1 := by
    unfold aX aL
    rfl
  have h2 : qent (X1 X q q2 u v) M0 29 1 = jar X 120 := by
    rfl
  rw [h1, h2]
  unfold LF
  rfl
set_option maxRecDepth 100000 in
theorem tP_29_2 {X : Cx} {q q2 : Nat} {u : T_Clay} {v : T_Mdl} : (LF X q q2 u v (e9X X q q2 u v))[102]? = some (aX q q2 u v 29 2, qent (X1 X q q2 u v) M0 29 2) := by
  have h1 : aX q q2 u v 29 2 = u.2.2.2.2.2.2.2.2.2.2.2.2.2.2.2.2.2.1.2.2.1.2.2.2.2.2.2.2.2.1 := by
    unfold aX aL
    rfl
  have h2 : qent (X1 X q q2 u v) M0 29 2 = jar X 120 := by
    rfl
  rw [h1, h2]
  unfold LF
  rfl
set_option maxRecDepth 100000 in
theorem tP_29_3 {X : Cx} {q q2 : Nat} {u : T_Clay} {v : T_Mdl} : (LF X q q2 u v (e9X X q q2 u v))[114]? = some (aX q q2 u v 29 3, qent (X1 X q q2 u v) M0 29 3) := by
  have h1 : aX q q2 u v 29 3 = u.2.2.2.2.2.2.2.2.2.2.2.2.2.2.2.2.2.1.2.2.2.2.1.2.2.2.2.2.2.2.2.1 := by
    unfold aX aL
    rfl
  have h2 : qent (X1 X q q2 u v) M0 29 3 = jar X 120 := by
    rfl
  rw [h1, h2]
  unfold LF
  rfl
set_option maxRecDepth 100000 in
theorem tP_29_4 {X : Cx} {q q2 : Nat} {u : T_Clay} {v : T_Mdl} : (LF X q q2 u v (e9X X q q2 u v))[126]? = some (aX q q2 u v 29 4, qent (X1 X q q2 u v) M0 29 4) := by
  have h1 : aX q q2 u v 29 4 = u.2.2.2.2.2.2.2.2.2.2.2.2.2.2.2.2.2.1.2.2.2.2.2.2.1.2.2.2.2.2.2.2.2.1 := by
    unfold aX aL
    rfl
  have h2 : qent (X1 X q q2 u v) M0 29 4 = jar X 120 := by
    rfl
  rw [h1, h2]
  unfold LF
  rfl
set_option maxRecDepth 100000 in
theorem tP_29_5 {X : Cx} {q q2 : Nat} {u : T_Clay} {v : T_Mdl} : (LF X q q2 u v (e9X X q q2 u v))[138]? = some (aX q q2 u v 29 5, qent (X1 X q q2 u v) M0 29 5) := by
  have h1 : aX q q2 u v 29 5 = u.2.2.2.2.2.2.2.2.2.2.2.2.2.2.2.2.2.1.2.2.2.2.2.2.2.2.1.2.2.2.2.2.2.2.2.1 := by
    unfold aX aL
    rfl
  have h2 : qent (X1 X q q2 u v) M0 29 5 = jar X 120 := by
    rfl
  rw [h1, h2]
  unfold LF
  rfl
def qTR4 : List (Nat × Nat × Nat) := [(124, 27, 4), (136, 27, 5), (148, 27, 6), (160, 27, 7), (173, 27, 8), (9, 28, 0), (21, 28, 1), (101, 28, 2), (113, 28, 3), (125, 28, 4), (137, 28, 5), (149, 28, 6), (161, 28, 7), (174, 28, 8), (10, 29, 0), (22, 29, 1), (102, 29, 2), (114, 29, 3), (126, 29, 4), (138, 29, 5)]
theorem aTR4 {X : Cx} {q q2 : Nat} {u : T_Clay} {v : T_Mdl} : ∀ t ∈ qTR4, (LF X q q2 u v (e9X X q q2 u v))[t.1]? = some (aX q q2 u v t.2.1 t.2.2, qent (X1 X q q2 u v) M0 t.2.1 t.2.2) := List.forall_mem_cons.mpr ⟨tP_27_4, List.forall_mem_cons.mpr ⟨tP_27_5, List.forall_mem_cons.mpr ⟨tP_27_6, List.forall_mem_cons.mpr ⟨tP_27_7, List.forall_mem_cons.mpr ⟨tP_27_8, List.forall_mem_cons.mpr ⟨tP_28_0, List.forall_mem_cons.mpr ⟨tP_28_1, List.forall_mem_cons.mpr ⟨tP_28_2, List.forall_mem_cons.mpr ⟨tP_28_3, List.forall_mem_cons.mpr ⟨tP_28_4, List.forall_mem_cons.mpr ⟨tP_28_5, List.forall_mem_cons.mpr ⟨tP_28_6, List.forall_mem_cons.mpr ⟨tP_28_7, List.forall_mem_cons.mpr ⟨tP_28_8, List.forall_mem_cons.mpr ⟨tP_29_0, List.forall_mem_cons.mpr ⟨tP_29_1, List.forall_mem_cons.mpr ⟨tP_29_2, List.forall_mem_cons.mpr ⟨tP_29_3, List.forall_mem_cons.mpr ⟨tP_29_4, List.forall_mem_cons.mpr ⟨tP_29_5, fun _ h => absurd h List.not_mem_nil⟩⟩⟩⟩⟩⟩⟩⟩⟩⟩⟩⟩⟩⟩⟩⟩⟩⟩⟩⟩
set_option maxRecDepth 100000 in
theorem tP_29_6 {X : Cx} {q q2 : Nat} {u : T_Clay} {v : T_Mdl} : (LF X q q2 u v (e9X X q q2 u v))[150]? = some (aX q q2 u v 29 6, qent (X1 X q q2 u v) M0 29 6) := by
  have h1 : aX q q2 u v 29 6 = u.2.2.2.2.2.2.2.2.2.2.2.2.2.2.2.2.2.1.2.2.2.2.2.2.2.2.2.2.1.2.2.2.2.2.2.2.2.1 := by
    unfold aX aL
    rfl
  have h2 : qent (X1 X q q2 u v) M0 29 6 = jar X 120 := by
    rfl
  rw [h1, h2]
  unfold LF
  rfl
set_option maxRecDepth 100000 in
theorem tP_29_7 {X : Cx} {q q2 : Nat} {u : T_Clay} {v : T_Mdl} : (LF X q q2 u v (e9X X q q2 u v))[162]? = some (aX q q2 u v 29 7, qent (X1 X q q2 u v) M0 29 7) := by
  have h1 : aX q q2 u v 29 7 = u.2.2.2.2.2.2.2.2.2.2.2.2.2.2.2.2.2.1.2.2.2.2.2.2.2.2.2.2.2.2.2.2.2.2.2.2.2.2.1 := by
    unfold aX aL
    rfl
  have h2 : qent (X1 X q q2 u v) M0 29 7 = jar X 120 := by
    rfl
  rw [h1, h2]
  unfold LF
  rfl
set_option maxRecDepth 100000 in
theorem tP_29_8 {X : Cx} {q q2 : Nat} {u : T_Clay} {v : T_Mdl} : (LF X q q2 u v (e9X X q q2 u v))[175]? = some (aX q q2 u v 29 8, qent (X1 X q q2 u v) M0 29 8) := by
  have h1 : aX q q2 u v 29 8 = u.2.2.2.2.2.2.2.2.2.2.2.2.2.2.2.2.2.2.2.2.1.2.2.2.2.2.2.2.2.1 := by
    unfold aX aL
    rfl
  have h2 : qent (X1 X q q2 u v) M0 29 8 = jar X 120 := by
    rfl
  rw [h1, h2]
  unfold LF
  rfl
set_option maxRecDepth 100000 in
theorem tP_30_0 {X : Cx} {q q2 : Nat} {u : T_Clay} {v : T_Mdl} : (LF X q q2 u v (e9X X q q2 u v))[11]? = some (aX q q2 u v 30 0, qent (X1 X q q2 u v) M0 30 0) := by
  have h1 : aX q q2 u v 30 0 = u.2.1.2.2.2.2.2.2.2.2.2.1 := by
    unfold aX aL
    rfl
  have h2 : qent (X1 X q q2 u v) M0 30 0 = .inr (0, oBook u.2.1.2.2.2.2.2.2.2.2.2.2) := by
    simp [qent, qcol, qCOLS, qfv, oBook, M0, xa, X1, aX, aL]
  rw [h1, h2]
  unfold LF
  rfl
set_option maxRecDepth 100000 in
theorem tP_30_1 {X : Cx} {q q2 : Nat} {u : T_Clay} {v : T_Mdl} : (LF X q q2 u v (e9X X q q2 u v))[23]? = some (aX q q2 u v 30 1, qent (X1 X q q2 u v) M0 30 1) := by
  have h1 : aX q q2 u v 30 1 = u.2.2.2.1.2.2.2.2.2.2.2.2.2.1 := by
    unfold aX aL
    rfl
  have h2 : qent (X1 X q q2 u v) M0 30 1 = .inr (0, oBook u.2.2.2.1.2.2.2.2.2.2.2.2.2.2) := by
    simp [qent, qcol, qCOLS, qfv, oBook, M0, xa, X1, aX, aL]
  rw [h1, h2]
  unfold LF
  rfl
set_option maxRecDepth 100000 in
theorem tP_30_2 {X : Cx} {q q2 : Nat} {u : T_Clay} {v : T_Mdl} : (LF X q q2 u v (e9X X q q2 u v))[103]? = some (aX q q2 u v 30 2, qent (X1 X q q2 u v) M0 30 2) := by
  have h1 : aX q q2 u v 30 2 = u.2.2.2.2.2.2.2.2.2.2.2.2.2.2.2.2.2.1.2.2.1.2.2.2.2.2.2.2.2.2.1 := by
    unfold aX aL
    rfl
  have h2 : qent (X1 X q q2 u v) M0 30 2 = .inr (0, oBook u.2.2.2.2.2.2.2.2.2.2.2.2.2.2.2.2.2.1.2.2.1.2.2.2.2.2.2.2.2.2.2) := by
    simp [qent, qcol, qCOLS, qfv, oBook, M0, xa, X1, aX, aL]
  rw [h1, h2]
  unfold LF
  rfl
set_option maxRecDepth 100000 in
theorem tP_30_3 {X : Cx} {q q2 : Nat} {u : T_Clay} {v : T_Mdl} : (LF X q q2 u v (e9X X q q2 u v))[115]? = some (aX q q2 u v 30 3, qent (X1 X q q2 u v) M0 30 3) := by
  have h1 : aX q q2 u v 30 3 = u.2.2.2.2.2.2.2.2.2.2.2.2.2.2.2.2.2.1.2.2.2.2.1.2.2.2.2.2.2.2.2.2.1 := by
    unfold aX aL
    rfl
  have h2 : qent (X1 X q q2 u v) M0 30 3 = .inr (0, oBook u.2.2.2.2.2.2.2.2.2.2.2.2.2.2.2.2.2.1.2.2.2.2.1.2.2.2.2.2.2.2.2.2.2) := by
    simp [qent, qcol, qCOLS, qfv, oBook, M0, xa, X1, aX, aL]
  rw [h1, h2]
  unfold LF
  rfl
set_option maxRecDepth 100000 in
theorem tP_30_4 {X : Cx} {q q2 : Nat} {u : T_Clay} {v : T_Mdl} : (LF X q q2 u v (e9X X q q2 u v))[127]? = some (aX q q2 u v 30 4, qent (X1 X q q2 u v) M0 30 4) := by
  have h1 : aX q q2 u v 30 4 = u.2.2.2.2.2.2.2.2.2.2.2.2.2.2.2.2.2.1.2.2.2.2.2.2.1.2.2.2.2.2.2.2.2.2.1 := by
    unfold aX aL
    rfl
  have h2 : qent (X1 X q q2 u v) M0 30 4 = .inr (0, oBook u.2.2.2.2.2.2.2.2.2.2.2.2.2.2.2.2.2.1.2.2.2.2.2.2.1.2.2.2.2.2.2.2.2.2.2) := by
    simp [qent, qcol, qCOLS, qfv, oBook, M0, xa, X1, aX, aL]
  rw [h1, h2]
  unfold LF
  rfl
set_option maxRecDepth 100000 in
theorem tP_30_5 {X : Cx} {q q2 : Nat} {u : T_Clay} {v : T_Mdl} : (LF X q q2 u v (e9X X q q2 u v))[139]? = some (aX q q2 u v 30 5, qent (X1 X q q2 u v) M0 30 5) := by
  have h1 : aX q q2 u v 30 5 = u.2.2.2.2.2.2.2.2.2.2.2.2.2.2.2.2.2.1.2.2.2.2.2.2.2.2.1.2.2.2.2.2.2.2.2.2.1 := by
    unfold aX aL
    rfl
  have h2 : qent (X1 X q q2 u v) M0 30 5 = .inr (0, oBook u.2.2.2.2.2.2.2.2.2.2.2.2.2.2.2.2.2.1.2.2.2.2.2.2.2.2.1.2.2.2.2.2.2.2.2.2.2) := by
    simp [qent, qcol, qCOLS, qfv, oBook, M0, xa, X1, aX, aL]
  rw [h1, h2]
  unfold LF
  rfl
set_option maxRecDepth 100000 in
theorem tP_30_6 {X : Cx} {q q2 : Nat} {u : T_Clay} {v : T_Mdl} : (LF X q q2 u v (e9X X q q2 u v))[151]? = some (aX q q2 u v 30 6, qent (X1 X q q2 u v) M0 30 6) := by
  have h1 : aX q q2 u v 30 6 = u.2.2.2.2.2.2.2.2.2.2.2.2.2.2.2.2.2.1.2.2.2.2.2.2.2.2.2.2.1.2.2.2.2.2.2.2.2.2.1 := by
    unfold aX aL
    rfl
  have h2 : qent (X1 X q q2 u v) M0 30 6 = .inr (0, oBook u.2.2.2.2.2.2.2.2.2.2.2.2.2.2.2.2.2.1.2.2.2.2.2.2.2.2.2.2.1.2.2.2.2.2.2.2.2.2.2) := by
    simp [qent, qcol, qCOLS, qfv, oBook, M0, xa, X1, aX, aL]
  rw [h1, h2]
  unfold LF
  rfl
set_option maxRecDepth 100000 in
theorem tP_30_7 {X : Cx} {q q2 : Nat} {u : T_Clay} {v : T_Mdl} : (LF X q q2 u v (e9X X q q2 u v))[163]? = some (aX q q2 u v 30 7, qent (X1 X q q2 u v) M0 30 7) := by
  have h1 : aX q q2 u v 30 7 = u.2.2.2.2.2.2.2.2.2.2.2.2.2.2.2.2.2.1.2.2.2.2.2.2.2.2.2.2.2.2.2.2.2.2.2.2.2.2.2.1 := by
    unfold aX aL
    rfl
  have h2 : qent (X1 X q q2 u v) M0 30 7 = .inr (0, oBook u.2.2.2.2.2.2.2.2.2.2.2.2.2.2.2.2.2.1.2.2.2.2.2.2.2.2.2.2.2.2.2.2.2.2.2.2.2.2.2.2) := by
    simp [qent, qcol, qCOLS, qfv, oBook, M0, xa, X1, aX, aL]
  rw [h1, h2]
  unfold LF
  rfl
set_option maxRecDepth 100000 in
theorem tP_30_8 {X : Cx} {q q2 : Nat} {u : T_Clay} {v : T_Mdl} : (LF X q q2 u v (e9X X q q2 u v))[176]? = some (aX q q2 u v 30 8, qent (X1 X q q2 u v) M0 30 8) := by
  have h1 : aX q q2 u v 30 8 = u.2.2.2.2.2.2.2.2.2.2.2.2.2.2.2.2.2.2.2.2.1.2.2.2.2.2.2.2.2.2.1 := by
    unfold aX aL
    rfl
  have h2 : qent (X1 X q q2 u v) M0 30 8 = .inr (0, oBook u.2.2.2.2.2.2.2.2.2.2.2.2.2.2.2.2.2.2.2.2.1.2.2.2.2.2.2.2.2.2.2) := by
    simp [qent, qcol, qCOLS, qfv, oBook, M0, xa, X1, aX, aL]
  rw [h1, h2]
  unfold LF
  rfl
set_option maxRecDepth 100000 in
theorem tP_31_0 {X : Cx} {q q2 : Nat} {u : T_Clay} {v : T_Mdl} : (LF X q q2 u v (e9X X q q2 u v))[12]? = some (aX q q2 u v 31 0, qent (X1 X q q2 u v) M0 31 0) := by
  have h1 : aX q q2 u v 31 0 = u.2.1.2.2.2.2.2.2.2.2.2.2 := by
    unfold aX aL
    rfl
  have h2 : qent (X1 X q q2 u v) M0 31 0 = jar X 600 := by
    rfl
  rw [h1, h2]
  unfold LF
  rfl
set_option maxRecDepth 100000 in
theorem tP_31_1 {X : Cx} {q q2 : Nat} {u : T_Clay} {v : T_Mdl} : (LF X q q2 u v (e9X X q q2 u v))[24]? = some (aX q q2 u v 31 1, qent (X1 X q q2 u v) M0 31 1) := by
  have h1 : aX q q2 u v 31 1 = u.2.2.2.1.2.2.2.2.2.2.2.2.2.2 := by
    unfold aX aL
    rfl
  have h2 : qent (X1 X q q2 u v) M0 31 1 = jar X 600 := by
    rfl
  rw [h1, h2]
  unfold LF
  rfl
set_option maxRecDepth 100000 in
theorem tP_31_2 {X : Cx} {q q2 : Nat} {u : T_Clay} {v : T_Mdl} : (LF X q q2 u v (e9X X q q2 u v))[104]? = some (aX q q2 u v 31 2, qent (X1 X q q2 u v) M0 31 2) := by
  have h1 : aX q q2 u v 31 2 = u.2.2.2.2.2.2.2.2.2.2.2.2.2.2.2.2.2.1.2.2.1.2.2.2.2.2.2.2.2.2.2 := by
    unfold aX aL
    rfl
  have h2 : qent (X1 X q q2 u v) M0 31 2 = jar X 600 := by
    rfl
  rw [h1, h2]
  unfold LF
  rfl
set_option maxRecDepth 100000 in
theorem tP_31_3 {X : Cx} {q q2 : Nat} {u : T_Clay} {v : T_Mdl} : (LF X q q2 u v (e9X X q q2 u v))[116]? = some (aX q q2 u v 31 3, qent (X1 X q q2 u v) M0 31 3) := by
  have h1 : aX q q2 u v 31 3 = u.2.2.2.2.2.2.2.2.2.2.2.2.2.2.2.2.2.1.2.2.2.2.1.2.2.2.2.2.2.2.2.2.2 := by
    unfold aX aL
    rfl
  have h2 : qent (X1 X q q2 u v) M0 31 3 = jar X 600 := by
    rfl
  rw [h1, h2]
  unfold LF
  rfl
set_option maxRecDepth 100000 in
theorem tP_31_4 {X : Cx} {q q2 : Nat} {u : T_Clay} {v : T_Mdl} : (LF X q q2 u v (e9X X q q2 u v))[128]? = some (aX q q2 u v 31 4, qent (X1 X q q2 u v) M0 31 4) := by
  have h1 : aX q q2 u v 31 4 = u.2.2.2.2.2.2.2.2.2.2.2.2.2.2.2.2.2.1.2.2.2.2.2.2.1.2.2.2.2.2.2.2.2.2.2 := by
    unfold aX aL
    rfl
  have h2 : qent (X1 X q q2 u v) M0 31 4 = jar X 600 := by
    rfl
  rw [h1, h2]
  unfold LF
  rfl
set_option maxRecDepth 100000 in
theorem tP_31_5 {X : Cx} {q q2 : Nat} {u : T_Clay} {v : T_Mdl} : (LF X q q2 u v (e9X X q q2 u v))[140]? = some (aX q q2 u v 31 5, qent (X1 X q q2 u v) M0 31 5) := by
  have h1 : aX q q2 u v 31 5 = u.2.2.2.2.2.2.2.2.2.2.2.2.2.2.2.2.2.1.2.2.2.2.2.2.2.2.1.2.2.2.2.2.2.2.2.2.2 := by
    unfold aX aL
    rfl
  have h2 : qent (X1 X q q2 u v) M0 31 5 = jar X 600 := by
    rfl
  rw [h1, h2]
  unfold LF
  rfl
set_option maxRecDepth 100000 in
theorem tP_31_6 {X : Cx} {q q2 : Nat} {u : T_Clay} {v : T_Mdl} : (LF X q q2 u v (e9X X q q2 u v))[152]? = some (aX q q2 u v 31 6, qent (X1 X q q2 u v) M0 31 6) := by
  have h1 : aX q q2 u v 31 6 = u.2.2.2.2.2.2.2.2.2.2.2.2.2.2.2.2.2.1.2.2.2.2.2.2.2.2.2.2.1.2.2.2.2.2.2.2.2.2.2 := by
    unfold aX aL
    rfl
  have h2 : qent (X1 X q q2 u v) M0 31 6 = jar X 600 := by
    rfl
  rw [h1, h2]
  unfold LF
  rfl
set_option maxRecDepth 100000 in
theorem tP_31_7 {X : Cx} {q q2 : Nat} {u : T_Clay} {v : T_Mdl} : (LF X q q2 u v (e9X X q q2 u v))[164]? = some (aX q q2 u v 31 7, qent (X1 X q q2 u v) M0 31 7) := by
  have h1 : aX q q2 u v 31 7 = u.2.2.2.2.2.2.2.2.2.2.2.2.2.2.2.2.2.1.2.2.2.2.2.2.2.2.2.2.2.2.2.2.2.2.2.2.2.2.2.2 := by
    unfold aX aL
    rfl
  have h2 : qent (X1 X q q2 u v) M0 31 7 = jar X 600 := by
    rfl
  rw [h1, h2]
  unfold LF
  rfl
def qTR5 : List (Nat × Nat × Nat) := [(150, 29, 6), (162, 29, 7), (175, 29, 8), (11, 30, 0), (23, 30, 1), (103, 30, 2), (115, 30, 3), (127, 30, 4), (139, 30, 5), (151, 30, 6), (163, 30, 7), (176, 30, 8), (12, 31, 0), (24, 31, 1), (104, 31, 2), (116, 31, 3), (128, 31, 4), (140, 31, 5), (152, 31, 6), (164, 31, 7)]
theorem aTR5 {X : Cx} {q q2 : Nat} {u : T_Clay} {v : T_Mdl} : ∀ t ∈ qTR5, (LF X q q2 u v (e9X X q q2 u v))[t.1]? = some (aX q q2 u v t.2.1 t.2.2, qent (X1 X q q2 u v) M0 t.2.1 t.2.2) := List.forall_mem_cons.mpr ⟨tP_29_6, List.forall_mem_cons.mpr ⟨tP_29_7, List.forall_mem_cons.mpr ⟨tP_29_8, List.forall_mem_cons.mpr ⟨tP_30_0, List.forall_mem_cons.mpr ⟨tP_30_1, List.forall_mem_cons.mpr ⟨tP_30_2, List.forall_mem_cons.mpr ⟨tP_30_3, List.forall_mem_cons.mpr ⟨tP_30_4, List.forall_mem_cons.mpr ⟨tP_30_5, List.forall_mem_cons.mpr ⟨tP_30_6, List.forall_mem_cons.mpr ⟨tP_30_7, List.forall_mem_cons.mpr ⟨tP_30_8, List.forall_mem_cons.mpr ⟨tP_31_0, List.forall_mem_cons.mpr ⟨tP_31_1, List.forall_mem_cons.mpr ⟨tP_31_2, List.forall_mem_cons.mpr ⟨tP_31_3, List.forall_mem_cons.mpr ⟨tP_31_4, List.forall_mem_cons.mpr ⟨tP_31_5, List.forall_mem_cons.mpr ⟨tP_31_6, List.forall_mem_cons.mpr ⟨tP_31_7, fun _ h => absurd h List.not_mem_nil⟩⟩⟩⟩⟩⟩⟩⟩⟩⟩⟩⟩⟩⟩⟩⟩⟩⟩⟩⟩
set_option maxRecDepth 100000 in
theorem tP_31_8 {X : Cx} {q q2 : Nat} {u : T_Clay} {v : T_Mdl} : (LF X q q2 u v (e9X X q q2 u v))[177]? = some (aX q q2 u v 31 8, qent (X1 X q q2 u v) M0 31 8) := by
  have h1 : aX q q2 u v 31 8 = u.2.2.2.2.2.2.2.2.2.2.2.2.2.2.2.2.2.2.2.2.1.2.2.2.2.2.2.2.2.2.2 := by
    unfold aX aL
    rfl
  have h2 : qent (X1 X q q2 u v) M0 31 8 = jar X 600 := by
    rfl
  rw [h1, h2]
  unfold LF
  rfl
set_option maxRecDepth 100000 in
theorem tP_40_0 {X : Cx} {q q2 : Nat} {u : T_Clay} {v : T_Mdl} : (LF X q q2 u v (e9X X q q2 u v))[25]? = some (aX q q2 u v 40 0, qent (X1 X q q2 u v) M0 40 0) := by
  have h1 : aX q q2 u v 40 0 = u.2.2.2.2.1 := by
    unfold aX aL
    rfl
  have h2 : qent (X1 X q q2 u v) M0 40 0 = .inr (2, oLaw u.2.2.2.2.2.1) := by
    simp [qent, qcol, qCOLS, qfv, oLaw, M0, xa, X1, aX, aL]
  rw [h1, h2]
  unfold LF
  rfl
set_option maxRecDepth 100000 in
theorem tP_40_1 {X : Cx} {q q2 : Nat} {u : T_Clay} {v : T_Mdl} : (LF X q q2 u v (e9X X q q2 u v))[66]? = some (aX q q2 u v 40 1, qent (X1 X q q2 u v) M0 40 1) := by
  have h1 : aX q q2 u v 40 1 = u.2.2.2.2.2.2.2.2.2.2.2.1.1 := by
    unfold aX aL
    rfl
  have h2 : qent (X1 X q q2 u v) M0 40 1 = .inr (2, oLaw u.2.2.2.2.2.2.2.2.2.2.2.1.2.1) := by
    simp [qent, qcol, qCOLS, qfv, oLaw, M0, xa, X1, aX, aL]
  rw [h1, h2]
  unfold LF
  rfl
set_option maxRecDepth 100000 in
theorem tP_40_2 {X : Cx} {q q2 : Nat} {u : T_Clay} {v : T_Mdl} : (LF X q q2 u v (e9X X q q2 u v))[178]? = some (aX q q2 u v 40 2, qent (X1 X q q2 u v) M0 40 2) := by
  have h1 : aX q q2 u v 40 2 = u.2.2.2.2.2.2.2.2.2.2.2.2.2.2.2.2.2.2.2.2.2.1 := by
    unfold aX aL
    rfl
  have h2 : qent (X1 X q q2 u v) M0 40 2 = .inr (2, oLaw u.2.2.2.2.2.2.2.2.2.2.2.2.2.2.2.2.2.2.2.2.2.2.1) := by
    simp [qent, qcol, qCOLS, qfv, oLaw, M0, xa, X1, aX, aL]
  rw [h1, h2]
  unfold LF
  rfl
set_option maxRecDepth 100000 in
theorem tP_42_0 {X : Cx} {q q2 : Nat} {u : T_Clay} {v : T_Mdl} : (LF X q q2 u v (e9X X q q2 u v))[26]? = some (aX q q2 u v 42 0, qent (X1 X q q2 u v) M0 42 0) := by
  have h1 : aX q q2 u v 42 0 = u.2.2.2.2.2.1.1 := by
    unfold aX aL
    rfl
  have h2 : qent (X1 X q q2 u v) M0 42 0 = jar X 16 := by
    rfl
  rw [h1, h2]
  unfold LF
  rfl
set_option maxRecDepth 100000 in
theorem tP_42_1 {X : Cx} {q q2 : Nat} {u : T_Clay} {v : T_Mdl} : (LF X q q2 u v (e9X X q q2 u v))[67]? = some (aX q q2 u v 42 1, qent (X1 X q q2 u v) M0 42 1) := by
  have h1 : aX q q2 u v 42 1 = u.2.2.2.2.2.2.2.2.2.2.2.1.2.1.1 := by
    unfold aX aL
    rfl
  have h2 : qent (X1 X q q2 u v) M0 42 1 = jar X 16 := by
    rfl
  rw [h1, h2]
  unfold LF
  rfl
set_option maxRecDepth 100000 in
theorem tP_42_2 {X : Cx} {q q2 : Nat} {u : T_Clay} {v : T_Mdl} : (LF X q q2 u v (e9X X q q2 u v))[179]? = some (aX q q2 u v 42 2, qent (X1 X q q2 u v) M0 42 2) := by
  have h1 : aX q q2 u v 42 2 = u.2.2.2.2.2.2.2.2.2.2.2.2.2.2.2.2.2.2.2.2.2.2.1.1 := by
    unfold aX aL
    rfl
  have h2 : qent (X1 X q q2 u v) M0 42 2 = jar X 16 := by
    rfl
  rw [h1, h2]
  unfold LF
  rfl
set_option maxRecDepth 100000 in
theorem tP_43_0 {X : Cx} {q q2 : Nat} {u : T_Clay} {v : T_Mdl} : (LF X q q2 u v (e9X X q q2 u v))[27]? = some (aX q q2 u v 43 0, qent (X1 X q q2 u v) M0 43 0) := by
  have h1 : aX q q2 u v 43 0 = u.2.2.2.2.2.1.2.1 := by
    unfold aX aL
    rfl
  have h2 : qent (X1 X q q2 u v) M0 43 0 = jar X 16 := by
    rfl
  rw [h1, h2]
  unfold LF
  rfl
set_option maxRecDepth 100000 in
theorem tP_43_1 {X : Cx} {q q2 : Nat} {u : T_Clay} {v : T_Mdl} : (LF X q q2 u v (e9X X q q2 u v))[68]? = some (aX q q2 u v 43 1, qent (X1 X q q2 u v) M0 43 1) := by
  have h1 : aX q q2 u v 43 1 = u.2.2.2.2.2.2.2.2.2.2.2.1.2.1.2.1 := by
    unfold aX aL
    rfl
  have h2 : qent (X1 X q q2 u v) M0 43 1 = jar X 16 := by
    rfl
  rw [h1, h2]
  unfold LF
  rfl
set_option maxRecDepth 100000 in
theorem tP_43_2 {X : Cx} {q q2 : Nat} {u : T_Clay} {v : T_Mdl} : (LF X q q2 u v (e9X X q q2 u v))[180]? = some (aX q q2 u v 43 2, qent (X1 X q q2 u v) M0 43 2) := by
  have h1 : aX q q2 u v 43 2 = u.2.2.2.2.2.2.2.2.2.2.2.2.2.2.2.2.2.2.2.2.2.2.1.2.1 := by
    unfold aX aL
    rfl
  have h2 : qent (X1 X q q2 u v) M0 43 2 = jar X 16 := by
    rfl
  rw [h1, h2]
  unfold LF
  rfl
set_option maxRecDepth 100000 in
theorem tP_44_0 {X : Cx} {q q2 : Nat} {u : T_Clay} {v : T_Mdl} : (LF X q q2 u v (e9X X q q2 u v))[28]? = some (aX q q2 u v 44 0, qent (X1 X q q2 u v) M0 44 0) := by
  have h1 : aX q q2 u v 44 0 = u.2.2.2.2.2.1.2.2.1 := by
    unfold aX aL
    rfl
  have h2 : qent (X1 X q q2 u v) M0 44 0 = jar X 16 := by
    rfl
  rw [h1, h2]
  unfold LF
  rfl
set_option maxRecDepth 100000 in
theorem tP_44_1 {X : Cx} {q q2 : Nat} {u : T_Clay} {v : T_Mdl} : (LF X q q2 u v (e9X X q q2 u v))[69]? = some (aX q q2 u v 44 1, qent (X1 X q q2 u v) M0 44 1) := by
  have h1 : aX q q2 u v 44 1 = u.2.2.2.2.2.2.2.2.2.2.2.1.2.1.2.2.1 := by
    unfold aX aL
    rfl
  have h2 : qent (X1 X q q2 u v) M0 44 1 = jar X 16 := by
    rfl
  rw [h1, h2]
  unfold LF
  rfl
set_option maxRecDepth 100000 in
theorem tP_44_2 {X : Cx} {q q2 : Nat} {u : T_Clay} {v : T_Mdl} : (LF X q q2 u v (e9X X q q2 u v))[181]? = some (aX q q2 u v 44 2, qent (X1 X q q2 u v) M0 44 2) := by
  have h1 : aX q q2 u v 44 2 = u.2.2.2.2.2.2.2.2.2.2.2.2.2.2.2.2.2.2.2.2.2.2.1.2.2.1 := by
    unfold aX aL
    rfl
  have h2 : qent (X1 X q q2 u v) M0 44 2 = jar X 16 := by
    rfl
  rw [h1, h2]
  unfold LF
  rfl
set_option maxRecDepth 100000 in
theorem tP_45_0 {X : Cx} {q q2 : Nat} {u : T_Clay} {v : T_Mdl} : (LF X q q2 u v (e9X X q q2 u v))[29]? = some (aX q q2 u v 45 0, qent (X1 X q q2 u v) M0 45 0) := by
  have h1 : aX q q2 u v 45 0 = u.2.2.2.2.2.1.2.2.2.1 := by
    unfold aX aL
    rfl
  have h2 : qent (X1 X q q2 u v) M0 45 0 = jar X 16 := by
    rfl
  rw [h1, h2]
  unfold LF
  rfl
set_option maxRecDepth 100000 in
theorem tP_45_1 {X : Cx} {q q2 : Nat} {u : T_Clay} {v : T_Mdl} : (LF X q q2 u v (e9X X q q2 u v))[70]? = some (aX q q2 u v 45 1, qent (X1 X q q2 u v) M0 45 1) := by
  have h1 : aX q q2 u v 45 1 = u.2.2.2.2.2.2.2.2.2.2.2.1.2.1.2.2.2.1 := by
    unfold aX aL
    rfl
  have h2 : qent (X1 X q q2 u v) M0 45 1 = jar X 16 := by
    rfl
  rw [h1, h2]
  unfold LF
  rfl
set_option maxRecDepth 100000 in
theorem tP_45_2 {X : Cx} {q q2 : Nat} {u : T_Clay} {v : T_Mdl} : (LF X q q2 u v (e9X X q q2 u v))[182]? = some (aX q q2 u v 45 2, qent (X1 X q q2 u v) M0 45 2) := by
  have h1 : aX q q2 u v 45 2 = u.2.2.2.2.2.2.2.2.2.2.2.2.2.2.2.2.2.2.2.2.2.2.1.2.2.2.1 := by
    unfold aX aL
    rfl
  have h2 : qent (X1 X q q2 u v) M0 45 2 = jar X 16 := by
    rfl
  rw [h1, h2]
  unfold LF
  rfl
set_option maxRecDepth 100000 in
theorem tP_46_0 {X : Cx} {q q2 : Nat} {u : T_Clay} {v : T_Mdl} : (LF X q q2 u v (e9X X q q2 u v))[30]? = some (aX q q2 u v 46 0, qent (X1 X q q2 u v) M0 46 0) := by
  have h1 : aX q q2 u v 46 0 = u.2.2.2.2.2.1.2.2.2.2.1 := by
    unfold aX aL
    rfl
  have h2 : qent (X1 X q q2 u v) M0 46 0 = jar X 400 := by
    rfl
  rw [h1, h2]
  unfold LF
  rfl
set_option maxRecDepth 100000 in
theorem tP_46_1 {X : Cx} {q q2 : Nat} {u : T_Clay} {v : T_Mdl} : (LF X q q2 u v (e9X X q q2 u v))[71]? = some (aX q q2 u v 46 1, qent (X1 X q q2 u v) M0 46 1) := by
  have h1 : aX q q2 u v 46 1 = u.2.2.2.2.2.2.2.2.2.2.2.1.2.1.2.2.2.2.1 := by
    unfold aX aL
    rfl
  have h2 : qent (X1 X q q2 u v) M0 46 1 = jar X 400 := by
    rfl
  rw [h1, h2]
  unfold LF
  rfl
set_option maxRecDepth 100000 in
theorem tP_46_2 {X : Cx} {q q2 : Nat} {u : T_Clay} {v : T_Mdl} : (LF X q q2 u v (e9X X q q2 u v))[183]? = some (aX q q2 u v 46 2, qent (X1 X q q2 u v) M0 46 2) := by
  have h1 : aX q q2 u v 46 2 = u.2.2.2.2.2.2.2.2.2.2.2.2.2.2.2.2.2.2.2.2.2.2.1.2.2.2.2.1 := by
    unfold aX aL
    rfl
  have h2 : qent (X1 X q q2 u v) M0 46 2 = jar X 400 := by
    rfl
  rw [h1, h2]
  unfold LF
  rfl
set_option maxRecDepth 100000 in
theorem tP_47_0 {X : Cx} {q q2 : Nat} {u : T_Clay} {v : T_Mdl} : (LF X q q2 u v (e9X X q q2 u v))[31]? = some (aX q q2 u v 47 0, qent (X1 X q q2 u v) M0 47 0) := by
  have h1 : aX q q2 u v 47 0 = u.2.2.2.2.2.1.2.2.2.2.2 := by
    unfold aX aL
    rfl
  have h2 : qent (X1 X q q2 u v) M0 47 0 = jar X 32 := by
    rfl
  rw [h1, h2]
  unfold LF
  rfl
def qTR6 : List (Nat × Nat × Nat) := [(177, 31, 8), (25, 40, 0), (66, 40, 1), (178, 40, 2), (26, 42, 0), (67, 42, 1), (179, 42, 2), (27, 43, 0), (68, 43, 1), (180, 43, 2), (28, 44, 0), (69, 44, 1), (181, 44, 2), (29, 45, 0), (70, 45, 1), (182, 45, 2), (30, 46, 0), (71, 46, 1), (183, 46, 2), (31, 47, 0)]
theorem aTR6 {X : Cx} {q q2 : Nat} {u : T_Clay} {v : T_Mdl} : ∀ t ∈ qTR6, (LF X q q2 u v (e9X X q q2 u v))[t.1]? = some (aX q q2 u v t.2.1 t.2.2, qent (X1 X q q2 u v) M0 t.2.1 t.2.2) := List.forall_mem_cons.mpr ⟨tP_31_8, List.forall_mem_cons.mpr ⟨tP_40_0, List.forall_mem_cons.mpr ⟨tP_40_1, List.forall_mem_cons.mpr ⟨tP_40_2, List.forall_mem_cons.mpr ⟨tP_42_0, List.forall_mem_cons.mpr ⟨tP_42_1, List.forall_mem_cons.mpr ⟨tP_42_2, List.forall_mem_cons.mpr ⟨tP_43_0, List.forall_mem_cons.mpr ⟨tP_43_1, List.forall_mem_cons.mpr ⟨tP_43_2, List.forall_mem_cons.mpr ⟨tP_44_0, List.forall_mem_cons.mpr ⟨tP_44_1, List.forall_mem_cons.mpr ⟨tP_44_2, List.forall_mem_cons.mpr ⟨tP_45_0, List.forall_mem_cons.mpr ⟨tP_45_1, List.forall_mem_cons.mpr ⟨tP_45_2, List.forall_mem_cons.mpr ⟨tP_46_0, List.forall_mem_cons.mpr ⟨tP_46_1, List.forall_mem_cons.mpr ⟨tP_46_2, List.forall_mem_cons.mpr ⟨tP_47_0, fun _ h => absurd h List.not_mem_nil⟩⟩⟩⟩⟩⟩⟩⟩⟩⟩⟩⟩⟩⟩⟩⟩⟩⟩⟩⟩
set_option maxRecDepth 100000 in
theorem tP_47_1 {X : Cx} {q q2 : Nat} {u : T_Clay} {v : T_Mdl} : (LF X q q2 u v (e9X X q q2 u v))[72]? = some (aX q q2 u v 47 1, qent (X1 X q q2 u v) M0 47 1) := by
  have h1 : aX q q2 u v 47 1 = u.2.2.2.2.2.2.2.2.2.2.2.1.2.1.2.2.2.2.2 := by
    unfold aX aL
    rfl
  have h2 : qent (X1 X q q2 u v) M0 47 1 = jar X 32 := by
    rfl
  rw [h1, h2]
  unfold LF
  rfl
set_option maxRecDepth 100000 in
theorem tP_47_2 {X : Cx} {q q2 : Nat} {u : T_Clay} {v : T_Mdl} : (LF X q q2 u v (e9X X q q2 u v))[184]? = some (aX q q2 u v 47 2, qent (X1 X q q2 u v) M0 47 2) := by
  have h1 : aX q q2 u v 47 2 = u.2.2.2.2.2.2.2.2.2.2.2.2.2.2.2.2.2.2.2.2.2.2.1.2.2.2.2.2 := by
    unfold aX aL
    rfl
  have h2 : qent (X1 X q q2 u v) M0 47 2 = jar X 32 := by
    rfl
  rw [h1, h2]
  unfold LF
  rfl
set_option maxRecDepth 100000 in
theorem tP_50_0 {X : Cx} {q q2 : Nat} {u : T_Clay} {v : T_Mdl} : (LF X q q2 u v (e9X X q q2 u v))[32]? = some (aX q q2 u v 50 0, qent (X1 X q q2 u v) M0 50 0) := by
  have h1 : aX q q2 u v 50 0 = u.2.2.2.2.2.2.1 := by
    unfold aX aL
    rfl
  have h2 : qent (X1 X q q2 u v) M0 50 0 = .inr (4, oPlans u.2.2.2.2.2.2.2.1) := by
    simp [qent, qcol, qCOLS, qfv, oPlans, M0, xa, X1, aX, aL]
  rw [h1, h2]
  unfold LF
  rfl
set_option maxRecDepth 100000 in
theorem tP_50_1 {X : Cx} {q q2 : Nat} {u : T_Clay} {v : T_Mdl} : (LF X q q2 u v (e9X X q q2 u v))[73]? = some (aX q q2 u v 50 1, qent (X1 X q q2 u v) M0 50 1) := by
  have h1 : aX q q2 u v 50 1 = u.2.2.2.2.2.2.2.2.2.2.2.1.2.2.1 := by
    unfold aX aL
    rfl
  have h2 : qent (X1 X q q2 u v) M0 50 1 = .inr (4, oPlans u.2.2.2.2.2.2.2.2.2.2.2.1.2.2.2.1) := by
    simp [qent, qcol, qCOLS, qfv, oPlans, M0, xa, X1, aX, aL]
  rw [h1, h2]
  unfold LF
  rfl
set_option maxRecDepth 100000 in
theorem tP_50_2 {X : Cx} {q q2 : Nat} {u : T_Clay} {v : T_Mdl} : (LF X q q2 u v (e9X X q q2 u v))[185]? = some (aX q q2 u v 50 2, qent (X1 X q q2 u v) M0 50 2) := by
  have h1 : aX q q2 u v 50 2 = u.2.2.2.2.2.2.2.2.2.2.2.2.2.2.2.2.2.2.2.2.2.2.2.1 := by
    unfold aX aL
    rfl
  have h2 : qent (X1 X q q2 u v) M0 50 2 = .inr (4, oPlans u.2.2.2.2.2.2.2.2.2.2.2.2.2.2.2.2.2.2.2.2.2.2.2.2.1) := by
    simp [qent, qcol, qCOLS, qfv, oPlans, M0, xa, X1, aX, aL]
  rw [h1, h2]
  unfold LF
  rfl
set_option maxRecDepth 100000 in
theorem tP_53_0 {X : Cx} {q q2 : Nat} {u : T_Clay} {v : T_Mdl} : (LF X q q2 u v (e9X X q q2 u v))[33]? = some (aX q q2 u v 53 0, qent (X1 X q q2 u v) M0 53 0) := by
  have h1 : aX q q2 u v 53 0 = u.2.2.2.2.2.2.2.1.1 := by
    unfold aX aL
    rfl
  have h2 : qent (X1 X q q2 u v) M0 53 0 = jar X 16 := by
    rfl
  rw [h1, h2]
  unfold LF
  rfl
set_option maxRecDepth 100000 in
theorem tP_53_1 {X : Cx} {q q2 : Nat} {u : T_Clay} {v : T_Mdl} : (LF X q q2 u v (e9X X q q2 u v))[74]? = some (aX q q2 u v 53 1, qent (X1 X q q2 u v) M0 53 1) := by
  have h1 : aX q q2 u v 53 1 = u.2.2.2.2.2.2.2.2.2.2.2.1.2.2.2.1.1 := by
    unfold aX aL
    rfl
  have h2 : qent (X1 X q q2 u v) M0 53 1 = jar X 16 := by
    rfl
  rw [h1, h2]
  unfold LF
  rfl
set_option maxRecDepth 100000 in
theorem tP_53_2 {X : Cx} {q q2 : Nat} {u : T_Clay} {v : T_Mdl} : (LF X q q2 u v (e9X X q q2 u v))[186]? = some (aX q q2 u v 53 2, qent (X1 X q q2 u v) M0 53 2) := by
  have h1 : aX q q2 u v 53 2 = u.2.2.2.2.2.2.2.2.2.2.2.2.2.2.2.2.2.2.2.2.2.2.2.2.1.1 := by
    unfold aX aL
    rfl
  have h2 : qent (X1 X q q2 u v) M0 53 2 = jar X 16 := by
    rfl
  rw [h1, h2]
  unfold LF
  rfl
set_option maxRecDepth 100000 in
theorem tP_54_0 {X : Cx} {q q2 : Nat} {u : T_Clay} {v : T_Mdl} : (LF X q q2 u v (e9X X q q2 u v))[34]? = some (aX q q2 u v 54 0, qent (X1 X q q2 u v) M0 54 0) := by
  have h1 : aX q q2 u v 54 0 = u.2.2.2.2.2.2.2.1.2.1 := by
    unfold aX aL
    rfl
  have h2 : qent (X1 X q q2 u v) M0 54 0 = jar X 16 := by
    rfl
  rw [h1, h2]
  unfold LF
  rfl
set_option maxRecDepth 100000 in
theorem tP_54_1 {X : Cx} {q q2 : Nat} {u : T_Clay} {v : T_Mdl} : (LF X q q2 u v (e9X X q q2 u v))[75]? = some (aX q q2 u v 54 1, qent (X1 X q q2 u v) M0 54 1) := by
  have h1 : aX q q2 u v 54 1 = u.2.2.2.2.2.2.2.2.2.2.2.1.2.2.2.1.2.1 := by
    unfold aX aL
    rfl
  have h2 : qent (X1 X q q2 u v) M0 54 1 = jar X 16 := by
    rfl
  rw [h1, h2]
  unfold LF
  rfl
set_option maxRecDepth 100000 in
theorem tP_54_2 {X : Cx} {q q2 : Nat} {u : T_Clay} {v : T_Mdl} : (LF X q q2 u v (e9X X q q2 u v))[187]? = some (aX q q2 u v 54 2, qent (X1 X q q2 u v) M0 54 2) := by
  have h1 : aX q q2 u v 54 2 = u.2.2.2.2.2.2.2.2.2.2.2.2.2.2.2.2.2.2.2.2.2.2.2.2.1.2.1 := by
    unfold aX aL
    rfl
  have h2 : qent (X1 X q q2 u v) M0 54 2 = jar X 16 := by
    rfl
  rw [h1, h2]
  unfold LF
  rfl
set_option maxRecDepth 100000 in
theorem tP_55_0 {X : Cx} {q q2 : Nat} {u : T_Clay} {v : T_Mdl} : (LF X q q2 u v (e9X X q q2 u v))[35]? = some (aX q q2 u v 55 0, qent (X1 X q q2 u v) M0 55 0) := by
  have h1 : aX q q2 u v 55 0 = u.2.2.2.2.2.2.2.1.2.2.1 := by
    unfold aX aL
    rfl
  have h2 : qent (X1 X q q2 u v) M0 55 0 = jar X 16 := by
    rfl
  rw [h1, h2]
  unfold LF
  rfl
set_option maxRecDepth 100000 in
theorem tP_55_1 {X : Cx} {q q2 : Nat} {u : T_Clay} {v : T_Mdl} : (LF X q q2 u v (e9X X q q2 u v))[76]? = some (aX q q2 u v 55 1, qent (X1 X q q2 u v) M0 55 1) := by
  have h1 : aX q q2 u v 55 1 = u.2.2.2.2.2.2.2.2.2.2.2.1.2.2.2.1.2.2.1 := by
    unfold aX aL
    rfl
  have h2 : qent (X1 X q q2 u v) M0 55 1 = jar X 16 := by
    rfl
  rw [h1, h2]
  unfold LF
  rfl
set_option maxRecDepth 100000 in
theorem tP_55_2 {X : Cx} {q q2 : Nat} {u : T_Clay} {v : T_Mdl} : (LF X q q2 u v (e9X X q q2 u v))[188]? = some (aX q q2 u v 55 2, qent (X1 X q q2 u v) M0 55 2) := by
  have h1 : aX q q2 u v 55 2 = u.2.2.2.2.2.2.2.2.2.2.2.2.2.2.2.2.2.2.2.2.2.2.2.2.1.2.2.1 := by
    unfold aX aL
    rfl
  have h2 : qent (X1 X q q2 u v) M0 55 2 = jar X 16 := by
    rfl
  rw [h1, h2]
  unfold LF
  rfl
set_option maxRecDepth 100000 in
theorem tP_56_0 {X : Cx} {q q2 : Nat} {u : T_Clay} {v : T_Mdl} : (LF X q q2 u v (e9X X q q2 u v))[36]? = some (aX q q2 u v 56 0, qent (X1 X q q2 u v) M0 56 0) := by
  have h1 : aX q q2 u v 56 0 = u.2.2.2.2.2.2.2.1.2.2.2.1 := by
    unfold aX aL
    rfl
  have h2 : qent (X1 X q q2 u v) M0 56 0 = jar X 16 := by
    rfl
  rw [h1, h2]
  unfold LF
  rfl
set_option maxRecDepth 100000 in
theorem tP_56_1 {X : Cx} {q q2 : Nat} {u : T_Clay} {v : T_Mdl} : (LF X q q2 u v (e9X X q q2 u v))[77]? = some (aX q q2 u v 56 1, qent (X1 X q q2 u v) M0 56 1) := by
  have h1 : aX q q2 u v 56 1 = u.2.2.2.2.2.2.2.2.2.2.2.1.2.2.2.1.2.2.2.1 := by
    unfold aX aL
    rfl
  have h2 : qent (X1 X q q2 u v) M0 56 1 = jar X 16 := by
    rfl
  rw [h1, h2]
  unfold LF
  rfl
set_option maxRecDepth 100000 in
theorem tP_56_2 {X : Cx} {q q2 : Nat} {u : T_Clay} {v : T_Mdl} : (LF X q q2 u v (e9X X q q2 u v))[189]? = some (aX q q2 u v 56 2, qent (X1 X q q2 u v) M0 56 2) := by
  have h1 : aX q q2 u v 56 2 = u.2.2.2.2.2.2.2.2.2.2.2.2.2.2.2.2.2.2.2.2.2.2.2.2.1.2.2.2.1 := by
    unfold aX aL
    rfl
  have h2 : qent (X1 X q q2 u v) M0 56 2 = jar X 16 := by
    rfl
  rw [h1, h2]
  unfold LF
  rfl
set_option maxRecDepth 100000 in
theorem tP_57_0 {X : Cx} {q q2 : Nat} {u : T_Clay} {v : T_Mdl} : (LF X q q2 u v (e9X X q q2 u v))[37]? = some (aX q q2 u v 57 0, qent (X1 X q q2 u v) M0 57 0) := by
  have h1 : aX q q2 u v 57 0 = u.2.2.2.2.2.2.2.1.2.2.2.2.1 := by
    unfold aX aL
    rfl
  have h2 : qent (X1 X q q2 u v) M0 57 0 = jar X 16 := by
    rfl
  rw [h1, h2]
  unfold LF
  rfl
set_option maxRecDepth 100000 in
theorem tP_57_1 {X : Cx} {q q2 : Nat} {u : T_Clay} {v : T_Mdl} : (LF X q q2 u v (e9X X q q2 u v))[78]? = some (aX q q2 u v 57 1, qent (X1 X q q2 u v) M0 57 1) := by
  have h1 : aX q q2 u v 57 1 = u.2.2.2.2.2.2.2.2.2.2.2.1.2.2.2.1.2.2.2.2.1 := by
    unfold aX aL
    rfl
  have h2 : qent (X1 X q q2 u v) M0 57 1 = jar X 16 := by
    rfl
  rw [h1, h2]
  unfold LF
  rfl
set_option maxRecDepth 100000 in
theorem tP_57_2 {X : Cx} {q q2 : Nat} {u : T_Clay} {v : T_Mdl} : (LF X q q2 u v (e9X X q q2 u v))[190]? = some (aX q q2 u v 57 2, qent (X1 X q q2 u v) M0 57 2) := by
  have h1 : aX q q2 u v 57 2 = u.2.2.2.2.2.2.2.2.2.2.2.2.2.2.2.2.2.2.2.2.2.2.2.2.1.2.2.2.2.1 := by
    unfold aX aL
    rfl
  have h2 : qent (X1 X q q2 u v) M0 57 2 = jar X 16 := by
    rfl
  rw [h1, h2]
  unfold LF
  rfl
def qTR7 : List (Nat × Nat × Nat) := [(72, 47, 1), (184, 47, 2), (32, 50, 0), (73, 50, 1), (185, 50, 2), (33, 53, 0), (74, 53, 1), (186, 53, 2), (34, 54, 0), (75, 54, 1), (187, 54, 2), (35, 55, 0), (76, 55, 1), (188, 55, 2), (36, 56, 0), (77, 56, 1), (189, 56, 2), (37, 57, 0), (78, 57, 1), (190, 57, 2)]
theorem aTR7 {X : Cx} {q q2 : Nat} {u : T_Clay} {v : T_Mdl} : ∀ t ∈ qTR7, (LF X q q2 u v (e9X X q q2 u v))[t.1]? = some (aX q q2 u v t.2.1 t.2.2, qent (X1 X q q2 u v) M0 t.2.1 t.2.2) := List.forall_mem_cons.mpr ⟨tP_47_1, List.forall_mem_cons.mpr ⟨tP_47_2, List.forall_mem_cons.mpr ⟨tP_50_0, List.forall_mem_cons.mpr ⟨tP_50_1, List.forall_mem_cons.mpr ⟨tP_50_2, List.forall_mem_cons.mpr ⟨tP_53_0, List.forall_mem_cons.mpr ⟨tP_53_1, List.forall_mem_cons.mpr ⟨tP_53_2, List.forall_mem_cons.mpr ⟨tP_54_0, List.forall_mem_cons.mpr ⟨tP_54_1, List.forall_mem_cons.mpr ⟨tP_54_2, List.forall_mem_cons.mpr ⟨tP_55_0, List.forall_mem_cons.mpr ⟨tP_55_1, List.forall_mem_cons.mpr ⟨tP_55_2, List.forall_mem_cons.mpr ⟨tP_56_0, List.forall_mem_cons.mpr ⟨tP_56_1, List.forall_mem_cons.mpr ⟨tP_56_2, List.forall_mem_cons.mpr ⟨tP_57_0, List.forall_mem_cons.mpr ⟨tP_57_1, List.forall_mem_cons.mpr ⟨tP_57_2, fun _ h => absurd h List.not_mem_nil⟩⟩⟩⟩⟩⟩⟩⟩⟩⟩⟩⟩⟩⟩⟩⟩⟩⟩⟩⟩
set_option maxRecDepth 100000 in
theorem tP_58_0 {X : Cx} {q q2 : Nat} {u : T_Clay} {v : T_Mdl} : (LF X q q2 u v (e9X X q q2 u v))[38]? = some (aX q q2 u v 58 0, qent (X1 X q q2 u v) M0 58 0) := by
  have h1 : aX q q2 u v 58 0 = u.2.2.2.2.2.2.2.1.2.2.2.2.2.1 := by
    unfold aX aL
    rfl
  have h2 : qent (X1 X q q2 u v) M0 58 0 = jar X 16 := by
    rfl
  rw [h1, h2]
  unfold LF
  rfl
set_option maxRecDepth 100000 in
theorem tP_58_1 {X : Cx} {q q2 : Nat} {u : T_Clay} {v : T_Mdl} : (LF X q q2 u v (e9X X q q2 u v))[79]? = some (aX q q2 u v 58 1, qent (X1 X q q2 u v) M0 58 1) := by
  have h1 : aX q q2 u v 58 1 = u.2.2.2.2.2.2.2.2.2.2.2.1.2.2.2.1.2.2.2.2.2.1 := by
    unfold aX aL
    rfl
  have h2 : qent (X1 X q q2 u v) M0 58 1 = jar X 16 := by
    rfl
  rw [h1, h2]
  unfold LF
  rfl
set_option maxRecDepth 100000 in
theorem tP_58_2 {X : Cx} {q q2 : Nat} {u : T_Clay} {v : T_Mdl} : (LF X q q2 u v (e9X X q q2 u v))[191]? = some (aX q q2 u v 58 2, qent (X1 X q q2 u v) M0 58 2) := by
  have h1 : aX q q2 u v 58 2 = u.2.2.2.2.2.2.2.2.2.2.2.2.2.2.2.2.2.2.2.2.2.2.2.2.1.2.2.2.2.2.1 := by
    unfold aX aL
    rfl
  have h2 : qent (X1 X q q2 u v) M0 58 2 = jar X 16 := by
    rfl
  rw [h1, h2]
  unfold LF
  rfl
set_option maxRecDepth 100000 in
theorem tP_59_0 {X : Cx} {q q2 : Nat} {u : T_Clay} {v : T_Mdl} : (LF X q q2 u v (e9X X q q2 u v))[39]? = some (aX q q2 u v 59 0, qent (X1 X q q2 u v) M0 59 0) := by
  have h1 : aX q q2 u v 59 0 = u.2.2.2.2.2.2.2.1.2.2.2.2.2.2.1 := by
    unfold aX aL
    rfl
  have h2 : qent (X1 X q q2 u v) M0 59 0 = jar X 64 := by
    rfl
  rw [h1, h2]
  unfold LF
  rfl
set_option maxRecDepth 100000 in
theorem tP_59_1 {X : Cx} {q q2 : Nat} {u : T_Clay} {v : T_Mdl} : (LF X q q2 u v (e9X X q q2 u v))[80]? = some (aX q q2 u v 59 1, qent (X1 X q q2 u v) M0 59 1) := by
  have h1 : aX q q2 u v 59 1 = u.2.2.2.2.2.2.2.2.2.2.2.1.2.2.2.1.2.2.2.2.2.2.1 := by
    unfold aX aL
    rfl
  have h2 : qent (X1 X q q2 u v) M0 59 1 = jar X 64 := by
    rfl
  rw [h1, h2]
  unfold LF
  rfl
set_option maxRecDepth 100000 in
theorem tP_59_2 {X : Cx} {q q2 : Nat} {u : T_Clay} {v : T_Mdl} : (LF X q q2 u v (e9X X q q2 u v))[192]? = some (aX q q2 u v 59 2, qent (X1 X q q2 u v) M0 59 2) := by
  have h1 : aX q q2 u v 59 2 = u.2.2.2.2.2.2.2.2.2.2.2.2.2.2.2.2.2.2.2.2.2.2.2.2.1.2.2.2.2.2.2.1 := by
    unfold aX aL
    rfl
  have h2 : qent (X1 X q q2 u v) M0 59 2 = jar X 64 := by
    rfl
  rw [h1, h2]
  unfold LF
  rfl
set_option maxRecDepth 100000 in
theorem tP_60_0 {X : Cx} {q q2 : Nat} {u : T_Clay} {v : T_Mdl} : (LF X q q2 u v (e9X X q q2 u v))[40]? = some (aX q q2 u v 60 0, qent (X1 X q q2 u v) M0 60 0) := by
  have h1 : aX q q2 u v 60 0 = u.2.2.2.2.2.2.2.1.2.2.2.2.2.2.2.1 := by
    unfold aX aL
    rfl
  have h2 : qent (X1 X q q2 u v) M0 60 0 = jar X 8 := by
    rfl
  rw [h1, h2]
  unfold LF
  rfl
set_option maxRecDepth 100000 in
theorem tP_60_1 {X : Cx} {q q2 : Nat} {u : T_Clay} {v : T_Mdl} : (LF X q q2 u v (e9X X q q2 u v))[81]? = some (aX q q2 u v 60 1, qent (X1 X q q2 u v) M0 60 1) := by
  have h1 : aX q q2 u v 60 1 = u.2.2.2.2.2.2.2.2.2.2.2.1.2.2.2.1.2.2.2.2.2.2.2.1 := by
    unfold aX aL
    rfl
  have h2 : qent (X1 X q q2 u v) M0 60 1 = jar X 8 := by
    rfl
  rw [h1, h2]
  unfold LF
  rfl
set_option maxRecDepth 100000 in
theorem tP_60_2 {X : Cx} {q q2 : Nat} {u : T_Clay} {v : T_Mdl} : (LF X q q2 u v (e9X X q q2 u v))[193]? = some (aX q q2 u v 60 2, qent (X1 X q q2 u v) M0 60 2) := by
  have h1 : aX q q2 u v 60 2 = u.2.2.2.2.2.2.2.2.2.2.2.2.2.2.2.2.2.2.2.2.2.2.2.2.1.2.2.2.2.2.2.2.1 := by
    unfold aX aL
    rfl
  have h2 : qent (X1 X q q2 u v) M0 60 2 = jar X 8 := by
    rfl
  rw [h1, h2]
  unfold LF
  rfl
set_option maxRecDepth 100000 in
theorem tP_61_0 {X : Cx} {q q2 : Nat} {u : T_Clay} {v : T_Mdl} : (LF X q q2 u v (e9X X q q2 u v))[41]? = some (aX q q2 u v 61 0, qent (X1 X q q2 u v) M0 61 0) := by
  have h1 : aX q q2 u v 61 0 = u.2.2.2.2.2.2.2.1.2.2.2.2.2.2.2.2 := by
    unfold aX aL
    rfl
  have h2 : qent (X1 X q q2 u v) M0 61 0 = jaz X 8 := by
    rfl
  rw [h1, h2]
  unfold LF
  rfl
set_option maxRecDepth 100000 in
theorem tP_61_1 {X : Cx} {q q2 : Nat} {u : T_Clay} {v : T_Mdl} : (LF X q q2 u v (e9X X q q2 u v))[82]? = some (aX q q2 u v 61 1, qent (X1 X q q2 u v) M0 61 1) := by
  have h1 : aX q q2 u v 61 1 = u.2.2.2.2.2.2.2.2.2.2.2.1.2.2.2.1.2.2.2.2.2.2.2.2 := by
    unfold aX aL
    rfl
  have h2 : qent (X1 X q q2 u v) M0 61 1 = jaz X 8 := by
    rfl
  rw [h1, h2]
  unfold LF
  rfl
set_option maxRecDepth 100000 in
theorem tP_61_2 {X : Cx} {q q2 : Nat} {u : T_Clay} {v : T_Mdl} : (LF X q q2 u v (e9X X q q2 u v))[194]? = some (aX q q2 u v 61 2, qent (X1 X q q2 u v) M0 61 2) := by
  have h1 : aX q q2 u v 61 2 = u.2.2.2.2.2.2.2.2.2.2.2.2.2.2.2.2.2.2.2.2.2.2.2.2.1.2.2.2.2.2.2.2.2 := by
    unfold aX aL
    rfl
  have h2 : qent (X1 X q q2 u v) M0 61 2 = jaz X 8 := by
    rfl
  rw [h1, h2]
  unfold LF
  rfl
set_option maxRecDepth 100000 in
theorem tP_70_0 {X : Cx} {q q2 : Nat} {u : T_Clay} {v : T_Mdl} : (LF X q q2 u v (e9X X q q2 u v))[42]? = some (aX q q2 u v 70 0, qent (X1 X q q2 u v) M0 70 0) := by
  have h1 : aX q q2 u v 70 0 = u.2.2.2.2.2.2.2.2.1 := by
    unfold aX aL
    rfl
  have h2 : qent (X1 X q q2 u v) M0 70 0 = .inr (7, oTh u.2.2.2.2.2.2.2.2.2.1) := by
    simp [qent, qcol, qCOLS, qfv, oTh, M0, xa, X1, aX, aL]
  rw [h1, h2]
  unfold LF
  rfl
set_option maxRecDepth 100000 in
theorem tP_70_1 {X : Cx} {q q2 : Nat} {u : T_Clay} {v : T_Mdl} : (LF X q q2 u v (e9X X q q2 u v))[195]? = some (aX q q2 u v 70 1, qent (X1 X q q2 u v) M0 70 1) := by
  have h1 : aX q q2 u v 70 1 = u.2.2.2.2.2.2.2.2.2.2.2.2.2.2.2.2.2.2.2.2.2.2.2.2.2.1 := by
    unfold aX aL
    rfl
  have h2 : qent (X1 X q q2 u v) M0 70 1 = .inr (7, oTh u.2.2.2.2.2.2.2.2.2.2.2.2.2.2.2.2.2.2.2.2.2.2.2.2.2.2) := by
    simp [qent, qcol, qCOLS, qfv, oTh, M0, xa, X1, aX, aL]
  rw [h1, h2]
  unfold LF
  rfl
set_option maxRecDepth 100000 in
theorem tP_71_0 {X : Cx} {q q2 : Nat} {u : T_Clay} {v : T_Mdl} : (LF X q q2 u v (e9X X q q2 u v))[43]? = some (aX q q2 u v 71 0, qent (X1 X q q2 u v) M0 71 0) := by
  have h1 : aX q q2 u v 71 0 = u.2.2.2.2.2.2.2.2.2.1.1 := by
    unfold aX aL
    rfl
  have h2 : qent (X1 X q q2 u v) M0 71 0 = jar X 6 := by
    rfl
  rw [h1, h2]
  unfold LF
  rfl
set_option maxRecDepth 100000 in
theorem tP_71_1 {X : Cx} {q q2 : Nat} {u : T_Clay} {v : T_Mdl} : (LF X q q2 u v (e9X X q q2 u v))[196]? = some (aX q q2 u v 71 1, qent (X1 X q q2 u v) M0 71 1) := by
  have h1 : aX q q2 u v 71 1 = u.2.2.2.2.2.2.2.2.2.2.2.2.2.2.2.2.2.2.2.2.2.2.2.2.2.2.1 := by
    unfold aX aL
    rfl
  have h2 : qent (X1 X q q2 u v) M0 71 1 = jar X 6 := by
    rfl
  rw [h1, h2]
  unfold LF
  rfl
set_option maxRecDepth 100000 in
theorem tP_72_0 {X : Cx} {q q2 : Nat} {u : T_Clay} {v : T_Mdl} : (LF X q q2 u v (e9X X q q2 u v))[44]? = some (aX q q2 u v 72 0, qent (X1 X q q2 u v) M0 72 0) := by
  have h1 : aX q q2 u v 72 0 = u.2.2.2.2.2.2.2.2.2.1.2.1 := by
    unfold aX aL
    rfl
  have h2 : qent (X1 X q q2 u v) M0 72 0 = .inl (xc X 0, 8, .inl G8) := by
    rfl
  rw [h1, h2]
  unfold LF
  rfl
set_option maxRecDepth 100000 in
theorem tP_72_1 {X : Cx} {q q2 : Nat} {u : T_Clay} {v : T_Mdl} : (LF X q q2 u v (e9X X q q2 u v))[197]? = some (aX q q2 u v 72 1, qent (X1 X q q2 u v) M0 72 1) := by
  have h1 : aX q q2 u v 72 1 = u.2.2.2.2.2.2.2.2.2.2.2.2.2.2.2.2.2.2.2.2.2.2.2.2.2.2.2.1 := by
    unfold aX aL
    rfl
  have h2 : qent (X1 X q q2 u v) M0 72 1 = .inl (xc X 0, 8, .inl G8) := by
    rfl
  rw [h1, h2]
  unfold LF
  rfl
set_option maxRecDepth 100000 in
theorem tP_73_0 {X : Cx} {q q2 : Nat} {u : T_Clay} {v : T_Mdl} : (LF X q q2 u v (e9X X q q2 u v))[60]? = some (aX q q2 u v 73 0, qent (X1 X q q2 u v) M0 73 0) := by
  have h1 : aX q q2 u v 73 0 = u.2.2.2.2.2.2.2.2.2.1.2.2.2.2.2.2.2.2.2.2.2.2.1 := by
    unfold aX aL
    rfl
  have h2 : qent (X1 X q q2 u v) M0 73 0 = jar X 31 := by
    rfl
  rw [h1, h2]
  unfold LF
  rfl
set_option maxRecDepth 100000 in
theorem tP_73_1 {X : Cx} {q q2 : Nat} {u : T_Clay} {v : T_Mdl} : (LF X q q2 u v (e9X X q q2 u v))[213]? = some (aX q q2 u v 73 1, qent (X1 X q q2 u v) M0 73 1) := by
  have h1 : aX q q2 u v 73 1 = u.2.2.2.2.2.2.2.2.2.2.2.2.2.2.2.2.2.2.2.2.2.2.2.2.2.2.2.2.2.2.2.2.2.2.2.2.2.2.1 := by
    unfold aX aL
    rfl
  have h2 : qent (X1 X q q2 u v) M0 73 1 = jar X 31 := by
    rfl
  rw [h1, h2]
  unfold LF
  rfl
def qTR8 : List (Nat × Nat × Nat) := [(38, 58, 0), (79, 58, 1), (191, 58, 2), (39, 59, 0), (80, 59, 1), (192, 59, 2), (40, 60, 0), (81, 60, 1), (193, 60, 2), (41, 61, 0), (82, 61, 1), (194, 61, 2), (42, 70, 0), (195, 70, 1), (43, 71, 0), (196, 71, 1), (44, 72, 0), (197, 72, 1), (60, 73, 0), (213, 73, 1)]
theorem aTR8 {X : Cx} {q q2 : Nat} {u : T_Clay} {v : T_Mdl} : ∀ t ∈ qTR8, (LF X q q2 u v (e9X X q q2 u v))[t.1]? = some (aX q q2 u v t.2.1 t.2.2, qent (X1 X q q2 u v) M0 t.2.1 t.2.2) := List.forall_mem_cons.mpr ⟨tP_58_0, List.forall_mem_cons.mpr ⟨tP_58_1, List.forall_mem_cons.mpr ⟨tP_58_2, List.forall_mem_cons.mpr ⟨tP_59_0, List.forall_mem_cons.mpr ⟨tP_59_1, List.forall_mem_cons.mpr ⟨tP_59_2, List.forall_mem_cons.mpr ⟨tP_60_0, List.forall_mem_cons.mpr ⟨tP_60_1, List.forall_mem_cons.mpr ⟨tP_60_2, List.forall_mem_cons.mpr ⟨tP_61_0, List.forall_mem_cons.mpr ⟨tP_61_1, List.forall_mem_cons.mpr ⟨tP_61_2, List.forall_mem_cons.mpr ⟨tP_70_0, List.forall_mem_cons.mpr ⟨tP_70_1, List.forall_mem_cons.mpr ⟨tP_71_0, List.forall_mem_cons.mpr ⟨tP_71_1, List.forall_mem_cons.mpr ⟨tP_72_0, List.forall_mem_cons.mpr ⟨tP_72_1, List.forall_mem_cons.mpr ⟨tP_73_0, List.forall_mem_cons.mpr ⟨tP_73_1, fun _ h => absurd h List.not_mem_nil⟩⟩⟩⟩⟩⟩⟩⟩⟩⟩⟩⟩⟩⟩⟩⟩⟩⟩⟩⟩
set_option maxRecDepth 100000 in
theorem tP_74_0 {X : Cx} {q q2 : Nat} {u : T_Clay} {v : T_Mdl} : (LF X q q2 u v (e9X X q q2 u v))[61]? = some (aX q q2 u v 74 0, qent (X1 X q q2 u v) M0 74 0) := by
  have h1 : aX q q2 u v 74 0 = u.2.2.2.2.2.2.2.2.2.1.2.2.2.2.2.2.2.2.2.2.2.2.2.1 := by
    unfold aX aL
    rfl
  have h2 : qent (X1 X q q2 u v) M0 74 0 = jar X 4 := by
    rfl
  rw [h1, h2]
  unfold LF
  rfl
set_option maxRecDepth 100000 in
theorem tP_74_1 {X : Cx} {q q2 : Nat} {u : T_Clay} {v : T_Mdl} : (LF X q q2 u v (e9X X q q2 u v))[214]? = some (aX q q2 u v 74 1, qent (X1 X q q2 u v) M0 74 1) := by
  have h1 : aX q q2 u v 74 1 = u.2.2.2.2.2.2.2.2.2.2.2.2.2.2.2.2.2.2.2.2.2.2.2.2.2.2.2.2.2.2.2.2.2.2.2.2.2.2.2.1 := by
    unfold aX aL
    rfl
  have h2 : qent (X1 X q q2 u v) M0 74 1 = jar X 4 := by
    rfl
  rw [h1, h2]
  unfold LF
  rfl
set_option maxRecDepth 100000 in
theorem tP_75_0 {X : Cx} {q q2 : Nat} {u : T_Clay} {v : T_Mdl} : (LF X q q2 u v (e9X X q q2 u v))[62]? = some (aX q q2 u v 75 0, qent (X1 X q q2 u v) M0 75 0) := by
  have h1 : aX q q2 u v 75 0 = u.2.2.2.2.2.2.2.2.2.1.2.2.2.2.2.2.2.2.2.2.2.2.2.2.1 := by
    unfold aX aL
    rfl
  have h2 : qent (X1 X q q2 u v) M0 75 0 = jar X 20 := by
    rfl
  rw [h1, h2]
  unfold LF
  rfl
set_option maxRecDepth 100000 in
theorem tP_75_1 {X : Cx} {q q2 : Nat} {u : T_Clay} {v : T_Mdl} : (LF X q q2 u v (e9X X q q2 u v))[215]? = some (aX q q2 u v 75 1, qent (X1 X q q2 u v) M0 75 1) := by
  have h1 : aX q q2 u v 75 1 = u.2.2.2.2.2.2.2.2.2.2.2.2.2.2.2.2.2.2.2.2.2.2.2.2.2.2.2.2.2.2.2.2.2.2.2.2.2.2.2.2.1 := by
    unfold aX aL
    rfl
  have h2 : qent (X1 X q q2 u v) M0 75 1 = jar X 20 := by
    rfl
  rw [h1, h2]
  unfold LF
  rfl
set_option maxRecDepth 100000 in
theorem tP_76_0 {X : Cx} {q q2 : Nat} {u : T_Clay} {v : T_Mdl} : (LF X q q2 u v (e9X X q q2 u v))[63]? = some (aX q q2 u v 76 0, qent (X1 X q q2 u v) M0 76 0) := by
  have h1 : aX q q2 u v 76 0 = u.2.2.2.2.2.2.2.2.2.1.2.2.2.2.2.2.2.2.2.2.2.2.2.2.2.1 := by
    unfold aX aL
    rfl
  have h2 : qent (X1 X q q2 u v) M0 76 0 = jar X 12 := by
    rfl
  rw [h1, h2]
  unfold LF
  rfl
set_option maxRecDepth 100000 in
theorem tP_76_1 {X : Cx} {q q2 : Nat} {u : T_Clay} {v : T_Mdl} : (LF X q q2 u v (e9X X q q2 u v))[216]? = some (aX q q2 u v 76 1, qent (X1 X q q2 u v) M0 76 1) := by
  have h1 : aX q q2 u v 76 1 = u.2.2.2.2.2.2.2.2.2.2.2.2.2.2.2.2.2.2.2.2.2.2.2.2.2.2.2.2.2.2.2.2.2.2.2.2.2.2.2.2.2.1 := by
    unfold aX aL
    rfl
  have h2 : qent (X1 X q q2 u v) M0 76 1 = jar X 12 := by
    rfl
  rw [h1, h2]
  unfold LF
  rfl
set_option maxRecDepth 100000 in
theorem tP_77_0 {X : Cx} {q q2 : Nat} {u : T_Clay} {v : T_Mdl} : (LF X q q2 u v (e9X X q q2 u v))[64]? = some (aX q q2 u v 77 0, qent (X1 X q q2 u v) M0 77 0) := by
  have h1 : aX q q2 u v 77 0 = u.2.2.2.2.2.2.2.2.2.1.2.2.2.2.2.2.2.2.2.2.2.2.2.2.2.2 := by
    unfold aX aL
    rfl
  have h2 : qent (X1 X q q2 u v) M0 77 0 = jar X 12 := by
    rfl
  rw [h1, h2]
  unfold LF
  rfl
set_option maxRecDepth 100000 in
theorem tP_77_1 {X : Cx} {q q2 : Nat} {u : T_Clay} {v : T_Mdl} : (LF X q q2 u v (e9X X q q2 u v))[217]? = some (aX q q2 u v 77 1, qent (X1 X q q2 u v) M0 77 1) := by
  have h1 : aX q q2 u v 77 1 = u.2.2.2.2.2.2.2.2.2.2.2.2.2.2.2.2.2.2.2.2.2.2.2.2.2.2.2.2.2.2.2.2.2.2.2.2.2.2.2.2.2.2 := by
    unfold aX aL
    rfl
  have h2 : qent (X1 X q q2 u v) M0 77 1 = jar X 12 := by
    rfl
  rw [h1, h2]
  unfold LF
  rfl
set_option maxRecDepth 100000 in
theorem tP_80_0 {X : Cx} {q q2 : Nat} {u : T_Clay} {v : T_Mdl} : (LF X q q2 u v (e9X X q q2 u v))[45]? = some (aX q q2 u v 80 0, qent (X1 X q q2 u v) M0 80 0) := by
  have h1 : aX q q2 u v 80 0 = u.2.2.2.2.2.2.2.2.2.1.2.2.1 := by
    unfold aX aL
    rfl
  have h2 : qent (X1 X q q2 u v) M0 80 0 = .inr (8, oTold10 u.2.2.2.2.2.2.2.2.2.1.2.2.2.1) := by
    simp [qent, qcol, qCOLS, qfv, oTold10, M0, xa, X1, aX, aL]
  rw [h1, h2]
  unfold LF
  rfl
set_option maxRecDepth 100000 in
theorem tP_80_1 {X : Cx} {q q2 : Nat} {u : T_Clay} {v : T_Mdl} : (LF X q q2 u v (e9X X q q2 u v))[198]? = some (aX q q2 u v 80 1, qent (X1 X q q2 u v) M0 80 1) := by
  have h1 : aX q q2 u v 80 1 = u.2.2.2.2.2.2.2.2.2.2.2.2.2.2.2.2.2.2.2.2.2.2.2.2.2.2.2.2.1 := by
    unfold aX aL
    rfl
  have h2 : qent (X1 X q q2 u v) M0 80 1 = .inr (8, oTold10 u.2.2.2.2.2.2.2.2.2.2.2.2.2.2.2.2.2.2.2.2.2.2.2.2.2.2.2.2.2.1) := by
    simp [qent, qcol, qCOLS, qfv, oTold10, M0, xa, X1, aX, aL]
  rw [h1, h2]
  unfold LF
  rfl
set_option maxRecDepth 100000 in
theorem tP_81_0 {X : Cx} {q q2 : Nat} {u : T_Clay} {v : T_Mdl} : (LF X q q2 u v (e9X X q q2 u v))[46]? = some (aX q q2 u v 81 0, qent (X1 X q q2 u v) M0 81 0) := by
  have h1 : aX q q2 u v 81 0 = u.2.2.2.2.2.2.2.2.2.1.2.2.2.1.1 := by
    unfold aX aL
    rfl
  have h2 : qent (X1 X q q2 u v) M0 81 0 = jar X 10 := by
    rfl
  rw [h1, h2]
  unfold LF
  rfl
set_option maxRecDepth 100000 in
theorem tP_81_1 {X : Cx} {q q2 : Nat} {u : T_Clay} {v : T_Mdl} : (LF X q q2 u v (e9X X q q2 u v))[199]? = some (aX q q2 u v 81 1, qent (X1 X q q2 u v) M0 81 1) := by
  have h1 : aX q q2 u v 81 1 = u.2.2.2.2.2.2.2.2.2.2.2.2.2.2.2.2.2.2.2.2.2.2.2.2.2.2.2.2.2.1.1 := by
    unfold aX aL
    rfl
  have h2 : qent (X1 X q q2 u v) M0 81 1 = jar X 10 := by
    rfl
  rw [h1, h2]
  unfold LF
  rfl
set_option maxRecDepth 100000 in
theorem tP_82_0 {X : Cx} {q q2 : Nat} {u : T_Clay} {v : T_Mdl} : (LF X q q2 u v (e9X X q q2 u v))[47]? = some (aX q q2 u v 82 0, qent (X1 X q q2 u v) M0 82 0) := by
  have h1 : aX q q2 u v 82 0 = u.2.2.2.2.2.2.2.2.2.1.2.2.2.1.2 := by
    unfold aX aL
    rfl
  have h2 : qent (X1 X q q2 u v) M0 82 0 = jar X 10 := by
    rfl
  rw [h1, h2]
  unfold LF
  rfl
set_option maxRecDepth 100000 in
theorem tP_82_1 {X : Cx} {q q2 : Nat} {u : T_Clay} {v : T_Mdl} : (LF X q q2 u v (e9X X q q2 u v))[200]? = some (aX q q2 u v 82 1, qent (X1 X q q2 u v) M0 82 1) := by
  have h1 : aX q q2 u v 82 1 = u.2.2.2.2.2.2.2.2.2.2.2.2.2.2.2.2.2.2.2.2.2.2.2.2.2.2.2.2.2.1.2 := by
    unfold aX aL
    rfl
  have h2 : qent (X1 X q q2 u v) M0 82 1 = jar X 10 := by
    rfl
  rw [h1, h2]
  unfold LF
  rfl
set_option maxRecDepth 100000 in
theorem tP_83_0 {X : Cx} {q q2 : Nat} {u : T_Clay} {v : T_Mdl} : (LF X q q2 u v (e9X X q q2 u v))[48]? = some (aX q q2 u v 83 0, qent (X1 X q q2 u v) M0 83 0) := by
  have h1 : aX q q2 u v 83 0 = u.2.2.2.2.2.2.2.2.2.1.2.2.2.2.1 := by
    unfold aX aL
    rfl
  have h2 : qent (X1 X q q2 u v) M0 83 0 = .inr (8, oTold10 u.2.2.2.2.2.2.2.2.2.1.2.2.2.2.2.1) := by
    simp [qent, qcol, qCOLS, qfv, oTold10, M0, xa, X1, aX, aL]
  rw [h1, h2]
  unfold LF
  rfl
set_option maxRecDepth 100000 in
theorem tP_83_1 {X : Cx} {q q2 : Nat} {u : T_Clay} {v : T_Mdl} : (LF X q q2 u v (e9X X q q2 u v))[201]? = some (aX q q2 u v 83 1, qent (X1 X q q2 u v) M0 83 1) := by
  have h1 : aX q q2 u v 83 1 = u.2.2.2.2.2.2.2.2.2.2.2.2.2.2.2.2.2.2.2.2.2.2.2.2.2.2.2.2.2.2.1 := by
    unfold aX aL
    rfl
  have h2 : qent (X1 X q q2 u v) M0 83 1 = .inr (8, oTold10 u.2.2.2.2.2.2.2.2.2.2.2.2.2.2.2.2.2.2.2.2.2.2.2.2.2.2.2.2.2.2.2.1) := by
    simp [qent, qcol, qCOLS, qfv, oTold10, M0, xa, X1, aX, aL]
  rw [h1, h2]
  unfold LF
  rfl
set_option maxRecDepth 100000 in
theorem tP_84_0 {X : Cx} {q q2 : Nat} {u : T_Clay} {v : T_Mdl} : (LF X q q2 u v (e9X X q q2 u v))[49]? = some (aX q q2 u v 84 0, qent (X1 X q q2 u v) M0 84 0) := by
  have h1 : aX q q2 u v 84 0 = u.2.2.2.2.2.2.2.2.2.1.2.2.2.2.2.1.1 := by
    unfold aX aL
    rfl
  have h2 : qent (X1 X q q2 u v) M0 84 0 = jar X 10 := by
    rfl
  rw [h1, h2]
  unfold LF
  rfl
set_option maxRecDepth 100000 in
theorem tP_84_1 {X : Cx} {q q2 : Nat} {u : T_Clay} {v : T_Mdl} : (LF X q q2 u v (e9X X q q2 u v))[202]? = some (aX q q2 u v 84 1, qent (X1 X q q2 u v) M0 84 1) := by
  have h1 : aX q q2 u v 84 1 = u.2.2.2.2.2.2.2.2.2.2.2.2.2.2.2.2.2.2.2.2.2.2.2.2.2.2.2.2.2.2.2.1.1 := by
    unfold aX aL
    rfl
  have h2 : qent (X1 X q q2 u v) M0 84 1 = jar X 10 := by
    rfl
  rw [h1, h2]
  unfold LF
  rfl
set_option maxRecDepth 100000 in
theorem tP_85_0 {X : Cx} {q q2 : Nat} {u : T_Clay} {v : T_Mdl} : (LF X q q2 u v (e9X X q q2 u v))[50]? = some (aX q q2 u v 85 0, qent (X1 X q q2 u v) M0 85 0) := by
  have h1 : aX q q2 u v 85 0 = u.2.2.2.2.2.2.2.2.2.1.2.2.2.2.2.1.2 := by
    unfold aX aL
    rfl
  have h2 : qent (X1 X q q2 u v) M0 85 0 = jar X 10 := by
    rfl
  rw [h1, h2]
  unfold LF
  rfl
set_option maxRecDepth 100000 in
theorem tP_85_1 {X : Cx} {q q2 : Nat} {u : T_Clay} {v : T_Mdl} : (LF X q q2 u v (e9X X q q2 u v))[203]? = some (aX q q2 u v 85 1, qent (X1 X q q2 u v) M0 85 1) := by
  have h1 : aX q q2 u v 85 1 = u.2.2.2.2.2.2.2.2.2.2.2.2.2.2.2.2.2.2.2.2.2.2.2.2.2.2.2.2.2.2.2.1.2 := by
    unfold aX aL
    rfl
  have h2 : qent (X1 X q q2 u v) M0 85 1 = jar X 10 := by
    rfl
  rw [h1, h2]
  unfold LF
  rfl
def qTR9 : List (Nat × Nat × Nat) := [(61, 74, 0), (214, 74, 1), (62, 75, 0), (215, 75, 1), (63, 76, 0), (216, 76, 1), (64, 77, 0), (217, 77, 1), (45, 80, 0), (198, 80, 1), (46, 81, 0), (199, 81, 1), (47, 82, 0), (200, 82, 1), (48, 83, 0), (201, 83, 1), (49, 84, 0), (202, 84, 1), (50, 85, 0), (203, 85, 1)]
theorem aTR9 {X : Cx} {q q2 : Nat} {u : T_Clay} {v : T_Mdl} : ∀ t ∈ qTR9, (LF X q q2 u v (e9X X q q2 u v))[t.1]? = some (aX q q2 u v t.2.1 t.2.2, qent (X1 X q q2 u v) M0 t.2.1 t.2.2) := List.forall_mem_cons.mpr ⟨tP_74_0, List.forall_mem_cons.mpr ⟨tP_74_1, List.forall_mem_cons.mpr ⟨tP_75_0, List.forall_mem_cons.mpr ⟨tP_75_1, List.forall_mem_cons.mpr ⟨tP_76_0, List.forall_mem_cons.mpr ⟨tP_76_1, List.forall_mem_cons.mpr ⟨tP_77_0, List.forall_mem_cons.mpr ⟨tP_77_1, List.forall_mem_cons.mpr ⟨tP_80_0, List.forall_mem_cons.mpr ⟨tP_80_1, List.forall_mem_cons.mpr ⟨tP_81_0, List.forall_mem_cons.mpr ⟨tP_81_1, List.forall_mem_cons.mpr ⟨tP_82_0, List.forall_mem_cons.mpr ⟨tP_82_1, List.forall_mem_cons.mpr ⟨tP_83_0, List.forall_mem_cons.mpr ⟨tP_83_1, List.forall_mem_cons.mpr ⟨tP_84_0, List.forall_mem_cons.mpr ⟨tP_84_1, List.forall_mem_cons.mpr ⟨tP_85_0, List.forall_mem_cons.mpr ⟨tP_85_1, fun _ h => absurd h List.not_mem_nil⟩⟩⟩⟩⟩⟩⟩⟩⟩⟩⟩⟩⟩⟩⟩⟩⟩⟩⟩⟩
set_option maxRecDepth 100000 in
theorem tP_86_0 {X : Cx} {q q2 : Nat} {u : T_Clay} {v : T_Mdl} : (LF X q q2 u v (e9X X q q2 u v))[51]? = some (aX q q2 u v 86 0, qent (X1 X q q2 u v) M0 86 0) := by
  have h1 : aX q q2 u v 86 0 = u.2.2.2.2.2.2.2.2.2.1.2.2.2.2.2.2.1 := by
    unfold aX aL
    rfl
  have h2 : qent (X1 X q q2 u v) M0 86 0 = .inr (8, oTold20 u.2.2.2.2.2.2.2.2.2.1.2.2.2.2.2.2.2.1) := by
    simp [qent, qcol, qCOLS, qfv, oTold20, M0, xa, X1, aX, aL]
  rw [h1, h2]
  unfold LF
  rfl
set_option maxRecDepth 100000 in
theorem tP_86_1 {X : Cx} {q q2 : Nat} {u : T_Clay} {v : T_Mdl} : (LF X q q2 u v (e9X X q q2 u v))[204]? = some (aX q q2 u v 86 1, qent (X1 X q q2 u v) M0 86 1) := by
  have h1 : aX q q2 u v 86 1 = u.2.2.2.2.2.2.2.2.2.2.2.2.2.2.2.2.2.2.2.2.2.2.2.2.2.2.2.2.2.2.2.2.1 := by
    unfold aX aL
    rfl
  have h2 : qent (X1 X q q2 u v) M0 86 1 = .inr (8, oTold20 u.2.2.2.2.2.2.2.2.2.2.2.2.2.2.2.2.2.2.2.2.2.2.2.2.2.2.2.2.2.2.2.2.2.1) := by
    simp [qent, qcol, qCOLS, qfv, oTold20, M0, xa, X1, aX, aL]
  rw [h1, h2]
  unfold LF
  rfl
set_option maxRecDepth 100000 in
theorem tP_87_0 {X : Cx} {q q2 : Nat} {u : T_Clay} {v : T_Mdl} : (LF X q q2 u v (e9X X q q2 u v))[52]? = some (aX q q2 u v 87 0, qent (X1 X q q2 u v) M0 87 0) := by
  have h1 : aX q q2 u v 87 0 = u.2.2.2.2.2.2.2.2.2.1.2.2.2.2.2.2.2.1.1 := by
    unfold aX aL
    rfl
  have h2 : qent (X1 X q q2 u v) M0 87 0 = jar X 20 := by
    rfl
  rw [h1, h2]
  unfold LF
  rfl
set_option maxRecDepth 100000 in
theorem tP_87_1 {X : Cx} {q q2 : Nat} {u : T_Clay} {v : T_Mdl} : (LF X q q2 u v (e9X X q q2 u v))[205]? = some (aX q q2 u v 87 1, qent (X1 X q q2 u v) M0 87 1) := by
  have h1 : aX q q2 u v 87 1 = u.2.2.2.2.2.2.2.2.2.2.2.2.2.2.2.2.2.2.2.2.2.2.2.2.2.2.2.2.2.2.2.2.2.1.1 := by
    unfold aX aL
    rfl
  have h2 : qent (X1 X q q2 u v) M0 87 1 = jar X 20 := by
    rfl
  rw [h1, h2]
  unfold LF
  rfl
set_option maxRecDepth 100000 in
theorem tP_88_0 {X : Cx} {q q2 : Nat} {u : T_Clay} {v : T_Mdl} : (LF X q q2 u v (e9X X q q2 u v))[53]? = some (aX q q2 u v 88 0, qent (X1 X q q2 u v) M0 88 0) := by
  have h1 : aX q q2 u v 88 0 = u.2.2.2.2.2.2.2.2.2.1.2.2.2.2.2.2.2.1.2 := by
    unfold aX aL
    rfl
  have h2 : qent (X1 X q q2 u v) M0 88 0 = jar X 20 := by
    rfl
  rw [h1, h2]
  unfold LF
  rfl
set_option maxRecDepth 100000 in
theorem tP_88_1 {X : Cx} {q q2 : Nat} {u : T_Clay} {v : T_Mdl} : (LF X q q2 u v (e9X X q q2 u v))[206]? = some (aX q q2 u v 88 1, qent (X1 X q q2 u v) M0 88 1) := by
  have h1 : aX q q2 u v 88 1 = u.2.2.2.2.2.2.2.2.2.2.2.2.2.2.2.2.2.2.2.2.2.2.2.2.2.2.2.2.2.2.2.2.2.1.2 := by
    unfold aX aL
    rfl
  have h2 : qent (X1 X q q2 u v) M0 88 1 = jar X 20 := by
    rfl
  rw [h1, h2]
  unfold LF
  rfl
set_option maxRecDepth 100000 in
theorem tP_89_0 {X : Cx} {q q2 : Nat} {u : T_Clay} {v : T_Mdl} : (LF X q q2 u v (e9X X q q2 u v))[54]? = some (aX q q2 u v 89 0, qent (X1 X q q2 u v) M0 89 0) := by
  have h1 : aX q q2 u v 89 0 = u.2.2.2.2.2.2.2.2.2.1.2.2.2.2.2.2.2.2.1 := by
    unfold aX aL
    rfl
  have h2 : qent (X1 X q q2 u v) M0 89 0 = .inr (8, oTold8 u.2.2.2.2.2.2.2.2.2.1.2.2.2.2.2.2.2.2.2.1) := by
    simp [qent, qcol, qCOLS, qfv, oTold8, M0, xa, X1, aX, aL]
  rw [h1, h2]
  unfold LF
  rfl
set_option maxRecDepth 100000 in
theorem tP_89_1 {X : Cx} {q q2 : Nat} {u : T_Clay} {v : T_Mdl} : (LF X q q2 u v (e9X X q q2 u v))[207]? = some (aX q q2 u v 89 1, qent (X1 X q q2 u v) M0 89 1) := by
  have h1 : aX q q2 u v 89 1 = u.2.2.2.2.2.2.2.2.2.2.2.2.2.2.2.2.2.2.2.2.2.2.2.2.2.2.2.2.2.2.2.2.2.2.1 := by
    unfold aX aL
    rfl
  have h2 : qent (X1 X q q2 u v) M0 89 1 = .inr (8, oTold8 u.2.2.2.2.2.2.2.2.2.2.2.2.2.2.2.2.2.2.2.2.2.2.2.2.2.2.2.2.2.2.2.2.2.2.2.1) := by
    simp [qent, qcol, qCOLS, qfv, oTold8, M0, xa, X1, aX, aL]
  rw [h1, h2]
  unfold LF
  rfl
set_option maxRecDepth 100000 in
theorem tP_90_0 {X : Cx} {q q2 : Nat} {u : T_Clay} {v : T_Mdl} : (LF X q q2 u v (e9X X q q2 u v))[55]? = some (aX q q2 u v 90 0, qent (X1 X q q2 u v) M0 90 0) := by
  have h1 : aX q q2 u v 90 0 = u.2.2.2.2.2.2.2.2.2.1.2.2.2.2.2.2.2.2.2.1.1 := by
    unfold aX aL
    rfl
  have h2 : qent (X1 X q q2 u v) M0 90 0 = jar X 8 := by
    rfl
  rw [h1, h2]
  unfold LF
  rfl
set_option maxRecDepth 100000 in
theorem tP_90_1 {X : Cx} {q q2 : Nat} {u : T_Clay} {v : T_Mdl} : (LF X q q2 u v (e9X X q q2 u v))[208]? = some (aX q q2 u v 90 1, qent (X1 X q q2 u v) M0 90 1) := by
  have h1 : aX q q2 u v 90 1 = u.2.2.2.2.2.2.2.2.2.2.2.2.2.2.2.2.2.2.2.2.2.2.2.2.2.2.2.2.2.2.2.2.2.2.2.1.1 := by
    unfold aX aL
    rfl
  have h2 : qent (X1 X q q2 u v) M0 90 1 = jar X 8 := by
    rfl
  rw [h1, h2]
  unfold LF
  rfl
set_option maxRecDepth 100000 in
theorem tP_91_0 {X : Cx} {q q2 : Nat} {u : T_Clay} {v : T_Mdl} : (LF X q q2 u v (e9X X q q2 u v))[56]? = some (aX q q2 u v 91 0, qent (X1 X q q2 u v) M0 91 0) := by
  have h1 : aX q q2 u v 91 0 = u.2.2.2.2.2.2.2.2.2.1.2.2.2.2.2.2.2.2.2.1.2 := by
    unfold aX aL
    rfl
  have h2 : qent (X1 X q q2 u v) M0 91 0 = jar X 8 := by
    rfl
  rw [h1, h2]
  unfold LF
  rfl
set_option maxRecDepth 100000 in
theorem tP_91_1 {X : Cx} {q q2 : Nat} {u : T_Clay} {v : T_Mdl} : (LF X q q2 u v (e9X X q q2 u v))[209]? = some (aX q q2 u v 91 1, qent (X1 X q q2 u v) M0 91 1) := by
  have h1 : aX q q2 u v 91 1 = u.2.2.2.2.2.2.2.2.2.2.2.2.2.2.2.2.2.2.2.2.2.2.2.2.2.2.2.2.2.2.2.2.2.2.2.1.2 := by
    unfold aX aL
    rfl
  have h2 : qent (X1 X q q2 u v) M0 91 1 = jar X 8 := by
    rfl
  rw [h1, h2]
  unfold LF
  rfl
set_option maxRecDepth 100000 in
theorem tP_92_0 {X : Cx} {q q2 : Nat} {u : T_Clay} {v : T_Mdl} : (LF X q q2 u v (e9X X q q2 u v))[57]? = some (aX q q2 u v 92 0, qent (X1 X q q2 u v) M0 92 0) := by
  have h1 : aX q q2 u v 92 0 = u.2.2.2.2.2.2.2.2.2.1.2.2.2.2.2.2.2.2.2.2.1 := by
    unfold aX aL
    rfl
  have h2 : qent (X1 X q q2 u v) M0 92 0 = .inr (8, oTold12 u.2.2.2.2.2.2.2.2.2.1.2.2.2.2.2.2.2.2.2.2.2.1) := by
    simp [qent, qcol, qCOLS, qfv, oTold12, M0, xa, X1, aX, aL]
  rw [h1, h2]
  unfold LF
  rfl
set_option maxRecDepth 100000 in
theorem tP_92_1 {X : Cx} {q q2 : Nat} {u : T_Clay} {v : T_Mdl} : (LF X q q2 u v (e9X X q q2 u v))[210]? = some (aX q q2 u v 92 1, qent (X1 X q q2 u v) M0 92 1) := by
  have h1 : aX q q2 u v 92 1 = u.2.2.2.2.2.2.2.2.2.2.2.2.2.2.2.2.2.2.2.2.2.2.2.2.2.2.2.2.2.2.2.2.2.2.2.2.1 := by
    unfold aX aL
    rfl
  have h2 : qent (X1 X q q2 u v) M0 92 1 = .inr (8, oTold12 u.2.2.2.2.2.2.2.2.2.2.2.2.2.2.2.2.2.2.2.2.2.2.2.2.2.2.2.2.2.2.2.2.2.2.2.2.2.1) := by
    simp [qent, qcol, qCOLS, qfv, oTold12, M0, xa, X1, aX, aL]
  rw [h1, h2]
  unfold LF
  rfl
set_option maxRecDepth 100000 in
theorem tP_93_0 {X : Cx} {q q2 : Nat} {u : T_Clay} {v : T_Mdl} : (LF X q q2 u v (e9X X q q2 u v))[58]? = some (aX q q2 u v 93 0, qent (X1 X q q2 u v) M0 93 0) := by
  have h1 : aX q q2 u v 93 0 = u.2.2.2.2.2.2.2.2.2.1.2.2.2.2.2.2.2.2.2.2.2.1.1 := by
    unfold aX aL
    rfl
  have h2 : qent (X1 X q q2 u v) M0 93 0 = jar X 12 := by
    rfl
  rw [h1, h2]
  unfold LF
  rfl
set_option maxRecDepth 100000 in
theorem tP_93_1 {X : Cx} {q q2 : Nat} {u : T_Clay} {v : T_Mdl} : (LF X q q2 u v (e9X X q q2 u v))[211]? = some (aX q q2 u v 93 1, qent (X1 X q q2 u v) M0 93 1) := by
  have h1 : aX q q2 u v 93 1 = u.2.2.2.2.2.2.2.2.2.2.2.2.2.2.2.2.2.2.2.2.2.2.2.2.2.2.2.2.2.2.2.2.2.2.2.2.2.1.1 := by
    unfold aX aL
    rfl
  have h2 : qent (X1 X q q2 u v) M0 93 1 = jar X 12 := by
    rfl
  rw [h1, h2]
  unfold LF
  rfl
set_option maxRecDepth 100000 in
theorem tP_94_0 {X : Cx} {q q2 : Nat} {u : T_Clay} {v : T_Mdl} : (LF X q q2 u v (e9X X q q2 u v))[59]? = some (aX q q2 u v 94 0, qent (X1 X q q2 u v) M0 94 0) := by
  have h1 : aX q q2 u v 94 0 = u.2.2.2.2.2.2.2.2.2.1.2.2.2.2.2.2.2.2.2.2.2.1.2 := by
    unfold aX aL
    rfl
  have h2 : qent (X1 X q q2 u v) M0 94 0 = jar X 12 := by
    rfl
  rw [h1, h2]
  unfold LF
  rfl
set_option maxRecDepth 100000 in
theorem tP_94_1 {X : Cx} {q q2 : Nat} {u : T_Clay} {v : T_Mdl} : (LF X q q2 u v (e9X X q q2 u v))[212]? = some (aX q q2 u v 94 1, qent (X1 X q q2 u v) M0 94 1) := by
  have h1 : aX q q2 u v 94 1 = u.2.2.2.2.2.2.2.2.2.2.2.2.2.2.2.2.2.2.2.2.2.2.2.2.2.2.2.2.2.2.2.2.2.2.2.2.2.1.2 := by
    unfold aX aL
    rfl
  have h2 : qent (X1 X q q2 u v) M0 94 1 = jar X 12 := by
    rfl
  rw [h1, h2]
  unfold LF
  rfl
set_option maxRecDepth 100000 in
theorem tP_100_0 {X : Cx} {q q2 : Nat} {u : T_Clay} {v : T_Mdl} : (LF X q q2 u v (e9X X q q2 u v))[218]? = some (aX q q2 u v 100 0, qent (X1 X q q2 u v) M0 100 0) := by
  have h1 : aX q q2 u v 100 0 = q2 := by
    unfold aX aL
    rfl
  have h2 : qent (X1 X q q2 u v) M0 100 0 = .inr (11, oMdl v) := by
    simp [qent, qcol, qCOLS, qfv, oMdl, M0, xa, X1, aX, aL]
  rw [h1, h2]
  unfold LF
  rfl
set_option maxRecDepth 100000 in
theorem tP_101_0 {X : Cx} {q q2 : Nat} {u : T_Clay} {v : T_Mdl} : (LF X q q2 u v (e9X X q q2 u v))[219]? = some (aX q q2 u v 101 0, qent (X1 X q q2 u v) M0 101 0) := by
  have h1 : aX q q2 u v 101 0 = v.1 := by
    unfold aX aL
    rfl
  have h2 : qent (X1 X q q2 u v) M0 101 0 = .inl (xc X 0, 2129, .inl (lnB 8)) := by
    rfl
  rw [h1, h2]
  unfold LF
  rfl
def qTR10 : List (Nat × Nat × Nat) := [(51, 86, 0), (204, 86, 1), (52, 87, 0), (205, 87, 1), (53, 88, 0), (206, 88, 1), (54, 89, 0), (207, 89, 1), (55, 90, 0), (208, 90, 1), (56, 91, 0), (209, 91, 1), (57, 92, 0), (210, 92, 1), (58, 93, 0), (211, 93, 1), (59, 94, 0), (212, 94, 1), (218, 100, 0), (219, 101, 0)]
theorem aTR10 {X : Cx} {q q2 : Nat} {u : T_Clay} {v : T_Mdl} : ∀ t ∈ qTR10, (LF X q q2 u v (e9X X q q2 u v))[t.1]? = some (aX q q2 u v t.2.1 t.2.2, qent (X1 X q q2 u v) M0 t.2.1 t.2.2) := List.forall_mem_cons.mpr ⟨tP_86_0, List.forall_mem_cons.mpr ⟨tP_86_1, List.forall_mem_cons.mpr ⟨tP_87_0, List.forall_mem_cons.mpr ⟨tP_87_1, List.forall_mem_cons.mpr ⟨tP_88_0, List.forall_mem_cons.mpr ⟨tP_88_1, List.forall_mem_cons.mpr ⟨tP_89_0, List.forall_mem_cons.mpr ⟨tP_89_1, List.forall_mem_cons.mpr ⟨tP_90_0, List.forall_mem_cons.mpr ⟨tP_90_1, List.forall_mem_cons.mpr ⟨tP_91_0, List.forall_mem_cons.mpr ⟨tP_91_1, List.forall_mem_cons.mpr ⟨tP_92_0, List.forall_mem_cons.mpr ⟨tP_92_1, List.forall_mem_cons.mpr ⟨tP_93_0, List.forall_mem_cons.mpr ⟨tP_93_1, List.forall_mem_cons.mpr ⟨tP_94_0, List.forall_mem_cons.mpr ⟨tP_94_1, List.forall_mem_cons.mpr ⟨tP_100_0, List.forall_mem_cons.mpr ⟨tP_101_0, fun _ h => absurd h List.not_mem_nil⟩⟩⟩⟩⟩⟩⟩⟩⟩⟩⟩⟩⟩⟩⟩⟩⟩⟩⟩⟩
set_option maxRecDepth 100000 in
theorem tP_102_0 {X : Cx} {q q2 : Nat} {u : T_Clay} {v : T_Mdl} : (LF X q q2 u v (e9X X q q2 u v))[220]? = some (aX q q2 u v 102 0, qent (X1 X q q2 u v) M0 102 0) := by
  have h1 : aX q q2 u v 102 0 = v.2.1 := by
    unfold aX aL
    rfl
  have h2 : qent (X1 X q q2 u v) M0 102 0 = jar X 2129 := by
    rfl
  rw [h1, h2]
  unfold LF
  rfl
set_option maxRecDepth 100000 in
theorem tP_103_0 {X : Cx} {q q2 : Nat} {u : T_Clay} {v : T_Mdl} : (LF X q q2 u v (e9X X q q2 u v))[221]? = some (aX q q2 u v 103 0, qent (X1 X q q2 u v) M0 103 0) := by
  have h1 : aX q q2 u v 103 0 = v.2.2.1 := by
    unfold aX aL
    rfl
  have h2 : qent (X1 X q q2 u v) M0 103 0 = jar X 1374 := by
    rfl
  rw [h1, h2]
  unfold LF
  rfl
set_option maxRecDepth 100000 in
theorem tP_104_0 {X : Cx} {q q2 : Nat} {u : T_Clay} {v : T_Mdl} : (LF X q q2 u v (e9X X q q2 u v))[222]? = some (aX q q2 u v 104 0, qent (X1 X q q2 u v) M0 104 0) := by
  have h1 : aX q q2 u v 104 0 = v.2.2.2.1 := by
    unfold aX aL
    rfl
  have h2 : qent (X1 X q q2 u v) M0 104 0 = jar X 229 := by
    rfl
  rw [h1, h2]
  unfold LF
  rfl
set_option maxRecDepth 100000 in
theorem tP_105_0 {X : Cx} {q q2 : Nat} {u : T_Clay} {v : T_Mdl} : (LF X q q2 u v (e9X X q q2 u v))[223]? = some (aX q q2 u v 105 0, qent (X1 X q q2 u v) M0 105 0) := by
  have h1 : aX q q2 u v 105 0 = v.2.2.2.2.1 := by
    unfold aX aL
    rfl
  have h2 : qent (X1 X q q2 u v) M0 105 0 = jar X 64 := by
    rfl
  rw [h1, h2]
  unfold LF
  rfl
set_option maxRecDepth 100000 in
theorem tP_106_0 {X : Cx} {q q2 : Nat} {u : T_Clay} {v : T_Mdl} : (LF X q q2 u v (e9X X q q2 u v))[224]? = some (aX q q2 u v 106 0, qent (X1 X q q2 u v) M0 106 0) := by
  have h1 : aX q q2 u v 106 0 = v.2.2.2.2.2.1 := by
    unfold aX aL
    rfl
  have h2 : qent (X1 X q q2 u v) M0 106 0 = jar X 820 := by
    rfl
  rw [h1, h2]
  unfold LF
  rfl
set_option maxRecDepth 100000 in
theorem tP_107_0 {X : Cx} {q q2 : Nat} {u : T_Clay} {v : T_Mdl} : (LF X q q2 u v (e9X X q q2 u v))[225]? = some (aX q q2 u v 107 0, qent (X1 X q q2 u v) M0 107 0) := by
  have h1 : aX q q2 u v 107 0 = v.2.2.2.2.2.2.1 := by
    unfold aX aL
    rfl
  have h2 : qent (X1 X q q2 u v) M0 107 0 = jar X 144 := by
    rfl
  rw [h1, h2]
  unfold LF
  rfl
set_option maxRecDepth 100000 in
theorem tP_108_0 {X : Cx} {q q2 : Nat} {u : T_Clay} {v : T_Mdl} : (LF X q q2 u v (e9X X q q2 u v))[226]? = some (aX q q2 u v 108 0, qent (X1 X q q2 u v) M0 108 0) := by
  have h1 : aX q q2 u v 108 0 = v.2.2.2.2.2.2.2.1 := by
    unfold aX aL
    rfl
  have h2 : qent (X1 X q q2 u v) M0 108 0 = jar X 400 := by
    rfl
  rw [h1, h2]
  unfold LF
  rfl
set_option maxRecDepth 100000 in
theorem tP_109_0 {X : Cx} {q q2 : Nat} {u : T_Clay} {v : T_Mdl} : (LF X q q2 u v (e9X X q q2 u v))[227]? = some (aX q q2 u v 109 0, qent (X1 X q q2 u v) M0 109 0) := by
  have h1 : aX q q2 u v 109 0 = v.2.2.2.2.2.2.2.2.1 := by
    unfold aX aL
    rfl
  have h2 : qent (X1 X q q2 u v) M0 109 0 = jar X 420 := by
    rfl
  rw [h1, h2]
  unfold LF
  rfl
set_option maxRecDepth 100000 in
theorem tP_110_0 {X : Cx} {q q2 : Nat} {u : T_Clay} {v : T_Mdl} : (LF X q q2 u v (e9X X q q2 u v))[228]? = some (aX q q2 u v 110 0, qent (X1 X q q2 u v) M0 110 0) := by
  have h1 : aX q q2 u v 110 0 = v.2.2.2.2.2.2.2.2.2.1 := by
    unfold aX aL
    rfl
  have h2 : qent (X1 X q q2 u v) M0 110 0 = jar X 11 := by
    rfl
  rw [h1, h2]
  unfold LF
  rfl
set_option maxRecDepth 100000 in
theorem tP_111_0 {X : Cx} {q q2 : Nat} {u : T_Clay} {v : T_Mdl} : (LF X q q2 u v (e9X X q q2 u v))[229]? = some (aX q q2 u v 111 0, qent (X1 X q q2 u v) M0 111 0) := by
  have h1 : aX q q2 u v 111 0 = v.2.2.2.2.2.2.2.2.2.2.1 := by
    unfold aX aL
    rfl
  have h2 : qent (X1 X q q2 u v) M0 111 0 = jar X 6 := by
    rfl
  rw [h1, h2]
  unfold LF
  rfl
set_option maxRecDepth 100000 in
theorem tP_112_0 {X : Cx} {q q2 : Nat} {u : T_Clay} {v : T_Mdl} : (LF X q q2 u v (e9X X q q2 u v))[230]? = some (aX q q2 u v 112 0, qent (X1 X q q2 u v) M0 112 0) := by
  have h1 : aX q q2 u v 112 0 = v.2.2.2.2.2.2.2.2.2.2.2.1 := by
    unfold aX aL
    rfl
  have h2 : qent (X1 X q q2 u v) M0 112 0 = jar X 5 := by
    rfl
  rw [h1, h2]
  unfold LF
  rfl
set_option maxRecDepth 100000 in
theorem tP_113_0 {X : Cx} {q q2 : Nat} {u : T_Clay} {v : T_Mdl} : (LF X q q2 u v (e9X X q q2 u v))[231]? = some (aX q q2 u v 113 0, qent (X1 X q q2 u v) M0 113 0) := by
  have h1 : aX q q2 u v 113 0 = v.2.2.2.2.2.2.2.2.2.2.2.2.1 := by
    unfold aX aL
    rfl
  have h2 : qent (X1 X q q2 u v) M0 113 0 = jar X 6 := by
    rfl
  rw [h1, h2]
  unfold LF
  rfl
set_option maxRecDepth 100000 in
theorem tP_114_0 {X : Cx} {q q2 : Nat} {u : T_Clay} {v : T_Mdl} : (LF X q q2 u v (e9X X q q2 u v))[232]? = some (aX q q2 u v 114 0, qent (X1 X q q2 u v) M0 114 0) := by
  have h1 : aX q q2 u v 114 0 = v.2.2.2.2.2.2.2.2.2.2.2.2.2.1 := by
    unfold aX aL
    rfl
  have h2 : qent (X1 X q q2 u v) M0 114 0 = jaj X 31 := by
    rfl
  rw [h1, h2]
  unfold LF
  rfl
set_option maxRecDepth 100000 in
theorem tP_115_0 {X : Cx} {q q2 : Nat} {u : T_Clay} {v : T_Mdl} : (LF X q q2 u v (e9X X q q2 u v))[233]? = some (aX q q2 u v 115 0, qent (X1 X q q2 u v) M0 115 0) := by
  have h1 : aX q q2 u v 115 0 = v.2.2.2.2.2.2.2.2.2.2.2.2.2.2.1 := by
    unfold aX aL
    rfl
  have h2 : qent (X1 X q q2 u v) M0 115 0 = jar X 4 := by
    rfl
  rw [h1, h2]
  unfold LF
  rfl
set_option maxRecDepth 100000 in
theorem tP_116_0 {X : Cx} {q q2 : Nat} {u : T_Clay} {v : T_Mdl} : (LF X q q2 u v (e9X X q q2 u v))[234]? = some (aX q q2 u v 116 0, qent (X1 X q q2 u v) M0 116 0) := by
  have h1 : aX q q2 u v 116 0 = v.2.2.2.2.2.2.2.2.2.2.2.2.2.2.2.1 := by
    unfold aX aL
    rfl
  have h2 : qent (X1 X q q2 u v) M0 116 0 = jar X 31 := by
    rfl
  rw [h1, h2]
  unfold LF
  rfl
set_option maxRecDepth 100000 in
theorem tP_117_0 {X : Cx} {q q2 : Nat} {u : T_Clay} {v : T_Mdl} : (LF X q q2 u v (e9X X q q2 u v))[235]? = some (aX q q2 u v 117 0, qent (X1 X q q2 u v) M0 117 0) := by
  have h1 : aX q q2 u v 117 0 = v.2.2.2.2.2.2.2.2.2.2.2.2.2.2.2.2.1 := by
    unfold aX aL
    rfl
  have h2 : qent (X1 X q q2 u v) M0 117 0 = jar X 8 := by
    rfl
  rw [h1, h2]
  unfold LF
  rfl
set_option maxRecDepth 100000 in
theorem tP_118_0 {X : Cx} {q q2 : Nat} {u : T_Clay} {v : T_Mdl} : (LF X q q2 u v (e9X X q q2 u v))[236]? = some (aX q q2 u v 118 0, qent (X1 X q q2 u v) M0 118 0) := by
  have h1 : aX q q2 u v 118 0 = v.2.2.2.2.2.2.2.2.2.2.2.2.2.2.2.2.2.1 := by
    unfold aX aL
    rfl
  have h2 : qent (X1 X q q2 u v) M0 118 0 = jar X 12 := by
    rfl
  rw [h1, h2]
  unfold LF
  rfl
set_option maxRecDepth 100000 in
theorem tP_119_0 {X : Cx} {q q2 : Nat} {u : T_Clay} {v : T_Mdl} : (LF X q q2 u v (e9X X q q2 u v))[237]? = some (aX q q2 u v 119 0, qent (X1 X q q2 u v) M0 119 0) := by
  have h1 : aX q q2 u v 119 0 = v.2.2.2.2.2.2.2.2.2.2.2.2.2.2.2.2.2.2 := by
    unfold aX aL
    rfl
  have h2 : qent (X1 X q q2 u v) M0 119 0 = jar X 12 := by
    rfl
  rw [h1, h2]
  unfold LF
  rfl
def qTR11 : List (Nat × Nat × Nat) := [(220, 102, 0), (221, 103, 0), (222, 104, 0), (223, 105, 0), (224, 106, 0), (225, 107, 0), (226, 108, 0), (227, 109, 0), (228, 110, 0), (229, 111, 0), (230, 112, 0), (231, 113, 0), (232, 114, 0), (233, 115, 0), (234, 116, 0), (235, 117, 0), (236, 118, 0), (237, 119, 0)]
theorem aTR11 {X : Cx} {q q2 : Nat} {u : T_Clay} {v : T_Mdl} : ∀ t ∈ qTR11, (LF X q q2 u v (e9X X q q2 u v))[t.1]? = some (aX q q2 u v t.2.1 t.2.2, qent (X1 X q q2 u v) M0 t.2.1 t.2.2) := List.forall_mem_cons.mpr ⟨tP_102_0, List.forall_mem_cons.mpr ⟨tP_103_0, List.forall_mem_cons.mpr ⟨tP_104_0, List.forall_mem_cons.mpr ⟨tP_105_0, List.forall_mem_cons.mpr ⟨tP_106_0, List.forall_mem_cons.mpr ⟨tP_107_0, List.forall_mem_cons.mpr ⟨tP_108_0, List.forall_mem_cons.mpr ⟨tP_109_0, List.forall_mem_cons.mpr ⟨tP_110_0, List.forall_mem_cons.mpr ⟨tP_111_0, List.forall_mem_cons.mpr ⟨tP_112_0, List.forall_mem_cons.mpr ⟨tP_113_0, List.forall_mem_cons.mpr ⟨tP_114_0, List.forall_mem_cons.mpr ⟨tP_115_0, List.forall_mem_cons.mpr ⟨tP_116_0, List.forall_mem_cons.mpr ⟨tP_117_0, List.forall_mem_cons.mpr ⟨tP_118_0, List.forall_mem_cons.mpr ⟨tP_119_0, fun _ h => absurd h List.not_mem_nil⟩⟩⟩⟩⟩⟩⟩⟩⟩⟩⟩⟩⟩⟩⟩⟩⟩⟩
def qTR : List (Nat × Nat × Nat) := qTR0 ++ (qTR1 ++ (qTR2 ++ (qTR3 ++ (qTR4 ++ (qTR5 ++ (qTR6 ++ (qTR7 ++ (qTR8 ++ (qTR9 ++ (qTR10 ++ (qTR11)))))))))))
theorem aTR {X : Cx} {q q2 : Nat} {u : T_Clay} {v : T_Mdl} : ∀ t ∈ qTR, (LF X q q2 u v (e9X X q q2 u v))[t.1]? = some (aX q q2 u v t.2.1 t.2.2, qent (X1 X q q2 u v) M0 t.2.1 t.2.2) := List.forall_mem_append.mpr ⟨aTR0, List.forall_mem_append.mpr ⟨aTR1, List.forall_mem_append.mpr ⟨aTR2, List.forall_mem_append.mpr ⟨aTR3, List.forall_mem_append.mpr ⟨aTR4, List.forall_mem_append.mpr ⟨aTR5, List.forall_mem_append.mpr ⟨aTR6, List.forall_mem_append.mpr ⟨aTR7, List.forall_mem_append.mpr ⟨aTR8, List.forall_mem_append.mpr ⟨aTR9, List.forall_mem_append.mpr ⟨aTR10, aTR11⟩⟩⟩⟩⟩⟩⟩⟩⟩⟩⟩
set_option maxRecDepth 100000 in
theorem qTR_1 : qTR.map (fun t => t.1) = qPL := by decide +kernel
set_option maxRecDepth 100000 in
theorem qTR_2 : qTR.map (fun t => t.2) = qPAIRS := by decide +kernel
theorem LF_at {X : Cx} {q q2 : Nat} {u : T_Clay} {v : T_Mdl} : qPL.map (fun i => (LF X q q2 u v (e9X X q q2 u v))[i]?) = (qwl (X1 X q q2 u v) M0).map some := by
  unfold qwl
  rw [← qTR_1, ← qTR_2, List.map_map, List.map_map, List.map_map]
  exact List.map_congr_left (fun t ht => aTR t ht)

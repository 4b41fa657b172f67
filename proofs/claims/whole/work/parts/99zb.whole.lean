/-! the law from its entry -/
theorem jw_last {w mk : va_W} {y z : Nat × va_E} : jw (w ++ [y]) w.length z mk = w ++ z :: mk := by
  unfold jw
  rw [List.set_append_right _ _ (Nat.le_refl _), Nat.sub_self, List.append_assoc]
  rfl
theorem l_init {T : Type} {X : Cx} {base : Nat} {p : Program} {e : Env} {R : Room} {s : State} {m : MethodId} {args : Array Value} {below : List Frame} {meth : Method} {c : Code} {H : Heap} {locs : List Loc} {cells slots : Nat} {Q : State → Prop} {pc : Nat} {ls : Array Slot} {rest : List Value} {ws : va_W} {k a ci : Nat} {y : MethodName} {bt' : ByteArray} {ml' : Nat} {rm' : Room} {d0 : List Value} {nc ns : Nat} {o : T → List Value} {mk : T → va_W}
    (F : CallFix p m c code 4 s args qgw "ClayBootsLaw") (hG : JG X base s) (hls : ls.size = 4) (hP : va_P (xD X) qcl ws H) (hD : va_D (jA base) ws) (hS : va_S (jA base) s.heap H locs) (hk : ws[k]? = some (a, .inr (ci, d0))) (hM : CI X base y bt' ml' rm' ci d0 [] nc ns o mk)
    {index : Nat} (hl : Cond.methodLink "ClayBootsLaw" index y ∈ qgw) (hcode : Cond.code y bt' ml' none ∈ qgw) (hini : Cond.initialized y.cls ∈ qgw) (hin : Cond.instanceMethod y ∈ qgw) (hy : y.name = "<init>") (hd : y.cls ≠ "java/lang/invoke/MethodHandle" ∧ y.cls ≠ "java/lang/invoke/VarHandle" ∧ (parseMethodDescriptor y.desc).map (fun d => d.parameters.length) = some 0) (hrc : rm'.cells = nc) (hrs : rm'.slots = ns) (hR : rm'.frames + 1 ≤ R.frames ∧ 8 + (ml' + 11) + rm'.locals ≤ R.locals) (hc2 : cells + nc ≤ R.cells) (hs2 : slots + ns ≤ R.slots) (hW : (rest.map fun v => v.category).sum ≤ 8) (hdg : decode code pc = .ok (.invokespecial index, 3))
    (kk : ∀ (u : T) (H1 : Heap) (locs1 : List Loc), va_P (xD X) qcl (jw ws k (a, .inr (ci, o u)) (mk u)) H1 → va_D (jA base) (jw ws k (a, .inr (ci, o u)) (mk u)) → va_S (jA base) s.heap H1 locs1 → W p (xl X) e R s m args below meth c H1 locs1 (cells + nc) (slots + ns) Q (F0 m (pc + 3) ls rest)) : W p (xl X) e R s m args below meth c H locs cells slots Q (F0 m pc ls (.ref a :: rest)) := by
  obtain ⟨hx, hb, hml, hown, hts⟩ := F
  have hMt := hM ws k a hk
  have hpre : PreS s H (va_Pc [.ref a] (fun U => JG X base U ∧ va_P (xD X) qcl ws U.heap ∧ va_D (jA base) ws)) [.ref a] := by
    refine ⟨fun a U g mk' hq => ?_, fun U hU hWm => ⟨rfl, hG.move hWm (by rw [hU]; exact Nat.le_trans hG.2.2.2 hS.1), by rw [hU]; exact hP, hD⟩⟩
    obtain ⟨q0, ⟨g1, g2, g3, g4⟩, q2, q3⟩ := hq
    exact ⟨q0, ⟨va_K.moved (u := U) (U := U.calling g mk' a) (Vm.Alike.refl U.vm) g1, fun w hw => by
      obtain ⟨z1, z2, z3, z4, rfl⟩ : ∃ a i x hh, w = .methodLinkNest a i x hh := by
        simp only [qNW, List.mem_cons, List.not_mem_nil, or_false] at hw
        rcases hw with h | h | h | h | h | h | h | h | h | h | h | h | h | h | h | h <;> exact ⟨_, _, _, _, h⟩
      exact va_Nw.same rfl (u := U) (U := U.calling g mk' a) rfl (g2 _ hw), va_AO.moved (u := U) (U := U.calling g mk' a) (Vm.Alike.refl U.vm) g3, g4⟩, q2, q3⟩
  have hr := va_runI (cells := cells) (slots := slots) (locs := locs) (below := below) (meth := meth) (e := e) (R := R) (g := F0 m pc ls (.ref a :: rest)) (rest := rest) (Ts := qgw) (As := []) (bytes := bt') (maxL := ml') ⟨hx, hb, hml, hown, hts⟩ hMt ⟨callB_of (R := R) 0 hts (good_any hcode) rfl hrc hrs (hts _ hini) (hts _ hl) hd hR, hy, hts _ hin⟩ hpre rfl rfl hls rfl (lv_room' hW) hdg ⟨hc2, hs2⟩
  refine run_W2 hr hS (fun _ h => h) (fun st o t hq => hq.2.2) (fun v st t H1 locs1 hq hH hS1 => ?_)
  obtain ⟨hv, ⟨u, hP1, hD1⟩, -⟩ := hq
  cases hv
  rw [hH] at hP1
  exact kk u H1 locs1 hP1 hD1 hS1
set_option maxRecDepth 100000 in
set_option maxHeartbeats 4000000 in
theorem whole_start {p : Program} {e : Env} {s : State} {m : MethodId} {below : List Frame} {meth : Method} {c : Code} (l : Launch) {b L : Nat} {xs : Nat → Int32} (hL : L ≤ 3072) (C0 : lw_At p s m meth c b L xs) : W p l e room_1 s m #[Value.ref b] below meth c s.heap [] 0 0 (lw_Z below #[Value.ref b] s) (entryFrame m ([Value.ref b] : List Value).toArray 4) := by
  obtain ⟨X, rfl, hJ, hSG⟩ := st_given l C0
  obtain ⟨hx, hb, hr, hml, hown, hts, hX, hbl, hlk, hgv⟩ := C0
  have hg : ∀ w ∈ qgw, w.before #[Value.ref b] s = true := fun w hw => hts w (List.mem_filter.mp hw).1
  have F : CallFix p m c code 4 s #[Value.ref b] qgw "ClayBootsLaw" := ⟨hx, hb, hml, hown, hg⟩
  have hS : va_S (jA s.heap.size) s.heap s.heap [] := va_S.rf
  have hP : va_P (xD X) qcl [] s.heap := fun k q hk => by cases hk
  have hD : va_D (jA s.heap.size) [] := ⟨fun i j p q hi => (by cases hi), fun k q hk => (by cases hk)⟩
  have hl := lv_entry ([.ref b]) (n := 4) (Nat.le_of_ble_eq_true rfl)
  rw [lg_entry_eq]
  generalize (lg_sl ([.ref b]) ++ List.replicate (4 - (lg_sl ([.ref b])).length) Slot.unset).toArray = ls at hl ⊢
  have hl : lv_has ls 4 [(0, .ref b)] := hl
  refine va_new (ci := 10) (own := "ClayBootsLaw") (index := 7) hx hb hg (qLW_in (by decide)) (qty 10) (qty_in (by decide)) hown (hg _ (qgw_of (i := 133) rfl rfl)) (hg _ (qgw_of (i := 134) rfl rfl)) (hg _ (qgw_of (i := 114) rfl rfl)) hJ.1 hP hD hS (fun q hq => hq) (qcl_at (by decide)) qdf_at (by decide) (by decide) (show decode code 0 = .ok (.new 7, 3) from by decide +kernel) (fun q H hP hD hS => ?_)
  rw [qdf_10] at hP hD
  refine lv_dup hx hb (show decode code 3 = .ok (.dup, 1) from by decide +kernel) rfl ?_
  refine l_init F hJ hl.1 hP hD hS (k := 0) rfl (ci_Clay (X := X) (base := s.heap.size)) (qgw_of (i := 135) rfl rfl) (qgw_of (i := 137) rfl rfl) (qgw_of (i := 114) rfl rfl) (qgw_of (i := 136) rfl rfl) rfl ⟨by decide, by decide, by decide +kernel⟩ rfl rfl ⟨by decide, by decide⟩ (by decide) (by decide) (Nat.le_of_ble_eq_true rfl) (show decode code 4 = .ok (.invokespecial 9, 3) from by decide +kernel) (fun u H locs hP hD hS => ?_)
  refine lv_astore_n (lv' := [(1, .ref q), (0, .ref b)]) hx hb (show decode code 7 = .ok (.astore_n 1, 1) from by decide +kernel) rfl hl (by decide) rfl (fun ls hl => ?_)
  have hP : va_P (xD X) qcl ((q, .inr (10, oClay u)) :: mkClay X u) H := hP
  have hD : va_D (jA s.heap.size) ((q, .inr (10, oClay u)) :: mkClay X u) := hD
  refine va_new (ci := 11) (own := "ClayBootsLaw") (index := 10) hx hb hg (qLW_in (by decide)) (qty 11) (qty_in (by decide)) hown (hg _ (qgw_of (i := 1301) rfl rfl)) (hg _ (qgw_of (i := 1302) rfl rfl)) (hg _ (qgw_of (i := 126) rfl rfl)) hJ.1 hP hD hS (fun q hq => hq) (qcl_at (by decide)) qdf_at (by decide) (by decide) (show decode code 8 = .ok (.new 10, 3) from by decide +kernel) (fun q2 H hP hD hS => ?_)
  rw [qdf_11] at hP hD
  refine lv_dup hx hb (show decode code 11 = .ok (.dup, 1) from by decide +kernel) rfl ?_
  refine l_init F hJ hl.1 hP hD hS (k := ((q, Sum.inr (10, oClay u)) :: mkClay X u).length) List.getElem?_concat_length (ci_Mdl (X := X) (base := s.heap.size)) (qgw_of (i := 1303) rfl rfl) (qgw_of (i := 1305) rfl rfl) (qgw_of (i := 126) rfl rfl) (qgw_of (i := 1304) rfl rfl) rfl ⟨by decide, by decide, by decide +kernel⟩ rfl rfl ⟨by decide, by decide⟩ (by decide) (by decide) (Nat.le_of_ble_eq_true rfl) (show decode code 12 = .ok (.invokespecial 12, 3) from by decide +kernel) (fun v H locs hP hD hS => ?_)
  rw [jw_last, LF_eq] at hP hD
  refine lv_astore_n (lv' := [(2, .ref q2), (1, .ref q), (0, .ref b)]) hx hb (show decode code 15 = .ok (.astore_n 2, 1) from by decide +kernel) rfl hl (by decide) rfl (fun ls hl => ?_)
  refine lv_iconst (v := 0) hx hb (show decode code 16 = .ok (.iconst 0, 1) from by decide +kernel) (by decide) ?_
  refine lv_istore_n (lv' := [(3, .int 0), (2, .ref q2), (1, .ref q), (0, .ref b)]) hx hb (show decode code 17 = .ok (.istore_n 3, 1) from by decide +kernel) rfl hl (by decide) rfl (fun ls hl => ?_)
  obtain ⟨hR, hD2⟩ := world_R hP hD
  obtain ⟨hXD, hin⟩ := world_XD hD2
  obtain ⟨g1, g2, g3, vF, hvF, g4⟩ := hSG
  have hG : Gd (X1 X q q2 u v) s s.heap := ⟨hXD, hJ.1, hJ.2.1, g1, g2.narrow hin, g3.narrow hin, vF, hvF, g4.narrow hin⟩
  have C : LC (X1 X q q2 u v) b L xs p s m #[Value.ref b] c := ⟨hx, hb, hml, hown, hg, hX, hbl, hG, hin, hL⟩
  refine l_loop (X := X1 X q q2 u v) C (by decide) (by decide) (by decide) (by decide) (fun H locs ls hS => ?_) 512 0 (by omega) (by omega) M0 H locs ls hl hR inv0 hS
  refine W.widen (k := 600000) (n := 7302250) (by decide) (by decide) ?_
  refine va_forget (fun z hz => hS.2.2 z hz) ?_
  refine lv_iconst (v := 1) hx hb (show decode code 1627 = .ok (.iconst 1, 1) from by decide +kernel) (by decide) ?_
  exact lw_ret hx hb hr hlk (show decode code 1628 = .ok (.ireturn, 1) from by decide +kernel)

/-! the world, whole -/
theorem jas_swap {D : va_G} {cl : List vw_C} {X : Cx} {a n : Nat} {f g : Nat → Option Nat} {H : Heap} (h : va_at D cl (a, jas X n f) H) (hfg : ∀ j, j < n → f j = g j) : va_at D cl (a, jas X n g) H := by
  have h1 : H[a]? = some (vp_cell (xc X 3) (n, .inr (.inr (.inr (.inr f))))) := h
  show H[a]? = some (vp_cell (xc X 3) (n, .inr (.inr (.inr (.inr g)))))
  rw [h1, vp_cell_q, vp_cell_q]
  congr 1
  unfold arrV
  congr 1
  apply Array.ext
  · simp
  · intro i h1 h2
    simp only [Array.size_ofFn] at h1
    simp only [Array.getElem_ofFn]
    rw [hfg i h1]
theorem va_P.swp {D : va_G} {cl : List vw_C} {ws : va_W} {H : Heap} {i : Nat} {x y : Nat × va_E} (h : va_P D cl ws H) (hi : ws[i]? = some x) (hxy : va_at D cl x H → va_at D cl y H) : va_P D cl (ws.set i y) H := by
  intro k z hk
  by_cases hki : i = k
  · subst hki
    rw [List.getElem?_set_self (List.getElem?_eq_some_iff.mp hi).1] at hk
    cases hk
    exact hxy (h i x hi)
  · rw [List.getElem?_set_ne hki] at hk
    exact h k z hk
set_option maxRecDepth 100000 in
theorem PF_at {q q2 : Nat} {u : T_Clay} {v : T_Mdl} : ∀ j, j < 6 → PF u.2.2.2.2.2.2.2.2.2.2.2.2.2.2.2.2.2.1 j = some (aX q q2 u v 20 (2 + j)) := by
  intro j hj
  match j, hj with
  | 0, _ => rfl
  | 1, _ => rfl
  | 2, _ => rfl
  | 3, _ => rfl
  | 4, _ => rfl
  | 5, _ => rfl
theorem world_R {X : Cx} {base q q2 : Nat} {u : T_Clay} {v : T_Mdl} {H : Heap} (hP : va_P (xD X) qcl (LF X q q2 u v (jas X 6 (PF u.2.2.2.2.2.2.2.2.2.2.2.2.2.2.2.2.2.1))) H) (hD : va_D (jA base) (LF X q q2 u v (jas X 6 (PF u.2.2.2.2.2.2.2.2.2.2.2.2.2.2.2.2.2.1)))) : Rp (X1 X q q2 u v) M0 H ∧ va_D (jA base) (qwl (X1 X q q2 u v) M0) := by
  have hP2 := hP.swp LF_9 (y := (_, e9X X q q2 u v)) (fun h => jas_swap h (fun j hj => PF_at (q := q) (q2 := q2) (v := v) j hj))
  have hD2 := hD.set (e := e9X X q q2 u v) LF_9
  rw [LF_set] at hP2 hD2
  have hs := LF_at (X := X) (q := q) (q2 := q2) (u := u) (v := v)
  refine ⟨hP2.sub qPL ?_, hD2.sub qPL qPL_nd hs⟩
  have h3 := congrArg (fun l => l.filterMap id) hs
  simp only [List.filterMap_map] at h3
  rw [show (id ∘ some : Nat × va_E → Option (Nat × va_E)) = some from rfl, List.filterMap_some] at h3
  exact h3
theorem world_XD {X : Cx} {base q q2 : Nat} {u : T_Clay} {v : T_Mdl} (hD : va_D (jA base) (qwl (X1 X q q2 u v) M0)) : XD (X1 X q q2 u v) ∧ ∀ z, inW (X1 X q q2 u v) z → base ≤ z := by
  refine ⟨fun p hp r hr he => ?_, fun z hz => ?_⟩
  · obtain ⟨i, g1, g2⟩ := wl_get (X := X1 X q q2 u v) (M := M0) (c := p.1) (a := p.2) hp
    obtain ⟨j, k1, k2⟩ := wl_get (X := X1 X q q2 u v) (M := M0) (c := r.1) (a := r.2) hr
    have hij := hD.1 i j _ _ g1 k1 he
    subst hij
    rw [g2] at k2
    have k3 := Option.some.inj k2
    exact Prod.ext (congrArg Prod.fst k3) (congrArg Prod.snd k3)
  · obtain ⟨p, hp, rfl⟩ := hz
    obtain ⟨i, g1, g2⟩ := wl_get (X := X1 X q q2 u v) (M := M0) (c := p.1) (a := p.2) hp
    exact hD.2 i _ g1

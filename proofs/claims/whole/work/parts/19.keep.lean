/-! what stays -/
def Keep (P : Nat → Nat → Prop) (R : Nat → Prop) (M M2 : Mem) : Prop := (∀ c a, ¬ P c a → c ≠ 101 → M2.1 c a = M.1 c a) ∧ ∀ k, ¬ R k → M2.1 101 0 k = M.1 101 0 k
theorem kp_refl {P : Nat → Nat → Prop} {R : Nat → Prop} {M : Mem} : Keep P R M M := ⟨fun _ _ _ _ => rfl, fun _ _ => rfl⟩
theorem kp_trans {P : Nat → Nat → Prop} {R : Nat → Prop} {M M2 M3 : Mem} (h : Keep P R M M2) (h2 : Keep P R M2 M3) : Keep P R M M3 := ⟨fun c a hp hc => (h2.1 c a hp hc).trans (h.1 c a hp hc), fun k hk => (h2.2 k hk).trans (h.2 k hk)⟩
theorem kp_st {P : Nat → Nat → Prop} {R : Nat → Prop} {M : Mem} {c a j : Nat} {x : Int32} (h : P c a) (hc : c ≠ 101) : Keep P R M (st M c a j x) := by
  refine ⟨fun c' a' hp _ => st_ne (fun z => hp ?_), fun k _ => by rw [st_ne (fun z => hc z.1.symm)]⟩
  rw [z.1, z.2]
  exact h
theorem kp_w {P : Nat → Nat → Prop} {R : Nat → Prop} {M : Mem} {k : Nat} {x : Int32} (h : R k) : Keep P R M (st M 101 0 k x) := by
  refine ⟨fun c' a' _ hc => st_ne (fun z => hc z.1), fun k' hk' => ?_⟩
  rw [st_eq, upd_ne]
  intro z
  rw [z] at hk'
  exact hk' h
theorem kp_sub {P P2 : Nat → Nat → Prop} {R R2 : Nat → Prop} {M M2 : Mem} (h : Keep P R M M2) (hp : ∀ c a, P c a → P2 c a) (hr : ∀ k, R k → R2 k) : Keep P2 R2 M M2 := ⟨fun c a h1 h2 => h.1 c a (fun z => h1 (hp c a z)) h2, fun k h1 => h.2 k (fun z => h1 (hr k z))⟩
theorem st_at {M : Mem} {c a j : Nat} {x : Int32} : (st M c a j x).1 c a j = x := by rw [st_eq, upd_at]
theorem st_ne3 {M : Mem} {c a j c' a' j' : Nat} {x : Int32} (h : ¬ (c' = c ∧ a' = a ∧ j' = j)) : (st M c a j x).1 c' a' j' = M.1 c' a' j' := if_neg h
/-- a list that was told: base column b at instance a on the one side; count at ci, pairs from off on (str cells each) in the row W on the other -/
def ToldR (M : Mem) (b a : Nat) (W : Nat → Int32) (ci off str cap : Nat) (G : Int32 → Int32 → Bool) (n : Nat) : Prop := n ≤ cap ∧ M.1 b a 0 = iN n ∧ W ci = iN n ∧ (∀ j, j < n → M.1 (b + 1) a j = W (off + str * j)) ∧ (str = 2 → ∀ j, j < n → M.1 (b + 2) a j = W (off + str * j + 1)) ∧ ∀ j, j < n → G (M.1 (b + 1) a j) (M.1 (b + 2) a j) = true
theorem ToldR.keep {M M2 : Mem} {b a : Nat} {W W2 : Nat → Int32} {ci off str cap n : Nat} {G : Int32 → Int32 → Bool} (h : ToldR M b a W ci off str cap G n) (h0 : M2.1 b a = M.1 b a) (h1 : M2.1 (b + 1) a = M.1 (b + 1) a) (h2 : M2.1 (b + 2) a = M.1 (b + 2) a) (hc : W2 ci = W ci) (hw : ∀ k, off ≤ k → k < off + str * cap → W2 k = W k) (hs : str = 1 ∨ str = 2) : ToldR M2 b a W2 ci off str cap G n := by
  obtain ⟨q1, q2, q3, q4, q5, q6⟩ := h
  have hb : ∀ j, j < n → str * j + str ≤ str * cap := fun j hj => by
    rcases hs with rfl | rfl <;> omega
  refine ⟨q1, by rw [h0]; exact q2, by rw [hc]; exact q3, fun j hj => ?_, fun hs2 j hj => ?_, fun j hj => ?_⟩
  · have := hb j hj
    rw [h1, hw _ (by omega) (by rcases hs with h | h <;> omega)]
    exact q4 j hj
  · have := hb j hj
    rw [h2, hw _ (by omega) (by omega)]
    exact q5 hs2 j hj
  · rw [h1, h2]
    exact q6 j hj
theorem ToldR.clear {M : Mem} {b a : Nat} {W : Nat → Int32} {ci off str cap : Nat} {G : Int32 → Int32 → Bool} (h0 : M.1 b a 0 = 0) (h1 : W ci = 0) : ToldR M b a W ci off str cap G 0 := ⟨Nat.zero_le _, h0, h1, fun _ h => by omega, fun _ _ h => by omega, fun _ h => by omega⟩
theorem ToldR.push {M M2 : Mem} {b a : Nat} {W W2 : Nat → Int32} {ci off str cap n : Nat} {G : Int32 → Int32 → Bool} {x y : Int32} (h : ToldR M b a W ci off str cap G n) (hn : n < cap) (hs : str = 1 ∨ str = 2) (hG : G x y = true) (c0 : M2.1 b a 0 = iN (n + 1)) (c1 : M2.1 (b + 1) a = upd (M.1 (b + 1) a) n x) (c2 : M2.1 (b + 2) a = upd (M.1 (b + 2) a) n y) (w0 : W2 ci = iN (n + 1)) (w1 : W2 (off + str * n) = x) (w2 : str = 2 → W2 (off + str * n + 1) = y) (wk : ∀ k, off ≤ k → k < off + str * n → W2 k = W k) : ToldR M2 b a W2 ci off str cap G (n + 1) := by
  obtain ⟨q1, q2, q3, q4, q5, q6⟩ := h
  have hb : ∀ j, j < n → str * j + str ≤ str * n := fun j hj => by
    rcases hs with rfl | rfl <;> omega
  refine ⟨by omega, c0, w0, fun j hj => ?_, fun hs2 j hj => ?_, fun j hj => ?_⟩
  · by_cases hjn : j = n
    · subst hjn
      rw [c1, upd_at, w1]
    · have := hb j (by omega)
      rw [c1, upd_ne hjn, wk _ (by omega) (by rcases hs with h | h <;> omega)]
      exact q4 j (by omega)
  · by_cases hjn : j = n
    · subst hjn
      rw [c2, upd_at, w2 hs2]
    · have := hb j (by omega)
      rw [c2, upd_ne hjn, wk _ (by omega) (by omega)]
      exact q5 hs2 j (by omega)
  · by_cases hjn : j = n
    · subst hjn
      rw [c1, c2, upd_at, upd_at]
      exact hG
    · rw [c1, c2, upd_ne hjn, upd_ne hjn]
      exact q6 j (by omega)

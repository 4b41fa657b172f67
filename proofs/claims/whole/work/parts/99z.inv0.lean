/-! the first state -/
theorem lnB_z {k : Nat} (h : ¬ (479 ≤ k ∧ k < 543)) (h2 : ¬ (549 ≤ k ∧ k < 557)) : lnB 8 k = 0 := by
  unfold lnB
  rw [if_neg h, if_neg h2]
theorem sh0 : ∀ j, j < 8 → ((0 : Int32) >>> iN j) &&& 1 = 0 := by decide +kernel
theorem TW0 : TW (lnB 8) = fun _ _ => 0 := by
  rw [TW_ext (w := fun _ => 0) (w' := lnB 8) (fun k hk => lnB_z (by omega) (by omega))]
  funext c j
  unfold TW
  by_cases h : okC c j = true
  · rw [if_pos h]
    unfold mcell
    split
    · split <;> rfl
    · rfl
    · rfl
    · exact sh0 j (by simpa [okC] using h)
    all_goals rfl
  · rw [if_neg h]
theorem M0_0 {c a j : Nat} (h : c ≠ 101 ∧ c ≠ 72 ∧ c ≠ 3 ∧ c ≠ 100 ∧ c ≠ 11) : M0.1 c a j = 0 := by
  show (if c = 101 then lnB 8 else if c = 72 then G8 else if c = 3 then (fun j => if j = 14 then -1 else 0) else if c = 100 then (fun j => if j = 25 then -1 else 0) else if c = 11 then (if a = 1 then (fun j => if j = 3 then 1 else 0) else fun _ => 0) else fun _ => 0) j = 0
  rw [if_neg h.1, if_neg h.2.1, if_neg h.2.2.1, if_neg h.2.2.2.1, if_neg h.2.2.2.2]
theorem TC0 : TC M0 0 = fun _ _ => 0 := by
  funext c j
  unfold TC
  by_cases h : okC c j = true
  · have h2 := okC_in h
    rw [if_pos h]
    exact M0_0 (by omega)
  · rw [if_neg h]
theorem G8_at : ∀ j, j < 8 → G8 j = iN j := by decide +kernel
theorem M0_W : M0.1 101 0 = lnB 8 := rfl
theorem told0 {b ci off str cap : Nat} {G : Int32 → Int32 → Bool} (hb : 80 ≤ b ∧ b < 95) (hc : 236 ≤ ci ∧ ci < 241) : ToldR M0 b 0 (lnB 8) ci off str cap G 0 := ⟨Nat.zero_le _, M0_0 (by omega), lnB_z (by omega) (by omega), fun j hj => absurd hj (by omega), fun _ j hj => absurd hj (by omega), fun j hj => absurd hj (by omega)⟩
theorem inv0 : Inv 0 M0 := by
  unfold Inv
  rw [M0_W]
  refine ⟨0, 0, 0, [], [], [], 0, 0, 0, 0, 0, 0, 0, 0, ⟨?_, ?_, ⟨0, by decide, lnB_z (by omega) (by omega)⟩, by decide, M0_0 (by omega), lnB_z (by omega) (by omega), fun j hj => absurd hj (by omega)⟩, ⟨⟨M0_0 (by omega), fun i w cv cc h => by cases h⟩, ⟨lnB_z (by omega) (by omega), fun i w cv cc h => by cases h⟩, by decide, fun i w cv cc h => by cases h⟩, ⟨⟨M0_0 (by omega), fun i y p R k e h => by cases h⟩, ⟨lnB_z (by omega) (by omega), fun i y p R k e h => by cases h⟩, ⟨by decide, fun i y p R k e h => by cases h⟩, ⟨M0_0 (by omega), fun i y s h => by cases h⟩, ⟨lnB_z (by omega) (by omega), fun i y s h => by cases h⟩, ⟨by decide, fun i y s h => by cases h⟩, fun i j hi hj => Or.inl ⟨M0_0 (by omega), ?_⟩, ?_, fun i j _ _ => by rw [M0_0 (by omega), M0_0 (by omega)]⟩, ⟨told0 (by omega) (by omega), told0 (by omega) (by omega), told0 (by omega) (by omega), told0 (by omega) (by omega), told0 (by omega) (by omega), fun j hj => ⟨0, by decide, M0_0 (by omega), lnB_z (by omega) (by omega)⟩, fun j hj => ⟨j, hj, G8_at j hj, ?_⟩⟩, PastJ.none (by decide) (M0_0 (by omega)) rfl (M0_0 (by omega)), TapeR.nil rfl rfl, ⟨0, by decide, rfl⟩, ⟨rfl, rfl⟩, rfl, rfl, M0_0 (by omega), Or.inl ⟨M0_0 (by omega), rfl⟩⟩
  · rw [TC0, TW0]
  · rw [TW0]
    exact ⟨by decide, by decide, by decide, rfl, rfl, rfl, Or.inl rfl, fun f _ => ⟨0, by decide, rfl⟩, fun p hp => absurd hp (by omega), fun _ _ _ _ _ => rfl, fun e f _ _ => ⟨0, Nat.le_refl _, rfl⟩, fun _ _ _ _ _ => rfl⟩
  · unfold lnB
    rw [if_pos (by omega)]
  · rw [M0_0 (by omega), lnB_z (by omega) (by omega)]
  · unfold lnB
    rw [if_neg (by omega), if_pos (by omega), show 549 + j - 549 = j by omega]

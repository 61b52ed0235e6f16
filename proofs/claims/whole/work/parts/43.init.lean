/-! PURE: the invariant at the start -/
def S00 (k : Nat) : Nat := if 160 ≤ k ∧ k < 170 then 1 else 0
theorem S00_r : rok S00 := by
  refine ⟨by unfold rA; decide, fun i hi => ?_, fun i hi => ?_, fun i hi => ?_, fun i hi => ?_, by unfold rT; decide⟩
  · unfold S00; rw [if_neg (by omega), if_neg (by omega), if_neg (by omega)]; decide
  · unfold S00; rw [if_neg (by omega)]; decide
  · unfold S00; rw [if_neg (by omega)]; decide
  · unfold S00; rw [if_pos (by omega)]; decide
def W00 : xV := VM0 VW0
theorem W00_z (r k : Nat) (h : r ≠ 1 ∧ r ≠ 7 ∧ r ≠ 9 ∧ r ≠ 15 ∧ r ≠ 46 ∧ r ≠ 51 ∧ r ≠ 65 ∧ r ≠ 66) : W00 r k = 0 := by
  simp [W00, VM0, VW0, x2, xfill, xrow, V00, h]
theorem W00_7 (r k : Nat) (h : r = 7 ∨ r = 15) (hk : k < 10) : W00 r k = 1 := by
  rcases h with rfl | rfl <;> simp [W00, VM0, VW0, x2, xfill, xrow, V00, hk]
theorem W00_1 (r k : Nat) (h : r = 1 ∨ r = 9) : W00 r k = if k = 10 then -1 else 0 := by
  rcases h with rfl | rfl <;> simp [W00, VM0, VW0, x2, xfill, xrow, V00]
theorem W00_66 (k : Nat) : W00 66 k = if k = 3 then -1 else if 160 ≤ k ∧ k < 170 then 1 else 0 := by
  by_cases h : 160 ≤ k ∧ k < 170
  · rw [if_neg (by omega), if_pos h]
    have : k = 160 ∨ k = 161 ∨ k = 162 ∨ k = 163 ∨ k = 164 ∨ k = 165 ∨ k = 166 ∨ k = 167 ∨ k = 168 ∨ k = 169 := by omega
    rcases this with rfl | rfl | rfl | rfl | rfl | rfl | rfl | rfl | rfl | rfl <;> simp [W00, VM0, VW0, x2, xfill, xrow, V00]
  · rw [if_neg h]
    have q : k ≠ 160 ∧ k ≠ 161 ∧ k ≠ 162 ∧ k ≠ 163 ∧ k ≠ 164 ∧ k ≠ 165 ∧ k ≠ 166 ∧ k ≠ 167 ∧ k ≠ 168 ∧ k ≠ 169 := by omega
    simp [W00, VM0, VW0, x2, xfill, xrow, V00, q]
theorem W00_pc (o : Nat) (ho : o = 1 ∨ o = 9) : pc W00 o S00 := by
  refine ⟨?_, fun i hi => ?_, fun i hi => ?_, fun i hi => ?_, fun i hi => ?_, ?_, 0, by decide, ?_, fun j hj => ?_⟩
  · unfold pA; rw [W00_1 o 7 ho, W00_1 o 8 ho, W00_1 o 9 ho, W00_1 o 10 ho]; decide
  · rw [W00_z _ _ (by omega), W00_z _ _ (by omega), W00_z _ _ (by omega)]; unfold S00; rw [if_neg (by omega), if_neg (by omega), if_neg (by omega)]; decide
  · rw [W00_z _ _ (by omega)]; unfold S00; rw [if_neg (by omega)]; rfl
  · rw [W00_z _ _ (by omega)]; unfold S00; rw [if_neg (by omega)]; rfl
  · rw [W00_7 _ _ (by omega) hi]; unfold S00; rw [if_pos (by omega)]; rfl
  · rw [W00_1 o 11 ho]; rfl
  · rw [W00_1 o 12 ho]; rfl
  · exact absurd (show j < 0 from hj) (Nat.not_lt_zero _)
theorem init_inv {LW : xV → Nat → Prop} (hF : lwF LW) (h0 : ∀ V, LW V 0) : ∃ V2, f_Md_copies 1 (VM0 VW0) = some V2 ∧ Inv LW V2 L00 := by
  obtain ⟨V2, e, q1, -, q3⟩ := cop1 270 0 2000 W00 rfl (by decide)
  have m66 : pm W00 66 S00 := ⟨by rw [W00_66]; decide, fun k hk h3 => by rw [W00_66, if_neg h3]; unfold S00; by_cases q : 160 ≤ k ∧ k < 170; rw [if_pos q, if_pos q]; rfl; rw [if_neg q, if_neg q]; rfl⟩
  refine ⟨V2, e, S00, S00, S00_r, S00_r, (W00_pc 1 (by omega)).fr (fun r _ _ => q3 r (by omega)), m66.fr (q3 66 (by decide)), (W00_pc 9 (by omega)).fr (fun r _ _ => q3 r (by omega)), m66.move (fun k hk => q1 k (by omega) hk), Nat.le_refl _, ⟨0, by omega, ?_, ?_, fun i hi => absurd hi (Nat.not_lt_zero _)⟩, Or.inl ?_, ?_, h0 _⟩
  · rw [q3 17 (by decide), W00_z _ _ (by omega)]; rfl
  · rw [q3 65 (by decide)]; simp [W00, VM0, VW0, x2, xfill, xrow, V00]; rfl
  · rw [q3 46 (by decide), q3 65 (by decide)]; simp [W00, VM0, VW0, x2, xfill, xrow, V00]
  · refine ⟨?_, ?_, ?_, fun w _ => ⟨?_, ?_⟩⟩
    · rw [q3 51 (by decide)]; simp [W00, VM0, VW0, x2, xfill, xrow, V00]
    · rw [q3 65 (by decide)]; simp [W00, VM0, VW0, x2, xfill, xrow, V00]
    · rw [q3 20 (by decide), W00_z _ _ (by omega)]
    · rw [q3 22 (by decide), W00_z _ _ (by omega)]
    · rw [q3 23 (by decide), W00_z _ _ (by omega)]

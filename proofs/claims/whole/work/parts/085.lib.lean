/-! THE LIBRARY's fill, the table of names, the text of words -/
theorem xI_nI {k n : Nat} (h : k < n) (hn : n < 2 ^ 31) : xI (nI k) n = true := decide_eq_true (by rw [nI_toInt (by omega)]; omega)
theorem xfill_loop {sh : xS} {r n : Nat} {f : Nat → Option Nat} (hs : sh[r]? = some (.inl (.int, n, f))) (hn : n < 2 ^ 31) (v : Int32) (L : xL) (V0 : xV) : ∀ (k j : Nat), j + k = n → X M_Arrays_fill (xRm 1 M_Arrays_fill) (xZ M_Arrays_fill (fun o h' => o = none ∧ h' = (sh, xfill V0 r n v, L))) sh (xfill V0 r j v) L 0 0 5 [(3, .int (nI n)), (2, .int (nI j)), (0, .ref r), (1, .int v)] []
  | 0, j, hj => by
    have e : j = n := by omega
    subst e
    refine x_iload_n 1 d_Arrays_fill_5 rfl rfl ?_
    refine x_iload_n 0 d_Arrays_fill_6 rfl rfl ?_
    refine x_icmp_ge 20 d_Arrays_fill_7 (by decide) (fun c => ?_) (fun c => absurd (nI_le (Nat.le_refl j) hn) c)
    exact x_return rfl d_Arrays_fill_20 (Nat.le_refl _) (Nat.le_refl _) ⟨rfl, rfl⟩
  | k + 1, j, hj => by
    have hlt : j < n := by omega
    refine x_iload_n 1 d_Arrays_fill_5 rfl rfl ?_
    refine x_iload_n 0 d_Arrays_fill_6 rfl rfl ?_
    refine x_icmp_ge 20 d_Arrays_fill_7 (by decide) (fun c => absurd c (nI_ge hlt hn)) (fun c => ?_)
    refine x_aload_n 2 d_Arrays_fill_10 rfl rfl ?_
    refine x_iload_n 1 d_Arrays_fill_11 rfl rfl ?_
    refine x_iload_n 3 d_Arrays_fill_12 rfl rfl ?_
    refine x_iastore hs (xI_nI hlt hn) d_Arrays_fill_13 ?_
    refine x_iinc 1 1 [(2, .int (nI j + 1)), (3, .int (nI n)), (0, .ref r), (1, .int v)] d_Arrays_fill_14 rfl (by decide) (Nat.le_of_ble_eq_true rfl) rfl ?_
    refine x_goto 5 d_Arrays_fill_17 (by decide) ?_
    have e1 : nI j + 1 = nI (j + 1) := nI_1 j
    have e2 : x2 (xfill V0 r j v) r (nI j).toNatClampNeg v = xfill V0 r (j + 1) v := by
      rw [nI_clamp (by omega)]
      funext a b
      simp only [x2, xfill, xrow]
      by_cases ha : a = r
      · subst ha
        simp only [true_and, if_true]
        by_cases hb : b = j
        · subst hb; simp
        · simp only [hb, if_false]
          by_cases hb2 : b < j
          · rw [if_pos hb2, if_pos (by omega)]
          · rw [if_neg hb2, if_neg (by omega)]
      · simp [ha]
    rw [e1, e2]
    refine x_pick [1, 0, 2, 3] rfl ?_
    exact xfill_loop hs hn v L V0 k (j + 1) (by omega)
theorem xfill_zero (V : xV) (r : Nat) (v : Int32) : xfill V r 0 v = V := by
  funext a b
  simp only [xfill, xrow]
  by_cases ha : a = r
  · subst ha; simp
  · simp [ha]
theorem t_Arrays_fill {sh : xS} {r n : Nat} {f : Nat → Option Nat} (hs : sh[r]? = some (.inl (.int, n, f))) (hn : n < 2 ^ 31) (v : Int32) (V : xV) (L : xL) : xRuns 1 M_Arrays_fill [.ref r, .int v] (sh, V, L) (fun o h' => o = none ∧ h' = (sh, xfill V r n v, L)) := by
  refine xRuns_of (by decide) (Nat.le_of_ble_eq_true rfl) ?_
  show X M_Arrays_fill _ _ _ _ _ _ _ _ [(0, .ref r), (1, .int v)] []
  refine x_iconst 0 d_Arrays_fill_0 (by decide) ?_
  refine x_istore_n [(2, .int 0), (0, .ref r), (1, .int v)] d_Arrays_fill_1 rfl (Nat.le_of_ble_eq_true rfl) rfl ?_
  refine x_aload_n 1 d_Arrays_fill_2 rfl rfl ?_
  refine x_alen (nI n) hs (Or.inl rfl) rfl d_Arrays_fill_3 ?_
  refine x_istore_n [(3, .int (nI n)), (2, .int 0), (0, .ref r), (1, .int v)] d_Arrays_fill_4 rfl (Nat.le_of_ble_eq_true rfl) rfl ?_
  have h := xfill_loop hs hn v L V n 0 (by omega)
  rw [xfill_zero, nI_0] at h
  exact h
section XLib
variable {M : xM} {R : Room} {Z : xG → List Frame → Array Value → State → State → Prop} {sh : xS} {V : xV} {L : xL} {cu su pc : Nat} {ls : List (Nat × Value)} {st : List Value} {idx : Nat}
theorem x_fill0 {r n : Nat} {f : Nat → Option Nat} {v : Int32} (he : xES M.1.cls idx M_Arrays_fill 2) (hf : 1 + 1 ≤ R.frames ∧ 8 + (M_Arrays_fill.2.2.1 + 11) + (64 * 1 + 64) ≤ R.locals) (h1 : cu ≤ R.cells) (h2 : su ≤ R.slots) (hc : (st.map fun v => v.category).sum ≤ 8) (hs : sh[r]? = some (.inl (.int, n, f))) (hn : n < 2 ^ 31) (hd : decode M.2.1 pc = .ok (.invokestatic idx, 3)) (K : X M R Z sh (xfill V r n v) L cu su (pc + 3) ls st) : X M R Z sh V L cu su pc ls (.int v :: .ref r :: st) :=
  x_callS0v he (t_Arrays_fill hs hn v V L) rfl rfl rfl hc hf h1 h2 hd K
theorem x_namesLen (hd : decode M.2.1 pc = .ok (.arraylength, 1)) (K : X M R Z sh V L cu su (pc + 1) ls (.int 13 :: st)) : X M R Z sh V L cu su pc ls (.retAddr 2 :: st) := by
  intro l G p e s m args below meth c H locs la hC hz hR hS hl
  have hk : xK G s := hC.2.2.2.2.2.2.2.2
  obtain ⟨cell, q1, q2, q3, q4, q5, q6⟩ := hk.2.2.2.2.2.2.1.kept hS.2.1
  exact W.alen (n := 13) hC.1 hC.2.1 q1 q2 (by rw [q5]; rfl) rfl rfl hd (K l G p e s m args below meth c H locs la hC hz hR hS hl)
theorem x_namesAt {i : Int32} (hi : xI i 13 = true) (hd : decode M.2.1 pc = .ok (.iaload, 1)) (K : X M R Z sh V L cu su (pc + 1) ls (.int (xNames.getD i.toNatClampNeg 0) :: st)) : X M R Z sh V L cu su pc ls (.int i :: .retAddr 2 :: st) := by
  intro l G p e s m args below meth c H locs la hC hz hR hS hl
  have hk : xK G s := hC.2.2.2.2.2.2.2.2
  obtain ⟨cell, q1, q2, q3, q4, q5, q6, q7⟩ := hk.2.2.2.2.2.2.1.kept hS.2.1
  have h1 := xI_in hi
  have hlt : i.toNatClampNeg < 13 := Nat.not_le.mp fun q => h1 (Or.inr q)
  have h2 : ¬ i < 0 := fun q => h1 (Or.inl q)
  exact W.iald hC.1 hC.2.1 q1 q2 q3 (fun q => q.elim h2 (fun q => by omega)) (q6 _ hlt) rfl rfl hd (K l G p e s m args below meth c H locs la hC hz hR hS hl)
end XLib

/-! PURE: feed -/
def bt (a : Int32) (m : Nat) : Int32 := (a >>> (nI (8 * m) &&& 31)) &&& 255
theorem bt_nI (a : Int32) (m : Nat) : ∃ b, b < 256 ∧ bt a m = nI b := by
  obtain ⟨j, hj, e⟩ := pk_andE (a >>> (nI (8 * m) &&& 31)) (m := 255) 8 (by decide)
  exact ⟨j, hj, e⟩
theorem and255 (x : Int32) : (x &&& 255).toInt8 = x.toInt8 := by
  apply Int8.toBitVec_inj.mp
  rw [Int32.toBitVec_toInt8, Int32.toBitVec_toInt8, Int32.toBitVec_and]
  apply BitVec.eq_of_toNat_eq
  rw [BitVec.signExtend_eq_setWidth_of_le _ (by decide), BitVec.signExtend_eq_setWidth_of_le _ (by decide), BitVec.toNat_setWidth, BitVec.toNat_setWidth, BitVec.toNat_and]
  rw [show (255 : Int32).toBitVec.toNat = 2 ^ 8 - 1 by decide, Nat.and_two_pow_sub_one_eq_mod]
  exact Nat.mod_mod _ _
theorem put_c (a : Int32) : ∀ (m n f : Nat) (V : xV), V 17 1 = nI n → n + m ≤ 300 → m ≤ 4 → m < f → ∃ V1, g_Tape_put_3 f a (nI (8 * m) - 8) V = some V1 ∧ V1 17 1 = nI (n + m) ∧ (∀ i, i < m → V1 18 (n + i) = bt a (m - 1 - i)) ∧ (∀ i, i < n → V1 18 i = V 18 i) ∧ ∀ r, r ≠ 17 → r ≠ 18 → V1 r = V r
  | 0, n, f + 1, V, h1, h2, h3, h4 => by
    refine ⟨V, ?_, h1, fun i hi => by omega, fun _ _ => rfl, fun _ _ _ => rfl⟩
    show b_Tape_put_3 _ _ _ _ = _
    unfold b_Tape_put_3
    rw [if_pos (by decide)]
  | m + 1, n, f + 1, V, h1, h2, h3, h4 => by
    have e0 : nI (8 * (m + 1)) - 8 = nI (8 * m) := by rw [show (8 : Int32) = nI 8 from rfl, pk_sub (by omega)]; congr 1
    have e1 : nI (8 * m) + (-8) = nI (8 * m) - 8 := (Int32.sub_eq_add_neg _ _).symm
    obtain ⟨V1, k1, k2, k3, k4, k5⟩ := put_c a m (n + 1) f (x2 (x2 V 18 n (bt a m)) 17 1 (nI (n + 1))) (x2_at _ _ _ _) (by omega) (by omega) (by omega)
    refine ⟨V1, ?_, by rw [k2]; congr 1; omega, fun i hi => ?_, fun i hi => ?_, fun r q1 q2 => by rw [k5 r q1 q2, x2_ne q1, x2_ne q2]⟩
    · show b_Tape_put_3 _ _ _ _ = _
      unfold b_Tape_put_3
      rw [e0, if_neg (nI_pos (by omega)), h1, show (300 : Int32) = nI 300 from rfl, within_in (by omega) (by decide), if_neg (by decide), if_pos (xI_ok (by omega) (by decide)), cl (by omega), e1, x2_ne (by decide), h1, nI_1]
      exact k1
    · by_cases q : i = 0
      · subst q
        rw [Nat.add_zero, k4 n (by omega), x2_ne (by decide), x2_at, show m + 1 - 1 - 0 = m by omega]
      · have := k3 (i - 1) (by omega)
        rw [show n + 1 + (i - 1) = n + i by omega] at this
        rw [this, show m - 1 - (i - 1) = m + 1 - 1 - i by omega]
    · rw [k4 i (by omega), x2_ne (by decide), x2_off (by omega)]
theorem put_m (a : Int32) : ∀ (m n f : Nat) (V : xV), V 65 3 = nI n → n + m ≤ 300 → m ≤ 4 → m < f → ∃ V1, g_Md_put_3 f a (nI (8 * m) - 8) V = some V1 ∧ V1 65 3 = nI (n + m) ∧ (∀ i, i < m → V1 68 (n + i) = (bt a (m - 1 - i)).toInt8.toInt32) ∧ (∀ i, i < n → V1 68 i = V 68 i) ∧ (∀ r, r ≠ 65 → r ≠ 68 → V1 r = V r) ∧ ∀ k, k ≠ 3 → V1 65 k = V 65 k
  | 0, n, f + 1, V, h1, h2, h3, h4 => by
    refine ⟨V, ?_, h1, fun i hi => by omega, fun _ _ => rfl, fun _ _ _ => rfl, fun _ _ => rfl⟩
    show b_Md_put_3 _ _ _ _ = _
    unfold b_Md_put_3
    rw [if_pos (by decide)]
  | m + 1, n, f + 1, V, h1, h2, h3, h4 => by
    have e0 : nI (8 * (m + 1)) - 8 = nI (8 * m) := by rw [show (8 : Int32) = nI 8 from rfl, pk_sub (by omega)]; congr 1
    obtain ⟨V1, k1, k2, k3, k4, k5, k6⟩ := put_m a m (n + 1) f (x2 (x2 V 68 n ((bt a m).toInt8.toInt32)) 65 3 (nI (n + 1))) (x2_at _ _ _ _) (by omega) (by omega) (by omega)
    refine ⟨V1, ?_, by rw [k2]; congr 1; omega, fun i hi => ?_, fun i hi => ?_, fun r q1 q2 => by rw [k5 r q1 q2, x2_ne q1, x2_ne q2], fun k hk => by rw [k6 k hk, x2_off (by omega), x2_ne (by decide)]⟩
    · show b_Md_put_3 _ _ _ _ = _
      unfold b_Md_put_3
      rw [e0, if_neg (nI_pos (by omega)), h1, if_pos (xI_ok (by omega) (by decide)), cl (by omega), x2_ne (by decide), h1, nI_1, pk_vb, show ((a >>> (nI (8 * m) &&& 31)).toInt8.toInt32) = (bt a m).toInt8.toInt32 by unfold bt; rw [and255]]
      exact k1
    · by_cases q : i = 0
      · subst q
        rw [Nat.add_zero, k4 n (by omega), x2_ne (by decide), x2_at, show m + 1 - 1 - 0 = m by omega]
      · have := k3 (i - 1) (by omega)
        rw [show n + 1 + (i - 1) = n + i by omega] at this
        rw [this, show m - 1 - (i - 1) = m + 1 - 1 - i by omega]
    · rw [k4 i (by omega), x2_ne (by decide), x2_off (by omega)]
def fedC (V : xV) (n : Nat) (ws : List Int32) (V1 : xV) : Prop := V1 17 1 = nI (n + 4 * ws.length) ∧ (∀ i, i < 4 * ws.length → V1 18 (n + i) = bt (ws.getD (i / 4) 0) (3 - i % 4)) ∧ (∀ i, i < n → V1 18 i = V 18 i) ∧ ∀ r, r ≠ 17 → r ≠ 18 → V1 r = V r
def fedM (V : xV) (n : Nat) (ws : List Int32) (V1 : xV) : Prop := V1 65 3 = nI (n + 4 * ws.length) ∧ (∀ i, i < 4 * ws.length → V1 68 (n + i) = (bt (ws.getD (i / 4) 0) (3 - i % 4)).toInt8.toInt32) ∧ (∀ i, i < n → V1 68 i = V 68 i) ∧ (∀ r, r ≠ 65 → r ≠ 68 → V1 r = V r) ∧ ∀ k, k ≠ 3 → V1 65 k = V 65 k
theorem getD_snoc_lt {ws : List Int32} {a : Int32} {k : Nat} (h : k < ws.length) : (ws ++ [a]).getD k 0 = ws.getD k 0 := by
  rw [List.getD_eq_getElem?_getD, List.getD_eq_getElem?_getD, List.getElem?_append_left h]
theorem getD_snoc_eq {ws : List Int32} {a : Int32} : (ws ++ [a]).getD ws.length 0 = a := by
  rw [List.getD_eq_getElem?_getD, List.getElem?_append_right (Nat.le_refl _), Nat.sub_self]; rfl
theorem fedC.snoc {V V1 : xV} {n : Nat} {ws : List Int32} (h : fedC V n ws V1) (a : Int32) (hn : n + 4 * ws.length + 4 ≤ 300) : ∃ V2, f_Tape_put a V1 = some V2 ∧ fedC V n (ws ++ [a]) V2 := by
  obtain ⟨h1, h2, h3, h4⟩ := h
  obtain ⟨V2, k1, k2, k3, k4, k5⟩ := put_c a 4 (n + 4 * ws.length) 2000 V1 h1 hn (by omega) (by omega)
  refine ⟨V2, k1, ?_, fun i hi => ?_, fun i hi => by rw [k4 i (by omega)]; exact h3 i hi, fun r q1 q2 => by rw [k5 r q1 q2]; exact h4 r q1 q2⟩
  · rw [k2, List.length_append]; congr 1
  · rw [List.length_append] at hi
    have hi : i < 4 * (ws.length + 1) := hi
    by_cases q : i < 4 * ws.length
    · rw [k4 _ (by omega), h2 i q, getD_snoc_lt (by omega)]
    · have := k3 (i - 4 * ws.length) (by omega)
      rw [show n + 4 * ws.length + (i - 4 * ws.length) = n + i by omega] at this
      rw [this, show i / 4 = ws.length by omega, getD_snoc_eq, show 4 - 1 - (i - 4 * ws.length) = 3 - i % 4 by omega]
theorem fedM.snoc {V V1 : xV} {n : Nat} {ws : List Int32} (h : fedM V n ws V1) (a : Int32) (hn : n + 4 * ws.length + 4 ≤ 300) : ∃ V2, f_Md_put a V1 = some V2 ∧ fedM V n (ws ++ [a]) V2 := by
  obtain ⟨h1, h2, h3, h4, h5⟩ := h
  obtain ⟨V2, k1, k2, k3, k4, k5, k6⟩ := put_m a 4 (n + 4 * ws.length) 2000 V1 h1 hn (by omega) (by omega)
  refine ⟨V2, k1, ?_, fun i hi => ?_, fun i hi => by rw [k4 i (by omega)]; exact h3 i hi, fun r q1 q2 => by rw [k5 r q1 q2]; exact h4 r q1 q2, fun k hk => by rw [k6 k hk]; exact h5 k hk⟩
  · rw [k2, List.length_append]; congr 1
  · rw [List.length_append] at hi
    have hi : i < 4 * (ws.length + 1) := hi
    by_cases q : i < 4 * ws.length
    · rw [k4 _ (by omega), h2 i q, getD_snoc_lt (by omega)]
    · have := k3 (i - 4 * ws.length) (by omega)
      rw [show n + 4 * ws.length + (i - 4 * ws.length) = n + i by omega] at this
      rw [this, show i / 4 = ws.length by omega, getD_snoc_eq, show 4 - 1 - (i - 4 * ws.length) = 3 - i % 4 by omega]
theorem op_feed {LW : xV → Nat → Prop} (hF : lwF LW) : P_feed (Inv LW) := by
  intro a b c d e V L hI
  obtain ⟨S, K, hh⟩ := id hI
  obtain ⟨n, hn, e1, e2, hb⟩ := hh.2.2.2.2.2.2.2.1
  by_cases q : n + 20 ≤ 300
  · have f0 : fedC V n [] V := ⟨e1, fun i hi => absurd hi (by simp), fun _ _ => rfl, fun _ _ _ => rfl⟩
    obtain ⟨W1, p1, f1⟩ := f0.snoc a (by simp; omega)
    obtain ⟨W2, p2, f2⟩ := f1.snoc b (by simp; omega)
    obtain ⟨W3, p3, f3⟩ := f2.snoc c (by simp; omega)
    obtain ⟨W4, p4, f4⟩ := f3.snoc d (by simp; omega)
    obtain ⟨W5, p5, f5⟩ := f4.snoc e (by simp; omega)
    have g0 : fedM W5 n [] W5 := ⟨by rw [f5.2.2.2 65 (by decide) (by decide)]; exact e2, fun i hi => absurd hi (by simp), fun _ _ => rfl, fun _ _ _ => rfl, fun _ _ => rfl⟩
    obtain ⟨X1, q1, g1⟩ := g0.snoc a (by simp; omega)
    obtain ⟨X2, q2, g2⟩ := g1.snoc b (by simp; omega)
    obtain ⟨X3, q3, g3⟩ := g2.snoc c (by simp; omega)
    obtain ⟨X4, q4, g4⟩ := g3.snoc d (by simp; omega)
    obtain ⟨X5, q5, g5⟩ := g4.snoc e (by simp; omega)
    have l5 : W5 17 1 = nI (n + 20) := f5.1
    have m5 : X5 65 3 = nI (n + 20) := g5.1
    refine ⟨nI (n + 20), W5, X5, ?_, ?_, ?_⟩
    · unfold f_Ww_feed
      rw [e1, show nI n + 20 = nI (n + 20) from nI_add n 20, if_pos (show nI (n + 20) ≤ 300 from nI_le (b := 300) q (by decide)), p1, Option.bind_some, p2, Option.bind_some, p3, Option.bind_some, p4, Option.bind_some, p5, Option.bind_some, l5]
    · unfold f_Md_feed
      rw [f5.2.2.2 65 (by decide) (by decide), e2, show nI n + 20 = nI (n + 20) from nI_add n 20, if_pos (show nI (n + 20) ≤ 300 from nI_le (b := 300) q (by decide)), q1, Option.bind_some, q2, Option.bind_some, q3, Option.bind_some, q4, Option.bind_some, q5, Option.bind_some, m5]
    · refine hI.tape hF (fun r k1 k2 k3 k4 => by rw [g5.2.2.2.1 r k3 k4]; exact f5.2.2.2 r k1 k2) (fun k hk => by rw [g5.2.2.2.2 k hk, f5.2.2.2 65 (by decide) (by decide)]) ⟨n + 20, by omega, by rw [g5.2.2.2.1 17 (by decide) (by decide)]; exact l5, m5, fun i hi => ?_⟩
      rw [g5.2.2.2.1 18 (by decide) (by decide)]
      by_cases q6 : i < n
      · rw [f5.2.2.1 i q6, g5.2.2.1 i q6, f5.2.2.2 68 (by decide) (by decide)]; exact hb i q6
      · have h1 := f5.2.1 (i - n) (by simp; omega)
        have h2 := g5.2.1 (i - n) (by simp; omega)
        rw [show n + (i - n) = i by omega] at h1 h2
        obtain ⟨y, hy, ey⟩ := bt_nI (([] ++ [a] ++ [b] ++ [c] ++ [d] ++ [e]).getD ((i - n) / 4) 0) (3 - (i - n) % 4)
        exact ⟨y, hy, by rw [h1, ey], by rw [h2, ey]⟩
  · refine ⟨-1, V, V, ?_, ?_, hI⟩
    · unfold f_Ww_feed
      rw [e1, show nI n + 20 = nI (n + 20) from nI_add n 20, if_neg (show ¬ nI (n + 20) ≤ 300 from nI_ge (a := 300) (by omega) (by omega))]
    · unfold f_Md_feed
      rw [e2, show nI n + 20 = nI (n + 20) from nI_add n 20, if_neg (show ¬ nI (n + 20) ≤ 300 from nI_ge (a := 300) (by omega) (by omega))]

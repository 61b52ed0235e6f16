/-! PURE: image and back -/
theorem xcopy_ne {V : xV} {r q n s : Nat} (h : s ≠ q) : xcopy V r q n s = V s := by unfold xcopy xrow; exact if_neg h
theorem xcopy_at {V : xV} {r q n k : Nat} (h : k < n) : xcopy V r q n q k = V r k := by unfold xcopy xrow; rw [if_pos rfl]; exact if_pos h
theorem pc.move {V V' : xV} {o o' : Nat} {S : Nat → Nat} (h : pc V o S) (h0 : ∀ k, 7 ≤ k → k ≤ 12 → V' o' k = V o k) (h1 : ∀ k, k < 12 → V' (o' + 1) k = V (o + 1) k) (h2 : ∀ k, k < 12 → V' (o' + 2) k = V (o + 2) k) (h3 : ∀ k, k < 12 → V' (o' + 3) k = V (o + 3) k) (h4 : ∀ k, k < 30 → V' (o' + 4) k = V (o + 4) k) (h5 : ∀ k, k < 120 → V' (o' + 5) k = V (o + 5) k) (h6 : ∀ k, k < 10 → V' (o' + 6) k = V (o + 6) k) (h7 : ∀ k, k < 60 → V' (o' + 7) k = V (o + 7) k) : pc V' o' S := by
  obtain ⟨c1, c2, c3, c4, c5, g1, p, g2, g3, g4⟩ := h
  refine ⟨?_, fun i hi => ?_, fun i hi => ?_, fun i hi => ?_, fun i hi => ?_, ?_, p, g2, ?_, fun j hj => ?_⟩
  · unfold pA
    rw [h0 7 (by omega) (by omega), h0 8 (by omega) (by omega), h0 9 (by omega) (by omega), h0 10 (by omega) (by omega)]
    exact c1
  · rw [h1 i hi, h2 i hi, h3 i hi]; exact c2 i hi
  · rw [h4 i hi]; exact c3 i hi
  · rw [h5 i hi]; exact c4 i hi
  · rw [h6 i hi]; exact c5 i hi
  · rw [h0 11 (by omega) (by omega)]; exact g1
  · rw [h0 12 (by omega) (by omega)]; exact g3
  · rw [h7 _ (Nat.mod_lt _ (by decide))]; exact g4 j hj
theorem tk_ne (V : xV) {r : Nat} (h : r < 9 ∨ 16 < r) : f_Rolls_takeOver_kept V r = V r := by
  unfold f_Rolls_takeOver_kept
  simp only [x2_ne (show r ≠ 9 by omega), xcopy_ne (show r ≠ 10 by omega), xcopy_ne (show r ≠ 11 by omega), xcopy_ne (show r ≠ 12 by omega), xcopy_ne (show r ≠ 13 by omega), xcopy_ne (show r ≠ 14 by omega), xcopy_ne (show r ≠ 15 by omega), xcopy_ne (show r ≠ 16 by omega)]
theorem tn_ne (V : xV) {r : Nat} (h : r < 1 ∨ 8 < r) : f_Rolls_takeOver_now V r = V r := by
  unfold f_Rolls_takeOver_now
  simp only [x2_ne (show r ≠ 1 by omega), xcopy_ne (show r ≠ 2 by omega), xcopy_ne (show r ≠ 3 by omega), xcopy_ne (show r ≠ 4 by omega), xcopy_ne (show r ≠ 5 by omega), xcopy_ne (show r ≠ 6 by omega), xcopy_ne (show r ≠ 7 by omega), xcopy_ne (show r ≠ 8 by omega)]
theorem tk_at (V : xV) (j k n : Nat) (h : j = 1 ∧ n = 12 ∨ j = 2 ∧ n = 12 ∨ j = 3 ∧ n = 12 ∨ j = 4 ∧ n = 30 ∨ j = 5 ∧ n = 120 ∨ j = 6 ∧ n = 10 ∨ j = 7 ∧ n = 60) (hk : k < n) : f_Rolls_takeOver_kept V (9 + j) k = V (1 + j) k := by
  unfold f_Rolls_takeOver_kept
  rcases h with ⟨rfl, rfl⟩ | ⟨rfl, rfl⟩ | ⟨rfl, rfl⟩ | ⟨rfl, rfl⟩ | ⟨rfl, rfl⟩ | ⟨rfl, rfl⟩ | ⟨rfl, rfl⟩ <;>
    simp [x2, xcopy, xrow, hk]
theorem tn_at (V : xV) (j k n : Nat) (h : j = 1 ∧ n = 12 ∨ j = 2 ∧ n = 12 ∨ j = 3 ∧ n = 12 ∨ j = 4 ∧ n = 30 ∨ j = 5 ∧ n = 120 ∨ j = 6 ∧ n = 10 ∨ j = 7 ∧ n = 60) (hk : k < n) : f_Rolls_takeOver_now V (1 + j) k = V (9 + j) k := by
  unfold f_Rolls_takeOver_now
  rcases h with ⟨rfl, rfl⟩ | ⟨rfl, rfl⟩ | ⟨rfl, rfl⟩ | ⟨rfl, rfl⟩ | ⟨rfl, rfl⟩ | ⟨rfl, rfl⟩ | ⟨rfl, rfl⟩ <;>
    simp [x2, xcopy, xrow, hk]
theorem tk_0 (V : xV) (k : Nat) (h : k = 7 ∨ k = 8 ∨ k = 9 ∨ k = 10 ∨ k = 11 ∨ k = 12) : f_Rolls_takeOver_kept V 9 k = V 1 k := by
  unfold f_Rolls_takeOver_kept
  rcases h with rfl | rfl | rfl | rfl | rfl | rfl <;> simp [x2, xcopy, xrow]
theorem tn_0 (V : xV) (k : Nat) (h : k = 7 ∨ k = 8 ∨ k = 9 ∨ k = 10 ∨ k = 11 ∨ k = 12) : f_Rolls_takeOver_now V 1 k = V 9 k := by
  unfold f_Rolls_takeOver_now
  rcases h with rfl | rfl | rfl | rfl | rfl | rfl <;> simp [x2, xcopy, xrow]
theorem tk_pc {V : xV} {S : Nat → Nat} (h : pc V 1 S) : pc (f_Rolls_takeOver_kept V) 9 S := by
  refine h.move (fun k _ _ => tk_0 V k (by omega)) (fun k hk => tk_at V 1 k 12 (by omega) hk) (fun k hk => tk_at V 2 k 12 (by omega) hk) (fun k hk => tk_at V 3 k 12 (by omega) hk) (fun k hk => tk_at V 4 k 30 (by omega) hk) (fun k hk => tk_at V 5 k 120 (by omega) hk) (fun k hk => tk_at V 6 k 10 (by omega) hk) (fun k hk => tk_at V 7 k 60 (by omega) hk)
theorem tn_pc {V : xV} {S : Nat → Nat} (h : pc V 9 S) : pc (f_Rolls_takeOver_now V) 1 S := by
  refine h.move (fun k _ _ => tn_0 V k (by omega)) (fun k hk => tn_at V 1 k 12 (by omega) hk) (fun k hk => tn_at V 2 k 12 (by omega) hk) (fun k hk => tn_at V 3 k 12 (by omega) hk) (fun k hk => tn_at V 4 k 30 (by omega) hk) (fun k hk => tn_at V 5 k 120 (by omega) hk) (fun k hk => tn_at V 6 k 10 (by omega) hk) (fun k hk => tn_at V 7 k 60 (by omega) hk)
theorem cop1 : ∀ (n k f : Nat) (V : xV), k + n = 270 → n < f → ∃ V', g_Md_copies_2 f 1 (nI k) V = some V' ∧ (∀ i, k ≤ i → i < 270 → V' 67 i = V 66 i) ∧ (∀ i, i < k → V' 67 i = V 67 i) ∧ ∀ r, r ≠ 67 → V' r = V r
  | 0, k, f + 1, V, h1, h2 => by
    refine ⟨V, ?_, fun i _ _ => by omega, fun _ _ => rfl, fun _ _ => rfl⟩
    show b_Md_copies_2 _ _ _ _ = _
    unfold b_Md_copies_2
    rw [if_pos (show (270 : Int32) ≤ nI k from nI_le (a := 270) (by omega) (by omega))]
  | n + 1, k, f + 1, V, h1, h2 => by
    obtain ⟨V', e, q1, q2, q3⟩ := cop1 n (k + 1) f (x2 V 67 k (V 66 k)) (by omega) (by omega)
    refine ⟨V', ?_, fun i i1 i2 => ?_, fun i hi => ?_, fun r hr => by rw [q3 r hr, x2_ne hr]⟩
    · show b_Md_copies_2 _ _ _ _ = _
      unfold b_Md_copies_2
      rw [if_neg (show ¬ (270 : Int32) ≤ nI k from nI_ge (b := 270) (by omega) (by decide)), if_neg (by decide), if_pos (xI_ok (by omega) (by decide)), if_pos (xI_ok (by omega) (by decide)), cl (by omega), nI_1]
      exact e
    · by_cases c : i = k
      · subst c; rw [q2 i (by omega), x2_at]
      · rw [q1 i (by omega) i2, x2_ne (by decide)]
    · rw [q2 i (by omega), x2_off (by omega)]
theorem cop0 : ∀ (n k f : Nat) (V : xV), k + n = 270 → n < f → ∃ V', g_Md_copies_2 f 0 (nI k) V = some V' ∧ (∀ i, k ≤ i → i < 270 → V' 66 i = V 67 i) ∧ (∀ i, i < k → V' 66 i = V 66 i) ∧ ∀ r, r ≠ 66 → V' r = V r
  | 0, k, f + 1, V, h1, h2 => by
    refine ⟨V, ?_, fun i _ _ => by omega, fun _ _ => rfl, fun _ _ => rfl⟩
    show b_Md_copies_2 _ _ _ _ = _
    unfold b_Md_copies_2
    rw [if_pos (show (270 : Int32) ≤ nI k from nI_le (a := 270) (by omega) (by omega))]
  | n + 1, k, f + 1, V, h1, h2 => by
    obtain ⟨V', e, q1, q2, q3⟩ := cop0 n (k + 1) f (x2 V 66 k (V 67 k)) (by omega) (by omega)
    refine ⟨V', ?_, fun i i1 i2 => ?_, fun i hi => ?_, fun r hr => by rw [q3 r hr, x2_ne hr]⟩
    · show b_Md_copies_2 _ _ _ _ = _
      unfold b_Md_copies_2
      rw [if_neg (show ¬ (270 : Int32) ≤ nI k from nI_ge (b := 270) (by omega) (by decide)), if_pos (by decide), if_pos (xI_ok (by omega) (by decide)), if_pos (xI_ok (by omega) (by decide)), cl (by omega), nI_1]
      exact e
    · by_cases c : i = k
      · subst c; rw [q2 i (by omega), x2_at]
      · rw [q1 i (by omega) i2, x2_ne (by decide)]
    · rw [q2 i (by omega), x2_off (by omega)]
theorem pm.move {V V' : xV} {m m' : Nat} {S : Nat → Nat} (h : pm V m S) (hV : ∀ k, k < 270 → V' m' k = V m k) : pm V' m' S := ⟨by rw [hV 3 (by decide)]; exact h.1, fun k hk h3 => by rw [hV k hk]; exact h.2 k hk h3⟩
theorem op_image {LW : xV → Nat → Prop} (hF : lwF LW) : P_image (Inv LW) := by
  intro V L hI
  obtain ⟨S, K, a1, a2, a3, a4, a5, a6, a7, a8, a9, a10, a11⟩ := hI
  obtain ⟨V', e, q1, -, q3⟩ := cop1 270 0 2000 (f_Rolls_takeOver_kept V) rfl (by decide)
  have q1 : ∀ i, i < 270 → V' 67 i = V 66 i := fun i hi => by rw [q1 i (by omega) hi, tk_ne V (by omega)]
  have u : ∀ r, r < 9 ∨ 16 < r → r ≠ 67 → V' r = V r := fun r h1 h2 => by rw [q3 r h2, tk_ne V h1]
  have h66 : V' 66 = V 66 := u 66 (by omega) (by omega)
  refine ⟨nI (S 0), f_Rolls_takeOver_kept V, V', ?_, ?_, S, S, a1, a1, a3.fr (fun r _ _ => u r (by omega) (by omega)), a4.fr h66, ?_, a4.move q1, Nat.le_refl _, a8.fr (by rw [u 17 (by omega) (by omega)]) (by rw [u 65 (by omega) (by omega)]) (u 18 (by omega) (by omega)) (u 68 (by omega) (by omega)), a9.fr (fun k _ => by rw [u 46 (by omega) (by omega)]) (by rw [u 65 (by omega) (by omega)]) (by rw [u 65 (by omega) (by omega)]), a10.fr (by rw [u 51 (by omega) (by omega)]) (by rw [u 65 (by omega) (by omega)]) (fun r _ _ => u r (by omega) (by omega)), hF.1 V V' _ (fun r _ _ => u r (by omega) (by omega)) (fun r _ _ => u r (by omega) (by omega)) a11⟩
  · unfold f_Ww_image; rw [tk_ne V (by omega), a3.1.1]
  · unfold f_Md_image f_Md_copies
    rw [show (0 : Int32) = nI 0 from rfl, e, Option.bind_some, h66, a4.2 0 (by decide) (by decide)]
  · exact (tk_pc a3).fr (fun r _ _ => q3 r (by omega))
theorem op_back {LW : xV → Nat → Prop} (hF : lwF LW) : P_back (Inv LW) := by
  intro V L hI
  obtain ⟨S, K, a1, a2, a3, a4, a5, a6, a7, a8, a9, a10, a11⟩ := hI
  obtain ⟨V', e, q1, -, q3⟩ := cop0 270 0 2000 (f_Rolls_takeOver_now V) rfl (by decide)
  have q1 : ∀ i, i < 270 → V' 66 i = V 67 i := fun i hi => by rw [q1 i (by omega) hi, tn_ne V (by omega)]
  have u : ∀ r, r < 1 ∨ 8 < r → r ≠ 66 → V' r = V r := fun r h1 h2 => by rw [q3 r h2, tn_ne V h1]
  have h67 : V' 67 = V 67 := u 67 (by omega) (by omega)
  refine ⟨nI (K 0), f_Rolls_takeOver_now V, V', ?_, ?_, K, K, a2, a2, (tn_pc a5).fr (fun r _ _ => q3 r (by omega)), a6.move q1, a5.fr (fun r _ _ => u r (by omega) (by omega)), a6.fr h67, Nat.le_refl _, a8.fr (by rw [u 17 (by omega) (by omega)]) (by rw [u 65 (by omega) (by omega)]) (u 18 (by omega) (by omega)) (u 68 (by omega) (by omega)), a9.fr (fun k _ => by rw [u 46 (by omega) (by omega)]) (by rw [u 65 (by omega) (by omega)]) (by rw [u 65 (by omega) (by omega)]), a10.fr (by rw [u 51 (by omega) (by omega)]) (by rw [u 65 (by omega) (by omega)]) (fun r _ _ => u r (by omega) (by omega)), hF.1 V V' _ (fun r _ _ => u r (by omega) (by omega)) (fun r _ _ => u r (by omega) (by omega)) (hF.2 V _ _ a7 a11)⟩
  · unfold f_Ww_back; rw [tn_0 V 7 (by omega), a5.1.1]
  · unfold f_Md_back f_Md_copies
    rw [show g_Md_copies_2 2000 0 0 (f_Rolls_takeOver_now V) = some V' from e, Option.bind_some, q1 0 (by decide), a6.2 0 (by decide) (by decide)]

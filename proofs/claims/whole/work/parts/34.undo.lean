/-! PURE: undo; counts of wet days and decrees; about, flood, found, skies -/
/-- what is taken back -/
def unS (S : Nat → Nat) (c k : Nat) : Nat := if k = 4 then S 4 - 1 else if k = 40 + c then 1 - S (40 + c) else S k
theorem op_undo {LW : xV → Nat → Prop} (hF : lwF LW) : P_undo (Inv LW) := by
  intro V L hI
  obtain ⟨S, K, hh⟩ := id hI
  obtain ⟨⟨r1, r2, r3, r4, r5, r6⟩, a2, ⟨c1, c2, c3, c4, c5, g1, pp, g2, g3, g4⟩, a4, -⟩ := id hh
  have r6 : S 4 ≤ 60 := r6
  have m4 : V 66 4 = nI (S 4) := a4.at (by omega) (by omega)
  -- the place of the latest step
  have hlat : f_Rolls_takeBack V = b_Rolls_takeBack_18 (nI ((pp + 59) % 60)) V := by
    unfold f_Rolls_takeBack
    rw [g3]
    by_cases q : pp = 0
    · subst q; rw [if_pos (show nI 0 ≤ 0 by decide)]; rfl
    · rw [if_neg (nI_nle (by omega) (by omega)), show (1 : Int32) = nI 1 from rfl, pk_sub (by omega), show (pp + 59) % 60 = pp - 1 by omega]
  by_cases h0 : S 4 = 0
  · refine ⟨-1, V, V, ?_, ?_, hI⟩
    · unfold f_Ww_undo
      rw [hlat]
      unfold b_Rolls_takeBack_18
      rw [g1, h0, if_pos (by decide)]; rfl
    · unfold f_Md_undo
      rw [m4, h0, if_neg (fun h => h rfl)]
  · obtain ⟨c, hc, k2, k3⟩ := g4 (S 4 - 1) (by omega)
    have ei : (pp + 60 - S 4 + (S 4 - 1)) % 60 = (pp + 59) % 60 := by omega
    rw [ei] at k2
    have k2 : V 8 ((pp + 59) % 60) = nI c := k2
    have hs : S (40 + c) < 2 := r4 c hc
    have eD : V 6 c = nI (S (40 + c)) := c4 c hc
    have hone : ∀ x, x < 2 → (1 : Int32) - nI x = nI (1 - x) := fun x hx => by rw [show (1 : Int32) = nI 1 from rfl, pk_sub (by omega)]
    refine ⟨nI (10 * (c / 4) + c % 4), x2 (x2 (x2 V 6 c (nI (1 - S (40 + c)))) 1 12 (nI ((pp + 59) % 60))) 1 11 (nI (S 4 - 1)), x2 (x2 (x2 (x2 (x2 V 6 c (nI (1 - S (40 + c)))) 1 12 (nI ((pp + 59) % 60))) 1 11 (nI (S 4 - 1))) 66 4 (nI (S 4 - 1))) 66 (40 + c) (nI (1 - S (40 + c))), ?_, ?_, ?_⟩
    · unfold f_Ww_undo
      rw [hlat]
      unfold b_Rolls_takeBack_18
      have hp59 : (pp + 59) % 60 < 60 := Nat.mod_lt _ (by decide)
      generalize (pp + 59) % 60 = pl at *
      rw [g1, if_neg (nI_nle (by omega) (by omega)), show (60 : Int32) = nI 60 from rfl, within_in hp59 (by decide), if_pos (by decide), if_pos (xI_ok hp59 (by decide)), cl (by omega), k2, show (120 : Int32) = nI 120 from rfl, within_in hc (by decide), if_pos (by decide), if_pos (xI_ok hc (by decide)), if_pos (xI_ok hc (by decide)), cl (by omega), eD, hone _ hs, x2_off (by omega), x2_ne (by decide), g1, show (1 : Int32) = nI 1 from rfl, pk_sub (by omega)]
      have e4 : (10 : Int32) * (nI c / 4) + xrem (nI c) 4 = nI (10 * (c / 4) + c % 4) := by
        unfold xrem
        rw [show (4 : Int32) = nI 4 from rfl, pk_rem (by omega) (by decide) (by decide), pk_div (by omega) (by decide) (by decide), show (10 : Int32) = nI 10 from rfl, pk_mul, nI_add]
      rw [e4]
      rfl
    · unfold f_Md_undo
      have m5 : V 66 (210 + (S 4 - 1)) = nI (10 * (c / 4) + c % 4) := by rw [a4.at (by omega) (by omega), k3]
      generalize hW : x2 (x2 (x2 V 6 c (nI (1 - S (40 + c)))) 1 12 (nI ((pp + 59) % 60))) 1 11 (nI (S 4 - 1)) = W
      have w66 : W 66 = V 66 := by rw [← hW, x2_ne (by decide), x2_ne (by decide), x2_ne (by decide)]
      have w4 : W 66 4 = nI (S 4) := by rw [w66]; exact m4
      have ec : (40 : Int32) + 4 * (nI (10 * (c / 4) + c % 4) / 10) + xrem (nI (10 * (c / 4) + c % 4)) 10 = nI (40 + c) := by
        unfold xrem
        rw [show (10 : Int32) = nI 10 from rfl, pk_rem (by omega) (by decide) (by decide), pk_div (by omega) (by decide) (by decide), show (10 * (c / 4) + c % 4) / 10 = c / 4 by omega, show (10 * (c / 4) + c % 4) % 10 = c % 4 by omega, mcell, show 4 * (c / 4) + c % 4 = c by omega]
      have hne : ¬ nI (S 4) = 0 := fun h => h0 (nI_small (b := 0) (by omega) (by decide) h)
      rw [w4, if_pos hne, show (1 : Int32) = nI 1 from rfl, pk_sub (by omega), x2_at, show (210 : Int32) + nI (S 4 - 1) = nI (210 + (S 4 - 1)) from nI_add 210 _, if_pos (xI_ok (by omega) (by decide)), cl (by omega), x2_off (by omega), w66, m5, ec, if_pos (xI_ok (by omega) (by decide)), if_pos (xI_ok (by omega) (by decide)), cl (by omega), x2_off (by omega), w66, a4.at (by omega) (by omega), show nI 1 - nI (S (40 + c)) = nI (1 - S (40 + c)) from hone _ hs]
    · have e : ∀ k, k ≠ 4 → k ≠ 40 + c → unS S c k = S k := fun k q1 q2 => by unfold unS; rw [if_neg q1, if_neg q2]
      have e4 : unS S c 4 = S 4 - 1 := if_pos rfl
      have ec : unS S c (40 + c) = 1 - S (40 + c) := by unfold unS; rw [if_neg (by omega), if_pos rfl]
      have v : ∀ r, r ≠ 1 → r ≠ 6 → r ≠ 66 → x2 (x2 (x2 (x2 (x2 V 6 c (nI (1 - S (40 + c)))) 1 12 (nI ((pp + 59) % 60))) 1 11 (nI (S 4 - 1))) 66 4 (nI (S 4 - 1))) 66 (40 + c) (nI (1 - S (40 + c))) r = V r := fun r h1 h6 h66 => by rw [x2_ne h66, x2_ne h66, x2_ne h1, x2_ne h1, x2_ne h6]
      refine Inv.roll hF (S' := unS S c) hh (fun r h9 h66 => v r (by omega) (by omega) h66) ⟨r1.fr (fun k _ => e k (by omega) (by omega)), r2.fr (fun k _ _ => e k (by omega) (by omega)), r3.fr (fun k _ _ => e k (by omega) (by omega)), fun t ht => ?_, r5.fr (fun k _ _ => e k (by omega) (by omega)), by unfold rT; rw [e4]; omega⟩ ⟨c1.fr (fun k _ _ => ?_) (fun k _ => e k (by omega) (by omega)), c2.fr (v _ (by decide) (by decide) (by decide)) (v _ (by decide) (by decide) (by decide)) (v _ (by decide) (by decide) (by decide)) (fun k _ _ => e k (by omega) (by omega)), c3.fr (v _ (by decide) (by decide) (by decide)) (fun k _ _ => e k (by omega) (by omega)), fun t ht => ?_, c5.fr (v _ (by decide) (by decide) (by decide)) (fun k _ _ => e k (by omega) (by omega)), ?_, (pp + 59) % 60, Nat.mod_lt _ (by decide), ?_, fun j hj => ?_⟩ ⟨?_, fun k hk h3 => ?_⟩ (e 2 (by omega) (by omega))
      · by_cases q : t = c
        · subst q; rw [ec]; omega
        · rw [e _ (by omega) (by omega)]; exact r4 t ht
      · rw [x2_ne (by decide), x2_ne (by decide), x2_off (by omega), x2_off (by omega), x2_ne (by decide)]
      · rw [x2_ne (by decide), x2_ne (by decide), x2_ne (by decide), x2_ne (by decide)]
        by_cases q : t = c
        · subst q; rw [ec]; exact x2_at _ _ _ _
        · rw [e _ (by omega) (by omega), x2_off (by omega)]; exact c4 t ht
      · rw [x2_ne (by decide), x2_ne (by decide), x2_at, e4]
      · rw [x2_ne (by decide), x2_ne (by decide), x2_off (by omega), x2_at]
      · rw [e4] at hj ⊢
        obtain ⟨c', k1, k5, k6⟩ := g4 j (by omega)
        refine ⟨c', k1, ?_, by rw [e _ (by omega) (by omega)]; exact k6⟩
        rw [v _ (by decide) (by decide) (by decide), show ((pp + 59) % 60 + 60 - (S 4 - 1) + j) % 60 = (pp + 60 - S 4 + j) % 60 by omega]
        exact k5
      · rw [x2_off (by omega), x2_off (by omega), x2_ne (by decide), x2_ne (by decide), x2_ne (by decide), e 3 (by omega) (by omega)]; exact a4.1
      · by_cases q : k = 40 + c
        · subst q; rw [x2_at, ec]
        · rw [x2_off (by omega)]
          by_cases q4 : k = 4
          · subst q4; rw [x2_at, e4]
          · rw [x2_off (by omega), x2_ne (by decide), x2_ne (by decide), x2_ne (by decide), e k q4 q]; exact a4.at hk h3

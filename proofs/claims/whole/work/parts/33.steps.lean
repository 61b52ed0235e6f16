/-! PURE: folk; decrees, steps and what is taken back -/
theorem pm.at {V : xV} {m : Nat} {S : Nat → Nat} (h : pm V m S) {k : Nat} (hk : k < 270) (h3 : k ≠ 3) : V m k = nI (S k) := h.2 k hk h3
theorem op_folk {LW : xV → Nat → Prop} (hF : lwF LW) : P_folk (Inv LW) := by
  intro a b c V L hI
  rcases wi a 4 3 4 (by decide) rfl (by decide) with ⟨h1, h2⟩ | ⟨p, hp, rfl, h1, h2⟩
  · refine ⟨-1, V, V, ?_, ?_, hI⟩
    · unfold f_Ww_folk; rw [h1]; rfl
    · unfold f_Md_folk f_Md_isProvince; rw [h2]; rfl
  rcases wi b 10 9 10 (by decide) rfl (by decide) with ⟨g1, g2⟩ | ⟨t, ht, rfl, g1, g2⟩
  · refine ⟨-1, V, V, ?_, ?_, hI⟩
    · unfold f_Ww_folk; rw [h1, g1]; rfl
    · unfold f_Md_folk f_Md_isProvince; rw [h2, g2]; rfl
  rcases wi c 10 9 10 (by decide) rfl (by decide) with ⟨k1, k2⟩ | ⟨f, hf, rfl, k1, k2⟩
  · refine ⟨-1, V, V, ?_, ?_, hI⟩
    · unfold f_Ww_folk; rw [h1, g1, k1]; rfl
    · unfold f_Md_folk f_Md_isProvince; rw [h2, g2, k2]; rfl
  obtain ⟨S, K, hh⟩ := id hI
  obtain ⟨⟨r1, r2, r3, r4, r5, r6⟩, a2, ⟨c1, c2, c3, c4, c5, c6⟩, a4, -⟩ := id hh
  have hn : S 0 ≤ 12 := r1.1
  have e1 : V 1 7 = nI (S 0) := c1.1
  have e2 : V 66 0 = nI (S 0) := a4.at (by omega) (by omega)
  by_cases hfull : S 0 = 12
  · refine ⟨-1, V, V, ?_, ?_, hI⟩
    · unfold f_Ww_folk f_Rolls_enrol; rw [h1, g1, k1, e1, hfull]; rfl
    · unfold f_Md_folk f_Md_isProvince; rw [h2, g2, k2, e2, hfull]; rfl
  have hlt : S 0 < 12 := by omega
  generalize hN : S 0 = n at *
  have w1 : f_Ww_within (nI n) 12 = 1 := by
    unfold f_Ww_within
    rw [if_neg (nI_pos (by omega)), if_neg (show ¬ (12 : Int32) ≤ nI n from nI_ge (b := 12) hlt (by decide))]
  refine ⟨nI n, x2 (x2 (x2 (x2 V 2 n (nI p)) 3 n (nI t)) 4 n (nI f)) 1 7 (nI (n + 1)), x2 (x2 (x2 (x2 (x2 (x2 (x2 (x2 V 2 n (nI p)) 3 n (nI t)) 4 n (nI f)) 1 7 (nI (n + 1))) 66 (170 + 3 * n) (nI p)) 66 (170 + 3 * n + 1) (nI t)) 66 (170 + 3 * n + 2) (nI f)) 66 0 (nI (n + 1)), ?_, ?_, ?_⟩
  · unfold f_Ww_folk f_Rolls_enrol
    simp only [x2_ne (show (1 : Nat) ≠ 2 by decide), x2_ne (show (1 : Nat) ≠ 3 by decide), x2_ne (show (1 : Nat) ≠ 4 by decide), e1, w1, h1, g1, k1, xI_ok hlt (show 12 < 2 ^ 31 by decide), cl (show n < 2 ^ 31 by omega), x2_at, nI_1, nI_pred]
    rfl
  · have m0 : ¬ nI n = 12 := fun q => by have := nI_small (a := n) (b := 12) (by omega) (by decide) q; omega
    have i0 : (170 : Int32) + 3 * nI n = nI (170 + 3 * n) := by rw [show (3 : Int32) = nI 3 from rfl, pk_mul, show (170 : Int32) = nI 170 from rfl, nI_add]
    have i1 : nI (170 + 3 * n) + 1 = nI (170 + 3 * n + 1) := nI_1 _
    have i2 : nI (170 + 3 * n) + 2 = nI (170 + 3 * n + 2) := nI_add _ 2
    unfold f_Md_folk f_Md_isProvince
    simp only [x2_ne (show (66 : Nat) ≠ 2 by decide), x2_ne (show (66 : Nat) ≠ 3 by decide), x2_ne (show (66 : Nat) ≠ 4 by decide), x2_ne (show (66 : Nat) ≠ 1 by decide), e2, h2, g2, k2, i0, i1, i2, xI_ok (show 170 + 3 * n < 270 by omega) (show 270 < 2 ^ 31 by decide), xI_ok (show 170 + 3 * n + 1 < 270 by omega) (show 270 < 2 ^ 31 by decide), xI_ok (show 170 + 3 * n + 2 < 270 by omega) (show 270 < 2 ^ 31 by decide), cl (show 170 + 3 * n < 2 ^ 31 by omega), cl (show 170 + 3 * n + 1 < 2 ^ 31 by omega), cl (show 170 + 3 * n + 2 < 2 ^ 31 by omega)]
    rw [if_neg (by decide), if_neg (by decide), if_neg (by decide), if_pos m0, if_pos trivial, if_pos trivial, if_pos trivial]
    have e3 : ∀ W : xV, x2 (x2 (x2 W 66 (170 + 3 * n) (nI p)) 66 (170 + 3 * n + 1) (nI t)) 66 (170 + 3 * n + 2) (nI f) 66 0 = W 66 0 := fun W => by rw [x2_off (by omega), x2_off (by omega), x2_off (by omega)]
    rw [e3, x2_at, x2_ne (by decide), x2_ne (by decide), x2_ne (by decide), x2_ne (by decide), e2, nI_1, nI_pred]
  · have e : ∀ k, k ≠ 170 + 3 * n → k ≠ 170 + 3 * n + 1 → k ≠ 170 + 3 * n + 2 → k ≠ 0 → su (su (su (su S (170 + 3 * n) p) (170 + 3 * n + 1) t) (170 + 3 * n + 2) f) 0 (n + 1) k = S k := fun k q1 q2 q3 q4 => by rw [su_ne q4, su_ne q3, su_ne q2, su_ne q1]
    have v : ∀ r, r ≠ 1 → r ≠ 2 → r ≠ 3 → r ≠ 4 → r ≠ 66 → x2 (x2 (x2 (x2 (x2 (x2 (x2 (x2 V 2 n (nI p)) 3 n (nI t)) 4 n (nI f)) 1 7 (nI (n + 1))) 66 (170 + 3 * n) (nI p)) 66 (170 + 3 * n + 1) (nI t)) 66 (170 + 3 * n + 2) (nI f)) 66 0 (nI (n + 1)) r = V r := fun r q1 q2 q3 q4 q5 => by rw [x2_ne q5, x2_ne q5, x2_ne q5, x2_ne q5, x2_ne q1, x2_ne q4, x2_ne q3, x2_ne q2]
    refine Inv.roll hF (S' := su (su (su (su S (170 + 3 * n) p) (170 + 3 * n + 1) t) (170 + 3 * n + 2) f) 0 (n + 1)) hh (fun r _ _ => v r (by omega) (by omega) (by omega) (by omega) (by omega)) ⟨⟨by rw [su_at]; omega, by rw [e 1 (by omega) (by omega) (by omega) (by omega)]; exact r1.2.1, by rw [e 2 (by omega) (by omega) (by omega) (by omega)]; exact r1.2.2.1, by rw [e 2 (by omega) (by omega) (by omega) (by omega), e 3 (by omega) (by omega) (by omega) (by omega)]; exact r1.2.2.2⟩, fun i hi => ?_, r3.fr (fun k _ _ => e k (by omega) (by omega) (by omega) (by omega)), r4.fr (fun k _ _ => e k (by omega) (by omega) (by omega) (by omega)), r5.fr (fun k _ _ => e k (by omega) (by omega) (by omega) (by omega)), by unfold rT; rw [e 4 (by omega) (by omega) (by omega) (by omega)]; exact r6⟩ ⟨⟨?_, ?_, ?_, ?_⟩, fun i hi => ?_, c3.fr (v _ (by omega) (by omega) (by omega) (by omega) (by omega)) (fun k _ _ => e k (by omega) (by omega) (by omega) (by omega)), c4.fr (v _ (by omega) (by omega) (by omega) (by omega) (by omega)) (fun k _ _ => e k (by omega) (by omega) (by omega) (by omega)), c5.fr (v _ (by omega) (by omega) (by omega) (by omega) (by omega)) (fun k _ _ => e k (by omega) (by omega) (by omega) (by omega)), c6.fr r6 (v _ (by omega) (by omega) (by omega) (by omega) (by omega)) ?_ ?_ (e 4 (by omega) (by omega) (by omega) (by omega)) (fun k _ _ => e k (by omega) (by omega) (by omega) (by omega))⟩ ?_ (e 2 (by omega) (by omega) (by omega) (by omega))
    · by_cases q : i = n
      · subst q
        rw [su_ne (by omega), su_ne (by omega), su_ne (by omega), su_at, su_ne (by omega), su_ne (by omega), su_at, su_ne (by omega), su_at]
        exact ⟨hp, ht, hf⟩
      · rw [e _ (by omega) (by omega) (by omega) (by omega), e _ (by omega) (by omega) (by omega) (by omega), e _ (by omega) (by omega) (by omega) (by omega)]; exact r2 i hi
    · rw [x2_ne (by decide), x2_ne (by decide), x2_ne (by decide), x2_ne (by decide), x2_at, su_at]
    · rw [x2_ne (by decide), x2_ne (by decide), x2_ne (by decide), x2_ne (by decide), x2_off (by omega), x2_ne (by decide), x2_ne (by decide), x2_ne (by decide), e 1 (by omega) (by omega) (by omega) (by omega)]; exact c1.2.1
    · rw [x2_ne (by decide), x2_ne (by decide), x2_ne (by decide), x2_ne (by decide), x2_off (by omega), x2_ne (by decide), x2_ne (by decide), x2_ne (by decide), e 2 (by omega) (by omega) (by omega) (by omega)]; exact c1.2.2.1
    · rw [x2_ne (by decide), x2_ne (by decide), x2_ne (by decide), x2_ne (by decide), x2_off (by omega), x2_ne (by decide), x2_ne (by decide), x2_ne (by decide), e 3 (by omega) (by omega) (by omega) (by omega)]; exact c1.2.2.2
    · simp only [x2_ne (show (1 + 1 : Nat) ≠ 66 by decide), x2_ne (show (1 + 2 : Nat) ≠ 66 by decide), x2_ne (show (1 + 3 : Nat) ≠ 66 by decide), x2_ne (show (1 + 1 : Nat) ≠ 1 by decide), x2_ne (show (1 + 2 : Nat) ≠ 1 by decide), x2_ne (show (1 + 3 : Nat) ≠ 1 by decide), x2_ne (show (1 + 1 : Nat) ≠ 3 by decide), x2_ne (show (1 + 1 : Nat) ≠ 4 by decide), x2_ne (show (1 + 2 : Nat) ≠ 2 by decide), x2_ne (show (1 + 2 : Nat) ≠ 4 by decide), x2_ne (show (1 + 3 : Nat) ≠ 2 by decide), x2_ne (show (1 + 3 : Nat) ≠ 3 by decide)]
      by_cases q : i = n
      · subst q
        rw [su_ne (by omega), su_ne (by omega), su_ne (by omega), su_at, su_ne (by omega), su_ne (by omega), su_at, su_ne (by omega), su_at]
        exact ⟨x2_at _ _ _ _, x2_at _ _ _ _, x2_at _ _ _ _⟩
      · obtain ⟨d1, d2, d3⟩ := c2 i hi
        rw [e _ (by omega) (by omega) (by omega) (by omega), e _ (by omega) (by omega) (by omega) (by omega), e _ (by omega) (by omega) (by omega) (by omega)]
        refine ⟨?_, ?_, ?_⟩
        · rw [x2_off (by omega)]; exact d1
        · rw [x2_off (by omega)]; first | exact d2 | (rw [x2_ne (by decide)]; exact d2)
        · rw [x2_off (by omega)]; first | exact d3 | (rw [x2_ne (by decide), x2_ne (by decide)]; exact d3)
    · rw [x2_ne (by decide), x2_ne (by decide), x2_ne (by decide), x2_ne (by decide), x2_off (by omega), x2_ne (by decide), x2_ne (by decide), x2_ne (by decide)]
    · rw [x2_ne (by decide), x2_ne (by decide), x2_ne (by decide), x2_ne (by decide), x2_off (by omega), x2_ne (by decide), x2_ne (by decide), x2_ne (by decide)]
    · have a5 : pm (x2 (x2 (x2 (x2 V 2 n (nI p)) 3 n (nI t)) 4 n (nI f)) 1 7 (nI (n + 1))) 66 S := a4.fr (by rw [x2_ne (by decide), x2_ne (by decide), x2_ne (by decide), x2_ne (by decide)])
      exact (((a5.set p (by omega)).set t (by omega)).set f (by omega)).set (n + 1) (by omega)
/-- what a decree does to the rolls -/
def stS (S : Nat → Nat) (c w k : Nat) : Nat := if S (40 + c) = w then S k else
  if k = 40 + c then w else if k = 4 then (if S 4 = 60 then 60 else S 4 + 1) else if 210 ≤ k ∧ k < 270 then (if S 4 = 60 then (if k = 269 then 10 * (c / 4) + c % 4 else S (k + 1)) else if k = 210 + S 4 then 10 * (c / 4) + c % 4 else S k) else S k
theorem stS_same {S : Nat → Nat} {c w : Nat} (h : S (40 + c) = w) : stS S c w = S := by funext k; unfold stS; rw [if_pos h]
theorem stS_other {S : Nat → Nat} {c w k : Nat} (h1 : k ≠ 40 + c) (h2 : k ≠ 4) (h3 : k < 210 ∨ 270 ≤ k) : stS S c w k = S k := by
  unfold stS
  by_cases q : S (40 + c) = w
  · rw [if_pos q]
  · rw [if_neg q, if_neg h1, if_neg h2, if_neg (by omega)]
theorem stS_cell {S : Nat → Nat} {c w : Nat} (h : ¬ S (40 + c) = w) : stS S c w (40 + c) = w := by unfold stS; rw [if_neg h, if_pos rfl]
theorem stS_4 {S : Nat → Nat} {c w : Nat} (h : ¬ S (40 + c) = w) (_ : c < 120) : stS S c w 4 = if S 4 = 60 then 60 else S 4 + 1 := by unfold stS; rw [if_neg h, if_neg (by omega), if_pos rfl]
theorem stS_step {S : Nat → Nat} {c w j : Nat} (h : ¬ S (40 + c) = w) (hc : c < 120) (hj : j < 60) : stS S c w (210 + j) = if S 4 = 60 then (if j = 59 then 10 * (c / 4) + c % 4 else S (210 + j + 1)) else if j = S 4 then 10 * (c / 4) + c % 4 else S (210 + j) := by
  unfold stS
  rw [if_neg h, if_neg (by omega), if_neg (by omega), if_pos (by omega)]
  by_cases q : S 4 = 60
  · rw [if_pos q, if_pos q]
    by_cases q2 : j = 59
    · rw [if_pos (by omega), if_pos q2]
    · rw [if_neg (by omega), if_neg q2]
  · rw [if_neg q, if_neg q]
    by_cases q2 : j = S 4
    · rw [if_pos (by omega), if_pos q2]
    · rw [if_neg (by omega), if_neg q2]
theorem stS_rok {S : Nat → Nat} {c w : Nat} (h : rok S) (hc : c < 120) (hw : w < 2) : rok (stS S c w) := by
  by_cases q0 : S (40 + c) = w
  · rw [stS_same q0]; exact h
  obtain ⟨r1, r2, r3, r4, r5, r6⟩ := h
  refine ⟨r1.fr (fun k _ => stS_other (by omega) (by omega) (by omega)), r2.fr (fun k _ _ => stS_other (by omega) (by omega) (by omega)), r3.fr (fun k _ _ => stS_other (by omega) (by omega) (by omega)), fun t ht => ?_, r5.fr (fun k _ _ => stS_other (by omega) (by omega) (by omega)), ?_⟩
  · by_cases q : t = c
    · subst q; rw [stS_cell q0]; exact hw
    · rw [stS_other (by omega) (by omega) (by omega)]; exact r4 t ht
  · unfold rT
    have : S 4 ≤ 60 := r6
    rw [stS_4 q0 hc]
    split <;> omega
theorem cell4 (d p : Nat) : nI d * 4 + nI p = nI (4 * d + p) := by rw [show (4 : Int32) = nI 4 from rfl, pk_mul, nI_add, Nat.mul_comm]
theorem within_in {c n : Nat} (h : c < n) (hn : n < 2 ^ 31) : f_Ww_within (nI c) (nI n) = 1 := by
  unfold f_Ww_within
  rw [if_neg (nI_pos (by omega)), if_neg (nI_ge h hn)]
theorem stamp86 {S : Nat → Nat} (h6 : S 4 ≤ 60) (s0 : Nat) (W : xV) (hW : W 1 11 = nI (S 4)) : b_Rolls_stamp_86 (nI s0) W = some (1, x2 (x2 W 1 12 (nI s0)) 1 11 (nI (if S 4 = 60 then 60 else S 4 + 1))) := by
  unfold b_Rolls_stamp_86
  rw [x2_off (by omega), hW, nI_1]
  have e : xmin 60 (nI (S 4 + 1)) = nI (if S 4 = 60 then 60 else S 4 + 1) := by
    unfold xmin
    by_cases q : S 4 + 1 < 60
    · rw [if_pos (show nI (S 4 + 1) < (60 : Int32) from nI_lt q (by decide)), if_neg (by omega)]
    · rw [if_neg (show ¬ nI (S 4 + 1) < (60 : Int32) from nI_nlt (b := 60) (by omega) (by omega))]
      by_cases q2 : S 4 = 60
      · rw [if_pos q2]; rfl
      · rw [if_neg q2, show S 4 + 1 = 60 by omega]; rfl
  rw [e]
theorem stamp64 {S : Nat → Nat} (h6 : S 4 ≤ 60) {pp : Nat} (hp : pp < 60) (W : xV) (hW : W 1 11 = nI (S 4)) (hW2 : W 1 12 = nI pp) : b_Rolls_stamp_64 W = some (1, x2 (x2 W 1 12 (nI ((pp + 1) % 60))) 1 11 (nI (if S 4 = 60 then 60 else S 4 + 1))) := by
  unfold b_Rolls_stamp_64
  rw [hW2, nI_1]
  by_cases q : 60 ≤ pp + 1
  · rw [if_pos (show (60 : Int32) ≤ nI (pp + 1) from nI_le (a := 60) q (by omega)), show (pp + 1) % 60 = 0 by omega]
    exact stamp86 h6 0 W hW
  · rw [if_neg (show ¬ (60 : Int32) ≤ nI (pp + 1) from nI_ge (b := 60) (by omega) (by decide)), show (pp + 1) % 60 = pp + 1 by omega]
    exact stamp86 h6 (pp + 1) W hW
theorem stamp_ok {V : xV} {S : Nat → Nat} (h : pc V 1 S) (hr : rok S) {d p w : Nat} (hd : d < 30) (hp : p < 4) (hw : w < 2) : ∃ V1, f_Rolls_stamp (nI d) (nI p) (nI w) V = some (if S (40 + (4 * d + p)) = w then 0 else 1, V1) ∧ pc V1 1 (stS S (4 * d + p) w) ∧ ∀ r, r ≠ 1 → r ≠ 6 → r ≠ 8 → V1 r = V r := by
  obtain ⟨r1, r2, r3, r4, r5, r6⟩ := hr
  obtain ⟨c1, c2, c3, c4, c5, g1, pp, g2, g3, g4⟩ := id h
  have hc : 4 * d + p < 120 := by omega
  generalize hcc : 4 * d + p = c at *
  have r6 : S 4 ≤ 60 := r6
  have e6 : V 6 c = nI (S (40 + c)) := c4 c hc
  have hs : S (40 + c) < 2 := r4 c hc
  unfold f_Rolls_stamp
  rw [cell4, hcc, show (120 : Int32) = nI 120 from rfl, within_in hc (by decide), if_neg (by decide), if_pos (xI_ok hc (by decide)), cl (by omega), e6]
  by_cases q : S (40 + c) = w
  · refine ⟨V, ?_, ?_, fun _ _ _ _ => rfl⟩
    · rw [q, if_neg (fun h => h rfl), if_pos rfl]
    · rw [stS_same q]; exact h
  · have q2 : ¬ nI (S (40 + c)) = nI w := fun h => q (nI_small (by omega) (by omega) h)
    rw [if_pos q2, if_pos (xI_ok hc (by decide)), x2_ne (by decide), g3, show (60 : Int32) = nI 60 from rfl, within_in g2 (by decide), if_neg (by decide), if_pos (xI_ok g2 (by decide)), cl (by omega), if_neg q]
    rw [stamp64 r6 g2 _ (by rw [x2_ne (by decide), x2_ne (by decide)]; exact g1) (by rw [x2_ne (by decide), x2_ne (by decide)]; exact g3)]
    refine ⟨_, rfl, ?_, fun r h1 h6 h8 => by rw [x2_ne h1, x2_ne h1, x2_ne h8, x2_ne h6]⟩
    have v : ∀ r, r ≠ 1 → r ≠ 6 → r ≠ 8 → x2 (x2 (x2 (x2 V 6 c (nI w)) 8 pp (nI c)) 1 12 (nI ((pp + 1) % 60))) 1 11 (nI (if S 4 = 60 then 60 else S 4 + 1)) r = V r := fun r h1 h6 h8 => by rw [x2_ne h1, x2_ne h1, x2_ne h8, x2_ne h6]
    refine ⟨c1.fr (fun k _ _ => by rw [x2_off (by omega), x2_off (by omega), x2_ne (by decide), x2_ne (by decide)]) (fun k _ => stS_other (by omega) (by omega) (by omega)), c2.fr (v _ (by decide) (by decide) (by decide)) (v _ (by decide) (by decide) (by decide)) (v _ (by decide) (by decide) (by decide)) (fun k _ _ => stS_other (by omega) (by omega) (by omega)), c3.fr (v _ (by decide) (by decide) (by decide)) (fun k _ _ => stS_other (by omega) (by omega) (by omega)), fun t ht => ?_, c5.fr (v _ (by decide) (by decide) (by decide)) (fun k _ _ => stS_other (by omega) (by omega) (by omega)), ?_, (pp + 1) % 60, by omega, ?_, fun j hj => ?_⟩
    · rw [x2_ne (by decide), x2_ne (by decide), x2_ne (by decide)]
      by_cases q3 : t = c
      · subst q3; rw [stS_cell q]; exact x2_at _ _ _ _
      · rw [x2_off (by omega), stS_other (by omega) (by omega) (by omega)]; exact c4 t ht
    · rw [x2_at, stS_4 q hc]
    · rw [x2_off (by omega), x2_at]
    · rw [x2_ne (by decide), x2_ne (by decide)]
      rw [stS_4 q hc] at hj ⊢
      by_cases q4 : S 4 = 60
      · rw [if_pos q4] at hj ⊢
        rw [stS_step q hc hj, if_pos q4]
        by_cases q5 : j = 59
        · refine ⟨c, hc, ?_, if_pos q5⟩
          rw [show ((pp + 1) % 60 + 60 - 60 + j) % 60 = pp by omega]
          exact x2_at _ _ _ _
        · obtain ⟨c', k1, k2, k3⟩ := g4 (j + 1) (by omega)
          refine ⟨c', k1, ?_, by rw [if_neg q5]; exact k3⟩
          rw [x2_off (by omega), x2_ne (by decide)]
          rw [q4] at k2
          rw [show ((pp + 1) % 60 + 60 - 60 + j) % 60 = (pp + 60 - 60 + (j + 1)) % 60 by omega]
          exact k2
      · rw [if_neg q4] at hj ⊢
        rw [stS_step q hc (by omega), if_neg q4]
        by_cases q5 : j = S 4
        · refine ⟨c, hc, ?_, if_pos q5⟩
          rw [show ((pp + 1) % 60 + 60 - (S 4 + 1) + j) % 60 = pp by omega]
          exact x2_at _ _ _ _
        · obtain ⟨c', k1, k2, k3⟩ := g4 j (by omega)
          refine ⟨c', k1, ?_, by rw [if_neg q5]; exact k3⟩
          rw [x2_off (by omega), x2_ne (by decide)]
          rw [show ((pp + 1) % 60 + 60 - (S 4 + 1) + j) % 60 = (pp + 60 - S 4 + j) % 60 by omega]
          exact k2
/-- the model's -/
theorem mcell (d p : Nat) : (40 : Int32) + 4 * nI d + nI p = nI (40 + (4 * d + p)) := by rw [show (4 : Int32) = nI 4 from rfl, pk_mul, show (40 : Int32) = nI 40 from rfl, nI_add, nI_add, Nat.add_assoc]
theorem m85 {V : xV} {d p k : Nat} (hk : k < 60) (h4 : V 66 4 = nI k) : b_Md_decrees_85 (nI d) (nI p) V = some (1, x2 (x2 V 66 (210 + k) (nI (10 * d + p))) 66 4 (nI (k + 1))) := by
  unfold b_Md_decrees_85
  rw [h4, show (210 : Int32) + nI k = nI (210 + k) from nI_add 210 k, if_pos (xI_ok (by omega) (by decide)), cl (by omega), show (10 : Int32) * nI d + nI p = nI (10 * d + p) by rw [show (10 : Int32) = nI 10 from rfl, pk_mul, nI_add], x2_off (by omega), h4, nI_1]
/-- the row, its last places moved down from j on -/
def shV (V : xV) (j : Nat) : xV := fun r k => if r = 66 ∧ 210 ≤ k ∧ k < j then V r (k + 1) else V r k
theorem shV_step (V : xV) {j : Nat} (hj : 210 ≤ j) : x2 (shV V j) 66 j (V 66 (j + 1)) = shV V (j + 1) := by
  funext r k
  unfold x2 shV
  by_cases q : r = 66
  · subst q
    by_cases q2 : k = j
    · subst q2
      rw [if_pos ⟨rfl, rfl⟩, if_pos ⟨rfl, hj, by omega⟩]
    · rw [if_neg (fun h => q2 h.2)]
      by_cases q3 : 210 ≤ k ∧ k < j
      · rw [if_pos ⟨rfl, q3⟩, if_pos ⟨rfl, q3.1, by omega⟩]
      · rw [if_neg (fun h => q3 h.2), if_neg (fun h => q3 ⟨h.2.1, by omega⟩)]
  · rw [if_neg (fun h => q h.1), if_neg (fun h => q h.1), if_neg (fun h => q h.1)]
theorem m47 {V : xV} {d p : Nat} : ∀ (n j : Nat) (f : Nat), j + n = 269 → 210 ≤ j → n < f → g_Md_decrees_47 f (nI d) (nI p) (nI j) (shV V j) = b_Md_decrees_85 (nI d) (nI p) (x2 (shV V 269) 66 4 59)
  | 0, j, f + 1, hj, h2, hf => by
    have e : j = 269 := by omega
    subst e
    show b_Md_decrees_47 _ _ _ _ _ = _
    unfold b_Md_decrees_47
    rw [if_pos (show (269 : Int32) ≤ nI 269 from nI_le (a := 269) (Nat.le_refl _) (by decide))]
  | n + 1, j, f + 1, hj, h2, hf => by
    show b_Md_decrees_47 _ _ _ _ _ = _
    unfold b_Md_decrees_47
    have e1 : shV V j 66 (j + 1) = V 66 (j + 1) := if_neg (by omega)
    rw [if_neg (show ¬ (269 : Int32) ≤ nI j from nI_ge (b := 269) (by omega) (by decide)), nI_1, if_pos (xI_ok (by omega) (by decide)), if_pos (xI_ok (by omega) (by decide)), cl (by omega), cl (by omega), e1, shV_step V h2]
    exact m47 n (j + 1) f (by omega) (by omega) (by omega)
theorem shV_0 (V : xV) : shV V 210 = V := by
  funext r k
  exact if_neg (by omega)
theorem decrees_ok {V : xV} {S : Nat → Nat} (h : pm V 66 S) (hr : rok S) {d p w : Nat} (hd : d < 30) (hp : p < 4) (hw : w < 2) : ∃ V1, f_Md_decrees (nI d) (nI p) (nI w) V = some (if S (40 + (4 * d + p)) = w then 0 else 1, V1) ∧ pm V1 66 (stS S (4 * d + p) w) ∧ ∀ r, r ≠ 66 → V1 r = V r := by
  obtain ⟨r1, r2, r3, r4, r5, r6⟩ := hr
  have hc : 4 * d + p < 120 := by omega
  have hdp : 10 * d + p = 10 * ((4 * d + p) / 4) + (4 * d + p) % 4 := by omega
  generalize hcc : 4 * d + p = c at *
  have r6 : S 4 ≤ 60 := r6
  have e6 : V 66 (40 + c) = nI (S (40 + c)) := h.at (by omega) (by omega)
  have hs : S (40 + c) < 2 := r4 c hc
  unfold f_Md_decrees
  rw [mcell, hcc, if_pos (xI_ok (by omega) (by decide)), cl (by omega), e6]
  by_cases q : S (40 + c) = w
  · refine ⟨V, ?_, ?_, fun _ _ => rfl⟩
    · rw [q, if_neg (fun h => h rfl), if_pos rfl]
    · rw [stS_same q]; exact h
  · have q2 : ¬ nI (S (40 + c)) = nI w := fun h => q (nI_small (by omega) (by omega) h)
    have e4 : V 66 4 = nI (S 4) := h.at (by omega) (by omega)
    rw [if_pos q2, if_pos (xI_ok (by omega) (by decide)), x2_off (by omega), e4, if_neg q]
    by_cases q4 : S 4 = 60
    · rw [q4, if_neg (fun h => h rfl)]
      have e0 := m47 (V := x2 V 66 (40 + c) (nI w)) (d := d) (p := p) 59 210 2000 (by omega) (by omega) (by omega)
      rw [shV_0] at e0
      rw [show (210 : Int32) = nI 210 from rfl, e0, m85 (V := x2 (shV (x2 V 66 (40 + c) (nI w)) 269) 66 4 59) (k := 59) (by omega) (x2_at _ _ _ _)]
      refine ⟨_, rfl, ⟨?_, fun k hk h3 => ?_⟩, fun r hr => ?_⟩
      · rw [x2_off (by omega), x2_off (by omega), x2_off (by omega), stS_other (by omega) (by omega) (by omega)]
        rw [show shV (x2 V 66 (40 + c) (nI w)) 269 66 3 = x2 V 66 (40 + c) (nI w) 66 3 from if_neg (by omega), x2_off (by omega)]
        exact h.1
      · by_cases k4 : k = 4
        · subst k4; rw [x2_at, stS_4 q hc, if_pos q4]
        · rw [x2_off (by omega)]
          by_cases k9 : k = 269
          · subst k9
            have := stS_step (j := 59) q hc (by omega)
            rw [x2_at, this, if_pos q4, if_pos rfl, hdp]
          · rw [x2_off (by omega), x2_off (by omega)]
            by_cases k2 : 210 ≤ k
            · have h5 := stS_step (j := k - 210) q hc (by omega)
              rw [show 210 + (k - 210) = k by omega] at h5
              rw [h5, if_pos q4, if_neg (by omega)]
              rw [show shV (x2 V 66 (40 + c) (nI w)) 269 66 k = x2 V 66 (40 + c) (nI w) 66 (k + 1) from if_pos ⟨rfl, k2, by omega⟩, x2_off (by omega)]
              exact h.at (by omega) (by omega)
            · rw [show shV (x2 V 66 (40 + c) (nI w)) 269 66 k = x2 V 66 (40 + c) (nI w) 66 k from if_neg (by omega)]
              by_cases kc : k = 40 + c
              · subst kc; rw [x2_at, stS_cell q]
              · rw [x2_off (by omega), stS_other kc k4 (by omega)]; exact h.at hk h3
      · rw [x2_ne hr, x2_ne hr, x2_ne hr]
        have : shV (x2 V 66 (40 + c) (nI w)) 269 r = x2 V 66 (40 + c) (nI w) r := by funext k; exact if_neg (fun h => hr h.1)
        rw [this, x2_ne hr]
    · have q5 : ¬ nI (S 4) = 60 := fun h => q4 (nI_small (b := 60) (by omega) (by decide) h)
      rw [if_pos q5, m85 (k := S 4) (by omega) (by rw [x2_off (by omega)]; exact e4)]
      refine ⟨_, rfl, ⟨?_, fun k hk h3 => ?_⟩, fun r hr => by rw [x2_ne hr, x2_ne hr, x2_ne hr]⟩
      · rw [x2_off (by omega), x2_off (by omega), x2_off (by omega), stS_other (by omega) (by omega) (by omega)]; exact h.1
      · by_cases k4 : k = 4
        · subst k4; rw [x2_at, stS_4 q hc, if_neg q4]
        · rw [x2_off (by omega)]
          by_cases k9 : k = 210 + S 4
          · subst k9
            rw [x2_at, stS_step q hc (by omega), if_neg q4, if_pos rfl, hdp]
          · rw [x2_off (by omega)]
            by_cases kc : k = 40 + c
            · subst kc; rw [x2_at, stS_cell q]
            · rw [x2_off (by omega)]
              by_cases k2 : 210 ≤ k
              · have h5 := stS_step (j := k - 210) q hc (by omega)
                rw [show 210 + (k - 210) = k by omega] at h5
                rw [h5, if_neg q4, if_neg (by omega)]
                exact h.at hk h3
              · rw [stS_other kc k4 (by omega)]; exact h.at hk h3
theorem op_decree {LW : xV → Nat → Prop} (hF : lwF LW) : P_decree (Inv LW) := by
  intro a b w V L hI hw
  rcases wi a 30 29 30 (by decide) rfl (by decide) with ⟨h1, h2⟩ | ⟨d, hd, rfl, h1, h2⟩
  · refine ⟨0, V, V, ?_, ?_, hI⟩
    · unfold f_Ww_decree; rw [h1]; rfl
    · unfold f_Md_decree f_Md_isDay; rw [h2]; rfl
  rcases wi b 4 3 4 (by decide) rfl (by decide) with ⟨g1, g2⟩ | ⟨p, hp, rfl, g1, g2⟩
  · refine ⟨0, V, V, ?_, ?_, hI⟩
    · unfold f_Ww_decree; rw [h1, g1]; rfl
    · unfold f_Md_decree f_Md_isDay f_Md_isProvince; rw [h2, g2]; rfl
  obtain ⟨S, K, hh⟩ := hI
  obtain ⟨u, hu, hu2⟩ : ∃ u, u < 2 ∧ w = nI u := by rcases hw with rfl | rfl; exact ⟨0, by decide, rfl⟩; exact ⟨1, by decide, rfl⟩
  obtain ⟨V1, e1, p1, f1⟩ := stamp_ok hh.2.2.1 hh.1 hd hp hu
  obtain ⟨V2, e2, p2, f2⟩ := decrees_ok (V := V1) (hh.2.2.2.1.fr (f1 66 (by decide) (by decide) (by decide))) hh.1 hd hp hu
  refine ⟨1, V1, V2, ?_, ?_, Inv.roll hF hh (fun r h9 h66 => by rw [f2 r h66, f1 r (by omega) (by omega) (by omega)]) (stS_rok hh.1 (by omega) hu) (p1.fr (fun r _ _ => f2 r (by omega))) p2 (stS_other (by omega) (by omega) (by omega))⟩
  · unfold f_Ww_decree
    rw [h1, g1, if_neg (by decide), if_pos (by decide)]
    rcases hw with rfl | rfl
    · rw [if_pos rfl, show (0 : Int32) = nI u from hu2, e1]; rfl
    · rw [if_neg (by decide), show (1 : Int32) = nI u from hu2, e1]; rfl
  · unfold f_Md_decree f_Md_isDay f_Md_isProvince
    rw [h2, g2, if_neg (by decide), if_pos (by decide)]
    rcases hw with rfl | rfl
    · rw [if_pos rfl, show (0 : Int32) = nI u from hu2, e2]; rfl
    · rw [if_neg (by decide), show (1 : Int32) = nI u from hu2, e2]; rfl

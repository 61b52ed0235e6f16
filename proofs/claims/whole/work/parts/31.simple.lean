/-! PURE: the calls that set a number -/
theorem Inv.roll {LW : xV → Nat → Prop} (hF : lwF LW) {V V' : xV} {L' : xL} {S S' K : Nat → Nat} (h : rok S ∧ rok K ∧ pc V 1 S ∧ pm V 66 S ∧ pc V 9 K ∧ pm V 67 K ∧ K 2 ≤ S 2 ∧ tp V ∧ ft V ∧ ms V ∧ LW V (S 2)) (hV : ∀ r, 9 ≤ r → r ≠ 66 → V' r = V r) (hr : rok S') (h1 : pc V' 1 S') (h2 : pm V' 66 S') (h3 : S' 2 = S 2) : Inv LW V' L' := by
  obtain ⟨a1, a2, a3, a4, a5, a6, a7, a8, a9, a10, a11⟩ := h
  refine ⟨S', K, hr, a2, h1, h2, a5.fr (fun r _ _ => hV r (by omega) (by omega)), a6.fr (hV _ (by omega) (by omega)), by rw [h3]; exact a7, a8.fr ?_ ?_ (hV _ (by omega) (by omega)) (hV _ (by omega) (by omega)), a9.fr ?_ ?_ ?_, a10.fr ?_ ?_ (fun r _ _ => hV r (by omega) (by omega)), ?_⟩
  · rw [hV _ (by omega) (by omega)]
  · rw [hV _ (by omega) (by omega)]
  · intro k _; rw [hV _ (by omega) (by omega)]
  · rw [hV _ (by omega) (by omega)]
  · rw [hV _ (by omega) (by omega)]
  · rw [hV _ (by omega) (by omega)]
  · rw [hV _ (by omega) (by omega)]
  · rw [h3]; exact hF.1 V _ _ (fun r _ _ => hV r (by omega) (by omega)) (fun r _ _ => hV r (by omega) (by omega)) a11
/-- one number of the rolls and of the model's row -/
theorem xoff2 {V : xV} {a b i j : Nat} {u v : Int32} {r : Nat} (h1 : r ≠ a) (h2 : r ≠ b) : x2 (x2 V a i u) b j v r = V r := by rw [x2_ne h2, x2_ne h1]
theorem op_ruin {LW : xV → Nat → Prop} (hF : lwF LW) : P_ruin (Inv LW) := by
  intro a V L hI
  rcases wi a 10000 9999 10000 (by decide) rfl (by decide) with ⟨h1, h2⟩ | ⟨j, hj, rfl, h1, h2⟩
  · refine ⟨0, V, V, ?_, ?_, hI⟩
    · unfold f_Ww_ruin; rw [h1]; rfl
    · unfold f_Md_ruin; rw [h2]; rfl
  · refine ⟨1, x2 V 1 8 (nI j), x2 (x2 V 1 8 (nI j)) 66 1 (nI j), ?_, ?_, ?_⟩
    · unfold f_Ww_ruin; rw [h1]; rfl
    · unfold f_Md_ruin; rw [h2]; rfl
    · obtain ⟨S, K, hh⟩ := hI
      obtain ⟨⟨r1, r2, r3, r4, r5, r6⟩, a2, ⟨c1, c2, c3, c4, c5, c6⟩, a4, -⟩ := id hh
      have e : ∀ k, k ≠ 1 → su S 1 j k = S k := fun k hk => su_ne hk
      refine Inv.roll hF (S' := su S 1 j) hh (fun r _ _ => xoff2 (by omega) (by omega)) ⟨⟨by rw [e 0 (by omega)]; exact r1.1, by rw [su_at]; exact hj, by rw [e 2 (by omega)]; exact r1.2.2.1, by rw [e 2 (by omega), e 3 (by omega)]; exact r1.2.2.2⟩, r2.fr (fun k _ _ => e k (by omega)), r3.fr (fun k _ _ => e k (by omega)), r4.fr (fun k _ _ => e k (by omega)), r5.fr (fun k _ _ => e k (by omega)), by unfold rT; rw [e 4 (by omega)]; exact r6⟩ ⟨⟨?_, ?_, ?_, ?_⟩, c2.fr (xoff2 (by omega) (by omega)) (xoff2 (by omega) (by omega)) (xoff2 (by omega) (by omega)) (fun k _ _ => e k (by omega)), c3.fr (xoff2 (by omega) (by omega)) (fun k _ _ => e k (by omega)), c4.fr (xoff2 (by omega) (by omega)) (fun k _ _ => e k (by omega)), c5.fr (xoff2 (by omega) (by omega)) (fun k _ _ => e k (by omega)), c6.fr r6 (xoff2 (by omega) (by omega)) ?_ ?_ (e 4 (by omega)) (fun k _ _ => e k (by omega))⟩ ((a4.fr (x2_ne (by omega))).set j (by omega)) (e 2 (by omega))
      · rw [x2_off (by omega), x2_off (by omega), e 0 (by omega)]; exact c1.1
      · rw [x2_off (by omega), x2_at, su_at]
      · rw [x2_off (by omega), x2_off (by omega), e 2 (by omega)]; exact c1.2.2.1
      · rw [x2_off (by omega), x2_off (by omega), e 3 (by omega)]; exact c1.2.2.2
      · rw [x2_off (by omega), x2_off (by omega)]
      · rw [x2_off (by omega), x2_off (by omega)]
theorem op_chance {LW : xV → Nat → Prop} (hF : lwF LW) : P_chance (Inv LW) := by
  intro a b V L hI
  rcases wi a 10 9 10 (by decide) rfl (by decide) with ⟨h1, h2⟩ | ⟨s, hs, rfl, h1, h2⟩
  · refine ⟨0, V, V, ?_, ?_, hI⟩
    · unfold f_Ww_chance; rw [h1]; rfl
    · unfold f_Md_chance; rw [h2]; rfl
  rcases wi b 10 9 10 (by decide) rfl (by decide) with ⟨g1, g2⟩ | ⟨j, hj, rfl, g1, g2⟩
  · refine ⟨0, V, V, ?_, ?_, hI⟩
    · unfold f_Ww_chance; rw [h1, g1]; rfl
    · unfold f_Md_chance; rw [h2, g2]; rfl
  refine ⟨1, x2 V 7 s (nI j), x2 (x2 V 7 s (nI j)) 66 (160 + s) (nI j), ?_, ?_, ?_⟩
  · unfold f_Ww_chance; rw [h1, g1, if_neg (by decide), if_pos (by decide), if_pos (xI_ok hs (by decide)), cl (by omega)]
  · unfold f_Md_chance; rw [h2, g2, if_neg (by decide), if_pos (by decide), show (160 : Int32) + nI s = nI (160 + s) from nI_add 160 s, if_pos (xI_ok (by omega) (by decide)), cl (by omega)]
  · obtain ⟨S, K, hh⟩ := hI
    obtain ⟨⟨r1, r2, r3, r4, r5, r6⟩, a2, ⟨c1, c2, c3, c4, c5, c6⟩, a4, -⟩ := id hh
    have e : ∀ k, k ≠ 160 + s → su S (160 + s) j k = S k := fun k hk => su_ne hk
    refine Inv.roll hF (S' := su S (160 + s) j) hh (fun r _ _ => xoff2 (by omega) (by omega)) ⟨r1.fr (fun k _ => e k (by omega)), r2.fr (fun k _ _ => e k (by omega)), r3.fr (fun k _ _ => e k (by omega)), r4.fr (fun k _ _ => e k (by omega)), fun t ht => ?_, by unfold rT; rw [e 4 (by omega)]; exact r6⟩ ⟨c1.fr (fun k _ _ => by rw [xoff2 (by omega) (by omega)]) (fun k _ => e k (by omega)), c2.fr (xoff2 (by omega) (by omega)) (xoff2 (by omega) (by omega)) (xoff2 (by omega) (by omega)) (fun k _ _ => e k (by omega)), c3.fr (xoff2 (by omega) (by omega)) (fun k _ _ => e k (by omega)), c4.fr (xoff2 (by omega) (by omega)) (fun k _ _ => e k (by omega)), fun t ht => ?_, c6.fr r6 (xoff2 (by omega) (by omega)) (by rw [xoff2 (by omega) (by omega)]) (by rw [xoff2 (by omega) (by omega)]) (e 4 (by omega)) (fun k _ _ => e k (by omega))⟩ ((a4.fr (x2_ne (by omega))).set j (by omega)) (e 2 (by omega))
    · by_cases q : t = s
      · subst q; rw [su_at]; exact hj
      · rw [e _ (by omega)]; exact r5 t ht
    · by_cases q : t = s
      · subst q; rw [su_at, x2_off (by omega)]; exact x2_at _ _ _ _
      · rw [e _ (by omega), x2_off (by omega), x2_off (by omega)]; exact c5 t ht
theorem op_sky {LW : xV → Nat → Prop} (hF : lwF LW) : P_sky (Inv LW) := by
  intro a b V L hI
  rcases wi a 30 29 30 (by decide) rfl (by decide) with ⟨h1, h2⟩ | ⟨s, hs, rfl, h1, h2⟩
  · refine ⟨0, V, V, ?_, ?_, hI⟩
    · unfold f_Ww_sky; rw [h1]; rfl
    · unfold f_Md_sky f_Md_isDay; rw [h2]; rfl
  rcases wi b 10 9 10 (by decide) rfl (by decide) with ⟨g1, g2⟩ | ⟨j, hj, rfl, g1, g2⟩
  · refine ⟨0, V, V, ?_, ?_, hI⟩
    · unfold f_Ww_sky; rw [h1, g1]; rfl
    · unfold f_Md_sky f_Md_isDay; rw [h2, g2]; rfl
  refine ⟨1, x2 V 5 s (nI j), x2 (x2 V 5 s (nI j)) 66 (10 + s) (nI j), ?_, ?_, ?_⟩
  · unfold f_Ww_sky; rw [h1, g1, if_neg (by decide), if_pos (by decide), if_pos (xI_ok hs (by decide)), cl (by omega)]
  · unfold f_Md_sky f_Md_isDay; rw [h2, g2, if_neg (by decide), if_pos (by decide), show (10 : Int32) + nI s = nI (10 + s) from nI_add 10 s, if_pos (xI_ok (by omega) (by decide)), cl (by omega)]
  · obtain ⟨S, K, hh⟩ := hI
    obtain ⟨⟨r1, r2, r3, r4, r5, r6⟩, a2, ⟨c1, c2, c3, c4, c5, c6⟩, a4, -⟩ := id hh
    have e : ∀ k, k ≠ 10 + s → su S (10 + s) j k = S k := fun k hk => su_ne hk
    refine Inv.roll hF (S' := su S (10 + s) j) hh (fun r _ _ => xoff2 (by omega) (by omega)) ⟨r1.fr (fun k _ => e k (by omega)), r2.fr (fun k _ _ => e k (by omega)), fun t ht => ?_, r4.fr (fun k _ _ => e k (by omega)), r5.fr (fun k _ _ => e k (by omega)), by unfold rT; rw [e 4 (by omega)]; exact r6⟩ ⟨c1.fr (fun k _ _ => by rw [xoff2 (by omega) (by omega)]) (fun k _ => e k (by omega)), c2.fr (xoff2 (by omega) (by omega)) (xoff2 (by omega) (by omega)) (xoff2 (by omega) (by omega)) (fun k _ _ => e k (by omega)), fun t ht => ?_, c4.fr (xoff2 (by omega) (by omega)) (fun k _ _ => e k (by omega)), c5.fr (xoff2 (by omega) (by omega)) (fun k _ _ => e k (by omega)), c6.fr r6 (xoff2 (by omega) (by omega)) (by rw [xoff2 (by omega) (by omega)]) (by rw [xoff2 (by omega) (by omega)]) (e 4 (by omega)) (fun k _ _ => e k (by omega))⟩ ((a4.fr (x2_ne (by omega))).set j (by omega)) (e 2 (by omega))
    · by_cases q : t = s
      · subst q; rw [su_at]; exact hj
      · rw [e _ (by omega)]; exact r3 t ht
    · by_cases q : t = s
      · subst q; rw [su_at, x2_off (by omega)]; exact x2_at _ _ _ _
      · rw [e _ (by omega), x2_off (by omega), x2_off (by omega)]; exact c3 t ht

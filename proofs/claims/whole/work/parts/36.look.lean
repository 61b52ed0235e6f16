/-! PURE: about, flood, found -/
theorem iLt (a : Int32) (n : Nat) (h : n < 2 ^ 31) : a < nI n ↔ a.toInt < (n : Int) := by rw [Int32.lt_iff_toInt_lt, nI_toInt h]
theorem iLe (a : Int32) (n : Nat) (h : n < 2 ^ 31) : nI n ≤ a ↔ (n : Int) ≤ a.toInt := by rw [Int32.le_iff_toInt_le, nI_toInt h]
theorem iLe' (a : Int32) (n : Nat) (h : n < 2 ^ 31) : a ≤ nI n ↔ a.toInt ≤ (n : Int) := by rw [Int32.le_iff_toInt_le, nI_toInt h]
theorem iGt (a : Int32) (n : Nat) (h : n < 2 ^ 31) : nI n < a ↔ (n : Int) < a.toInt := by rw [Int32.lt_iff_toInt_lt, nI_toInt h]
theorem iOf {a : Int32} {n : Nat} (h : n < 2 ^ 31) (e : a.toInt = (n : Int)) : a = nI n := Int32.toInt_inj.mp (by rw [e, nI_toInt h])
theorem in10 (a : Int32) : f_Md_in a 10 19 = if a.toInt < 10 then 0 else if 19 < a.toInt then 0 else 1 := by
  unfold f_Md_in
  simp only [show (10 : Int32) = nI 10 from rfl, show (19 : Int32) = nI 19 from rfl, iLt a 10 (by decide), iGt a 19 (by decide)]
  rfl
theorem about_key {V : xV} {S : Nat → Nat} (hr : rok S) (hc : pc V 1 S) (a4 : pm V 66 S) (ht : tp V) (a : Int32) : ∃ r, f_Ww_about a V = some r ∧ f_Md_about a V = some r := by
  obtain ⟨r1, r2, r3, r4, r5, r6⟩ := hr
  obtain ⟨c1, c2, c3, c4, c5, c6⟩ := hc
  obtain ⟨n5, hn5, t1, t2, -⟩ := ht
  have hn : S 0 ≤ 12 := r1.1
  have e7 : V 1 7 = nI (S 0) := c1.1
  have m0 : V 66 0 = nI (S 0) := a4.at (by omega) (by omega)
  by_cases q0 : a = 0
  · subst q0; exact ⟨V 1 7, rfl, by rw [e7, ← m0]; rfl⟩
  by_cases q1 : a = 1
  · subst q1; exact ⟨V 1 8, rfl, by rw [c1.2.1, ← a4.at (k := 1) (by omega) (by omega)]; rfl⟩
  by_cases q2 : a = 2
  · subst q2; exact ⟨V 1 9, rfl, by rw [c1.2.2.1, ← a4.at (k := 2) (by omega) (by omega)]; rfl⟩
  by_cases q3 : a = 3
  · subst q3; exact ⟨V 1 10, rfl, by rw [c1.2.2.2, ← a4.1]; rfl⟩
  by_cases q4 : a = 4
  · subst q4; exact ⟨V 1 11, rfl, by rw [c6.1, ← a4.at (k := 4) (by omega) (by omega)]; rfl⟩
  by_cases q5 : a = 5
  · subst q5; exact ⟨V 17 1, rfl, by rw [t1, ← t2]; rfl⟩
  have c10 : a < 10 ↔ a.toInt < 10 := iLt a 10 (by decide)
  have c20 : a < 20 ↔ a.toInt < 20 := iLt a 20 (by decide)
  have d20 : 20 ≤ a ↔ 20 ≤ a.toInt := iLe a 20 (by decide)
  have dn : 20 + nI (S 0) ≤ a ↔ ((20 + S 0 : Nat) : Int) ≤ a.toInt := by rw [show (20 : Int32) + nI (S 0) = nI (20 + S 0) from nI_add 20 _]; exact iLe a _ (by omega)
  by_cases q6 : a = 6
  · subst q6
    refine ⟨nI (cw S 30), ?_, ?_⟩
    · unfold f_Ww_about b_Ww_about_25 b_Ww_about_57
      rw [if_pos (by decide), if_pos (by decide), if_neg (by decide), if_neg (by decide), if_neg (by decide), if_neg (by decide), if_neg (by decide), if_neg (by decide), if_pos rfl, wetDays_c c3 r3]; rfl
    · unfold f_Md_about
      rw [if_neg (by decide), if_neg (by decide), if_neg (by decide), if_neg (by decide), if_neg (by decide), if_neg (by decide), if_pos rfl, wetDays_m a4 r3]; rfl
  by_cases q7 : a = 7
  · subst q7
    refine ⟨nI (cd S 120), ?_, ?_⟩
    · unfold f_Ww_about b_Ww_about_25 b_Ww_about_57
      rw [if_pos (by decide), if_pos (by decide), if_neg (by decide), if_neg (by decide), if_neg (by decide), if_neg (by decide), if_neg (by decide), if_neg (by decide), if_neg (by decide), if_pos rfl, show f_Rolls_wetDecrees V = some (nI (cd S 120)) from wd_c c4 30 0 2000 rfl (by decide)]; rfl
    · unfold f_Md_about
      rw [if_neg (by decide), if_neg (by decide), if_neg (by decide), if_neg (by decide), if_neg (by decide), if_neg (by decide), if_neg (by decide), if_pos rfl]
      rw [show f_Md_wetDecrees V = g_Md_wetDecrees_4 V 2000 (nI (cd S 0)) (nI 0) from rfl, wd_m a4 120 0 2000 rfl (by decide)]; rfl
  have b57 : b_Ww_about_57 V a = some (-2) := by unfold b_Ww_about_57; rw [if_neg q0, if_neg q1, if_neg q2, if_neg q3, if_neg q4, if_neg q5, if_neg q6, if_neg q7]
  unfold f_Ww_about f_Md_about b_Ww_about_25
  rw [if_neg q0, if_neg q1, if_neg q2, if_neg q3, if_neg q4, if_neg q5, if_neg q6, if_neg q7, b57, e7]
  by_cases h1 : a.toInt < 10
  · have hin : f_Md_in a 10 19 = 0 := by rw [in10, if_pos h1]
    rw [if_pos (c10.mpr h1), if_pos (c20.mpr (by omega)), hin, if_pos rfl]
    refine ⟨-2, rfl, ?_⟩
    unfold f_Md_isFolk
    rw [m0]
    rcases wi (a - 20) (nI (S 0)) (nI (S 0) - 1) (S 0) (by omega) rfl (nI_sub1 (by omega)) with ⟨-, g⟩ | ⟨j, hj, g, -⟩
    · rw [g]; rfl
    · exfalso
      have ha : a = nI (j + 20) := by rw [← nI_add, ← g]; exact (Int32.sub_add_cancel a 20).symm
      rw [ha, nI_toInt (by omega)] at h1
      omega
  · by_cases h2 : a.toInt ≤ 19
    · have ha : a = nI (a.toInt - 10).toNat + 10 := by
        rw [show (10 : Int32) = nI 10 from rfl, nI_add]; exact iOf (by omega) (by omega)
      generalize hs : (a.toInt - 10).toNat = s at ha
      have hs10 : s < 10 := by omega
      have hin : f_Md_in a 10 19 = 1 := by rw [in10, if_neg h1, if_neg (by omega)]
      rw [if_neg (fun h => h1 (c10.mp h)), if_neg (fun h => by have := d20.mp h; omega), hin, if_neg (show ¬ ((1 : Int32) = 0) by decide)]
      have e1 : a - 10 = nI s := by rw [ha, Int32.add_sub_cancel]
      have e2 : (160 : Int32) + a - 10 = nI (160 + s) := by rw [ha, ← Int32.add_assoc, Int32.add_sub_cancel]; exact nI_add 160 s
      rw [e1, if_pos (xI_ok hs10 (by decide)), cl (by omega), e2, if_pos (xI_ok (by omega) (by decide)), cl (by omega)]
      exact ⟨nI (S (160 + s)), congrArg some (c5 s hs10), congrArg some (a4.at (by omega) (by omega))⟩
    · have hin : f_Md_in a 10 19 = 0 := by rw [in10, if_neg h1, if_pos (by omega)]
      rw [if_neg (fun h => h1 (c10.mp h)), if_pos (d20.mpr (by omega)), if_neg (fun h => by have := c20.mp h; omega), hin, if_pos rfl]
      unfold f_Md_isFolk
      rw [m0]
      rcases wi (a - 20) (nI (S 0)) (nI (S 0) - 1) (S 0) (by omega) rfl (nI_sub1 (by omega)) with ⟨-, g⟩ | ⟨j, hj, g, -, g2⟩
      · rw [g, if_pos rfl]
        have h3 : ((20 + S 0 : Nat) : Int) ≤ a.toInt := by
          rcases Int.lt_or_le a.toInt ((20 + S 0 : Nat) : Int) with h | h
          · exfalso
            have ha : a = nI (a.toInt - 20).toNat + 20 := by rw [show (20 : Int32) = nI 20 from rfl, nI_add]; exact iOf (by omega) (by omega)
            generalize hj : (a.toInt - 20).toNat = j at ha
            rw [ha, Int32.add_sub_cancel] at g
            unfold f_Md_in at g
            rw [if_neg (nI_pos (by omega)), if_neg] at g
            · exact absurd g (by decide)
            · rw [Int32.lt_iff_toInt_lt, nI_sub1 (by omega), nI_toInt (by omega)]; omega
          · exact h
        rw [if_pos (dn.mpr h3)]
        exact ⟨-2, rfl, rfl⟩
      · rw [g2, if_neg (show ¬ ((1 : Int32) = 0) by decide)]
        have ha : a = nI (j + 20) := by rw [← nI_add, ← g]; exact (Int32.sub_add_cancel a 20).symm
        have h4 : a.toInt = ((j + 20 : Nat) : Int) := by rw [ha, nI_toInt (by omega)]
        rw [if_neg (show ¬ (20 + nI (S 0) ≤ a) from fun h => by have := dn.mp h; omega), g]
        have i0 : (170 : Int32) + 3 * nI j = nI (170 + 3 * j) := by rw [show (3 : Int32) = nI 3 from rfl, pk_mul, show (170 : Int32) = nI 170 from rfl, nI_add]
        rw [i0, show nI (170 + 3 * j) + 1 = nI (170 + 3 * j + 1) from nI_1 _, show nI (170 + 3 * j) + 2 = nI (170 + 3 * j + 2) from nI_add _ 2, if_pos (xI_ok (show 170 + 3 * j < 270 by omega) (by decide)), if_pos (xI_ok (show 170 + 3 * j + 1 < 270 by omega) (by decide)), if_pos (xI_ok (show 170 + 3 * j + 2 < 270 by omega) (by decide)), cl (by omega), cl (by omega), cl (by omega), a4.at (by omega) (by omega), a4.at (by omega) (by omega), a4.at (by omega) (by omega)]
        refine ⟨_, ?_, rfl⟩
        unfold f_Rolls_entryOf
        obtain ⟨d1, d2, d3⟩ := c2 j (by omega)
        rw [show (12 : Int32) = nI 12 from rfl, within_in (by omega) (by decide), if_neg (by decide), if_pos (xI_ok (show j < 12 by omega) (by decide)), if_pos (xI_ok (show j < 12 by omega) (by decide)), if_pos (xI_ok (show j < 12 by omega) (by decide)), cl (by omega), show V 2 j = nI (S (170 + 3 * j)) from d1, show V 3 j = nI (S (170 + 3 * j + 1)) from d2, show V 4 j = nI (S (170 + 3 * j + 2)) from d3]
        rfl
theorem op_about {LW : xV → Nat → Prop} : P_about (Inv LW) := by
  intro a V L hI
  obtain ⟨S, K, hh⟩ := id hI
  obtain ⟨r, k1, k2⟩ := about_key hh.1 hh.2.2.1 hh.2.2.2.1 hh.2.2.2.2.2.2.2.1 a
  exact ⟨r, k1, k2, hI⟩
/-! floods -/
def flP (S : Nat → Nat) (d : Nat) : Prop := S (10 + d) < 5 ∧ wos S d 4 = 4
def flo (S : Nat → Nat) (i : Int32) : Nat → Nat → Nat → Int32
  | 0, _, c => if i = -1 then nI c else -1
  | n + 1, d, c => if S (10 + d) < 5 ∧ wos S d 4 = 4 then (if nI c = i then nI d else flo S i n (d + 1) (c + 1)) else flo S i n (d + 1) c
theorem wos_le {S : Nat → Nat} (hr : rD S) {d : Nat} (hd : d < 30) : wos S d 4 ≤ 4 := by
  have h0 := hr (4 * d) (by omega); have h1 := hr (4 * d + 1) (by omega); have h2 := hr (4 * d + 2) (by omega); have h3 := hr (4 * d + 3) (by omega)
  simp only [wos, Nat.add_zero]
  omega
theorem flood_c {V : xV} {S : Nat → Nat} (h3 : pS V 1 S) (h4 : pD V 1 S) (r3 : rS S) (r4 : rD S) (i : Int32) : ∀ (n d c f : Nat), d + n = 30 → n < f → g_Ww_flood_4 V f i (nI c) (nI d) = some (flo S i n d c)
  | 0, d, c, f + 1, hd, hf => by
    have e : d = 30 := by omega
    subst e
    show b_Ww_flood_4 _ _ _ _ _ = _
    unfold b_Ww_flood_4
    rw [if_pos (show (30 : Int32) ≤ nI 30 by decide)]
    by_cases q : i = -1
    · rw [if_neg (fun h => h q)]; unfold flo; rw [if_pos q]
    · rw [if_pos q]; unfold flo; rw [if_neg q]
  | n + 1, d, c, f + 1, hd, hf => by
    show b_Ww_flood_4 _ _ _ _ _ = _
    unfold b_Ww_flood_4 flo
    have hs := r3 d (by omega)
    have hw := wos_le r4 (show d < 30 by omega)
    rw [if_neg (show ¬ (30 : Int32) ≤ nI d from nI_ge (b := 30) (by omega) (by decide)), if_pos (xI_ok (by omega) (by decide)), cl (by omega), show V 5 d = nI (S (10 + d)) from h3 d (by omega), nI_1, nI_1]
    by_cases q : S (10 + d) < 5
    · rw [if_neg (show ¬ (5 : Int32) ≤ nI (S (10 + d)) from nI_ge (b := 5) q (by decide)), wetOn_c h4 (by omega), Option.bind_some]
      by_cases q2 : wos S d 4 = 4
      · rw [if_neg (show ¬ ¬ nI (wos S d 4) = 4 from fun h => h (by rw [q2]; rfl)), if_pos (show S (10 + d) < 5 ∧ wos S d 4 = 4 from ⟨q, q2⟩)]
        by_cases q3 : nI c = i
        · rw [if_neg (show ¬ ¬ nI c = i from fun h => h q3), if_pos (show nI c = i from q3)]
        · rw [if_pos (show ¬ nI c = i from q3), if_neg (show ¬ nI c = i from q3)]
          exact flood_c h3 h4 r3 r4 i n (d + 1) (c + 1) f (by omega) (by omega)
      · rw [if_pos (show ¬ nI (wos S d 4) = 4 from fun h => q2 (nI_small (b := 4) (by omega) (by decide) h)), if_neg (show ¬ (S (10 + d) < 5 ∧ wos S d 4 = 4) from fun h => q2 h.2)]
        exact flood_c h3 h4 r3 r4 i n (d + 1) c f (by omega) (by omega)
    · rw [if_pos (show (5 : Int32) ≤ nI (S (10 + d)) from nI_le (a := 5) (by omega) (by omega)), if_neg (show ¬ (S (10 + d) < 5 ∧ wos S d 4 = 4) from fun h => q h.1)]
      exact flood_c h3 h4 r3 r4 i n (d + 1) c f (by omega) (by omega)
theorem flood_m2 {V : xV} {S : Nat → Nat} (hm : pm V 66 S) (i : Int32) (c d : Nat) (hd : d < 30) (k11 : Int32 → Int32 → Int32 → Option Int32) : ∀ (n p f : Nat), p + n = 4 → n < f → g_Md_flood_23 V k11 f i (nI c) (nI d) (nI (wos S d p)) (nI p) = (if ¬ nI (wos S d 4) = 4 then k11 i (nI c) (nI d + 1) else (if 5 ≤ nI (S (10 + d)) then k11 i (nI c) (nI d + 1) else (if ¬ nI c = i then k11 i (nI c + 1) (nI d + 1) else some (nI d))))
  | 0, p, f + 1, hp, hf => by
    have e : p = 4 := by omega
    subst e
    show b_Md_flood_23 _ _ _ _ _ _ _ _ = _
    unfold b_Md_flood_23
    rw [if_pos (show (4 : Int32) ≤ nI 4 by decide), show (10 : Int32) + nI d = nI (10 + d) from nI_add 10 d, if_pos (xI_ok (by omega) (by decide)), cl (by omega), hm.at (by omega) (by omega)]
  | n + 1, p, f + 1, hp, hf => by
    show b_Md_flood_23 _ _ _ _ _ _ _ _ = _
    unfold b_Md_flood_23
    rw [if_neg (show ¬ (4 : Int32) ≤ nI p from nI_ge (b := 4) (by omega) (by decide)), dec_m hm hd (by omega), Option.bind_some, nI_add, nI_1]
    exact flood_m2 hm i c d hd k11 n (p + 1) f (by omega) (by omega)
theorem flood_m {V : xV} {S : Nat → Nat} (hm : pm V 66 S) (r3 : rS S) (r4 : rD S) (i : Int32) : ∀ (n d c f : Nat), d + n = 30 → n < f → g_Md_flood_11 V f i (nI c) (nI d) = some (flo S i n d c)
  | 0, d, c, f + 1, hd, hf => by
    have e : d = 30 := by omega
    subst e
    show b_Md_flood_11 _ _ _ _ _ = _
    unfold b_Md_flood_11
    rw [if_pos (show (30 : Int32) ≤ nI 30 by decide)]
    by_cases q : i = -1
    · rw [if_neg (fun h => h q)]; unfold flo; rw [if_pos q]
    · rw [if_pos q]; unfold flo; rw [if_neg q]
  | n + 1, d, c, f + 1, hd, hf => by
    show b_Md_flood_11 _ _ _ _ _ = _
    unfold b_Md_flood_11 flo
    have hs := r3 d (by omega)
    have hw := wos_le r4 (show d < 30 by omega)
    rw [if_neg (show ¬ (30 : Int32) ≤ nI d from nI_ge (b := 30) (by omega) (by decide)), show (0 : Int32) = nI (wos S d 0) from rfl, show g_Md_flood_23 V (g_Md_flood_11 V f) 2000 i (nI c) (nI d) (nI (wos S d 0)) (nI (wos S d 0)) = _ from flood_m2 hm i c d (by omega) _ 4 0 2000 rfl (by decide), nI_1, nI_1]
    by_cases q2 : wos S d 4 = 4
    · rw [if_neg (show ¬ ¬ nI (wos S d 4) = 4 from fun h => h (by rw [q2]; rfl))]
      by_cases q : S (10 + d) < 5
      · rw [if_neg (show ¬ (5 : Int32) ≤ nI (S (10 + d)) from nI_ge (b := 5) q (by decide)), if_pos (show S (10 + d) < 5 ∧ wos S d 4 = 4 from ⟨q, q2⟩)]
        by_cases q3 : nI c = i
        · rw [if_neg (show ¬ ¬ nI c = i from fun h => h q3), if_pos (show nI c = i from q3)]
        · rw [if_pos (show ¬ nI c = i from q3), if_neg (show ¬ nI c = i from q3)]
          exact flood_m hm r3 r4 i n (d + 1) (c + 1) f (by omega) (by omega)
      · rw [if_pos (show (5 : Int32) ≤ nI (S (10 + d)) from nI_le (a := 5) (by omega) (by omega)), if_neg (show ¬ (S (10 + d) < 5 ∧ wos S d 4 = 4) from fun h => q h.1)]
        exact flood_m hm r3 r4 i n (d + 1) c f (by omega) (by omega)
    · rw [if_pos (show ¬ nI (wos S d 4) = 4 from fun h => q2 (nI_small (b := 4) (by omega) (by decide) h)), if_neg (show ¬ (S (10 + d) < 5 ∧ wos S d 4 = 4) from fun h => q2 h.2)]
      exact flood_m hm r3 r4 i n (d + 1) c f (by omega) (by omega)
theorem flo_neg (S : Nat → Nat) (i : Int32) (hi : i.toInt < -1) : ∀ (n d c : Nat), c + n < 2 ^ 30 → flo S i n d c = -1
  | 0, d, c, _ => by
    unfold flo; rw [if_neg (fun h => by rw [h] at hi; exact absurd hi (by decide))]
  | n + 1, d, c, h => by
    unfold flo
    split
    · rw [if_neg (fun e => by rw [← e, nI_toInt (by omega)] at hi; omega)]; exact flo_neg S i hi n (d + 1) (c + 1) (by omega)
    · exact flo_neg S i hi n (d + 1) c (by omega)
theorem op_flood {LW : xV → Nat → Prop} : P_flood (Inv LW) := by
  intro a V L hI
  obtain ⟨S, K, hh⟩ := id hI
  obtain ⟨⟨r1, r2, r3, r4, r5, r6⟩, a2, ⟨c1, c2, c3, c4, c5, c6⟩, a4, -⟩ := id hh
  refine ⟨flo S a 30 0 0, flood_c c3 c4 r3 r4 a 30 0 0 2000 rfl (by decide), ?_, hI⟩
  unfold f_Md_flood
  by_cases q : (-1 : Int32) ≤ a
  · rw [if_pos q]; exact flood_m a4 r3 r4 a 30 0 0 2000 rfl (by decide)
  · have h1 : a.toInt < -1 := by
      rw [Int32.le_iff_toInt_le] at q
      have : (-1 : Int32).toInt = -1 := by decide
      omega
    rw [if_neg q, flo_neg S a h1 30 0 0 (by decide)]

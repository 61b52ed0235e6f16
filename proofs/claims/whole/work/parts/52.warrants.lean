/-! PURE: warrant -/
def WS (F : Nat → Mn) : Nat → Nat → (Nat → Nat) → Nat → (Nat → Nat) × Nat
  | 0, _, U, t => (U, t)
  | m + 1, c, U, t => WS F m (c + 1) (stS U c (wb F U (c / 4) (c % 4))) (t + if U (40 + c) = wb F U (c / 4) (c % 4) then 0 else 1)
theorem WS_app (F : Nat → Mn) (k : Nat) : ∀ (m c : Nat) (U : Nat → Nat) (t : Nat), WS F (m + k) c U t = WS F k (c + m) (WS F m c U t).1 (WS F m c U t).2
  | 0, c, U, t => by rw [Nat.zero_add]; rfl
  | m + 1, c, U, t => by
    rw [show m + 1 + k = m + k + 1 by omega]
    show WS F (m + k) (c + 1) _ _ = WS F k (c + (m + 1)) (WS F m (c + 1) _ _).1 (WS F m (c + 1) _ _).2
    rw [WS_app F k m (c + 1), show c + 1 + m = c + (m + 1) by omega]
def IC (F : Nat → Mn) (q : Nat) (V W : xV) (S U : Nat → Nat) : Prop := rok U ∧ pc W 1 U ∧ RL W q F ∧ W 51 1 = -1 ∧ U 3 = S 3 ∧ U 2 = S 2 ∧ ∀ r, r ≠ 1 → r ≠ 6 → r ≠ 8 → r ≠ 53 → r ≠ 54 → W r = V r
def IM (F : Nat → Mn) (q : Nat) (V W : xV) (S U : Nat → Nat) : Prop := rok U ∧ pm W 66 U ∧ RL W q F ∧ W 65 35 = -1 ∧ U 3 = S 3 ∧ U 2 = S 2 ∧ ∀ r, r ≠ 66 → r ≠ 82 → W r = V r
theorem war_c1 {F : Nat → Mn} {q : Nat} {V : xV} {S : Nat → Nat} (k : Int32 → Int32 → Int32 → xV → Option (Int32 × xV)) (to : Int32) {d : Nat} (hd : d < 30) : ∀ (m p f t : Nat) (W : xV) (U : Nat → Nat), p + m = 4 → m < f → IC F q V W S U → ∃ W', g_Ww_warrant_38 k f to (nI t) (nI d) (nI p) W = k to (nI (WS F m (4 * d + p) U t).2) (nI (d + 1)) W' ∧ IC F q V W' S (WS F m (4 * d + p) U t).1
  | 0, p, f + 1, t, W, U, h1, h2, hI => by
    refine ⟨W, ?_, hI⟩
    show b_Ww_warrant_38 _ _ _ _ _ _ _ = _
    unfold b_Ww_warrant_38
    rw [if_pos (show (4 : Int32) ≤ nI p from nI_le (a := 4) (by omega) (by omega)), nI_1]; rfl
  | m + 1, p, f + 1, t, W, U, h1, h2, hI => by
    obtain ⟨i1, i2, i3, i4, i5, i6, i7⟩ := hI
    have hp : p < 4 := by omega
    obtain ⟨W1, e1, e2⟩ := wfor_c i1 i2 i3 i4 hd hp
    have hb := (wb_ok i3 i1 hd hp).1
    have p1 : pc W1 1 U := i2.fr (fun r _ _ => e2 r (by omega) (by omega))
    obtain ⟨W2, g1, g2, g3⟩ := stamp_ok p1 i1 hd hp hb
    have c4 : (4 * d + p) / 4 = d ∧ (4 * d + p) % 4 = p := by omega
    have o3 : stS U (4 * d + p) (wb F U d p) 3 = U 3 := stS_other (by omega) (by omega) (by omega)
    have o2 : stS U (4 * d + p) (wb F U d p) 2 = U 2 := stS_other (by omega) (by omega) (by omega)
    have w10 : W2 1 10 = W 1 10 := by rw [g2.1.2.2.2, o3, i2.1.2.2.2]
    have R2 : RL W2 q F := i3.fr2 w10 (fun r _ _ => by rw [g3 r (by omega) (by omega) (by omega), e2 r (by omega) (by omega)]) (by rw [g3 66 (by omega) (by omega) (by omega), e2 66 (by omega) (by omega)]) (fun r _ _ => by rw [g3 r (by omega) (by omega) (by omega), e2 r (by omega) (by omega)])
    obtain ⟨W3, k1, k2⟩ := war_c1 (V := V) k to hd m (p + 1) f (t + if U (40 + (4 * d + p)) = wb F U d p then 0 else 1) W2 (stS U (4 * d + p) (wb F U d p)) (by omega) (by omega) ⟨stS_rok i1 (by omega) hb, g2, R2, by rw [g3 51 (by omega) (by omega) (by omega), e2 51 (by omega) (by omega)]; exact i4, o3.trans i5, o2.trans i6, fun r r1 r2 r3 r4 r5 => by rw [g3 r r1 r2 r3, e2 r r4 r5]; exact i7 r r1 r2 r3 r4 r5⟩
    have st : WS F (m + 1) (4 * d + p) U t = WS F m (4 * d + (p + 1)) (stS U (4 * d + p) (wb F U d p)) (t + if U (40 + (4 * d + p)) = wb F U d p then 0 else 1) := by
      show WS F m (4 * d + p + 1) (stS U (4 * d + p) (wb F U ((4 * d + p) / 4) ((4 * d + p) % 4))) (t + if U (40 + (4 * d + p)) = wb F U ((4 * d + p) / 4) ((4 * d + p) % 4) then 0 else 1) = _
      rw [c4.1, c4.2]; rfl
    rw [st]
    refine ⟨W3, ?_, k2⟩
    rw [← k1]
    show b_Ww_warrant_38 _ _ _ _ _ _ _ = _
    unfold b_Ww_warrant_38
    rw [if_neg (show ¬ (4 : Int32) ≤ nI p from nI_ge (b := 4) hp (by decide)), e1, Option.bind_some]
    show Option.bind (f_Rolls_stamp _ _ (nI (wb F U d p)) W1) _ = _
    rw [g1, Option.bind_some, nI_1]
    by_cases c : U (40 + (4 * d + p)) = wb F U d p
    · simp only [if_pos c]; rfl
    · simp only [if_neg c]
      rw [if_neg (show ¬ (1 : Int32) = 0 by decide), nI_1]
theorem war_c2 {F : Nat → Mn} {q : Nat} {V : xV} {S : Nat → Nat} {to : Nat} (hto : to < 30) : ∀ (n d f t : Nat) (W : xV) (U : Nat → Nat), d + n = to + 1 → n < f → IC F q V W S U → ∃ W', g_Ww_warrant_29 f (nI to) (nI t) (nI d) W = some (nI (WS F (4 * n) (4 * d) U t).2, W') ∧ IC F q V W' S (WS F (4 * n) (4 * d) U t).1
  | 0, d, f + 1, t, W, U, h1, h2, hI => by
    refine ⟨W, ?_, hI⟩
    show b_Ww_warrant_29 _ _ _ _ _ = _
    unfold b_Ww_warrant_29
    rw [if_pos (nI_lt (by omega) (by omega))]; rfl
  | n + 1, d, f + 1, t, W, U, h1, h2, hI => by
    obtain ⟨W1, e1, e2⟩ := war_c1 (g_Ww_warrant_29 f) (nI to) (show d < 30 by omega) 4 0 2000 t W U rfl (by decide) hI
    obtain ⟨W2, g1, g2⟩ := war_c2 hto n (d + 1) f (WS F 4 (4 * d) U t).2 W1 (WS F 4 (4 * d) U t).1 (by omega) (by omega) e2
    have st : WS F (4 * (n + 1)) (4 * d) U t = WS F (4 * n) (4 * (d + 1)) (WS F 4 (4 * d) U t).1 (WS F 4 (4 * d) U t).2 := by
      rw [show 4 * (n + 1) = 4 + 4 * n by omega, WS_app, show 4 * d + 4 = 4 * (d + 1) by omega]
    rw [st]
    refine ⟨W2, ?_, g2⟩
    rw [← g1]
    show b_Ww_warrant_29 _ _ _ _ _ = _
    unfold b_Ww_warrant_29
    rw [if_neg (nI_nlt (by omega) (by omega))]
    exact e1
theorem war_m1 {F : Nat → Mn} {q : Nat} {V : xV} {S : Nat → Nat} (hso : so (F 0) = 1) (k : Int32 → Int32 → Int32 → xV → xL → Option (Int32 × xV × xL)) (to : Int32) {d : Nat} (hd : d < 30) : ∀ (m p f t : Nat) (W : xV) (L : xL) (U : Nat → Nat), p + m = 4 → m < f → IM F q V W S U → ∃ W' L', g_Md_warrant_41 k f to (nI t) (nI d) (nI p) W L = k to (nI (WS F m (4 * d + p) U t).2) (nI (d + 1)) W' L' ∧ IM F q V W' S (WS F m (4 * d + p) U t).1
  | 0, p, f + 1, t, W, L, U, h1, h2, hI => by
    refine ⟨W, L, ?_, hI⟩
    show b_Md_warrant_41 _ _ _ _ _ _ _ _ = _
    unfold b_Md_warrant_41
    rw [if_pos (show (4 : Int32) ≤ nI p from nI_le (a := 4) (by omega) (by omega)), nI_1]; rfl
  | m + 1, p, f + 1, t, W, L, U, h1, h2, hI => by
    obtain ⟨i1, i2, i3, i4, i5, i6, i7⟩ := hI
    have hp : p < 4 := by omega
    obtain ⟨W1, e1, e2, e3⟩ := wnam_m i1 i2 hd hp
    obtain ⟨hb, hb2⟩ := wb_ok i3 i1 hd hp
    have hbit := wv_bit i3 i1 hd hp
    obtain ⟨L1, s1⟩ := saysM (W := W1) (L := L) (e := 6) i3 (w := 0) (by decide) (e2 66 (by decide)) (fun r _ _ => e2 r (by omega)) (by show so (F 0) = 1; exact hso) e3 (eb_EW i1 hd hp 0)
    have p1 : pm W1 66 U := i2.fr (e2 66 (by decide))
    obtain ⟨W2, g1, g2, g3⟩ := decrees_ok p1 i1 hd hp hb
    have c4 : (4 * d + p) / 4 = d ∧ (4 * d + p) % 4 = p := by omega
    have o3 : stS U (4 * d + p) (wb F U d p) 3 = U 3 := stS_other (by omega) (by omega) (by omega)
    have o2 : stS U (4 * d + p) (wb F U d p) 2 = U 2 := stS_other (by omega) (by omega) (by omega)
    have w3 : W2 66 3 = W 66 3 := by rw [g2.1, o3, i2.1]
    have R2 : RL W2 q F := i3.fr2 (by rw [g3 1 (by omega), e2 1 (by omega)]) (fun r _ _ => by rw [g3 r (by omega), e2 r (by omega)]) w3 (fun r _ _ => by rw [g3 r (by omega), e2 r (by omega)])
    obtain ⟨W3, L3, k1, k2⟩ := war_m1 (V := V) hso k to hd m (p + 1) f (t + if U (40 + (4 * d + p)) = wb F U d p then 0 else 1) W2 L1 (stS U (4 * d + p) (wb F U d p)) (by omega) (by omega) ⟨stS_rok i1 (by omega) hb, g2, R2, by rw [g3 65 (by omega), e2 65 (by omega)]; exact i4, o3.trans i5, o2.trans i6, fun r r1 r2 => by rw [g3 r r1, e2 r r2]; exact i7 r r1 r2⟩
    have st : WS F (m + 1) (4 * d + p) U t = WS F m (4 * d + (p + 1)) (stS U (4 * d + p) (wb F U d p)) (t + if U (40 + (4 * d + p)) = wb F U d p then 0 else 1) := by
      show WS F m (4 * d + p + 1) (stS U (4 * d + p) (wb F U ((4 * d + p) / 4) ((4 * d + p) % 4))) (t + if U (40 + (4 * d + p)) = wb F U ((4 * d + p) / 4) ((4 * d + p) % 4) then 0 else 1) = _
      rw [c4.1, c4.2]; rfl
    rw [st]
    refine ⟨W3, L3, ?_, k2⟩
    rw [← k1]
    have fin : b_Md_warrant_87 k (g_Md_warrant_41 k f) to (nI t) (nI d) (nI p) (nI (wb F U d p)) (nI p) (nI d) W1 L1 = g_Md_warrant_41 k f to (nI (t + if U (40 + (4 * d + p)) = wb F U d p then 0 else 1)) (nI d) (nI (p + 1)) W2 L1 := by
      unfold b_Md_warrant_87
      rw [g1, Option.bind_some, nI_1]
      by_cases c : U (40 + (4 * d + p)) = wb F U d p
      · simp only [if_pos c]
        rw [if_pos trivial, nI_a0]; rfl
      · simp only [if_neg c]
        rw [if_neg (show ¬ (1 : Int32) = 0 by decide), nI_1]
    show b_Md_warrant_41 _ _ _ _ _ _ _ _ = _
    unfold b_Md_warrant_41
    rw [if_neg (show ¬ (4 : Int32) ≤ nI p from nI_ge (b := 4) hp (by decide)), e1, Option.bind_some, show f_Md_says 0 W1 L = _ from s1, Option.bind_some, ← fin]
    have cc := c_le (x := wv F U d p) (y := 0) (mil_big (bit_mil hbit)) (by unfold big; omega)
    show (if lg_cmp (lI (wv F U d p)) (lI 0) ≤ 0 then _ else _) = _
    unfold b_Md_warrant_70
    rcases hbit with z | z
    · rw [if_pos (cc.mpr (by omega)), if_pos (show (0 : Int32) = 0 from rfl), ← hb2, z]; rfl
    · rw [if_neg (fun u => by have := cc.mp u; omega), if_neg (show ¬ (1 : Int32) = 0 by decide), ← hb2, z]; rfl
theorem war_m2 {F : Nat → Mn} {q : Nat} {V : xV} {S : Nat → Nat} (hso : so (F 0) = 1) {to : Nat} (hto : to < 30) : ∀ (n d f t : Nat) (W : xV) (L : xL) (U : Nat → Nat), d + n = to + 1 → n < f → IM F q V W S U → ∃ W' L', g_Md_warrant_32 f (nI to) (nI t) (nI d) W L = some (nI (WS F (4 * n) (4 * d) U t).2, W', L') ∧ IM F q V W' S (WS F (4 * n) (4 * d) U t).1
  | 0, d, f + 1, t, W, L, U, h1, h2, hI => by
    refine ⟨W, L, ?_, hI⟩
    show b_Md_warrant_32 _ _ _ _ _ _ = _
    unfold b_Md_warrant_32
    rw [if_pos (nI_lt (by omega) (by omega))]; rfl
  | n + 1, d, f + 1, t, W, L, U, h1, h2, hI => by
    obtain ⟨W1, L1, e1, e2⟩ := war_m1 hso (g_Md_warrant_32 f) (nI to) (show d < 30 by omega) 4 0 2000 t W L U rfl (by decide) hI
    obtain ⟨W2, L2, g1, g2⟩ := war_m2 hso hto n (d + 1) f (WS F 4 (4 * d) U t).2 W1 L1 (WS F 4 (4 * d) U t).1 (by omega) (by omega) e2
    have st : WS F (4 * (n + 1)) (4 * d) U t = WS F (4 * n) (4 * (d + 1)) (WS F 4 (4 * d) U t).1 (WS F 4 (4 * d) U t).2 := by
      rw [show 4 * (n + 1) = 4 + 4 * n by omega, WS_app, show 4 * d + 4 = 4 * (d + 1) by omega]
    rw [st]
    refine ⟨W2, L2, ?_, g2⟩
    rw [← g1]
    show b_Md_warrant_32 _ _ _ _ _ _ = _
    unfold b_Md_warrant_32
    rw [if_neg (nI_nlt (by omega) (by omega))]
    exact e1
/-- both tests of a span of days -/
theorem days (a b : Int32) : (f_Ww_areDays a b = 0 ∧ (f_Md_isDay a = 0 ∨ f_Md_isDay a = 1 ∧ f_Md_in b a 29 = 0)) ∨ ∃ x y, x ≤ y ∧ y < 30 ∧ a = nI x ∧ b = nI y ∧ f_Ww_areDays a b = 1 ∧ f_Md_isDay a = 1 ∧ f_Md_in b a 29 = 1 := by
  unfold f_Ww_areDays f_Md_isDay
  rcases wi a 30 29 30 (by decide) rfl (by decide) with ⟨h1, h2⟩ | ⟨x, hx, rfl, h1, h2⟩
  · left
    refine ⟨?_, Or.inl h2⟩
    by_cases c : a < 0
    · rw [if_pos c]
    · rw [if_neg c]
      by_cases c2 : b < a
      · rw [if_pos c2]
      · rw [if_neg c2, if_pos]
        unfold f_Ww_within at h1
        rw [if_neg c] at h1
        by_cases c3 : (30 : Int32) ≤ a
        · exact Int32.le_trans c3 (Int32.not_lt.mp c2)
        · rw [if_neg c3] at h1; exact absurd h1 (by decide)
  · by_cases c2 : b < nI x
    · left
      refine ⟨by rw [if_neg (nI_pos (by omega)), if_pos c2], Or.inr ⟨h2, ?_⟩⟩
      unfold f_Md_in; rw [if_pos c2]
    · by_cases c3 : (30 : Int32) ≤ b
      · left
        refine ⟨by rw [if_neg (nI_pos (by omega)), if_neg c2, if_pos c3], Or.inr ⟨h2, ?_⟩⟩
        unfold f_Md_in; rw [if_neg c2, if_pos]
        rw [Int32.lt_iff_toInt_lt]
        have := Int32.le_iff_toInt_le.mp c3
        rw [show (30 : Int32).toInt = 30 by decide] at this
        rw [show (29 : Int32).toInt = 29 by decide]
        omega
      · right
        rcases pk_ix b (n := 30) (by decide) with z | z | ⟨y, hy, rfl⟩
        · exfalso
          apply c2
          rw [Int32.lt_iff_toInt_lt] at *
          rw [nI_toInt (by omega)]
          rw [show (0 : Int32).toInt = 0 by decide] at z
          omega
        · exact absurd z c3
        · have hxy : x ≤ y := by
            by_cases q : x ≤ y
            · exact q
            · exact absurd (nI_lt (by omega) (by omega)) c2
          refine ⟨x, y, hxy, hy, rfl, rfl, by rw [if_neg (nI_pos (by omega)), if_neg c2, if_neg c3], h2, ?_⟩
          unfold f_Md_in
          rw [if_neg c2, if_neg (show ¬ (29 : Int32) < nI y from nI_nlt (a := 29) (by omega) (by decide))]
theorem op_warrant : P_warrant (Inv LW) := by
  intro a b V L hI
  obtain ⟨S, K, hh⟩ := id hI
  obtain ⟨b1, b2, b3, b4, b5, b6, b7, b8, b9, b10, b11⟩ := id hh
  obtain ⟨q, F, hR⟩ := ruling b3.1 b4.1 b1.1 b10 b11
  have hm := fun (W : xV) (w1 : W 66 = V 66) (w2 : ∀ r, 69 ≤ r → r < 74 → W r = V r) (w3 : W 65 35 = -1) => hasM (w := 0) (W := W) (e := 6) hR (by decide) w1 w2 w3
  rcases days a b with ⟨h1, h2⟩ | ⟨x, y, hxy, hy, rfl, rfl, h1, h2, h3⟩
  · refine ⟨-1, V, V, L, ?_, ?_, hI⟩
    · unfold f_Ww_warrant; rw [h1]; rfl
    · unfold f_Md_warrant
      rcases h2 with h2 | ⟨h2, h3⟩
      · rw [h2]; rfl
      · rw [h2, h3]; rfl
  have hc := ((hR.2.2.1 0 (by decide)).1 V (fun _ _ _ => rfl)).1
  rcases so01 (F 0) with c | ⟨c, c'⟩
  · obtain ⟨W1, e1, e2⟩ := war_c2 (F := F) (q := q) (V := V) (S := S) hy (y + 1 - x) x 2000 0 V S (by omega) (by omega) ⟨b1, b3, hR, b10.1, rfl, rfl, fun _ _ _ _ _ _ => rfl⟩
    obtain ⟨i1, i2, i3, i4, i5, i6, i7⟩ := id e2
    have R1 : RL W1 q F := i3
    obtain ⟨W2, L2, g1, g2⟩ := war_m2 (F := F) (q := q) (V := W1) (S := S) c hy (y + 1 - x) x 2000 0 W1 L S (by omega) (by omega) ⟨b1, b4.fr (i7 66 (by omega) (by omega) (by omega) (by omega) (by omega)), R1, by rw [i7 65 (by omega) (by omega) (by omega) (by omega) (by omega)]; exact b10.2.1, rfl, rfl, fun _ _ _ => rfl⟩
    obtain ⟨j1, j2, j3, j4, j5, j6, j7⟩ := id g2
    have u : ∀ r, r ≠ 1 → r ≠ 6 → r ≠ 8 → r ≠ 53 → r ≠ 54 → r ≠ 66 → r ≠ 82 → W2 r = V r := fun r r1 r2 r3 r4 r5 r6 r7 => by rw [j7 r r6 r7]; exact i7 r r1 r2 r3 r4 r5
    have IX : Inv LW (fun r => if r < 9 ∨ r = 66 then W2 r else V r) L2 := by
      refine Inv.roll lwF_LW (S' := (WS F (4 * (y + 1 - x)) (4 * x) S 0).1) hh (fun r r1 r2 => if_neg (by omega)) i1 ?_ ?_ i6
      · refine i2.fr (fun r r1 r2 => ?_)
        show (if _ then _ else _) = _
        rw [if_pos (by omega)]; exact j7 r (by omega) (by omega)
      · exact j2.fr (by show (if _ then _ else _) = _; rw [if_pos (by omega)])
    refine ⟨nI (WS F (4 * (y + 1 - x)) (4 * x) S 0).2, W1, W2, L2, ?_, ?_, IX.scratch lwF_LW (fun r hr => ?_) (fun k _ => ?_) ?_ (fun k _ => ?_) (fun r r1 r2 => ?_)⟩
    · unfold f_Ww_warrant
      rw [h1, if_neg (by decide), hR.1 V rfl, Option.bind_some, if_pos hR.2.1, show f_Law_has q 0 V = _ from hc, Option.bind_some, c, if_pos (by decide)]
      exact e1
    · unfold f_Md_warrant
      rw [h2, h3, if_neg (by decide), if_neg (by decide), show f_Md_hasClause 0 W1 = _ from hm W1 (i7 66 (by omega) (by omega) (by omega) (by omega) (by omega)) (fun r _ _ => i7 r (by omega) (by omega) (by omega) (by omega) (by omega)) (by rw [i7 65 (by omega) (by omega) (by omega) (by omega) (by omega)]; exact b10.2.1), Option.bind_some, show Fx F 6 0 = F 0 from rfl, c, if_pos (by decide)]
      exact g1
    · show _ = if _ then _ else _
      by_cases z : r < 9 ∨ r = 66
      · rw [if_pos z]
      · rw [if_neg z]; exact u r (by omega) (by omega) (by omega) (by omega) (by omega) (by omega) (by omega)
    · show _ = (if _ then _ else _ : Nat → Int32) k
      rw [if_neg (by omega), u 46 (by omega) (by omega) (by omega) (by omega) (by omega) (by omega) (by omega)]
    · show _ = (if _ then _ else _ : Nat → Int32) 1
      rw [if_neg (by omega), u 51 (by omega) (by omega) (by omega) (by omega) (by omega) (by omega) (by omega)]
    · show _ = (if _ then _ else _ : Nat → Int32) k
      rw [if_neg (by omega), u 65 (by omega) (by omega) (by omega) (by omega) (by omega) (by omega) (by omega)]
    · show _ = if _ then _ else _
      by_cases z : r < 9 ∨ r = 66
      · rw [if_pos z]
      · rw [if_neg z]; exact u r (by omega) (by omega) (by omega) (by omega) (by omega) (by omega) (by omega)
  · refine ⟨-1, V, V, L, ?_, ?_, hI⟩
    · unfold f_Ww_warrant
      rw [h1, if_neg (by decide), hR.1 V rfl, Option.bind_some, if_pos hR.2.1, show f_Law_has q 0 V = _ from hc, Option.bind_some, c]; rfl
    · unfold f_Md_warrant
      rw [h2, h3, if_neg (by decide), if_neg (by decide), show f_Md_hasClause 0 V = _ from hm V rfl (fun _ _ _ => rfl) b10.2.1, Option.bind_some, show Fx F 6 0 = F 0 from rfl, c]; rfl

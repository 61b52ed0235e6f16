/-! PURE: reform -/
def TT (F : Nat → Mn) (S : Nat → Nat) (e : Nat) : Int := sd (fun f => sd (gz (Fx F e) S 0 f) 30 0) (S 0) 0
theorem aH_G {G G' : Nat → Mn} {S : Nat → Nat} {p d s w : Nat} (h : G 1 = G' 1) : ∀ n, aH G S p d s w n = aH G' S p d s w n
  | 0 => rfl
  | n + 1 => by
    show aH G S p d s w n + (if _ then aD G S n d s w else 0) = aH G' S p d s w n + (if _ then aD G' S n d s w else 0)
    unfold aD
    rw [aH_G h n, h]
theorem gz_G {G G' : Nat → Mn} {S : Nat → Nat} {pp f d : Nat} (h1 : G 1 = G' 1) (h2 : G 2 = G' 2) (h3 : G 3 = G' 3) (h4 : G 4 = G' 4) : gz G S pp f d = gz G' S pp f d := by
  unfold gz aG aF aA aD
  rw [h1, h2, h3, h4, aH_G h1]
theorem TT_same {F : Nat → Mn} {S : Nat → Nat} {e : Nat} (he : e = 0 ∨ e = 5) : TT F S e = TT F S 6 := by
  unfold TT
  refine sd_congr _ _ (fun f _ _ => sd_congr _ _ (fun d _ _ => gz_G ?_ ?_ ?_ ?_))
  all_goals (rcases he with rfl | rfl <;> rfl)
def mr (F : Nat → Mn) (S : Nat → Nat) (o : Nat → Nat) (i : Nat) : Int32 := iI (TT F S (o i)) - iI (TT F S 6)
def rfR (F : Nat → Mn) (S : Nat → Nat) (o : Nat → Nat) : Nat → Int32 × Int32
  | 0 => (-1, 0)
  | i + 1 => if mr F S o i ≤ (rfR F S o i).2 then rfR F S o i else (nI i, mr F S o i)
def fR (V W : xV) : Prop := ∀ r, r ≠ 51 → r ≠ 53 → r ≠ 54 → r ≠ 55 → r ≠ 56 → W r = V r
theorem tot_all {S : Nat → Nat} {G : Nat → Mn} : sd (fun f => if sel (-1) f = true then sd (gz G S 0 f) (29 + 1 - 0) 0 else 0) (S 0) 0 = sd (fun f => sd (gz G S 0 f) 30 0) (S 0) 0 := sd_congr _ _ (fun f _ _ => if_pos (sel_iff.mpr (Or.inl rfl)))
theorem xo_lt {w : Nat} (h : w < 6) : xo w = nI w := if_pos h
theorem refo_c {V : xV} {S : Nat → Nat} {q n : Nat} {F : Nat → Mn} {o : Nat → Nat} (h : ST V S q F 6 6) (hq : 20 ≤ q ∧ q < 42) (hn : n ≤ 6) (h4 : V q 4 = nI n) (ho : ∀ i, i < n → o i < 6 ∧ V (q + 4) i = nI (o i)) (a : Int32) : ∀ (m i u : Nat) (W : xV), i + m = n → m < u → fR V W → ∃ W', g_Ww_reform_40 u a q (iI (TT F S 6)) (rfR F S o i).1 (rfR F S o i).2 (nI i) W = some (if ¬ (rfR F S o n).1 = -1 then (if ¬ a = 0 then (rfR F S o n).2 else (rfR F S o n).1) else -1, W') ∧ fT V W'
  | 0, i, u + 1, W, h1, h2, hF => by
    have : i = n := by omega
    subst this
    refine ⟨x2 W 51 1 (-1), ?_, fun r r1 r2 r3 r4 r5 => by rw [x2_ne r1]; exact hF r r1 r2 r3 r4 r5, by rw [x2_at, h.2.2.2.2.1]; rfl⟩
    show b_Ww_reform_40 _ _ _ _ _ _ _ _ = _
    unfold b_Ww_reform_40
    rw [hF q (by omega) (by omega) (by omega) (by omega) (by omega), h4, if_pos (nI_le (Nat.le_refl _) (by omega))]
    split
    · split <;> rfl
    · rfl
  | m + 1, i, u + 1, W, h1, h2, hF => by
    obtain ⟨o1, o2⟩ := ho i (by omega)
    have fW : fR V (x2 W 51 1 (nI (o i))) := fun r r1 r2 r3 r4 r5 => by rw [x2_ne r1]; exact hF r r1 r2 r3 r4 r5
    have hW : ST (x2 W 51 1 (nI (o i))) S q F (o i) 6 := h.fr (fun r hr => fW r (by omega) (by omega) (by omega) (by omega) (by omega)) (fW 66 (by omega) (by omega) (by omega) (by omega) (by omega)) (fun r _ _ => fW r (by omega) (by omega) (by omega) (by omega) (by omega)) (o i) 6 (by rw [x2_at, xo_lt o1]) (by rw [fW 65 (by omega) (by omega) (by omega) (by omega) (by omega)]; exact h.2.2.2.2.2)
    have st : rfR F S o (i + 1) = if mr F S o i ≤ (rfR F S o i).2 then rfR F S o i else (nI i, mr F S o i) := rfl
    have at1 : f_Law_clauseAt q (nI i) W = some (nI (o i)) := by
      unfold f_Law_clauseAt
      rw [hF q (by omega) (by omega) (by omega) (by omega) (by omega), h4, within_in (by omega) (by omega), if_neg (by decide), if_neg (show ¬ (6 : Int32) ≤ nI i from nI_ge (b := 6) (by omega) (by decide)), if_pos (xI_ok (show i < 6 by omega) (by decide)), cl (by omega), hF (q + 4) (by omega) (by omega) (by omega) (by omega) (by omega), o2]
    have head : g_Ww_reform_40 (u + 1) a q (iI (TT F S 6)) (rfR F S o i).1 (rfR F S o i).2 (nI i) W = (if nI (o i) = 0 then b_Ww_reform_82 (g_Ww_reform_40 u) a q (iI (TT F S 6)) (rfR F S o i).1 (rfR F S o i).2 (nI i) 1 (x2 W 51 1 (nI (o i))) else (if ¬ nI (o i) = 5 then b_Ww_reform_82 (g_Ww_reform_40 u) a q (iI (TT F S 6)) (rfR F S o i).1 (rfR F S o i).2 (nI i) 0 (x2 W 51 1 (nI (o i))) else b_Ww_reform_82 (g_Ww_reform_40 u) a q (iI (TT F S 6)) (rfR F S o i).1 (rfR F S o i).2 (nI i) 1 (x2 W 51 1 (nI (o i))))) := by
      show b_Ww_reform_40 _ _ _ _ _ _ _ _ = _
      unfold b_Ww_reform_40
      rw [hF q (by omega) (by omega) (by omega) (by omega) (by omega), h4, if_neg (nI_ge (by omega) (by omega)), at1, Option.bind_some]
    have b107 : ∀ X : xV, b_Ww_reform_107 (g_Ww_reform_40 u) a q (iI (TT F S 6)) (rfR F S o i).1 (rfR F S o i).2 (nI i) (mr F S o i) X = g_Ww_reform_40 u a q (iI (TT F S 6)) (rfR F S o (i + 1)).1 (rfR F S o (i + 1)).2 (nI (i + 1)) X := by
      intro X
      unfold b_Ww_reform_107
      rw [nI_1, st]
      split <;> rfl
    by_cases c : o i = 0 ∨ o i = 5
    · have e0 : mr F S o i = 0 := by unfold mr; rw [TT_same c]; exact Int32.sub_self _
      obtain ⟨W', k1, k2⟩ := refo_c h hq hn h4 ho a m (i + 1) u (x2 W 51 1 (nI (o i))) (by omega) (by omega) fW
      refine ⟨W', ?_, k2⟩
      have b82 : b_Ww_reform_82 (g_Ww_reform_40 u) a q (iI (TT F S 6)) (rfR F S o i).1 (rfR F S o i).2 (nI i) 1 (x2 W 51 1 (nI (o i))) = g_Ww_reform_40 u a q (iI (TT F S 6)) (rfR F S o (i + 1)).1 (rfR F S o (i + 1)).2 (nI (i + 1)) (x2 W 51 1 (nI (o i))) := by
        rw [← b107]
        unfold b_Ww_reform_82
        rw [if_neg (by decide), e0]
      rw [← k1, head, b82]
      rcases c with c | c
      · rw [if_pos (by rw [c]; rfl)]
      · rw [if_neg (by rw [c]; decide), if_neg (fun z => z (by rw [c]; rfl))]
    · obtain ⟨X, t1, t2, -⟩ := tally_f hW (o := -1) (x := 0) (y := 29) (pp := 0) (by decide) (by decide) (by decide) (Or.inl rfl)
      rw [tot_all] at t1
      have fX : fR V X := fun r r1 r2 r3 r4 r5 => by rw [t2.1 r r1 r2 r3 r4 r5]; exact fW r r1 r2 r3 r4 r5
      obtain ⟨W', k1, k2⟩ := refo_c h hq hn h4 ho a m (i + 1) u X (by omega) (by omega) fX
      refine ⟨W', ?_, k2⟩
      rw [← k1, head, if_neg (show ¬ nI (o i) = 0 from fun z => c (Or.inl (nI_small (b := 0) (by omega) (by decide) z))), if_pos (show ¬ nI (o i) = 5 from fun z => c (Or.inr (nI_small (b := 5) (by omega) (by decide) z))), ← b107]
      unfold b_Ww_reform_82
      rw [if_pos rfl, show f_Court_tally (-1) 0 29 0 (x2 W 51 1 (nI (o i))) = _ from t1, Option.bind_some]
      rfl
theorem refo_m1 {V : xV} {S : Nat → Nat} {q j : Nat} {F : Nat → Mn} (h : ST V S q F 6 6) (hj : j < 4) (e3 : V 66 3 = nI j) {i : Nat} (hi : i < 6) (a v2 x y : Int32) (k : Int32 → Int32 → Int32 → Int32 → Int32 → xV → xL → Option (Int32 × xV × xL)) : ∀ (m w u : Nat) (W : xV) (L : xL), w + m = 6 → m < u → sM V W → (∀ w', w ≤ w' → w' < 6 → ¬ V 71 (6 * j + w') = nI i) → g_Md_reform_57 k u a v2 x y (nI i) (nI w) W L = k a v2 x y (nI (i + 1)) W L
  | 0, w, u + 1, W, L, h1, h2, hW, hn => by
    show b_Md_reform_57 _ _ _ _ _ _ _ _ _ _ = _
    unfold b_Md_reform_57
    rw [if_pos (show (6 : Int32) ≤ nI w from nI_le (a := 6) (by omega) (by omega)), nI_1]
  | m + 1, w, u + 1, W, L, h1, h2, hW, hn => by
    rw [← refo_m1 h hj e3 hi a v2 x y k m (w + 1) u W L (by omega) (by omega) hW (fun w' z1 z2 => hn w' (by omega) z2)]
    show b_Md_reform_57 _ _ _ _ _ _ _ _ _ _ = _
    unfold b_Md_reform_57
    rw [if_neg (show ¬ (6 : Int32) ≤ nI w from nI_ge (b := 6) (by omega) (by decide)), hW 66 (by decide), e3, show (6 : Int32) * nI j + nI w = nI (6 * j + w) by rw [show (6 : Int32) = nI 6 from rfl, pk_mul, nI_add], if_pos (xI_ok (by omega) (by decide)), cl (by omega), hW 71 (by decide), if_pos (hn w (Nat.le_refl _) (by omega)), nI_1]
theorem refo_m2 {V : xV} {S : Nat → Nat} {q j : Nat} {F : Nat → Mn} (h : ST V S q F 6 6) (hj : j < 4) (e3 : V 66 3 = nI j) {o : Nat → Nat} {i : Nat} (hi : i < 6) (oi : o i < 6) (e71 : V 71 (6 * j + o i) = nI i) (un : ∀ w', w' < 6 → V 71 (6 * j + w') = nI i → w' = o i) (a : Int32) (k : Int32 → Int32 → Int32 → Int32 → Int32 → xV → xL → Option (Int32 × xV × xL)) : ∀ (m w u : Nat) (W : xV) (L : xL), w + m = 6 → m < u → sM V W → w ≤ o i → ∃ W' L', g_Md_reform_57 k u a (iI (TT F S 6)) (rfR F S o i).1 (rfR F S o i).2 (nI i) (nI w) W L = k a (iI (TT F S 6)) (rfR F S o (i + 1)).1 (rfR F S o (i + 1)).2 (nI (i + 1)) W' L' ∧ sM V W'
  | 0, w, u + 1, W, L, h1, h2, hW, hn => by omega
  | m + 1, w, u + 1, W, L, h1, h2, hW, hn => by
    have e6 : (6 : Int32) * nI j + nI w = nI (6 * j + w) := by rw [show (6 : Int32) = nI 6 from rfl, pk_mul, nI_add]
    by_cases c : w = o i
    · have fW : ∀ r, r ≠ 65 → r ≠ 82 → x2 W 65 35 (nI w) r = V r := fun r r1 r2 => by rw [x2_ne r1]; exact hW r r2
      have hW2 : ST (x2 W 65 35 (nI w)) S q F 6 w := h.fr (fun r hr => fW r (by omega) (by omega)) (fW 66 (by omega) (by omega)) (fun r _ _ => fW r (by omega) (by omega)) 6 w (by rw [fW 51 (by omega) (by omega)]; exact h.2.2.2.2.1) (by rw [x2_at, xo_lt (by omega)])
      obtain ⟨X, L1, t1, t2⟩ := sumAll_f (L := L) hW2 (W := x2 W 65 35 (nI w)) (fun _ _ => rfl) (x := 0) (y := 29) (pp := 0) (by decide) (by decide) (by decide)
      have sX : sM V (x2 X 65 35 (-1)) := by
        intro r hr
        by_cases z : r = 65
        · subst z
          funext k'
          by_cases z2 : k' = 35
          · subst z2; rw [x2_at, h.2.2.2.2.2]; rfl
          · rw [x2_off (by omega), t2 65 (by decide), x2_off (by omega), hW 65 (by decide)]
        · rw [x2_ne z, t2 r hr, x2_ne z]; exact hW r hr
      have st : rfR F S o (i + 1) = if mr F S o i ≤ (rfR F S o i).2 then rfR F S o i else (nI i, mr F S o i) := rfl
      have rest := fun x y => refo_m1 h hj e3 hi a (iI (TT F S 6)) x y k m (w + 1) u (x2 X 65 35 (-1)) L1 (by omega) (by omega) sX (fun w' z1 z2 z3 => by have := un w' z2 z3; omega)
      refine ⟨x2 X 65 35 (-1), L1, ?_, sX⟩
      rw [← rest]
      show b_Md_reform_57 _ _ _ _ _ _ _ _ _ _ = _
      unfold b_Md_reform_57
      rw [if_neg (show ¬ (6 : Int32) ≤ nI w from nI_ge (b := 6) (by omega) (by decide)), hW 66 (by decide), e3, e6, if_pos (xI_ok (by omega) (by decide)), cl (by omega), hW 71 (by decide), if_neg (fun z => z (by rw [c]; exact e71)), show f_Md_sumAll 0 29 0 (x2 W 65 35 (nI w)) L = _ from t1, Option.bind_some, nI_1, st]
      have em : iI (sd (fun f => sd (gz (Fx F w) S 0 f) (29 + 1 - 0) 0) (S 0) 0) - iI (TT F S 6) = mr F S o i := by unfold mr TT; rw [c]
      show (if iI (sd (fun f => sd (gz (Fx F w) S 0 f) (29 + 1 - 0) 0) (S 0) 0) - iI (TT F S 6) ≤ (rfR F S o i).2 then _ else g_Md_reform_57 k u a _ _ (iI (sd (fun f => sd (gz (Fx F w) S 0 f) (29 + 1 - 0) 0) (S 0) 0) - iI (TT F S 6)) _ _ _ _) = _
      rw [em]
      split <;> rfl
    · obtain ⟨W', L', g1, g2⟩ := refo_m2 h hj e3 hi oi e71 un a k m (w + 1) u W L (by omega) (by omega) hW (by omega)
      refine ⟨W', L', ?_, g2⟩
      rw [← g1]
      show b_Md_reform_57 _ _ _ _ _ _ _ _ _ _ = _
      unfold b_Md_reform_57
      rw [if_neg (show ¬ (6 : Int32) ≤ nI w from nI_ge (b := 6) (by omega) (by decide)), hW 66 (by decide), e3, e6, if_pos (xI_ok (by omega) (by decide)), cl (by omega), hW 71 (by decide), if_pos (fun z => c (un w (by omega) z)), nI_1]
theorem refo_m {V : xV} {S : Nat → Nat} {q j n : Nat} {F : Nat → Mn} {o : Nat → Nat} (h : ST V S q F 6 6) (hj : j < 4) (e3 : V 66 3 = nI j) (hn : n ≤ 6) (h69 : V 69 j = nI n) (ho : ∀ i, i < n → o i < 6 ∧ V 71 (6 * j + o i) = nI i ∧ ∀ w', w' < 6 → V 71 (6 * j + w') = nI i → w' = o i) (a : Int32) : ∀ (m i u : Nat) (W : xV) (L : xL), i + m = n → m < u → sM V W → ∃ W' L', g_Md_reform_38 u a (iI (TT F S 6)) (rfR F S o i).1 (rfR F S o i).2 (nI i) W L = some (if ¬ (rfR F S o n).1 = -1 then (if ¬ a = 0 then (rfR F S o n).2 else (rfR F S o n).1) else -1, W', L') ∧ sM V W'
  | 0, i, u + 1, W, L, h1, h2, hW => by
    have : i = n := by omega
    subst this
    refine ⟨W, L, ?_, hW⟩
    show b_Md_reform_38 _ _ _ _ _ _ _ _ = _
    unfold b_Md_reform_38
    rw [hW 66 (by decide), e3, if_pos (xI_ok hj (by decide)), cl (by omega), hW 69 (by decide), h69, if_pos (nI_le (Nat.le_refl _) (by omega))]
    split
    · split <;> rfl
    · rfl
  | m + 1, i, u + 1, W, L, h1, h2, hW => by
    obtain ⟨o1, o2, o3⟩ := ho i (by omega)
    obtain ⟨W1, L1, a1, a2⟩ := refo_m2 h hj e3 (show i < 6 by omega) o1 o2 o3 a (g_Md_reform_38 u) 6 0 2000 W L rfl (by decide) hW (by omega)
    obtain ⟨W2, L2, b1, b2⟩ := refo_m h hj e3 hn h69 ho a m (i + 1) u W1 L1 (by omega) (by omega) a2
    refine ⟨W2, L2, ?_, b2⟩
    rw [← b1, ← a1]
    show b_Md_reform_38 _ _ _ _ _ _ _ _ = _
    unfold b_Md_reform_38
    rw [hW 66 (by decide), e3, if_pos (xI_ok hj (by decide)), cl (by omega), hW 69 (by decide), h69, if_neg (nI_ge (by omega) (by omega))]
    rfl
theorem op_reform : P_reform (Inv LW) := by
  intro a V L hI
  obtain ⟨S, K, b1, b2, b3, b4, b5, b6, b7, b8, b9, b10, b11⟩ := id hI
  obtain ⟨q, F, hR⟩ := ruling b3.1 b4.1 b1.1 b10 b11
  have h : ST V S q F 6 6 := ⟨b1, b3, b4, hR, b10.1, b10.2.1⟩
  rcases wi a 2 1 2 (by decide) rfl (by decide) with ⟨g1, g2⟩ | ⟨d, hd, rfl, g1, g2⟩
  · refine ⟨-1, V, V, L, ?_, ?_, hI⟩
    · unfold f_Ww_reform; rw [g1]; rfl
    · unfold f_Md_reform; rw [g2]; rfl
  obtain ⟨W, t1, t2, -⟩ := tally_f h (o := -1) (x := 0) (y := 29) (pp := 0) (by decide) (by decide) (by decide) (Or.inl rfl)
  rw [tot_all] at t1
  have A : f_Ww_reform (nI d) V = g_Ww_reform_40 2000 (nI d) q (iI (TT F S 6)) (-1) 0 0 W := by
    unfold f_Ww_reform
    rw [g1, if_pos (by decide), hR.1 V rfl, Option.bind_some, if_pos hR.2.1, show f_Court_tally (-1) 0 29 0 V = _ from t1, Option.bind_some]; rfl
  have fRW : fR V W := t2.1
  rcases hR.2.2.2 with ⟨c1, c2⟩ | ⟨j, hj, c1, c2, c3, c4⟩
  · have q20 : q = 20 := by
      have := hR.1 V rfl
      unfold f_Shelf_ruling at this
      rw [b3.1.2.2.2, ← b4.1, c1, if_pos (by decide)] at this
      exact (Option.some.inj this).symm
    refine ⟨-1, x2 W 51 1 (-1), x2 W 51 1 (-1), L, ?_, ?_, hI.evT (V1 := x2 W 51 1 (-1)) ⟨fun r r1 r2 r3 r4 r5 => by rw [x2_ne r1]; exact fRW r r1 r2 r3 r4 r5, by rw [x2_at, b10.1]⟩ (fun _ _ => rfl)⟩
    · rw [A, q20]
      show b_Ww_reform_40 _ _ _ _ _ _ _ _ = _
      unfold b_Ww_reform_40
      rw [fRW 20 (by omega) (by omega) (by omega) (by omega) (by omega), b10.2.2.1, if_pos (by decide), if_neg (by decide)]
    · unfold f_Md_reform
      rw [g2, if_neg (by decide), if_neg]
      intro z
      apply z
      rw [x2_ne (by decide), fRW 66 (by omega) (by omega) (by omega) (by omega) (by omega)]; exact c1
  · obtain ⟨n, a1, a2, a3, a4, a5⟩ := c3
    obtain ⟨o, ho⟩ := fchoice 0 n a5
    have un : ∀ i, i < n → ∀ w', w' < 6 → V 71 (6 * j + w') = nI i → w' = o i := by
      intro i hi w' hw' e
      obtain ⟨o1, o2, o3⟩ := ho i hi
      rcases a4 w' hw' with ⟨y1, y2, y3, y4⟩ | ⟨s, C, M, v, dd, k, i', u, y1, y2, y3, y4, y5, y6, y7, y8, y9, y10, y11, y12⟩
      · rw [y4] at e; exact absurd e.symm (nI_m1 (by omega))
      · have : i' = i := nI_small (by omega) (by omega) (y10.symm.trans e)
        subst this
        exact nI_small (by omega) (by omega) (y12.symm.trans o2)
    have q4 : q + 4 = 30 + 5 * j := by omega
    obtain ⟨W1, k1, k2⟩ := refo_c h (n := n) (o := o) (by omega) a1 (by rw [c2]; exact a2) (fun i hi => ⟨(ho i hi).1, by rw [q4]; exact (ho i hi).2.1⟩) (nI d) n 0 2000 W (by omega) (by omega) fRW
    have h' := h.fT k2
    have u : ∀ r, 57 ≤ r → W1 r = V r := fun r hr => k2.1 r (by omega) (by omega) (by omega) (by omega) (by omega)
    obtain ⟨W2, L2, m1, m2⟩ := sumAll_f (L := L) h' (W := W1) (fun _ _ => rfl) (x := 0) (y := 29) (pp := 0) (by decide) (by decide) (by decide)
    obtain ⟨W3, L3, p1, p2⟩ := refo_m h' (n := n) (o := o) hj (by rw [u 66 (by omega)]; exact c1) a1 (by rw [u 69 (by omega)]; exact a3) (fun i hi => ⟨(ho i hi).1, by rw [u 71 (by omega)]; exact (ho i hi).2.2, fun w' z1 z2 => un i hi w' z1 (by rw [u 71 (by omega)] at z2; exact z2)⟩) (nI d) n 0 2000 W2 L2 (by omega) (by omega) m2
    refine ⟨_, W1, W3, L3, A.trans k1, ?_, hI.evT k2 p2⟩
    unfold f_Md_reform
    rw [g2, if_neg (by decide), if_pos (by rw [u 66 (by omega), c1]; exact nI_m1 (by omega)), show f_Md_sumAll 0 29 0 W1 L = _ from m1, Option.bind_some]
    exact p1

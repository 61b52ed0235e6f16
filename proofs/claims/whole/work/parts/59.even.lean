/-! PURE: even -/
def bi (s k : Nat) : Nat := s / 2 ^ k % 2
def fl (s k : Nat) : Nat := if bi s k = 1 then s - 2 ^ k else s + 2 ^ k
theorem bi4 : ∀ s, s < 16 → ∀ k, k < 4 → ((nI s >>> (nI k &&& 31)) &&& 1) = nI (bi s k) ∧ nI s ^^^ (1 <<< (nI k &&& 31)) = nI (fl s k) ∧ fl s k < 16 ∧ bi s k < 2 := by decide +kernel
def oth (s mi : Nat) : Nat → Nat
  | 0 => 0
  | k + 1 => oth s mi k + if bi s k = mi then 0 else 1
theorem oth4 : ∀ s, s < 16 → ∀ p, p < 4 → oth s (bi s p) 4 < 4 := by decide +kernel
def wS (V W : xV) : Prop := (∀ r, r ≠ 51 → r ≠ 53 → r ≠ 54 → r ≠ 55 → r ≠ 61 → r ≠ 62 → W r = V r) ∧ W 51 1 = V 51 1
theorem wS.tr {V W X : xV} (h1 : wS V W) (h2 : wS W X) : wS V X := ⟨fun r a b c d e f => by rw [h2.1 r a b c d e f]; exact h1.1 r a b c d e f, h2.2.trans h1.2⟩
theorem fC.wS {V W : xV} (h : fC V W) : wS V W := ⟨fun r a b c d _ _ => h.1 r a b c d, h.2⟩
theorem ST.wS {V V' : xV} {S : Nat → Nat} {q e m : Nat} {F : Nat → Mn} (h : ST V S q F e m) (hF : wS V V') : ST V' S q F e m := h.fr (fun r _ => hF.1 r (by omega) (by omega) (by omega) (by omega) (by omega) (by omega)) (hF.1 66 (by omega) (by omega) (by omega) (by omega) (by omega) (by omega)) (fun r _ _ => hF.1 r (by omega) (by omega) (by omega) (by omega) (by omega) (by omega)) e m (by rw [hF.2]; exact h.2.2.2.2.1) (by rw [hF.1 65 (by omega) (by omega) (by omega) (by omega) (by omega) (by omega)]; exact h.2.2.2.2.2)
theorem w39 {S : Nat → Nat} {q e m : Nat} {F : Nat → Mn} {d : Nat} (hd : d < 30) : ∀ (n i u : Nat) (W : xV), i + n = 32 → n < u → ST W S q F e m → ∃ W', g_Council_weigh_39 u (nI d) (nI i) W = some W' ∧ wS W W' ∧ W' 61 = W 61 ∧ (∀ k, k < i → W' 62 k = W 62 k) ∧ ∀ k, i ≤ k → k < 32 → W' 62 k = iI (tl (Fx F e) d (k / 4 / 2) (k / 4 % 2) (k % 4))
  | 0, i, u + 1, W, h1, h2, h => by
    refine ⟨W, ?_, (fC.rf W).wS, rfl, fun _ _ => rfl, fun k _ _ => by omega⟩
    show b_Council_weigh_39 _ _ _ _ = _
    unfold b_Council_weigh_39
    rw [if_pos (show (32 : Int32) ≤ nI i from nI_le (a := 32) (by omega) (by omega))]
  | n + 1, i, u + 1, W, h1, h2, h => by
    obtain ⟨W1, a1, a2⟩ := toll_c h (d := d) (p := i / 4 / 2) (mi := i / 4 % 2) (ot := i % 4) hd (by omega) (by omega) (by omega)
    have w1 : wS W (x2 W1 62 i (iI (tl (Fx F e) d (i / 4 / 2) (i / 4 % 2) (i % 4)))) := ⟨fun r r1 r2 r3 r4 r5 r6 => by rw [x2_ne r6]; exact a2.1 r r1 r2 r3 r4, by rw [x2_ne (by decide)]; exact a2.2⟩
    obtain ⟨W2, b1, b2, b3, b4, b5⟩ := w39 hd n (i + 1) u _ (by omega) (by omega) (h.wS w1)
    refine ⟨W2, ?_, w1.tr b2, by rw [b3, x2_ne (by decide), a2.1 61 (by decide) (by decide) (by decide) (by decide)], fun k hk => by rw [b4 k (by omega), x2_off (by omega), a2.1 62 (by decide) (by decide) (by decide) (by decide)], fun k k1 k2 => ?_⟩
    · rw [← b1]
      show b_Council_weigh_39 _ _ _ _ = _
      unfold b_Council_weigh_39
      rw [if_neg (show ¬ (32 : Int32) ≤ nI i from nI_ge (b := 32) (by omega) (by decide)), show nI i / 4 / 2 = nI (i / 4 / 2) by rw [show (4 : Int32) = nI 4 from rfl, show (2 : Int32) = nI 2 from rfl, pk_div (by omega) (by decide) (by decide), pk_div (by omega) (by decide) (by decide)], show xrem (nI i / 4) 2 = nI (i / 4 % 2) by rw [show (4 : Int32) = nI 4 from rfl, show (2 : Int32) = nI 2 from rfl, pk_div (by omega) (by decide) (by decide), xrem_nI (by omega) (by decide) (by decide)], show xrem (nI i) 4 = nI (i % 4) from xrem_nI (d := 4) (by omega) (by decide) (by decide), a1, Option.bind_some, if_pos (xI_ok (by omega) (by decide)), cl (by omega), nI_1]
    · by_cases c : k = i
      · subst c; rw [b4 k (by omega), x2_at]
      · exact b5 k (by omega) k2
theorem w2 {S : Nat → Nat} {q e m : Nat} {F : Nat → Mn} {d : Nat} (hd : d < 30) : ∀ (n i u : Nat) (W : xV), i + n = 8 → n < u → ST W S q F e m → ∃ W', g_Council_weigh_2 u (nI d) (nI i) W = some W' ∧ wS W W' ∧ (∀ k, k < i → W' 61 k = W 61 k) ∧ (∀ k, i ≤ k → k < 8 → W' 61 k = iI (gB (Fx F e) S (k / 2) d (k % 2))) ∧ ∀ k, k < 32 → W' 62 k = iI (tl (Fx F e) d (k / 4 / 2) (k / 4 % 2) (k % 4))
  | 0, i, u + 1, W, h1, h2, h => by
    obtain ⟨W', a1, a2, a3, a4, a5⟩ := w39 hd 32 0 2000 W rfl (by decide) h
    refine ⟨W', ?_, a2, fun k _ => by rw [a3], fun k _ _ => by omega, fun k hk => a5 k (by omega) hk⟩
    show b_Council_weigh_2 _ _ _ _ = _
    unfold b_Council_weigh_2
    rw [if_pos (show (8 : Int32) ≤ nI i from nI_le (a := 8) (by omega) (by omega))]; exact a1
  | n + 1, i, u + 1, W, h1, h2, h => by
    obtain ⟨W1, a1, a2⟩ := prov_c h (d := d) (p := i / 2) (w := i % 2) hd (by omega) (by omega)
    have w1 : wS W (x2 W1 61 i (iI (gB (Fx F e) S (i / 2) d (i % 2)))) := ⟨fun r r1 r2 r3 r4 r5 r6 => by rw [x2_ne r5]; exact a2.1 r r1 r2 r3 r4, by rw [x2_ne (by decide)]; exact a2.2⟩
    obtain ⟨W2, b1, b2, b3, b4, b5⟩ := w2 hd n (i + 1) u _ (by omega) (by omega) (h.wS w1)
    refine ⟨W2, ?_, w1.tr b2, fun k hk => by rw [b3 k (by omega), x2_off (by omega), a2.1 61 (by decide) (by decide) (by decide) (by decide)], fun k k1 k2 => ?_, b5⟩
    · rw [← b1]
      show b_Council_weigh_2 _ _ _ _ = _
      unfold b_Council_weigh_2
      rw [if_neg (show ¬ (8 : Int32) ≤ nI i from nI_ge (b := 8) (by omega) (by decide)), show nI i / 2 = nI (i / 2) by rw [show (2 : Int32) = nI 2 from rfl, pk_div (by omega) (by decide) (by decide)], show xrem (nI i) 2 = nI (i % 2) from xrem_nI (d := 2) (by omega) (by decide) (by decide), a1, Option.bind_some, if_pos (xI_ok (by omega) (by decide)), cl (by omega), nI_1]
    · by_cases c : k = i
      · subst c; rw [b3 k (by omega), x2_at]
      · exact b4 k (by omega) k2
/-- what a province has by a set of stamps -/
def shr (G : Nat → Mn) (S : Nat → Nat) (d p s : Nat) : Int32 := iI (gB G S p d (bi s p)) + iI (tl G d p (bi s p) (oth s (bi s p) 4))
theorem shr_c {W : xV} {G : Nat → Mn} {S : Nat → Nat} {d : Nat} (hg : ∀ k, k < 8 → W 61 k = iI (gB G S (k / 2) d (k % 2))) (ht : ∀ k, k < 32 → W 62 k = iI (tl G d (k / 4 / 2) (k / 4 % 2) (k % 4))) {p s : Nat} (hp : p < 4) (hs : s < 16) : f_Council_shareOf (nI p) (nI s) W = some (shr G S d p s) := by
  obtain ⟨b1, -, -, b4⟩ := bi4 s hs p hp
  have o4 := oth4 s hs p hp
  have loop : ∀ (n k u : Nat), k + n = 4 → n < u → g_Council_shareOf_12 W u (nI p) (nI s) (nI (bi s p)) (nI (oth s (bi s p) k)) (nI k) = some (shr G S d p s) := by
    intro n
    induction n with
    | zero =>
      intro k u h1 h2
      obtain ⟨u, rfl⟩ : ∃ u', u = u' + 1 := ⟨u - 1, by omega⟩
      have : k = 4 := by omega
      subst this
      show b_Council_shareOf_12 _ _ _ _ _ _ _ = _
      unfold b_Council_shareOf_12
      rw [if_pos (by decide), show (2 : Int32) * nI p + nI (bi s p) = nI (2 * p + bi s p) by rw [show (2 : Int32) = nI 2 from rfl, pk_mul, nI_add], show nI (2 * p + bi s p) * 4 + nI (oth s (bi s p) 4) = nI ((2 * p + bi s p) * 4 + oth s (bi s p) 4) by rw [show (4 : Int32) = nI 4 from rfl, pk_mul, nI_add], show (8 : Int32) = nI 8 from rfl, show (32 : Int32) = nI 32 from rfl, within_in (by omega) (by decide), within_in (by omega) (by decide), if_neg (by decide), if_pos (by decide), if_pos (xI_ok (by omega) (by decide)), if_pos (xI_ok (by omega) (by decide)), cl (by omega), cl (by omega), hg _ (by omega), ht _ (by omega)]
      unfold shr
      rw [show (2 * p + bi s p) / 2 = p by omega, show (2 * p + bi s p) % 2 = bi s p by omega, show ((2 * p + bi s p) * 4 + oth s (bi s p) 4) / 4 / 2 = p by omega, show ((2 * p + bi s p) * 4 + oth s (bi s p) 4) / 4 % 2 = bi s p by omega, show ((2 * p + bi s p) * 4 + oth s (bi s p) 4) % 4 = oth s (bi s p) 4 by omega]
    | succ n ih =>
      intro k u h1 h2
      obtain ⟨u, rfl⟩ : ∃ u', u = u' + 1 := ⟨u - 1, by omega⟩
      obtain ⟨c1, -, -, c4⟩ := bi4 s hs k (by omega)
      rw [← ih (k + 1) u (by omega) (by omega)]
      show b_Council_shareOf_12 _ _ _ _ _ _ _ = g_Council_shareOf_12 W u _ _ _ (nI (oth s (bi s p) k + if bi s k = bi s p then 0 else 1)) _
      unfold b_Council_shareOf_12
      rw [if_neg (show ¬ (4 : Int32) ≤ nI k from nI_ge (b := 4) (by omega) (by decide)), c1, nI_1]
      by_cases c : bi s k = bi s p
      · rw [if_pos (by rw [c]), if_pos c, nI_a0]; rfl
      · rw [if_neg (fun z => c (nI_small (by omega) (by omega) z)), if_neg c, nI_1]
  unfold f_Council_shareOf
  rw [b1]
  exact loop 4 0 2000 rfl (by decide)

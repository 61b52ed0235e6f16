/-! PURE: op_even -/
theorem e63_0 (k : Int32 → Int32 → Int32 → Int32 → xV → xL → Option (Int32 × xV × xL)) (a b c : Int32) (s : Nat) (W : xV) (L : xL) : ∀ (n p u : Nat), p + n = 4 → n < u → g_Md_even_63 k u a b c (nI s) 0 (nI p) W L = k a b c (nI (s + 1)) W L
  | 0, p, u + 1, h1, h2 => by
    show b_Md_even_63 _ _ _ _ _ _ _ _ _ _ = _
    unfold b_Md_even_63
    rw [if_pos (show (4 : Int32) ≤ nI p from nI_le (a := 4) (by omega) (by omega)), if_pos rfl, nI_1]
  | n + 1, p, u + 1, h1, h2 => by
    rw [← e63_0 k a b c s W L n (p + 1) u (by omega) (by omega)]
    show b_Md_even_63 _ _ _ _ _ _ _ _ _ _ = _
    unfold b_Md_even_63
    rw [if_neg (show ¬ (4 : Int32) ≤ nI p from nI_ge (b := 4) (by omega) (by decide)), if_pos rfl, nI_1]
theorem e63_1 {V : xV} {S : Nat → Nat} {q e m : Nat} {F : Nat → Mn} (h : ST V S q F m e) {d s : Nat} (hd : d < 30) (hs : s < 16) (hg : ∀ k, k < 8 → V 85 k = iI (gB (Fx F e) S (k / 2) d (k % 2))) (k : Int32 → Int32 → Int32 → Int32 → xV → xL → Option (Int32 × xV × xL)) (b c : Int32) : ∀ (n p u : Nat) (W : xV) (L : xL), p + n = 4 → n < u → sM V W → ∃ W' L', g_Md_even_63 k u (nI d) b c (nI s) 1 (nI p) W L = (if evn (Fx F e) S d s n p = 0 then k (nI d) b c (nI (s + 1)) W' L' else if ¬ c = b then k (nI d) b (c + 1) (nI (s + 1)) W' L' else some (nI s, W', L')) ∧ sM V W'
  | 0, p, u + 1, W, L, h1, h2, hW => by
    refine ⟨W, L, ?_, hW⟩
    show b_Md_even_63 _ _ _ _ _ _ _ _ _ _ = _
    unfold b_Md_even_63
    rw [if_pos (show (4 : Int32) ≤ nI p from nI_le (a := 4) (by omega) (by omega)), if_neg (by decide), if_neg (show ¬ evn (Fx F e) S d s 0 p = 0 from (by decide : ¬ (1 : Nat) = 0)), nI_1]
  | n + 1, p, u + 1, W, L, h1, h2, hW => by
    obtain ⟨-, b2, b3, -⟩ := bi4 s hs p (by omega)
    obtain ⟨W1, L1, a1, a2⟩ := shr_m (L := L) h hW hd (show p < 4 by omega) b3 hg
    obtain ⟨W2, L2, c1, c2⟩ := shr_m (L := L1) h a2 hd (show p < 4 by omega) hs hg
    have head : g_Md_even_63 k (u + 1) (nI d) b c (nI s) 1 (nI p) W L = (if shr (Fx F e) S d p s < shr (Fx F e) S d p (fl s p) then g_Md_even_63 k u (nI d) b c (nI s) 0 (nI (p + 1)) W2 L2 else g_Md_even_63 k u (nI d) b c (nI s) 1 (nI (p + 1)) W2 L2) := by
      show b_Md_even_63 _ _ _ _ _ _ _ _ _ _ = _
      unfold b_Md_even_63
      rw [if_neg (show ¬ (4 : Int32) ≤ nI p from nI_ge (b := 4) (by omega) (by decide)), if_neg (by decide), b2, a1, Option.bind_some]
      show Option.bind (f_Md_hasBy _ _ _ W1 L1) _ = _
      rw [c1, Option.bind_some, nI_1]
    have st : evn (Fx F e) S d s (n + 1) p = if shr (Fx F e) S d p (fl s p) ≤ shr (Fx F e) S d p s then evn (Fx F e) S d s n (p + 1) else 0 := rfl
    rw [head, st]
    by_cases z : shr (Fx F e) S d p (fl s p) ≤ shr (Fx F e) S d p s
    · obtain ⟨W3, L3, g1, g2⟩ := e63_1 h hd hs hg k b c n (p + 1) u W2 L2 (by omega) (by omega) c2
      refine ⟨W3, L3, ?_, g2⟩
      rw [if_neg (Int32.not_lt.mpr z), if_pos z]; exact g1
    · refine ⟨W2, L2, ?_, c2⟩
      rw [if_pos (Int32.not_le.mp z), if_neg z, if_pos rfl]
      exact e63_0 k (nI d) b c s W2 L2 n (p + 1) u (by omega) (by omega)
theorem e50 {V : xV} {S : Nat → Nat} {q e m : Nat} {F : Nat → Mn} (h : ST V S q F m e) {d : Nat} (hd : d < 30) (hg : ∀ k, k < 8 → V 85 k = iI (gB (Fx F e) S (k / 2) d (k % 2))) (b : Int32) : ∀ (n s u : Nat) (c : Int32) (W : xV) (L : xL), s + n = 16 → n < u → sM V W → ∃ W' L', g_Md_even_50 u (nI d) b c (nI s) W L = some (eR (Fx F e) S d b n s c, W', L') ∧ sM V W'
  | 0, s, u + 1, c, W, L, h1, h2, hW => by
    refine ⟨W, L, ?_, hW⟩
    show b_Md_even_50 _ _ _ _ _ _ _ = some (if ¬ b = -1 then -1 else c, W, L)
    unfold b_Md_even_50
    rw [if_pos (show (16 : Int32) ≤ nI s from nI_le (a := 16) (by omega) (by omega))]
    split <;> rfl
  | n + 1, s, u + 1, c, W, L, h1, h2, hW => by
    obtain ⟨W1, L1, a1, a2⟩ := e63_1 h hd (show s < 16 by omega) hg (g_Md_even_50 u) b c 4 0 2000 W L rfl (by decide) hW
    obtain ⟨W2, L2, g1, g2⟩ := e50 h hd hg b n (s + 1) u c W1 L1 (by omega) (by omega) a2
    obtain ⟨W3, L3, k1, k2⟩ := e50 h hd hg b n (s + 1) u (c + 1) W1 L1 (by omega) (by omega) a2
    have head : g_Md_even_50 (u + 1) (nI d) b c (nI s) W L = (if evn (Fx F e) S d s 4 0 = 0 then g_Md_even_50 u (nI d) b c (nI (s + 1)) W1 L1 else if ¬ c = b then g_Md_even_50 u (nI d) b (c + 1) (nI (s + 1)) W1 L1 else some (nI s, W1, L1)) := by
      show b_Md_even_50 _ _ _ _ _ _ _ = _
      unfold b_Md_even_50
      rw [if_neg (show ¬ (16 : Int32) ≤ nI s from nI_ge (b := 16) (by omega) (by decide))]
      exact a1
    have st : eR (Fx F e) S d b (n + 1) s c = if evn (Fx F e) S d s 4 0 = 0 then eR (Fx F e) S d b n (s + 1) c else if ¬ c = b then eR (Fx F e) S d b n (s + 1) (c + 1) else nI s := rfl
    rw [head, st]
    by_cases z : evn (Fx F e) S d s 4 0 = 0
    · exact ⟨W2, L2, by rw [if_pos z, if_pos z]; exact g1, g2⟩
    · by_cases y : ¬ c = b
      · exact ⟨W3, L3, by rw [if_neg z, if_neg z, if_pos y, if_pos y]; exact k1, k2⟩
      · exact ⟨W1, L1, by rw [if_neg z, if_neg z, if_neg y, if_neg y], a2⟩
theorem op_even : P_even (Inv LW) := by
  intro a b V L hI
  obtain ⟨S, q, F, h, -⟩ := hI.st
  rcases wi a 30 29 30 (by decide) rfl (by decide) with ⟨h1, h2⟩ | ⟨d, hd, rfl, h1, h2⟩
  · refine ⟨-1, V, V, L, ?_, ?_, hI⟩
    · unfold f_Ww_even; rw [h1]; rfl
    · unfold f_Md_even f_Md_isDay; rw [h2]; rfl
  by_cases c : (-1 : Int32) ≤ b
  · obtain ⟨W1, a1, a2, -, a4, a5⟩ := w2 (S := S) (q := q) (F := F) (e := 6) (m := 6) hd 8 0 2000 V rfl (by decide) h
    have hc := even_c (W := W1) (G := Fx F 6) (S := S) (d := d) (fun k hk => a4 k (by omega) hk) a5 b 16 0 2000 0 rfl (by decide)
    have h' := h.wS a2
    obtain ⟨V2, W2, L2, b1, b2, b3, -, b5⟩ := e16 (S := S) (q := q) (F := F) (e := 6) (m := 6) hd b 8 0 2000 W1 W1 L rfl (by decide) h' (fun _ _ => rfl)
    obtain ⟨W3, L3, g1, g2⟩ := e50 (h'.tM b2) hd (fun k hk => b5 k (by omega) hk) b 16 0 2000 0 W2 L2 rfl (by decide) b3
    have u : ∀ r, r ≠ 51 → r ≠ 53 → r ≠ 54 → r ≠ 55 → r ≠ 61 → r ≠ 62 → r ≠ 82 → r ≠ 85 → W3 r = V r := fun r r1 r2 r3 r4 r5 r6 r7 r8 => by rw [g2 r r7, b2 r r8]; exact a2.1 r r1 r2 r3 r4 r5 r6
    refine ⟨eR (Fx F 6) S d b 16 0 0, W1, W3, L3, ?_, ?_, hI.scratch lwF_LW (fun r hr => u r (by omega) (by omega) (by omega) (by omega) (by omega) (by omega) (by omega) (by omega)) (fun k _ => by rw [u 46 (by omega) (by omega) (by omega) (by omega) (by omega) (by omega) (by omega) (by omega)]) (by rw [g2 51 (by omega), b2 51 (by omega)]; exact a2.2) (fun k _ => by rw [u 65 (by omega) (by omega) (by omega) (by omega) (by omega) (by omega) (by omega) (by omega)]) (fun r _ _ => u r (by omega) (by omega) (by omega) (by omega) (by omega) (by omega) (by omega) (by omega))⟩
    · unfold f_Ww_even f_Council_weigh
      rw [h1, if_neg (by decide), if_pos c, show g_Council_weigh_2 2000 (nI d) 0 V = _ from a1, Option.bind_some]; exact hc
    · unfold f_Md_even f_Md_isDay
      rw [h2, if_neg (by decide), if_pos c]
      exact Eq.trans b1 g1
  · refine ⟨-1, V, V, L, ?_, ?_, hI⟩
    · unfold f_Ww_even; rw [h1, if_neg (by decide), if_neg c]
    · unfold f_Md_even f_Md_isDay; rw [h2, if_neg (by decide), if_neg c]

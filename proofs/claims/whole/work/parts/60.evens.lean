/-! PURE: even, both loops -/
def evn (G : Nat → Mn) (S : Nat → Nat) (d s : Nat) : Nat → Nat → Nat
  | 0, _ => 1
  | n + 1, p => if shr G S d p (fl s p) ≤ shr G S d p s then evn G S d s n (p + 1) else 0
theorem evn_2 (G : Nat → Mn) (S : Nat → Nat) (d s : Nat) : ∀ n p, evn G S d s n p < 2
  | 0, _ => by show 1 < 2; decide
  | n + 1, p => by
    show (if _ then evn G S d s n (p + 1) else 0) < 2
    split
    · exact evn_2 G S d s n (p + 1)
    · decide
def eR (G : Nat → Mn) (S : Nat → Nat) (d : Nat) (b : Int32) : Nat → Nat → Int32 → Int32
  | 0, _, c => if ¬ b = -1 then -1 else c
  | n + 1, s, c => if evn G S d s 4 0 = 0 then eR G S d b n (s + 1) c else if ¬ c = b then eR G S d b n (s + 1) (c + 1) else nI s
theorem isev_c {W : xV} {G : Nat → Mn} {S : Nat → Nat} {d : Nat} (hg : ∀ k, k < 8 → W 61 k = iI (gB G S (k / 2) d (k % 2))) (ht : ∀ k, k < 32 → W 62 k = iI (tl G d (k / 4 / 2) (k / 4 % 2) (k % 4))) {s : Nat} (hs : s < 16) : ∀ (n p u : Nat), p + n = 4 → n < u → g_Council_isEven_2 W u (nI s) (nI p) = some (nI (evn G S d s n p))
  | 0, p, u + 1, h1, h2 => by
    show b_Council_isEven_2 _ _ _ _ = _
    unfold b_Council_isEven_2
    rw [if_pos (show (4 : Int32) ≤ nI p from nI_le (a := 4) (by omega) (by omega))]; rfl
  | n + 1, p, u + 1, h1, h2 => by
    obtain ⟨-, b2, b3, -⟩ := bi4 s hs p (by omega)
    show b_Council_isEven_2 _ _ _ _ = some (nI (if shr G S d p (fl s p) ≤ shr G S d p s then evn G S d s n (p + 1) else 0))
    unfold b_Council_isEven_2
    rw [if_neg (show ¬ (4 : Int32) ≤ nI p from nI_ge (b := 4) (by omega) (by decide)), b2, shr_c hg ht (by omega) b3, Option.bind_some, shr_c hg ht (by omega) hs, Option.bind_some, nI_1, isev_c hg ht hs n (p + 1) u (by omega) (by omega)]
    split <;> rfl
theorem even_c {W : xV} {G : Nat → Mn} {S : Nat → Nat} {d : Nat} (hg : ∀ k, k < 8 → W 61 k = iI (gB G S (k / 2) d (k % 2))) (ht : ∀ k, k < 32 → W 62 k = iI (tl G d (k / 4 / 2) (k / 4 % 2) (k % 4))) (b : Int32) : ∀ (n s u : Nat) (c : Int32), s + n = 16 → n < u → g_Ww_even_29 u b c (nI s) W = some (eR G S d b n s c, W)
  | 0, s, u + 1, c, h1, h2 => by
    show b_Ww_even_29 _ _ _ _ _ = some (if ¬ b = -1 then -1 else c, W)
    unfold b_Ww_even_29
    rw [if_pos (show (16 : Int32) ≤ nI s from nI_le (a := 16) (by omega) (by omega))]
    split <;> rfl
  | n + 1, s, u + 1, c, h1, h2 => by
    have k2 := evn_2 G S d s 4 0
    show b_Ww_even_29 _ _ _ _ _ = some (if evn G S d s 4 0 = 0 then eR G S d b n (s + 1) c else if ¬ c = b then eR G S d b n (s + 1) (c + 1) else nI s, W)
    unfold b_Ww_even_29 f_Council_isEven
    rw [if_neg (show ¬ (16 : Int32) ≤ nI s from nI_ge (b := 16) (by omega) (by decide)), show g_Council_isEven_2 W 2000 (nI s) 0 = _ from isev_c hg ht (show s < 16 by omega) 4 0 2000 rfl (by decide), Option.bind_some, nI_1, even_c hg ht b n (s + 1) u c (by omega) (by omega), even_c hg ht b n (s + 1) u (c + 1) (by omega) (by omega)]
    by_cases z : evn G S d s 4 0 = 0
    · rw [if_pos (by rw [z]; rfl), if_pos z]
    · rw [if_neg (nI_ne0 (by omega) (by omega)), if_neg z]
      split <;> rfl
def tM (V V' : xV) : Prop := ∀ r, r ≠ 85 → V' r = V r
theorem ST.tM {V V' : xV} {S : Nat → Nat} {q e m : Nat} {F : Nat → Mn} (h : ST V S q F e m) (hV : tM V V') : ST V' S q F e m := h.fr (fun r _ => hV r (by omega)) (hV 66 (by omega)) (fun r _ _ => hV r (by omega)) e m (by rw [hV 51 (by omega)]; exact h.2.2.2.2.1) (by rw [hV 65 (by omega)]; exact h.2.2.2.2.2)
theorem sM.set {V W : xV} (h : sM V W) (k : Nat) (v : Int32) : sM (x2 V 85 k v) (x2 W 85 k v) := by
  intro r hr
  by_cases c : r = 85
  · subst c
    funext j
    by_cases c2 : j = k
    · subst c2; rw [x2_at, x2_at]
    · rw [x2_off (by omega), x2_off (by omega), h 85 (by decide)]
  · rw [x2_ne c, x2_ne c]; exact h r hr
theorem e16 {S : Nat → Nat} {q e m : Nat} {F : Nat → Mn} {d : Nat} (hd : d < 30) (b : Int32) : ∀ (n i u : Nat) (V W : xV) (L : xL), i + n = 8 → n < u → ST V S q F m e → sM V W → ∃ V' W' L', g_Md_even_16 u (nI d) b (nI i) W L = g_Md_even_50 2000 (nI d) b 0 0 W' L' ∧ tM V V' ∧ sM V' W' ∧ (∀ k, k < i → V' 85 k = V 85 k) ∧ ∀ k, i ≤ k → k < 8 → V' 85 k = iI (gB (Fx F e) S (k / 2) d (k % 2))
  | 0, i, u + 1, V, W, L, h1, h2, h, hW => by
    refine ⟨V, W, L, ?_, fun _ _ => rfl, hW, fun _ _ => rfl, fun k _ _ => by omega⟩
    show b_Md_even_16 _ _ _ _ _ _ = _
    unfold b_Md_even_16
    rw [if_pos (show (8 : Int32) ≤ nI i from nI_le (a := 8) (by omega) (by omega))]
  | n + 1, i, u + 1, V, W, L, h1, h2, h, hW => by
    obtain ⟨W1, L1, a1, a2⟩ := gainBy_m (L := L) h hW (d := d) (p := i / 2) (w := i % 2) hd (by omega) (by omega)
    obtain ⟨V', W', L', b1, b2, b3, b4, b5⟩ := e16 hd b n (i + 1) u (x2 V 85 i (iI (gB (Fx F e) S (i / 2) d (i % 2)))) (x2 W1 85 i (iI (gB (Fx F e) S (i / 2) d (i % 2)))) L1 (by omega) (by omega) (h.tM (fun r hr => x2_ne hr)) (a2.set i _)
    refine ⟨V', W', L', ?_, fun r hr => by rw [b2 r hr, x2_ne hr], b3, fun k hk => by rw [b4 k (by omega), x2_off (by omega)], fun k k1 k2 => ?_⟩
    · rw [← b1]
      show b_Md_even_16 _ _ _ _ _ _ = _
      unfold b_Md_even_16
      rw [if_neg (show ¬ (8 : Int32) ≤ nI i from nI_ge (b := 8) (by omega) (by decide)), show nI i / 2 = nI (i / 2) by rw [show (2 : Int32) = nI 2 from rfl, pk_div (by omega) (by decide) (by decide)], show xrem (nI i) 2 = nI (i % 2) from xrem_nI (d := 2) (by omega) (by decide) (by decide), a1, Option.bind_some, if_pos (xI_ok (by omega) (by decide)), cl (by omega), nI_1]
    · by_cases c : k = i
      · subst c; rw [b4 k (by omega), x2_at]
      · exact b5 k (by omega) k2
theorem shr_m {V W : xV} {L : xL} {S : Nat → Nat} {q e m : Nat} {F : Nat → Mn} (h : ST V S q F m e) (hW : sM V W) {d p s : Nat} (hd : d < 30) (hp : p < 4) (hs : s < 16) (hg : ∀ k, k < 8 → V 85 k = iI (gB (Fx F e) S (k / 2) d (k % 2))) : ∃ W' L', f_Md_hasBy (nI p) (nI d) (nI s) W L = some (shr (Fx F e) S d p s, W', L') ∧ sM V W' := by
  obtain ⟨b1, -, -, b4⟩ := bi4 s hs p hp
  have o4 := oth4 s hs p hp
  have fin : ∀ (X : xV) (M : xL) (t : Int), sM V X → tl (Fx F e) d p (bi s p) (oth s (bi s p) 4) = t → b_Md_hasBy_111 (nI p) (nI (bi s p)) (iI t) X M = some (shr (Fx F e) S d p s, X, M) := by
    intro X M t hX ht
    unfold b_Md_hasBy_111 shr
    rw [show (2 : Int32) * nI p + nI (bi s p) = nI (2 * p + bi s p) by rw [show (2 : Int32) = nI 2 from rfl, pk_mul, nI_add], if_pos (xI_ok (by omega) (by decide)), cl (by omega), hX 85 (by decide), hg _ (by omega), show (2 * p + bi s p) / 2 = p by omega, show (2 * p + bi s p) % 2 = bi s p by omega, ht]
  have loop : ∀ (n k u : Nat), k + n = 4 → n < u → ∃ W' L', g_Md_hasBy_13 u (nI p) (nI d) (nI s) (nI (bi s p)) (nI (oth s (bi s p) k)) (nI k) W L = some (shr (Fx F e) S d p s, W', L') ∧ sM V W' := by
    intro n
    induction n with
    | zero =>
      intro k u h1 h2
      obtain ⟨u, rfl⟩ : ∃ u', u = u' + 1 := ⟨u - 1, by omega⟩
      have : k = 4 := by omega
      subst this
      have hh := hasM (w := 5) (W := W) (e := e) h.2.2.2.1 (by decide) (hW 66 (by decide)) (fun r _ _ => hW r (by omega)) (by rw [hW 65 (by decide)]; exact h.2.2.2.2.2)
      show ∃ W' L', b_Md_hasBy_13 _ _ _ _ _ _ _ _ _ = _ ∧ _
      unfold b_Md_hasBy_13
      rw [if_pos (by decide), show f_Md_hasClause 5 W = _ from hh, Option.bind_some]
      have hb := eb_ET hd hp b4 o4 5
      rcases so01 (Fx F e 5) with c | ⟨c, c'⟩
      · have sX : sM V (x2 (x2 (x2 (x2 W 82 0 (nI d)) 82 1 (nI p)) 82 11 (nI (bi s p))) 82 12 (nI (oth s (bi s p) 4))) := fun r hr => by rw [x2_ne hr, x2_ne hr, x2_ne hr, x2_ne hr]; exact hW r hr
        obtain ⟨L1, s1⟩ := saysM (W := x2 (x2 (x2 (x2 W 82 0 (nI d)) 82 1 (nI p)) 82 11 (nI (bi s p))) 82 12 (nI (oth s (bi s p) 4))) (L := L) (e := e) h.2.2.2.1 (w := 5) (by decide) (sX 66 (by decide)) (fun r _ _ => sX r (by omega)) c (et_5 (d := d) (p := p) (mi := bi s p) (ot := oth s (bi s p) 4) (by simp [x2]) (by simp [x2]) (by simp [x2]) (by simp [x2])) hb
        refine ⟨_, L1, ?_, sX⟩
        rw [c, if_neg (by decide), show f_Md_says 5 _ L = _ from s1, Option.bind_some]
        show b_Md_hasBy_111 _ _ (f_Md_held (lI (vl (Fx F e 5) (ET d p (bi s p) (oth s (bi s p) 4)))) (-999) 999) _ L1 = _
        rw [n999.1, n999.2, held_m (rgX (e := e) h.2.2.2.1 (w := 5) (by decide) hb).1 (-999) 999 (by unfold mil; omega) (by unfold mil; omega) (by omega)]
        exact fin _ L1 _ sX rfl
      · refine ⟨W, L, ?_, hW⟩
        rw [c, if_pos (by decide)]
        exact fin W L 0 hW (by unfold tl; rw [c']; rfl)
    | succ n ih =>
      intro k u h1 h2
      obtain ⟨u, rfl⟩ : ∃ u', u = u' + 1 := ⟨u - 1, by omega⟩
      obtain ⟨c1, -, -, c4⟩ := bi4 s hs k (by omega)
      obtain ⟨W', L', g1, g2⟩ := ih (k + 1) u (by omega) (by omega)
      refine ⟨W', L', ?_, g2⟩
      rw [← g1]
      show b_Md_hasBy_13 _ _ _ _ _ _ _ _ _ = g_Md_hasBy_13 u _ _ _ _ (nI (oth s (bi s p) k + if bi s k = bi s p then 0 else 1)) _ _ _
      unfold b_Md_hasBy_13
      rw [if_neg (show ¬ (4 : Int32) ≤ nI k from nI_ge (b := 4) (by omega) (by decide)), c1, nI_1]
      by_cases z : k = p
      · rw [if_pos (by rw [z]), if_pos (by rw [z]), nI_a0]; rfl
      · rw [if_neg (fun y => z (nI_small (by omega) (by omega) y))]
        by_cases c : bi s k = bi s p
        · rw [if_pos (by rw [c]), if_pos c, nI_a0]; rfl
        · rw [if_neg (fun z => c (nI_small (by omega) (by omega) z)), if_neg c, nI_1]
  unfold f_Md_hasBy
  rw [b1]
  exact loop 4 0 2000 rfl (by decide)

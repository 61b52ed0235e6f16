/-! PURE: odds -/
def aK (G : Nat → Mn) (S : Nat → Nat) (p d s w t : Nat) : Nat → Nat → Nat
  | 0, _ => 1
  | n + 1, i => if S (170 + 3 * i) = p ∧ ¬ aD G S i d t w = aD G S i d s w then 0 else aK G S p d s w t n (i + 1)
theorem aK_2 (G : Nat → Mn) (S : Nat → Nat) (p d s w t : Nat) : ∀ n i, aK G S p d s w t n i < 2
  | 0, _ => by show 1 < 2; decide
  | n + 1, i => by
    show (if _ then 0 else aK G S p d s w t n (i + 1)) < 2
    split
    · decide
    · exact aK_2 G S p d s w t n (i + 1)
theorem alik_c {V : xV} {S : Nat → Nat} {q e m : Nat} {F : Nat → Mn} (h : ST V S q F e m) {d p w t : Nat} (hd : d < 30) (hp : p < 4) (hw : w < 2) (ht : t < 10) : ∀ (n i u : Nat) (W : xV), i + n = S 0 → n < u → SAT V W (Fx F e) S d p (S (10 + d)) w t → ∃ W', g_Court_allDoAlike_12 u (nI i) W = some (nI (aK (Fx F e) S p d (S (10 + d)) w t n i), W') ∧ SAT V W' (Fx F e) S d p (S (10 + d)) w t
  | 0, i, u + 1, W, h1, h2, hS => by
    have h12 := h.1.1.1
    refine ⟨W, ?_, hS⟩
    show b_Court_allDoAlike_12 _ _ _ = _
    unfold b_Court_allDoAlike_12
    rw [hS.1.1 1 (by decide) (by decide) (by decide) (by decide), h.2.1.1.1, if_pos (nI_le (by omega) (by omega))]; rfl
  | n + 1, i, u + 1, W, h1, h2, hS => by
    have h12 := h.1.1.1
    have hs := h.1.2.2.1 d hd
    have hi := (h.1.2.1 i (by omega)).1
    have e2 : W 2 i = nI (S (170 + 3 * i)) := by rw [hS.1.1 2 (by decide) (by decide) (by decide) (by decide)]; exact (h.2.1.2.1 i (by omega)).1
    have st : aK (Fx F e) S p d (S (10 + d)) w t (n + 1) i = if S (170 + 3 * i) = p ∧ ¬ aD (Fx F e) S i d t w = aD (Fx F e) S i d (S (10 + d)) w then 0 else aK (Fx F e) S p d (S (10 + d)) w t n (i + 1) := rfl
    have hp7 := hS.2.1.1
    by_cases c : S (170 + 3 * i) = p
    · have nm := nm_c (W1 := x2 (x2 (x2 W 54 6 (W 3 i)) 54 7 (W 4 i)) 54 8 (W 55 i)) h.2.1.2.1 hS.1 hS.2.1 hS.2.2.1 (show i < 12 by omega) c rfl
      have s1 : SAT V (x2 (x2 (x2 W 54 6 (W 3 i)) 54 7 (W 4 i)) 54 8 (W 55 i)) (Fx F e) S d p (S (10 + d)) w t := hS.fr (fun r r1 r2 => by rw [x2_ne r2, x2_ne r2, x2_ne r2]) (fun k hk => by rw [x2_off (by omega), x2_off (by omega), x2_off (by omega)])
      obtain ⟨W2, g1, g2⟩ := comesW (w := 1) h s1.1 (by decide) (nm_1 nm 0 0 0) (eb_EN h.1.2.1 (show i < 12 by omega) hd ht hw mil0 mil0 mil0 1)
      have s2 : SAT V W2 (Fx F e) S d p (S (10 + d)) w t := s1.fr (fun r r1 _ => g2 r r1) (fun k _ => by rw [g2 54 (by decide)])
      have g1 : f_Court_comesTo 1 (x2 (x2 (x2 W 54 6 (W 3 i)) 54 7 (W 4 i)) 54 8 (W 55 i)) = some (iI (aD (Fx F e) S i d t w), W2) := g1
      have ac : W2 55 i = iI (aD (Fx F e) S i d (S (10 + d)) w) := s2.2.2.2.2.2 i (by omega) c
      have hh : g_Court_allDoAlike_12 (u + 1) (nI i) W = (if iI (aD (Fx F e) S i d t w) = iI (aD (Fx F e) S i d (S (10 + d)) w) then g_Court_allDoAlike_12 u (nI (i + 1)) W2 else some (0, W2)) := by
        show b_Court_allDoAlike_12 _ _ _ = _
        unfold b_Court_allDoAlike_12
        rw [hS.1.1 1 (by decide) (by decide) (by decide) (by decide), h.2.1.1.1, if_neg (nI_ge (by omega) (by omega)), if_neg (show ¬ (12 : Int32) ≤ nI i from nI_ge (b := 12) (by omega) (by decide)), if_pos (xI_ok (show i < 12 by omega) (by decide)), cl (by omega), e2, hp7, if_neg (fun z => z (by rw [c])), call_c (by omega), Option.bind_some, g1, Option.bind_some, if_pos (xI_ok (show i < 12 by omega) (by decide)), nI_1]
        show (if _ = W2 55 i then _ else _) = _
        rw [ac]
      have b1 := bit_mil (aD_bit (e := e) h (f := i) (s := t) (by omega) hd ht hw)
      have b2 := bit_mil (aD_bit (e := e) h (f := i) (by omega) hd hs hw)
      rw [hh, st]
      by_cases c2 : aD (Fx F e) S i d t w = aD (Fx F e) S i d (S (10 + d)) w
      · obtain ⟨W3, k1, k2⟩ := alik_c h hd hp hw ht n (i + 1) u W2 (by omega) (by omega) s2
        exact ⟨W3, by rw [if_pos (by rw [c2]), if_neg (fun z => z.2 c2)]; exact k1, k2⟩
      · exact ⟨W2, by rw [if_neg (fun z => c2 ((iI_eq b1 b2).mp z)), if_pos ⟨c, c2⟩]; rfl, s2⟩
    · obtain ⟨W3, k1, k2⟩ := alik_c h hd hp hw ht n (i + 1) u W (by omega) (by omega) hS
      refine ⟨W3, ?_, k2⟩
      rw [st, if_neg (fun z => c z.1), ← k1]
      show b_Court_allDoAlike_12 _ _ _ = _
      unfold b_Court_allDoAlike_12
      rw [hS.1.1 1 (by decide) (by decide) (by decide) (by decide), h.2.1.1.1, if_neg (nI_ge (by omega) (by omega)), if_neg (show ¬ (12 : Int32) ≤ nI i from nI_ge (b := 12) (by omega) (by decide)), if_pos (xI_ok (show i < 12 by omega) (by decide)), cl (by omega), e2, hp7, if_pos (fun z => c (nI_small (by omega) (by omega) z)), nI_1]
theorem allK_c {V W : xV} {S : Nat → Nat} {q e m : Nat} {F : Nat → Mn} (h : ST V S q F e m) {d p w t t0 : Nat} (hd : d < 30) (hp : p < 4) (hw : w < 2) (ht : t < 10) (hS : SAT V W (Fx F e) S d p (S (10 + d)) w t0) : ∃ W', f_Court_allDoAlike (nI t) W = some (nI (aK (Fx F e) S p d (S (10 + d)) w t (S 0) 0), W') ∧ SAT V W' (Fx F e) S d p (S (10 + d)) w t := by
  have h12 := h.1.1.1
  obtain ⟨a1, a2, a3, a4, a5, a6⟩ := hS
  have s1 : SAT V (x2 W 54 4 (nI t)) (Fx F e) S d p (S (10 + d)) w t := by
    obtain ⟨b1, b2, b3, b4, b5, b6⟩ := a2
    exact ⟨⟨fun r r1 r2 r3 r4 => by rw [x2_ne r3]; exact a1.1 r r1 r2 r3 r4, by rw [x2_ne (by decide)]; exact a1.2⟩, ⟨by rw [x2_ne (by decide)]; exact b1, by rw [x2_ne (by decide)]; exact b2, by rw [x2_ne (by decide)]; exact b3, by rw [x2_off (by omega)]; exact b4, by rw [x2_off (by omega)]; exact b5, by rw [x2_off (by omega)]; exact b6⟩, x2_at _ _ _ _, by rw [x2_ne (by decide)]; exact a4, by rw [x2_off (by omega)]; exact a5, fun f hf hq => by rw [x2_ne (by decide)]; exact a6 f hf hq⟩
  obtain ⟨W', k1, k2⟩ := alik_c h hd hp hw ht (S 0) 0 2000 _ (by omega) (by omega) s1
  refine ⟨W', ?_, k2⟩
  unfold f_Court_allDoAlike
  rw [tel 4 (by decide) 13 rfl, Option.bind_some]; exact k1
theorem alik_m {V : xV} {S : Nat → Nat} {q e m : Nat} {F : Nat → Mn} (h : ST V S q F m e) {d p w t : Nat} (hd : d < 30) (hp : p < 4) (hw : w < 2) (ht : t < 10) : ∀ (n i u : Nat) (W : xV) (L : xL), i + n = S 0 → n + 1 < u → sM V W → ∃ W1 L1, g_Md_isAlike_14 u (nI d) (nI p) (nI t) (nI w) 1 (nI i) W L = some (nI (aK (Fx F e) S p d (S (10 + d)) w t n i), W1, L1) ∧ sM V W1
  | 0, i, u + 1, W, L, h1, h2, hW => by
    have h12 := h.1.1.1
    refine ⟨W, L, ?_, hW⟩
    show b_Md_isAlike_14 _ _ _ _ _ _ _ _ _ = _
    unfold b_Md_isAlike_14
    rw [hW 66 (by decide), h.2.2.1.2 0 (by decide) (by decide), if_pos (nI_le (by omega) (by omega)), if_pos (by decide)]; rfl
  | n + 1, i, u + 1, W, L, h1, h2, hW => by
    have h12 := h.1.1.1
    have hs := h.1.2.2.1 d hd
    have hi := (h.1.2.1 i (by omega)).1
    have h66 := h.2.2.1.fr (hW 66 (by decide))
    have st : aK (Fx F e) S p d (S (10 + d)) w t (n + 1) i = if S (170 + 3 * i) = p ∧ ¬ aD (Fx F e) S i d t w = aD (Fx F e) S i d (S (10 + d)) w then 0 else aK (Fx F e) S p d (S (10 + d)) w t n (i + 1) := rfl
    by_cases c : S (170 + 3 * i) = p
    · obtain ⟨W1, L1, a1, a2, -⟩ := does_m h hW L (f := i) (by omega) hd hs hw
      obtain ⟨W2, L2, b1, b2, -⟩ := does_m h a2 L1 (f := i) (s := t) (by omega) hd ht hw
      have m1 := bit_mil (aD_bit (e := e) h (f := i) (s := t) (by omega) hd ht hw)
      have m2 := bit_mil (aD_bit (e := e) h (f := i) (by omega) hd hs hw)
      have hh : g_Md_isAlike_14 (u + 1) (nI d) (nI p) (nI t) (nI w) 1 (nI i) W L = (if ¬ iI (aD (Fx F e) S i d (S (10 + d)) w) = iI (aD (Fx F e) S i d t w) then g_Md_isAlike_14 u (nI d) (nI p) (nI t) (nI w) 0 (nI (i + 1)) W2 L2 else g_Md_isAlike_14 u (nI d) (nI p) (nI t) (nI w) 1 (nI (i + 1)) W2 L2) := by
        show b_Md_isAlike_14 _ _ _ _ _ _ _ _ _ = _
        unfold b_Md_isAlike_14
        rw [hW 66 (by decide), h.2.2.1.2 0 (by decide) (by decide), if_neg (nI_ge (by omega) (by omega)), if_neg (by decide), prov_m h66 (by omega), Option.bind_some, if_neg (fun z => z (by rw [c])), show (10 : Int32) + nI d = nI (10 + d) from nI_add 10 d, if_pos (xI_ok (by omega) (by decide)), cl (by omega), h.2.2.1.2 _ (by omega) (by omega), a1, Option.bind_some]
        show Option.bind (f_Md_does _ _ _ _ W1 L1) _ = _
        rw [b1, Option.bind_some, nI_1]
      rw [hh, st]
      by_cases c2 : aD (Fx F e) S i d t w = aD (Fx F e) S i d (S (10 + d)) w
      · obtain ⟨W3, L3, k1, k2⟩ := alik_m h hd hp hw ht n (i + 1) u W2 L2 (by omega) (by omega) b2
        exact ⟨W3, L3, by rw [if_neg (fun z => z (by rw [c2])), if_neg (fun z => z.2 c2)]; exact k1, k2⟩
      · refine ⟨W2, L2, ?_, b2⟩
        rw [if_pos (fun z => c2 ((iI_eq m2 m1).mp z).symm), if_pos ⟨c, c2⟩]
        obtain ⟨u', rfl⟩ : ∃ u', u = u' + 1 := ⟨u - 1, by omega⟩
        show b_Md_isAlike_14 _ _ _ _ _ _ _ _ _ = _
        unfold b_Md_isAlike_14
        rw [if_pos (show (0 : Int32) = 0 from rfl), if_pos (show (0 : Int32) = 0 ∨ (0 : Int32) = 1 from Or.inl rfl)]
        split <;> rfl
    · obtain ⟨W3, L3, k1, k2⟩ := alik_m h hd hp hw ht n (i + 1) u W L (by omega) (by omega) hW
      refine ⟨W3, L3, ?_, k2⟩
      rw [st, if_neg (fun z => c z.1), ← k1]
      show b_Md_isAlike_14 _ _ _ _ _ _ _ _ _ = _
      unfold b_Md_isAlike_14
      rw [hW 66 (by decide), h.2.2.1.2 0 (by decide) (by decide), if_neg (nI_ge (by omega) (by omega)), if_neg (by decide), prov_m h66 (by omega), Option.bind_some, if_pos (fun z => c (nI_small (by omega) (by omega) z)), nI_1]
theorem allK_m {V W : xV} {L : xL} {S : Nat → Nat} {q e m : Nat} {F : Nat → Mn} (h : ST V S q F m e) (hW : sM V W) {d p t : Nat} (hd : d < 30) (hp : p < 4) (ht : t < 10) : ∃ W1 L1, f_Md_isAlike (nI d) (nI p) (nI t) W L = some (nI (aK (Fx F e) S p d (S (10 + d)) (dS S d p) t (S 0) 0), W1, L1) ∧ sM V W1 := by
  have h12 := h.1.1.1
  obtain ⟨W1, L1, a1, a2⟩ := alik_m h hd hp (dS_lt h.1.2.2.2.1 hd hp) ht (S 0) 0 2000 W L (by omega) (by omega) hW
  refine ⟨W1, L1, ?_, a2⟩
  unfold f_Md_isAlike
  rw [dec_m (h.2.2.1.fr (hW 66 (by decide))) hd hp, Option.bind_some]; exact a1
theorem gcd_st (x y : Nat) : Nat.gcd y (x % y) = Nat.gcd x y := by rw [Nat.gcd_comm x y, Nat.gcd_rec y x, Nat.gcd_comm]
theorem com_c : ∀ (y x t u : Nat), y < 100 → x < 100 → y + t < 100 → y < u → g_Ww_commonOf_7 u (nI x) (nI y) (nI t) = some (nI (Nat.gcd x y)) := by
  intro y
  induction y using Nat.strongRecOn with
  | ind y ih =>
    intro x t u h1 h2 h3 h4
    obtain ⟨u, rfl⟩ : ∃ u', u = u' + 1 := ⟨u - 1, by omega⟩
    show b_Ww_commonOf_7 _ _ _ _ = _
    unfold b_Ww_commonOf_7
    rw [if_neg (show ¬ (100 : Int32) ≤ nI t from nI_ge (b := 100) (by omega) (by decide))]
    by_cases c : y = 0
    · subst c
      rw [if_pos (by decide), Nat.gcd_zero_right]
    · have hm := Nat.mod_lt x (show y > 0 by omega)
      rw [if_neg (nI_ne0 (by omega) (by omega)), if_pos (nI_ne0 (by omega) (by omega)), xrem_nI (by omega) (by omega) (by omega), nI_1, ih (x % y) hm y (t + 1) u (by omega) h1 (by omega) (by omega), gcd_st]
theorem com_m (a b c : Int32) (V : xV) (L : xL) : ∀ (y x u : Nat), y < 100 → x < 100 → y < u → ∃ r, g_Md_odds_115 u a b c (nI x) (nI y) V L = r ∧ r = (if ¬ a = 0 then (if ¬ nI (Nat.gcd x y) = 0 then some (b / nI (Nat.gcd x y), V, L) else none) else (if ¬ nI (Nat.gcd x y) = 0 then some (c / nI (Nat.gcd x y), V, L) else none)) := by
  intro y
  induction y using Nat.strongRecOn with
  | ind y ih =>
    intro x u h1 h2 h4
    obtain ⟨u, rfl⟩ : ∃ u', u = u' + 1 := ⟨u - 1, by omega⟩
    refine ⟨_, rfl, ?_⟩
    show b_Md_odds_115 _ _ _ _ _ _ _ _ = _
    unfold b_Md_odds_115
    by_cases c : y = 0
    · subst c
      rw [if_pos (by decide), Nat.gcd_zero_right]
    · have hm := Nat.mod_lt x (show y > 0 by omega)
      obtain ⟨r, e1, e2⟩ := ih (x % y) hm y u (by omega) h1 (by omega)
      rw [if_neg (nI_ne0 (by omega) (by omega)), if_pos (nI_ne0 (by omega) (by omega)), xrem_nI (by omega) (by omega) (by omega), e1, e2, gcd_st]
def oW (al : Nat → Nat) (S : Nat → Nat) : Nat → Nat
  | 0 => 0
  | s + 1 => oW al S s + if al s = 0 then 0 else if s < 5 then 0 else S (160 + s)
def oAl (al : Nat → Nat) (S : Nat → Nat) : Nat → Nat
  | 0 => 0
  | s + 1 => oAl al S s + if al s = 0 then 0 else S (160 + s)
theorem o_le {al S : Nat → Nat} (hr : rC S) : ∀ s, s ≤ 10 → oW al S s ≤ 9 * s ∧ oAl al S s ≤ 9 * s
  | 0, _ => ⟨Nat.le_refl _, Nat.le_refl _⟩
  | s + 1, hs => by
    obtain ⟨h1, h2⟩ := o_le (al := al) hr s (by omega)
    have h3 := hr s (by omega)
    constructor
    · show oW al S s + _ ≤ _
      split
      · omega
      · split <;> omega
    · show oAl al S s + _ ≤ _
      split <;> omega
def oR (a : Int32) (w l : Nat) : Int32 := if l = 0 then -1 else if ¬ a = 0 then nI l / nI (Nat.gcd l w) else nI w / nI (Nat.gcd l w)
theorem odds_c {V : xV} {S : Nat → Nat} {q e m : Nat} {F : Nat → Mn} (h : ST V S q F e m) {d p w : Nat} (hd : d < 30) (hp : p < 4) (hw : w < 2) (a : Int32) : ∀ (n s u t0 : Nat) (W : xV), s + n = 10 → n < u → SAT V W (Fx F e) S d p (S (10 + d)) w t0 → ∃ W', g_Ww_odds_45 u a (nI (oW (fun t => aK (Fx F e) S p d (S (10 + d)) w t (S 0) 0) S s)) (nI (oAl (fun t => aK (Fx F e) S p d (S (10 + d)) w t (S 0) 0) S s)) (nI s) W = some (oR a (oW (fun t => aK (Fx F e) S p d (S (10 + d)) w t (S 0) 0) S 10) (oAl (fun t => aK (Fx F e) S p d (S (10 + d)) w t (S 0) 0) S 10), W') ∧ fC V W'
  | 0, s, u + 1, t0, W, h1, h2, hS => by
    have : s = 10 := by omega
    subst this
    refine ⟨W, ?_, hS.1⟩
    obtain ⟨l1, l2⟩ := o_le (al := fun t => aK (Fx F e) S p d (S (10 + d)) w t (S 0) 0) h.1.2.2.2.2.1 10 (by decide)
    show b_Ww_odds_45 _ _ _ _ _ _ = _
    unfold b_Ww_odds_45 oR
    generalize oW (fun t => aK (Fx F e) S p d (S (10 + d)) w t (S 0) 0) S 10 = x at *
    generalize oAl (fun t => aK (Fx F e) S p d (S (10 + d)) w t (S 0) 0) S 10 = y at *
    rw [if_pos (by decide)]
    by_cases c : y = 0
    · rw [if_neg (fun z => z (by rw [c]; rfl)), if_pos c]
    · have gp : 0 < Nat.gcd y x := Nat.gcd_pos_of_pos_left _ (by omega)
      have gl : Nat.gcd y x ≤ y := Nat.gcd_le_left _ (by omega)
      have mx : xmax 1 (nI (Nat.gcd y x)) = nI (Nat.gcd y x) := by
        unfold xmax
        by_cases z : (1 : Int32) < nI (Nat.gcd y x)
        · rw [if_pos z]
        · rw [if_neg z]
          have : ¬ 1 < Nat.gcd y x := fun v => z (nI_lt (a := 1) v (by omega))
          rw [show Nat.gcd y x = 1 by omega]; rfl
      unfold f_Ww_commonOf
      rw [if_pos (nI_ne0 (by omega) (by omega)), show g_Ww_commonOf_7 2000 (nI y) (nI x) 0 = _ from com_c x y 0 2000 (by omega) (by omega) (by omega) (by omega), Option.bind_some, mx, if_pos (nI_ne0 gp (by omega)), if_pos (nI_ne0 gp (by omega)), if_neg c]
      split <;> rfl
  | n + 1, s, u + 1, t0, W, h1, h2, hS => by
    obtain ⟨W1, a1, a2⟩ := allK_c h hd hp hw (show s < 10 by omega) hS
    obtain ⟨W2, b1, b2⟩ := odds_c h hd hp hw a n (s + 1) u s W1 (by omega) (by omega) a2
    have sw : oW (fun t => aK (Fx F e) S p d (S (10 + d)) w t (S 0) 0) S (s + 1) = oW (fun t => aK (Fx F e) S p d (S (10 + d)) w t (S 0) 0) S s + if aK (Fx F e) S p d (S (10 + d)) w s (S 0) 0 = 0 then 0 else if s < 5 then 0 else S (160 + s) := rfl
    have sa : oAl (fun t => aK (Fx F e) S p d (S (10 + d)) w t (S 0) 0) S (s + 1) = oAl (fun t => aK (Fx F e) S p d (S (10 + d)) w t (S 0) 0) S s + if aK (Fx F e) S p d (S (10 + d)) w s (S 0) 0 = 0 then 0 else S (160 + s) := rfl
    have e7 : W1 7 s = nI (S (160 + s)) := by rw [a2.1.1 7 (by decide) (by decide) (by decide) (by decide)]; exact h.2.1.2.2.2.2.1 s (by omega)
    have k2 := aK_2 (Fx F e) S p d (S (10 + d)) w s (S 0) 0
    refine ⟨W2, ?_, b2⟩
    rw [← b1, sw, sa]
    show b_Ww_odds_45 _ _ _ _ _ _ = _
    unfold b_Ww_odds_45
    rw [if_neg (show ¬ (10 : Int32) ≤ nI s from nI_ge (b := 10) (by omega) (by decide)), a1, Option.bind_some, nI_1]
    show (if nI (aK (Fx F e) S p d (S (10 + d)) w s (S 0) 0) = 0 then _ else _) = _
    by_cases c : aK (Fx F e) S p d (S (10 + d)) w s (S 0) 0 = 0
    · rw [if_pos (show nI (aK (Fx F e) S p d (S (10 + d)) w s (S 0) 0) = 0 by rw [c]; rfl), if_pos c, if_pos c]; rfl
    · rw [if_neg (nI_ne0 (by omega) (by omega)), if_neg c, if_neg c, if_pos (xI_ok (show s < 10 by omega) (by decide)), cl (by omega)]
      show (if nI s < 5 then g_Ww_odds_45 u a _ (_ + W1 7 s) _ W1 else (if xI (nI s) 10 = true then g_Ww_odds_45 u a (_ + W1 7 s) (_ + W1 7 s) _ W1 else none)) = _
      rw [e7, nI_add, nI_add, nI_a0]
      by_cases c5 : s < 5
      · rw [if_pos (show nI s < 5 from nI_lt (b := 5) c5 (by decide)), if_pos c5]; rfl
      · rw [if_neg (show ¬ nI s < 5 from nI_nlt (b := 5) (by omega) (by omega)), if_neg c5, if_pos (xI_ok (show s < 10 by omega) (by decide))]
theorem odds_m {V : xV} {S : Nat → Nat} {q e m : Nat} {F : Nat → Mn} (h : ST V S q F m e) {d p : Nat} (hd : d < 30) (hp : p < 4) (a : Int32) : ∀ (n s u : Nat) (W : xV) (L : xL), s + n = 10 → n < u → sM V W → ∃ W' L', g_Md_odds_34 u (nI d) (nI p) a (nI (oAl (fun t => aK (Fx F e) S p d (S (10 + d)) (dS S d p) t (S 0) 0) S s)) (nI (oW (fun t => aK (Fx F e) S p d (S (10 + d)) (dS S d p) t (S 0) 0) S s)) (nI s) W L = some (oR a (oW (fun t => aK (Fx F e) S p d (S (10 + d)) (dS S d p) t (S 0) 0) S 10) (oAl (fun t => aK (Fx F e) S p d (S (10 + d)) (dS S d p) t (S 0) 0) S 10), W', L') ∧ sM V W'
  | 0, s, u + 1, W, L, h1, h2, hW => by
    have : s = 10 := by omega
    subst this
    refine ⟨W, L, ?_, hW⟩
    obtain ⟨l1, l2⟩ := o_le (al := fun t => aK (Fx F e) S p d (S (10 + d)) (dS S d p) t (S 0) 0) h.1.2.2.2.2.1 10 (by decide)
    show b_Md_odds_34 _ _ _ _ _ _ _ _ _ = _
    unfold b_Md_odds_34 oR
    generalize oW (fun t => aK (Fx F e) S p d (S (10 + d)) (dS S d p) t (S 0) 0) S 10 = x at *
    generalize oAl (fun t => aK (Fx F e) S p d (S (10 + d)) (dS S d p) t (S 0) 0) S 10 = y at *
    rw [if_pos (by decide)]
    by_cases c : y = 0
    · rw [if_neg (fun z => z (by rw [c]; rfl)), if_pos c]
    · have gp : 0 < Nat.gcd y x := Nat.gcd_pos_of_pos_left _ (by omega)
      have gl : Nat.gcd y x ≤ y := Nat.gcd_le_left _ (by omega)
      obtain ⟨r, e1, e2⟩ := com_m a (nI y) (nI x) W L x y 2000 (by omega) (by omega) (by omega)
      rw [if_pos (nI_ne0 (by omega) (by omega)), e1, e2, if_pos (nI_ne0 gp (by omega)), if_pos (nI_ne0 gp (by omega)), if_neg c]
      split <;> rfl
  | n + 1, s, u + 1, W, L, h1, h2, hW => by
    obtain ⟨W1, L1, a1, a2⟩ := allK_m (L := L) h hW hd hp (show s < 10 by omega)
    obtain ⟨W2, L2, b1, b2⟩ := odds_m h hd hp a n (s + 1) u W1 L1 (by omega) (by omega) a2
    have sw : oW (fun t => aK (Fx F e) S p d (S (10 + d)) (dS S d p) t (S 0) 0) S (s + 1) = oW (fun t => aK (Fx F e) S p d (S (10 + d)) (dS S d p) t (S 0) 0) S s + if aK (Fx F e) S p d (S (10 + d)) (dS S d p) s (S 0) 0 = 0 then 0 else if s < 5 then 0 else S (160 + s) := rfl
    have sa : oAl (fun t => aK (Fx F e) S p d (S (10 + d)) (dS S d p) t (S 0) 0) S (s + 1) = oAl (fun t => aK (Fx F e) S p d (S (10 + d)) (dS S d p) t (S 0) 0) S s + if aK (Fx F e) S p d (S (10 + d)) (dS S d p) s (S 0) 0 = 0 then 0 else S (160 + s) := rfl
    have e7 : W1 66 (160 + s) = nI (S (160 + s)) := by rw [a2 66 (by decide)]; exact h.2.2.1.2 _ (by omega) (by omega)
    have k2 := aK_2 (Fx F e) S p d (S (10 + d)) (dS S d p) s (S 0) 0
    refine ⟨W2, L2, ?_, b2⟩
    rw [← b1, sw, sa]
    show b_Md_odds_34 _ _ _ _ _ _ _ _ _ = _
    unfold b_Md_odds_34
    rw [if_neg (show ¬ (10 : Int32) ≤ nI s from nI_ge (b := 10) (by omega) (by decide)), a1, Option.bind_some, nI_1]
    show (if nI (aK (Fx F e) S p d (S (10 + d)) (dS S d p) s (S 0) 0) = 0 then _ else _) = _
    by_cases c : aK (Fx F e) S p d (S (10 + d)) (dS S d p) s (S 0) 0 = 0
    · rw [if_pos (show nI (aK (Fx F e) S p d (S (10 + d)) (dS S d p) s (S 0) 0) = 0 by rw [c]; rfl), if_pos c, if_pos c]; rfl
    · rw [if_neg (nI_ne0 (by omega) (by omega)), if_neg c, if_neg c, show (160 : Int32) + nI s = nI (160 + s) from nI_add 160 s, if_pos (xI_ok (show 160 + s < 270 by omega) (by decide)), cl (by omega)]
      show (if nI s < 5 then g_Md_odds_34 u _ _ a (_ + W1 66 (160 + s)) _ _ W1 L1 else (if xI (nI (160 + s)) 270 = true then g_Md_odds_34 u _ _ a (_ + W1 66 (160 + s)) (_ + W1 66 (160 + s)) _ W1 L1 else none)) = _
      rw [e7, nI_add, nI_add, nI_a0]
      by_cases c5 : s < 5
      · rw [if_pos (show nI s < 5 from nI_lt (b := 5) c5 (by decide)), if_pos c5]; rfl
      · rw [if_neg (show ¬ nI s < 5 from nI_nlt (b := 5) (by omega) (by omega)), if_neg c5, if_pos (xI_ok (show 160 + s < 270 by omega) (by decide))]
theorem op_odds : P_odds (Inv LW) := by
  intro a b c V L hI
  obtain ⟨S, q, F, h, -⟩ := hI.st
  rcases wi a 30 29 30 (by decide) rfl (by decide) with ⟨h1, h2⟩ | ⟨d, hd, rfl, h1, h2⟩
  · refine ⟨-1, V, V, L, ?_, ?_, hI⟩
    · unfold f_Ww_odds; rw [h1]; rfl
    · unfold f_Md_odds f_Md_isDay; rw [h2]; rfl
  rcases wi b 4 3 4 (by decide) rfl (by decide) with ⟨g1, g2⟩ | ⟨p, hp, rfl, g1, g2⟩
  · refine ⟨-1, V, V, L, ?_, ?_, hI⟩
    · unfold f_Ww_odds; rw [h1, g1]; rfl
    · unfold f_Md_odds f_Md_isDay f_Md_isProvince; rw [h2, g2]; rfl
  rcases wi c 2 1 2 (by decide) rfl (by decide) with ⟨k1, k2⟩ | ⟨j, hj, rfl, k1, k2⟩
  · refine ⟨-1, V, V, L, ?_, ?_, hI⟩
    · unfold f_Ww_odds; rw [h1, g1, k1]; rfl
    · unfold f_Md_odds f_Md_isDay f_Md_isProvince; rw [h2, g2, k2]; rfl
  obtain ⟨W1, e1, e2⟩ := asIs_c h (fC.rf V) hd hp
  obtain ⟨W2, m1, m2⟩ := odds_c h hd hp (dS_lt h.1.2.2.2.1 hd hp) (nI j) 10 0 2000 _ W1 rfl (by decide) e2
  obtain ⟨W3, L3, n1, n2⟩ := odds_m (h.fC m2) hd hp (nI j) 10 0 2000 W2 L rfl (by decide) (fun _ _ => rfl)
  refine ⟨oR (nI j) (oW (fun t => aK (Fx F 6) S p d (S (10 + d)) (dS S d p) t (S 0) 0) S 10) (oAl (fun t => aK (Fx F 6) S p d (S (10 + d)) (dS S d p) t (S 0) 0) S 10), W2, W3, L3, ?_, ?_, hI.ev m2 n2⟩
  · unfold f_Ww_odds
    rw [h1, g1, k1, if_neg (by decide), if_neg (by decide), if_pos (by decide), e1, Option.bind_some]; exact m1
  · unfold f_Md_odds f_Md_isDay f_Md_isProvince
    rw [h2, g2, k2, if_neg (by decide), if_neg (by decide), if_pos (by decide)]; exact n1

/-! PURE: sums -/
def sd (h : Nat → Int) : Nat → Nat → Int
  | 0, _ => 0
  | n + 1, d => h d + sd h n (d + 1)
theorem sd_add (a b : Nat → Int) : ∀ n d, sd (fun i => a i + b i) n d = sd a n d + sd b n d
  | 0, _ => rfl
  | n + 1, d => by
    show a d + b d + sd _ n (d + 1) = (a d + sd a n (d + 1)) + (b d + sd b n (d + 1))
    rw [sd_add a b n (d + 1)]; omega
theorem sd_z : ∀ n d, sd (fun _ => 0) n d = 0
  | 0, _ => rfl
  | n + 1, d => by show 0 + sd _ n (d + 1) = 0; rw [sd_z n (d + 1)]; rfl
theorem sd_congr {a b : Nat → Int} : ∀ n d, (∀ i, d ≤ i → i < d + n → a i = b i) → sd a n d = sd b n d
  | 0, _, _ => rfl
  | n + 1, d, h => by
    show a d + sd a n (d + 1) = b d + sd b n (d + 1)
    rw [h d (by omega) (by omega), sd_congr n (d + 1) (fun i h1 h2 => h i (by omega) (by omega))]
theorem sd_comm (h : Nat → Nat → Int) (m e : Nat) : ∀ n d, sd (fun i => sd (h i) m e) n d = sd (fun j => sd (fun i => h i j) n d) m e
  | 0, d => by show 0 = sd (fun _ => 0) m e; rw [sd_z]
  | n + 1, d => by
    show sd (h d) m e + sd (fun i => sd (h i) m e) n (d + 1) = sd (fun j => h d j + sd (fun i => h i j) n (d + 1)) m e
    rw [sd_add, sd_comm h m e n (d + 1)]
theorem sd_one (X : Nat → Int) (k : Nat) : ∀ n d, d ≤ k → k < d + n → sd (fun f => if f = k then X f else 0) n d = X k
  | 0, d, h1, h2 => by omega
  | n + 1, d, h1, h2 => by
    show (if d = k then X d else 0) + sd _ n (d + 1) = _
    by_cases c : d = k
    · rw [if_pos c, sd_congr (b := fun _ => 0) n (d + 1) (fun i h3 h4 => if_neg (by omega)), sd_z, c, Int.add_zero]
    · rw [if_neg c, sd_one X k n (d + 1) (by omega) (by omega), Int.zero_add]
def gz (G : Nat → Mn) (S : Nat → Nat) (pp f d : Nat) : Int := aG G S f d (S (10 + d)) (dS S d (S (170 + 3 * f))) pp
theorem sumOf_m {V : xV} {S : Nat → Nat} {q e m : Nat} {F : Nat → Mn} (h : ST V S q F m e) {f to pp : Nat} (hf : f < 12) (hto : to < 30) (hpp : pp < 2) : ∀ (n d u : Nat) (acc : Int) (W : xV) (L : xL), d + n = to + 1 → n < u → sM V W → ∃ W1 L1, g_Md_sumOf_6 u (nI f) (nI to) (nI pp) (iI acc) (nI d) W L = some (iI (acc + sd (gz (Fx F e) S pp f) n d), W1, L1) ∧ sM V W1
  | 0, d, u + 1, acc, W, L, h1, h2, hW => by
    refine ⟨W, L, ?_, hW⟩
    show b_Md_sumOf_6 _ _ _ _ _ _ _ _ = _
    unfold b_Md_sumOf_6
    rw [if_pos (nI_lt (by omega) (by omega))]
    show _ = some (iI (acc + 0), _, _)
    rw [Int.add_zero]
  | n + 1, d, u + 1, acc, W, L, h1, h2, hW => by
    obtain ⟨W1, L1, e1, e2⟩ := asIs_m (L := L) h hW hf (show d < 30 by omega) hpp
    obtain ⟨W2, L2, g1, g2⟩ := sumOf_m h hf hto hpp n (d + 1) u (acc + gz (Fx F e) S pp f d) W1 L1 (by omega) (by omega) e2
    refine ⟨W2, L2, ?_, g2⟩
    show b_Md_sumOf_6 _ _ _ _ _ _ _ _ = some (iI (acc + (gz (Fx F e) S pp f d + sd (gz (Fx F e) S pp f) n (d + 1))), _, _)
    rw [← Int.add_assoc, ← g1]
    unfold b_Md_sumOf_6
    rw [if_neg (nI_nlt (by omega) (by omega)), e1, Option.bind_some, nI_1]
    show g_Md_sumOf_6 u _ _ _ (iI acc + iI (gz (Fx F e) S pp f d)) _ _ _ = _
    rw [iI_add]
theorem sumOf_f {V W : xV} {L : xL} {S : Nat → Nat} {q e m : Nat} {F : Nat → Mn} (h : ST V S q F m e) (hW : sM V W) {f x y pp : Nat} (hf : f < 12) (hxy : x ≤ y) (hy : y < 30) (hpp : pp < 2) : ∃ W1 L1, f_Md_sumOf (nI f) (nI x) (nI y) (nI pp) W L = some (iI (sd (gz (Fx F e) S pp f) (y + 1 - x) x), W1, L1) ∧ sM V W1 := by
  obtain ⟨W1, L1, e1, e2⟩ := sumOf_m h hf hy hpp (y + 1 - x) x 2000 0 W L (by omega) (by omega) hW
  rw [Int.zero_add] at e1
  exact ⟨W1, L1, e1, e2⟩
theorem sumAll_m {V : xV} {S : Nat → Nat} {q e m : Nat} {F : Nat → Mn} (h : ST V S q F m e) {x y pp : Nat} (hxy : x ≤ y) (hy : y < 30) (hpp : pp < 2) : ∀ (n i u : Nat) (acc : Int) (W : xV) (L : xL), i + n = S 0 → n < u → sM V W → ∃ W1 L1, g_Md_sumAll_6 u (nI x) (nI y) (nI pp) (iI acc) (nI i) W L = some (iI (acc + sd (fun f => sd (gz (Fx F e) S pp f) (y + 1 - x) x) n i), W1, L1) ∧ sM V W1
  | 0, i, u + 1, acc, W, L, h1, h2, hW => by
    have h12 := h.1.1.1
    refine ⟨W, L, ?_, hW⟩
    show b_Md_sumAll_6 _ _ _ _ _ _ _ _ = _
    unfold b_Md_sumAll_6
    rw [hW 66 (by decide), h.2.2.1.2 0 (by decide) (by decide), if_pos (nI_le (by omega) (by omega))]
    show _ = some (iI (acc + 0), _, _)
    rw [Int.add_zero]
  | n + 1, i, u + 1, acc, W, L, h1, h2, hW => by
    have h12 := h.1.1.1
    obtain ⟨W1, L1, e1, e2⟩ := sumOf_f (L := L) h hW (show i < 12 by omega) hxy hy hpp
    obtain ⟨W2, L2, g1, g2⟩ := sumAll_m h hxy hy hpp n (i + 1) u (acc + sd (gz (Fx F e) S pp i) (y + 1 - x) x) W1 L1 (by omega) (by omega) e2
    refine ⟨W2, L2, ?_, g2⟩
    show b_Md_sumAll_6 _ _ _ _ _ _ _ _ = some (iI (acc + (sd (gz (Fx F e) S pp i) (y + 1 - x) x + sd (fun f => sd (gz (Fx F e) S pp f) (y + 1 - x) x) n (i + 1))), _, _)
    rw [← Int.add_assoc, ← g1]
    unfold b_Md_sumAll_6
    rw [hW 66 (by decide), h.2.2.1.2 0 (by decide) (by decide), if_neg (nI_ge (by omega) (by omega)), e1, Option.bind_some, nI_1]
    show g_Md_sumAll_6 u _ _ _ (iI acc + iI (sd (gz (Fx F e) S pp i) (y + 1 - x) x)) _ _ _ = _
    rw [iI_add]
theorem sumAll_f {V W : xV} {L : xL} {S : Nat → Nat} {q e m : Nat} {F : Nat → Mn} (h : ST V S q F m e) (hW : sM V W) {x y pp : Nat} (hxy : x ≤ y) (hy : y < 30) (hpp : pp < 2) : ∃ W1 L1, f_Md_sumAll (nI x) (nI y) (nI pp) W L = some (iI (sd (fun f => sd (gz (Fx F e) S pp f) (y + 1 - x) x) (S 0) 0), W1, L1) ∧ sM V W1 := by
  have h12 := h.1.1.1
  obtain ⟨W1, L1, e1, e2⟩ := sumAll_m h hxy hy hpp (S 0) 0 2000 0 W L (by omega) (by omega) hW
  rw [Int.zero_add] at e1
  exact ⟨W1, L1, e1, e2⟩
/-! the class: its tally -/
def tB (V V' : xV) : Prop := ∀ r, r ≠ 56 → V' r = V r
theorem ST.tB {V V' : xV} {S : Nat → Nat} {q e m : Nat} {F : Nat → Mn} (h : ST V S q F e m) (hV : tB V V') : ST V' S q F e m := h.fr (fun r _ => hV r (by omega)) (hV 66 (by omega)) (fun r _ _ => hV r (by omega)) e m (by rw [hV 51 (by omega)]; exact h.2.2.2.2.1) (by rw [hV 65 (by omega)]; exact h.2.2.2.2.2)
theorem SAT.tot {V W : xV} {G : Nat → Mn} {S : Nat → Nat} {d p s w t : Nat} (h : SAT V W G S d p s w t) (k : Nat) (v : Int32) : SAT (x2 V 56 k v) (x2 W 56 k v) G S d p s w t := by
  obtain ⟨a1, a2, a3, a4, a5, a6⟩ := h
  refine ⟨⟨fun r r1 r2 r3 r4 => ?_, by rw [x2_ne (by decide), x2_ne (by decide)]; exact a1.2⟩, a2.fr (fun k _ => by rw [x2_ne (by decide)]) (fun k hk => by rw [x2_ne (by decide)]), by rw [x2_ne (by decide)]; exact a3, by rw [x2_ne (by decide)]; exact a4, by rw [x2_ne (by decide)]; exact a5, fun f hf hq => by rw [x2_ne (by decide)]; exact a6 f hf hq⟩
  by_cases c : r = 56
  · subst c
    funext j
    by_cases c2 : j = k
    · subst c2; rw [x2_at, x2_at]
    · rw [x2_off (by omega), x2_off (by omega), a1.1 56 (by decide) (by decide) (by decide) (by decide)]
  · rw [x2_ne c, x2_ne c]; exact a1.1 r r1 r2 r3 r4
def sel (o : Int32) (f : Nat) : Bool := decide (o = -1) || decide (o = nI f)
def gs (G : Nat → Mn) (S : Nat → Nat) (pp : Nat) (o : Int32) (p d f : Nat) : Int := if S (170 + 3 * f) = p ∧ sel o f = true then gz G S pp f d else 0
theorem add_g {S : Nat → Nat} {q e m : Nat} {F : Nat → Mn} {o : Int32} {d p pp : Nat} (hd : d < 30) (hp : p < 4) (hpp : pp < 2) : ∀ (n i u : Nat) (acc : Int) (V W : xV), i + n = S 0 → n < u → ST V S q F e m → SAT V W (Fx F e) S d p (S (10 + d)) (dS S d p) (S (10 + d)) → ∃ V' W', g_Court_addGains_5 u o (nI pp) (iI acc) (nI i) W = some (iI (acc + sd (gs (Fx F e) S pp o p d) n i), W') ∧ tB V V' ∧ SAT V' W' (Fx F e) S d p (S (10 + d)) (dS S d p) (S (10 + d)) ∧ ∀ f, V' 56 f = if i ≤ f ∧ f < S 0 then V 56 f + iI (gs (Fx F e) S pp o p d f) else V 56 f
  | 0, i, u + 1, acc, V, W, h1, h2, h, hS => by
    have h12 := h.1.1.1
    refine ⟨V, W, ?_, fun _ _ => rfl, hS, fun f => by rw [if_neg (by omega)]⟩
    show b_Court_addGains_5 _ _ _ _ _ _ = _
    unfold b_Court_addGains_5
    rw [hS.1.1 1 (by decide) (by decide) (by decide) (by decide), h.2.1.1.1, if_pos (nI_le (by omega) (by omega))]
    show _ = some (iI (acc + 0), _)
    rw [Int.add_zero]
  | n + 1, i, u + 1, acc, V, W, h1, h2, h, hS => by
    have h12 := h.1.1.1
    have hi := (h.1.2.1 i (by omega)).1
    have hw := dS_lt h.1.2.2.2.1 hd hp
    have e2 : W 2 i = nI (S (170 + 3 * i)) := by rw [hS.1.1 2 (by decide) (by decide) (by decide) (by decide)]; exact (h.2.1.2.1 i (by omega)).1
    have zz : ∀ X : Int, iI (X + 0) = iI X := fun X => by rw [Int.add_zero]
    by_cases c : S (170 + 3 * i) = p ∧ sel o i = true
    · have eg : gs (Fx F e) S pp o p d i = gz (Fx F e) S pp i d := by unfold gs; rw [if_pos c]
      obtain ⟨W1, k1, k2⟩ := gain_c (pp := pp) h hS hd hw hpp (show i < S 0 by omega) c.1
      have k1 : f_Court_gainOf (nI i) (nI pp) W = some (iI (gz (Fx F e) S pp i d), W1) := by rw [k1]; unfold gz; rw [c.1]
      have e56 : W1 56 = V 56 := k2.1.1 56 (by decide) (by decide) (by decide) (by decide)
      obtain ⟨V', W', m1, m2, m3, m4⟩ := add_g (o := o) hd hp hpp n (i + 1) u (acc + gz (Fx F e) S pp i d) (x2 V 56 i (V 56 i + iI (gz (Fx F e) S pp i d))) (x2 W1 56 i (V 56 i + iI (gz (Fx F e) S pp i d))) (by omega) (by omega) (h.tB (fun r hr => x2_ne hr)) (k2.tot i _)
      refine ⟨V', W', ?_, fun r hr => by rw [m2 r hr, x2_ne hr], m3, fun f => ?_⟩
      · show _ = some (iI (acc + (gs (Fx F e) S pp o p d i + sd (gs (Fx F e) S pp o p d) n (i + 1))), _)
        rw [eg, ← Int.add_assoc, ← m1]
        have fin : b_Court_addGains_52 (g_Court_addGains_5 u) o (nI pp) (iI acc) (nI i) W = g_Court_addGains_5 u o (nI pp) (iI (acc + gz (Fx F e) S pp i d)) (nI (i + 1)) (x2 W1 56 i (V 56 i + iI (gz (Fx F e) S pp i d))) := by
          unfold b_Court_addGains_52
          rw [k1, Option.bind_some, if_pos (xI_ok (show i < 12 by omega) (by decide)), if_pos (xI_ok (show i < 12 by omega) (by decide)), cl (by omega), nI_1]
          show g_Court_addGains_5 u o _ (iI acc + iI (gz (Fx F e) S pp i d)) _ (x2 W1 56 i (W1 56 i + iI (gz (Fx F e) S pp i d))) = _
          rw [e56, iI_add]
        show b_Court_addGains_5 _ _ _ _ _ _ = _
        unfold b_Court_addGains_5
        rw [hS.1.1 1 (by decide) (by decide) (by decide) (by decide), h.2.1.1.1, if_neg (nI_ge (by omega) (by omega)), if_neg (show ¬ (12 : Int32) ≤ nI i from nI_ge (b := 12) (by omega) (by decide)), if_pos (xI_ok (show i < 12 by omega) (by decide)), cl (by omega), e2, hS.2.1.1, if_neg (fun z => z (by rw [c.1])), fin]
        have cs := c.2
        unfold sel at cs
        rw [Bool.or_eq_true, decide_eq_true_iff, decide_eq_true_iff] at cs
        by_cases o1 : o = -1
        · rw [if_pos o1]
        · rw [if_neg o1, if_neg (fun z => z (cs.resolve_left o1))]
      · rw [m4 f]
        by_cases z : f = i
        · subst z
          rw [if_neg (by omega), x2_at, if_pos (by omega), eg]
        · by_cases z2 : i + 1 ≤ f ∧ f < S 0
          · rw [if_pos z2, if_pos (by omega), x2_off (by omega)]
          · rw [if_neg z2, if_neg (by omega), x2_off (by omega)]
    · have eg : gs (Fx F e) S pp o p d i = 0 := by unfold gs; rw [if_neg c]
      obtain ⟨V', W', m1, m2, m3, m4⟩ := add_g (o := o) hd hp hpp n (i + 1) u acc V W (by omega) (by omega) h hS
      refine ⟨V', W', ?_, m2, m3, fun f => ?_⟩
      · show _ = some (iI (acc + (gs (Fx F e) S pp o p d i + sd (gs (Fx F e) S pp o p d) n (i + 1))), _)
        rw [eg, Int.zero_add, ← m1]
        show b_Court_addGains_5 _ _ _ _ _ _ = _
        unfold b_Court_addGains_5
        rw [hS.1.1 1 (by decide) (by decide) (by decide) (by decide), h.2.1.1.1, if_neg (nI_ge (by omega) (by omega)), if_neg (show ¬ (12 : Int32) ≤ nI i from nI_ge (b := 12) (by omega) (by decide)), if_pos (xI_ok (show i < 12 by omega) (by decide)), cl (by omega), e2, hS.2.1.1, nI_1]
        by_cases c1 : S (170 + 3 * i) = p
        · have cs : ¬ sel o i = true := fun z => c ⟨c1, z⟩
          unfold sel at cs
          rw [Bool.or_eq_true, decide_eq_true_iff, decide_eq_true_iff] at cs
          rw [if_neg (fun z => z (by rw [c1])), if_neg (fun z => cs (Or.inl z)), if_pos (fun z => cs (Or.inr z))]
        · rw [if_pos (fun z => c1 (nI_small (by omega) (by omega) z))]
      · rw [m4 f]
        by_cases z : f = i
        · subst z
          rw [if_neg (by omega), if_pos (by omega), eg, show iI 0 = nI 0 from rfl]; exact (Int32.add_zero _).symm
        · by_cases z2 : i + 1 ≤ f ∧ f < S 0
          · rw [if_pos z2, if_pos (by omega)]
          · rw [if_neg z2, if_neg (by omega)]

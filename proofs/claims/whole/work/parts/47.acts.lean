/-! PURE: what folk do and gain: the meaning, and the model -/
def EN (S : Nat → Nat) (f d s w : Nat) (ac wt ht : Int) (k : Nat) : Int := if k = 0 then (d : Int) else if k = 1 then (S (170 + 3 * f) : Int) else if k = 4 then (s : Int) else if k = 5 then (w : Int) else if k = 6 then (S (170 + 3 * f + 1) : Int) else if k = 7 then (S (170 + 3 * f + 2) : Int) else if k = 8 then ac else if k = 9 then wt else if k = 10 then ht else 0
def aD (G : Nat → Mn) (S : Nat → Nat) (f d s w : Nat) : Int := vl (G 1) (EN S f d s w 0 0 0)
def aH (G : Nat → Mn) (S : Nat → Nat) (p d s w : Nat) : Nat → Int
  | 0 => 0
  | n + 1 => aH G S p d s w n + if S (170 + 3 * n) = p then aD G S n d s w else 0
def aA (G : Nat → Mn) (S : Nat → Nat) (f d s w : Nat) : Int := vl (G 4) (EN S f d s w 0 0 (aH G S (S (170 + 3 * f)) d s w (S 0)))
def cm (lo hi x : Int) : Int := if x < lo then lo else if hi < x then hi else x
def aF (G : Nat → Mn) (S : Nat → Nat) (f d s w : Nat) : Int := if aA G S f d s w = 1 then 0 else cm 0 999 (vl (G 3) (EN S f d s w (aD G S f d s w) 0 0))
def wtv (s w pp : Nat) : Nat := if pp = 0 then (if s < 5 then 0 else 1) else w
def aG (G : Nat → Mn) (S : Nat → Nat) (f d s w pp : Nat) : Int := cm (-9999) 9999 (vl (G 2) (EN S f d s w (aD G S f d s w) (wtv s w pp) 0)) - aF G S f d s w
theorem may1 : ∀ k, k < 13 → may 1 k → k = 0 ∨ k = 1 ∨ k = 4 ∨ k = 5 ∨ k = 6 ∨ k = 7 := by unfold may; decide +kernel
theorem may2 : ∀ k, k < 13 → may 2 k → k = 0 ∨ k = 1 ∨ k = 4 ∨ k = 5 ∨ k = 6 ∨ k = 7 ∨ k = 8 ∨ k = 9 := by unfold may; decide +kernel
theorem may3 : ∀ k, k < 13 → may 3 k → k = 0 ∨ k = 1 ∨ k = 5 ∨ k = 6 ∨ k = 7 ∨ k = 8 := by unfold may; decide +kernel
theorem may4 : ∀ k, k < 13 → may 4 k → k = 0 ∨ k = 1 ∨ k = 4 ∨ k = 5 ∨ k = 6 ∨ k = 7 ∨ k = 10 := by unfold may; decide +kernel
theorem may0 : ∀ k, k < 13 → may 0 k → k = 0 ∨ k = 1 ∨ k = 2 ∨ k = 3 ∨ k = 4 := by unfold may; decide +kernel
theorem may5 : ∀ k, k < 13 → may 5 k → k = 0 ∨ k = 1 ∨ k = 11 ∨ k = 12 := by unfold may; decide +kernel
theorem eb_EN {S : Nat → Nat} (hr : rF S) {f d s w : Nat} {ac wt ht : Int} (hf : f < 12) (hd : d < 30) (hs : s < 10) (hw : w < 2) (h1 : mil ac) (h2 : mil wt) (h3 : mil ht) (c : Nat) : eb c (EN S f d s w ac wt ht) := by
  intro k _ _
  obtain ⟨q1, q2, q3⟩ := hr f hf
  unfold EN mil at *
  repeat' split
  all_goals omega
/-- the names as told, in a row -/
def NM (W : xV) (r : Nat) (S : Nat → Nat) (f d s w : Nat) : Prop := W r 0 = nI d ∧ W r 1 = nI (S (170 + 3 * f)) ∧ W r 4 = nI s ∧ W r 5 = nI w ∧ W r 6 = nI (S (170 + 3 * f + 1)) ∧ W r 7 = nI (S (170 + 3 * f + 2))
theorem nm_1 {W : xV} {r : Nat} {S : Nat → Nat} {f d s w : Nat} (h : NM W r S f d s w) (ac wt ht : Int) : ∀ k, k < 13 → may 1 k → W r k = iI (EN S f d s w ac wt ht k) := by
  obtain ⟨h0, h1, h4, h5, h6, h7⟩ := h
  intro k hk hm
  rcases may1 k hk hm with rfl | rfl | rfl | rfl | rfl | rfl
  · rw [h0, nI_iI]; rfl
  · rw [h1, nI_iI]; rfl
  · rw [h4, nI_iI]; rfl
  · rw [h5, nI_iI]; rfl
  · rw [h6, nI_iI]; rfl
  · rw [h7, nI_iI]; rfl
theorem nm_4 {W : xV} {r : Nat} {S : Nat → Nat} {f d s w : Nat} (h : NM W r S f d s w) (ac wt ht : Int) (h10 : W r 10 = iI ht) : ∀ k, k < 13 → may 4 k → W r k = iI (EN S f d s w ac wt ht k) := by
  obtain ⟨h0, h1, h4, h5, h6, h7⟩ := h
  intro k hk hm
  rcases may4 k hk hm with rfl | rfl | rfl | rfl | rfl | rfl | rfl
  · rw [h0, nI_iI]; rfl
  · rw [h1, nI_iI]; rfl
  · rw [h4, nI_iI]; rfl
  · rw [h5, nI_iI]; rfl
  · rw [h6, nI_iI]; rfl
  · rw [h7, nI_iI]; rfl
  · rw [h10]; rfl
theorem nm_3 {W : xV} {r : Nat} {S : Nat → Nat} {f d s w : Nat} (h : NM W r S f d s w) (ac wt ht : Int) (h8 : W r 8 = iI ac) : ∀ k, k < 13 → may 3 k → W r k = iI (EN S f d s w ac wt ht k) := by
  obtain ⟨h0, h1, h4, h5, h6, h7⟩ := h
  intro k hk hm
  rcases may3 k hk hm with rfl | rfl | rfl | rfl | rfl | rfl
  · rw [h0, nI_iI]; rfl
  · rw [h1, nI_iI]; rfl
  · rw [h5, nI_iI]; rfl
  · rw [h6, nI_iI]; rfl
  · rw [h7, nI_iI]; rfl
  · rw [h8]; rfl
theorem nm_2 {W : xV} {r : Nat} {S : Nat → Nat} {f d s w : Nat} (h : NM W r S f d s w) (ac wt ht : Int) (h8 : W r 8 = iI ac) (h9 : W r 9 = iI wt) : ∀ k, k < 13 → may 2 k → W r k = iI (EN S f d s w ac wt ht k) := by
  obtain ⟨h0, h1, h4, h5, h6, h7⟩ := h
  intro k hk hm
  rcases may2 k hk hm with rfl | rfl | rfl | rfl | rfl | rfl | rfl | rfl
  · rw [h0, nI_iI]; rfl
  · rw [h1, nI_iI]; rfl
  · rw [h4, nI_iI]; rfl
  · rw [h5, nI_iI]; rfl
  · rw [h6, nI_iI]; rfl
  · rw [h7, nI_iI]; rfl
  · rw [h8]; rfl
  · rw [h9]; rfl
/-- what is needed of a state to work by it -/
def ST (V : xV) (S : Nat → Nat) (q : Nat) (F : Nat → Mn) (e m : Nat) : Prop := rok S ∧ pc V 1 S ∧ pm V 66 S ∧ RL V q F ∧ V 51 1 = xo e ∧ V 65 35 = xo m
def sM (V W : xV) : Prop := ∀ r, r ≠ 82 → W r = V r
theorem iI_add (x y : Int) : iI x + iI y = iI (x + y) := (Int32.ofInt_add x y).symm
theorem aD_bit {V : xV} {S : Nat → Nat} {q e a b : Nat} {F : Nat → Mn} (h : ST V S q F a b) {f d s w : Nat} (hf : f < 12) (hd : d < 30) (hs : s < 10) (hw : w < 2) : bit (aD (Fx F e) S f d s w) :=
  (rgX h.2.2.2.1 (by decide) (eb_EN h.1.2.1 hf hd hs hw (by unfold mil; omega) (by unfold mil; omega) (by unfold mil; omega) 1)).2 rfl
theorem aH_b {V : xV} {S : Nat → Nat} {q e a b : Nat} {F : Nat → Mn} (h : ST V S q F a b) {p d s w : Nat} (hd : d < 30) (hs : s < 10) (hw : w < 2) : ∀ n, n ≤ 12 → 0 ≤ aH (Fx F e) S p d s w n ∧ aH (Fx F e) S p d s w n ≤ n
  | 0, _ => ⟨Int.le_refl _, Int.le_refl _⟩
  | n + 1, hn => by
    obtain ⟨h1, h2⟩ := aH_b (e := e) h (p := p) hd hs hw n (by omega)
    have hb := aD_bit (e := e) h (f := n) (by omega) hd hs hw
    unfold bit at hb
    show 0 ≤ aH _ _ _ _ _ _ n + _ ∧ aH _ _ _ _ _ _ n + _ ≤ _
    split <;> omega
theorem prov_m {V : xV} {S : Nat → Nat} (h : pm V 66 S) {f : Nat} (hf : f < 12) : f_Md_provinceOf (nI f) V = some (nI (S (170 + 3 * f))) := by
  unfold f_Md_provinceOf
  rw [show (170 : Int32) + 3 * nI f = nI (170 + 3 * f) by rw [show (3 : Int32) = nI 3 from rfl, show (170 : Int32) = nI 170 from rfl, pk_mul, nI_add], if_pos (xI_ok (by omega) (by decide)), cl (by omega), h.2 _ (by omega) (by omega)]
theorem names_m {V W : xV} {S : Nat → Nat} (h : pm V 66 S) (hW : sM V W) {f : Nat} (hf : f < 12) (d s w : Nat) : ∃ W1, f_Md_folkNames (nI f) (nI d) (nI s) (nI w) W = some W1 ∧ sM V W1 ∧ NM W1 82 S f d s w := by
  have e66 : W 66 = V 66 := hW 66 (by decide)
  have h' : pm W 66 S := h.fr e66
  have e0 : (170 : Int32) + 3 * nI f = nI (170 + 3 * f) := by rw [show (3 : Int32) = nI 3 from rfl, show (170 : Int32) = nI 170 from rfl, pk_mul, nI_add]
  have e1 : nI (170 + 3 * f) + 1 = nI (170 + 3 * f + 1) := nI_1 _
  have e2 : nI (170 + 3 * f) + 2 = nI (170 + 3 * f + 2) := nI_add _ 2
  refine ⟨x2 (x2 (x2 (x2 (x2 (x2 W 82 0 (nI d)) 82 1 (nI (S (170 + 3 * f)))) 82 4 (nI s)) 82 5 (nI w)) 82 6 (nI (S (170 + 3 * f + 1)))) 82 7 (nI (S (170 + 3 * f + 2))), ?_, ?_, ?_⟩
  · unfold f_Md_folkNames
    rw [prov_m (h'.fr (x2_ne (by decide))) hf, Option.bind_some, e0, e1, e2, if_pos (xI_ok (by omega) (by decide)), if_pos (xI_ok (by omega) (by decide)), cl (by omega), cl (by omega)]
    simp only [x2_ne (show (66 : Nat) ≠ 82 by decide), h'.2 (170 + 3 * f + 1) (by omega) (by omega), h'.2 (170 + 3 * f + 2) (by omega) (by omega)]
  · intro r hr
    rw [x2_ne hr, x2_ne hr, x2_ne hr, x2_ne hr, x2_ne hr, x2_ne hr]; exact hW r hr
  · refine ⟨?_, ?_, ?_, ?_, ?_, ?_⟩ <;> simp [x2]
theorem does_m {V W : xV} {S : Nat → Nat} {q e m : Nat} {F : Nat → Mn} (h : ST V S q F m e) (hW : sM V W) (L : xL) {f d s w : Nat} (hf : f < 12) (hd : d < 30) (hs : s < 10) (hw : w < 2) : ∃ W1 L1, f_Md_does (nI f) (nI d) (nI s) (nI w) W L = some (iI (aD (Fx F e) S f d s w), W1, L1) ∧ sM V W1 ∧ NM W1 82 S f d s w := by
  obtain ⟨r1, r2, r3, r4, r5, r6⟩ := id h
  obtain ⟨W1, e1, e2, e3⟩ := names_m r3 hW hf d s w
  have hb := eb_EN r1.2.1 hf hd hs hw (ac := 0) (wt := 0) (ht := 0) (by unfold mil; omega) (by unfold mil; omega) (by unfold mil; omega) 1
  have hbit := aD_bit (e := e) h hf hd hs hw
  have hh := hasM (w := 1) (W := W1) (e := e) r4 (by decide) (e2 66 (by decide)) (fun r _ _ => e2 r (by omega)) (by rw [e2 65 (by decide)]; exact r6)
  unfold f_Md_does
  rw [e1, Option.bind_some, show (1 : Int32) = nI 1 from rfl, hh, Option.bind_some]
  by_cases c : so (Fx F e 1) = 1
  · obtain ⟨L1, s1⟩ := saysM (W := W1) (L := L) (e := e) r4 (w := 1) (by decide) (e2 66 (by decide)) (fun r _ _ => e2 r (by omega)) c (nm_1 e3 0 0 0) hb
    refine ⟨W1, L1, ?_, e2, e3⟩
    rw [c, if_neg (by decide), s1, Option.bind_some]
    show (if lg_cmp (lI (aD (Fx F e) S f d s w)) (lI 0) ≤ 0 then _ else _) = _
    have cc := c_le (x := aD (Fx F e) S f d s w) (y := 0) (mil_big (bit_mil hbit)) (by unfold big; omega)
    rcases hbit with z | z
    · rw [if_pos (cc.mpr (by omega)), z]; rfl
    · rw [if_neg (fun u => by have := cc.mp u; omega), z]; rfl
  · refine ⟨W1, L, ?_, e2, e3⟩
    have z0 : so (Fx F e 1) = 0 ∧ aD (Fx F e) S f d s w = 0 := by
      unfold aD
      cases hx : Fx F e 1 with
      | none => exact ⟨rfl, rfl⟩
      | some v => rw [hx] at c; exact absurd rfl c
    rw [z0.1, if_pos (by decide), z0.2]; rfl
theorem hats_m {V : xV} {S : Nat → Nat} {q e m : Nat} {F : Nat → Mn} (h : ST V S q F m e) {p d s w : Nat} (hp : p < 4) (hd : d < 30) (hs : s < 10) (hw : w < 2) : ∀ (n i f : Nat) (W : xV) (L : xL), i + n = S 0 → n < f → sM V W → ∃ W1 L1, g_Md_hats_6 f (nI p) (nI d) (nI s) (nI w) (iI (aH (Fx F e) S p d s w i)) (nI i) W L = some (iI (aH (Fx F e) S p d s w (S 0)), W1, L1) ∧ sM V W1
  | 0, i, f + 1, W, L, h1, h2, hW => by
    have h12 := h.1.1.1
    have : i = S 0 := by omega
    subst this
    refine ⟨W, L, ?_, hW⟩
    show b_Md_hats_6 _ _ _ _ _ _ _ _ _ = _
    unfold b_Md_hats_6
    rw [hW 66 (by decide), h.2.2.1.2 0 (by decide) (by decide), if_pos (nI_le (Nat.le_refl _) (by omega))]
  | n + 1, i, f + 1, W, L, h1, h2, hW => by
    have h12 := h.1.1.1
    have hi := (h.1.2.1 i (by omega)).1
    have st : aH (Fx F e) S p d s w (i + 1) = aH (Fx F e) S p d s w i + if S (170 + 3 * i) = p then aD (Fx F e) S i d s w else 0 := rfl
    by_cases c : S (170 + 3 * i) = p
    · rw [if_pos c] at st
      obtain ⟨W1, L1, e1, e2, -⟩ := does_m h hW L (f := i) (d := d) (s := s) (w := w) (by omega) hd hs hw
      obtain ⟨W2, L2, g1, g2⟩ := hats_m h hp hd hs hw n (i + 1) f W1 L1 (by omega) (by omega) e2
      refine ⟨W2, L2, ?_, g2⟩
      rw [← g1]
      show b_Md_hats_6 _ _ _ _ _ _ _ _ _ = _
      unfold b_Md_hats_6
      rw [hW 66 (by decide), h.2.2.1.2 0 (by decide) (by decide), if_neg (nI_ge (by omega) (by omega)), prov_m (h.2.2.1.fr (hW 66 (by decide))) (by omega), Option.bind_some, if_neg (fun z => z (by rw [c])), e1, Option.bind_some, nI_1, st]
      rcases aD_bit (e := e) h (f := i) (by omega) hd hs hw with z | z
      · rw [z, if_pos (show iI 0 = 0 from rfl), Int.add_zero, show iI (aH (Fx F e) S p d s w i) + 0 = iI (aH (Fx F e) S p d s w i) from (iI_add _ 0).trans (by rw [Int.add_zero])]
      · rw [z, if_neg (show ¬ iI 1 = 0 by decide), ← iI_add]; rfl
    · rw [if_neg c, Int.add_zero] at st
      obtain ⟨W2, L2, g1, g2⟩ := hats_m h hp hd hs hw n (i + 1) f W L (by omega) (by omega) hW
      refine ⟨W2, L2, ?_, g2⟩
      rw [← g1]
      show b_Md_hats_6 _ _ _ _ _ _ _ _ _ = _
      unfold b_Md_hats_6
      rw [hW 66 (by decide), h.2.2.1.2 0 (by decide) (by decide), if_neg (nI_ge (by omega) (by omega)), prov_m (h.2.2.1.fr (hW 66 (by decide))) (by omega), Option.bind_some, if_pos (fun z => c (nI_small (by omega) (by omega) z)), nI_1, st]
theorem mil0 : mil 0 := by unfold mil; omega
theorem hats_f {V W : xV} {L : xL} {S : Nat → Nat} {q e m : Nat} {F : Nat → Mn} (h : ST V S q F m e) (hW : sM V W) {p d s w : Nat} (hp : p < 4) (hd : d < 30) (hs : s < 10) (hw : w < 2) : ∃ W1 L1, f_Md_hats (nI p) (nI d) (nI s) (nI w) W L = some (iI (aH (Fx F e) S p d s w (S 0)), W1, L1) ∧ sM V W1 := by
  have h12 := h.1.1.1
  exact hats_m h hp hd hs hw (S 0) 0 2000 W L (by omega) (by omega) hW
theorem aA_bit {V : xV} {S : Nat → Nat} {q e a b : Nat} {F : Nat → Mn} (h : ST V S q F a b) {f d s w : Nat} (hf : f < 12) (hd : d < 30) (hs : s < 10) (hw : w < 2) : bit (aA (Fx F e) S f d s w) := by
  have h12 := h.1.1.1
  have hh := aH_b (e := e) h (p := S (170 + 3 * f)) hd hs hw (S 0) h12
  exact (rgX h.2.2.2.1 (by decide) (eb_EN h.1.2.1 hf hd hs hw mil0 mil0 (by unfold mil; omega) 4)).2 rfl
theorem so01 (x : Mn) : (so x = 1) ∨ (so x = 0 ∧ x = none) := by cases x; exact Or.inr ⟨rfl, rfl⟩; exact Or.inl rfl
theorem app_m {V W : xV} {L : xL} {S : Nat → Nat} {q e m : Nat} {F : Nat → Mn} (h : ST V S q F m e) (hW : sM V W) {f d s w : Nat} (hf : f < 12) (hd : d < 30) (hs : s < 10) (hw : w < 2) : ∃ W1 L1, f_Md_appeals (nI f) (nI d) (nI s) (nI w) W L = some (iI (aA (Fx F e) S f d s w), W1, L1) ∧ sM V W1 := by
  obtain ⟨r1, r2, r3, r4, r5, r6⟩ := id h
  have h12 := h.1.1.1
  have hh := hasM (w := 4) (W := W) (e := e) r4 (by decide) (hW 66 (by decide)) (fun r _ _ => hW r (by omega)) (by rw [hW 65 (by decide)]; exact r6)
  unfold f_Md_appeals
  rw [show (4 : Int32) = nI 4 from rfl, hh, Option.bind_some]
  rcases so01 (Fx F e 4) with c | ⟨c, c'⟩
  · have hHb := aH_b (e := e) h (p := S (170 + 3 * f)) hd hs hw (S 0) h12
    have hm : mil (aH (Fx F e) S (S (170 + 3 * f)) d s w (S 0)) := by unfold mil; omega
    obtain ⟨W1, L1, e1, e2⟩ := hats_f (L := L) h hW (p := S (170 + 3 * f)) (r1.2.1 f hf).1 hd hs hw
    obtain ⟨W2, g1, g2, g3⟩ := names_m r3 e2 hf d s w
    have sW2 : sM V (x2 W2 82 10 (iI (aH (Fx F e) S (S (170 + 3 * f)) d s w (S 0)))) := fun r hr => by rw [x2_ne hr]; exact g2 r hr
    have nW2 : NM (x2 W2 82 10 (iI (aH (Fx F e) S (S (170 + 3 * f)) d s w (S 0)))) 82 S f d s w := by
      obtain ⟨n0, n1, n4, n5, n6, n7⟩ := g3
      exact ⟨by rw [x2_off (by omega)]; exact n0, by rw [x2_off (by omega)]; exact n1, by rw [x2_off (by omega)]; exact n4, by rw [x2_off (by omega)]; exact n5, by rw [x2_off (by omega)]; exact n6, by rw [x2_off (by omega)]; exact n7⟩
    obtain ⟨L2, s1⟩ := saysM (L := L1) (e := e) r4 (w := 4) (by decide) (sW2 66 (by decide)) (fun r _ _ => sW2 r (by omega)) c (nm_4 nW2 0 0 _ (x2_at _ _ _ _)) (eb_EN r1.2.1 hf hd hs hw mil0 mil0 hm 4)
    refine ⟨_, L2, ?_, sW2⟩
    rw [c, if_pos (by decide), prov_m (r3.fr (hW 66 (by decide))) hf, Option.bind_some, e1, Option.bind_some, g1, Option.bind_some]
    show Option.bind (f_Md_says (nI 4) _ L1) _ = _
    rw [s1, Option.bind_some]
    show (if lg_cmp (lI (aA (Fx F e) S f d s w)) (lI 0) ≤ 0 then _ else _) = _
    have hbit := aA_bit (e := e) h hf hd hs hw
    have cc := c_le (x := aA (Fx F e) S f d s w) (y := 0) (mil_big (bit_mil hbit)) (by unfold big; omega)
    rcases hbit with z | z
    · rw [if_pos (cc.mpr (by omega)), z]; rfl
    · rw [if_neg (fun u => by have := cc.mp u; omega), z]; rfl
  · refine ⟨W, L, ?_, hW⟩
    rw [c, if_neg (by decide)]
    unfold aA
    rw [c']; rfl
theorem cm_mil {lo hi x : Int} (h1 : mil lo) (h2 : mil hi) (h3 : mil x) : mil (cm lo hi x) := by unfold cm; split; exact h1; split; exact h2; exact h3
theorem nm_set {W : xV} {S : Nat → Nat} {f d s w k : Nat} {v : Int32} (h : NM W 82 S f d s w) (hk : k = 8 ∨ k = 9 ∨ k = 10) : NM (x2 W 82 k v) 82 S f d s w := by
  obtain ⟨n0, n1, n4, n5, n6, n7⟩ := h
  exact ⟨by rw [x2_off (by omega)]; exact n0, by rw [x2_off (by omega)]; exact n1, by rw [x2_off (by omega)]; exact n4, by rw [x2_off (by omega)]; exact n5, by rw [x2_off (by omega)]; exact n6, by rw [x2_off (by omega)]; exact n7⟩
theorem fine_m {V W : xV} {L : xL} {S : Nat → Nat} {q e m : Nat} {F : Nat → Mn} (h : ST V S q F m e) (hW : sM V W) {f d s w : Nat} (hf : f < 12) (hd : d < 30) (hs : s < 10) (hw : w < 2) : ∃ W1 L1, f_Md_fineOf (nI f) (nI d) (nI s) (nI w) W L = some (iI (aF (Fx F e) S f d s w), W1, L1) ∧ sM V W1 := by
  obtain ⟨r1, r2, r3, r4, r5, r6⟩ := id h
  have hh := hasM (w := 3) (W := W) (e := e) r4 (by decide) (hW 66 (by decide)) (fun r _ _ => hW r (by omega)) (by rw [hW 65 (by decide)]; exact r6)
  unfold f_Md_fineOf
  rw [show (3 : Int32) = nI 3 from rfl, hh, Option.bind_some]
  rcases so01 (Fx F e 3) with c | ⟨c, c'⟩
  · obtain ⟨W1, L1, e1, e2⟩ := app_m (L := L) h hW hf hd hs hw
    rw [c, if_neg (by decide), e1, Option.bind_some]
    rcases aA_bit (e := e) h hf hd hs hw with z | z
    · have hbit := aD_bit (e := e) h hf hd hs hw
      obtain ⟨W2, L2, g1, g2, g3⟩ := does_m h e2 L1 hf hd hs hw
      have s3 : ∀ u, sM V (x2 W2 82 8 u) := fun u r hr => by rw [x2_ne hr]; exact g2 r hr
      have hb := eb_EN r1.2.1 hf hd hs hw (bit_mil hbit) mil0 mil0 3
      have hm := (rgX (e := e) r4 (w := 3) (by decide) hb).1
      obtain ⟨L3, k1⟩ := saysM (W := x2 W2 82 8 (iI (aD (Fx F e) S f d s w))) (L := L2) (e := e) r4 (w := 3) (by decide) (s3 _ 66 (by decide)) (fun r _ _ => s3 _ r (by omega)) c (nm_3 (nm_set g3 (by omega)) _ 0 0 (x2_at _ _ _ _)) hb
      refine ⟨x2 W2 82 8 (iI (aD (Fx F e) S f d s w)), L3, ?_, s3 _⟩
      have fin : (f_Md_held (lI (vl (Fx F e 3) (EN S f d s w (aD (Fx F e) S f d s w) 0 0))) 0 999) = iI (aF (Fx F e) S f d s w) := by
        unfold aF
        rw [if_neg (by omega)]
        exact held_m hm 0 999 mil0 (by unfold mil; omega) (by omega)
      show (if iI (aA (Fx F e) S f d s w) = 0 then _ else _) = _
      rw [z, if_pos (show iI 0 = 0 from rfl), g1, Option.bind_some]
      rcases hbit with y | y
      · show (if iI (aD (Fx F e) S f d s w) = 0 then _ else _) = _
        rw [if_pos (show iI (aD (Fx F e) S f d s w) = 0 by rw [y]; rfl), show (0 : Int32) = iI (aD (Fx F e) S f d s w) by rw [y]; rfl]
        show Option.bind (f_Md_says (nI 3) _ L2) _ = _
        rw [k1, Option.bind_some, show iI (aD (Fx F e) S f d s w) = 0 by rw [y]; rfl, fin]
      · show (if iI (aD (Fx F e) S f d s w) = 0 then _ else _) = _
        rw [if_neg (show ¬ iI (aD (Fx F e) S f d s w) = 0 by rw [y]; decide), show (1 : Int32) = iI (aD (Fx F e) S f d s w) by rw [y]; rfl]
        show Option.bind (f_Md_says (nI 3) _ L2) _ = _
        rw [k1, Option.bind_some, fin]
    · refine ⟨W1, L1, ?_, e2⟩
      show (if iI (aA (Fx F e) S f d s w) = 0 then _ else _) = _
      rw [if_neg (show ¬ iI (aA (Fx F e) S f d s w) = 0 by rw [z]; decide)]
      unfold aF
      rw [if_pos z]; rfl
  · refine ⟨W, L, ?_, hW⟩
    rw [c, if_pos (by decide)]
    unfold aF
    rw [c']
    split <;> rfl

/-! PURE: on, gain, led -/
theorem home_c {V W : xV} {S : Nat → Nat} (h : pF V 1 S) (hW : W 2 = V 2) {f : Nat} (hf : f < 12) : f_Rolls_homeOf (nI f) W = some (nI (S (170 + 3 * f))) := by
  unfold f_Rolls_homeOf
  rw [show (12 : Int32) = nI 12 from rfl, within_in hf (by decide), if_neg (by decide), if_pos (xI_ok hf (by decide)), cl (by omega), hW]
  exact congrArg some (h f hf).1
theorem dS_lt {S : Nat → Nat} (h : rD S) {d p : Nat} (hd : d < 30) (hp : p < 4) : dS S d p < 2 := h (4 * d + p) (by omega)
theorem folk_w {V : xV} {S : Nat → Nat} {q e m : Nat} {F : Nat → Mn} (h : ST V S q F e m) (a : Int32) : (f_Ww_within a (V 1 7) = 0 ∧ ∀ W : xV, W 66 = V 66 → f_Md_isFolk a W = 0) ∨ ∃ f, f < S 0 ∧ a = nI f ∧ f_Ww_within a (V 1 7) = 1 ∧ ∀ W : xV, W 66 = V 66 → f_Md_isFolk a W = 1 := by
  have h12 := h.1.1.1
  unfold f_Md_isFolk
  rcases wi a (nI (S 0)) (nI (S 0) - 1) (S 0) (by omega) rfl (nI_sub1 (by omega)) with ⟨h1, h2⟩ | ⟨f, hf, rfl, h1, h2⟩
  · exact Or.inl ⟨by rw [h.2.1.1.1]; exact h1, fun W hW => by rw [hW, h.2.2.1.2 0 (by decide) (by decide)]; exact h2⟩
  · exact Or.inr ⟨f, hf, rfl, by rw [h.2.1.1.1]; exact h1, fun W hW => by rw [hW, h.2.2.1.2 0 (by decide) (by decide)]; exact h2⟩
theorem op_gain : P_gain (Inv LW) := by
  intro a b c V L hI hc
  obtain ⟨S, q, F, h, -⟩ := hI.st
  have h12 := h.1.1.1
  rcases folk_w h a with ⟨h1, h2⟩ | ⟨f, hf, rfl, h1, h2⟩
  · refine ⟨-100000, V, V, L, ?_, ?_, hI⟩
    · unfold f_Ww_gain; rw [h1]; rfl
    · unfold f_Md_gain; rw [h2 V rfl]; rfl
  rcases wi b 30 29 30 (by decide) rfl (by decide) with ⟨g1, g2⟩ | ⟨d, hd, rfl, g1, g2⟩
  · refine ⟨-100000, V, V, L, ?_, ?_, hI⟩
    · unfold f_Ww_gain; rw [h1, g1]; rfl
    · unfold f_Md_gain f_Md_isDay; rw [h2 V rfl, g2]; rfl
  obtain ⟨pp, hpp, rfl⟩ : ∃ pp, pp < 2 ∧ c = nI pp := by rcases hc with rfl | rfl; exact ⟨0, by decide, rfl⟩; exact ⟨1, by decide, rfl⟩
  have hp := (h.1.2.1 f (by omega)).1
  obtain ⟨W1, e1, e2⟩ := asIs_c h (fC.rf V) hd hp
  obtain ⟨W2, k1, k2⟩ := gain_c (pp := pp) h e2 hd (dS_lt h.1.2.2.2.1 hd hp) hpp hf rfl
  obtain ⟨W3, L3, m1, m2⟩ := asIs_m (L := L) (h.fC k2.1) (W := W2) (fun _ _ => rfl) (show f < 12 by omega) hd hpp
  refine ⟨iI (aG (Fx F 6) S f d (S (10 + d)) (dS S d (S (170 + 3 * f))) pp), W2, W3, L3, ?_, ?_, hI.ev k2.1 m2⟩
  · unfold f_Ww_gain
    rw [h1, g1, if_neg (by decide), if_pos (by decide), home_c h.2.1.2.1 rfl (by omega), Option.bind_some, e1, Option.bind_some, k1, Option.bind_some]
  · unfold f_Md_gain f_Md_isDay
    rw [h2 W2 (k2.1.1 66 (by decide) (by decide) (by decide) (by decide)), g2, if_neg (by decide), if_neg (by decide), m1, Option.bind_some]
theorem b01 {x : Int} (h : bit x) : (if iI x = 0 then (0 : Int32) else 1) = iI x := by rcases h with rfl | rfl <;> decide
theorem op_on : P_on (Inv LW) := by
  intro a b c V L hI
  obtain ⟨S, q, F, h, -⟩ := hI.st
  have h12 := h.1.1.1
  rcases folk_w h a with ⟨h1, h2⟩ | ⟨f, hf, rfl, h1, h2⟩
  · refine ⟨-1, V, V, L, ?_, ?_, hI⟩
    · unfold f_Ww_on; rw [h1]; rfl
    · unfold f_Md_on; rw [h2 V rfl]; rfl
  rcases wi b 30 29 30 (by decide) rfl (by decide) with ⟨g1, g2⟩ | ⟨d, hd, rfl, g1, g2⟩
  · refine ⟨-1, V, V, L, ?_, ?_, hI⟩
    · unfold f_Ww_on; rw [h1, g1]; rfl
    · unfold f_Md_on f_Md_isDay; rw [h2 V rfl, g2]; rfl
  have hp := (h.1.2.1 f (by omega)).1
  have hs := h.1.2.2.1 d hd
  have hw := dS_lt h.1.2.2.2.1 hd hp
  obtain ⟨W1, e1, e2⟩ := asIs_c h (fC.rf V) hd hp
  have A : f_Ww_on (nI f) (nI d) c V = (if c = 0 then (Option.bind (f_Court_actOf (nI f) W1) fun p10 => some (p10, W1)) else (if c = 1 then (Option.bind (f_Court_fineOf (nI f) W1) fun p13 => some (p13.1, p13.2)) else (if c = 2 then (Option.bind (f_Court_appealOf (nI f) W1) fun p16 => some (p16.1, p16.2)) else some ((-1), W1)))) := by
    unfold f_Ww_on
    rw [h1, g1, if_neg (by decide), if_pos (by decide), home_c h.2.1.2.1 rfl (by omega), Option.bind_some, e1, Option.bind_some]
  have B : ∀ W : xV, W 66 = V 66 → f_Md_in c 0 2 = 1 → f_Md_on (nI f) (nI d) c W L = (if ¬ c = 1 then (if ¬ c = 0 then (Option.bind (f_Md_appeals (nI f) (nI d) (nI (S (10 + d))) (nI (dS S d (S (170 + 3 * f)))) W L) fun p14 => (if p14.1 = 0 then some (0, p14.2.1, p14.2.2) else some (1, p14.2.1, p14.2.2))) else (Option.bind (f_Md_does (nI f) (nI d) (nI (S (10 + d))) (nI (dS S d (S (170 + 3 * f)))) W L) fun p17 => (if p17.1 = 0 then some (0, p17.2.1, p17.2.2) else some (1, p17.2.1, p17.2.2)))) else (Option.bind (f_Md_fineOf (nI f) (nI d) (nI (S (10 + d))) (nI (dS S d (S (170 + 3 * f)))) W L) fun p20 => some (p20.1, p20.2.1, p20.2.2))) := by
    intro W hW hc
    have h66 := h.2.2.1.fr hW
    unfold f_Md_on f_Md_isDay
    rw [h2 W hW, g2, if_neg (by decide), if_neg (by decide), hc, if_pos (by decide), show (10 : Int32) + nI d = nI (10 + d) from nI_add 10 d, if_pos (xI_ok (by omega) (by decide)), prov_m h66 (by omega), Option.bind_some, dec_m h66 hd hp, Option.bind_some, cl (by omega), h66.2 _ (by omega) (by omega)]; rfl
  have e66 : W1 66 = V 66 := e2.1.1 66 (by decide) (by decide) (by decide) (by decide)
  rcases wi c 3 2 3 (by decide) rfl (by decide) with ⟨k1, k2⟩ | ⟨j, hj, rfl, k1, k2⟩
  · refine ⟨-1, W1, W1, L, ?_, ?_, hI.ev e2.1 (fun _ _ => rfl)⟩
    · have c0 : ¬ c = 0 := fun z => by rw [z] at k1; revert k1; decide
      have c1 : ¬ c = 1 := fun z => by rw [z] at k1; revert k1; decide
      have c2 : ¬ c = 2 := fun z => by rw [z] at k1; revert k1; decide
      rw [A, if_neg c0, if_neg c1, if_neg c2]
    · unfold f_Md_on f_Md_isDay
      rw [h2 W1 e66, g2, k2]; rfl
  · have hj3 : j = 0 ∨ j = 1 ∨ j = 2 := by omega
    rcases hj3 with rfl | rfl | rfl
    · obtain ⟨W3, L3, m1, m2, -⟩ := does_m (h.fC e2.1) (W := W1) (fun _ _ => rfl) L (show f < 12 by omega) hd hs hw
      refine ⟨iI (aD (Fx F 6) S f d (S (10 + d)) (dS S d (S (170 + 3 * f)))), W1, W3, L3, ?_, ?_, hI.ev e2.1 m2⟩
      · rw [A, if_pos (by decide)]
        unfold f_Court_actOf
        rw [show (12 : Int32) = nI 12 from rfl, within_in (show f < 12 by omega) (by decide), if_neg (by decide), if_pos (xI_ok (show f < 12 by omega) (by decide)), cl (by omega), Option.bind_some, e2.2.2.2.2.2 f hf rfl]
      · rw [B W1 e66 k2, if_pos (by decide), if_neg (by decide), m1, Option.bind_some]
        have := b01 (aD_bit (e := 6) h (show f < 12 by omega) hd hs hw)
        show (if iI _ = 0 then some ((0 : Int32), W3, L3) else some (1, W3, L3)) = _
        rw [← this]
        split <;> rfl
    · obtain ⟨W2, x1, x2', -, -⟩ := fine_c h e2 hd hw hf rfl
      obtain ⟨W3, L3, m1, m2⟩ := fine_m (L := L) (h.fC x2'.1) (W := W2) (fun _ _ => rfl) (show f < 12 by omega) hd hs hw
      refine ⟨iI (aF (Fx F 6) S f d (S (10 + d)) (dS S d (S (170 + 3 * f)))), W2, W3, L3, ?_, ?_, hI.ev x2'.1 m2⟩
      · rw [A, if_neg (by decide), if_pos (by decide), x1, Option.bind_some]
      · rw [B W2 (x2'.1.1 66 (by decide) (by decide) (by decide) (by decide)) k2, if_neg (by decide), m1, Option.bind_some]
    · obtain ⟨W2, c1, c2, c3, c4⟩ := call_s h e2 hf rfl
      obtain ⟨W3, x1, x2', x3⟩ := app_c h c2 hd hw hf rfl c3
      obtain ⟨W4, L3, m1, m2⟩ := app_m (L := L) (h.fC x2'.1) (W := W3) (fun _ _ => rfl) (show f < 12 by omega) hd hs hw
      refine ⟨iI (aA (Fx F 6) S f d (S (10 + d)) (dS S d (S (170 + 3 * f)))), W3, W4, L3, ?_, ?_, hI.ev x2'.1 m2⟩
      · rw [A, if_neg (by decide), if_neg (by decide), if_pos (by decide)]
        unfold f_Court_appealOf
        rw [c1, Option.bind_some, x1, Option.bind_some, Option.bind_some]
      · rw [B W3 (x2'.1.1 66 (by decide) (by decide) (by decide) (by decide)) k2, if_pos (by decide), if_pos (by decide), m1, Option.bind_some]
        have := b01 (aA_bit (e := 6) h (show f < 12 by omega) hd hs hw)
        show (if iI _ = 0 then some ((0 : Int32), W4, L3) else some (1, W4, L3)) = _
        rw [← this]
        split <;> rfl
theorem one_sub : ∀ w, w < 2 → (1 : Int32) - nI w = nI (1 - w) := by decide
theorem fC.tr {V W X : xV} (h1 : fC V W) (h2 : fC W X) : fC V X := ⟨fun r a b c d => by rw [h2.1 r a b c d]; exact h1.1 r a b c d, h2.2.trans h1.2⟩
/-- by how much the other decree led -/
def ldx (G : Nat → Mn) (S : Nat → Nat) (f d : Nat) : Int32 := iI (aG G S f d (S (10 + d)) (1 - dS S d (S (170 + 3 * f))) 0) - iI (aG G S f d (S (10 + d)) (dS S d (S (170 + 3 * f))) 0)
theorem more_c {V W : xV} {S : Nat → Nat} {q e m : Nat} {F : Nat → Mn} (h : ST V S q F e m) (hF : fC V W) {f d : Nat} (hf : f < S 0) (hd : d < 30) : ∃ W1, f_Court_moreByOther (nI f) (nI d) W = some (ldx (Fx F e) S f d, W1) ∧ fC V W1 := by
  have h12 := h.1.1.1
  have hp := (h.1.2.1 f (by omega)).1
  have hw := dS_lt h.1.2.2.2.1 hd hp
  obtain ⟨W1, e1, e2⟩ := asIs_c h hF hd hp
  obtain ⟨W2, k1, k2⟩ := gain_c (pp := 0) h e2 hd hw (by decide) hf rfl
  obtain ⟨W3, g1, g2⟩ := sit_c h k2.1 hd hp (w := 1 - dS S d (S (170 + 3 * f))) (by omega)
  obtain ⟨W4, m1, m2⟩ := gain_c (pp := 0) h g2 hd (by omega) (by decide) hf rfl
  refine ⟨W4, ?_, m2.1⟩
  unfold f_Court_moreByOther
  rw [home_c h.2.1.2.1 (hF.1 2 (by decide) (by decide) (by decide) (by decide)) (by omega), Option.bind_some, e1, Option.bind_some]
  show Option.bind (f_Court_gainOf (nI f) (nI 0) W1) _ = _
  rw [k1, Option.bind_some]
  show Option.bind (f_Rolls_decreeOf _ _ W2) _ = _
  rw [dec_c (h.2.1.2.2.2.1.fr (k2.1.1 6 (by decide) (by decide) (by decide) (by decide)) (fun _ _ _ => rfl)) hd hp, Option.bind_some, show S (40 + (4 * d + S (170 + 3 * f))) = dS S d (S (170 + 3 * f)) from rfl, one_sub _ hw]
  show Option.bind (f_Court_sit _ _ (nI (1 - dS S d (S (170 + 3 * f)))) W2) _ = _
  rw [g1, Option.bind_some]
  show Option.bind (f_Court_gainOf (nI f) (nI 0) W3) _ = _
  rw [m1, Option.bind_some]; rfl
def ldR (G : Nat → Mn) (S : Nat → Nat) (f : Nat) : Nat → Int32 × Int32
  | 0 => (-1, 0)
  | d + 1 => if ldx G S f d ≤ (ldR G S f d).2 then ldR G S f d else (nI d, ldx G S f d)
theorem led_c {V : xV} {S : Nat → Nat} {q e m : Nat} {F : Nat → Mn} (h : ST V S q F e m) {f : Nat} (hf : f < S 0) (b : Int32) : ∀ (n d u : Nat) (W : xV), d + n = 30 → n < u → fC V W → ∃ W1, g_Ww_led_32 u (nI f) b (ldR (Fx F e) S f d).1 (ldR (Fx F e) S f d).2 (nI d) W = some (if ¬ (ldR (Fx F e) S f 30).1 = -1 then (if ¬ b = 0 then (ldR (Fx F e) S f 30).2 else (ldR (Fx F e) S f 30).1) else -1, W1) ∧ fC V W1
  | 0, d, u + 1, W, h1, h2, hF => by
    have : d = 30 := by omega
    subst this
    refine ⟨W, ?_, hF⟩
    show b_Ww_led_32 _ _ _ _ _ _ _ = _
    unfold b_Ww_led_32
    rw [if_pos (by decide)]
    split
    · split <;> rfl
    · rfl
  | n + 1, d, u + 1, W, h1, h2, hF => by
    obtain ⟨W1, e1, e2⟩ := more_c h hF hf (show d < 30 by omega)
    obtain ⟨W2, g1, g2⟩ := led_c h hf b n (d + 1) u W1 (by omega) (by omega) e2
    refine ⟨W2, ?_, g2⟩
    rw [← g1]
    show b_Ww_led_32 _ _ _ _ _ _ _ = _
    unfold b_Ww_led_32
    rw [if_neg (show ¬ (30 : Int32) ≤ nI d from nI_ge (b := 30) (by omega) (by decide)), e1, Option.bind_some, nI_1]
    show (if ldx (Fx F e) S f d ≤ (ldR (Fx F e) S f d).2 then _ else _) = _
    have st : ldR (Fx F e) S f (d + 1) = if ldx (Fx F e) S f d ≤ (ldR (Fx F e) S f d).2 then ldR (Fx F e) S f d else (nI d, ldx (Fx F e) S f d) := rfl
    rw [st]
    split <;> rfl
theorem led_m {V : xV} {S : Nat → Nat} {q e m : Nat} {F : Nat → Mn} (h : ST V S q F m e) {f : Nat} (hf : f < S 0) (b : Int32) : ∀ (n d u : Nat) (W : xV) (L : xL), d + n = 30 → n < u → sM V W → ∃ W1 L1, g_Md_led_27 u (nI f) b (ldR (Fx F e) S f d).1 (ldR (Fx F e) S f d).2 (nI d) W L = some (if ¬ (ldR (Fx F e) S f 30).1 = -1 then (if ¬ b = 0 then (ldR (Fx F e) S f 30).2 else (ldR (Fx F e) S f 30).1) else -1, W1, L1) ∧ sM V W1
  | 0, d, u + 1, W, L, h1, h2, hF => by
    have : d = 30 := by omega
    subst this
    refine ⟨W, L, ?_, hF⟩
    show b_Md_led_27 _ _ _ _ _ _ _ _ = _
    unfold b_Md_led_27
    rw [if_pos (by decide)]
    split
    · split <;> rfl
    · rfl
  | n + 1, d, u + 1, W, L, h1, h2, hF => by
    have h12 := h.1.1.1
    have hd : d < 30 := by omega
    have hp := (h.1.2.1 f (by omega)).1
    have hw := dS_lt h.1.2.2.2.1 hd hp
    have hs := h.1.2.2.1 d hd
    have h66 := h.2.2.1.fr (hF 66 (by decide))
    obtain ⟨W1, L1, e1, e2⟩ := gain_m (L := L) (pp := 0) h hF (show f < 12 by omega) hd hs (w := 1 - dS S d (S (170 + 3 * f))) (by omega) (by decide)
    obtain ⟨W2, L2, k1, k2⟩ := gain_m (L := L1) (pp := 0) h e2 (show f < 12 by omega) hd hs hw (by decide)
    obtain ⟨W3, L3, g1, g2⟩ := led_m h hf b n (d + 1) u W2 L2 (by omega) (by omega) k2
    refine ⟨W3, L3, ?_, g2⟩
    rw [← g1]
    show b_Md_led_27 _ _ _ _ _ _ _ _ = _
    unfold b_Md_led_27
    rw [if_neg (show ¬ (30 : Int32) ≤ nI d from nI_ge (b := 30) (by omega) (by decide)), prov_m h66 (by omega), Option.bind_some, dec_m h66 hd hp, Option.bind_some, show (10 : Int32) + nI d = nI (10 + d) from nI_add 10 d, if_pos (xI_ok (by omega) (by decide)), cl (by omega), h66.2 _ (by omega) (by omega), show S (40 + (4 * d + S (170 + 3 * f))) = dS S d (S (170 + 3 * f)) from rfl, one_sub _ hw]
    show Option.bind (f_Md_gainOf _ _ _ _ (nI 0) W L) _ = _
    rw [e1, Option.bind_some, if_pos (xI_ok (by omega) (by decide)), nI_1]
    show Option.bind (f_Md_gainOf _ _ (W1 66 (10 + d)) _ (nI 0) W1 L1) _ = _
    rw [(h.2.2.1.fr (e2 66 (by decide))).2 _ (by omega) (by omega), k1, Option.bind_some]
    show (if ldx (Fx F e) S f d ≤ (ldR (Fx F e) S f d).2 then _ else _) = _
    have st : ldR (Fx F e) S f (d + 1) = if ldx (Fx F e) S f d ≤ (ldR (Fx F e) S f d).2 then ldR (Fx F e) S f d else (nI d, ldx (Fx F e) S f d) := rfl
    rw [st]
    split <;> rfl
theorem op_led : P_led (Inv LW) := by
  intro a b V L hI
  obtain ⟨S, q, F, h, -⟩ := hI.st
  have h12 := h.1.1.1
  rcases folk_w h a with ⟨h1, h2⟩ | ⟨f, hf, rfl, h1, h2⟩
  · refine ⟨-1, V, V, L, ?_, ?_, hI⟩
    · unfold f_Ww_led; rw [h1]; rfl
    · unfold f_Md_led; rw [h2 V rfl]; rfl
  rcases wi b 2 1 2 (by decide) rfl (by decide) with ⟨g1, g2⟩ | ⟨d, hd, rfl, g1, g2⟩
  · refine ⟨-1, V, V, L, ?_, ?_, hI⟩
    · unfold f_Ww_led; rw [h1, g1]; rfl
    · unfold f_Md_led; rw [h2 V rfl, g2]; rfl
  obtain ⟨W1, e1, e2⟩ := led_c h hf (nI d) 30 0 2000 V rfl (by decide) (fC.rf V)
  obtain ⟨W2, L2, k1, k2⟩ := led_m (h.fC e2) hf (nI d) 30 0 2000 W1 L rfl (by decide) (fun _ _ => rfl)
  refine ⟨(if ¬ (ldR (Fx F 6) S f 30).1 = -1 then (if ¬ nI d = 0 then (ldR (Fx F 6) S f 30).2 else (ldR (Fx F 6) S f 30).1) else -1), W1, W2, L2, ?_, ?_, hI.ev e2 k2⟩
  · unfold f_Ww_led
    rw [h1, g1, if_neg (by decide), if_pos (by decide)]; exact e1
  · unfold f_Md_led
    rw [h2 W1 (e2.1 66 (by decide) (by decide) (by decide) (by decide)), g2, if_neg (by decide), if_pos (by decide)]; exact k1

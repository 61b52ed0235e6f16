/-! PURE: the court's answers; of, on, gain -/
theorem SAT.fr {V W W' : xV} {G : Nat → Mn} {S : Nat → Nat} {d p s w t : Nat} (h : SAT V W G S d p s w t) (h1 : ∀ r, r ≠ 53 → r ≠ 54 → W' r = W r) (h2 : ∀ k, k < 6 ∨ k = 10 → W' 54 k = W 54 k) : SAT V W' G S d p s w t := by
  obtain ⟨a1, a2, a3, a4, a5, a6⟩ := h
  exact ⟨⟨fun r r1 r2 r3 r4 => by rw [h1 r r2 r3]; exact a1.1 r r1 r2 r3 r4, by rw [h1 51 (by decide) (by decide)]; exact a1.2⟩, a2.fr (fun k _ => by rw [h1 51 (by decide) (by decide)]) (fun k hk => h2 k (by omega)), by rw [h2 4 (by omega)]; exact a3, by rw [h1 51 (by decide) (by decide)]; exact a4, by rw [h2 10 (by omega)]; exact a5, fun f hf hq => by rw [h1 55 (by decide) (by decide)]; exact a6 f hf hq⟩
theorem btw {x lo hi : Int} (hx : mil x) (hl : mil lo) (hh : mil hi) (hlh : lo ≤ hi) : f_Ww_between (iI x) (iI lo) (iI hi) = iI (cm lo hi x) := by
  unfold f_Ww_between xmax xmin cm
  by_cases c1 : x < hi
  · rw [if_pos ((iI_lt hx hh).mpr c1)]
    by_cases c2 : lo < x
    · rw [if_pos ((iI_lt hl hx).mpr c2), if_neg (show ¬ x < lo by omega), if_neg (show ¬ hi < x by omega)]
    · rw [if_neg (fun z => c2 ((iI_lt hl hx).mp z))]
      by_cases c3 : x < lo
      · rw [if_pos c3]
      · rw [if_neg c3, if_neg (by omega), show x = lo by omega]
  · rw [if_neg (fun z => c1 ((iI_lt hx hh).mp z))]
    by_cases c2 : lo < hi
    · rw [if_pos ((iI_lt hl hh).mpr c2), if_neg (show ¬ x < lo by omega)]
      by_cases c3 : hi < x
      · rw [if_pos c3]
      · rw [if_neg c3, show x = hi by omega]
    · rw [if_neg (fun z => c2 ((iI_lt hl hh).mp z))]
      by_cases c3 : hi < x
      · rw [if_neg (by omega), if_pos c3, show lo = hi by omega]
      · rw [if_neg (by omega), if_neg c3, show x = lo by omega]
section
variable {V W : xV} {S : Nat → Nat} {q e m : Nat} {F : Nat → Mn} {d p w f : Nat}
theorem call_s (h : ST V S q F e m) (hS : SAT V W (Fx F e) S d p (S (10 + d)) w (S (10 + d))) (hf : f < S 0) (hp : S (170 + 3 * f) = p) : ∃ W1, f_Court_call (nI f) W = some W1 ∧ SAT V W1 (Fx F e) S d p (S (10 + d)) w (S (10 + d)) ∧ NM W1 54 S f d (S (10 + d)) w ∧ W1 54 8 = iI (aD (Fx F e) S f d (S (10 + d)) w) := by
  have h12 := h.1.1.1
  refine ⟨_, call_c (show f < 12 by omega), hS.fr (fun r r1 r2 => by rw [x2_ne r2, x2_ne r2, x2_ne r2]) (fun k hk => by rw [x2_off (by omega), x2_off (by omega), x2_off (by omega)]), nm_c h.2.1.2.1 hS.1 hS.2.1 hS.2.2.1 (show f < 12 by omega) hp rfl, ?_⟩
  rw [x2_at]; exact hS.2.2.2.2.2 f hf hp
theorem app_c (h : ST V S q F e m) (hS : SAT V W (Fx F e) S d p (S (10 + d)) w (S (10 + d))) (hd : d < 30) (hw : w < 2) (hf : f < S 0) (hp : S (170 + 3 * f) = p) (hN : NM W 54 S f d (S (10 + d)) w) : ∃ W1, f_Court_comesTo 4 W = some (iI (aA (Fx F e) S f d (S (10 + d)) w), W1) ∧ SAT V W1 (Fx F e) S d p (S (10 + d)) w (S (10 + d)) ∧ ∀ r, r ≠ 53 → W1 r = W r := by
  have h12 := h.1.1.1
  have hs := h.1.2.2.1 d hd
  have hHb := aH_b (e := e) h (p := p) hd hs hw (S 0) h12
  obtain ⟨W1, e1, e2⟩ := comesW (w := 4) h hS.1 (by decide) (nm_4 hN 0 0 _ hS.2.2.2.2.1) (eb_EN h.1.2.1 (show f < 12 by omega) hd hs hw mil0 mil0 (by unfold mil; omega) 4)
  refine ⟨W1, ?_, hS.fr (fun r r1 _ => e2 r r1) (fun k _ => by rw [e2 54 (by decide)]), e2⟩
  unfold aA
  rw [hp]; exact e1
theorem fine_c (h : ST V S q F e m) (hS : SAT V W (Fx F e) S d p (S (10 + d)) w (S (10 + d))) (hd : d < 30) (hw : w < 2) (hf : f < S 0) (hp : S (170 + 3 * f) = p) : ∃ W1, f_Court_fineOf (nI f) W = some (iI (aF (Fx F e) S f d (S (10 + d)) w), W1) ∧ SAT V W1 (Fx F e) S d p (S (10 + d)) w (S (10 + d)) ∧ NM W1 54 S f d (S (10 + d)) w ∧ W1 54 8 = iI (aD (Fx F e) S f d (S (10 + d)) w) := by
  have h12 := h.1.1.1
  have hs := h.1.2.2.1 d hd
  obtain ⟨W1, e1, e2, e3, e4⟩ := call_s h hS hf hp
  obtain ⟨W2, g1, g2, g3⟩ := app_c h e2 hd hw hf hp e3
  have n2 : NM W2 54 S f d (S (10 + d)) w := by unfold NM; rw [g3 54 (by decide)]; exact e3
  have e8 : W2 54 8 = iI (aD (Fx F e) S f d (S (10 + d)) w) := by rw [g3 54 (by decide)]; exact e4
  unfold f_Court_fineOf
  rw [e1, Option.bind_some, g1, Option.bind_some]
  show ∃ W1, (if ¬ iI (aA (Fx F e) S f d (S (10 + d)) w) = 1 then _ else _) = _ ∧ _
  have hbit := aA_bit (e := e) h (show f < 12 by omega) hd hs hw
  have dbit := aD_bit (e := e) h (show f < 12 by omega) hd hs hw
  rcases hbit with z | z
  · have hb := eb_EN h.1.2.1 (show f < 12 by omega) hd hs hw (bit_mil dbit) mil0 mil0 3
    obtain ⟨W3, k1, k2⟩ := comesW (w := 3) h g2.1 (by decide) (nm_3 n2 _ 0 0 e8) hb
    refine ⟨W3, ?_, g2.fr (fun r r1 _ => k2 r r1) (fun k _ => by rw [k2 54 (by decide)]), by unfold NM; rw [k2 54 (by decide)]; exact n2, by rw [k2 54 (by decide)]; exact e8⟩
    rw [if_pos (show ¬ iI (aA (Fx F e) S f d (S (10 + d)) w) = 1 by rw [z]; decide)]
    show Option.bind (f_Court_comesTo (nI 3) W2) _ = _
    rw [k1, Option.bind_some]
    unfold aF
    rw [if_neg (show ¬ aA (Fx F e) S f d (S (10 + d)) w = 1 by omega)]
    show some (f_Ww_between _ (iI 0) (iI 999), _) = _
    rw [btw (rgX h.2.2.2.1 (by decide) hb).1 mil0 (by unfold mil; omega) (by omega)]
  · refine ⟨W2, ?_, g2, n2, e8⟩
    rw [if_neg (fun u => u (by rw [z]; rfl))]
    unfold aF
    rw [if_pos z]; rfl
theorem gain_c {pp : Nat} (h : ST V S q F e m) (hS : SAT V W (Fx F e) S d p (S (10 + d)) w (S (10 + d))) (hd : d < 30) (hw : w < 2) (hpp : pp < 2) (hf : f < S 0) (hp : S (170 + 3 * f) = p) : ∃ W1, f_Court_gainOf (nI f) (nI pp) W = some (iI (aG (Fx F e) S f d (S (10 + d)) w pp), W1) ∧ SAT V W1 (Fx F e) S d p (S (10 + d)) w (S (10 + d)) := by
  have h12 := h.1.1.1
  have hs := h.1.2.2.1 d hd
  obtain ⟨W1, e1, e2, e3, e4⟩ := fine_c h hS hd hw hf hp
  have dbit := aD_bit (e := e) h (show f < 12 by omega) hd hs hw
  have hb := eb_EN h.1.2.1 (show f < 12 by omega) hd hs hw (bit_mil dbit) (wtv_mil (s := S (10 + d)) (pp := pp) hw) mil0 2
  have s2 : SAT V (x2 W1 54 9 (nI (wtv (S (10 + d)) w pp))) (Fx F e) S d p (S (10 + d)) w (S (10 + d)) := e2.fr (fun r _ r2 => x2_ne r2) (fun k hk => x2_off (by omega))
  have n2 : NM (x2 W1 54 9 (nI (wtv (S (10 + d)) w pp))) 54 S f d (S (10 + d)) w := by
    obtain ⟨n0, n1, n4, n5, n6, n7⟩ := e3
    exact ⟨by rw [x2_off (by omega)]; exact n0, by rw [x2_off (by omega)]; exact n1, by rw [x2_off (by omega)]; exact n4, by rw [x2_off (by omega)]; exact n5, by rw [x2_off (by omega)]; exact n6, by rw [x2_off (by omega)]; exact n7⟩
  obtain ⟨W3, k1, k2⟩ := comesW (w := 2) h s2.1 (by decide) (nm_2 n2 _ (wtv (S (10 + d)) w pp) 0 (by rw [x2_off (by omega)]; exact e4) (by rw [x2_at, nI_iI])) hb
  refine ⟨W3, ?_, s2.fr (fun r r1 _ => k2 r r1) (fun k _ => by rw [k2 54 (by decide)])⟩
  have key : b_Court_gainOf_27 (iI (aF (Fx F e) S f d (S (10 + d)) w)) (nI (wtv (S (10 + d)) w pp)) 18 W1 = some (iI (aG (Fx F e) S f d (S (10 + d)) w pp), W3) := by
    unfold b_Court_gainOf_27
    rw [tel 9 (by decide) 18 rfl, Option.bind_some]
    show Option.bind (f_Court_comesTo (nI 2) _) _ = _
    rw [k1, Option.bind_some]
    show some (f_Ww_between _ _ _ - _, _) = _
    rw [n9999.1, n9999.2, btw (rgX h.2.2.2.1 (by decide) hb).1 (by unfold mil; omega) (by unfold mil; omega) (by omega), iI_sub]; rfl
  unfold f_Court_gainOf
  rw [e1, Option.bind_some]
  show (if nI pp = 0 then b_Court_gainOf_27 _ (W1 51 8) 18 W1 else b_Court_gainOf_27 _ (W1 51 9) 18 W1) = _
  rw [e2.2.1.2.1, e2.2.1.2.2.1, ← key]
  unfold wtv
  by_cases c : pp = 0
  · rw [if_pos (show nI pp = 0 by rw [c]; rfl), if_pos c]
  · rw [if_neg (nI_ne0 (by omega) (by omega)), if_neg c]
end
theorem RL.fr {V V' : xV} {q : Nat} {F : Nat → Mn} (h : RL V q F) (h1 : V' 1 = V 1) (h2 : ∀ r, 20 ≤ r → r < 46 → V' r = V r) (h3 : V' 66 = V 66) (h4 : ∀ r, 69 ≤ r → r < 74 → V' r = V r) : RL V' q F := by
  obtain ⟨a1, a2, a3, a4⟩ := h
  refine ⟨fun W hW => a1 W (hW.trans h1), a2, fun w hw => ⟨fun W hW => (a3 w hw).1 W (fun r r1 r2 => (hW r r1 r2).trans (h2 r r1 r2)), (a3 w hw).2⟩, ?_⟩
  rcases a4 with ⟨b1, b2⟩ | ⟨j, b1, b2, b3, b4, b5⟩
  · exact Or.inl ⟨by rw [h3]; exact b1, b2⟩
  · refine Or.inr ⟨j, b1, by rw [h3]; exact b2, b3, b4.fr b1 (fun r _ _ => h2 r (by omega) (by omega)) h4, fun w hw => ?_⟩
    have := b5 w hw
    refine ⟨fun z => by rw [h4 70 (by omega) (by omega)]; exact this.1 z, fun v hv => ?_⟩
    rw [h4 70 (by omega) (by omega)]
    exact ⟨(this.2 v hv).1, fun W hW => (this.2 v hv).2 W (fun r r1 r2 => (hW r r1 r2).trans (h4 r r1 r2))⟩
theorem ST.fr {V V' : xV} {S : Nat → Nat} {q e m : Nat} {F : Nat → Mn} (h : ST V S q F e m) (h1 : ∀ r, r < 46 → V' r = V r) (h2 : V' 66 = V 66) (h3 : ∀ r, 69 ≤ r → r < 74 → V' r = V r) (e' m' : Nat) (h4 : V' 51 1 = xo e') (h5 : V' 65 35 = xo m') : ST V' S q F e' m' := ⟨h.1, h.2.1.fr (fun r _ _ => h1 r (by omega)), h.2.2.1.fr h2, h.2.2.2.1.fr (h1 1 (by omega)) (fun r _ _ => h1 r (by omega)) h2 h3, h4, h5⟩
theorem ST.fC {V V' : xV} {S : Nat → Nat} {q e m : Nat} {F : Nat → Mn} (h : ST V S q F e m) (hF : fC V V') : ST V' S q F e m := h.fr (fun r _ => hF.1 r (by omega) (by omega) (by omega) (by omega)) (hF.1 66 (by omega) (by omega) (by omega) (by omega)) (fun r _ _ => hF.1 r (by omega) (by omega) (by omega) (by omega)) e m (by rw [hF.2]; exact h.2.2.2.2.1) (by rw [hF.1 65 (by omega) (by omega) (by omega) (by omega)]; exact h.2.2.2.2.2)
theorem Inv.st {V : xV} {L : xL} (h : Inv LW V L) : ∃ S q F, ST V S q F 6 6 ∧ S 3 ≤ S 2 := by
  obtain ⟨S, K, a1, a2, a3, a4, a5, a6, a7, a8, a9, a10, a11⟩ := h
  obtain ⟨q, F, hR⟩ := ruling a3.1 a4.1 a1.1 a10 a11
  exact ⟨S, q, F, ⟨a1, a3, a4, hR, a10.1, a10.2.1⟩, a1.1.2.2.2⟩
theorem Inv.ev {V V1 V2 : xV} {L L2 : xL} (h : Inv LW V L) (h1 : fC V V1) (h2 : sM V1 V2) : Inv LW V2 L2 :=
  h.scratch lwF_LW (fun r hr => by rw [h2 r (by omega)]; exact h1.1 r (by omega) (by omega) (by omega) (by omega)) (fun k _ => by rw [h2 46 (by omega), h1.1 46 (by omega) (by omega) (by omega) (by omega)]) (by rw [h2 51 (by omega)]; exact h1.2) (fun k _ => by rw [h2 65 (by omega), h1.1 65 (by omega) (by omega) (by omega) (by omega)]) (fun r _ _ => by rw [h2 r (by omega)]; exact h1.1 r (by omega) (by omega) (by omega) (by omega))
theorem fC.rf (V : xV) : fC V V := ⟨fun _ _ _ _ _ => rfl, rfl⟩
theorem asIs_c {V W : xV} {S : Nat → Nat} {q e m : Nat} {F : Nat → Mn} (h : ST V S q F e m) (hF : fC V W) {d p : Nat} (hd : d < 30) (hp : p < 4) : ∃ W', f_Court_sitAsItIs (nI d) (nI p) W = some W' ∧ SAT V W' (Fx F e) S d p (S (10 + d)) (dS S d p) (S (10 + d)) := by
  have hw : dS S d p < 2 := h.1.2.2.2.1 (4 * d + p) (by omega)
  obtain ⟨W', e1, e2⟩ := sit_c h hF hd hp hw
  refine ⟨W', ?_, e2⟩
  unfold f_Court_sitAsItIs
  rw [dec_c (h.2.1.2.2.2.1.fr (hF.1 6 (by decide) (by decide) (by decide) (by decide)) (fun _ _ _ => rfl)) hd hp, Option.bind_some, show S (40 + (4 * d + p)) = dS S d p from rfl, e1, Option.bind_some]
theorem op_of : P_of (Inv LW) := by
  intro a b c V L hI
  obtain ⟨S, q, F, h, -⟩ := hI.st
  rcases wi a 30 29 30 (by decide) rfl (by decide) with ⟨h1, h2⟩ | ⟨d, hd, rfl, h1, h2⟩
  · refine ⟨-1, V, V, L, ?_, ?_, hI⟩
    · unfold f_Ww_of; rw [h1]; rfl
    · unfold f_Md_of f_Md_isDay; rw [h2]; rfl
  rcases wi b 4 3 4 (by decide) rfl (by decide) with ⟨g1, g2⟩ | ⟨p, hp, rfl, g1, g2⟩
  · refine ⟨-1, V, V, L, ?_, ?_, hI⟩
    · unfold f_Ww_of; rw [h1, g1]; rfl
    · unfold f_Md_of f_Md_isDay f_Md_isProvince; rw [h2, g2]; rfl
  have A : ∀ X : Int32 × xV, f_Ww_of (nI d) (nI p) c V = (if c = 0 then some (nI (S (10 + d)), V) else if c = 1 then some (nI (dS S d p), V) else if c = 2 then (Option.bind (f_Court_sitAsItIs (nI d) (nI p) V) fun p11 => some (p11 51 0, p11)) else some (-1, V)) := by
    intro _
    unfold f_Ww_of
    rw [h1, g1, if_neg (by decide), if_pos (by decide), if_pos (xI_ok hd (by decide)), cl (by omega), show V 5 d = _ from h.2.1.2.2.1 d hd, dec_c h.2.1.2.2.2.1 hd hp, Option.bind_some]; rfl
  have B : ∀ W : xV, W 66 = V 66 → f_Md_of (nI d) (nI p) c W L = (if c = 0 then some (nI (S (10 + d)), W, L) else if c = 1 then some (nI (dS S d p), W, L) else if c = 2 then (Option.bind (f_Md_hats (nI p) (nI d) (nI (S (10 + d))) (nI (dS S d p)) W L) fun p14 => some (p14.1, p14.2.1, p14.2.2)) else some (-1, W, L)) := by
    intro W hW
    unfold f_Md_of f_Md_isDay f_Md_isProvince
    rw [h2, g2, if_neg (by decide), if_pos (by decide), show (10 : Int32) + nI d = nI (10 + d) from nI_add 10 d, if_pos (xI_ok (by omega) (by decide)), if_pos (xI_ok (by omega) (by decide)), cl (by omega), (h.2.2.1.fr hW).2 _ (by omega) (by omega), dec_m (h.2.2.1.fr hW) hd hp, Option.bind_some, Option.bind_some]; rfl
  by_cases c0 : c = 0
  · exact ⟨_, V, V, L, by rw [A (0, V), if_pos c0], by rw [B V rfl, if_pos c0], hI⟩
  by_cases c1 : c = 1
  · exact ⟨_, V, V, L, by rw [A (0, V), if_neg c0, if_pos c1], by rw [B V rfl, if_neg c0, if_pos c1], hI⟩
  by_cases c2 : c = 2
  · obtain ⟨W1, e1, e2⟩ := asIs_c h (fC.rf V) hd hp
    have h' := h.fC e2.1
    obtain ⟨W2, L2, k1, k2⟩ := hats_f (L := L) h' (W := W1) (fun _ _ => rfl) hp hd (h.1.2.2.1 d hd) (show dS S d p < 2 from h.1.2.2.2.1 (4 * d + p) (by omega))
    refine ⟨iI (aH (Fx F 6) S p d (S (10 + d)) (dS S d p) (S 0)), W1, W2, L2, ?_, ?_, hI.ev e2.1 k2⟩
    · rw [A (0, V), if_neg c0, if_neg c1, if_pos c2, e1, Option.bind_some, e2.2.2.2.1]
    · rw [B W1 (e2.1.1 66 (by decide) (by decide) (by decide) (by decide)), if_neg c0, if_neg c1, if_pos c2, k1, Option.bind_some]
  · exact ⟨_, V, V, L, by rw [A (0, V), if_neg c0, if_neg c1, if_neg c2], by rw [B V rfl, if_neg c0, if_neg c1, if_neg c2], hI⟩

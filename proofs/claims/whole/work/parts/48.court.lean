/-! PURE: gains of the model; the class's court -/
theorem aF_mil {V : xV} {S : Nat → Nat} {q e a b : Nat} {F : Nat → Mn} (h : ST V S q F a b) {f d s w : Nat} (hf : f < 12) (hd : d < 30) (hs : s < 10) (hw : w < 2) : 0 ≤ aF (Fx F e) S f d s w ∧ aF (Fx F e) S f d s w ≤ 999 := by
  unfold aF cm
  repeat' split
  all_goals omega
theorem wtv_lt {s w pp : Nat} (hw : w < 2) : wtv s w pp < 2 := by
  unfold wtv
  repeat' split
  all_goals omega
theorem n9999 : (-9999 : Int32) = iI (-9999) ∧ (9999 : Int32) = iI 9999 := by decide +kernel
theorem wtv_mil {s w pp : Nat} (hw : w < 2) : mil (wtv s w pp : Int) := by have := wtv_lt (s := s) (pp := pp) hw; unfold mil; omega
theorem gain65_m {V W : xV} {L : xL} {S : Nat → Nat} {q e m : Nat} {F : Nat → Mn} (h : ST V S q F m e) (hW : sM V W) {f d s w pp : Nat} (hf : f < 12) (hd : d < 30) (hs : s < 10) (hw : w < 2) (hn : NM W 82 S f d s w) (h8 : W 82 8 = iI (aD (Fx F e) S f d s w)) : ∃ W1 L1, b_Md_gainOf_65 (iI (aF (Fx F e) S f d s w)) (nI (wtv s w pp)) 9 W L = some (iI (aG (Fx F e) S f d s w pp), W1, L1) ∧ sM V W1 := by
  obtain ⟨r1, r2, r3, r4, r5, r6⟩ := id h
  have s1 : sM V (x2 W 82 9 (nI (wtv s w pp))) := fun r hr => by rw [x2_ne hr]; exact hW r hr
  have hh := hasM (w := 2) (W := x2 W 82 9 (nI (wtv s w pp))) (e := e) r4 (by decide) (s1 66 (by decide)) (fun r _ _ => s1 r (by omega)) (by rw [s1 65 (by decide)]; exact r6)
  have hbit := aD_bit (e := e) h hf hd hs hw
  have hb := eb_EN r1.2.1 hf hd hs hw (bit_mil hbit) (wtv_mil (s := s) (pp := pp) hw) mil0 2
  have hm := (rgX (e := e) r4 (w := 2) (by decide) hb).1
  unfold b_Md_gainOf_65
  rw [if_pos (show xI 9 13 = true from rfl), show (9 : Int32).toNatClampNeg = 9 from rfl]
  show ∃ W1 L1, Option.bind (f_Md_hasClause (nI 2) _) _ = _ ∧ _
  rw [hh, Option.bind_some]
  rcases so01 (Fx F e 2) with c | ⟨c, c'⟩
  · obtain ⟨L3, k1⟩ := saysM (W := x2 W 82 9 (nI (wtv s w pp))) (L := L) (e := e) r4 (w := 2) (by decide) (s1 66 (by decide)) (fun r _ _ => s1 r (by omega)) c (nm_2 (nm_set hn (by omega)) _ (wtv s w pp) 0 (by rw [x2_off (by omega)]; exact h8) (by rw [x2_at, nI_iI])) hb
    refine ⟨x2 W 82 9 (nI (wtv s w pp)), L3, ?_, s1⟩
    rw [c, if_neg (by decide)]
    show Option.bind (f_Md_says (nI 2) _ L) _ = _
    rw [k1, Option.bind_some]
    have e9 : f_Md_held (lI (vl (Fx F e 2) (EN S f d s w (aD (Fx F e) S f d s w) (wtv s w pp) 0))) (-9999) 9999 = iI (cm (-9999) 9999 (vl (Fx F e 2) (EN S f d s w (aD (Fx F e) S f d s w) (wtv s w pp) 0))) := by
      rw [n9999.1, n9999.2]
      exact held_m hm (-9999) 9999 (by unfold mil; omega) (by unfold mil; omega) (by omega)
    show some (f_Md_held _ _ _ - _, _, _) = _
    rw [e9, iI_sub]; rfl
  · refine ⟨x2 W 82 9 (nI (wtv s w pp)), L, ?_, s1⟩
    rw [c, if_pos (by decide), show (0 : Int32) = iI 0 from rfl, iI_sub]
    unfold aG
    rw [c']; rfl
theorem gain_m {V W : xV} {L : xL} {S : Nat → Nat} {q e m : Nat} {F : Nat → Mn} (h : ST V S q F m e) (hW : sM V W) {f d s w pp : Nat} (hf : f < 12) (hd : d < 30) (hs : s < 10) (hw : w < 2) (hpp : pp < 2) : ∃ W1 L1, f_Md_gainOf (nI f) (nI d) (nI s) (nI w) (nI pp) W L = some (iI (aG (Fx F e) S f d s w pp), W1, L1) ∧ sM V W1 := by
  obtain ⟨W1, L1, e1, e2⟩ := fine_m (L := L) h hW hf hd hs hw
  obtain ⟨W2, L2, g1, g2, g3⟩ := does_m h e2 L1 hf hd hs hw
  have s3 : sM V (x2 W2 82 8 (iI (aD (Fx F e) S f d s w))) := fun r hr => by rw [x2_ne hr]; exact g2 r hr
  obtain ⟨W3, L3, k1, k2⟩ := gain65_m (L := L2) (pp := pp) h s3 hf hd hs hw (nm_set g3 (by omega)) (x2_at _ _ _ _)
  refine ⟨W3, L3, ?_, k2⟩
  have key : b_Md_gainOf_38 (nI s) (nI w) (nI pp) (iI (aF (Fx F e) S f d s w)) (iI (aD (Fx F e) S f d s w)) 8 W2 L2 = some (iI (aG (Fx F e) S f d s w pp), W3, L3) := by
    rw [← k1]
    unfold b_Md_gainOf_38 wtv
    rw [if_pos (show xI 8 13 = true from rfl), show (8 : Int32).toNatClampNeg = 8 from rfl]
    by_cases c : pp = 0
    · rw [if_pos (show nI pp = 0 by rw [c]; rfl), if_pos c]
      by_cases c2 : s < 5
      · rw [if_pos (show nI s < 5 from nI_lt (b := 5) c2 (by decide)), if_pos c2]; rfl
      · rw [if_neg (show ¬ nI s < 5 from nI_nlt (b := 5) (by omega) (by omega)), if_neg c2]; rfl
    · rw [if_neg (nI_ne0 (by omega) (by omega)), if_neg c]
  unfold f_Md_gainOf
  rw [e1, Option.bind_some]
  show Option.bind (f_Md_does _ _ _ _ W1 L1) _ = _
  rw [g1, Option.bind_some]
  show (if iI (aD (Fx F e) S f d s w) = 0 then _ else _) = _
  rcases aD_bit (e := e) h hf hd hs hw with y | y
  · rw [if_pos (show iI (aD (Fx F e) S f d s w) = 0 by rw [y]; rfl), ← key, show iI (aD (Fx F e) S f d s w) = 0 by rw [y]; rfl]
  · rw [if_neg (show ¬ iI (aD (Fx F e) S f d s w) = 0 by rw [y]; decide), ← key, show iI (aD (Fx F e) S f d s w) = 1 by rw [y]; rfl]
/-- the day as it is -/
def dS (S : Nat → Nat) (d p : Nat) : Nat := S (40 + (4 * d + p))
theorem asIs_m {V W : xV} {L : xL} {S : Nat → Nat} {q e m : Nat} {F : Nat → Mn} (h : ST V S q F m e) (hW : sM V W) {f d pp : Nat} (hf : f < 12) (hd : d < 30) (hpp : pp < 2) : ∃ W1 L1, f_Md_gainAsIs (nI f) (nI d) (nI pp) W L = some (iI (aG (Fx F e) S f d (S (10 + d)) (dS S d (S (170 + 3 * f))) pp), W1, L1) ∧ sM V W1 := by
  have hp := (h.1.2.1 f hf).1
  have hw : dS S d (S (170 + 3 * f)) < 2 := h.1.2.2.2.1 (4 * d + S (170 + 3 * f)) (by omega)
  obtain ⟨W1, L1, e1, e2⟩ := gain_m (L := L) h hW hf hd (h.1.2.2.1 d hd) hw hpp
  refine ⟨W1, L1, ?_, e2⟩
  have h66 := h.2.2.1.fr (hW 66 (by decide))
  unfold f_Md_gainAsIs
  rw [show (10 : Int32) + nI d = nI (10 + d) from nI_add 10 d, if_pos (xI_ok (by omega) (by decide)), prov_m h66 hf, Option.bind_some, dec_m h66 hd hp, Option.bind_some, cl (by omega), h66.2 _ (by omega) (by omega), show S (40 + (4 * d + S (170 + 3 * f))) = dS S d (S (170 + 3 * f)) from rfl, e1, Option.bind_some]
/-! the class -/
theorem tel {V : xV} {a : Int32} (k : Nat) (hk : k < 13) (x : Int32) (hx : x = nI (9 + k)) : f_Bench_tell x a V = some (x2 V 54 k a) := by
  subst hx
  unfold f_Bench_tell
  rw [show nI (9 + k) - 9 = nI k by rw [show (9 : Int32) = nI 9 from rfl, pk_sub (by omega)]; congr 1; omega, show (13 : Int32) = nI 13 from rfl, within_in hk (by decide), if_neg (by decide), if_pos (xI_ok hk (by decide)), cl (by omega)]
theorem call_c {W : xV} {f : Nat} (hf : f < 12) : f_Court_call (nI f) W = some (x2 (x2 (x2 W 54 6 (W 3 f)) 54 7 (W 4 f)) 54 8 (W 55 f)) := by
  unfold f_Court_call
  rw [show (12 : Int32) = nI 12 from rfl, within_in hf (by decide), if_neg (by decide), if_pos (xI_ok hf (by decide)), cl (by omega), tel 6 (by decide) 15 rfl, Option.bind_some, if_pos (xI_ok hf (by decide)), x2_ne (by decide), tel 7 (by decide) 16 rfl, Option.bind_some, if_pos (xI_ok hf (by decide)), x2_ne (by decide), x2_ne (by decide), tel 8 (by decide) 17 rfl, Option.bind_some]
/-- the court as it sits -/
def fC (V W : xV) : Prop := (∀ r, r ≠ 51 → r ≠ 53 → r ≠ 54 → r ≠ 55 → W r = V r) ∧ W 51 1 = V 51 1
def sb (W : xV) (d p s w : Nat) : Prop := W 51 7 = nI p ∧ W 51 8 = nI (if s < 5 then 0 else 1) ∧ W 51 9 = nI w ∧ W 54 0 = nI d ∧ W 54 1 = nI p ∧ W 54 5 = nI w
def SAT (V W : xV) (G : Nat → Mn) (S : Nat → Nat) (d p s w t : Nat) : Prop := fC V W ∧ sb W d p s w ∧ W 54 4 = nI t ∧ W 51 0 = iI (aH G S p d s w (S 0)) ∧ W 54 10 = iI (aH G S p d s w (S 0)) ∧ ∀ f, f < S 0 → S (170 + 3 * f) = p → W 55 f = iI (aD G S f d s w)
theorem sb.fr {W W' : xV} {d p s w : Nat} (h : sb W d p s w) (h1 : ∀ k, k ≠ 0 → W' 51 k = W 51 k) (h2 : ∀ k, k < 6 → W' 54 k = W 54 k) : sb W' d p s w := by
  unfold sb
  rw [h1 7 (by omega), h1 8 (by omega), h1 9 (by omega), h2 0 (by omega), h2 1 (by omega), h2 5 (by omega)]; exact h
theorem nm_c {V W W1 : xV} {S : Nat → Nat} {d p s w t f : Nat} (hpc : pF V 1 S) (hF : fC V W) (hb : sb W d p s w) (h4 : W 54 4 = nI t) (hf : f < 12) (hp : S (170 + 3 * f) = p) (h1 : W1 = x2 (x2 (x2 W 54 6 (W 3 f)) 54 7 (W 4 f)) 54 8 (W 55 f)) : NM W1 54 S f d t w := by
  subst h1
  obtain ⟨b1, b2, b3, b4, b5, b6⟩ := hb
  obtain ⟨-, f2, f3⟩ := hpc f hf
  refine ⟨?_, ?_, ?_, ?_, ?_, ?_⟩
  · rw [x2_off (by omega), x2_off (by omega), x2_off (by omega)]; exact b4
  · rw [x2_off (by omega), x2_off (by omega), x2_off (by omega), hp]; exact b5
  · rw [x2_off (by omega), x2_off (by omega), x2_off (by omega)]; exact h4
  · rw [x2_off (by omega), x2_off (by omega), x2_off (by omega)]; exact b6
  · rw [x2_off (by omega), x2_off (by omega), x2_at, hF.1 3 (by decide) (by decide) (by decide) (by decide)]; exact f2
  · rw [x2_off (by omega), x2_at, hF.1 4 (by decide) (by decide) (by decide) (by decide)]; exact f3
theorem comesW {V W : xV} {q e m w : Nat} {S : Nat → Nat} {F : Nat → Mn} {env : Nat → Int} (h : ST V S q F e m) (hF : fC V W) (hw : w < 6) (he : eC w W env) (hb : eb w env) : ∃ W', f_Court_comesTo (nI w) W = some (iI (vl (Fx F e w) env), W') ∧ ∀ r, r ≠ 53 → W' r = W r :=
  comes h.2.2.2.1 hw (hF.1 1 (by decide) (by decide) (by decide) (by decide)) (fun r _ _ => hF.1 r (by omega) (by omega) (by omega) (by omega)) (by rw [hF.2]; exact h.2.2.2.2.1) he hb
theorem sit_l {V : xV} {S : Nat → Nat} {q e m : Nat} {F : Nat → Mn} (h : ST V S q F e m) {d p w : Nat} (hd : d < 30) (hp : p < 4) (hw : w < 2) : ∀ (n i f : Nat) (W : xV), i + n = S 0 → n < f → fC V W → sb W d p (S (10 + d)) w → W 54 4 = nI (S (10 + d)) → W 51 0 = iI (aH (Fx F e) S p d (S (10 + d)) w i) → (∀ f, f < i → S (170 + 3 * f) = p → W 55 f = iI (aD (Fx F e) S f d (S (10 + d)) w)) → ∃ W', g_Court_sit_90 f (nI i) W = some W' ∧ SAT V W' (Fx F e) S d p (S (10 + d)) w (S (10 + d))
  | 0, i, f + 1, W, h1, h2, hF, hb, h4, h0, ha => by
    have h12 := h.1.1.1
    have : i = S 0 := by omega
    subst this
    refine ⟨x2 W 54 10 (W 51 0), ?_, ?_⟩
    · show b_Court_sit_90 _ _ _ = _
      unfold b_Court_sit_90
      rw [hF.1 1 (by decide) (by decide) (by decide) (by decide), h.2.1.1.1, if_pos (nI_le (Nat.le_refl _) (by omega)), tel 10 (by decide) 19 rfl, Option.bind_some]
    · exact ⟨⟨fun r r1 r2 r3 r4 => by rw [x2_ne r3]; exact hF.1 r r1 r2 r3 r4, by rw [x2_ne (by decide)]; exact hF.2⟩, hb.fr (fun k _ => by rw [x2_ne (by decide)]) (fun k hk => x2_off (by omega)), by rw [x2_off (by omega)]; exact h4, by rw [x2_ne (by decide)]; exact h0, by rw [x2_at]; exact h0, fun f hf hq => by rw [x2_ne (by decide)]; exact ha f hf hq⟩
  | n + 1, i, f + 1, W, h1, h2, hF, hb, h4, h0, ha => by
    have h12 := h.1.1.1
    have hs := h.1.2.2.1 d hd
    have hi := (h.1.2.1 i (by omega)).1
    have e2 : W 2 i = nI (S (170 + 3 * i)) := by rw [hF.1 2 (by decide) (by decide) (by decide) (by decide)]; exact (h.2.1.2.1 i (by omega)).1
    have st : aH (Fx F e) S p d (S (10 + d)) w (i + 1) = aH (Fx F e) S p d (S (10 + d)) w i + if S (170 + 3 * i) = p then aD (Fx F e) S i d (S (10 + d)) w else 0 := rfl
    by_cases c : S (170 + 3 * i) = p
    · rw [if_pos c] at st
      have nm := nm_c (W1 := x2 (x2 (x2 W 54 6 (W 3 i)) 54 7 (W 4 i)) 54 8 (W 55 i)) h.2.1.2.1 hF hb h4 (show i < 12 by omega) c rfl
      have hF1 : fC V (x2 (x2 (x2 W 54 6 (W 3 i)) 54 7 (W 4 i)) 54 8 (W 55 i)) := ⟨fun r r1 r2 r3 r4 => by rw [x2_ne r3, x2_ne r3, x2_ne r3]; exact hF.1 r r1 r2 r3 r4, by rw [x2_ne (by decide), x2_ne (by decide), x2_ne (by decide)]; exact hF.2⟩
      obtain ⟨W2, g1, g2⟩ := comesW (w := 1) h hF1 (by decide) (nm_1 nm 0 0 0) (eb_EN h.1.2.1 (show i < 12 by omega) hd hs hw mil0 mil0 mil0 1)
      have u : ∀ r, r ≠ 53 → r ≠ 54 → W2 r = W r := fun r r1 r2 => by rw [g2 r r1, x2_ne r2, x2_ne r2, x2_ne r2]
      have u54 : ∀ k, k < 6 → W2 54 k = W 54 k := fun k hk => by rw [g2 54 (by decide), x2_off (by omega), x2_off (by omega), x2_off (by omega)]
      obtain ⟨W', k1, k2⟩ := sit_l h hd hp hw n (i + 1) f (x2 (x2 W2 55 i (iI (aD (Fx F e) S i d (S (10 + d)) w))) 51 0 (iI (aH (Fx F e) S p d (S (10 + d)) w (i + 1)))) (by omega) (by omega) ⟨fun r r1 r2 r3 r4 => by rw [x2_ne r1, x2_ne r4, u r r2 r3]; exact hF.1 r r1 r2 r3 r4, by rw [x2_off (by omega), x2_ne (by decide), u 51 (by decide) (by decide)]; exact hF.2⟩ (hb.fr (fun k hk => by rw [x2_off (by omega), x2_ne (by decide), u 51 (by decide) (by decide)]) (fun k hk => by rw [x2_ne (by decide), x2_ne (by decide)]; exact u54 k hk)) (by rw [x2_ne (by decide), x2_ne (by decide), u54 4 (by decide)]; exact h4) (x2_at _ _ _ _) (fun f' hf' hq => by
        rw [x2_ne (by decide)]
        by_cases z : f' = i
        · subst z; rw [x2_at]
        · rw [x2_off (by omega), u 55 (by decide) (by decide)]; exact ha f' (by omega) hq)
      refine ⟨W', ?_, k2⟩
      rw [← k1]
      show b_Court_sit_90 _ _ _ = _
      unfold b_Court_sit_90
      rw [hF.1 1 (by decide) (by decide) (by decide) (by decide), h.2.1.1.1, if_neg (nI_ge (by omega) (by omega)), if_neg (show ¬ (12 : Int32) ≤ nI i from nI_ge (b := 12) (by omega) (by decide)), if_pos (xI_ok (show i < 12 by omega) (by decide)), cl (by omega), e2, hb.1, if_neg (fun z => z (by rw [c])), call_c (by omega), Option.bind_some]
      show Option.bind (f_Court_comesTo (nI 1) _) _ = _
      rw [g1, Option.bind_some, if_pos (xI_ok (show i < 12 by omega) (by decide)), if_pos (xI_ok (show i < 12 by omega) (by decide)), nI_1]
      show g_Court_sit_90 f _ (x2 (x2 W2 55 i _) 51 0 (x2 W2 55 i _ 51 0 + x2 W2 55 i _ 55 i)) = _
      rw [x2_at, x2_ne (by decide), u 51 (by decide) (by decide), h0, st]
      show g_Court_sit_90 f _ (x2 (x2 W2 55 i (iI (aD (Fx F e) S i d (S (10 + d)) w))) 51 0 (iI _ + iI (aD (Fx F e) S i d (S (10 + d)) w))) = _
      rw [iI_add]
    · rw [if_neg c, Int.add_zero] at st
      obtain ⟨W', k1, k2⟩ := sit_l h hd hp hw n (i + 1) f W (by omega) (by omega) hF hb h4 (by rw [st]; exact h0) (fun f' hf' hq => by
        by_cases z : f' = i
        · rw [z] at hq; exact absurd hq c
        · exact ha f' (by omega) hq)
      refine ⟨W', ?_, k2⟩
      rw [← k1]
      show b_Court_sit_90 _ _ _ = _
      unfold b_Court_sit_90
      rw [hF.1 1 (by decide) (by decide) (by decide) (by decide), h.2.1.1.1, if_neg (nI_ge (by omega) (by omega)), if_neg (show ¬ (12 : Int32) ≤ nI i from nI_ge (b := 12) (by omega) (by decide)), if_pos (xI_ok (show i < 12 by omega) (by decide)), cl (by omega), e2, hb.1, if_pos (fun z => c (nI_small (by omega) (by omega) z)), nI_1]
theorem sit_c {V W : xV} {S : Nat → Nat} {q e m : Nat} {F : Nat → Mn} (h : ST V S q F e m) (hF : fC V W) {d p w : Nat} (hd : d < 30) (hp : p < 4) (hw : w < 2) : ∃ W', f_Court_sit (nI d) (nI p) (nI w) W = some W' ∧ SAT V W' (Fx F e) S d p (S (10 + d)) w (S (10 + d)) := by
  have h12 := h.1.1.1
  have hs := h.1.2.2.1 d hd
  obtain ⟨W', k1, k2⟩ := sit_l h hd hp hw (S 0) 0 2000 (x2 (x2 (x2 (x2 (x2 (x2 (x2 (x2 W 51 7 (nI p)) 51 9 (nI w)) 51 8 (nI (if S (10 + d) < 5 then 0 else 1))) 54 0 (nI d)) 54 1 (nI p)) 54 4 (nI (S (10 + d)))) 54 5 (nI w)) 51 0 0) (by omega) (by omega) ⟨fun r r1 r2 r3 r4 => by rw [x2_ne r1, x2_ne r3, x2_ne r3, x2_ne r3, x2_ne r3, x2_ne r1, x2_ne r1, x2_ne r1]; exact hF.1 r r1 r2 r3 r4, by simp [x2]; exact hF.2⟩ (by refine ⟨?_, ?_, ?_, ?_, ?_, ?_⟩ <;> simp [x2]) (by simp [x2]) (by rw [x2_at]; rfl) (fun f hf => absurd hf (Nat.not_lt_zero _))
  refine ⟨W', ?_, k2⟩
  rw [← k1]
  have sk : f_Rolls_skyOf (nI d) W = some (nI (S (10 + d))) := sky_c (h.2.1.2.2.1.fr (hF.1 5 (by decide) (by decide) (by decide) (by decide)) (fun _ _ _ => rfl)) hd
  have body : ∀ b : Nat, b_Court_sit_32 (nI d) (nI (S (10 + d))) (nI b) (x2 (x2 W 51 7 (nI p)) 51 9 (nI w)) = g_Court_sit_90 2000 (nI 0) (x2 (x2 (x2 (x2 (x2 (x2 (x2 (x2 W 51 7 (nI p)) 51 9 (nI w)) 51 8 (nI b)) 54 0 (nI d)) 54 1 (nI p)) 54 4 (nI (S (10 + d)))) 54 5 (nI w)) 51 0 0) := by
    intro b
    unfold b_Court_sit_32
    rw [tel 0 (by decide) 9 rfl, Option.bind_some, show x2 (x2 (x2 (x2 W 51 7 (nI p)) 51 9 (nI w)) 51 8 (nI b)) 54 0 (nI d) 51 7 = nI p by simp [x2], tel 1 (by decide) 10 rfl, Option.bind_some, tel 4 (by decide) 13 rfl, Option.bind_some, show x2 (x2 (x2 (x2 (x2 (x2 W 51 7 (nI p)) 51 9 (nI w)) 51 8 (nI b)) 54 0 (nI d)) 54 1 (nI p)) 54 4 (nI (S (10 + d))) 51 9 = nI w by simp [x2], tel 5 (by decide) 14 rfl, Option.bind_some]
    rfl
  unfold f_Court_sit
  rw [sk, Option.bind_some]
  by_cases c : S (10 + d) < 5
  · rw [if_pos (show nI (S (10 + d)) < 5 from nI_lt (b := 5) c (by decide)), if_pos c]; exact body 0
  · rw [if_neg (show ¬ nI (S (10 + d)) < 5 from nI_nlt (b := 5) (by omega) (by omega)), if_neg c]; exact body 1

/-! PURE: gains of a province; tolls -/
def gp (G : Nat → Mn) (S : Nat → Nat) (p d w f : Nat) : Int := if S (170 + 3 * f) = p then aG G S f d (S (10 + d)) w 0 else 0
def gB (G : Nat → Mn) (S : Nat → Nat) (p d w : Nat) : Int := sd (gp G S p d w) (S 0) 0
theorem pg_c {V : xV} {S : Nat → Nat} {q e m : Nat} {F : Nat → Mn} (h : ST V S q F e m) {d p w : Nat} (hd : d < 30) (hp : p < 4) (hw : w < 2) : ∀ (n i u : Nat) (acc : Int) (W : xV), i + n = S 0 → n < u → SAT V W (Fx F e) S d p (S (10 + d)) w (S (10 + d)) → ∃ W', g_Court_provinceGain_13 u (iI acc) (nI i) W = some (iI (acc + sd (gp (Fx F e) S p d w) n i), W') ∧ fC V W'
  | 0, i, u + 1, acc, W, h1, h2, hS => by
    have h12 := h.1.1.1
    refine ⟨W, ?_, hS.1⟩
    show b_Court_provinceGain_13 _ _ _ _ = _
    unfold b_Court_provinceGain_13
    rw [hS.1.1 1 (by decide) (by decide) (by decide) (by decide), h.2.1.1.1, if_pos (nI_le (by omega) (by omega))]
    show _ = some (iI (acc + 0), _)
    rw [Int.add_zero]
  | n + 1, i, u + 1, acc, W, h1, h2, hS => by
    have h12 := h.1.1.1
    have hi := (h.1.2.1 i (by omega)).1
    have hm := home_c (V := V) (W := W) h.2.1.2.1 (hS.1.1 2 (by decide) (by decide) (by decide) (by decide)) (show i < 12 by omega)
    by_cases c : S (170 + 3 * i) = p
    · have eg : gp (Fx F e) S p d w i = aG (Fx F e) S i d (S (10 + d)) w 0 := if_pos c
      obtain ⟨W1, k1, k2⟩ := gain_c (pp := 0) h hS hd hw (by decide) (show i < S 0 by omega) c
      obtain ⟨W2, b1, b2⟩ := pg_c h hd hp hw n (i + 1) u (acc + aG (Fx F e) S i d (S (10 + d)) w 0) W1 (by omega) (by omega) k2
      refine ⟨W2, ?_, b2⟩
      show _ = some (iI (acc + (gp (Fx F e) S p d w i + sd (gp (Fx F e) S p d w) n (i + 1))), _)
      rw [eg, ← Int.add_assoc, ← b1]
      show b_Court_provinceGain_13 _ _ _ _ = _
      unfold b_Court_provinceGain_13
      rw [hS.1.1 1 (by decide) (by decide) (by decide) (by decide), h.2.1.1.1, if_neg (nI_ge (by omega) (by omega)), hm, Option.bind_some, hS.2.1.1, if_neg (fun z => z (by rw [c])), show f_Court_gainOf (nI i) 0 W = _ from k1, Option.bind_some, nI_1]
      show g_Court_provinceGain_13 u (iI acc + iI (aG (Fx F e) S i d (S (10 + d)) w 0)) _ _ = _
      rw [iI_add]
    · have eg : gp (Fx F e) S p d w i = 0 := if_neg c
      obtain ⟨W2, b1, b2⟩ := pg_c h hd hp hw n (i + 1) u acc W (by omega) (by omega) hS
      refine ⟨W2, ?_, b2⟩
      show _ = some (iI (acc + (gp (Fx F e) S p d w i + sd (gp (Fx F e) S p d w) n (i + 1))), _)
      rw [eg, Int.zero_add, ← b1]
      show b_Court_provinceGain_13 _ _ _ _ = _
      unfold b_Court_provinceGain_13
      rw [hS.1.1 1 (by decide) (by decide) (by decide) (by decide), h.2.1.1.1, if_neg (nI_ge (by omega) (by omega)), hm, Option.bind_some, hS.2.1.1, if_pos (fun z => c (nI_small (by omega) (by omega) z)), nI_1]
theorem prov_c {V : xV} {S : Nat → Nat} {q e m : Nat} {F : Nat → Mn} (h : ST V S q F e m) {d p w : Nat} (hd : d < 30) (hp : p < 4) (hw : w < 2) : ∃ W', f_Court_provinceGain (nI d) (nI p) (nI w) V = some (iI (gB (Fx F e) S p d w), W') ∧ fC V W' := by
  have h12 := h.1.1.1
  obtain ⟨W1, a1, a2⟩ := sit_c h (fC.rf V) hd hp hw
  obtain ⟨W2, b1, b2⟩ := pg_c h hd hp hw (S 0) 0 2000 0 W1 (by omega) (by omega) a2
  refine ⟨W2, ?_, b2⟩
  unfold f_Court_provinceGain
  rw [a1, Option.bind_some]
  rw [Int.zero_add] at b1
  exact b1
theorem pg_m {V : xV} {S : Nat → Nat} {q e m : Nat} {F : Nat → Mn} (h : ST V S q F m e) {d p w : Nat} (hd : d < 30) (hp : p < 4) (hw : w < 2) : ∀ (n i u : Nat) (acc : Int) (W : xV) (L : xL), i + n = S 0 → n < u → sM V W → ∃ W' L', g_Md_gainBy_6 u (nI p) (nI d) (nI w) (iI acc) (nI i) W L = some (iI (acc + sd (gp (Fx F e) S p d w) n i), W', L') ∧ sM V W'
  | 0, i, u + 1, acc, W, L, h1, h2, hW => by
    have h12 := h.1.1.1
    refine ⟨W, L, ?_, hW⟩
    show b_Md_gainBy_6 _ _ _ _ _ _ _ _ = _
    unfold b_Md_gainBy_6
    rw [hW 66 (by decide), h.2.2.1.2 0 (by decide) (by decide), if_pos (nI_le (by omega) (by omega))]
    show _ = some (iI (acc + 0), _, _)
    rw [Int.add_zero]
  | n + 1, i, u + 1, acc, W, L, h1, h2, hW => by
    have h12 := h.1.1.1
    have hi := (h.1.2.1 i (by omega)).1
    have hs := h.1.2.2.1 d hd
    have h66 := h.2.2.1.fr (hW 66 (by decide))
    by_cases c : S (170 + 3 * i) = p
    · have eg : gp (Fx F e) S p d w i = aG (Fx F e) S i d (S (10 + d)) w 0 := if_pos c
      obtain ⟨W1, L1, k1, k2⟩ := gain_m (L := L) (pp := 0) h hW (show i < 12 by omega) hd hs hw (by decide)
      obtain ⟨W2, L2, b1, b2⟩ := pg_m h hd hp hw n (i + 1) u (acc + aG (Fx F e) S i d (S (10 + d)) w 0) W1 L1 (by omega) (by omega) k2
      refine ⟨W2, L2, ?_, b2⟩
      show _ = some (iI (acc + (gp (Fx F e) S p d w i + sd (gp (Fx F e) S p d w) n (i + 1))), _, _)
      rw [eg, ← Int.add_assoc, ← b1]
      show b_Md_gainBy_6 _ _ _ _ _ _ _ _ = _
      unfold b_Md_gainBy_6
      rw [hW 66 (by decide), h.2.2.1.2 0 (by decide) (by decide), if_neg (nI_ge (by omega) (by omega)), prov_m h66 (by omega), Option.bind_some, if_neg (fun z => z (by rw [c])), show (10 : Int32) + nI d = nI (10 + d) from nI_add 10 d, if_pos (xI_ok (by omega) (by decide)), cl (by omega), h.2.2.1.2 _ (by omega) (by omega), show f_Md_gainOf (nI i) (nI d) (nI (S (10 + d))) (nI w) 0 W L = _ from k1, Option.bind_some, nI_1]
      show g_Md_gainBy_6 u _ _ _ (iI acc + iI (aG (Fx F e) S i d (S (10 + d)) w 0)) _ _ _ = _
      rw [iI_add]
    · have eg : gp (Fx F e) S p d w i = 0 := if_neg c
      obtain ⟨W2, L2, b1, b2⟩ := pg_m h hd hp hw n (i + 1) u acc W L (by omega) (by omega) hW
      refine ⟨W2, L2, ?_, b2⟩
      show _ = some (iI (acc + (gp (Fx F e) S p d w i + sd (gp (Fx F e) S p d w) n (i + 1))), _, _)
      rw [eg, Int.zero_add, ← b1]
      show b_Md_gainBy_6 _ _ _ _ _ _ _ _ = _
      unfold b_Md_gainBy_6
      rw [hW 66 (by decide), h.2.2.1.2 0 (by decide) (by decide), if_neg (nI_ge (by omega) (by omega)), prov_m h66 (by omega), Option.bind_some, if_pos (fun z => c (nI_small (by omega) (by omega) z)), nI_1, show iI acc + 0 = iI acc from Int32.add_zero _]
theorem gainBy_m {V W : xV} {L : xL} {S : Nat → Nat} {q e m : Nat} {F : Nat → Mn} (h : ST V S q F m e) (hW : sM V W) {d p w : Nat} (hd : d < 30) (hp : p < 4) (hw : w < 2) : ∃ W' L', f_Md_gainBy (nI p) (nI d) (nI w) W L = some (iI (gB (Fx F e) S p d w), W', L') ∧ sM V W' := by
  have h12 := h.1.1.1
  obtain ⟨W2, L2, b1, b2⟩ := pg_m h hd hp hw (S 0) 0 2000 0 W L (by omega) (by omega) hW
  rw [Int.zero_add] at b1
  exact ⟨W2, L2, b1, b2⟩
/-- a toll -/
def ET (d p mi ot k : Nat) : Int := if k = 0 then (d : Int) else if k = 1 then (p : Int) else if k = 11 then (mi : Int) else if k = 12 then (ot : Int) else 0
def tl (G : Nat → Mn) (d p mi ot : Nat) : Int := cm (-999) 999 (vl (G 5) (ET d p mi ot))
theorem eb_ET {d p mi ot : Nat} (hd : d < 30) (hp : p < 4) (hm : mi < 2) (ho : ot < 4) (c : Nat) : eb c (ET d p mi ot) := by
  intro k _ _
  unfold ET mil
  repeat' split
  all_goals omega
theorem et_5 {W : xV} {r d p mi ot : Nat} (h0 : W r 0 = nI d) (h1 : W r 1 = nI p) (h2 : W r 11 = nI mi) (h3 : W r 12 = nI ot) : ∀ k, k < 13 → may 5 k → W r k = iI (ET d p mi ot k) := by
  intro k hk hm
  rcases may5 k hk hm with rfl | rfl | rfl | rfl
  · rw [h0, nI_iI]; rfl
  · rw [h1, nI_iI]; rfl
  · rw [h2, nI_iI]; rfl
  · rw [h3, nI_iI]; rfl
theorem n999 : (-999 : Int32) = iI (-999) ∧ (999 : Int32) = iI 999 := by decide +kernel
theorem toll_c {V : xV} {S : Nat → Nat} {q e m : Nat} {F : Nat → Mn} (h : ST V S q F e m) {d p mi ot : Nat} (hd : d < 30) (hp : p < 4) (hm : mi < 2) (ho : ot < 4) : ∃ W', f_Court_tollFor (nI d) (nI p) (nI mi) (nI ot) V = some (iI (tl (Fx F e) d p mi ot), W') ∧ fC V W' := by
  have f1 : fC V (x2 (x2 (x2 (x2 V 54 0 (nI d)) 54 1 (nI p)) 54 11 (nI mi)) 54 12 (nI ot)) := ⟨fun r r1 r2 r3 r4 => by rw [x2_ne r3, x2_ne r3, x2_ne r3, x2_ne r3], by rw [x2_ne (by decide), x2_ne (by decide), x2_ne (by decide), x2_ne (by decide)]⟩
  have hb := eb_ET hd hp hm ho 5
  obtain ⟨W', e1, e2⟩ := comesW (w := 5) h f1 (by decide) (et_5 (d := d) (p := p) (mi := mi) (ot := ot) (by simp [x2]) (by simp [x2]) (by simp [x2]) (by simp [x2])) hb
  refine ⟨W', ?_, fun r r1 r2 r3 r4 => by rw [e2 r r2]; exact f1.1 r r1 r2 r3 r4, by rw [e2 51 (by decide)]; exact f1.2⟩
  unfold f_Court_tollFor
  rw [tel 0 (by decide) 9 rfl, Option.bind_some, tel 1 (by decide) 10 rfl, Option.bind_some, tel 11 (by decide) 20 rfl, Option.bind_some, tel 12 (by decide) 21 rfl, Option.bind_some, show f_Court_comesTo 5 _ = _ from e1, Option.bind_some]
  show some (f_Ww_between _ _ _, _) = _
  rw [n999.1, n999.2, btw (rgX h.2.2.2.1 (by decide) hb).1 (by unfold mil; omega) (by unfold mil; omega) (by omega)]; rfl

/-! PURE: letGo and warrant -/
theorem asks_l {V : xV} {q : Nat} : ∀ (l : List Int32) (p f : Nat), p + l.length ≤ 300 → l.length < f → cA V (q + 1) p l → g_Law_asks_25 q V f 13 (nI (p + l.length)) (nI p) = some (if cK 13 ∈ l then 1 else 0)
  | [], p, f + 1, h1, h2, h3 => by
    show b_Law_asks_25 _ _ _ _ _ _ = _
    unfold b_Law_asks_25
    have hp : p ≤ 300 := h1
    show (if nI (p + 0) ≤ nI p then _ else _) = _
    rw [Nat.add_zero, if_pos (nI_le (Nat.le_refl p) (by omega)), if_neg (by simp)]
  | c :: l, p, f + 1, h1, h2, h3 => by
    have h1' : p + (l.length + 1) ≤ 300 := h1
    have h2' : l.length + 1 < f + 1 := h2
    have ih := asks_l l (p + 1) f (by omega) (by omega) h3.2
    show b_Law_asks_25 _ _ _ _ _ _ = _
    unfold b_Law_asks_25
    show (if nI (p + (l.length + 1)) ≤ nI p then _ else _) = _
    rw [if_neg (nI_ge (by omega) (by omega)), if_pos (xI_ok (by omega) (by decide)), cl (by omega), h3.1, nI_1]
    show (if ¬ c = cK 13 then g_Law_asks_25 q V f 13 (nI (p + (l.length + 1))) (nI (p + 1)) else some 1) = _
    by_cases e : c = cK 13
    · rw [if_neg (fun z => z e), if_pos (by rw [e]; exact List.mem_cons_self)]
    · rw [if_pos e, show p + (l.length + 1) = p + 1 + l.length by omega, ih]
      by_cases m : cK 13 ∈ l
      · rw [if_pos m, if_pos (List.mem_cons_of_mem _ m)]
      · rw [if_neg m, if_neg (fun z => by rcases List.mem_cons.mp z with z | z; exact e z.symm; exact m z)]
theorem lets_m {V : xV} {u : Int32} : ∀ (l : List (Int32 × Int32)) (p f : Nat) (acc : Int32), p + l.length < 1600 → l.length < f → oA V p (l ++ [(408, u)]) → (∀ o, o ∈ l → ¬ o.1 = 408) → g_Md_letGo_29 V f (nI p) acc = some (if (401, nI 4) ∈ l then 1 else acc)
  | [], p, f + 1, acc, h1, h2, h3, h4 => by
    have h1' : p < 1600 := h1
    show b_Md_letGo_29 _ _ _ _ = _
    unfold b_Md_letGo_29
    rw [if_pos (xI_ok h1' (by decide)), cl (by omega), h3.1.1, if_pos (show (408 : Int32) = 408 from rfl), if_neg (by simp)]
  | o :: l, p, f + 1, acc, h1, h2, h3, h4 => by
    have h1' : p + (l.length + 1) < 1600 := h1
    have h2' : l.length + 1 < f + 1 := h2
    have ih := fun a => lets_m l (p + 1) f a (by omega) (by omega) h3.2 (fun o ho => h4 o (List.mem_cons_of_mem _ ho))
    have h8 := h4 o List.mem_cons_self
    show b_Md_letGo_29 _ _ _ _ = _
    unfold b_Md_letGo_29
    rw [if_pos (xI_ok (by omega) (by decide)), cl (by omega), h3.1.1, h3.1.2, if_neg h8, if_pos (xI_ok (by omega) (by decide)), if_pos (xI_ok (by omega) (by decide)), nI_1, ih, ih]
    by_cases e1 : o.1 = 401
    · by_cases e2 : o.2 = 4
      · rw [if_neg (fun z => z e1), if_neg (fun z => z e2), if_pos (show ((401, nI 4) : Int32 × Int32) ∈ o :: l from by rw [show o = (401, nI 4) from Prod.ext e1 e2]; exact List.mem_cons_self)]
        split <;> rfl
      · rw [if_neg (fun z => z e1), if_pos e2]
        by_cases m : ((401, nI 4) : Int32 × Int32) ∈ l
        · rw [if_pos m, if_pos (List.mem_cons_of_mem _ m)]
        · rw [if_neg m, if_neg (fun z => by rcases List.mem_cons.mp z with z | z; exact e2 (congrArg Prod.snd z).symm; exact m z)]
    · rw [if_pos e1]
      by_cases m : ((401, nI 4) : Int32 × Int32) ∈ l
      · rw [if_pos m, if_pos (List.mem_cons_of_mem _ m)]
      · rw [if_neg m, if_neg (fun z => by rcases List.mem_cons.mp z with z | z; exact e1 (congrArg Prod.fst z).symm; exact m z)]
theorem op_letGo : P_letGo (Inv LW) := by
  intro V L hI
  obtain ⟨S, q, F, h, -⟩ := hI.st
  obtain ⟨r1, r2, r3, r4⟩ := id h.2.2.2.1
  have hh := hasM (w := 0) (W := V) (e := 6) h.2.2.2.1 (by decide) rfl (fun _ _ _ => rfl) h.2.2.2.2.2
  have hF : Fx F 6 0 = F 0 := rfl
  rw [hF] at hh
  have hc := ((r3 0 (by decide)).1 V (fun _ _ _ => rfl)).1
  rcases so01 (F 0) with c | ⟨c, c'⟩
  · rcases r4 with ⟨g1, g2⟩ | ⟨j, hj, g1, g2, g3, g4⟩
    · rw [g2 0 (by decide)] at c; cases c
    · obtain ⟨n, a1, a2, a3, a4, a5⟩ := g3
      rcases a4 0 (by decide) with ⟨b1, b2, b3, b4⟩ | ⟨s, C, M, v, d, k, i, u, b1, b2, b3, b4, b5, b6, b7, b8, b9, b10, b11, b12⟩
      · exfalso
        cases hx : F 0 with
        | none => rw [hx] at c; cases c
        | some v => exact ((g4 0 (by decide)).2 v hx).1 b3
      · have X := asks_l (V := V) (q := q) C s 2000 b5 (by omega) (by rw [g2, show 26 + 5 * j + 1 = 27 + 5 * j by omega]; exact b6)
        have Y := lets_m (V := V) M k 2000 0 (by omega) (by omega) b9 b1.2.2.2.2.1
        have so := law_so (q := q) (W := V) (w := 0) (by decide) (by rw [g2, show 26 + 5 * j + 2 = 28 + 5 * j by omega]; exact b3) (by rw [g2, show 26 + 5 * j + 3 = 29 + 5 * j by omega]; exact b4)
        have iff := b1.2.2.2.2.2.1
        refine ⟨if cK 13 ∈ C then 1 else 0, ?_, ?_, hI⟩
        · unfold f_Ww_letGo
          rw [r1 V rfl, Option.bind_some, if_pos r2, show (0 : Int32) = nI 0 from rfl, hc, Option.bind_some, c, if_pos (by decide)]
          unfold f_Law_asks
          rw [so.1, Option.bind_some, so.2, Option.bind_some, (xmm (s := s) b5 (by omega)).1, (xmm (s := s) b5 (by omega)).2, X, Option.bind_some]
          by_cases m : cK 13 ∈ C
          · simp only [if_pos m]; rfl
          · simp only [if_neg m]; rfl
        · unfold f_Md_letGo
          rw [show f_Md_hasClause 0 V = _ from hh, Option.bind_some, c, if_pos (by decide), g1, show (6 : Int32) * nI j + 0 = nI (6 * j + 0) by rw [show (6 : Int32) = nI 6 from rfl, pk_mul]; exact nI_a0 _, if_pos (xI_ok (by omega) (by decide)), cl (by omega), b7, Y]
          by_cases m : cK 13 ∈ C
          · rw [if_pos m, if_pos (iff.mp m)]
          · rw [if_neg m, if_neg (fun z => m (iff.mpr z))]
  · refine ⟨-1, ?_, ?_, hI⟩
    · unfold f_Ww_letGo
      rw [r1 V rfl, Option.bind_some, if_pos r2, show (0 : Int32) = nI 0 from rfl, hc, Option.bind_some, c]; rfl
    · unfold f_Md_letGo
      rw [show f_Md_hasClause 0 V = _ from hh, Option.bind_some, c]; rfl
theorem ruling_eq {V W : xV} (h : W 1 10 = V 1 10) : f_Shelf_ruling W = f_Shelf_ruling V := by unfold f_Shelf_ruling; rw [h]; rfl
theorem RL.fr2 {V V' : xV} {q : Nat} {F : Nat → Mn} (h : RL V q F) (h1 : V' 1 10 = V 1 10) (h2 : ∀ r, 20 ≤ r → r < 46 → V' r = V r) (h3 : V' 66 3 = V 66 3) (h4 : ∀ r, 69 ≤ r → r < 74 → V' r = V r) : RL V' q F := by
  obtain ⟨a1, a2, a3, a4⟩ := h
  refine ⟨fun W hW => by rw [ruling_eq (V := V) (by rw [hW]; exact h1)]; exact a1 V rfl, a2, fun w hw => ⟨fun W hW => (a3 w hw).1 W (fun r r1 r2 => (hW r r1 r2).trans (h2 r r1 r2)), (a3 w hw).2⟩, ?_⟩
  rcases a4 with ⟨b1, b2⟩ | ⟨j, b1, b2, b3, b4, b5⟩
  · exact Or.inl ⟨by rw [h3]; exact b1, b2⟩
  · refine Or.inr ⟨j, b1, by rw [h3]; exact b2, b3, b4.fr b1 (fun r _ _ => h2 r (by omega) (by omega)) h4, fun w hw => ?_⟩
    have := b5 w hw
    refine ⟨fun z => by rw [h4 70 (by omega) (by omega)]; exact this.1 z, fun v hv => ?_⟩
    rw [h4 70 (by omega) (by omega)]
    exact ⟨(this.2 v hv).1, fun W hW => (this.2 v hv).2 W (fun r r1 r2 => (hW r r1 r2).trans (h4 r r1 r2))⟩
def EW (S : Nat → Nat) (d p k : Nat) : Int := if k = 0 then (d : Int) else if k = 1 then (p : Int) else if k = 2 then (la S p d : Int) else if k = 3 then (se S d : Int) else if k = 4 then (S (10 + d) : Int) else 0
def wv (F : Nat → Mn) (S : Nat → Nat) (d p : Nat) : Int := vl (Fx F 6 0) (EW S d p)
theorem eb_EW {S : Nat → Nat} (h : rok S) {d p : Nat} (hd : d < 30) (hp : p < 4) (c : Nat) : eb c (EW S d p) := by
  intro k _ _
  have h1 := la_lt h.2.2.2.1 hp (show d < 31 by omega)
  have h2 := se_lt h.2.2.1 (show d < 31 by omega)
  have h3 := h.2.2.1 d hd
  unfold EW mil
  repeat' split
  all_goals omega
theorem ew_0 {W : xV} {r : Nat} {S : Nat → Nat} {d p : Nat} (h0 : W r 0 = nI d) (h1 : W r 1 = nI p) (h2 : W r 2 = nI (la S p d)) (h3 : W r 3 = nI (se S d)) (h4 : W r 4 = nI (S (10 + d))) : ∀ k, k < 13 → may 0 k → W r k = iI (EW S d p k) := by
  intro k hk hm
  rcases may0 k hk hm with rfl | rfl | rfl | rfl | rfl
  · rw [h0, nI_iI]; rfl
  · rw [h1, nI_iI]; rfl
  · rw [h2, nI_iI]; rfl
  · rw [h3, nI_iI]; rfl
  · rw [h4, nI_iI]; rfl
theorem wv_bit {V : xV} {q : Nat} {F : Nat → Mn} {S : Nat → Nat} (hR : RL V q F) (h : rok S) {d p : Nat} (hd : d < 30) (hp : p < 4) : bit (wv F S d p) := (rgX hR (by decide) (eb_EW h hd hp 0)).2 rfl
def wb (F : Nat → Mn) (S : Nat → Nat) (d p : Nat) : Nat := (wv F S d p).toNat
theorem wb_ok {V : xV} {q : Nat} {F : Nat → Mn} {S : Nat → Nat} (hR : RL V q F) (h : rok S) {d p : Nat} (hd : d < 30) (hp : p < 4) : wb F S d p < 2 ∧ iI (wv F S d p) = nI (wb F S d p) := by
  unfold wb
  rcases wv_bit hR h hd hp with z | z <;> rw [z] <;> exact ⟨by decide, rfl⟩
theorem wfor_c {W : xV} {S : Nat → Nat} {q : Nat} {F : Nat → Mn} (hr : rok S) (hpc : pc W 1 S) (hR : RL W q F) (h1 : W 51 1 = -1) {d p : Nat} (hd : d < 30) (hp : p < 4) : ∃ W', f_Court_warrantFor (nI d) (nI p) W = some (nI (wb F S d p), W') ∧ ∀ r, r ≠ 53 → r ≠ 54 → W' r = W r := by
  obtain ⟨W', e1, e2⟩ := comes (W := x2 (x2 (x2 (x2 (x2 W 54 0 (nI d)) 54 1 (nI p)) 54 2 (nI (la S p d))) 54 3 (nI (se S d))) 54 4 (nI (S (10 + d)))) (e := 6) hR (w := 0) (by decide) (by simp only [x2_ne (show (1 : Nat) ≠ 54 by decide)]) (fun r _ _ => by simp only [x2_ne (show r ≠ 54 by omega)]) (by simp only [x2_ne (show (51 : Nat) ≠ 54 by decide)]; exact h1) (ew_0 (S := S) (d := d) (p := p) (by simp [x2]) (by simp [x2]) (by simp [x2]) (by simp [x2]) (by simp [x2])) (eb_EW hr hd hp 0)
  refine ⟨W', ?_, fun r r1 r2 => by rw [e2 r r1]; simp only [x2_ne r2]⟩
  have l1 := hpc.2.2.2.1
  have l2 := hpc.2.2.1
  unfold f_Court_warrantFor
  rw [tel 0 (by decide) 9 rfl, Option.bind_some, tel 1 (by decide) 10 rfl, Option.bind_some, last_c (l1.fr (by simp only [x2_ne (show (1 + 5 : Nat) ≠ 54 by decide)]) (fun _ _ _ => rfl)) (by omega) hp, Option.bind_some, tel 2 (by decide) 11 rfl, Option.bind_some, seen_c (l2.fr (by simp only [x2_ne (show (1 + 4 : Nat) ≠ 54 by decide)]) (fun _ _ _ => rfl)) (by omega), Option.bind_some, tel 3 (by decide) 12 rfl, Option.bind_some, sky_c (l2.fr (by simp only [x2_ne (show (1 + 4 : Nat) ≠ 54 by decide)]) (fun _ _ _ => rfl)) hd, Option.bind_some, tel 4 (by decide) 13 rfl, Option.bind_some, show f_Court_comesTo 0 _ = _ from e1, Option.bind_some]
  rw [← (wb_ok hR hr hd hp).2]; rfl
theorem wnam_m {W : xV} {S : Nat → Nat} (hr : rok S) (h : pm W 66 S) {d p : Nat} (hd : d < 30) (hp : p < 4) : ∃ W', f_Md_warrantNames (nI d) (nI p) W = some W' ∧ (∀ r, r ≠ 82 → W' r = W r) ∧ ∀ k, k < 13 → may 0 k → W' 82 k = iI (EW S d p k) := by
  refine ⟨x2 (x2 (x2 (x2 (x2 W 82 0 (nI d)) 82 1 (nI p)) 82 2 (nI (la S p d))) 82 3 (nI (se S d))) 82 4 (nI (S (10 + d))), ?_, fun r hr => by simp only [x2_ne hr], ew_0 (by simp [x2]) (by simp [x2]) (by simp [x2]) (by simp [x2]) (by simp [x2])⟩
  have h60 : ∀ (X : xV), X 66 = W 66 → b_Md_warrantNames_60 (nI d) (nI (se S d)) 3 X = some (x2 (x2 X 82 3 (nI (se S d))) 82 4 (nI (S (10 + d)))) := by
    intro X hX
    unfold b_Md_warrantNames_60
    rw [if_pos (show xI 3 13 = true from rfl), show (10 : Int32) + nI d = nI (10 + d) from nI_add 10 d, if_pos (xI_ok (by omega) (by decide)), cl (by omega), x2_ne (show (66 : Nat) ≠ 82 by decide), hX, h.2 _ (by omega) (by omega)]; rfl
  have h35 : ∀ (X : xV), X 66 = W 66 → b_Md_warrantNames_35 (nI d) (nI (la S p d)) 2 X = some (x2 (x2 (x2 X 82 2 (nI (la S p d))) 82 3 (nI (se S d))) 82 4 (nI (S (10 + d)))) := by
    intro X hX
    have e := h60 (x2 X 82 2 (nI (la S p d))) (by rw [x2_ne (by decide)]; exact hX)
    rw [← e]
    unfold b_Md_warrantNames_35
    rw [if_pos (show xI 2 13 = true from rfl)]
    by_cases c : d = 0
    · subst c
      rw [if_neg (fun z => z rfl)]; rfl
    · rw [if_pos (nI_ne0 (by omega) (by omega)), show (10 : Int32) + nI d - 1 = nI (10 + d - 1) by rw [show (10 : Int32) + nI d = nI (10 + d) from nI_add 10 d, show 10 + d = (10 + d - 1) + 1 by omega, nI_pred]; congr 1, if_pos (xI_ok (by omega) (by decide)), cl (by omega), x2_ne (show (66 : Nat) ≠ 82 by decide), hX, h.2 _ (by omega) (by omega), show S (10 + d - 1) = se S d by unfold se; rw [if_neg c]; congr 1; omega]; rfl
  unfold f_Md_warrantNames
  by_cases c : d = 0
  · subst c
    rw [if_neg (fun z => z rfl)]
    exact h35 _ (by simp only [x2_ne (show (66 : Nat) ≠ 82 by decide)])
  · rw [if_pos (nI_ne0 (by omega) (by omega)), show nI d - 1 = nI (d - 1) by rw [show d = (d - 1) + 1 by omega, nI_pred]; congr 1, dec_m (h.fr (by simp only [x2_ne (show (66 : Nat) ≠ 82 by decide)])) (show d - 1 < 30 by omega) hp, Option.bind_some, show S (40 + (4 * (d - 1) + p)) = la S p d by unfold la; rw [if_neg c]]
    exact h35 _ (by simp only [x2_ne (show (66 : Nat) ≠ 82 by decide)])

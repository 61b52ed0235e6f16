/-! PURE: text, what stands in a CLAUSE -/
section BD
variable (B : Nat → Nat) (n N q wc : Nat)
def SB (W : xV) (st i m : Nat) (fc : Int32) : Prop := MV B n wc W i st 1 0 0 m ∧ W 74 0 = fc ∧ m ≤ i
def bOk (st i j : Nat) (fc : Int32) (M : List (Int32 × Int32)) : Prop := ∀ W m, SB B n wc W st i m fc → ∃ c W', c ≤ 2 * (j - i) ∧ MS c W W' ∧ AT B n W' j ∧ W' 65 16 = 0 ∧ MF W W' 1 0 m ∧ (¬ kdT B n j = 34 → MS 1 W' (f_Md_errs 1 W')) ∧ (kdT B n j = 34 → (∀ X, f_Md_clauseIsOver W' = some X → MS 1 W' X) ∧ ∃ W'' sv, f_Md_works 1 W' = some W'' ∧ MV B n wc W'' j sv 1 0 0 (m + M.length) ∧ MR W W'' 1 0 m M)
def JB (rd : xV → Option (Int32 × xV)) (st : Nat) (fc : Int32) (ty : Bool) (i : Nat) : Prop := (∃ f j, (0 < f ∧ f < 6) ∧ i ≤ j ∧ j < N ∧ cNo B n N q wc rd i 0 f j ∧ ∀ W m, SB B n wc W st i m fc → mY B n W i f j) ∨ ∃ j C M v d, i < j ∧ j < N ∧ Good wc ty C M v d ∧ d ≤ 40 ∧ C.length ≤ j - i ∧ M.length ≤ j - i ∧ cOk B n N q wc rd i 0 j C ∧ bOk B n wc st i j fc M
end BD
section BE
variable {B : Nat → Nat} {n N q wc : Nat}
theorem body_sum (h : TX B n N q wc) (i : Nat) (hi : i < N) : JB B n N q wc (f_Reader_readSum 9 0) 1 1 true i := by
  have toS : ∀ {W : xV} {m : Nat}, SB B n wc W 1 i m 1 → S2 B n wc W i 1 0 0 m := fun hW => ⟨hW.1, ⟨0, rfl, by rw [hW.2.1]; decide⟩, by omega, by omega, fun x hx => absurd hx (Nat.not_lt_zero _), hW.2.2⟩
  rcases J_sums h (o := 0) (by omega) i hi with ⟨f, j, f1, j1, j2, hcn, hmn⟩ | ⟨j, C, M, v, d, j1, j2, jk, hG, hd, hC, hM, hco, hmo⟩
  · exact Or.inl ⟨f, j, f1, j1, j2, hcn, fun W m hW => (hmn W _ _ _ (toS hW)).y ⟨fun _ _ => rfl, fun _ _ => rfl⟩ (MS.rf W) (by omega) (Nat.le_refl _) j1⟩
  · refine Or.inr ⟨j, C, M, v, d, j1, j2, hG, by omega, hC, hM, hco, fun W m hW => ?_⟩
    obtain ⟨c, W', c1, c2, ⟨w', m', c3⟩, c4, c5⟩ := hmo W _ _ _ (toS hW)
    have top : f_Md_top W' = some 1 := by rw [top_m (fr := 0) c3.2.2.2.1 (by omega), c4.2.2.1 0 (by omega), hW.2.1]
    have go : f_Md_goesOn W' = if f_Md_isSign 59 W' = 0 then some (f_Md_errs 1 W') else Option.bind (f_Md_clauseIsOver W') fun p => some p := by
      rw [go_65 c3.1 jk, top, Option.bind_some]
      unfold b_Md_goesOn_65 b_Md_goesOn_116 b_Md_goesOn_181
      rw [if_pos (by decide), if_pos (by decide), if_pos (by decide), if_neg (fun z => z rfl)]
    rw [show f_Md_isSign 59 W' = _ from isSign_at c3.1 (x := 34) (by decide) (by decide)] at go
    refine ⟨c, W', by omega, c2, c3.1, c3.2.1, c4, fun z => ?_, fun z => ⟨fun X hX => ?_, ?_⟩⟩
    · rw [if_neg z, if_pos rfl] at go
      exact MS.s2 c3.2.1 c3.2.2.1 go
    · rw [if_pos z, if_neg (by decide), hX, Option.bind_some] at go
      exact MS.s2 c3.2.1 c3.2.2.1 go
    · obtain ⟨W'', d1, d2, d3⟩ := c5 1 (Or.inl rfl)
      exact ⟨W'', 2, d1, d2, d3⟩
theorem body_either (h : TX B n N q wc) (i : Nat) (hi : i < N) : JB B n N q wc f_Reader_readEither 0 2 false i := by
  have hN := h.1.2.1
  have toS : ∀ {W : xV} {m : Nat}, SB B n wc W 0 i m 2 → PL B n wc 0 W W i 1 0 0 m none none [] := fun hW => ⟨hW.1, ⟨trivial, MF.rf _ _ _ _⟩, trivial, ⟨0, rfl, by rw [hW.2.1]; decide⟩, by omega, by omega, fun x hx => absurd hx (Nat.not_lt_zero _), hW.2.2⟩
  have z : np none none = 0 := rfl
  rcases either_loop h N i 2000 0 none none [] [] [] [] (by omega) hi (by omega) (by omega) (Or.inl ⟨rfl, rfl, rfl⟩) (Or.inl ⟨rfl, rfl, rfl⟩) (fun p e => by cases e) (fun p e => by cases e) with ⟨f, j, f1, j1, j2, hcn, hmn⟩ | ⟨j, C, M, v, d, j1, j2, jk, hG, hd, hC, hM, hco, hmo⟩
  · exact Or.inl ⟨f, j, f1, j1, j2, fun V len hV hl => hcn V V len (CE.rf hV) hl, fun W m hW => hmn W W m (toS hW) hW.2.1⟩
  · have l1 : (([] : List Int32) ++ []).length = 0 := rfl
    have l2 : (([] : List (Int32 × Int32)) ++ []).length = 0 := rfl
    refine Or.inr ⟨j, C, M, v, d, j1, j2, hG, by omega, by omega, by omega, fun V len hV hl => hco V V len (CE.rf hV) hl, fun W m hW => ?_⟩
    obtain ⟨c, W', c1, c2, ⟨w', m', c3⟩, c4, c5, W'', d1, d2, d3⟩ := hmo W W m (toS hW) hW.2.1
    have top : f_Md_top W' = some 2 := by rw [top_m (fr := 0) c3.2.2.2.1 (by omega), c4]
    have e6 : f_Md_isWord 6 W' = 0 := by rw [show f_Md_isWord 6 W' = _ from isWord_at c3.1 (x := 6) (by decide), if_neg (by omega)]
    have e7 : f_Md_isWord 7 W' = 0 := by rw [show f_Md_isWord 7 W' = _ from isWord_at c3.1 (x := 7) (by decide), if_neg (by omega)]
    have go : f_Md_asksOn W' = if f_Md_isSign 59 W' = 0 then some (f_Md_errs 1 W') else Option.bind (f_Md_clauseIsOver W') fun p => some p := by
      unfold f_Md_asksOn
      rw [e6, e7, if_neg (fun z => z rfl), if_pos rfl, top, Option.bind_some, if_neg (fun z => z rfl)]
    rw [show f_Md_isSign 59 W' = _ from isSign_at c3.1 (x := 34) (by decide) (by decide)] at go
    refine ⟨c, W', by omega, c2, c3.1, c3.2.1, c5, fun z => ?_, fun z => ⟨fun X hX => ?_, W'', 3, d1, d2, d3⟩⟩
    · rw [if_neg z, if_pos rfl] at go
      exact MS.s3 c3.2.1 c3.2.2.1 go
    · rw [if_pos z, if_neg (by decide), hX, Option.bind_some] at go
      exact MS.s3 c3.2.1 c3.2.2.1 go
/-- ; ends a CLAUSE in the model -/
theorem over_cl (h : TX B n N q wc) {W W' : xV} {j sv m nc : Nat} (h1 : f_Md_works 1 W = some W') (h2 : MV B n wc W' j sv 1 0 0 m) (h26 : W' 65 26 = nI nc) (hj : j + 1 < N) (hm : m < 400) : ∃ X, f_Md_clauseIsOver W = some X ∧ MV B n wc X (j + 1) 4 0 0 0 (m + 1) ∧ X 65 26 = nI (nc + 1) ∧ oN X m [(408, 0)] ∧ (∀ k, k < m → X 80 k = W' 80 k ∧ X 81 k = W' 81 k) ∧ (∀ r, r ≠ 65 → r ≠ 80 → r ≠ 81 → X r = W' r) ∧ (∀ k, ¬ (12 ≤ k ∧ k ≤ 19 ∧ k ≠ 17) → k ≠ 22 → k ≠ 25 → k ≠ 30 → k ≠ 26 → X 65 k = W' 65 k) := by
  have hf := h2.f1 0
  have he := hf.em 408 0
  have hr := eMm_R (x2 W' 65 19 (nI 0)) m 408 0 0 0
  have e26 : eMm (x2 W' 65 19 (nI 0)) m 408 0 65 26 = nI nc := by rw [eMm_65 _ _ _ _ (by decide), x2_off (by omega)]; exact h26
  have h3 : MV B n wc (x2 (eMm (x2 W' 65 19 (nI 0)) m 408 0) 65 26 (nI (nc + 1))) j sv 0 0 0 (m + 1) := by
    obtain ⟨a1, a2, a3, a4, a5, a6, a7, a8⟩ := he
    exact ⟨a1.fr (x2_ne (by decide)) (fun k _ _ => x2_off (by omega)), by rw [x2_off (by omega)]; exact a2, by rw [x2_off (by omega)]; exact a3, by rw [x2_off (by omega)]; exact a4, by rw [x2_off (by omega)]; exact a5, by rw [x2_off (by omega)]; exact a6, by rw [x2_off (by omega)]; exact a7, by rw [x2_off (by omega)]; exact a8⟩
  obtain ⟨W3, b1, b2, b3⟩ := h3.next h.1 hj
  have er : ∀ r, r ≠ 65 → x2 W3 65 25 (nI 4) r = eMm (x2 W' 65 19 (nI 0)) m 408 0 r := fun r hr => by rw [x2_ne hr, b3.row hr, x2_ne hr]
  refine ⟨x2 W3 65 25 (nI 4), ?_, b2.sta 4, by rw [x2_off (by omega), b3 65 26 (by omega), x2_at], ⟨⟨by rw [er 80 (by decide)]; exact hr.1.1.1, by rw [er 81 (by decide)]; exact hr.1.1.2⟩, trivial⟩, fun k hk => ⟨by rw [er 80 (by decide), (hr.2.2.2.2.2 k hk).1, x2_ne (by decide)], by rw [er 81 (by decide), (hr.2.2.2.2.2 k hk).2, x2_ne (by decide)]⟩, fun r r1 r2 r3 => by rw [er r r1, eMm_r _ _ _ _ r1 r2 r3, x2_ne r1], fun k k1 k2 k3 k4 k5 => by rw [x2_off (by omega), b3 65 k (by omega), x2_off (by omega), eMm_65 _ _ _ _ k4, x2_off (by omega)]⟩
  unfold f_Md_clauseIsOver
  rw [h1, Option.bind_some, show f_Md_emits 408 0 (x2 W' 65 19 0) = _ from emits_m hf.2.2.2.2.2.2.1 hm 408 0, Option.bind_some, e26, nI_1, b1, Option.bind_some]
  rfl
end BE

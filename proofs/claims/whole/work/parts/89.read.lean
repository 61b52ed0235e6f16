/-! PURE: text, all CLAUSES on both sides -/
section CR
variable {B : Nat → Nat} {n N q : Nat}
def cRes (B : Nat → Nat) (n N q : Nat) (rd : Option (Int32 × xV)) (V W : xV) (i : Nat) (fin : Nat → Prop) : Prop := (∃ f j V', (0 < f ∧ f < 6) ∧ i ≤ j ∧ j < N ∧ rd = some (0, V') ∧ V' 46 1 = nI f ∧ V' 46 2 = nI (plT B n j) ∧ CGx q V V' ∧ mY B n W i f j) ∨ ∃ j len m nc p V' c W', i ≤ j ∧ j < N ∧ fin j ∧ rd = some (1, V') ∧ CG q V V' ∧ c ≤ 2 * (j - i) ∧ MS c W W' ∧ MG W W' ∧ RR B n N q V' W' j len m nc p
theorem clause_step (hT : tkN B n N) (hB : ∀ i, i < n → B i < 256) (hq : qk q) {V W : xV} {i len m nc : Nat} {p : Nat → Nat} (hR : RR B n N q V W i len m nc p) (hi : i < N) (hk : ¬ kdT B n i = 37) : cRes B n N q (f_Reader_readClause V) V W i (fun j => i < j) := by
  have hr := hq.r
  have hN := hT.2.1
  obtain ⟨c1, c2, c3, c4, c5, c6⟩ := hR.1
  obtain ⟨b1, b2, b3, b4, b5, b6, b7, b8⟩ := hR.2.1
  have hV1 : CS B n N q (kdT B n i) (x2 V 46 6 (nI (kdT B n i))) i len := ⟨by rw [x2_off (by omega)]; exact c1, by rw [x2_off (by omega)]; exact c2, x2_at _ _ _ _, by rw [x2_ne (by omega)]; exact c3, by rw [x2_ne (by omega)]; exact c4, c5.fr (x2_ne (by omega)) (x2_ne (by omega)) (x2_ne (by omega))⟩
  have g1 : CG q V (x2 V 46 6 (nI (kdT B n i))) := ⟨fun r r1 _ => x2_ne r1, fun k hk => x2_off (by omega)⟩
  have bad : ∀ f : Nat, ∃ V', (Option.bind (f_Reader_wrong (nI f) (x2 V 46 6 (nI (kdT B n i)))) fun p13 => if p13.1 = 0 ∨ p13.1 = 1 then some (p13.1, p13.2) else none) = some (0, V') ∧ V' 46 1 = nI f ∧ V' 46 2 = nI (plT B n i) ∧ CGx q V V' := by
    intro f
    obtain ⟨V', e1, e2, e3, e4⟩ := wrong_at hV1 hi hN (nI f)
    exact ⟨V', by rw [e1, Option.bind_some, if_pos (Or.inl rfl)], e2, e3, g1.x e4.g⟩
  have hc := clause_c hq hN hB hR hi
  by_cases ck : ¬ kdT B n i < 6
  · rw [if_neg ck] at hc
    obtain ⟨V', e1, e2, e3, e4⟩ := bad 1
    obtain ⟨x1, x2', x3⟩ := err_m b1 b2 1
    exact Or.inl ⟨1, i, V', by omega, Nat.le_refl _, hi, hc.trans e1, e2, e3, e4, 1, _, by omega, MS.s4 b2 b3 (sort_ne b1 hk) (clause_no hR ck), x1, x2', x3⟩
  have ck : kdT B n i < 6 := Decidable.of_not_not ck
  have hi1 : i + 1 < N := by
    by_cases z : i = N - 1
    · have := (kdT_lt hB hT).2
      rw [← z] at this
      omega
    · have := hT.1; omega
  rw [if_pos ck] at hc
  by_cases cp : ¬ p (kdT B n i) = 0
  · rw [if_neg cp] at hc
    have hm := clause_m hR (by omega) ck
    rw [if_neg cp] at hm
    obtain ⟨V', e1, e2, e3, e4⟩ := bad 4
    have hA : AT B n (x2 W 65 27 (nI (kdT B n i))) i := b1.fr (x2_ne (by decide)) (fun k _ _ => x2_off (by omega))
    obtain ⟨x1, x2', x3⟩ := err_m hA (by rw [x2_off (by omega)]; exact b2) 4
    refine Or.inl ⟨4, i, V', by omega, Nat.le_refl _, hi, hc.trans e1, e2, e3, e4, 1, _, by omega, MS.s4 b2 b3 (sort_ne b1 hk) hm, x1, x2', ?_⟩
    exact MX.tr ⟨fun r hr => x2_ne (by omega), fun k hk => x2_off (by omega)⟩ x3
  have cp : p (kdT B n i) = 0 := Decidable.of_not_not cp
  rw [if_pos cp] at hc
  have hX : TX B n N q (kdT B n i) := ⟨hT, hB, hq, ck⟩
  have hV2 : CS B n N q (kdT B n i) (x2 (x2 V 46 6 (nI (kdT B n i))) 46 5 (nI (i + 1))) (i + 1) len := by
    have := (adv hq hV1).1
    rw [hV1.1, nI_1] at this
    exact this
  have g2 : CG q V (x2 (x2 V 46 6 (nI (kdT B n i))) 46 5 (nI (i + 1))) := ⟨fun r r1 _ => by rw [x2_ne r1, x2_ne r1], fun k hk => by rw [x2_off (by omega), x2_off (by omega)]⟩
  have r2 : ∀ r, r ≠ 46 → x2 (x2 V 46 6 (nI (kdT B n i))) 46 5 (nI (i + 1)) r = V r := fun r r1 => by rw [x2_ne r1, x2_ne r1]
  generalize x2 (x2 V 46 6 (nI (kdT B n i))) 46 5 (nI (i + 1)) = V2 at hc hV2 g2 r2
  obtain ⟨W3, m1, m2, m3, m4, m5, m6, m7, m8, m9⟩ := open_m hT hR hi1 ck cp
  have hlen := hR.2.2.1
  obtain ⟨rdB, hrd, hJ⟩ : ∃ rdB : xV → Option (Int32 × xV), f_Reader_readClause V = (Option.bind (rdB V2) fun p => if ¬ p.1 = 0 then b_Reader_readClause_118 (nI len) p.2 else some (0, p.2)) ∧ JB B n N q (kdT B n i) rdB (if tyw (kdT B n i) = true then 1 else 0) (if tyw (kdT B n i) = true then 1 else 2) (tyw (kdT B n i)) (i + 1) := by
    unfold b_Reader_readClause_93 at hc
    cases ct : tyw (kdT B n i)
    · rw [ct, if_pos (show o1 false = 0 from rfl)] at hc
      exact ⟨f_Reader_readEither, hc, body_either hX (i + 1) hi1⟩
    · rw [ct, if_neg (show ¬ o1 true = 0 by decide)] at hc
      exact ⟨f_Reader_readSum 9 0, hc, body_sum hX (i + 1) hi1⟩
  rcases hJ with ⟨f, j, f1, j1, j2, hcn, hmn⟩ | ⟨j, C, M, v, d, j1, j2, hG, hd, hC, hM, hco, hmo⟩
  · obtain ⟨V', e1, e2, e3, e4⟩ := hcn V2 len hV2 (by omega)
    obtain ⟨c, W', q1, q2, q3, q4, q5⟩ := hmn W3 m m2
    exact Or.inl ⟨f, j, V', f1, by omega, j2, by rw [hrd, e1, Option.bind_some, if_neg (fun z => z rfl)], e2, e3, g2.x e4.g, 1 + c, W', by omega, m1.tr q2, q3, q4, m3.1.tr q5⟩
  · obtain ⟨V3, e1, e2⟩ := hco V2 len hV2 (by omega)
    obtain ⟨c, W', q1, q2, q3, q4, q5, q6, q7⟩ := hmo W3 m m2
    have hkl := kdT_le (n := n) hB j
    have h118 : f_Reader_readClause V = b_Reader_readClause_118 (nI len) V3 := by rw [hrd, e1, Option.bind_some, if_pos (show ¬ (1 : Int32) = 0 by decide)]
    unfold b_Reader_readClause_118 at h118
    rw [kind_at e2.1 j2 hN, Option.bind_some] at h118
    by_cases c34 : ¬ kdT B n j = 34
    · rw [if_neg (show ¬ nI (kdT B n j) = 34 from fun z => c34 (nI_small (b := 34) (by omega) (by decide) z))] at h118
      obtain ⟨V4, d1, d2, d3, d4⟩ := wrong_rd hX e2.1 j2 1
      obtain ⟨x1, x2', x3⟩ := err_m q3 q4 1
      exact Or.inl ⟨1, j, V4, by omega, by omega, j2, h118.trans d1, d2, d3, g2.x (e2.2.2.x d4).g, 1 + c + 1, _, by omega, (m1.tr q2).tr (q6 c34), x1, x2', m3.1.tr (q5.x.tr x3)⟩
    · have c34 : kdT B n j = 34 := Decidable.of_not_not c34
      have hj1 : j + 1 < N := hX.nx j2 (by omega)
      rw [c34, if_pos (by decide)] at h118
      have ha := adv hq e2.1
      have tot : CE B n N q (kdT B n i) V2 (x2 V3 46 5 (V3 46 5 + 1)) (j + 1) len C := by
        have := e2.tr ha
        rw [List.append_nil] at this
        exact this
      generalize x2 V3 46 5 (V3 46 5 + 1) = V4 at h118 tot
      obtain ⟨t1, t2, t3⟩ := tot
      have hV4r : ∀ r, r ≠ 46 → r ≠ q → r ≠ q + 1 → V4 r = V r := fun r r1 r2' r3 => by rw [t3.1 r r1 r2' r3, r2 r r1]
      have h44 : V4 q 4 = nI nc := by rw [t3.2.2.1 4 (by decide), r2 q (by omega)]; exact c6
      have hp6 : nc < 6 := by
        have hs := hR.2.2.2.2.1
        have hall : ∀ w, w < 6 → p w ≤ 1 := fun w hw => by rcases hR.2.2.2.1 w hw with ⟨e, -⟩ | ⟨e, -⟩ <;> omega
        have z0 := hall 0 (by omega)
        have z1 := hall 1 (by omega)
        have z2 := hall 2 (by omega)
        have z3 := hall 3 (by omega)
        have z4 := hall 4 (by omega)
        have z5 := hall 5 (by omega)
        have : kdT B n i = 0 ∨ kdT B n i = 1 ∨ kdT B n i = 2 ∨ kdT B n i = 3 ∨ kdT B n i = 4 ∨ kdT B n i = 5 := by omega
        rcases this with e | e | e | e | e | e <;> rw [e] at cp <;> omega
      rw [t1.2.1, cl (by omega), if_pos hq.law, t1.2.2.1, enter_c hq ck hp6 t1.2.2.2.1 h44, Option.bind_some] at h118
      obtain ⟨hstep, W'', sv, w1, w2, w3⟩ := q7 c34
      have h26 : W'' 65 26 = nI nc := by rw [w3.2.2.1.1 26 (by omega) (by omega) (by omega) (by omega)]; exact m4
      obtain ⟨X, y1, y2, y3, y4, y5, y6, y7⟩ := over_cl hX w1 w2 h26 hj1 (by omega)
      have x78 : ∀ w, X 78 w = W3 78 w ∧ X 79 w = W3 79 w := fun w => ⟨by rw [y6 78 (by decide) (by decide) (by decide), w3.2.1 78 (by decide) (by decide) (by decide) (by decide) (by decide) (by decide) (by decide)], by rw [y6 79 (by decide) (by decide) (by decide), w3.2.1 79 (by decide) (by decide) (by decide) (by decide) (by decide) (by decide) (by decide)]⟩
      have x80 : ∀ x, x < m → X 80 x = W 80 x ∧ X 81 x = W 81 x := fun x hx => ⟨by rw [(y5 x (by omega)).1, (w3.2.2.2.2.2 x hx).1, m8], by rw [(y5 x (by omega)).2, (w3.2.2.2.2.2 x hx).2, m9]⟩
      have mg : MG W X := by
        refine m3.tr ((MF.g w3.2).tr ⟨⟨fun r hr => y6 r (by omega) (by omega) (by omega), fun k hk => y7 k (by omega) (by omega) (by omega) (by omega) (by omega)⟩, y7 17 (by omega) (by omega) (by omega) (by omega) (by omega)⟩)
      obtain ⟨V5, hV5⟩ : ∃ V5, V5 = x2 (x2 (x2 (x2 V4 (q + 2) (kdT B n i) (nI len)) (q + 3) (kdT B n i) (nI (len + C.length))) (q + 4) nc (nI (kdT B n i))) q 4 (nI (nc + 1)) := ⟨_, rfl⟩
      rw [← hV5] at h118
      have v46 : ∀ r, r ≠ q → r ≠ q + 2 → r ≠ q + 3 → r ≠ q + 4 → V5 r = V4 r := fun r r1 r2' r3 r4 => by rw [hV5, x2_ne r1, x2_ne r4, x2_ne r3, x2_ne r2']
      have v2 : ∀ w, w ≠ kdT B n i → V5 (q + 2) w = V (q + 2) w := fun w hw => by rw [hV5, x2_ne (by omega), x2_ne (by omega), x2_ne (by omega), x2_off (by omega), hV4r (q + 2) (by omega) (by omega) (by omega)]
      have v3 : ∀ w, w ≠ kdT B n i → V5 (q + 3) w = V (q + 3) w := fun w hw => by rw [hV5, x2_ne (by omega), x2_ne (by omega), x2_off (by omega), x2_ne (by omega), hV4r (q + 3) (by omega) (by omega) (by omega)]
      have v4 : ∀ x, x < nc → V5 (q + 4) x = V (q + 4) x := fun x hx => by rw [hV5, x2_ne (by omega), x2_off (by omega), x2_ne (by omega), x2_ne (by omega), hV4r (q + 4) (by omega) (by omega) (by omega)]
      have v1 : V5 (q + 1) = V4 (q + 1) := v46 (q + 1) (by omega) (by omega) (by omega) (by omega)
      have cA5 : cA V5 (q + 1) len C := cA_fr (fun x _ _ => by rw [v1]) t2
      have oX : oN X m (M ++ [(408, 0)]) := oN_app.mpr ⟨oN_fr (fun x _ hx => y5 x hx) w3.1, y4⟩
      refine Or.inr ⟨j + 1, len + C.length, m + M.length + 1, nc + 1, su p (kdT B n i) 1, V5, 1 + c + 1, X, by omega, hj1, by omega, h118, ?_, by omega, (m1.tr q2).tr (hstep X y1), mg, ⟨?_, ?_, ?_, ?_⟩, ⟨?_, ?_⟩, ?_, ?_, ?_⟩
      · refine g2.tr (t3.g.tr ⟨fun r r1 r2' => v46 r (by omega) (by omega) (by omega) (by omega), fun k hk => by rw [v46 46 (by omega) (by omega) (by omega) (by omega)]⟩)
      · rw [v46 46 (by omega) (by omega) (by omega) (by omega)]; exact t1.1
      · rw [v46 46 (by omega) (by omega) (by omega) (by omega)]; exact t1.2.1
      · rw [hV5, x2_off (by omega), x2_ne (by omega), x2_ne (by omega), x2_ne (by omega)]; exact t1.2.2.2.1
      · exact ⟨by rw [v46 47 (by omega) (by omega) (by omega) (by omega)]; exact t1.2.2.2.2.1, t1.2.2.2.2.2.fr (v46 48 (by omega) (by omega) (by omega) (by omega)) (v46 49 (by omega) (by omega) (by omega) (by omega)) (v46 50 (by omega) (by omega) (by omega) (by omega)), by rw [hV5, x2_at]⟩
      · exact y2.1
      · exact ⟨y2.2.1, y2.2.2.1, y2.2.2.2.1, y2.2.2.2.2.1, y2.2.2.2.2.2.1, y2.2.2.2.2.2.2.1, y3⟩
      · omega
      · intro w hw
        by_cases e : w = kdT B n i
        · subst e
          right
          refine ⟨su_at _ _ _, len, C, M, v, d, m, nc, hG, hd, ?_, ?_, Nat.le_refl _, cA5, by rw [(x78 _).1]; exact m6, Nat.le_refl _, oX, by rw [(x78 _).2]; exact m7, by omega, ?_⟩
          · rw [hV5, x2_ne (by omega), x2_ne (by omega), x2_ne (by omega), x2_at]
          · rw [hV5, x2_ne (by omega), x2_ne (by omega), x2_at]
          · rw [hV5, x2_ne (by omega), x2_at]
        · rw [su_ne e]
          rcases hR.2.2.2.1 w hw with ⟨z, a1, a2, a3, a4⟩ | ⟨z, hP⟩
          · left
            exact ⟨z, by rw [v2 w e]; exact a1, by rw [v3 w e]; exact a2, by rw [(x78 w).1, (m5 w e).1]; exact a3, by rw [(x78 w).2, (m5 w e).2]; exact a4⟩
          · right
            exact ⟨z, hP.fr (by omega) (by omega) (by omega) (v2 w e) (v3 w e) (fun k hk => by rw [v1, t3.2.2.2 k hk, r2 (q + 1) (by omega)]) v4 (by rw [(x78 w).1, (m5 w e).1]) (by rw [(x78 w).2, (m5 w e).2]) x80⟩
      · refine ⟨?_, fun x hx => ?_⟩
        · rw [psum ck cp, ← hR.2.2.2.2.1]
        · by_cases e : x = nc
          · subst e
            exact ⟨kdT B n i, ck, by rw [hV5, x2_ne (by omega), x2_at], by rw [(x78 _).2]; exact m7⟩
          · obtain ⟨w, w1', w2', w3'⟩ := hR.2.2.2.2.2 x (by omega)
            have ne : w ≠ kdT B n i := fun z => by
              subst z
              rcases hR.2.2.2.1 _ ck with ⟨-, -, -, -, a4⟩ | ⟨z, -⟩
              · rw [a4] at w3'; exact nI_m1 (by omega) w3'.symm
              · omega
            exact ⟨w, w1', by rw [v4 x (by omega)]; exact w2', by rw [(x78 w).2, (m5 w ne).2]; exact w3'⟩
end CR

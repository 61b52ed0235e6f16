/-! PURE: text, SUM on both sides -/
section SD
variable (B : Nat → Nat) (n N q wc : Nat)
def cLNo (rd : xV → Option (Int32 × xV)) (i k f j : Nat) (Cx : List Int32) : Prop := ∀ V0 V len, CE B n N q wc V0 V i len Cx → len + Cx.length + k ≤ i → ∃ V', rd V = some (0, V') ∧ V' 46 1 = nI f ∧ V' 46 2 = nI (plT B n j) ∧ CFx q V V'
def cLOk (rd : xV → Option (Int32 × xV)) (i k j : Nat) (Cx C : List Int32) : Prop := ∀ V0 V len, CE B n N q wc V0 V i len Cx → len + Cx.length + k ≤ i → ∃ V', rd V = some (1, V') ∧ CE B n N q wc V0 V' j len C
def mLNo (st : Nat) (hp lp : Option Nat) (o i f j : Nat) (Mx : List (Int32 × Int32)) : Prop := ∀ W0 W fr w m, PL B n wc st W0 W i fr o w m hp lp Mx → mZ B n W i f j
def mLOk (hp lp : Option Nat) (o i j : Nat) (Mx M : List (Int32 × Int32)) : Prop := ∀ W0 W fr w m, PL B n wc 1 W0 W i fr o w m hp lp Mx → ∃ c W', c ≤ j - i ∧ MS c W W' ∧ (∃ w' m', MV B n wc W' j 2 fr o w' m') ∧ MF W0 W' fr w m ∧ ∀ rk, rk = 1 ∨ rk = 3 → ∃ W'', f_Md_works rk W' = some W'' ∧ MV B n wc W'' j 2 fr o w (m + M.length) ∧ MR W0 W'' fr w m M
def JS (rd : xV → Option (Int32 × xV)) (hp lp : Option Nat) (Cx : List Int32) (Mx : List (Int32 × Int32)) (o D i : Nat) : Prop := (∃ f j, (0 < f ∧ f < 6) ∧ i ≤ j ∧ j < N ∧ cLNo B n N q wc rd i (np hp lp) f j Cx ∧ mLNo B n wc 1 hp lp o i f j Mx) ∨ ∃ j C M v d, i < j ∧ j < N ∧ ¬ (28 ≤ kdT B n j ∧ kdT B n j ≤ 31) ∧ Good wc true C M v d ∧ d ≤ D + 2 ∧ C.length ≤ Cx.length + np hp lp + (j - i) ∧ M.length ≤ Mx.length + np hp lp + (j - i) ∧ cLOk B n N q wc rd i (np hp lp) j Cx C ∧ mLOk B n wc hp lp o i j Mx M
end SD
section SE
variable {B : Nat → Nat} {n N q wc : Nat}
/-- the class behind a ONE -/
theorem sum_c (h : TX B n N q wc) (rd1 : Int32 → xV → Option (Int32 × xV)) (k9 : Int32 → Int32 → Int32 → Int32 → xV → Option (Int32 × xV)) (v1 : Int32) (tn : Nat) {hp lp : Option Nat} {V : xV} {j L : Nat} (hh : ∀ p, hp = some p → p < 36) (hl : ∀ p, lp = some p → p < 36) (hV : CS B n N q wc V j L) (hj : j < N) (hL : L + np hp lp ≤ j) : ∃ V2, CE B n N q wc V V2 j L (cks (ol hp)) ∧ ((kdT B n j = 30 ∨ kdT B n j = 31) → (if pI hp = 36 then b_Reader_readSum_43 rd1 k9 v1 (pI hp) (pI lp) (nI tn) 0 V else b_Reader_readSum_43 rd1 k9 v1 (pI hp) (pI lp) (nI tn) 1 V) = k9 v1 (nI (kdT B n j)) (pI lp) (nI (tn + 1)) (x2 V2 46 5 (V2 46 5 + 1))) ∧ (¬ (kdT B n j = 30 ∨ kdT B n j = 31) → ∃ V3, CE B n N q wc V2 V3 j (L + (cks (ol hp)).length) (cks (ol lp)) ∧ ((kdT B n j = 28 ∨ kdT B n j = 29) → (if pI hp = 36 then b_Reader_readSum_43 rd1 k9 v1 (pI hp) (pI lp) (nI tn) 0 V else b_Reader_readSum_43 rd1 k9 v1 (pI hp) (pI lp) (nI tn) 1 V) = k9 v1 36 (nI (kdT B n j)) (nI (tn + 1)) (x2 V3 46 5 (V3 46 5 + 1))) ∧ (¬ (kdT B n j = 28 ∨ kdT B n j = 29) → (if pI hp = 36 then b_Reader_readSum_43 rd1 k9 v1 (pI hp) (pI lp) (nI tn) 0 V else b_Reader_readSum_43 rd1 k9 v1 (pI hp) (pI lp) (nI tn) 1 V) = some (1, V3))) := by
  have hN := h.1.2.1
  have hkl := kdT_le (n := n) h.2.1 j
  have ne : ∀ x, x < 38 → ¬ kdT B n j = x → ¬ nI (kdT B n j) = nI x := fun x hx c z => c (nI_small (by omega) (by omega) z)
  obtain ⟨V2, a1, a2⟩ := emit_o h.2.2.1 hV hp hh (by unfold np at hL; omega)
  have hV2 := a2.1
  rw [cks_len] at hV2
  obtain ⟨V3, b1, b2⟩ := emit_o h.2.2.1 hV2 lp hl (by unfold np at hL; omega)
  have k2 := kind_at hV2 hj hN
  have k3 := kind_at b2.1 hj hN
  have e43 : (if pI hp = 36 then b_Reader_readSum_43 rd1 k9 v1 (pI hp) (pI lp) (nI tn) 0 V else b_Reader_readSum_43 rd1 k9 v1 (pI hp) (pI lp) (nI tn) 1 V) = if kdT B n j = 30 ∨ kdT B n j = 31 then b_Reader_readSum_76 rd1 k9 v1 (pI lp) (nI tn) (nI (kdT B n j)) V2 else b_Reader_readSum_76 rd1 k9 v1 (pI lp) (nI tn) 36 V2 := by
    have e0 : (if pI hp = 36 then b_Reader_readSum_43 rd1 k9 v1 (pI hp) (pI lp) (nI tn) 0 V else b_Reader_readSum_43 rd1 k9 v1 (pI hp) (pI lp) (nI tn) 1 V) = b_Reader_readSum_43 rd1 k9 v1 (pI hp) (pI lp) (nI tn) (if pI hp = 36 then 0 else 1) V := by split <;> rfl
    rw [e0]
    unfold b_Reader_readSum_43
    rw [a1, Option.bind_some, k2, Option.bind_some]
    by_cases c1 : kdT B n j = 30
    · rw [if_pos (show nI (kdT B n j) = 30 by rw [c1]; rfl), Option.bind_some, if_pos (Or.inl c1)]
    · rw [if_neg (show ¬ nI (kdT B n j) = 30 from ne 30 (by decide) c1), Option.bind_some]
      by_cases c2 : kdT B n j = 31
      · rw [if_neg (fun z => z (by rw [c2]; rfl)), Option.bind_some, if_pos (Or.inr c2)]
      · rw [if_pos (show ¬ nI (kdT B n j) = 31 from ne 31 (by decide) c2), if_neg (fun z => z.elim c1 c2)]
  rw [e43]
  refine ⟨V2, a2, fun c => ?_, fun c => ⟨V3, by rw [cks_len]; exact b2, fun c2 => ?_, fun c2 => ?_⟩⟩
  · rw [if_pos c]
    unfold b_Reader_readSum_76
    rw [if_pos (show ¬ nI (kdT B n j) = 36 from ne 36 (by decide) (by omega)), nI_1]
  all_goals
    rw [if_neg c]
    unfold b_Reader_readSum_76
    rw [if_neg (fun z => z rfl)]
    have e0 : (if pI lp = 36 then b_Reader_readSum_95 rd1 k9 v1 36 (pI lp) (nI tn) 0 V2 else b_Reader_readSum_95 rd1 k9 v1 36 (pI lp) (nI tn) 1 V2) = b_Reader_readSum_95 rd1 k9 v1 36 (pI lp) (nI tn) (if pI lp = 36 then 0 else 1) V2 := by split <;> rfl
    rw [e0]
    unfold b_Reader_readSum_95
    rw [b1, Option.bind_some, k3, Option.bind_some]
  · by_cases d1 : kdT B n j = 28
    · rw [if_pos (show nI (kdT B n j) = 28 by rw [d1]; rfl), Option.bind_some]
      unfold b_Reader_readSum_128
      rw [if_pos (show ¬ nI (kdT B n j) = 36 from ne 36 (by decide) (by omega)), nI_1]
    · have d2 : kdT B n j = 29 := by omega
      rw [if_neg (show ¬ nI (kdT B n j) = 28 from ne 28 (by decide) d1), Option.bind_some, if_neg (fun z => z (by rw [d2]; rfl)), Option.bind_some]
      unfold b_Reader_readSum_128
      rw [if_pos (show ¬ nI (kdT B n j) = 36 from ne 36 (by decide) (by omega)), nI_1]
  · rw [if_neg (show ¬ nI (kdT B n j) = 28 from ne 28 (by decide) (by omega)), Option.bind_some, if_pos (show ¬ nI (kdT B n j) = 29 from ne 29 (by decide) (by omega))]
    unfold b_Reader_readSum_128
    rw [if_neg (fun z => z rfl)]
theorem sum_loop (h : TX B n N q wc) {rd1 : Int32 → xV → Option (Int32 × xV)} {o D : Nat} (ho : o ≤ 8) (H1 : ∀ i, i < N → J1 B n N q wc (rd1 (nI o)) 0 o D i) : ∀ (x i u tn : Nat) (hp lp : Option Nat) (Ca Cb : List Int32) (Ma Mb : List (Int32 × Int32)), N - i ≤ x → i < N → x < u → tn ≤ i → Pd wc true lp Ca Ma (D + 2) → Pd wc true hp Cb Mb (D + 1) → (∀ p, lp = some p → p = 28 ∨ p = 29) → (∀ p, hp = some p → p = 30 ∨ p = 31) → JS B n N q wc (g_Reader_readSum_9 rd1 u (nI o) (pI hp) (pI lp) (nI tn)) hp lp (Ca ++ Cb) (Ma ++ Mb) o D i
  | x, i, 0, tn, hp, lp, Ca, Cb, Ma, Mb, h1, hi, h2, h3, hlo, hhi, hl, hh => by omega
  | 0, i, u + 1, tn, hp, lp, Ca, Cb, Ma, Mb, h1, hi, h2, h3, hlo, hhi, hl, hh => by omega
  | x + 1, i, u + 1, tn, hp, lp, Ca, Cb, Ma, Mb, h1, hi, h2, h3, hlo, hhi, hl, hh => by
    have hN := h.1.2.1
    have hl36 : ∀ p, lp = some p → p < 36 := fun p e => by have := hl p e; omega
    have hh36 : ∀ p, hp = some p → p < 36 := fun p e => by have := hh p e; omega
    have rd : ∀ V len, CS B n N q wc V i len → g_Reader_readSum_9 rd1 (u + 1) (nI o) (pI hp) (pI lp) (nI tn) V = Option.bind (rd1 (nI o) V) fun p5 => if ¬ p5.1 = 0 then (if pI hp = 36 then b_Reader_readSum_43 rd1 (g_Reader_readSum_9 rd1 u) (nI o) (pI hp) (pI lp) (nI tn) 0 p5.2 else b_Reader_readSum_43 rd1 (g_Reader_readSum_9 rd1 u) (nI o) (pI hp) (pI lp) (nI tn) 1 p5.2) else some (0, p5.2) := by
      intro V len hV
      show b_Reader_readSum_9 _ _ _ _ _ _ _ = _
      unfold b_Reader_readSum_9
      rw [hV.2.2.2.2.1, if_neg (nI_ge (by omega) (by omega))]
    rcases H1 i hi with ⟨f, j, f1, j1, j2, hcn, hmn⟩ | ⟨j, Cc, Mc, vc, dc, j1, j2, hG, hd, hC, hM, hco, hmo⟩
    · refine Or.inl ⟨f, j, f1, j1, j2, fun V0 V len hV hlen => ?_, fun W0 W fr w m hW => hmn W fr _ _ hW.one⟩
      obtain ⟨V', e1, e2, e3, e4⟩ := hcn V _ hV.1 (by omega)
      refine ⟨V', ?_, e2, e3, e4⟩
      rw [rd V _ hV.1, e1, Option.bind_some, if_neg (fun z => z rfl)]
    · -- a ONE was read
      obtain ⟨vp, dp, hGp, hdp⟩ := comb hhi hG (by omega)
      obtain ⟨vs, ds, hGs, hds⟩ := comb hlo hGp (by omega)
      have mone : ∀ {W0 W : xV} {fr w m : Nat}, PL B n wc 1 W0 W i fr o w m hp lp (Ma ++ Mb) → ∃ c W1, c ≤ j - i ∧ MS c W W1 ∧ PL B n wc 2 W0 W1 j fr o w m hp lp (Ma ++ Mb ++ Mc) := by
        intro W0 W fr w m hW
        obtain ⟨c, W1, c1, c2, c3, c4⟩ := hmo W fr _ _ hW.one
        exact ⟨c, W1, c1, c2, hW.after c3 c4 (by omega) (by omega)⟩
      have hrk := rk_mo
      have rhi : ∀ p, p ∈ ol hp → f_Md_rank (mo p) = 4 := by
        intro p hp'
        cases hp with
        | none => cases hp'
        | some p0 =>
          have : p = p0 := List.mem_singleton.mp hp'
          subst this
          rcases hh p rfl with rfl | rfl
          · exact hrk.2.2.1
          · exact hrk.2.2.2.1
      have rlo : ∀ p, p ∈ ol lp → f_Md_rank (mo p) = 3 := by
        intro p hp'
        cases lp with
        | none => cases hp'
        | some p0 =>
          have : p = p0 := List.mem_singleton.mp hp'
          subst this
          rcases hl p rfl with rfl | rfl
          · exact hrk.1
          · exact hrk.2.1
      have popA : ∀ {W0 W1 : xV} {fr w m : Nat} (rk : Int32), rk = 1 ∨ rk = 3 → PL B n wc 2 W0 W1 j fr o w m hp lp (Ma ++ Mb ++ Mc) → ∃ W2, f_Md_works rk W1 = some W2 ∧ PL B n wc 2 W0 W2 j fr o w m none none (Ma ++ (Mb ++ Mc ++ mos (ol hp)) ++ mos (ol lp)) := by
        intro W0 W1 fr w m rk hrk' hP
        obtain ⟨W2, d1, d2⟩ := hP.pop (hp' := none) (lp' := none) (R := ol hp ++ ol lp) (rk := rk) ho (by omega) (by rw [show ol none = [] from rfl, List.append_nil, List.append_nil]) (fun p hp' => by
          rcases List.mem_append.mp hp' with z | z
          · rw [rhi p z]; rcases hrk' with rfl | rfl <;> decide
          · rw [rlo p z]; rcases hrk' with rfl | rfl <;> decide) (hP.base rk)
        refine ⟨W2, d1, ?_⟩
        have : Ma ++ Mb ++ Mc ++ mos (ol hp ++ ol lp) = Ma ++ (Mb ++ Mc ++ mos (ol hp)) ++ mos (ol lp) := by unfold mos; simp [List.append_assoc]
        rw [this] at d2
        exact d2
      have lenS : (Ma ++ (Mb ++ Mc ++ mos (ol hp)) ++ mos (ol lp)).length = (Ma ++ Mb).length + Mc.length + np hp lp := by
        unfold np
        simp only [List.length_append, mos_len]
        omega
      have lenC : (Ca ++ (Cb ++ Cc ++ cks (ol hp)) ++ cks (ol lp)).length = (Ca ++ Cb).length + Cc.length + np hp lp := by
        unfold np
        simp only [List.length_append, cks_len]
        omega
      have cone : ∀ {V0 V : xV} {len : Nat}, CE B n N q wc V0 V i len (Ca ++ Cb) → len + (Ca ++ Cb).length + np hp lp ≤ i → ∃ V1, rd1 (nI o) V = some (1, V1) ∧ CE B n N q wc V0 V1 j len (Ca ++ Cb ++ Cc) ∧ len + (Ca ++ Cb ++ Cc).length + np hp lp ≤ j := by
        intro V0 V len hV hlen
        obtain ⟨V1, e1, e2⟩ := hco V _ hV.1 (by omega)
        exact ⟨V1, e1, hV.tr e2, by rw [List.length_append]; omega⟩
      by_cases c1 : kdT B n j = 30 ∨ kdT B n j = 31
      · -- * or /
        have hj1 : j + 1 < N := h.nx j2 (by omega)
        have ih := sum_loop h ho H1 x (j + 1) u (tn + 1) (some (kdT B n j)) lp Ca (Cb ++ Cc ++ cks (ol hp)) Ma (Mb ++ Mc ++ mos (ol hp)) (by omega) hj1 (by omega) (by omega) hlo (Or.inr ⟨kdT B n j, vp, dp, rfl, Or.inl ⟨rfl, by unfold opS; omega⟩, hGp, hdp⟩) hl (fun p e => by cases e; exact c1)
        have cs : ∀ {V0 V : xV} {len : Nat}, CE B n N q wc V0 V i len (Ca ++ Cb) → len + (Ca ++ Cb).length + np hp lp ≤ i → ∃ V2, g_Reader_readSum_9 rd1 (u + 1) (nI o) (pI hp) (pI lp) (nI tn) V = g_Reader_readSum_9 rd1 u (nI o) (pI (some (kdT B n j))) (pI lp) (nI (tn + 1)) V2 ∧ CE B n N q wc V0 V2 (j + 1) len (Ca ++ (Cb ++ Cc ++ cks (ol hp))) ∧ CFr q V V2 (len + (Ca ++ Cb).length) ∧ len + (Ca ++ (Cb ++ Cc ++ cks (ol hp))).length + np (some (kdT B n j)) lp ≤ j + 1 := by
          intro V0 V len hV hlen
          obtain ⟨V1, e1, e2⟩ := hco V _ hV.1 (by omega)
          have hV1 := hV.tr e2
          obtain ⟨V2, g1, g2, -⟩ := sum_c h rd1 (g_Reader_readSum_9 rd1 u) (nI o) tn hh36 hl36 hV1.1 j2 (by rw [List.length_append (as := Ca ++ Cb)]; omega)
          have ha := adv h.2.2.1 g1.1
          have tot := (hV1.tr g1).tr (C2 := []) (by rw [List.length_append, ← Nat.add_assoc]; exact ha)
          rw [List.append_nil] at tot
          have ea : Ca ++ Cb ++ Cc ++ cks (ol hp) = Ca ++ (Cb ++ Cc ++ cks (ol hp)) := by simp [List.append_assoc]
          rw [ea] at tot
          refine ⟨_, ?_, tot, e2.2.2.tr (g1.2.2.tr ha.2.2 (by omega)) (by rw [List.length_append (as := Ca ++ Cb)]; omega), ?_⟩
          · rw [rd V _ hV.1, e1, Option.bind_some, if_pos (show ¬ (1 : Int32) = 0 by decide)]
            exact g2 c1
          · have : np (some (kdT B n j)) lp = 1 + (ol lp).length := rfl
            rw [this]
            unfold np at hlen
            simp only [List.length_append, cks_len] at hlen ⊢
            omega
        have msx : ∀ {W0 W : xV} {fr w m : Nat}, PL B n wc 1 W0 W i fr o w m hp lp (Ma ++ Mb) → ∃ c W3, c ≤ j + 1 - i ∧ MS c W W3 ∧ MX W W3 ∧ PL B n wc 1 W0 W3 (j + 1) fr o w m (some (kdT B n j)) lp (Ma ++ (Mb ++ Mc ++ mos (ol hp))) := by
          intro W0 W fr w m hW
          obtain ⟨c, W1, b1, b2, b3, b4⟩ := hmo W fr _ _ hW.one
          have hP := hW.after b3 b4 (by omega) (by omega)
          have er : f_Md_rank (mo (kdT B n j)) = 4 := by rcases c1 with e | e <;> rw [e]; exact hrk.2.2.1; exact hrk.2.2.2.1
          obtain ⟨W2, d1, d2⟩ := hP.pop (hp' := none) (lp' := lp) (R := ol hp) (rk := 4) ho (by omega) rfl (fun p z => by rw [rhi p z]; decide) (by
            cases lp with
            | none => exact hP.base 4
            | some p =>
              have hs := sk.drop (R := ol hp) (T := ol (some p)) (x := w + 1) (by have := hP.2.2.1; unfold np at this; rw [show w + ((ol hp).length + (ol (some p)).length) = w + 1 + (ol hp).length by show w + ((ol hp).length + 1) = _; omega] at this; exact this)
              obtain ⟨y, y1, ⟨y2, y3⟩, -⟩ := hs
              exact Or.inr ⟨y, y1, Or.inr ⟨y3, by rw [y2, rlo p List.mem_cons_self]; decide⟩⟩)
          obtain ⟨W3, p1, p2⟩ := d2.push (hp := some (kdT B n j)) (lp := lp) (W := W1) h.1 (by rw [er]; exact d1) ho hj1 rfl 1
          have tp : ∃ t, f_Md_top W1 = some t := by
            obtain ⟨g, a4, -⟩ := hP.2.2.2.1
            have := hP.2.2.2.2.1
            exact ⟨_, top_m (fr := g) (by rw [← a4]; exact hP.1.2.2.2.1) (by omega)⟩
          obtain ⟨t, ht⟩ := tp
          have go : f_Md_goesOn W1 = some (x2 W3 65 25 (nI 1)) := by
            rw [go_op hP.1.1 (by omega) (by omega), ht, Option.bind_some, p1, Option.bind_some]; rfl
          have ea : Ma ++ Mb ++ Mc ++ mos (ol hp) = Ma ++ (Mb ++ Mc ++ mos (ol hp)) := by simp [List.append_assoc]
          rw [ea] at p2
          refine ⟨c + 1, _, by omega, b2.tr (MS.s2 hP.1.2.1 hP.1.2.2.1 go), ?_, p2⟩
          exact ⟨fun r hr => (p2.2.1.2.x.1 r hr).trans (hW.2.1.2.x.1 r hr).symm, fun k hk => (p2.2.1.2.x.2 k hk).trans (hW.2.1.2.x.2 k hk).symm⟩
        rcases ih with ⟨f, j', f1, k1, k2, hcn, hmn⟩ | ⟨j', C, M, v, d, k1, k2, kk, hG', hd', hC', hM', hco', hmo'⟩
        · refine Or.inl ⟨f, j', f1, by omega, k2, fun V0 V len hV hlen => ?_, fun W0 W fr w m hW => ?_⟩
          · obtain ⟨V2, e1, e2, e3, e4⟩ := cs hV hlen
            obtain ⟨V', g1, g2, g3, g4⟩ := hcn V0 V2 len e2 e4
            exact ⟨V', e1.trans g1, g2, g3, e3.x g4⟩
          · obtain ⟨c, W3, b1, b2, b3, b4⟩ := msx hW
            obtain ⟨c', W', q1, q2, q3, q4, q5⟩ := hmn W0 W3 fr w m b4
            exact ⟨c + c', W', by omega, b2.tr q2, q3, q4, b3.tr q5⟩
        · have n1 : np (some (kdT B n j)) lp = 1 + (ol lp).length := rfl
          refine Or.inr ⟨j', C, M, v, d, by omega, k2, kk, hG', hd', ?_, ?_, fun V0 V len hV hlen => ?_, fun W0 W fr w m hW => ?_⟩
          · rw [n1] at hC'
            unfold np
            simp only [List.length_append, cks_len] at hC' ⊢
            omega
          · rw [n1] at hM'
            unfold np
            simp only [List.length_append, mos_len] at hM' ⊢
            omega
          · obtain ⟨V2, e1, e2, e3, e4⟩ := cs hV hlen
            obtain ⟨V', g1, g2⟩ := hco' V0 V2 len e2 e4
            exact ⟨V', e1.trans g1, g2⟩
          · obtain ⟨c, W3, b1, b2, b3, b4⟩ := msx hW
            obtain ⟨c', W', q1, q2, q3, q4, q5⟩ := hmo' W0 W3 fr w m b4
            exact ⟨c + c', W', by omega, b2.tr q2, q3, q4, q5⟩
      · by_cases c2 : kdT B n j = 28 ∨ kdT B n j = 29
        · -- + or -
          have hj1 : j + 1 < N := h.nx j2 (by omega)
          have ih := sum_loop h ho H1 x (j + 1) u (tn + 1) none (some (kdT B n j)) (Ca ++ (Cb ++ Cc ++ cks (ol hp)) ++ cks (ol lp)) [] (Ma ++ (Mb ++ Mc ++ mos (ol hp)) ++ mos (ol lp)) [] (by omega) hj1 (by omega) (by omega) (Or.inr ⟨kdT B n j, vs, ds, rfl, Or.inl ⟨rfl, by unfold opS; omega⟩, hGs, hds⟩) (Or.inl ⟨rfl, rfl, rfl⟩) (fun p e => by cases e; exact c2) (fun p e => by cases e)
          rw [List.append_nil, List.append_nil] at ih
          have cs : ∀ {V0 V : xV} {len : Nat}, CE B n N q wc V0 V i len (Ca ++ Cb) → len + (Ca ++ Cb).length + np hp lp ≤ i → ∃ V2, g_Reader_readSum_9 rd1 (u + 1) (nI o) (pI hp) (pI lp) (nI tn) V = g_Reader_readSum_9 rd1 u (nI o) (pI none) (pI (some (kdT B n j))) (nI (tn + 1)) V2 ∧ CE B n N q wc V0 V2 (j + 1) len (Ca ++ (Cb ++ Cc ++ cks (ol hp)) ++ cks (ol lp)) ∧ CFr q V V2 (len + (Ca ++ Cb).length) ∧ len + (Ca ++ (Cb ++ Cc ++ cks (ol hp)) ++ cks (ol lp)).length + np none (some (kdT B n j)) ≤ j + 1 := by
            intro V0 V len hV hlen
            obtain ⟨V1, e1, e2⟩ := hco V _ hV.1 (by omega)
            have hV1 := hV.tr e2
            obtain ⟨V2, g1, -, g3⟩ := sum_c h rd1 (g_Reader_readSum_9 rd1 u) (nI o) tn hh36 hl36 hV1.1 j2 (by rw [List.length_append (as := Ca ++ Cb)]; omega)
            obtain ⟨V3, k1, k2, -⟩ := g3 c1
            have ha := adv h.2.2.1 k1.1
            have t2 := hV1.tr (g1.tr k1)
            have tot := t2.tr (C2 := []) (by rw [List.length_append, List.length_append (as := cks (ol hp)), ← Nat.add_assoc, ← Nat.add_assoc]; exact ha)
            rw [List.append_nil] at tot
            have ea : Ca ++ Cb ++ Cc ++ (cks (ol hp) ++ cks (ol lp)) = Ca ++ (Cb ++ Cc ++ cks (ol hp)) ++ cks (ol lp) := by simp [List.append_assoc]
            rw [ea] at tot
            refine ⟨_, ?_, tot, e2.2.2.tr (g1.2.2.tr (k1.2.2.tr ha.2.2 (by omega)) (by omega)) (by rw [List.length_append (as := Ca ++ Cb)]; omega), ?_⟩
            · rw [rd V _ hV.1, e1, Option.bind_some, if_pos (show ¬ (1 : Int32) = 0 by decide)]
              exact k2 c2
            · rw [lenC, show np none (some (kdT B n j)) = 1 from rfl]
              omega
          have msx : ∀ {W0 W : xV} {fr w m : Nat}, PL B n wc 1 W0 W i fr o w m hp lp (Ma ++ Mb) → ∃ c W3, c ≤ j + 1 - i ∧ MS c W W3 ∧ MX W W3 ∧ PL B n wc 1 W0 W3 (j + 1) fr o w m none (some (kdT B n j)) (Ma ++ (Mb ++ Mc ++ mos (ol hp)) ++ mos (ol lp)) := by
            intro W0 W fr w m hW
            obtain ⟨c, W1, b1, b2, hP⟩ := mone hW
            have er : f_Md_rank (mo (kdT B n j)) = 3 := by rcases c2 with e | e <;> rw [e]; exact hrk.1; exact hrk.2.1
            obtain ⟨W2, d1, d2⟩ := popA 3 (Or.inr rfl) hP
            obtain ⟨W3, p1, p2⟩ := d2.push (hp := none) (lp := some (kdT B n j)) (W := W1) h.1 (by rw [er]; exact d1) ho hj1 rfl 1
            have tp : ∃ t, f_Md_top W1 = some t := by
              obtain ⟨g, a4, -⟩ := hP.2.2.2.1
              have := hP.2.2.2.2.1
              exact ⟨_, top_m (fr := g) (by rw [← a4]; exact hP.1.2.2.2.1) (by omega)⟩
            obtain ⟨t, ht⟩ := tp
            have go : f_Md_goesOn W1 = some (x2 W3 65 25 (nI 1)) := by
              rw [go_op hP.1.1 (by omega) (by omega), ht, Option.bind_some, p1, Option.bind_some]; rfl
            refine ⟨c + 1, _, by omega, b2.tr (MS.s2 hP.1.2.1 hP.1.2.2.1 go), ?_, p2⟩
            exact ⟨fun r hr => (p2.2.1.2.x.1 r hr).trans (hW.2.1.2.x.1 r hr).symm, fun k hk => (p2.2.1.2.x.2 k hk).trans (hW.2.1.2.x.2 k hk).symm⟩
          have n1 : np none (some (kdT B n j)) = 1 := rfl
          rcases ih with ⟨f, j', f1, k1, k2, hcn, hmn⟩ | ⟨j', C, M, v, d, k1, k2, kk, hG', hd', hC', hM', hco', hmo'⟩
          · refine Or.inl ⟨f, j', f1, by omega, k2, fun V0 V len hV hlen => ?_, fun W0 W fr w m hW => ?_⟩
            · obtain ⟨V2, e1, e2, e3, e4⟩ := cs hV hlen
              obtain ⟨V', g1, g2, g3, g4⟩ := hcn V0 V2 len e2 e4
              exact ⟨V', e1.trans g1, g2, g3, e3.x g4⟩
            · obtain ⟨c, W3, b1, b2, b3, b4⟩ := msx hW
              obtain ⟨c', W', q1, q2, q3, q4, q5⟩ := hmn W0 W3 fr w m b4
              exact ⟨c + c', W', by omega, b2.tr q2, q3, q4, b3.tr q5⟩
          · refine Or.inr ⟨j', C, M, v, d, by omega, k2, kk, hG', hd', by rw [lenC, n1] at hC'; omega, by rw [lenS, n1] at hM'; omega, fun V0 V len hV hlen => ?_, fun W0 W fr w m hW => ?_⟩
            · obtain ⟨V2, e1, e2, e3, e4⟩ := cs hV hlen
              obtain ⟨V', g1, g2⟩ := hco' V0 V2 len e2 e4
              exact ⟨V', e1.trans g1, g2⟩
            · obtain ⟨c, W3, b1, b2, b3, b4⟩ := msx hW
              obtain ⟨c', W', q1, q2, q3, q4, q5⟩ := hmo' W0 W3 fr w m b4
              exact ⟨c + c', W', by omega, b2.tr q2, q3, q4, q5⟩
        · -- the SUM is over
          refine Or.inr ⟨j, _, _, vs, ds, j1, j2, by omega, hGs, hds, by rw [lenC]; omega, by rw [lenS]; omega, fun V0 V len hV hlen => ?_, fun W0 W fr w m hW => ?_⟩
          · obtain ⟨V1, e1, e2⟩ := hco V _ hV.1 (by omega)
            have hV1 := hV.tr e2
            obtain ⟨V2, g1, -, g3⟩ := sum_c h rd1 (g_Reader_readSum_9 rd1 u) (nI o) tn hh36 hl36 hV1.1 j2 (by rw [List.length_append (as := Ca ++ Cb)]; omega)
            obtain ⟨V3, k1, -, k3⟩ := g3 c1
            have t2 := hV1.tr (g1.tr k1)
            have ea : Ca ++ Cb ++ Cc ++ (cks (ol hp) ++ cks (ol lp)) = Ca ++ (Cb ++ Cc ++ cks (ol hp)) ++ cks (ol lp) := by simp [List.append_assoc]
            rw [ea] at t2
            refine ⟨V3, ?_, t2⟩
            rw [rd V _ hV.1, e1, Option.bind_some, if_pos (show ¬ (1 : Int32) = 0 by decide)]
            exact k3 c2
          · obtain ⟨c, W1, b1, b2, hP⟩ := mone hW
            refine ⟨c, W1, b1, b2, ⟨_, _, hP.1⟩, hP.2.1.2, fun rk hrk' => ?_⟩
            obtain ⟨W2, d1, d2⟩ := popA rk hrk' hP
            exact ⟨W2, d1, d2.1, d2.2.1⟩
end SE

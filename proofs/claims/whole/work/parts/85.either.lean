/-! PURE: text, EITHER on both sides -/
section ED
variable (B : Nat → Nat) (n N q wc : Nat)
def ENo (hp lp : Option Nat) (i f j : Nat) (Mx : List (Int32 × Int32)) : Prop := ∀ W0 W m, PL B n wc 0 W0 W i 1 0 0 m hp lp Mx → W 74 0 = 2 → mY B n W i f j
def EOk (hp lp : Option Nat) (i j : Nat) (Mx M : List (Int32 × Int32)) : Prop := ∀ W0 W m, PL B n wc 0 W0 W i 1 0 0 m hp lp Mx → W 74 0 = 2 → ∃ c W', c ≤ 2 * (j - i) ∧ MS c W W' ∧ (∃ w' m', MV B n wc W' j 3 1 0 w' m') ∧ W' 74 0 = 2 ∧ MF W0 W' 1 0 m ∧ ∃ W'', f_Md_works 1 W' = some W'' ∧ MV B n wc W'' j 3 1 0 0 (m + M.length) ∧ MR W0 W'' 1 0 m M
def JE (rd : xV → Option (Int32 × xV)) (hp lp : Option Nat) (Cx : List Int32) (Mx : List (Int32 × Int32)) (i : Nat) : Prop := (∃ f j, (0 < f ∧ f < 6) ∧ i ≤ j ∧ j < N ∧ cLNo B n N q wc rd i (np hp lp) f j Cx ∧ ENo B n wc hp lp i f j Mx) ∨ ∃ j C M v d, i < j ∧ j < N ∧ ¬ (kdT B n j = 6 ∨ kdT B n j = 7) ∧ Good wc false C M v d ∧ d ≤ 22 ∧ C.length ≤ Cx.length + np hp lp + (j - i) ∧ M.length ≤ Mx.length + np hp lp + (j - i) ∧ cLOk B n N q wc rd i (np hp lp) j Cx C ∧ EOk B n wc hp lp i j Mx M
end ED
section EE
variable {B : Nat → Nat} {n N q wc : Nat}
theorem ask_chain (h : TX B n N q wc) : ∀ (x k u i : Nat), k + x = 8 → 9 ≤ u + k → i < N → J3 B n N q wc (g_Reader_readAsk_4 u (nI k) (nI k)) k i
  | x, k, 0, i, h1, h2, hi => by omega
  | x, k, u + 1, i, h1, h2, hi => by
    have hN := h.1.2.1
    have hkl := kdT_le (n := n) h.2.1 i
    have rd : ∀ V, (∃ len, CS B n N q wc V i len) → g_Reader_readAsk_4 (u + 1) (nI k) (nI k) V = if kdT B n i = 8 then (if k < 8 then g_Reader_readAsk_4 u (nI (k + 1)) (nI (k + 1)) (x2 V 46 5 (V 46 5 + 1)) else Option.bind (f_Reader_wrong 3 V) fun p6 => if p6.1 = 0 ∨ p6.1 = 1 then some (p6.1, p6.2) else none) else b_Reader_readAsk_50 (nI k) V := by
      rintro V ⟨len, hV⟩
      show b_Reader_readAsk_4 _ _ _ _ = _
      unfold b_Reader_readAsk_4
      rw [if_neg (show ¬ (8 : Int32) < nI k from nI_nlt (a := 8) (by omega) (by decide)), kind_at hV hi hN, Option.bind_some, nI_1]
      by_cases c : kdT B n i = 8
      · rw [if_neg (fun z => z (by rw [c]; rfl)), if_pos c]
        by_cases c2 : k < 8
        · rw [if_pos (show nI k < 8 from nI_lt (b := 8) c2 (by decide)), if_pos c2]
        · rw [if_neg (show ¬ nI k < 8 from nI_nlt (b := 8) (by omega) (by omega)), if_neg c2]
      · rw [if_pos (show ¬ nI (kdT B n i) = 8 from fun z => c (nI_small (b := 8) (by omega) (by decide) z)), if_neg c]
    by_cases c : kdT B n i = 8
    · have hi1 : i + 1 < N := h.nx hi (by omega)
      have hb : ∀ {W : xV} {w m : Nat}, S3 B n wc W i k w m → f_Md_asks W = Option.bind (f_Md_opensSign 3 W) fun p => some p.2 := fun hW => by
        unfold f_Md_asks
        rw [show f_Md_isWord 8 _ = _ from isWord_at hW.1.1 (x := 8) (by decide), if_pos c, if_neg (by decide)]
      by_cases c8 : k < 8
      · obtain ⟨y, rfl⟩ : ∃ y, x = y + 1 := ⟨x - 1, by omega⟩
        have mstep : ∀ {W : xV} {w m : Nat}, S3 B n wc W i k w m → ∃ W1, MS 1 W W1 ∧ S3 B n wc W1 (i + 1) (k + 1) w m ∧ MF W W1 1 w m := by
          intro W w m hW
          obtain ⟨a1, a2, a3, a4, a5, a6⟩ := id hW
          obtain ⟨W1, b1, b2, b3, b4⟩ := sign_m h.1 a1 (by omega) (by omega) hi1 3
          refine ⟨W1, MS.s0 a1.2.1 a1.2.2.1 (by rw [hb hW, b1, Option.bind_some]), ⟨b2, fun x hx => ?_, by rw [b4.2.2.1 0 (by omega)]; exact a3, a4, fun x hx => by rw [(b4.2.2.2.1 x hx).2]; exact a5 x hx, by omega⟩, b4.le (by omega) (Nat.le_refl _) (Nat.le_refl _)⟩
          by_cases e : x = k
          · rw [e]; exact b3
          · rw [b4.2.2.1 _ (by omega)]; exact a2 x (by omega)
        rcases ask_chain h y (k + 1) u (i + 1) (by omega) (by omega) hi1 with ⟨f, j, f1, j1, j2, hcn, hmn⟩ | ⟨j, C, M, v, d, j1, j2, hG, hd, hC, hM, hco, hmo⟩
        · refine Or.inl ⟨f, j, f1, by omega, j2, fun V len hV hl => ?_, fun W w m hW => ?_⟩
          · have ha := adv h.2.2.1 hV
            obtain ⟨V', e1, e2, e3, e4⟩ := hcn _ len ha.1 (by omega)
            refine ⟨V', ?_, e2, e3, ha.2.2.x e4⟩
            rw [rd V ⟨len, hV⟩, if_pos c, if_pos c8]; exact e1
          · obtain ⟨W1, b1, b2, b3⟩ := mstep hW
            obtain ⟨cc, W', c1, c2, c3, c4, c5⟩ := hmn W1 _ _ b2
            exact ⟨1 + cc, W', by omega, b1.tr c2, c3, c4, b3.x.tr c5⟩
        · refine Or.inr ⟨j, C, M, v, d, by omega, j2, hG, hd, by omega, by omega, fun V len hV hl => ?_, fun W w m hW => ?_⟩
          · have ha := adv h.2.2.1 hV
            obtain ⟨V', e1, e2⟩ := hco _ len ha.1 (by omega)
            refine ⟨V', ?_, CE.tr (C1 := []) ha e2⟩
            rw [rd V ⟨len, hV⟩, if_pos c, if_pos c8]; exact e1
          · obtain ⟨W1, b1, b2, b3⟩ := mstep hW
            obtain ⟨cc, W', c1, c2, c3, c4⟩ := hmo W1 _ _ b2
            exact ⟨1 + cc, W', by omega, b1.tr c2, c3, MR.fm (m' := m) b3 c4 (Nat.le_refl _) (Nat.le_refl _)⟩
      · have e8 : k = 8 := by omega
        subst e8
        refine Or.inl ⟨3, i, by omega, by omega, hi, fun V len hV hl => ?_, fun W w m hW => ?_⟩
        · rw [rd V ⟨len, hV⟩, if_pos c, if_neg c8]; exact wrong_rd h hV hi 3
        · obtain ⟨W', r, e1, e2, e3, e4⟩ := sign_8 (fr := 0 + 1 + 8) hW.1 3
          exact ⟨1, W', by omega, MS.s0 hW.1.2.1 hW.1.2.2.1 (by rw [hb hW, e1, Option.bind_some]), e2, e3, e4⟩
    · rcases ask_body h hi (show k ≤ 8 by omega) c with ⟨f, j, f1, j1, j2, hcn, hmn⟩ | ⟨j, C, M, v, d, j1, j2, hG, hd, hC, hM, hco, hmo⟩
      · exact Or.inl ⟨f, j, f1, j1, j2, fun V len hV hl => by rw [rd V ⟨len, hV⟩, if_neg c]; exact hcn V len hV hl, hmn⟩
      · exact Or.inr ⟨j, C, M, v, d, j1, j2, hG, hd, hC, hM, fun V len hV hl => by rw [rd V ⟨len, hV⟩, if_neg c]; exact hco V len hV hl, hmo⟩
theorem J_ask (h : TX B n N q wc) (i : Nat) (hi : i < N) : J3 B n N q wc f_Reader_readAsk 0 i := ask_chain h 8 0 2000 i (by omega) (by omega) hi
def bI (x : Option Nat) : Bool := match x with | none => false | some _ => true
theorem emit_b {V : xV} {i len e : Nat} (hq : qk q) (h : CS B n N q wc V i len) (x : Option Nat) (hx : ∀ p, x = some p → p = e) (hl : len + (ol x).length ≤ 300) : ∃ V', f_Reader_emitIf (o1 (bI x)) (cK e) V = some V' ∧ CE B n N q wc V V' i len (cks (ol x)) := by
  cases x with
  | none => exact emit_at hq h false (fun z => by cases z) (cK e)
  | some p =>
    have := hx p rfl
    subst this
    exact emit_at hq h true (fun _ => by have hl : len + 1 ≤ 300 := hl; omega) (cK p)
/-- the class behind an ASK -/
theorem either_c (h : TX B n N q wc) (k6 : Int32 → Int32 → Int32 → xV → Option (Int32 × xV)) (tn : Nat) {hp lp : Option Nat} {V : xV} {j L : Nat} (hh : ∀ p, hp = some p → p = 7) (hl : ∀ p, lp = some p → p = 6) (hV : CS B n N q wc V j L) (hj : j < N) (hL : L + np hp lp ≤ j) (Z : Option (Int32 × xV)) (hZ : Z = Option.bind (f_Reader_emitIf (o1 (bI hp)) (-8) V) fun p8 => Option.bind (f_Reader_kind p8) fun p10 => if ¬ p10 = 7 then b_Reader_readEither_47 k6 (o1 (bI lp)) (nI tn) 0 p8 else b_Reader_readEither_47 k6 (o1 (bI lp)) (nI tn) 1 p8) : ∃ V2, CE B n N q wc V V2 j L (cks (ol hp)) ∧ (kdT B n j = 7 → Z = k6 (o1 (bI lp)) 1 (nI (tn + 1)) (x2 V2 46 5 (V2 46 5 + 1))) ∧ (¬ kdT B n j = 7 → ∃ V3, CE B n N q wc V2 V3 j (L + (cks (ol hp)).length) (cks (ol lp)) ∧ (kdT B n j = 6 → Z = k6 1 0 (nI (tn + 1)) (x2 V3 46 5 (V3 46 5 + 1))) ∧ (¬ kdT B n j = 6 → Z = some (1, V3))) := by
  have hN := h.1.2.1
  have hkl := kdT_le (n := n) h.2.1 j
  have ne : ∀ x, x < 38 → ¬ kdT B n j = x → ¬ nI (kdT B n j) = nI x := fun x hx c z => c (nI_small (by omega) (by omega) z)
  obtain ⟨V2, a1, a2⟩ := emit_b h.2.2.1 hV hp hh (by unfold np at hL; omega)
  have hV2 := a2.1
  rw [cks_len] at hV2
  obtain ⟨V3, b1, b2⟩ := emit_b h.2.2.1 hV2 lp hl (by unfold np at hL; omega)
  have k2 := kind_at hV2 hj hN
  have k3 := kind_at b2.1 hj hN
  rw [show f_Reader_emitIf (o1 (bI hp)) (-8) V = some V2 from a1, Option.bind_some, k2, Option.bind_some] at hZ
  rw [hZ]
  refine ⟨V2, a2, fun c => ?_, fun c => ⟨V3, by rw [cks_len]; exact b2, fun c2 => ?_, fun c2 => ?_⟩⟩
  · rw [if_neg (fun z => z (by rw [c]; rfl))]
    unfold b_Reader_readEither_47
    rw [if_pos (show ¬ (1 : Int32) = 0 by decide), nI_1]
  all_goals
    rw [if_pos (show ¬ nI (kdT B n j) = 7 from ne 7 (by decide) c)]
    unfold b_Reader_readEither_47
    rw [if_neg (fun z => z rfl), show f_Reader_emitIf (o1 (bI lp)) (-7) V2 = some V3 from b1, Option.bind_some, k3, Option.bind_some]
  · rw [if_neg (fun z => z (by rw [c2]; rfl))]
    unfold b_Reader_readEither_73
    rw [if_pos (show ¬ (1 : Int32) = 0 by decide), nI_1]
  · rw [if_pos (show ¬ nI (kdT B n j) = 6 from ne 6 (by decide) c2)]
    unfold b_Reader_readEither_73
    rw [if_neg (fun z => z rfl)]
theorem PL.ask {W0 W : xV} {i m : Nat} {hp lp : Option Nat} {Mx : List (Int32 × Int32)} (h : PL B n wc 0 W0 W i 1 0 0 m hp lp Mx) (h2 : W 74 0 = 2) : S3 B n wc W i 0 (0 + np hp lp) (m + Mx.length) := by
  obtain ⟨a1, a2, a3, a4, a5, a6, a7, a8⟩ := h
  have hn : np hp lp ≤ 2 := by
    have := ol_le hp
    have := ol_le lp
    unfold np
    omega
  exact ⟨a1, fun x hx => absurd hx (Nat.not_lt_zero _), h2, by omega, fun x hx => a3.at x (by rw [List.length_append]; unfold np; omega) hx, by omega⟩
theorem on_or {W : xV} {j : Nat} (h : AT B n W j) (hk : kdT B n j = 6 ∨ kdT B n j = 7) : f_Md_asksOn W = Option.bind (f_Md_waitsFor (mo (kdT B n j)) W) fun p => some (x2 p 65 25 0) := by
  have e6 : f_Md_isWord 6 W = if kdT B n j = 6 then 1 else 0 := isWord_at h (x := 6) (by decide)
  have e7 : f_Md_isWord 7 W = if kdT B n j = 7 then 1 else 0 := isWord_at h (x := 7) (by decide)
  unfold f_Md_asksOn b_Md_asksOn_18
  rw [e6, e7]
  rcases hk with c | c
  · rw [if_pos c, if_pos (by decide), if_neg (by decide), c]; rfl
  · rw [if_neg (show ¬ kdT B n j = 6 by omega), if_neg (fun z => z rfl), if_pos c, if_neg (by decide), if_pos rfl, c]; rfl
theorem either_loop (h : TX B n N q wc) : ∀ (x i u tn : Nat) (hp lp : Option Nat) (Ca Cb : List Int32) (Ma Mb : List (Int32 × Int32)), N - i ≤ x → i < N → x < u → tn ≤ i → Pd wc false lp Ca Ma 22 → Pd wc false hp Cb Mb 21 → (∀ p, lp = some p → p = 6) → (∀ p, hp = some p → p = 7) → JE B n N q wc (g_Reader_readEither_6 u (o1 (bI lp)) (o1 (bI hp)) (nI tn)) hp lp (Ca ++ Cb) (Ma ++ Mb) i
  | x, i, 0, tn, hp, lp, Ca, Cb, Ma, Mb, h1, hi, h2, h3, hlo, hhi, hl, hh => by omega
  | 0, i, u + 1, tn, hp, lp, Ca, Cb, Ma, Mb, h1, hi, h2, h3, hlo, hhi, hl, hh => by omega
  | x + 1, i, u + 1, tn, hp, lp, Ca, Cb, Ma, Mb, h1, hi, h2, h3, hlo, hhi, hl, hh => by
    have hN := h.1.2.1
    have rd : ∀ V len, CS B n N q wc V i len → g_Reader_readEither_6 (u + 1) (o1 (bI lp)) (o1 (bI hp)) (nI tn) V = Option.bind (f_Reader_readAsk V) fun p5 => if ¬ p5.1 = 0 then (Option.bind (f_Reader_emitIf (o1 (bI hp)) (-8) p5.2) fun p8 => Option.bind (f_Reader_kind p8) fun p10 => if ¬ p10 = 7 then b_Reader_readEither_47 (g_Reader_readEither_6 u) (o1 (bI lp)) (nI tn) 0 p8 else b_Reader_readEither_47 (g_Reader_readEither_6 u) (o1 (bI lp)) (nI tn) 1 p8) else some (0, p5.2) := by
      intro V len hV
      show b_Reader_readEither_6 _ _ _ _ _ = _
      unfold b_Reader_readEither_6
      rw [hV.2.2.2.2.1, if_neg (nI_ge (by omega) (by omega))]
    rcases J_ask h i hi with ⟨f, j, f1, j1, j2, hcn, hmn⟩ | ⟨j, Cc, Mc, vc, dc, j1, j2, hG, hd, hC, hM, hco, hmo⟩
    · refine Or.inl ⟨f, j, f1, j1, j2, fun V0 V len hV hlen => ?_, fun W0 W m hW hW2 => hmn W _ _ (hW.ask hW2)⟩
      obtain ⟨V', e1, e2, e3, e4⟩ := hcn V _ hV.1 (by omega)
      refine ⟨V', ?_, e2, e3, e4⟩
      rw [rd V _ hV.1, e1, Option.bind_some, if_neg (fun z => z rfl)]
    · obtain ⟨vp, dp, hGp, hdp⟩ := comb hhi hG (by omega)
      obtain ⟨vs, ds, hGs, hds⟩ := comb hlo hGp (by omega)
      have hrk := rk_mo
      have rhi : ∀ p, p ∈ ol hp → f_Md_rank (mo p) = 2 := by
        intro p hp'
        cases hp with
        | none => cases hp'
        | some p0 =>
          have : p = p0 := List.mem_singleton.mp hp'
          subst this
          rw [hh p rfl]; exact hrk.2.2.2.2.2
      have rlo : ∀ p, p ∈ ol lp → f_Md_rank (mo p) = 1 := by
        intro p hp'
        cases lp with
        | none => cases hp'
        | some p0 =>
          have : p = p0 := List.mem_singleton.mp hp'
          subst this
          rw [hl p rfl]; exact hrk.2.2.2.2.1
      have mone : ∀ {W0 W : xV} {m : Nat}, PL B n wc 0 W0 W i 1 0 0 m hp lp (Ma ++ Mb) → W 74 0 = 2 → ∃ c W1, c ≤ 2 * (j - i) ∧ MS c W W1 ∧ PL B n wc 3 W0 W1 j 1 0 0 m hp lp (Ma ++ Mb ++ Mc) ∧ W1 74 0 = 2 := by
        intro W0 W m hW hW2
        obtain ⟨c, W1, c1, c2, c3, c4⟩ := hmo W _ _ (hW.ask hW2)
        exact ⟨c, W1, c1, c2, hW.after c3 c4 (by omega) (by omega), by rw [c4.2.2.2.1 0 (by omega)]; exact hW2⟩
      have popA : ∀ {W0 W1 : xV} {m : Nat}, PL B n wc 3 W0 W1 j 1 0 0 m hp lp (Ma ++ Mb ++ Mc) → ∃ W2, f_Md_works 1 W1 = some W2 ∧ PL B n wc 3 W0 W2 j 1 0 0 m none none (Ma ++ (Mb ++ Mc ++ mos (ol hp)) ++ mos (ol lp)) := by
        intro W0 W1 m hP
        obtain ⟨W2, d1, d2⟩ := hP.pop (hp' := none) (lp' := none) (R := ol hp ++ ol lp) (rk := 1) (by omega) (by omega) (by rw [show ol none = [] from rfl, List.append_nil, List.append_nil]) (fun p hp' => by
          rcases List.mem_append.mp hp' with z | z
          · rw [rhi p z]; decide
          · rw [rlo p z]; decide) (hP.base 1)
        refine ⟨W2, d1, ?_⟩
        have : Ma ++ Mb ++ Mc ++ mos (ol hp ++ ol lp) = Ma ++ (Mb ++ Mc ++ mos (ol hp)) ++ mos (ol lp) := by unfold mos; simp [List.append_assoc]
        rw [this] at d2
        exact d2
      have lenS : (Ma ++ (Mb ++ Mc ++ mos (ol hp)) ++ mos (ol lp)).length = (Ma ++ Mb).length + Mc.length + np hp lp := by
        unfold np
        simp only [List.length_append, mos_len]
        omega
      have lenC : (Ca ++ (Cb ++ Cc ++ cks (ol hp)) ++ cks (ol lp)).length = (Ca ++ Cb).length + Cc.length + np hp lp := by
        unfold np
        simp only [List.length_append, cks_len]
        omega
      by_cases c1 : kdT B n j = 7
      · have hj1 : j + 1 < N := h.nx j2 (by omega)
        have ih := either_loop h x (j + 1) u (tn + 1) (some 7) lp Ca (Cb ++ Cc ++ cks (ol hp)) Ma (Mb ++ Mc ++ mos (ol hp)) (by omega) hj1 (by omega) (by omega) hlo (Or.inr ⟨7, vp, dp, rfl, Or.inr ⟨rfl, Or.inr rfl⟩, hGp, hdp⟩) hl (fun p e => by cases e; rfl)
        have cs : ∀ {V0 V : xV} {len : Nat}, CE B n N q wc V0 V i len (Ca ++ Cb) → len + (Ca ++ Cb).length + np hp lp ≤ i → ∃ V2, g_Reader_readEither_6 (u + 1) (o1 (bI lp)) (o1 (bI hp)) (nI tn) V = g_Reader_readEither_6 u (o1 (bI lp)) (o1 (bI (some 7))) (nI (tn + 1)) V2 ∧ CE B n N q wc V0 V2 (j + 1) len (Ca ++ (Cb ++ Cc ++ cks (ol hp))) ∧ CFr q V V2 (len + (Ca ++ Cb).length) ∧ len + (Ca ++ (Cb ++ Cc ++ cks (ol hp))).length + np (some 7) lp ≤ j + 1 := by
          intro V0 V len hV hlen
          obtain ⟨V1, e1, e2⟩ := hco V _ hV.1 (by omega)
          have hV1 := hV.tr e2
          obtain ⟨V2, g1, g2, -⟩ := either_c h (g_Reader_readEither_6 u) tn hh hl hV1.1 j2 (by rw [List.length_append (as := Ca ++ Cb)]; omega) _ rfl
          have ha := adv h.2.2.1 g1.1
          have tot := (hV1.tr g1).tr (C2 := []) (by rw [List.length_append, ← Nat.add_assoc]; exact ha)
          rw [List.append_nil] at tot
          have ea : Ca ++ Cb ++ Cc ++ cks (ol hp) = Ca ++ (Cb ++ Cc ++ cks (ol hp)) := by simp [List.append_assoc]
          rw [ea] at tot
          refine ⟨_, ?_, tot, e2.2.2.tr (g1.2.2.tr ha.2.2 (by omega)) (by rw [List.length_append (as := Ca ++ Cb)]; omega), ?_⟩
          · rw [rd V _ hV.1, e1, Option.bind_some, if_pos (show ¬ (1 : Int32) = 0 by decide)]
            exact g2 c1
          · have : np (some 7) lp = 1 + (ol lp).length := rfl
            rw [this]
            unfold np at hlen
            simp only [List.length_append, cks_len] at hlen ⊢
            omega
        have msx : ∀ {W0 W : xV} {m : Nat}, PL B n wc 0 W0 W i 1 0 0 m hp lp (Ma ++ Mb) → W 74 0 = 2 → ∃ c W3, c ≤ 2 * (j + 1 - i) ∧ MS c W W3 ∧ MX W W3 ∧ PL B n wc 0 W0 W3 (j + 1) 1 0 0 m (some 7) lp (Ma ++ (Mb ++ Mc ++ mos (ol hp))) ∧ W3 74 0 = 2 := by
          intro W0 W m hW hW2
          obtain ⟨c, W1, b1, b2, hP, hP2⟩ := mone hW hW2
          have er : f_Md_rank (mo (kdT B n j)) = 2 := by rw [c1]; exact hrk.2.2.2.2.2
          obtain ⟨W2, d1, d2⟩ := hP.pop (hp' := none) (lp' := lp) (R := ol hp) (rk := 2) (by omega) (by omega) rfl (fun p z => by rw [rhi p z]; decide) (by
            cases lp with
            | none => exact hP.base 2
            | some p =>
              have hs := sk.drop (R := ol hp) (T := ol (some p)) (x := 0 + 1) (by have := hP.2.2.1; unfold np at this; rw [show 0 + ((ol hp).length + (ol (some p)).length) = 0 + 1 + (ol hp).length by show 0 + ((ol hp).length + 1) = _; omega] at this; exact this)
              obtain ⟨y, y1, ⟨y2, y3⟩, -⟩ := hs
              exact Or.inr ⟨y, y1, Or.inr ⟨y3, by rw [y2, rlo p List.mem_cons_self]; decide⟩⟩)
          obtain ⟨W3, p1, p2⟩ := d2.push (hp := some 7) (lp := lp) (W := W1) (kk := 7) h.1 (by rw [← c1, er]; exact d1) (by omega) hj1 rfl 0
          have go : f_Md_asksOn W1 = some (x2 W3 65 25 (nI 0)) := by
            rw [on_or hP.1.1 (Or.inr c1), c1, p1, Option.bind_some]; rfl
          have ea : Ma ++ Mb ++ Mc ++ mos (ol hp) = Ma ++ (Mb ++ Mc ++ mos (ol hp)) := by simp [List.append_assoc]
          rw [ea] at p2
          refine ⟨c + 1, _, by omega, b2.tr (MS.s3 hP.1.2.1 hP.1.2.2.1 go), ?_, p2, ?_⟩
          · exact ⟨fun r hr => (p2.2.1.2.x.1 r hr).trans (hW.2.1.2.x.1 r hr).symm, fun k hk => (p2.2.1.2.x.2 k hk).trans (hW.2.1.2.x.2 k hk).symm⟩
          · rw [p2.2.1.2.2.2.1 0 (by omega), ← hP.2.1.2.2.2.1 0 (by omega)]; exact hP2
        have n1 : np (some 7) lp = 1 + (ol lp).length := rfl
        rcases ih with ⟨f, j', f1, k1, k2, hcn, hmn⟩ | ⟨j', C, M, v, d, k1, k2, kk, hG', hd', hC', hM', hco', hmo'⟩
        · refine Or.inl ⟨f, j', f1, by omega, k2, fun V0 V len hV hlen => ?_, fun W0 W m hW hW2 => ?_⟩
          · obtain ⟨V2, e1, e2, e3, e4⟩ := cs hV hlen
            obtain ⟨V', g1, g2, g3, g4⟩ := hcn V0 V2 len e2 e4
            exact ⟨V', e1.trans g1, g2, g3, e3.x g4⟩
          · obtain ⟨c, W3, b1, b2, b3, b4, b5⟩ := msx hW hW2
            obtain ⟨c', W', q1, q2, q3, q4, q5⟩ := hmn W0 W3 m b4 b5
            exact ⟨c + c', W', by omega, b2.tr q2, q3, q4, b3.tr q5⟩
        · refine Or.inr ⟨j', C, M, v, d, by omega, k2, kk, hG', hd', ?_, ?_, fun V0 V len hV hlen => ?_, fun W0 W m hW hW2 => ?_⟩
          · rw [n1] at hC'
            unfold np
            simp only [List.length_append, cks_len] at hC' ⊢
            omega
          · rw [n1] at hM'
            unfold np
            simp only [List.length_append, mos_len] at hM' ⊢
            omega
          · obtain ⟨V2, e1, e2, e3, e4⟩ := cs hV hlen
            obtain ⟨V', g1, g2⟩ := hco' V0 V2 len e2 e4
            exact ⟨V', e1.trans g1, g2⟩
          · obtain ⟨c, W3, b1, b2, b3, b4, b5⟩ := msx hW hW2
            obtain ⟨c', W', q1, q2, q3⟩ := hmo' W0 W3 m b4 b5
            exact ⟨c + c', W', by omega, b2.tr q2, q3⟩
      · by_cases c2 : kdT B n j = 6
        · have hj1 : j + 1 < N := h.nx j2 (by omega)
          have ih := either_loop h x (j + 1) u (tn + 1) none (some 6) (Ca ++ (Cb ++ Cc ++ cks (ol hp)) ++ cks (ol lp)) [] (Ma ++ (Mb ++ Mc ++ mos (ol hp)) ++ mos (ol lp)) [] (by omega) hj1 (by omega) (by omega) (Or.inr ⟨6, vs, ds, rfl, Or.inr ⟨rfl, Or.inl rfl⟩, hGs, hds⟩) (Or.inl ⟨rfl, rfl, rfl⟩) (fun p e => by cases e; rfl) (fun p e => by cases e)
          rw [List.append_nil, List.append_nil] at ih
          have cs : ∀ {V0 V : xV} {len : Nat}, CE B n N q wc V0 V i len (Ca ++ Cb) → len + (Ca ++ Cb).length + np hp lp ≤ i → ∃ V2, g_Reader_readEither_6 (u + 1) (o1 (bI lp)) (o1 (bI hp)) (nI tn) V = g_Reader_readEither_6 u (o1 (bI (some 6))) (o1 (bI none)) (nI (tn + 1)) V2 ∧ CE B n N q wc V0 V2 (j + 1) len (Ca ++ (Cb ++ Cc ++ cks (ol hp)) ++ cks (ol lp)) ∧ CFr q V V2 (len + (Ca ++ Cb).length) ∧ len + (Ca ++ (Cb ++ Cc ++ cks (ol hp)) ++ cks (ol lp)).length + np none (some 6) ≤ j + 1 := by
            intro V0 V len hV hlen
            obtain ⟨V1, e1, e2⟩ := hco V _ hV.1 (by omega)
            have hV1 := hV.tr e2
            obtain ⟨V2, g1, -, g3⟩ := either_c h (g_Reader_readEither_6 u) tn hh hl hV1.1 j2 (by rw [List.length_append (as := Ca ++ Cb)]; omega) _ rfl
            obtain ⟨V3, k1, k2, -⟩ := g3 c1
            have ha := adv h.2.2.1 k1.1
            have t2 := hV1.tr (g1.tr k1)
            have tot := t2.tr (C2 := []) (by rw [List.length_append, List.length_append (as := cks (ol hp)), ← Nat.add_assoc, ← Nat.add_assoc]; exact ha)
            rw [List.append_nil] at tot
            have ea : Ca ++ Cb ++ Cc ++ (cks (ol hp) ++ cks (ol lp)) = Ca ++ (Cb ++ Cc ++ cks (ol hp)) ++ cks (ol lp) := by simp [List.append_assoc]
            rw [ea] at tot
            refine ⟨_, ?_, tot, e2.2.2.tr (g1.2.2.tr (k1.2.2.tr ha.2.2 (by omega)) (by omega)) (by rw [List.length_append (as := Ca ++ Cb)]; omega), ?_⟩
            · rw [rd V _ hV.1, e1, Option.bind_some, if_pos (show ¬ (1 : Int32) = 0 by decide)]
              exact k2 c2
            · rw [lenC, show np none (some 6) = 1 from rfl]
              omega
          have msx : ∀ {W0 W : xV} {m : Nat}, PL B n wc 0 W0 W i 1 0 0 m hp lp (Ma ++ Mb) → W 74 0 = 2 → ∃ c W3, c ≤ 2 * (j + 1 - i) ∧ MS c W W3 ∧ MX W W3 ∧ PL B n wc 0 W0 W3 (j + 1) 1 0 0 m none (some 6) (Ma ++ (Mb ++ Mc ++ mos (ol hp)) ++ mos (ol lp)) ∧ W3 74 0 = 2 := by
            intro W0 W m hW hW2
            obtain ⟨c, W1, b1, b2, hP, hP2⟩ := mone hW hW2
            have er : f_Md_rank (mo (kdT B n j)) = 1 := by rw [c2]; exact hrk.2.2.2.2.1
            obtain ⟨W2, d1, d2⟩ := popA hP
            obtain ⟨W3, p1, p2⟩ := d2.push (hp := none) (lp := some 6) (W := W1) (kk := 6) h.1 (by rw [← c2, er]; exact d1) (by omega) hj1 rfl 0
            have go : f_Md_asksOn W1 = some (x2 W3 65 25 (nI 0)) := by
              rw [on_or hP.1.1 (Or.inl c2), c2, p1, Option.bind_some]; rfl
            refine ⟨c + 1, _, by omega, b2.tr (MS.s3 hP.1.2.1 hP.1.2.2.1 go), ?_, p2, ?_⟩
            · exact ⟨fun r hr => (p2.2.1.2.x.1 r hr).trans (hW.2.1.2.x.1 r hr).symm, fun k hk => (p2.2.1.2.x.2 k hk).trans (hW.2.1.2.x.2 k hk).symm⟩
            · rw [p2.2.1.2.2.2.1 0 (by omega), ← hP.2.1.2.2.2.1 0 (by omega)]; exact hP2
          have n1 : np none (some 6) = 1 := rfl
          rcases ih with ⟨f, j', f1, k1, k2, hcn, hmn⟩ | ⟨j', C, M, v, d, k1, k2, kk, hG', hd', hC', hM', hco', hmo'⟩
          · refine Or.inl ⟨f, j', f1, by omega, k2, fun V0 V len hV hlen => ?_, fun W0 W m hW hW2 => ?_⟩
            · obtain ⟨V2, e1, e2, e3, e4⟩ := cs hV hlen
              obtain ⟨V', g1, g2, g3, g4⟩ := hcn V0 V2 len e2 e4
              exact ⟨V', e1.trans g1, g2, g3, e3.x g4⟩
            · obtain ⟨c, W3, b1, b2, b3, b4, b5⟩ := msx hW hW2
              obtain ⟨c', W', q1, q2, q3, q4, q5⟩ := hmn W0 W3 m b4 b5
              exact ⟨c + c', W', by omega, b2.tr q2, q3, q4, b3.tr q5⟩
          · refine Or.inr ⟨j', C, M, v, d, by omega, k2, kk, hG', hd', by rw [lenC, n1] at hC'; omega, by rw [lenS, n1] at hM'; omega, fun V0 V len hV hlen => ?_, fun W0 W m hW hW2 => ?_⟩
            · obtain ⟨V2, e1, e2, e3, e4⟩ := cs hV hlen
              obtain ⟨V', g1, g2⟩ := hco' V0 V2 len e2 e4
              exact ⟨V', e1.trans g1, g2⟩
            · obtain ⟨c, W3, b1, b2, b3, b4, b5⟩ := msx hW hW2
              obtain ⟨c', W', q1, q2, q3⟩ := hmo' W0 W3 m b4 b5
              exact ⟨c + c', W', by omega, b2.tr q2, q3⟩
        · refine Or.inr ⟨j, _, _, vs, ds, j1, j2, by omega, hGs, hds, by rw [lenC]; omega, by rw [lenS]; omega, fun V0 V len hV hlen => ?_, fun W0 W m hW hW2 => ?_⟩
          · obtain ⟨V1, e1, e2⟩ := hco V _ hV.1 (by omega)
            have hV1 := hV.tr e2
            obtain ⟨V2, g1, -, g3⟩ := either_c h (g_Reader_readEither_6 u) tn hh hl hV1.1 j2 (by rw [List.length_append (as := Ca ++ Cb)]; omega) _ rfl
            obtain ⟨V3, k1, -, k3⟩ := g3 c1
            have t2 := hV1.tr (g1.tr k1)
            have ea : Ca ++ Cb ++ Cc ++ (cks (ol hp) ++ cks (ol lp)) = Ca ++ (Cb ++ Cc ++ cks (ol hp)) ++ cks (ol lp) := by simp [List.append_assoc]
            rw [ea] at t2
            refine ⟨V3, ?_, t2⟩
            rw [rd V _ hV.1, e1, Option.bind_some, if_pos (show ¬ (1 : Int32) = 0 by decide)]
            exact k3 c2
          · obtain ⟨c, W1, b1, b2, hP, hP2⟩ := mone hW hW2
            obtain ⟨W2, d1, d2⟩ := popA hP
            exact ⟨c, W1, b1, b2, ⟨_, _, hP.1⟩, hP2, hP.2.1.2, W2, d1, d2.1, d2.2.1⟩
end EE

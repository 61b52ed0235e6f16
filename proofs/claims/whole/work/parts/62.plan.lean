/-! PURE: plan, the gains of both sides -/
def wP (V W : xV) : Prop := (∀ r, r ≠ 51 → r ≠ 53 → r ≠ 54 → r ≠ 55 → r ≠ 58 → W r = V r) ∧ W 51 1 = V 51 1
theorem wP.tr {V W X : xV} (h1 : wP V W) (h2 : wP W X) : wP V X := ⟨fun r a b c d e => by rw [h2.1 r a b c d e]; exact h1.1 r a b c d e, h2.2.trans h1.2⟩
theorem ST.wP {V V' : xV} {S : Nat → Nat} {q e m : Nat} {F : Nat → Mn} (h : ST V S q F e m) (hF : wP V V') : ST V' S q F e m := h.fr (fun r _ => hF.1 r (by omega) (by omega) (by omega) (by omega) (by omega)) (hF.1 66 (by omega) (by omega) (by omega) (by omega) (by omega)) (fun r _ _ => hF.1 r (by omega) (by omega) (by omega) (by omega) (by omega)) e m (by rw [hF.2]; exact h.2.2.2.2.1) (by rw [hF.1 65 (by omega) (by omega) (by omega) (by omega) (by omega)]; exact h.2.2.2.2.2)
theorem draw_c {S : Nat → Nat} {q e m : Nat} {F : Nat → Mn} {p x N : Nat} (hp : p < 4) (hN : N ≤ 10) (hx : x + N ≤ 30) : ∀ (n k u : Nat) (W : xV), k + n = N → n < u → ST W S q F e m → W 57 7 = nI N → ∃ W', g_Planner_draw_18 u (nI p) (nI x) (nI k) W = b_Planner_draw_18 (g_Planner_draw_18 (u - n - 1)) (nI p) (nI x) (nI N) W' ∧ wP W W' ∧ (∀ i, i < 2 * k → W' 58 i = W 58 i) ∧ ∀ i, 2 * k ≤ i → i < 2 * N → W' 58 i = iI (gB (Fx F e) S p (x + i / 2) (i % 2))
  | 0, k, u + 1, W, h1, h2, h, h7 => by
    have : k = N := by omega
    subst this
    exact ⟨W, rfl, ⟨fun _ _ _ _ _ _ => rfl, rfl⟩, fun _ _ => rfl, fun i _ _ => by omega⟩
  | n + 1, k, u + 1, W, h1, h2, h, h7 => by
    obtain ⟨W1, a1, a2⟩ := prov_c h (d := x + k) (p := p) (w := 0) (by omega) hp (by decide)
    have w1 : wP W (x2 W1 58 (2 * k) (iI (gB (Fx F e) S p (x + k) 0))) := ⟨fun r r1 r2 r3 r4 r5 => by rw [x2_ne r5]; exact a2.1 r r1 r2 r3 r4, by rw [x2_ne (by decide)]; exact a2.2⟩
    obtain ⟨W2, b1, b2⟩ := prov_c (h.wP w1) (d := x + k) (p := p) (w := 1) (by omega) hp (by decide)
    have w2' : wP (x2 W1 58 (2 * k) (iI (gB (Fx F e) S p (x + k) 0))) (x2 W2 58 (2 * k + 1) (iI (gB (Fx F e) S p (x + k) 1))) := ⟨fun r r1 r2 r3 r4 r5 => by rw [x2_ne r5]; exact b2.1 r r1 r2 r3 r4, by rw [x2_ne (by decide)]; exact b2.2⟩
    have w3 := w1.tr w2'
    obtain ⟨W3, c1, c2, c3, c4⟩ := draw_c (q := q) (F := F) (e := e) (m := m) hp hN hx n (k + 1) u (x2 W2 58 (2 * k + 1) (iI (gB (Fx F e) S p (x + k) 1))) (by omega) (by omega) (h.wP w3) (by rw [w3.1 57 (by decide) (by decide) (by decide) (by decide) (by decide)]; exact h7)
    have e58 : W2 58 = x2 W1 58 (2 * k) (iI (gB (Fx F e) S p (x + k) 0)) 58 := b2.1 58 (by decide) (by decide) (by decide) (by decide)
    refine ⟨W3, ?_, w3.tr c2, fun i hi => by rw [c3 i (by omega), x2_off (by omega), e58, x2_off (by omega), a2.1 58 (by decide) (by decide) (by decide) (by decide)], fun i i1 i2 => ?_⟩
    · rw [show u + 1 - (n + 1) - 1 = u - n - 1 by omega, ← c1]
      show b_Planner_draw_18 _ _ _ _ _ = _
      unfold b_Planner_draw_18
      rw [h7, if_neg (nI_ge (by omega) (by omega)), nI_add, show f_Court_provinceGain (nI (x + k)) (nI p) 0 W = _ from a1, Option.bind_some, show (2 : Int32) * nI k = nI (2 * k) by rw [show (2 : Int32) = nI 2 from rfl, pk_mul], if_pos (xI_ok (by omega) (by decide)), cl (by omega)]
      show Option.bind (f_Court_provinceGain (nI (x + k)) (nI p) (nI 1) (x2 W1 58 (2 * k) (iI (gB (Fx F e) S p (x + k) 0)))) _ = _
      rw [b1, Option.bind_some, nI_1, if_pos (xI_ok (by omega) (by decide)), cl (by omega), nI_1]
    · by_cases z0 : i = 2 * k
      · subst z0
        rw [c3 _ (by omega), x2_off (by omega), e58, x2_at, show 2 * k / 2 = k by omega, show 2 * k % 2 = 0 by omega]
      · by_cases z1 : i = 2 * k + 1
        · subst z1
          rw [c3 _ (by omega), x2_at, show (2 * k + 1) / 2 = k by omega, show (2 * k + 1) % 2 = 1 by omega]
        · exact c4 i (by omega) i2
theorem draw_m {S : Nat → Nat} {q e m : Nat} {F : Nat → Mn} {p x N : Nat} (hp : p < 4) (hN : N ≤ 10) (hx : x + N ≤ 30) (b : Int32) : ∀ (n i u : Nat) (V W : xV) (L : xL), i + n = 2 * N → n < u → ST V S q F m e → sM V W → ∃ V' W' L', g_Md_plan_51 u (nI p) (nI x) (nI N) b (nI i) W L = g_Md_plan_96 2000 (nI p) (nI x) (nI N) b (-1) 0 0 W' L' ∧ tM V V' ∧ sM V' W' ∧ (∀ k, k < i → V' 85 k = V 85 k) ∧ ∀ k, i ≤ k → k < 2 * N → V' 85 k = iI (gB (Fx F e) S p (x + k / 2) (k % 2))
  | 0, i, u + 1, V, W, L, h1, h2, h, hW => by
    refine ⟨V, W, L, ?_, fun _ _ => rfl, hW, fun _ _ => rfl, fun k _ _ => by omega⟩
    show b_Md_plan_51 _ _ _ _ _ _ _ _ = _
    unfold b_Md_plan_51
    rw [show (2 : Int32) * nI N = nI (2 * N) by rw [show (2 : Int32) = nI 2 from rfl, pk_mul], if_pos (nI_le (by omega) (by omega))]
  | n + 1, i, u + 1, V, W, L, h1, h2, h, hW => by
    obtain ⟨W1, L1, a1, a2⟩ := gainBy_m (L := L) h hW (d := x + i / 2) (p := p) (w := i % 2) (by omega) hp (by omega)
    obtain ⟨V', W', L', b1, b2, b3, b4, b5⟩ := draw_m hp hN hx b n (i + 1) u (x2 V 85 i (iI (gB (Fx F e) S p (x + i / 2) (i % 2)))) (x2 W1 85 i (iI (gB (Fx F e) S p (x + i / 2) (i % 2)))) L1 (by omega) (by omega) (h.tM (fun r hr => x2_ne hr)) (a2.set i _)
    refine ⟨V', W', L', ?_, fun r hr => by rw [b2 r hr, x2_ne hr], b3, fun k hk => by rw [b4 k (by omega), x2_off (by omega)], fun k k1 k2 => ?_⟩
    · rw [← b1]
      show b_Md_plan_51 _ _ _ _ _ _ _ _ = _
      unfold b_Md_plan_51
      rw [show (2 : Int32) * nI N = nI (2 * N) by rw [show (2 : Int32) = nI 2 from rfl, pk_mul], if_neg (nI_ge (by omega) (by omega)), show nI i / 2 = nI (i / 2) by rw [show (2 : Int32) = nI 2 from rfl, pk_div (by omega) (by decide) (by decide)], nI_add, show xrem (nI i) 2 = nI (i % 2) from xrem_nI (d := 2) (by omega) (by decide) (by decide), a1, Option.bind_some, if_pos (xI_ok (by omega) (by decide)), cl (by omega), nI_1]
    · by_cases c : k = i
      · subst c; rw [b4 k (by omega), x2_at]
      · exact b5 k (by omega) k2

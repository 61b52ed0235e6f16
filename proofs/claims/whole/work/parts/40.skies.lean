/-! PURE: skies -/
def skS (S g : Nat → Nat) : Nat → Nat := fun k => if 10 ≤ k ∧ k < 40 then g (k - 10) else S k
theorem skS_in {S g : Nat → Nat} {d : Nat} (h : d < 30) : skS S g (10 + d) = g d := by
  unfold skS; rw [if_pos (by omega)]; congr 1; omega
theorem skS_out {S g : Nat → Nat} {k : Nat} (h : k < 10 ∨ 40 ≤ k) : skS S g k = S k := if_neg (by omega)
theorem skS_r {S g : Nat → Nat} (hr : rok S) (hg : ∀ d, d < 30 → g d < 10) : rok (skS S g) := by
  obtain ⟨r1, r2, r3, r4, r5, r6⟩ := hr
  refine ⟨r1.fr (fun k _ => skS_out (by omega)), r2.fr (fun k _ _ => skS_out (by omega)), fun d hd => ?_, r4.fr (fun k _ _ => skS_out (by omega)), r5.fr (fun k _ _ => skS_out (by omega)), ?_⟩
  · rw [skS_in hd]; exact hg d hd
  · unfold rT; rw [skS_out (by omega)]; exact r6
theorem skS_c {V V' : xV} {S g : Nat → Nat} (hr : rT S) (h : pc V 1 S) (h5 : ∀ d, d < 30 → V' 5 d = nI (g d)) (hV : ∀ r, r < 9 → r ≠ 5 → V' r = V r) : pc V' 1 (skS S g) := by
  obtain ⟨c1, c2, c3, c4, c5, c6⟩ := h
  refine ⟨c1.fr (fun k _ _ => by rw [hV 1 (by omega) (by omega)]) (fun k _ => skS_out (by omega)), c2.fr (hV _ (by omega) (by omega)) (hV _ (by omega) (by omega)) (hV _ (by omega) (by omega)) (fun k _ _ => skS_out (by omega)), fun d hd => ?_, c4.fr (hV _ (by omega) (by omega)) (fun k _ _ => skS_out (by omega)), c5.fr (hV _ (by omega) (by omega)) (fun k _ _ => skS_out (by omega)), c6.fr hr (hV _ (by omega) (by omega)) (by rw [hV 1 (by omega) (by omega)]) (by rw [hV 1 (by omega) (by omega)]) (skS_out (by omega)) (fun k _ _ => skS_out (by omega))⟩
  rw [skS_in hd]; exact h5 d hd
theorem skS_m {V V' : xV} {S g : Nat → Nat} (h : pm V 66 S) (h5 : ∀ d, d < 30 → V' 66 (10 + d) = nI (g d)) (hV : ∀ k, k < 10 ∨ 40 ≤ k → V' 66 k = V 66 k) : pm V' 66 (skS S g) := by
  refine ⟨by rw [hV 3 (by omega), skS_out (by omega)]; exact h.1, fun k hk h3 => ?_⟩
  by_cases q : k < 10 ∨ 40 ≤ k
  · rw [hV k q, skS_out q]; exact h.2 k hk h3
  · obtain ⟨d, rfl⟩ : ∃ d, k = 10 + d := ⟨k - 10, by omega⟩
    rw [skS_in (by omega)]; exact h5 d (by omega)
/-- the numbers that skies come of -/
def skq (x : Nat) : Nat → Nat
  | 0 => x
  | n + 1 => (skq x n * 233 + 61) % 30139
theorem skq_lt {x : Nat} (h : x < 110000) : ∀ n, skq x n < 110000
  | 0 => h
  | n + 1 => by
    show _ % _ < _
    exact Nat.lt_of_lt_of_le (Nat.mod_lt _ (by decide)) (by decide)
theorem xrem_nI {a d : Nat} (ha : a < 2 ^ 31) (h0 : 0 < d) (hd : d < 2 ^ 31) : xrem (nI a) (nI d) = nI (a % d) := pk_rem ha h0 hd
theorem skq_step {x : Nat} (h : x < 110000) : xrem (nI x * 233 + 61) 30139 = nI ((x * 233 + 61) % 30139) := by
  rw [show (233 : Int32) = nI 233 from rfl, show (61 : Int32) = nI 61 from rfl, show (30139 : Int32) = nI 30139 from rfl, pk_mul, nI_add, xrem_nI (by omega) (by decide) (by decide)]
theorem sk_c {x : Nat} (hx : x < 110000) (Z : xV → Option (Int32 × xV)) (hZ : ∀ (W : xV) f, b_Ww_skies_22 (g_Ww_skies_22 f) (nI (skq x 30)) (nI 30) W = Z W) : ∀ (n k f : Nat) (V : xV), k + n = 30 → n < f → ∃ V', g_Ww_skies_22 f (nI (skq x k)) (nI k) V = Z V' ∧ (∀ i, k ≤ i → i < 30 → V' 5 i = nI (skq x i % 10)) ∧ (∀ i, i < k → V' 5 i = V 5 i) ∧ ∀ r, r ≠ 5 → V' r = V r
  | 0, k, f + 1, V, h1, h2 => by
    refine ⟨V, ?_, fun i _ _ => by omega, fun _ _ => rfl, fun _ _ => rfl⟩
    have : k = 30 := by omega
    subst this
    exact hZ V f
  | n + 1, k, f + 1, V, h1, h2 => by
    obtain ⟨V', e, q1, q2, q3⟩ := sk_c hx Z hZ n (k + 1) f (x2 V 5 k (nI (skq x k % 10))) (by omega) (by omega)
    have hx' := skq_lt hx k
    refine ⟨V', ?_, fun i i1 i2 => ?_, fun i hi => ?_, fun r hr => by rw [q3 r hr, x2_ne hr]⟩
    · show b_Ww_skies_22 _ _ _ _ = _
      unfold b_Ww_skies_22
      rw [if_neg (show ¬ (30 : Int32) ≤ nI k from nI_ge (b := 30) (by omega) (by decide)), if_pos (xI_ok (by omega) (by decide)), cl (by omega), nI_1, skq_step hx', show xrem (nI (skq x k)) 10 = nI (skq x k % 10) from xrem_nI (d := 10) (by omega) (by decide) (by decide)]
      exact e
    · by_cases c : i = k
      · subst c; rw [q2 i (by omega), x2_at]
      · exact q1 i (by omega) i2
    · rw [q2 i (by omega), x2_off (by omega)]
theorem sk_m {x : Nat} (hx : x < 110000) (Z : xV → Option (Int32 × xV)) (hZ : ∀ (W : xV) f, b_Md_skies_23 (g_Md_skies_23 f) (nI (skq x 30)) (nI 30) W = Z W) : ∀ (n k f : Nat) (V : xV), k + n = 30 → n < f → ∃ V', g_Md_skies_23 f (nI (skq x k)) (nI k) V = Z V' ∧ (∀ i, k ≤ i → i < 30 → V' 66 (10 + i) = nI (skq x i % 10)) ∧ (∀ i, i < 10 + k ∨ 40 ≤ i → V' 66 i = V 66 i) ∧ ∀ r, r ≠ 66 → V' r = V r
  | 0, k, f + 1, V, h1, h2 => by
    refine ⟨V, ?_, fun i _ _ => by omega, fun _ _ => rfl, fun _ _ => rfl⟩
    have : k = 30 := by omega
    subst this
    exact hZ V f
  | n + 1, k, f + 1, V, h1, h2 => by
    obtain ⟨V', e, q1, q2, q3⟩ := sk_m hx Z hZ n (k + 1) f (x2 V 66 (10 + k) (nI (skq x k % 10))) (by omega) (by omega)
    have hx' := skq_lt hx k
    refine ⟨V', ?_, fun i i1 i2 => ?_, fun i hi => ?_, fun r hr => by rw [q3 r hr, x2_ne hr]⟩
    · show b_Md_skies_23 _ _ _ _ = _
      unfold b_Md_skies_23
      rw [if_neg (show ¬ (30 : Int32) ≤ nI k from nI_ge (b := 30) (by omega) (by decide)), show (10 : Int32) + nI k = nI (10 + k) from nI_add 10 k, if_pos (xI_ok (by omega) (by decide)), cl (by omega), nI_1, skq_step hx', show xrem (nI (skq x k)) 10 = nI (skq x k % 10) from xrem_nI (d := 10) (by omega) (by decide) (by decide)]
      exact e
    · by_cases c : i = k
      · subst c; rw [q2 _ (by omega), x2_at]
      · exact q1 i (by omega) i2
    · rw [q2 i (by omega), x2_off (by omega)]
theorem op_skies {LW : xV → Nat → Prop} (hF : lwF LW) : P_skies (Inv LW) := by
  intro a V L hI
  rcases wi a 10000 9999 10000 (by decide) rfl (by decide) with ⟨h1, h2⟩ | ⟨s, hs, rfl, h1, h2⟩
  · refine ⟨-1, V, V, ?_, ?_, hI⟩
    · unfold f_Ww_skies; rw [h1]; rfl
    · unfold f_Md_skies; rw [h2]; rfl
  obtain ⟨S, K, hh⟩ := hI
  obtain ⟨rr, a2, cc, a4, -⟩ := id hh
  obtain ⟨x, hx, ex⟩ : ∃ x, x < 110000 ∧ nI s * 11 + 7 = nI x := ⟨s * 11 + 7, by omega, by rw [show (11 : Int32) = nI 11 from rfl, show (7 : Int32) = nI 7 from rfl, pk_mul, nI_add]⟩
  obtain ⟨V1, e1, q1, -, q3⟩ := sk_c hx (fun W => Option.bind (f_Rolls_wetDays W) fun p4 => some (p4, W)) (fun W f => by unfold b_Ww_skies_22; exact if_pos (by decide)) 30 0 2000 V rfl (by decide)
  obtain ⟨V2, e2, p1, p2, p3⟩ := sk_m hx (fun W => Option.bind (f_Md_wetDays W) fun p4 => some (p4, W)) (fun W f => by unfold b_Md_skies_23; exact if_pos (by decide)) 30 0 2000 V1 rfl (by decide)
  have hg : ∀ d, d < 30 → (fun i => skq x i % 10) d < 10 := fun d _ => Nat.mod_lt _ (by decide)
  have r' := skS_r rr hg
  have k1 : pc V1 1 (skS S fun i => skq x i % 10) := skS_c rr.2.2.2.2.2 cc (fun d hd => q1 d (by omega) hd) (fun r _ h => q3 r h)
  have k2 : pm V2 66 (skS S fun i => skq x i % 10) := skS_m (V := V1) (a4.fr (q3 66 (by decide))) (fun d hd => p1 d (by omega) hd) (fun k hk => p2 k (by omega))
  refine ⟨nI (cw (skS S fun i => skq x i % 10) 30), V1, V2, ?_, ?_, Inv.roll hF (S' := skS S fun i => skq x i % 10) hh (fun r h1 h2 => by rw [p3 r h2, q3 r (by omega)]) r' (k1.fr (fun r _ _ => p3 r (by omega))) k2 (skS_out (by omega))⟩
  · unfold f_Ww_skies; rw [h1, if_pos (by decide), ex]
    refine Eq.trans e1 ?_
    show Option.bind _ _ = _
    rw [wetDays_c k1.2.2.1 r'.2.2.1]
    rfl
  · unfold f_Md_skies; rw [h2, if_pos (by decide), ex]
    refine Eq.trans e2 ?_
    show Option.bind _ _ = _
    rw [wetDays_m k2 r'.2.2.1]
    rfl

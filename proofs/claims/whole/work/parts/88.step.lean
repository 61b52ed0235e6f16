/-! PURE: text, a CLAUSE is read on both sides -/
section CK
variable {B : Nat → Nat} {n N q : Nat}
theorem oN.of {W W' : xV} {k m : Nat} {l : List (Int32 × Int32)} (h : oN W k l) (hl : k + l.length ≤ m) (hf : ∀ x, x < m → W' 80 x = W 80 x ∧ W' 81 x = W 81 x) : oN W' k l := oN_fr (fun x _ hx => hf x (by omega)) h
/-- a CLAUSE that was there stays as it was -/
theorem clP.fr {V W V' W' : xV} {len m nc w len' m' nc' : Nat} (h : clP q V W len m nc w) (hl : len ≤ len') (hm : m ≤ m') (hn : nc ≤ nc') (h2 : V' (q + 2) w = V (q + 2) w) (h3 : V' (q + 3) w = V (q + 3) w) (h1 : ∀ k, k < len → V' (q + 1) k = V (q + 1) k) (h4 : ∀ x, x < nc → V' (q + 4) x = V (q + 4) x) (h5 : W' 78 w = W 78 w) (h6 : W' 79 w = W 79 w) (h7 : ∀ x, x < m → W' 80 x = W 80 x ∧ W' 81 x = W 81 x) : clP q V' W' len' m' nc' w := by
  obtain ⟨s, C, M, v, d, k, x, a1, a2, a3, a4, a5, a6, a7, a8, a9, a10, a11, a12⟩ := h
  exact ⟨s, C, M, v, d, k, x, a1, a2, by rw [h2]; exact a3, by rw [h3]; exact a4, by omega, cA_fr (fun i _ hi => h1 i (by omega)) a6, by rw [h5]; exact a7, by omega, a9.of (m := m) (by rw [List.length_append]; show k + (M.length + 1) ≤ m; omega) h7, by rw [h6]; exact a10, by omega, by rw [h4 x a11]; exact a12⟩
theorem enter_c (hq : qk q) {V : xV} {k s len nc : Nat} (hk : k < 6) (hn : nc < 6) (h5 : V q 5 = nI len) (h4 : V q 4 = nI nc) : f_Law_enter q (nI k) (nI s) V = some (x2 (x2 (x2 (x2 V (q + 2) k (nI s)) (q + 3) k (nI len)) (q + 4) nc (nI k)) q 4 (nI (nc + 1))) := by
  have e1 : x2 V (q + 2) k (nI s) q 5 = nI len := by rw [x2_ne (by omega)]; exact h5
  have e2 : x2 (x2 V (q + 2) k (nI s)) (q + 3) k (nI len) q 4 = nI nc := by rw [x2_ne (by omega), x2_ne (by omega)]; exact h4
  have e3 : x2 (x2 (x2 V (q + 2) k (nI s)) (q + 3) k (nI len)) (q + 4) nc (nI k) q 4 = nI nc := by rw [x2_ne (by omega)]; exact e2
  unfold f_Law_enter
  rw [show f_Ww_within (nI k) 6 = 1 from within_in (n := 6) hk (by decide), if_neg (by decide), h4, show f_Ww_within (nI nc) 6 = 1 from within_in (n := 6) hn (by decide), if_neg (by decide), if_pos (xI_ok hk (by decide)), if_pos (xI_ok hk (by decide)), cl (by omega), e1, e2, if_pos (xI_ok hn (by decide)), cl (by omega), e3, nI_1]
/-- the model opens a CLAUSE -/
theorem open_m (h : tkN B n N) {V W : xV} {i len m nc : Nat} {p : Nat → Nat} (hR : RR B n N q V W i len m nc p) (hi : i + 1 < N) (hk : kdT B n i < 6) (hp : p (kdT B n i) = 0) : ∃ W3, MS 1 W W3 ∧ SB B n (kdT B n i) W3 (if tyw (kdT B n i) = true then 1 else 0) (i + 1) m (if tyw (kdT B n i) = true then 1 else 2) ∧ MG W W3 ∧ W3 65 26 = nI nc ∧ (∀ w, w ≠ kdT B n i → W3 78 w = W 78 w ∧ W3 79 w = W 79 w) ∧ W3 78 (kdT B n i) = nI m ∧ W3 79 (kdT B n i) = nI nc ∧ W3 80 = W 80 ∧ W3 81 = W 81 := by
  obtain ⟨b1, b2, b3, b4, b5, b6, b7, b8⟩ := hR.2.1
  have hN := h.2.1
  have e65 : ∀ k, k ≠ 27 → W27 W (kdT B n i) m nc 65 k = W 65 k := fun k hk => by unfold W27; rw [x2_ne (by decide), x2_ne (by decide), x2_off (by omega)]
  have e27 : W27 W (kdT B n i) m nc 65 27 = nI (kdT B n i) := by unfold W27; rw [x2_ne (by decide), x2_ne (by decide), x2_at]
  have er : ∀ r, r ≠ 65 → r ≠ 78 → r ≠ 79 → W27 W (kdT B n i) m nc r = W r := fun r r1 r2 r3 => by unfold W27; rw [x2_ne r3, x2_ne r2, x2_ne r1]
  have hv : MV B n (kdT B n i) (W27 W (kdT B n i) m nc) i 4 0 0 0 m := ⟨b1.fr (er 68 (by decide) (by decide) (by decide)) (fun k k1 k2 => e65 k (by omega)), by rw [e65 16 (by decide)]; exact b2, by rw [e65 25 (by decide)]; exact b3, by rw [e65 19 (by decide)]; exact b4, by rw [e65 18 (by decide)]; exact b5, by rw [e65 22 (by decide)]; exact b6, by rw [e65 30 (by decide)]; exact b7, e27⟩
  obtain ⟨W2, c1, c2, c3⟩ := hv.next h hi
  obtain ⟨W3, d1, d2, d3, d4⟩ := opens_m c2 (by omega) (if tyw (kdT B n i) = true then 1 else 2)
  have f27 : W2 65 27 = nI (kdT B n i) := by rw [c3 65 27 (by omega)]; exact e27
  have hcl : f_Md_clause W = some (x2 W3 65 25 (nI (if tyw (kdT B n i) = true then 1 else 0))) := by
    rw [clause_m hR (by omega) hk, if_pos hp, c1, Option.bind_some, f27]
    have e118 : ∀ v1, v1 = (if tyw (kdT B n i) = true then (0 : Int32) else 1) → b_Md_clause_118 v1 (if tyw (kdT B n i) = true then 1 else 2) W2 = some (x2 W3 65 25 (nI (if tyw (kdT B n i) = true then 1 else 0))) := by
      intro v1 hv1
      unfold b_Md_clause_118
      rw [d1, Option.bind_some, hv1]
      cases tyw (kdT B n i) <;> rfl
    have : kdT B n i = 0 ∨ kdT B n i = 1 ∨ kdT B n i = 2 ∨ kdT B n i = 3 ∨ kdT B n i = 4 ∨ kdT B n i = 5 := by omega
    unfold b_Md_clause_102
    rcases this with e | e | e | e | e | e
    · rw [e] at e118 ⊢
      rw [if_pos (by decide)]; exact e118 1 rfl
    · rw [e] at e118 ⊢
      rw [if_neg (by decide), if_pos (by decide)]; exact e118 1 rfl
    · rw [e] at e118 ⊢
      rw [if_neg (by decide), if_neg (by decide), if_pos (by decide)]; exact e118 0 rfl
    · rw [e] at e118 ⊢
      rw [if_neg (by decide), if_neg (by decide), if_pos (by decide)]; exact e118 0 rfl
    · rw [e] at e118 ⊢
      rw [if_neg (by decide), if_neg (by decide), if_neg (by decide)]; exact e118 1 rfl
    · rw [e] at e118 ⊢
      rw [if_neg (by decide), if_neg (by decide), if_pos (by decide)]; exact e118 0 rfl
  have g : ∀ r, r ≠ 65 → r ≠ 74 → r ≠ 75 → r ≠ 76 → r ≠ 77 → r ≠ 80 → r ≠ 81 → x2 W3 65 25 (nI (if tyw (kdT B n i) = true then 1 else 0)) r = W27 W (kdT B n i) m nc r := fun r r1 r2 r3 r4 r5 r6 r7 => by rw [x2_ne r1, d4.1 r r1 r2 r3 r4 r5 r6 r7, c3.row r1]
  have g65 : ∀ k, ¬ (12 ≤ k ∧ k ≤ 19 ∧ k ≠ 17) → k ≠ 22 → k ≠ 25 → k ≠ 30 → k ≠ 27 → x2 W3 65 25 (nI (if tyw (kdT B n i) = true then 1 else 0)) 65 k = W 65 k := fun k k1 k2 k3 k4 k5 => by rw [x2_off (by omega), d4.2.1.1 k k1 k2 k3 k4, c3 65 k (by omega), e65 k k5]
  have r80 : x2 W3 65 25 (nI (if tyw (kdT B n i) = true then 1 else 0)) 80 = W 80 ∧ x2 W3 65 25 (nI (if tyw (kdT B n i) = true then 1 else 0)) 81 = W 81 := by
    have e := d1
    unfold f_Md_opensFrame at e
    rw [c2.2.2.2.1, if_pos (xI_ok (by omega) (by decide))] at e
    have e := Option.some.inj e
    rw [← e]
    constructor
    · rw [x2_ne (by decide), x2_ne (by decide), x2_ne (by decide), c3.row (by decide), er 80 (by decide) (by decide) (by decide)]
    · rw [x2_ne (by decide), x2_ne (by decide), x2_ne (by decide), c3.row (by decide), er 81 (by decide) (by decide) (by decide)]
  have g78 := g 78 (by decide) (by decide) (by decide) (by decide) (by decide) (by decide) (by decide)
  have g79 := g 79 (by decide) (by decide) (by decide) (by decide) (by decide) (by decide) (by decide)
  refine ⟨_, MS.s4 b2 b3 (sort_ne b1 (by omega)) hcl, ⟨d2.sta _, by rw [x2_ne (by decide)]; exact d3, by have := hR.2.2.1.2; omega⟩, ⟨⟨fun r hr => by rw [g r (by omega) (by omega) (by omega) (by omega) (by omega) (by omega) (by omega), er r (by omega) (by omega) (by omega)], fun k hk => g65 k (by omega) (by omega) (by omega) (by omega) (by omega)⟩, g65 17 (by omega) (by omega) (by omega) (by omega) (by omega)⟩, by rw [g65 26 (by omega) (by omega) (by omega) (by omega) (by omega)]; exact b8, fun w hw => ⟨by rw [g78]; unfold W27; rw [x2_ne (by decide), x2_off (by omega), x2_ne (by decide)], by rw [g79]; unfold W27; rw [x2_off (by omega), x2_ne (by decide), x2_ne (by decide)]⟩, by rw [g78]; unfold W27; rw [x2_ne (by decide), x2_at], by rw [g79]; unfold W27; rw [x2_at], r80.1, r80.2⟩
end CK

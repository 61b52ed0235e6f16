/-! PURE: text, begin and end -/
section RL
variable {B : Nat → Nat} {n N q : Nat}
theorem read_loop (hT : tkN B n N) (hB : ∀ i, i < n → B i < 256) (hq : qk q) : ∀ (x i u tn : Nat) (V W : xV) (len m nc : Nat) (p : Nat → Nat), RR B n N q V W i len m nc p → i < N → N - i ≤ x → x < u → tn ≤ i → cRes B n N q (g_Reader_read_42 q u (nI tn) V) V W i (fun j => kdT B n j = 37)
  | x, i, 0, tn, V, W, len, m, nc, p, hR, hi, h1, h2, h3 => by omega
  | 0, i, u + 1, tn, V, W, len, m, nc, p, hR, hi, h1, h2, h3 => by omega
  | x + 1, i, u + 1, tn, V, W, len, m, nc, p, hR, hi, h1, h2, h3 => by
    have hN := hT.2.1
    obtain ⟨c1, c2, c3, c4, c5, c6⟩ := hR.1
    have hkl := kdT_le (n := n) hB i
    have hk : f_Reader_kind V = some (nI (kdT B n i)) := by
      unfold f_Reader_kind
      rw [c1, c4, if_neg (nI_pos (by omega)), if_neg (nI_ge hi (by omega)), if_neg (show ¬ (301 : Int32) ≤ nI i from nI_ge (b := 301) (by omega) (by decide)), if_pos (xI_ok (by omega) (by decide)), cl (by omega), (c5 i hi).1]
    have rd : g_Reader_read_42 q (u + 1) (nI tn) V = if kdT B n i = 37 then some (1, V) else Option.bind (f_Reader_readClause V) fun p9 => if ¬ p9.1 = 0 then g_Reader_read_42 q u (nI (tn + 1)) p9.2 else some (0, p9.2) := by
      show b_Reader_read_42 _ _ _ _ = _
      unfold b_Reader_read_42
      rw [c4, if_neg (nI_ge (by omega) (by omega)), hk, Option.bind_some, nI_1]
      by_cases c : kdT B n i = 37
      · rw [if_pos (show nI (kdT B n i) = 37 by rw [c]; rfl), if_pos c]
      · rw [if_neg (show ¬ nI (kdT B n i) = 37 from fun z => c (nI_small (b := 37) (by omega) (by decide) z)), if_neg c]
    by_cases c : kdT B n i = 37
    · rw [if_pos c] at rd
      exact Or.inr ⟨i, len, m, nc, p, V, 0, W, Nat.le_refl _, hi, c, rd, ⟨fun _ _ _ => rfl, fun _ _ => rfl⟩, by omega, MS.rf W, ⟨⟨fun _ _ => rfl, fun _ _ => rfl⟩, rfl⟩, hR⟩
    · rw [if_neg c] at rd
      rcases clause_step hT hB hq hR hi c with ⟨f, j, V', f1, j1, j2, e1, e2, e3, e4, e5⟩ | ⟨j, len', m', nc', p', V', cc, W', j1, j2, j3, e1, e2, e3, e4, e5, e6⟩
      · exact Or.inl ⟨f, j, V', f1, j1, j2, by rw [rd, e1, Option.bind_some, if_neg (fun z => z rfl)], e2, e3, e4, e5⟩
      · rw [e1, Option.bind_some, if_pos (show ¬ (1 : Int32) = 0 by decide)] at rd
        rw [rd]
        rcases read_loop hT hB hq x j u (tn + 1) V' W' len' m' nc' p' e6 j2 (by omega) (by omega) (by omega) with ⟨f, j', V2, f1, k1, k2, g1, g2, g3, g4, c', W2, g5, g6, g7, g8, g9⟩ | ⟨j', len2, m2, nc2, p2, V2, c', W2, k1, k2, k3, g1, g2, g3, g4, g5, g6⟩
        · exact Or.inl ⟨f, j', V2, f1, by omega, k2, g1, g2, g3, e2.x g4, cc + c', W2, by omega, e4.tr g6, g7, g8, e5.1.tr g9⟩
        · exact Or.inr ⟨j', len2, m2, nc2, p2, V2, cc + c', W2, by omega, k2, k3, g1, e2.tr g2, by omega, e4.tr g4, e5.tr g5, g6⟩
theorem xfill_r {V : xV} {r m : Nat} {v : Int32} {r' : Nat} (h : r' ≠ r) : xfill V r m v r' = V r' := by unfold xfill xrow; rw [if_neg h]
theorem xfill_in {V : xV} {r m : Nat} {v : Int32} {k : Nat} (h : k < m) : xfill V r m v r k = v := by unfold xfill xrow; rw [if_pos rfl, if_pos h]
/-- the class begins to read -/
theorem read_c (hq : qk q) {V : xV} (h : TP V B n) : ∃ N V4, f_Reader_read q V = g_Reader_read_42 q 2000 (nI 0) V4 ∧ tkN B n N ∧ RC B n N q V4 0 0 0 ∧ (∀ w, w < 6 → V4 (q + 2) w = 0 ∧ V4 (q + 3) w = 0) ∧ (V4 46 0 = 1 ∧ V4 46 1 = 0 ∧ V4 46 2 = -1) ∧ ∀ r, ¬ (46 ≤ r ∧ r ≤ 50) → ¬ (q ≤ r ∧ r ≤ q + 4) → V4 r = V r := by
  have hr := hq.r
  obtain ⟨V1, hV1⟩ : ∃ V1, V1 = x2 (x2 (x2 (x2 V 46 0 1) 46 1 0) 46 2 (-1)) 46 4 (nI q) := ⟨_, rfl⟩
  have a1 : ∀ r, r ≠ 46 → V1 r = V r := fun r h => by rw [hV1, x2_ne h, x2_ne h, x2_ne h, x2_ne h]
  have a2 : V1 46 0 = 1 ∧ V1 46 1 = 0 ∧ V1 46 2 = -1 ∧ V1 46 4 = nI q := by rw [hV1]; exact ⟨by simp [x2], by simp [x2], by simp [x2], by simp [x2]⟩
  obtain ⟨V3, hV3⟩ : ∃ V3, V3 = x2 (f_Law_clear q V1) 46 5 0 := ⟨_, rfl⟩
  have b1 : ∀ r, r ≠ 46 → ¬ (q ≤ r ∧ r ≤ q + 4) → V3 r = V r := fun r h1 h2 => by
    rw [hV3, x2_ne h1]
    unfold f_Law_clear
    rw [x2_ne (by omega), x2_ne (by omega), xfill_r (by omega), xfill_r (by omega)]
    exact a1 r h1
  have b2 : ∀ k, k ≠ 5 → V3 46 k = V1 46 k := fun k hk => by
    rw [hV3, x2_off (by omega)]
    unfold f_Law_clear
    rw [x2_ne (by omega), x2_ne (by omega), xfill_r (by omega), xfill_r (by omega)]
  have b3 : V3 46 5 = 0 := by rw [hV3, x2_at]
  have b4 : V3 q 4 = 0 ∧ V3 q 5 = 0 := by
    rw [hV3, x2_ne (by omega)]
    unfold f_Law_clear
    exact ⟨by rw [x2_off (by omega), x2_at], by rw [x2_at]⟩
  have b5 : ∀ w, w < 6 → V3 (q + 2) w = 0 ∧ V3 (q + 3) w = 0 := fun w hw => by
    rw [hV3, x2_ne (by omega), x2_ne (by omega)]
    unfold f_Law_clear
    exact ⟨by rw [x2_ne (by omega), x2_ne (by omega), xfill_r (by omega), xfill_in hw], by rw [x2_ne (by omega), x2_ne (by omega), xfill_in hw]⟩
  obtain ⟨N, V4, k1, k2, k3, k4, k5⟩ := scan_t (h.fr (b1 17 (by omega) (by omega)) (b1 18 (by omega) (by omega)))
  have f : ∀ r, ¬ (47 ≤ r ∧ r ≤ 50) → V4 r = V3 r := fun r hr => k5 r (by omega) (by omega) (by omega) (by omega)
  refine ⟨N, V4, ?_, k2, ⟨by rw [f 46 (by omega), b3]; rfl, by rw [f 46 (by omega), b2 4 (by decide)]; exact a2.2.2.2, by rw [f q (by omega)]; exact b4.2, k3, k4, by rw [f q (by omega)]; exact b4.1⟩, fun w hw => by rw [f (q + 2) (by omega), f (q + 3) (by omega)]; exact b5 w hw, ⟨by rw [f 46 (by omega), b2 0 (by decide)]; exact a2.1, by rw [f 46 (by omega), b2 1 (by decide)]; exact a2.2.1, by rw [f 46 (by omega), b2 2 (by decide)]; exact a2.2.2.1⟩, fun r r1 r2 => by rw [f r (by omega), b1 r (by omega) r2]⟩
  unfold f_Reader_read
  rw [← hV1, a2.2.2.2, cl (by omega), if_pos hq.law, ← hV3, k1, Option.bind_some]
  rfl
/-- the model begins to read -/
theorem t72 : ∀ (r k u : Nat) (W : xV), k + r = 6 → r < u → (∀ w, w < k → W 78 w = -1 ∧ W 79 w = -1) → ∃ W', g_Md_text_72 u (nI k) W = (Option.bind (f_Md_next W') fun p3 => g_Md_text_102 2000 p3) ∧ (∀ w, w < 6 → W' 78 w = -1 ∧ W' 79 w = -1) ∧ ∀ r, r ≠ 78 → r ≠ 79 → W' r = W r
  | 0, k, u + 1, W, h1, h2, h3 => by
    refine ⟨W, ?_, fun w hw => h3 w (by omega), fun _ _ _ => rfl⟩
    show b_Md_text_72 _ _ _ = _
    unfold b_Md_text_72
    rw [if_pos (show (6 : Int32) ≤ nI k from nI_le (a := 6) (by omega) (by omega))]
  | r + 1, k, u + 1, W, h1, h2, h3 => by
    obtain ⟨W', a1, a2, a3⟩ := t72 r (k + 1) u (x2 (x2 W 78 k (-1)) 79 k (-1)) (by omega) (by omega) (fun w hw => by
      by_cases e : w = k
      · subst e
        exact ⟨by rw [x2_ne (by decide), x2_at], by rw [x2_at]⟩
      · obtain ⟨q1, q2⟩ := h3 w (by omega)
        exact ⟨by rw [x2_ne (by decide), x2_off (by omega)]; exact q1, by rw [x2_off (by omega), x2_ne (by decide)]; exact q2⟩)
    refine ⟨W', ?_, a2, fun r r1 r2 => by rw [a3 r r1 r2, x2_ne r2, x2_ne r1]⟩
    rw [← a1]
    show b_Md_text_72 _ _ _ = _
    unfold b_Md_text_72
    rw [if_neg (show ¬ (6 : Int32) ≤ nI k from nI_ge (b := 6) (by omega) (by decide)), if_pos (xI_ok (by omega) (by decide)), if_pos (xI_ok (by omega) (by decide)), cl (by omega), nI_1]
theorem text_m {W : xV} {t : Nat} (hn : n ≤ 300) (ht : t < 4) (h66 : W 66 2 = nI t) (h3 : W 65 3 = nI n) (h68 : ∀ i, i < n → B i < 256 ∧ W 68 i = sx (B i)) : ∃ W0, f_Md_text W = g_Md_text_102 2000 W0 ∧ RM B n W0 0 0 0 ∧ (∀ w, w < 6 → W0 78 w = -1 ∧ W0 79 w = -1) ∧ W0 65 17 = -1 ∧ W0 65 3 = 0 ∧ (∀ r, r < 65 ∨ (66 ≤ r ∧ r < 74) → W0 r = W r) ∧ W0 65 35 = W 65 35 := by
  obtain ⟨X, hX⟩ : ∃ X, X = x2 (x2 (x2 (x2 (x2 (x2 (x2 (x2 (x2 (x2 (x2 W 65 11 (W 65 3)) 65 3 0) 65 12 0) 65 16 0) 65 17 (-1)) 65 18 0) 65 19 0) 65 22 0) 65 25 4) 65 26 0) 65 30 0 := ⟨_, rfl⟩
  have xr : ∀ r, r ≠ 65 → X r = W r := fun r h => by rw [hX, x2_ne h, x2_ne h, x2_ne h, x2_ne h, x2_ne h, x2_ne h, x2_ne h, x2_ne h, x2_ne h, x2_ne h, x2_ne h]
  have x11 : X 65 11 = nI n := by rw [hX, ← h3]; simp [x2]
  have xk : X 65 3 = 0 ∧ X 65 12 = 0 ∧ X 65 16 = 0 ∧ X 65 17 = -1 ∧ X 65 18 = 0 ∧ X 65 19 = 0 ∧ X 65 22 = 0 ∧ X 65 25 = 4 ∧ X 65 26 = 0 ∧ X 65 30 = 0 ∧ X 65 35 = W 65 35 := by rw [hX]; simp [x2]
  obtain ⟨W', a1, a2, a3⟩ := t72 6 0 2000 X rfl (by decide) (fun w hw => absurd hw (Nat.not_lt_zero _))
  have w65 : W' 65 = X 65 := a3 65 (by decide) (by decide)
  have hTM : TM W' B n := ⟨hn, by rw [w65]; exact x11, fun i hi => ⟨(h68 i hi).1, by rw [a3 68 (by decide) (by decide), xr 68 (by decide)]; exact (h68 i hi).2⟩⟩
  obtain ⟨W0, b1, b2, b3⟩ := next_m hTM (a := 0) (i := 0) (Nat.zero_le _) (by rw [w65, xk.2.1]; rfl) rfl
  have f65 : ∀ k, ¬ (12 ≤ k ∧ k ≤ 15) → W0 65 k = X 65 k := fun k hk => by rw [b3 65 k (by omega), w65]
  refine ⟨W0, ?_, ⟨b2, by rw [f65 16 (by omega)]; exact xk.2.2.1, by rw [f65 25 (by omega)]; exact xk.2.2.2.2.2.2.2.1, by rw [f65 19 (by omega)]; exact xk.2.2.2.2.2.1, by rw [f65 18 (by omega)]; exact xk.2.2.2.2.1, by rw [f65 22 (by omega)]; exact xk.2.2.2.2.2.2.1, by rw [f65 30 (by omega)]; exact xk.2.2.2.2.2.2.2.2.2.1, by rw [f65 26 (by omega)]; exact xk.2.2.2.2.2.2.2.2.1⟩, fun w hw => by rw [b3 78 w (by omega), b3 79 w (by omega)]; exact a2 w hw, by rw [f65 17 (by omega)]; exact xk.2.2.2.1, by rw [f65 3 (by omega)]; exact xk.1, fun r hr => by rw [b3.row (by omega), a3 r (by omega) (by omega), xr r (by omega)], by rw [f65 35 (by omega)]; exact xk.2.2.2.2.2.2.2.2.2.2⟩
  unfold f_Md_text
  rw [if_pos (show ¬ W 66 2 = 4 by rw [h66]; exact fun z => by have := nI_small (b := 4) (by omega) (by decide) z; omega), ← hX, show g_Md_text_72 2000 0 X = _ from a1, b1, Option.bind_some]
/-- the model lays what it read to the TEXTS -/
theorem t239 {t : Nat} (ht : t < 4) : ∀ (r k u : Nat) (W : xV), k + r = 6 → r < u → ∃ W', g_Md_text_239 u (nI t) (nI k) W = g_Md_text_307 2000 (nI t) 0 W' ∧ (∀ w, k ≤ w → w < 6 → W' 70 (6 * t + w) = (if W 78 w = -1 then -1 else nI (400 * t) + W 78 w) ∧ W' 71 (6 * t + w) = W 79 w) ∧ (∀ x, ¬ (6 * t + k ≤ x ∧ x < 6 * t + 6) → W' 70 x = W 70 x ∧ W' 71 x = W 71 x) ∧ ∀ r, r ≠ 70 → r ≠ 71 → W' r = W r
  | 0, k, u + 1, W, h1, h2 => by
    refine ⟨W, ?_, fun w _ _ => by omega, fun _ _ => ⟨rfl, rfl⟩, fun _ _ _ => rfl⟩
    show b_Md_text_239 _ _ _ _ = _
    unfold b_Md_text_239
    rw [if_pos (show (6 : Int32) ≤ nI k from nI_le (a := 6) (by omega) (by omega))]
  | r + 1, k, u + 1, W, h1, h2 => by
    have e6 : (6 : Int32) * nI t + nI k = nI (6 * t + k) := by rw [show (6 : Int32) = nI 6 from rfl, pk_mul, nI_add]
    have e4 : (400 : Int32) * nI t = nI (400 * t) := by rw [show (400 : Int32) = nI 400 from rfl, pk_mul]
    have h281 : ∀ s0, b_Md_text_281 (g_Md_text_239 u) (nI t) (nI k) s0 (nI (6 * t + k)) W = g_Md_text_239 u (nI t) (nI (k + 1)) (x2 (x2 W 70 (6 * t + k) s0) 71 (6 * t + k) (W 79 k)) := by
      intro s0
      unfold b_Md_text_281
      rw [e6, if_pos (xI_ok (by omega) (by decide)), if_pos (xI_ok (by omega) (by decide)), if_pos (xI_ok (by omega) (by decide)), cl (by omega), cl (by omega), x2_ne (by decide), nI_1]
    obtain ⟨W', a1, a2, a3, a4⟩ := t239 ht r (k + 1) u (x2 (x2 W 70 (6 * t + k) (if W 78 k = -1 then -1 else nI (400 * t) + W 78 k)) 71 (6 * t + k) (W 79 k)) (by omega) (by omega)
    refine ⟨W', ?_, fun w w1 w2 => ?_, fun x hx => ?_, fun r r1 r2 => by rw [a4 r r1 r2, x2_ne r2, x2_ne r1]⟩
    · rw [← a1]
      show b_Md_text_239 _ _ _ _ = _
      unfold b_Md_text_239
      rw [if_neg (show ¬ (6 : Int32) ≤ nI k from nI_ge (b := 6) (by omega) (by decide)), if_pos (xI_ok (by omega) (by decide)), if_pos (xI_ok (by omega) (by decide)), cl (by omega), e6, e4, h281, h281]
      by_cases c : W 78 k = -1
      · rw [if_neg (fun z => z c), if_pos c]
      · rw [if_pos c, if_neg c]
    · by_cases e : w = k
      · subst e
        obtain ⟨q1, q2⟩ := a3 (6 * t + w) (by omega)
        exact ⟨by rw [q1, x2_ne (by decide), x2_at], by rw [q2, x2_at]⟩
      · obtain ⟨q1, q2⟩ := a2 w (by omega) w2
        rw [x2_ne (by decide), x2_ne (by decide)] at q1 q2
        exact ⟨q1, q2⟩
    · obtain ⟨q1, q2⟩ := a3 x (by omega)
      exact ⟨by rw [q1, x2_ne (by decide), x2_off (by omega)], by rw [q2, x2_off (by omega), x2_ne (by decide)]⟩
theorem t307 {t m : Nat} (ht : t < 4) (hm : m ≤ 400) : ∀ (r k u : Nat) (W : xV), k + r = m → r < u → W 65 30 = nI m → ∃ W', g_Md_text_307 u (nI t) (nI k) W = some (nI t, x2 W' 66 2 (W' 66 2 + 1)) ∧ (∀ x, k ≤ x → x < m → W' 72 (400 * t + x) = W 80 x ∧ W' 73 (400 * t + x) = W 81 x) ∧ (∀ x, ¬ (400 * t + k ≤ x ∧ x < 400 * t + m) → W' 72 x = W 72 x ∧ W' 73 x = W 73 x) ∧ ∀ r, r ≠ 72 → r ≠ 73 → W' r = W r
  | 0, k, u + 1, W, h1, h2, h3 => by
    refine ⟨W, ?_, fun x _ _ => by omega, fun _ _ => ⟨rfl, rfl⟩, fun _ _ _ => rfl⟩
    show b_Md_text_307 _ _ _ _ = _
    unfold b_Md_text_307
    rw [h3, if_pos (nI_le (by omega) (by omega))]
  | r + 1, k, u + 1, W, h1, h2, h3 => by
    have e4 : (400 : Int32) * nI t + nI k = nI (400 * t + k) := by rw [show (400 : Int32) = nI 400 from rfl, pk_mul, nI_add]
    obtain ⟨W', a1, a2, a3, a4⟩ := t307 ht hm r (k + 1) u (x2 (x2 W 72 (400 * t + k) (W 80 k)) 73 (400 * t + k) (W 81 k)) (by omega) (by omega) (by rw [x2_ne (by decide), x2_ne (by decide)]; exact h3)
    refine ⟨W', ?_, fun x x1 x2' => ?_, fun x hx => ?_, fun r r1 r2 => by rw [a4 r r1 r2, x2_ne r2, x2_ne r1]⟩
    · rw [← a1]
      show b_Md_text_307 _ _ _ _ = _
      unfold b_Md_text_307
      rw [h3, if_neg (nI_ge (by omega) (by omega)), if_pos (xI_ok (by omega) (by decide)), e4, if_pos (xI_ok (by omega) (by decide)), if_pos (xI_ok (by omega) (by decide)), if_pos (xI_ok (by omega) (by decide)), cl (by omega), cl (by omega), x2_ne (by decide), nI_1]
    · by_cases e : x = k
      · subst e
        obtain ⟨q1, q2⟩ := a3 (400 * t + x) (by omega)
        exact ⟨by rw [q1, x2_ne (by decide), x2_at], by rw [q2, x2_at]⟩
      · obtain ⟨q1, q2⟩ := a2 x (by omega) x2'
        rw [x2_ne (by decide), x2_ne (by decide)] at q1 q2
        exact ⟨q1, q2⟩
    · obtain ⟨q1, q2⟩ := a3 x (by omega)
      exact ⟨by rw [q1, x2_ne (by decide), x2_off (by omega)], by rw [q2, x2_off (by omega), x2_ne (by decide)]⟩
theorem oA_of {W W' : xV} {b : Nat} : ∀ {l : List (Int32 × Int32)} {k : Nat}, oN W k l → (∀ x, k ≤ x → x < k + l.length → W' 72 (b + x) = W 80 x ∧ W' 73 (b + x) = W 81 x) → oA W' (b + k) l
  | [], _, _, _ => trivial
  | c :: l, k, h, hh => by
    have h0 := hh k (Nat.le_refl _) (by show k < k + (l.length + 1); omega)
    exact ⟨⟨h0.1.trans h.1.1, h0.2.trans h.1.2⟩, oA_of (b := b) (k := k + 1) h.2 (fun x x1 x2' => hh x (by omega) (by show x < k + (l.length + 1); omega))⟩
end RL
theorem LJ.fr2 {V V' : xV} {j : Nat} (hj : j < 4) (h : LJ V j) (h1 : ∀ r, 26 + 5 * j ≤ r → r < 31 + 5 * j → V' r = V r) (h69 : V' 69 j = V 69 j) (h70 : ∀ w, w < 6 → V' 70 (6 * j + w) = V 70 (6 * j + w) ∧ V' 71 (6 * j + w) = V 71 (6 * j + w)) (h72 : ∀ x, x < 400 * (j + 1) → V' 72 x = V 72 x ∧ V' 73 x = V 73 x) : LJ V' j := by
  obtain ⟨n, a1, a2, a3, a4, a5⟩ := h
  refine ⟨n, a1, by rw [h1 _ (by omega) (by omega)]; exact a2, by rw [h69]; exact a3, fun w hw => ?_, fun i hi => ?_⟩
  · rcases a4 w hw with ⟨b1, b2, b3, b4⟩ | ⟨s, C, M, v, d, k, i, u, b1, b2, b3, b4, b5, b6, b7, b8, b9, b10, b11, b12⟩
    · left
      exact ⟨by rw [h1 _ (by omega) (by omega)]; exact b1, by rw [h1 _ (by omega) (by omega)]; exact b2, by rw [(h70 w hw).1]; exact b3, by rw [(h70 w hw).2]; exact b4⟩
    · right
      exact ⟨s, C, M, v, d, k, i, u, b1, b2, by rw [h1 _ (by omega) (by omega)]; exact b3, by rw [h1 _ (by omega) (by omega)]; exact b4, b5, cA_fr (fun _ _ _ => by rw [h1 _ (by omega) (by omega)]) b6, by rw [(h70 w hw).1]; exact b7, b8, oA_fr (fun x _ hx => h72 x (by rw [List.length_append] at hx; have hx : x < k + (M.length + 1) := hx; omega)) b9, by rw [(h70 w hw).2]; exact b10, b11, by rw [h1 _ (by omega) (by omega)]; exact b12⟩
  · obtain ⟨w, b1, b2, b3⟩ := a5 i hi
    exact ⟨w, b1, by rw [h1 _ (by omega) (by omega)]; exact b2, by rw [(h70 w b1).2]; exact b3⟩

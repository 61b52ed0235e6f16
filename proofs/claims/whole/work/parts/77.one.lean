/-! PURE: text, what tokens are to the model; ONE -/
theorem sg_inj : ∀ k, k < 35 → ∀ x, x < 35 → 22 ≤ k → 22 ≤ x → (sg k = sg x ↔ k = x) := by decide +kernel
theorem sg_44 : ∀ x, x < 35 → 22 ≤ x → ¬ (44 : Int32) = sg x := by decide +kernel
theorem isSign_at {B : Nat → Nat} {n i : Nat} {W : xV} (h : AT B n W i) {x : Nat} (h1 : 22 ≤ x) (h2 : x < 35) : f_Md_isSign (sg x) W = if kdT B n i = x then 1 else 0 := by
  obtain ⟨-, -, -, h⟩ := h
  unfold f_Md_isSign
  rcases h with ⟨a1, a2, a3⟩ | ⟨⟨a0, a1⟩, a2, a3⟩ | ⟨a1, a2, a3⟩ | ⟨a1, a2⟩ | ⟨a1, a2⟩
  · rw [a2, if_pos (by decide), if_neg (by omega)]
  · rw [a2, a3, if_neg (fun z => z rfl)]
    have q := sg_inj (kdT B n i) a1 x h2 a0 h1
    by_cases c : kdT B n i = x
    · rw [if_neg (fun z => z (q.mpr c)), if_pos c]
    · rw [if_pos (fun z => c (q.mp z)), if_neg c]
  · rw [a2, if_pos (by decide), if_neg (by omega)]
  · rw [if_neg (show ¬ kdT B n i = x by omega)]
    rcases a2 with a2 | ⟨a2, a3⟩
    · rw [a2, if_pos (by decide)]
    · rw [a2, a3, if_neg (fun z => z rfl), if_pos (sg_44 x h2 h1)]
  · rw [a2, if_pos (by decide), if_neg (by omega)]
theorem isWord_at {B : Nat → Nat} {n i : Nat} {W : xV} (h : AT B n W i) {x : Nat} (h2 : x < 22) : f_Md_isWord (nI x) W = if kdT B n i = x then 1 else 0 := by
  obtain ⟨-, -, -, h⟩ := h
  unfold f_Md_isWord
  rcases h with ⟨a1, a2, a3⟩ | ⟨⟨a0, a1⟩, a2, a3⟩ | ⟨a1, a2, a3⟩ | ⟨a1, a2⟩ | ⟨a1, a2⟩
  · rw [a2, a3, if_neg (fun z => z rfl)]
    by_cases c : kdT B n i = x
    · rw [if_neg (fun z => z (by rw [c])), if_pos c]
    · rw [if_pos (fun z => c (nI_small (by omega) (by omega) z)), if_neg c]
  · rw [a2, if_pos (by decide), if_neg (by omega)]
  · rw [a2, if_pos (by decide), if_neg (by omega)]
  · rw [if_neg (show ¬ kdT B n i = x by omega)]
    rcases a2 with a2 | ⟨a2, a3⟩ <;> rw [a2, if_pos (by decide)]
  · rw [a2, if_pos (by decide), if_neg (by omega)]
theorem over_m {B : Nat → Nat} {n wc i sv o w g : Nat} : ∀ (k u m : Nat) (W : xV), MV B n wc W i sv (g + 1 + k) (o + k) w m → (∀ x, x < k → W 74 (g + 1 + x) = 7) → ¬ W 74 g = 7 → g + 1 + k ≤ 40 → m + k ≤ 400 → k < u → ∃ W', g_Md_oneIsOver_0 u W = some W' ∧ MV B n wc W' i 2 (g + 1) o w (m + k) ∧ MR W W' (g + 1) w m (List.replicate k (402, 0))
  | 0, u + 1, m, W, h, h1, h2, h3, h4, h5 => by
    refine ⟨x2 W 65 25 (nI 2), ?_, h.sta 2, trivial, MF.s65 (by omega) _ _ _⟩
    show b_Md_oneIsOver_0 _ _ = _
    unfold b_Md_oneIsOver_0
    rw [top_m (fr := g) h.2.2.2.1 (by omega), Option.bind_some, if_pos h2]; rfl
  | k + 1, u + 1, m, W, h, h1, h2, h3, h4, h5 => by
    have hf := h.fo (g + 1 + k) (o + k)
    have hM : MR W (eMm (x2 (x2 W 65 19 (nI (g + 1 + k))) 65 18 (nI (o + k))) m 402 0) (g + 1) w m [(402, 0)] := MR.fm (m' := m) ((MF.s65 (by omega) _ _ _).tr (MF.s65 (by omega) _ _ _) (Nat.le_refl _) (Nat.le_refl _) (Nat.le_refl _)) (eMm_R _ m 402 0 (g + 1) w) (Nat.le_refl _) (Nat.le_refl _)
    have e74 : eMm (x2 (x2 W 65 19 (nI (g + 1 + k))) 65 18 (nI (o + k))) m 402 0 74 = W 74 := by rw [eMm_r _ _ _ _ (by decide) (by decide) (by decide), x2_ne (by decide), x2_ne (by decide)]
    obtain ⟨W', a1, a2, a3⟩ := over_m k u (m + 1) _ (hf.em 402 0) (fun x hx => by rw [e74]; exact h1 x (by omega)) (by rw [e74]; exact h2) (by omega) (by omega) (by omega)
    refine ⟨W', ?_, by rw [show m + (k + 1) = m + 1 + k by omega]; exact a2, by rw [List.replicate_succ]; exact hM.tr a3 (Nat.le_refl _) (Nat.le_refl _)⟩
    rw [← a1]
    show b_Md_oneIsOver_0 _ _ = _
    unfold b_Md_oneIsOver_0
    rw [top_m (fr := g + 1 + k) h.2.2.2.1 (by omega), Option.bind_some, h1 k (by omega), if_neg (fun z => z rfl), h.2.2.2.1, show nI (g + 1 + (k + 1)) - 1 = nI (g + 1 + k) from nI_pred _, x2_off (show ¬ (65 = 65 ∧ 18 = 19) by omega), h.2.2.2.2.1, show nI (o + (k + 1)) - 1 = nI (o + k) from nI_pred _, emits_m hf.2.2.2.2.2.2.1 (by omega), Option.bind_some]
theorem aover_m {B : Nat → Nat} {n wc i sv o w g : Nat} : ∀ (k u m : Nat) (W : xV), MV B n wc W i sv (g + 1 + k) (o + k) w m → (∀ x, x < k → W 74 (g + 1 + x) = 3) → ¬ W 74 g = 3 → g + 1 + k ≤ 40 → m + k ≤ 400 → k < u → ∃ W', g_Md_askIsOver_0 u W = some W' ∧ MV B n wc W' i 3 (g + 1) o w (m + k) ∧ MR W W' (g + 1) w m (List.replicate k (405, 0))
  | 0, u + 1, m, W, h, h1, h2, h3, h4, h5 => by
    refine ⟨x2 W 65 25 (nI 3), ?_, h.sta 3, trivial, MF.s65 (by omega) _ _ _⟩
    show b_Md_askIsOver_0 _ _ = _
    unfold b_Md_askIsOver_0
    rw [top_m (fr := g) h.2.2.2.1 (by omega), Option.bind_some, if_pos h2]; rfl
  | k + 1, u + 1, m, W, h, h1, h2, h3, h4, h5 => by
    have hf := h.fo (g + 1 + k) (o + k)
    have hM : MR W (eMm (x2 (x2 W 65 19 (nI (g + 1 + k))) 65 18 (nI (o + k))) m 405 0) (g + 1) w m [(405, 0)] := MR.fm (m' := m) ((MF.s65 (by omega) _ _ _).tr (MF.s65 (by omega) _ _ _) (Nat.le_refl _) (Nat.le_refl _) (Nat.le_refl _)) (eMm_R _ m 405 0 (g + 1) w) (Nat.le_refl _) (Nat.le_refl _)
    have e74 : eMm (x2 (x2 W 65 19 (nI (g + 1 + k))) 65 18 (nI (o + k))) m 405 0 74 = W 74 := by rw [eMm_r _ _ _ _ (by decide) (by decide) (by decide), x2_ne (by decide), x2_ne (by decide)]
    obtain ⟨W', a1, a2, a3⟩ := aover_m k u (m + 1) _ (hf.em 405 0) (fun x hx => by rw [e74]; exact h1 x (by omega)) (by rw [e74]; exact h2) (by omega) (by omega) (by omega)
    refine ⟨W', ?_, by rw [show m + (k + 1) = m + 1 + k by omega]; exact a2, by rw [List.replicate_succ]; exact hM.tr a3 (Nat.le_refl _) (Nat.le_refl _)⟩
    rw [← a1]
    show b_Md_askIsOver_0 _ _ = _
    unfold b_Md_askIsOver_0
    rw [top_m (fr := g + 1 + k) h.2.2.2.1 (by omega), Option.bind_some, h1 k (by omega), if_neg (fun z => z rfl), h.2.2.2.1, show nI (g + 1 + (k + 1)) - 1 = nI (g + 1 + k) from nI_pred _, x2_off (show ¬ (65 = 65 ∧ 18 = 19) by omega), h.2.2.2.2.1, show nI (o + (k + 1)) - 1 = nI (o + k) from nI_pred _, emits_m hf.2.2.2.2.2.2.1 (by omega), Option.bind_some]

theorem nmC : ∀ w, w < 6 → ∀ x, x < 13 → (¬ ((xNames.getD x 0 >>> (nI w &&& 31)) &&& 1) = 0 ↔ msk x / 2 ^ w % 2 = 1) := by decide +kernel
theorem nmM : ∀ w, w < 6 → ∀ x, x < 13 → (¬ ((f_Md_mayOf (nI w) >>> (nI x &&& 31)) &&& 1) = 0 ↔ msk x / 2 ^ w % 2 = 1) := by decide +kernel
/-- what stands at a plain ONE: 0, or its fault -/
def plF (wc k v : Nat) : Nat := if k = 35 then (if v ≤ 9999 then 0 else 2) else if k < 9 ∨ 22 ≤ k then 1 else if msk (k - 9) / 2 ^ wc % 2 = 1 then 0 else 5
theorem plain_c {B : Nat → Nat} {n N q wc : Nat} {V : xV} {i len : Nat} (h : CS B n N q wc V i len) (hw : wc < 6) {k v : Nat} (hk : k < 38) (hv : v ≤ 10000) : f_Reader_faultOfPlain (nI k) (nI v) V = some (nI (plF wc k v)) := by
  unfold f_Reader_faultOfPlain plF
  by_cases c : k = 35
  · rw [if_neg (fun z => z (by rw [c]; rfl)), if_pos c]
    by_cases c2 : v ≤ 9999
    · rw [if_pos (show nI v ≤ 9999 from nI_le (b := 9999) c2 (by decide)), if_pos c2]; rfl
    · rw [if_neg (show ¬ nI v ≤ 9999 from nI_ge (a := 9999) (by omega) (by omega)), if_neg c2]; rfl
  · rw [if_pos (show ¬ nI k = 35 from fun z => c (nI_small (b := 35) (by omega) (by decide) z)), if_neg c]
    by_cases c2 : k < 9
    · rw [if_pos (show nI k - 9 < 0 from pk_sneg (b := 9) (by decide) c2), if_pos (Or.inl c2)]; rfl
    · rw [show nI k - 9 = nI (k - 9) by rw [show (9 : Int32) = nI 9 from rfl, pk_sub (by omega)], if_neg (nI_pos (by omega))]
      by_cases c3 : k < 22
      · rw [if_pos (show nI (k - 9) < 13 from nI_lt (b := 13) (by omega) (by decide)), if_pos (xI_ok (by omega) (by decide)), cl (by omega), h.2.2.1, if_neg (show ¬ (k < 9 ∨ 22 ≤ k) by omega)]
        have q := nmC wc hw (k - 9) (by omega)
        by_cases c4 : msk (k - 9) / 2 ^ wc % 2 = 1
        · rw [if_pos (q.mpr c4), if_pos c4]; rfl
        · rw [if_neg (fun z => c4 (q.mp z)), if_neg c4]; rfl
      · rw [if_neg (show ¬ nI (k - 9) < 13 from nI_nlt (b := 13) (by omega) (by omega)), if_pos (show k < 9 ∨ 22 ≤ k by omega)]; rfl
theorem vlT_le (B : Nat → Nat) (n i : Nat) : vlT B n i ≤ 10000 := by
  unfold vlT vlP
  split
  · split
    · exact nc_le B _ _ 0 (by omega)
    · omega
  · omega
theorem kdT_le {B : Nat → Nat} {n : Nat} (hB : ∀ i, i < n → B i < 256) (i : Nat) : kdT B n i < 38 := by
  unfold kdT
  split
  · have := kdP_lt (n := n) (hB (plT B n i) (by assumption)); omega
  · omega

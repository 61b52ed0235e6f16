/-! PURE: plan, the walk of the model -/
theorem sh31 : ∀ j, j < 32 → ((nI j &&& 31).toBitVec.smod 32).toNat = j := by decide +kernel
theorem bit_m {t j : Nat} (ht : t < 2 ^ 31) (hj : j < 32) : (nI t >>> (nI j &&& 31)) &&& 1 = nI (t / 2 ^ j % 2) := by
  rw [pk_shrN ht _ j (sh31 j hj)]
  exact pk_andN (Nat.lt_of_le_of_lt (Nat.div_le_self _ _) (by omega)) 1 (by decide)
theorem bit_n {t N k : Nat} (ht : t < 2 ^ 31) (hk : k < N) (hN : N ≤ 10) : (nI t >>> ((nI N - 1) - nI k &&& 31)) &&& 1 = nI (t / 2 ^ (N - 1 - k) % 2) := by
  rw [show (nI N - 1) - nI k = nI (N - 1 - k) by rw [show (1 : Int32) = nI 1 from rfl, pk_sub (by omega), pk_sub (by omega)], bit_m ht (by omega)]
theorem hid_113 {V W : xV} {p x N t k a s : Nat} {R : Nat → Int32} {fl v8 : Int32} (k30 : Int32 → Int32 → Int32 → Int32 → Int32 → Int32 → xV → Option (Int32 × xV)) (ha : a < 2) (hs : s < 10) (hR : ∀ i, i < 20 → W 84 i = R i) (hf : fl = 0 ∨ fl = 1) : b_Md_isHidden_113 k30 (nI p) (nI x) (nI N) (nI t) fl (nI k) v8 (nI a) (nI s) W = k30 (nI p) (nI x) (nI N) (nI t) (if fl = 1 ∧ (R (10 * a + s) = -1 ∨ R (10 * a + s) = v8) then 1 else 0) (nI (k + 1)) (x2 W 84 (10 * a + s) v8) := by
  have e7 : b_Md_isHidden_157 k30 (nI p) (nI x) (nI N) (nI t) (nI k) v8 (nI (10 * a + s)) W = k30 (nI p) (nI x) (nI N) (nI t) 0 (nI (k + 1)) (x2 W 84 (10 * a + s) v8) := by
    unfold b_Md_isHidden_157
    rw [if_pos (xI_ok (by omega) (by decide)), cl (by omega), nI_1]
  have e3 : b_Md_isHidden_153 k30 (nI p) (nI x) (nI N) (nI t) (nI k) v8 (nI (10 * a + s)) W = k30 (nI p) (nI x) (nI N) (nI t) 1 (nI (k + 1)) (x2 W 84 (10 * a + s) v8) := by
    unfold b_Md_isHidden_153
    rw [if_pos (xI_ok (by omega) (by decide)), cl (by omega), nI_1]
  unfold b_Md_isHidden_113
  rw [show (10 : Int32) * nI a + nI s = nI (10 * a + s) by rw [show (10 : Int32) = nI 10 from rfl, pk_mul, nI_add]]
  rcases hf with rfl | rfl
  · rw [if_pos rfl, e7, if_neg (fun z => absurd z.1 (by decide))]
  · rw [if_neg (by decide), if_pos (xI_ok (by omega) (by decide)), if_pos (xI_ok (by omega) (by decide)), cl (by omega), hR _ (by omega)]
    by_cases c1 : R (10 * a + s) = -1
    · rw [if_pos c1, e3, if_pos ⟨rfl, Or.inl c1⟩]
    · rw [if_neg c1]
      by_cases c2 : R (10 * a + s) = v8
      · rw [if_neg (fun z => z c2), e3, if_pos ⟨rfl, Or.inr c2⟩]
      · rw [if_pos c2, e7, if_neg (fun z => z.2.elim c1 c2)]
theorem hid_30 {V : xV} {S : Nat → Nat} {p x N t : Nat} (hm : pm V 66 S) (hrS : rS S) (hrD : rD S) (hp : p < 4) (hN : N ≤ 10) (hx : x + N ≤ 30) (ht : t < 2 ^ 31) : ∀ (r k u : Nat) (fl : Int32) (R : Nat → Int32) (l : Nat) (W : xV), k + r = N → r < u → (∀ q, q ≠ 84 → W q = V q) → (∀ i, i < 20 → W 84 i = R i) → (fl = 0 ∨ fl = 1) → l = (if k = 0 then la S p x else t / 2 ^ (N - k) % 2) → ∃ W', g_Md_isHidden_30 u (nI p) (nI x) (nI N) (nI t) fl (nI k) W = some (if fl = 1 ∧ okS (fun k => se S (x + k)) r k R l t = true then 1 else 0, W') ∧ ∀ q, q ≠ 84 → W' q = V q
  | 0, k, u + 1, fl, R, l, W, h1, h2, hV, hR, hf, hl => by
    refine ⟨W, ?_, hV⟩
    show b_Md_isHidden_30 _ _ _ _ _ _ _ _ = _
    unfold b_Md_isHidden_30
    rw [if_pos (nI_le (by omega) (by omega)), if_pos hf]
    rcases hf with rfl | rfl <;> rfl
  | r + 1, k, u + 1, fl, R, l, W, h1, h2, hV, hR, hf, hl => by
    have hk : k < N := by omega
    have hs : se S (x + k) < 10 := se_lt hrS (by omega)
    have hl2 : l < 2 := by
      rw [hl]; split
      · exact la_lt hrD hp (by omega)
      · omega
    have hm' : pm W 66 S := hm.fr (hV 66 (by decide))
    obtain ⟨W', e1, e2⟩ := hid_30 hm hrS hrD hp hN hx ht r (k + 1) u (if fl = 1 ∧ (R (10 * l + se S (x + k)) = -1 ∨ R (10 * l + se S (x + k)) = nI (t / 2 ^ r % 2)) then 1 else 0) (upR R (10 * l + se S (x + k)) (nI (t / 2 ^ r % 2))) (t / 2 ^ r % 2) (x2 W 84 (10 * l + se S (x + k)) (nI (t / 2 ^ r % 2))) (by omega) (by omega) (fun q hq => by rw [x2_ne hq]; exact hV q hq) (fun i hi => by
      unfold upR
      by_cases c : i = 10 * l + se S (x + k)
      · rw [if_pos c, c, x2_at]
      · rw [if_neg c, x2_off (by omega)]; exact hR i hi) (by split; exact Or.inr rfl; exact Or.inl rfl) (by rw [if_neg (by omega), show N - (k + 1) = r by omega])
    refine ⟨W', ?_, e2⟩
    have h113 := hid_113 (V := V) (p := p) (x := x) (N := N) (t := t) (k := k) (v8 := nI (t / 2 ^ r % 2)) (g_Md_isHidden_30 u) hl2 hs hR hf
    have h90 : b_Md_isHidden_90 (g_Md_isHidden_30 u) (nI p) (nI x) (nI N) (nI t) fl (nI k) (nI (x + k)) (nI (t / 2 ^ r % 2)) (nI l) W = g_Md_isHidden_30 u (nI p) (nI x) (nI N) (nI t) (if fl = 1 ∧ (R (10 * l + se S (x + k)) = -1 ∨ R (10 * l + se S (x + k)) = nI (t / 2 ^ r % 2)) then 1 else 0) (nI (k + 1)) (x2 W 84 (10 * l + se S (x + k)) (nI (t / 2 ^ r % 2))) := by
      unfold b_Md_isHidden_90
      by_cases c : x + k = 0
      · rw [show nI (x + k) = 0 by rw [c]; rfl, if_neg (fun z => z rfl)]
        have e0 : se S (x + k) = 0 := by unfold se; rw [if_pos c]
        rw [e0] at h113 ⊢
        exact h113
      · rw [if_pos (show ¬ nI (x + k) = 0 from fun z => c (nI_small (b := 0) (by omega) (by decide) z)), show (10 : Int32) + nI (x + k) - 1 = nI (10 + (x + k)) - nI 1 by rw [← nI_add 10]; rfl, pk_sub (by omega), if_pos (xI_ok (by omega) (by decide)), cl (by omega), hm'.at (by omega) (by omega)]
        have e0 : S (10 + (x + k) - 1) = se S (x + k) := by unfold se; rw [if_neg c, show 10 + (x + k) - 1 = 10 + (x + k - 1) by omega]
        rw [e0]
        exact h113
    have last : (if fl = 1 ∧ okS (fun k => se S (x + k)) (r + 1) k R l t = true then (1 : Int32) else 0) = if (if fl = 1 ∧ (R (10 * l + se S (x + k)) = -1 ∨ R (10 * l + se S (x + k)) = nI (t / 2 ^ r % 2)) then (1 : Int32) else 0) = 1 ∧ okS (fun k => se S (x + k)) r (k + 1) (upR R (10 * l + se S (x + k)) (nI (t / 2 ^ r % 2))) (t / 2 ^ r % 2) t = true then 1 else 0 := by
      show (if fl = 1 ∧ (decide (R (10 * l + se S (x + k)) = -1 ∨ R (10 * l + se S (x + k)) = nI (t / 2 ^ r % 2)) && okS (fun k => se S (x + k)) r (k + 1) (upR R (10 * l + se S (x + k)) (nI (t / 2 ^ r % 2))) (t / 2 ^ r % 2) t) = true then (1 : Int32) else 0) = _
      by_cases c : R (10 * l + se S (x + k)) = -1 ∨ R (10 * l + se S (x + k)) = nI (t / 2 ^ r % 2)
      · rw [decide_eq_true c, Bool.true_and]
        rcases hf with rfl | rfl
        · rw [if_neg (fun z => absurd z.1 (by decide)), if_neg (fun z => by rw [if_neg (fun y => absurd y.1 (by decide))] at z; exact absurd z.1 (by decide))]
        · rw [show (if (1 : Int32) = 1 ∧ (R (10 * l + se S (x + k)) = -1 ∨ R (10 * l + se S (x + k)) = nI (t / 2 ^ r % 2)) then (1 : Int32) else 0) = 1 from if_pos ⟨rfl, c⟩]
      · rw [decide_eq_false c, Bool.false_and, if_neg (fun z => absurd z.2 (by decide)), if_neg (fun z => by rw [if_neg (fun y => c y.2)] at z; exact absurd z.1 (by decide))]
    rw [last, ← e1]
    show b_Md_isHidden_30 _ _ _ _ _ _ _ _ = _
    unfold b_Md_isHidden_30
    rw [if_neg (nI_ge hk (by omega)), bit_n ht hk hN, show N - 1 - k = r by omega, nI_add]
    by_cases c : k = 0
    · subst c
      rw [if_pos (by decide)]
      rw [if_pos rfl] at hl
      by_cases c2 : x = 0
      · rw [show nI (x + 0) = 0 by rw [c2]; rfl, if_neg (fun z => z rfl)]
        have el : l = 0 := by rw [hl]; unfold la; rw [if_pos c2]
        rw [← h90, el, c2]; rfl
      · rw [if_pos (show ¬ nI (x + 0) = 0 from fun z => c2 (nI_small (a := x + 0) (b := 0) (by omega) (by decide) z)), show nI (x + 0) - 1 = nI (x - 1) by rw [show (1 : Int32) = nI 1 from rfl, pk_sub (by omega)]; rfl, dec_m hm' (by omega) hp, Option.bind_some, show S (40 + (4 * (x - 1) + p)) = l by rw [hl]; unfold la; rw [if_neg c2], h90]
    · rw [if_neg (show ¬ nI k ≤ 0 from nI_ge (a := 0) (by omega) (by omega)), pk_sub (by omega), bit_m ht (by omega), show nI (t / 2 ^ (N - k) % 2) = nI l by rw [hl, if_neg c], h90]
theorem hid_3 {V : xV} {p x N t : Nat} : ∀ (n k u : Nat) (W : xV), k + n = 20 → n < u → (∀ q, q ≠ 84 → W q = V q) → (∀ i, i < k → W 84 i = -1) → ∃ W', g_Md_isHidden_3 u (nI p) (nI x) (nI N) (nI t) (nI k) W = g_Md_isHidden_30 2000 (nI p) (nI x) (nI N) (nI t) 1 (nI 0) W' ∧ (∀ q, q ≠ 84 → W' q = V q) ∧ ∀ i, i < 20 → W' 84 i = -1
  | 0, k, u + 1, W, h1, h2, h3, h4 => by
    refine ⟨W, ?_, h3, fun i hi => h4 i (by omega)⟩
    show b_Md_isHidden_3 _ _ _ _ _ _ _ = _
    unfold b_Md_isHidden_3
    rw [if_pos (show (20 : Int32) ≤ nI k from nI_le (a := 20) (by omega) (by omega))]; rfl
  | n + 1, k, u + 1, W, h1, h2, h3, h4 => by
    obtain ⟨W', e1, e2, e3⟩ := hid_3 (V := V) (p := p) (x := x) (N := N) (t := t) n (k + 1) u (x2 W 84 k (-1)) (by omega) (by omega) (fun q hq => by rw [x2_ne hq]; exact h3 q hq) (fun i hi => by
      by_cases c : i = k
      · rw [c, x2_at]
      · rw [x2_off (by omega)]; exact h4 i (by omega))
    refine ⟨W', ?_, e2, e3⟩
    rw [← e1]
    show b_Md_isHidden_3 _ _ _ _ _ _ _ = _
    unfold b_Md_isHidden_3
    rw [if_neg (show ¬ (20 : Int32) ≤ nI k from nI_ge (b := 20) (by omega) (by decide)), if_pos (xI_ok (by omega) (by decide)), cl (by omega), nI_1]
theorem hidden_m {V : xV} {S : Nat → Nat} {p x N t : Nat} (hm : pm V 66 S) (hrS : rS S) (hrD : rD S) (hp : p < 4) (hN : N ≤ 10) (hx : x + N ≤ 30) (ht : t < 2 ^ 31) (W : xV) (hW : ∀ q, q ≠ 84 → W q = V q) : ∃ W', f_Md_isHidden (nI p) (nI x) (nI N) (nI t) W = some (if okS (fun k => se S (x + k)) N 0 (fun _ => -1) (la S p x) t = true then 1 else 0, W') ∧ ∀ q, q ≠ 84 → W' q = V q := by
  obtain ⟨W1, a1, a2, a3⟩ := hid_3 (V := V) (p := p) (x := x) (N := N) (t := t) 20 0 2000 W rfl (by decide) hW (fun i hi => absurd hi (Nat.not_lt_zero _))
  obtain ⟨W2, b1, b2⟩ := hid_30 hm hrS hrD hp hN hx ht N 0 2000 1 (fun _ => -1) (la S p x) W1 (by omega) (by omega) a2 a3 (Or.inr rfl) (by rw [if_pos rfl])
  refine ⟨W2, ?_, b2⟩
  unfold f_Md_isHidden
  refine Eq.trans a1 (Eq.trans b1 ?_)
  by_cases c : okS (fun k => se S (x + k)) N 0 (fun _ => -1) (la S p x) t = true
  · rw [if_pos ⟨rfl, c⟩, if_pos c]
  · rw [if_neg (fun z => c z.2), if_neg c]
theorem sum_m {p x N t : Nat} {b b5 b6 : Int32} (hN : N ≤ 10) (ht : t < 2 ^ 31) (k96 : Int32 → Int32 → Int32 → Int32 → Int32 → Int32 → Int32 → xV → xL → Option (Int32 × xV × xL)) (W : xV) (L : xL) : ∀ (r k u : Nat) (g : Int32), k + r = N → r < u → g_Md_plan_110 k96 u (nI p) (nI x) (nI N) b b5 b6 (nI t) g (nI k) W L = (Option.bind (f_Md_isHidden (nI p) (nI x) (nI N) (nI t) W) fun q => if q.1 = 0 then k96 (nI p) (nI x) (nI N) b b5 b6 (nI (t + 1)) q.2 L else if b5 = -1 then k96 (nI p) (nI x) (nI N) b (nI t) (smA (W 85) r k g t) (nI (t + 1)) q.2 L else if smA (W 85) r k g t ≤ b6 then k96 (nI p) (nI x) (nI N) b b5 b6 (nI (t + 1)) q.2 L else k96 (nI p) (nI x) (nI N) b (nI t) (smA (W 85) r k g t) (nI (t + 1)) q.2 L)
  | 0, k, u + 1, g, h1, h2 => by
    show b_Md_plan_110 _ _ _ _ _ _ _ _ _ _ _ _ _ = _
    unfold b_Md_plan_110
    rw [if_pos (nI_le (by omega) (by omega)), nI_1]
    rfl
  | r + 1, k, u + 1, g, h1, h2 => by
    have hk : k < N := by omega
    show b_Md_plan_110 _ _ _ _ _ _ _ _ _ _ _ _ _ = _
    unfold b_Md_plan_110
    rw [if_neg (nI_ge hk (by omega)), bit_n ht hk hN, show N - 1 - k = r by omega, show (2 : Int32) * nI k + nI (t / 2 ^ r % 2) = nI (2 * k + t / 2 ^ r % 2) by rw [show (2 : Int32) = nI 2 from rfl, pk_mul, nI_add], if_pos (xI_ok (by omega) (by decide)), cl (by omega), nI_1]
    exact sum_m hN ht k96 W L r (k + 1) u _ (by omega) (by omega)
def ansP (b : Int32) (st : Int32 × Int32 × Int32) : Int32 := if b = -1 then st.2.1 else (st.2.2 >>> (b &&& 31)) &&& 1
def relP (N t : Nat) (st : Int32 × Int32 × Int32) (b5 b6 : Int32) : Prop := (t = 0 ∧ st = (0, 0, 0) ∧ b5 = -1 ∧ b6 = 0) ∨ ∃ s, s < 2 ^ N ∧ st.1 = 1 ∧ b5 = nI s ∧ b6 = st.2.1 ∧ st.2.2 = ptA N 0 0 s
theorem pow_ten : ∀ N, N ≤ 10 → 2 ^ N ≤ 1024 ∧ (1 : Int32) <<< (nI N &&& 31) = nI (2 ^ N) := by
  intro N hN
  have : ∀ N, N < 11 → 2 ^ N ≤ 1024 ∧ (1 : Int32) <<< (nI N &&& 31) = nI (2 ^ N) := by decide +kernel
  exact this N (by omega)
theorem p96 {V : xV} {S : Nat → Nat} {p x N : Nat} {b : Int32} {L : xL} (hm : pm V 66 S) (hrS : rS S) (hrD : rD S) (hp : p < 4) (hN : N ≤ 10) (hx : x + N ≤ 30) (hb : b = -1 ∨ ∃ i, i < N ∧ b = nI i) : ∀ (m t u : Nat) (b5 b6 : Int32) (st : Int32 × Int32 × Int32) (W : xV), t + m = 2 ^ N → m < u → relP N t st b5 b6 → (∀ q, q ≠ 84 → W q = V q) → ∃ W', g_Md_plan_96 u (nI p) (nI x) (nI N) b b5 b6 (nI t) W L = some (ansP b (rng (stp (V 85) (fun k => se S (x + k)) N 0 (fun _ => -1) (la S p x) 0 0) m t st), W', L) ∧ ∀ q, q ≠ 84 → W' q = V q
  | 0, t, u + 1, b5, b6, st, W, h1, h2, hR, hW => by
    obtain ⟨q1, q2⟩ := pow_ten N hN
    have hp0 : 0 < 2 ^ N := Nat.two_pow_pos N
    refine ⟨W, ?_, hW⟩
    show b_Md_plan_96 _ _ _ _ _ _ _ _ _ _ = _
    unfold b_Md_plan_96
    rw [q2, if_pos (nI_le (by omega) (by omega))]
    show _ = some (ansP b st, W, L)
    unfold ansP
    rcases hR with ⟨z, -⟩ | ⟨s, hs, -, r2, r3, r4⟩
    · omega
    rcases hb with rfl | ⟨i, hi, rfl⟩
    · rw [if_neg (fun z => z rfl), if_pos rfl, r3]
    · rw [if_pos (nI_m1 (by omega)), if_neg (nI_m1 (by omega)), r4, r2, pth_all N (by omega) s hs i hi]
  | m + 1, t, u + 1, b5, b6, st, W, h1, h2, hR, hW => by
    obtain ⟨q1, q2⟩ := pow_ten N hN
    obtain ⟨W1, a1, a2⟩ := hidden_m (t := t) hm hrS hrD hp hN hx (by omega) W hW
    have go : ∀ b5' b6', relP N (t + 1) (stp (V 85) (fun k => se S (x + k)) N 0 (fun _ => -1) (la S p x) 0 0 t st) b5' b6' → ∃ W', g_Md_plan_96 u (nI p) (nI x) (nI N) b b5' b6' (nI (t + 1)) W1 L = some (ansP b (rng (stp (V 85) (fun k => se S (x + k)) N 0 (fun _ => -1) (la S p x) 0 0) (m + 1) t st), W', L) ∧ ∀ q, q ≠ 84 → W' q = V q := fun b5' b6' hR' => p96 hm hrS hrD hp hN hx hb m (t + 1) u b5' b6' _ W1 (by omega) (by omega) hR' a2
    have head : g_Md_plan_96 (u + 1) (nI p) (nI x) (nI N) b b5 b6 (nI t) W L = g_Md_plan_110 (g_Md_plan_96 u) 2000 (nI p) (nI x) (nI N) b b5 b6 (nI t) 0 (nI 0) W L := by
      show b_Md_plan_96 _ _ _ _ _ _ _ _ _ _ = _
      unfold b_Md_plan_96
      rw [q2, if_neg (nI_ge (by omega) (by omega))]
      rfl
    rw [head, sum_m hN (by omega) _ W L N 0 2000 0 (by omega) (by omega), a1, Option.bind_some, hW 85 (by decide)]
    by_cases c : okS (fun k => se S (x + k)) N 0 (fun _ => -1) (la S p x) t = true
    · rw [if_pos c, if_neg (show ¬ (1 : Int32) = 0 by decide)]
      have es : stp (V 85) (fun k => se S (x + k)) N 0 (fun _ => -1) (la S p x) 0 0 t st = lf (smA (V 85) N 0 0 t) (ptA N 0 0 t) st := by unfold stp; rw [if_pos c]
      have new : relP N (t + 1) (1, smA (V 85) N 0 0 t, ptA N 0 0 t) (nI t) (smA (V 85) N 0 0 t) := Or.inr ⟨t, by omega, rfl, rfl, rfl, rfl⟩
      rcases hR with ⟨r0, r1, r2, r3⟩ | ⟨s, hs, r1, r2, r3, r4⟩
      · rw [if_pos r2]
        refine go _ _ ?_
        rw [es, r1]; exact new
      · rw [if_neg (show ¬ b5 = -1 by rw [r2]; exact nI_m1 (by omega))]
        have el : lf (smA (V 85) N 0 0 t) (ptA N 0 0 t) st = if smA (V 85) N 0 0 t ≤ st.2.1 then st else (1, smA (V 85) N 0 0 t, ptA N 0 0 t) := by unfold lf; rw [r1, if_neg (by decide)]
        rw [r3]
        by_cases c2 : smA (V 85) N 0 0 t ≤ st.2.1
        · rw [if_pos c2]
          refine go _ _ ?_
          rw [es, el, if_pos c2]
          exact Or.inr ⟨s, hs, r1, r2, rfl, r4⟩
        · rw [if_neg c2]
          refine go _ _ ?_
          rw [es, el, if_neg c2]; exact new
    · rw [if_neg c, if_pos rfl]
      refine go _ _ ?_
      have es : stp (V 85) (fun k => se S (x + k)) N 0 (fun _ => -1) (la S p x) 0 0 t st = st := by unfold stp; rw [if_neg c]
      rw [es]
      rcases hR with ⟨r0, r1, r2, r3⟩ | ⟨s, hs, r1, r2, r3, r4⟩
      · exact absurd (okS_0 (fun k => se S (x + k)) N 0 (fun _ => -1) (la S p x) (fun _ => Or.inl rfl)) (by rw [r0] at c; exact c)
      · exact Or.inr ⟨s, hs, r1, r2, r3, r4⟩

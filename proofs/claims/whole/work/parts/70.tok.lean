/-! PURE: text, the bytes of the tape and their tokens -/
def sx (b : Nat) : Int32 := (nI b).toInt8.toInt32
def isL (b : Nat) : Bool := (decide (97 ≤ b) && decide (b ≤ 122)) || (decide (65 ≤ b) && decide (b ≤ 90))
def isD (b : Nat) : Bool := decide (48 ≤ b) && decide (b ≤ 57)
def isB (b : Nat) : Bool := b == 32 || b == 10
def o1 (b : Bool) : Int32 := if b = true then 1 else 0
theorem letC : ∀ b, b < 256 → f_Tokens_isLetter (nI b) = o1 (isL b) := by decide +kernel
theorem letM : ∀ b, b < 256 → f_Md_isLetter (sx b) = o1 (isL b) := by decide +kernel
theorem digC : ∀ b, b < 256 → f_Tokens_isDigit (nI b) = o1 (isD b) := by decide +kernel
theorem digM : ∀ b, b < 256 → f_Md_in (sx b) 48 57 = o1 (isD b) := by decide +kernel
theorem b32 : ∀ b, b < 256 → ((nI b = 32 ↔ b = 32) ∧ (nI b = 10 ↔ b = 10)) ∧ (sx b = 32 ↔ b = 32) ∧ (sx b = 10 ↔ b = 10) := by decide +kernel
theorem b61 : ∀ b, b < 256 → (nI b = 61 ↔ b = 61) ∧ (sx b = 61 ↔ b = 61) := by decide +kernel
theorem b60 : ∀ b, b < 256 → ((nI b = 60 ↔ b = 60) ∧ (nI b = 62 ↔ b = 62)) ∧ (sx b = 60 ↔ b = 60) ∧ (sx b = 62 ↔ b = 62) := by decide +kernel
theorem low : ∀ b, b < 128 → sx b = nI b := by decide +kernel
theorem isL_r {b : Nat} (h : isL b = true) : 65 ≤ b ∧ b ≤ 122 := by
  unfold isL at h
  simp only [Bool.or_eq_true, Bool.and_eq_true, decide_eq_true_eq] at h
  omega
theorem isD_r {b : Nat} (h : isD b = true) : 48 ≤ b ∧ b ≤ 57 := by
  unfold isD at h
  simp only [Bool.and_eq_true, decide_eq_true_eq] at h
  omega
theorem isB_r {b : Nat} : isB b = true ↔ b = 32 ∨ b = 10 := by
  unfold isB
  simp only [Bool.or_eq_true, beq_iff_eq]
theorem o1_0 {b : Bool} : (o1 b = 0) ↔ b = false := by cases b <;> decide
/-- where a run of like bytes ends: r bytes are left at p -/
def rn (P : Nat → Bool) (B : Nat → Nat) : Nat → Nat → Nat
  | 0, p => p
  | r + 1, p => if P (B p) = true then rn P B r (p + 1) else p
theorem rn_le (P : Nat → Bool) (B : Nat → Nat) : ∀ r p, p ≤ rn P B r p ∧ rn P B r p ≤ p + r
  | 0, p => ⟨Nat.le_refl _, Nat.le_refl _⟩
  | r + 1, p => by
    have := rn_le P B r (p + 1)
    unfold rn
    split <;> omega
theorem rn_in (P : Nat → Bool) (B : Nat → Nat) : ∀ r p i, p ≤ i → i < rn P B r p → P (B i) = true
  | 0, p, i, h1, h2 => by unfold rn at h2; omega
  | r + 1, p, i, h1, h2 => by
    unfold rn at h2
    by_cases c : P (B p) = true
    · rw [if_pos c] at h2
      by_cases e : i = p
      · rw [e]; exact c
      · exact rn_in P B r (p + 1) i (by omega) h2
    · rw [if_neg c] at h2; omega
theorem rn_out (P : Nat → Bool) (B : Nat → Nat) : ∀ r p, rn P B r p < p + r → P (B (rn P B r p)) = false
  | 0, p, h => by unfold rn at h; omega
  | r + 1, p, h => by
    unfold rn at h ⊢
    by_cases c : P (B p) = true
    · rw [if_pos c] at h ⊢
      exact rn_out P B r (p + 1) (by omega)
    · rw [if_neg c]
      cases e : P (B p)
      · rfl
      · exact absurd e c
def skp (B : Nat → Nat) (n a : Nat) : Nat := rn isB B (n - a) a
def lgr (B : Nat → Nat) (n p : Nat) : Bool := (B p == 60 || B p == 62) && (decide (p + 1 < n) && B (p + 1) == 61)
def stopP (B : Nat → Nat) (n p : Nat) : Nat := if isL (B p) = true then rn isL B (n - p) p else if isD (B p) = true then rn isD B (n - p) p else if lgr B n p = true then p + 2 else p + 1
theorem rn_gt {P : Nat → Bool} {B : Nat → Nat} {n p : Nat} (hp : p < n) (h : P (B p) = true) : p < rn P B (n - p) p := by
  obtain ⟨r, hr⟩ : ∃ r, n - p = r + 1 := ⟨n - p - 1, by omega⟩
  rw [hr]
  unfold rn
  rw [if_pos h]
  exact Nat.lt_of_lt_of_le (Nat.lt_succ_self p) (rn_le P B r (p + 1)).1
theorem stopP_gt {B : Nat → Nat} {n p : Nat} (hp : p < n) : p < stopP B n p ∧ stopP B n p ≤ n := by
  unfold stopP
  by_cases c1 : isL (B p) = true
  · rw [if_pos c1]
    have := (rn_le isL B (n - p) p).2
    exact ⟨rn_gt hp c1, by omega⟩
  · rw [if_neg c1]
    by_cases c2 : isD (B p) = true
    · rw [if_pos c2]
      have := (rn_le isD B (n - p) p).2
      exact ⟨rn_gt hp c2, by omega⟩
    · rw [if_neg c2]
      by_cases c3 : lgr B n p = true
      · rw [if_pos c3]
        unfold lgr at c3
        simp only [Bool.and_eq_true, decide_eq_true_eq] at c3
        omega
      · rw [if_neg c3]; omega
/-- a run's number, as the class holds it -/
def nc (B : Nat → Nat) : Nat → Nat → Nat → Nat
  | 0, _, a => a
  | r + 1, p, a => nc B r (p + 1) (min 10000 (a * 10 + (B p - 48)))
def sl (B : Nat → Nat) : Nat → Nat → List Nat
  | 0, _ => []
  | r + 1, p => B p :: sl B r (p + 1)
theorem sl_len (B : Nat → Nat) : ∀ r p, (sl B r p).length = r
  | 0, _ => rfl
  | r + 1, p => congrArg Nat.succ (sl_len B r (p + 1))
def wx : List (List Nat) → Nat → List Nat → Nat
  | [], _, _ => 36
  | w :: ws, k, l => if l = w then k else wx ws (k + 1) l
def WDS : List (List Nat) := [[119, 97, 114, 114, 97, 110, 116], [100, 111, 101, 115], [103, 97, 105, 110], [102, 105, 110, 101], [97, 112, 112, 101, 97, 108], [116, 111, 108, 108], [111, 114], [97, 110, 100], [110, 111, 116], [100, 97, 121], [112, 114, 111, 118, 105, 110, 99, 101], [108, 97, 115, 116], [115, 101, 101, 110], [115, 107, 121], [100, 101, 99, 114, 101, 101], [116, 114, 97, 100, 101], [102, 101, 97, 114], [97, 99, 116], [119, 101, 116], [104, 97, 116, 115], [109, 105, 110, 101], [111, 116, 104, 101, 114, 115]]
def sgn (b : Nat) (l : Bool) : Nat := (f_Tokens_signOf (nI b) (o1 l)).toNatClampNeg
theorem sgn_c : ∀ b, b < 256 → ∀ l : Bool, f_Tokens_signOf (nI b) (o1 l) = nI (sgn b l) ∧ sgn b l < 37 := by decide +kernel
def kdP (B : Nat → Nat) (n p : Nat) : Nat := if isL (B p) = true then wx WDS 0 (sl B (stopP B n p - p) p) else if isD (B p) = true then 35 else sgn (B p) (lgr B n p)
def vlP (B : Nat → Nat) (n p : Nat) : Nat := if isD (B p) = true then nc B (stopP B n p - p) p 0 else 0
theorem wx_le : ∀ (ws : List (List Nat)) (k : Nat) (l : List Nat), k + ws.length ≤ 36 → wx ws k l ≤ 36 ∧ (wx ws k l < k + ws.length ∨ wx ws k l = 36)
  | [], k, l, h => ⟨Nat.le_refl _, Or.inr rfl⟩
  | w :: ws, k, l, h => by
    have h' : k + (ws.length + 1) ≤ 36 := h
    have e : (w :: ws).length = ws.length + 1 := rfl
    unfold wx
    by_cases c : l = w
    · rw [if_pos c, e]; omega
    · rw [if_neg c, e]
      have := wx_le ws (k + 1) l (by omega)
      omega
/-- the sequence of tokens -/
def plT (B : Nat → Nat) (n : Nat) : Nat → Nat
  | 0 => skp B n 0
  | i + 1 => if plT B n i < n then skp B n (stopP B n (plT B n i)) else n
def kdT (B : Nat → Nat) (n i : Nat) : Nat := if plT B n i < n then kdP B n (plT B n i) else 37
def vlT (B : Nat → Nat) (n i : Nat) : Nat := if plT B n i < n then vlP B n (plT B n i) else 0
def afT (B : Nat → Nat) (n i : Nat) : Nat := if plT B n i < n then stopP B n (plT B n i) else n
theorem kdP_lt {B : Nat → Nat} {n p : Nat} (hb : B p < 256) : kdP B n p < 37 := by
  unfold kdP
  by_cases c1 : isL (B p) = true
  · rw [if_pos c1]
    have := wx_le WDS 0 (sl B (stopP B n p - p) p) (by decide)
    omega
  · rw [if_neg c1]
    by_cases c2 : isD (B p) = true
    · rw [if_pos c2]; omega
    · rw [if_neg c2]; exact (sgn_c (B p) hb _).2
/-- the class's tape -/
def TP (V : xV) (B : Nat → Nat) (n : Nat) : Prop := n ≤ 300 ∧ V 17 1 = nI n ∧ ∀ i, i < n → B i < 256 ∧ V 18 i = nI (B i)
theorem at_in {V : xV} {B : Nat → Nat} {n i : Nat} (h : TP V B n) (hi : i < n) : f_Tape_at (nI i) V = some (nI (B i)) := by
  obtain ⟨h0, h1, h2⟩ := h
  unfold f_Tape_at
  rw [h1, within_in hi (by omega), if_neg (by decide), if_neg (show ¬ (300 : Int32) ≤ nI i from nI_ge (b := 300) (by omega) (by decide)), if_pos (xI_ok (by omega) (by decide)), cl (by omega), (h2 i hi).2]
theorem at_out {V : xV} {B : Nat → Nat} {n i : Nat} (h : TP V B n) (hi : n ≤ i) (hi2 : i < 2 ^ 31) : f_Tape_at (nI i) V = some 0 := by
  obtain ⟨h0, h1, h2⟩ := h
  unfold f_Tape_at f_Ww_within
  rw [h1, if_neg (nI_pos hi2), if_pos (nI_le hi hi2), if_pos rfl]
theorem run_c {V : xV} {B : Nat → Nat} {n : Nat} (h : TP V B n) (f0 : Nat) (hf : f0 < 256) (P : Nat → Bool) (hP : (isL f0 = true ∧ P = isL) ∨ (isL f0 = false ∧ P = isD)) : ∀ (r p u : Nat), p + r = n → r < u → g_Tokens_stopOf_66 V u (nI f0) (nI p) = some (nI (rn P B r p))
  | 0, p, u + 1, h1, h2 => by
    show b_Tokens_stopOf_66 _ _ _ _ = _
    unfold b_Tokens_stopOf_66
    rw [h.2.1, if_pos (nI_le (by omega) (by have := h.1; omega))]
    show _ = some (nI p)
    rw [show p = n by omega]
  | r + 1, p, u + 1, h1, h2 => by
    have hn := h.1
    have hb := (h.2.2 p (by omega)).1
    show b_Tokens_stopOf_66 _ _ _ _ = _
    unfold b_Tokens_stopOf_66
    rw [h.2.1, if_neg (nI_ge (by omega) (by omega)), at_in h (by omega), Option.bind_some, letC f0 hf, letC _ hb, digC _ hb, nI_1, run_c h f0 hf P hP r (p + 1) u (by omega) (by omega)]
    rw [show rn P B (r + 1) p = if P (B p) = true then rn P B r (p + 1) else p from rfl]
    rcases hP with ⟨q1, rfl⟩ | ⟨q1, rfl⟩
    · rw [if_neg (show ¬ o1 (isL f0) = 0 by rw [q1]; decide)]
      cases c : isL (B p)
      · rw [if_neg (fun z => z rfl), if_neg (by decide)]
      · rw [if_pos (by decide), if_pos rfl]
    · rw [if_pos (show o1 (isL f0) = 0 by rw [q1]; rfl)]
      cases c : isD (B p)
      · rw [if_neg (fun z => z rfl), if_neg (by decide)]
      · rw [if_pos (by decide), if_pos rfl]
theorem stop_c {V : xV} {B : Nat → Nat} {n p : Nat} (h : TP V B n) (hp : p < n) : f_Tokens_stopOf (nI p) V = some (nI (stopP B n p)) := by
  have hn := h.1
  have hb := (h.2.2 p hp).1
  obtain ⟨⟨e1, e2⟩, -⟩ := b60 (B p) hb
  unfold f_Tokens_stopOf stopP
  rw [at_in h hp, Option.bind_some, letC _ hb, digC _ hb]
  by_cases c1 : isL (B p) = true
  · rw [if_pos (show ¬ o1 (isL (B p)) = 0 by rw [c1]; decide), if_pos c1]
    exact run_c h (B p) hb isL (Or.inl ⟨c1, rfl⟩) (n - p) p 2000 (by omega) (by omega)
  · have c1' : isL (B p) = false := by cases q : isL (B p); rfl; exact absurd q c1
    rw [if_neg (show ¬ ¬ o1 (isL (B p)) = 0 by rw [c1']; exact fun z => z rfl), if_neg c1]
    by_cases c2 : isD (B p) = true
    · rw [if_pos (show ¬ o1 (isD (B p)) = 0 by rw [c2]; decide), if_pos c2]
      exact run_c h (B p) hb isD (Or.inr ⟨c1', rfl⟩) (n - p) p 2000 (by omega) (by omega)
    · have c2' : isD (B p) = false := by cases q : isD (B p); rfl; exact absurd q c2
      rw [if_neg (show ¬ ¬ o1 (isD (B p)) = 0 by rw [c2']; exact fun z => z rfl), if_neg c2]
      have p2 : (nI p + 2 : Int32) = nI (p + 2) := nI_add p 2
      have two : b_Tokens_stopOf_32 V (nI p) = some (nI (if decide (p + 1 < n) && B (p + 1) == 61 then p + 2 else p + 1)) := by
        unfold b_Tokens_stopOf_32 b_Tokens_stopOf_49
        rw [nI_1, p2]
        by_cases c4 : p + 1 < n
        · rw [at_in h c4, Option.bind_some, decide_eq_true c4, Bool.true_and]
          have := (b61 (B (p + 1)) (h.2.2 _ c4).1).1
          by_cases c5 : B (p + 1) = 61
          · rw [if_neg (fun z => z (this.mpr c5)), if_neg (by decide), c5]; rfl
          · rw [if_pos (fun z => c5 (this.mp z)), if_pos rfl, if_neg (show ¬ (B (p + 1) == 61) = true by rw [beq_iff_eq]; exact c5)]
        · rw [at_out h (by omega) (by omega), Option.bind_some, decide_eq_false c4, Bool.false_and, if_pos (by decide), if_pos rfl]; rfl
      have one : b_Tokens_stopOf_49 V (nI p) 0 = some (nI (p + 1)) := by
        unfold b_Tokens_stopOf_49
        rw [if_pos rfl, nI_1]
      unfold lgr
      by_cases d1 : B p = 60
      · rw [if_pos (e1.mpr d1), two, d1, show ((60 : Nat) == 60 || (60 : Nat) == 62) = true from rfl, Bool.true_and]
      · rw [if_neg (fun z => d1 (e1.mp z))]
        by_cases d2 : B p = 62
        · rw [if_neg (fun z => z (e2.mpr d2)), two, d2, show ((62 : Nat) == 60 || (62 : Nat) == 62) = true from rfl, Bool.true_and]
        · rw [if_pos (fun z => d2 (e2.mp z)), one, show (B p == 60 || B p == 62) = false by rw [Bool.or_eq_false_iff]; exact ⟨beq_false_of_ne d1, beq_false_of_ne d2⟩, Bool.false_and, if_neg (by decide)]
theorem num_c {V : xV} {B : Nat → Nat} {n e : Nat} (h : TP V B n) (he : e ≤ n) : ∀ (r p a u : Nat), p + r = e → r < u → a ≤ 10000 → (∀ i, p ≤ i → i < e → isD (B i) = true) → g_Tokens_numberOf_5 V u (nI e) (nI a) (nI p) = some (nI (nc B r p a))
  | 0, p, a, u + 1, h1, h2, h3, h4 => by
    have hn := h.1
    show b_Tokens_numberOf_5 _ _ _ _ _ = _
    unfold b_Tokens_numberOf_5
    rw [if_pos (nI_le (by omega) (by omega))]; rfl
  | r + 1, p, a, u + 1, h1, h2, h3, h4 => by
    have hn := h.1
    have hd := isD_r (h4 p (by omega) (by omega))
    show b_Tokens_numberOf_5 _ _ _ _ _ = _
    unfold b_Tokens_numberOf_5
    have e : xmin 10000 (nI a * 10 + nI (B p) - 48) = nI (min 10000 (a * 10 + (B p - 48))) := by
      rw [show nI a * 10 + nI (B p) - 48 = nI (a * 10 + (B p - 48)) by rw [show (10 : Int32) = nI 10 from rfl, pk_mul, nI_add, show (48 : Int32) = nI 48 from rfl, pk_sub (by omega)]; congr 1; omega]
      unfold xmin
      by_cases c : a * 10 + (B p - 48) < 10000
      · rw [if_pos (show nI (a * 10 + (B p - 48)) < 10000 from nI_lt (b := 10000) c (by decide)), Nat.min_eq_right (by omega)]
      · rw [if_neg (show ¬ nI (a * 10 + (B p - 48)) < 10000 from nI_nlt (b := 10000) (by omega) (by omega)), Nat.min_eq_left (by omega)]; rfl
    rw [if_neg (nI_ge (by omega) (by omega)), at_in h (by omega), Option.bind_some, e, nI_1]
    exact num_c h he r (p + 1) _ u (by omega) (by omega) (Nat.min_le_left _ _) (fun i i1 i2 => h4 i (by omega) i2)
theorem nc_le (B : Nat → Nat) : ∀ r p a, a ≤ 10000 → nc B r p a ≤ 10000
  | 0, _, _, h => h
  | r + 1, p, a, _ => nc_le B r (p + 1) _ (Nat.min_le_left _ _)
/-- the table of words -/
def ltB : List Nat → Nat → Bool
  | [], _ => true
  | c :: t, i => (xWordsB.getD i 0 == nI c && (c != 32 && (decide (c < 256) && decide (i < 116)))) && ltB t (i + 1)
def wtB : List (List Nat) → Nat → Bool
  | [], i => i == 116
  | w :: ws, i => (ltB w i && (xWordsB.getD (i + w.length) 0 == 32 && decide (i + w.length < 116))) && wtB ws (i + w.length + 1)
theorem wtB_ok : wtB WDS 0 = true := by decide +kernel
theorem word_in {V : xV} {B : Nat → Nat} {n e p k : Nat} (h : TP V B n) (he : e ≤ n) : ∀ (t : List Nat) (a i u : Nat) (fl : Bool), ltB t i = true → (fl = true → a ≤ e) → a + t.length < 1000 → g_Tokens_wordOf_11 V (u + t.length) (nI p) (nI e) (nI k) (nI a) (o1 fl) (nI i) = g_Tokens_wordOf_11 V u (nI p) (nI e) (nI k) (nI (a + t.length)) (o1 (fl && (decide (a + t.length ≤ e) && decide (sl B t.length a = t)))) (nI (i + t.length))
  | [], a, i, u, fl, _, h1, h2 => by
    have : (fl && (decide (a + ([] : List Nat).length ≤ e) && decide (sl B ([] : List Nat).length a = []))) = fl := by
      cases fl
      · rfl
      · rw [show decide (a + ([] : List Nat).length ≤ e) = true from decide_eq_true (h1 rfl)]; rfl
    rw [this]; rfl
  | c :: t, a, i, u, fl, h0, h1, h2 => by
    have hn := h.1
    have h2 : a + (t.length + 1) < 1000 := h2
    simp only [ltB, Bool.and_eq_true, beq_iff_eq, bne_iff_ne, decide_eq_true_eq] at h0
    obtain ⟨⟨g1, g2, g3, g4⟩, g5⟩ := h0
    have ih := fun fl' (hf : fl' = true → a + 1 ≤ e) => word_in (p := p) (k := k) h he t (a + 1) (i + 1) u fl' g5 hf (by omega)
    have n32 : ¬ nI c = 32 := fun z => g2 (nI_small (b := 32) (by omega) (by decide) z)
    have el : (c :: t).length = t.length + 1 := rfl
    have es : sl B (t.length + 1) a = B a :: sl B t.length (a + 1) := rfl
    have step : ∀ x : Int32, b_Tokens_wordOf_11 V (g_Tokens_wordOf_11 V (u + t.length)) (nI p) (nI e) (nI k) (nI a) x (nI i) = if x = 0 then g_Tokens_wordOf_11 V (u + t.length) (nI p) (nI e) (nI k) (nI (a + 1)) 0 (nI (i + 1)) else if e ≤ a then g_Tokens_wordOf_11 V (u + t.length) (nI p) (nI e) (nI k) (nI (a + 1)) 0 (nI (i + 1)) else if B a = c then g_Tokens_wordOf_11 V (u + t.length) (nI p) (nI e) (nI k) (nI (a + 1)) 1 (nI (i + 1)) else g_Tokens_wordOf_11 V (u + t.length) (nI p) (nI e) (nI k) (nI (a + 1)) 0 (nI (i + 1)) := by
      intro x
      unfold b_Tokens_wordOf_11
      rw [if_neg (show ¬ (116 : Int32) ≤ nI i from nI_ge (b := 116) g4 (by decide)), if_pos (xI_ok g4 (by decide)), cl (by omega), g1, if_neg n32, nI_1, nI_1]
      by_cases c1 : x = 0
      · rw [if_pos c1, if_pos c1]
      · rw [if_neg c1, if_neg c1]
        by_cases c2 : e ≤ a
        · rw [if_pos (nI_le c2 (by omega)), if_pos c2]
        · rw [if_neg (nI_ge (by omega) (by omega)), if_neg c2, at_in h (by omega), Option.bind_some]
          have hb := (h.2.2 a (by omega)).1
          by_cases c3 : B a = c
          · rw [if_neg (fun z => z (by rw [c3])), if_pos c3]
          · rw [if_pos (fun z => c3 (nI_small (by omega) (by omega) z)), if_neg c3]
    rw [el, es, show u + (t.length + 1) = (u + t.length) + 1 by omega]
    show b_Tokens_wordOf_11 _ _ _ _ _ _ _ _ = _
    rw [step, show a + (t.length + 1) = a + 1 + t.length by omega, show i + (t.length + 1) = i + 1 + t.length by omega]
    have f0 := ih false (fun z => by cases z)
    rw [Bool.false_and] at f0
    cases fl
    · rw [if_pos (show o1 false = 0 from rfl), Bool.false_and]; exact f0
    · rw [if_neg (by decide), Bool.true_and]
      by_cases c2 : e ≤ a
      · rw [if_pos c2, decide_eq_false (show ¬ a + 1 + t.length ≤ e by omega), Bool.false_and]; exact f0
      · rw [if_neg c2]
        by_cases c3 : B a = c
        · rw [if_pos c3, c3, show decide (c :: sl B t.length (a + 1) = c :: t) = decide (sl B t.length (a + 1) = t) from decide_eq_decide.mpr ⟨fun z => (List.cons.inj z).2, fun z => by rw [z]⟩]
          have f1 := ih true (fun _ => by omega)
          rw [Bool.true_and] at f1
          exact f1
        · rw [if_neg c3, decide_eq_false (show ¬ B a :: sl B t.length (a + 1) = c :: t from fun z => c3 (List.cons.inj z).1), Bool.and_false]; exact f0
theorem words_c {V : xV} {B : Nat → Nat} {n e p : Nat} (h : TP V B n) (he : e ≤ n) (hp : p ≤ e) : ∀ (ws : List (List Nat)) (k i u : Nat), wtB ws i = true → 117 ≤ u + i → i ≤ 116 → k + ws.length ≤ 36 → g_Tokens_wordOf_11 V u (nI p) (nI e) (nI k) (nI p) 1 (nI i) = some (nI (wx ws k (sl B (e - p) p)))
  | [], k, i, u + 1, h0, h1, h2, h3 => by
    unfold wtB at h0
    rw [beq_iff_eq] at h0
    subst h0
    show b_Tokens_wordOf_11 _ _ _ _ _ _ _ _ = _
    unfold b_Tokens_wordOf_11
    rw [if_pos (by decide)]; rfl
  | [], k, i, 0, h0, h1, h2, h3 => by omega
  | w :: ws, k, i, u, h0, h1, h2, h3 => by
    have hn := h.1
    have h3 : k + (ws.length + 1) ≤ 36 := h3
    simp only [wtB, Bool.and_eq_true, beq_iff_eq, decide_eq_true_eq] at h0
    obtain ⟨⟨g1, g2, g3⟩, g4⟩ := h0
    obtain ⟨u', hu⟩ : ∃ u', u = (u' + 1) + w.length := ⟨u - w.length - 1, by omega⟩
    subst hu
    have e1 := word_in (p := p) (k := k) h he w p i (u' + 1) true g1 (fun _ => hp) (by omega)
    rw [Bool.true_and] at e1
    refine Eq.trans e1 ?_
    have ih := words_c h he hp ws (k + 1) (i + w.length + 1) u' g4 (by omega) (by omega) (by omega)
    show b_Tokens_wordOf_11 _ _ _ _ _ _ _ _ = _
    unfold b_Tokens_wordOf_11
    rw [if_neg (show ¬ (116 : Int32) ≤ nI (i + w.length) from nI_ge (b := 116) g3 (by decide)), if_pos (xI_ok g3 (by decide)), cl (by omega), g2, if_pos rfl, nI_1, nI_1, ih]
    show _ = some (nI (if sl B (e - p) p = w then k else wx ws (k + 1) (sl B (e - p) p)))
    by_cases c : sl B (e - p) p = w
    · have el : w.length = e - p := by rw [← c, sl_len]
      rw [if_pos c, decide_eq_true (show p + w.length ≤ e by omega), Bool.true_and, el, decide_eq_true c, if_neg (by decide), if_neg (fun z => z (by congr 1; omega))]
    · rw [if_neg c]
      by_cases c2 : p + w.length = e
      · have el : w.length = e - p := by omega
        rw [decide_eq_true (show p + w.length ≤ e by omega), Bool.true_and, el, decide_eq_false c, if_pos (by decide)]
      · rw [if_pos (show ¬ nI (p + w.length) = nI e from fun z => c2 (nI_small (by omega) (by omega) z))]
        split <;> rfl
theorem kind_c {V : xV} {B : Nat → Nat} {n p : Nat} (h : TP V B n) (hp : p < n) : f_Tokens_kindOf (nI p) (nI (stopP B n p)) V = some (nI (kdP B n p)) := by
  have hn := h.1
  have hb := (h.2.2 p hp).1
  obtain ⟨hs1, hs2⟩ := stopP_gt (B := B) hp
  unfold f_Tokens_kindOf kdP
  rw [at_in h hp, Option.bind_some, letC _ hb, digC _ hb]
  by_cases c1 : isL (B p) = true
  · rw [if_neg (show ¬ o1 (isL (B p)) = 0 by rw [c1]; decide), if_pos c1]
    have := words_c (p := p) h hs2 (by omega) WDS 0 0 2000 wtB_ok (by omega) (by omega) (by decide)
    unfold f_Tokens_wordOf
    rw [show g_Tokens_wordOf_11 V 2000 (nI p) (nI (stopP B n p)) 0 (nI p) 1 0 = _ from this, Option.bind_some]
  · have c1' : isL (B p) = false := by cases q : isL (B p); rfl; exact absurd q c1
    rw [if_pos (show o1 (isL (B p)) = 0 by rw [c1']; rfl), if_neg c1]
    by_cases c2 : isD (B p) = true
    · rw [if_neg (show ¬ o1 (isD (B p)) = 0 by rw [c2]; decide), if_pos c2]; rfl
    · have c2' : isD (B p) = false := by cases q : isD (B p); rfl; exact absurd q c2
      rw [if_pos (show o1 (isD (B p)) = 0 by rw [c2']; rfl), if_neg c2, pk_sub (by omega)]
      have es : stopP B n p = if lgr B n p = true then p + 2 else p + 1 := by unfold stopP; rw [if_neg c1, if_neg c2]
      cases c3 : lgr B n p
      · rw [c3, if_neg (by decide)] at es
        rw [es, show p + 1 - p = 1 by omega, if_pos (by decide)]
        exact congrArg some (sgn_c (B p) hb false).1
      · rw [c3, if_pos rfl] at es
        rw [es, show p + 2 - p = 2 by omega, if_neg (by decide)]
        exact congrArg some (sgn_c (B p) hb true).1

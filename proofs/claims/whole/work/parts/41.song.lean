/-! PURE: songs -/
def bc (V : xV) (i : Nat) : Nat := (V 18 i).toNatClampNeg
def tpN (V : xV) (n : Nat) : Prop := n ≤ 300 ∧ V 17 1 = nI n ∧ V 65 3 = nI n ∧ ∀ i, i < n → bc V i < 256 ∧ V 18 i = nI (bc V i) ∧ V 68 i = (nI (bc V i)).toInt8.toInt32
theorem tp.n {V : xV} (h : tp V) : ∃ n, tpN V n := by
  obtain ⟨n, h1, h2, h3, h4⟩ := h
  refine ⟨n, h1, h2, h3, fun i hi => ?_⟩
  obtain ⟨b, hb, e1, e2⟩ := h4 i hi
  have e : bc V i = b := by unfold bc; rw [e1, cl (by omega)]
  rw [e]; exact ⟨hb, e1, e2⟩
def lt1 (b : Nat) : Bool := decide (97 ≤ b) && decide (b ≤ 122)
def vw1 (b : Nat) : Bool := b == 97 || b == 101 || b == 105 || b == 111 || b == 117
def inw (B : Nat → Nat) : Nat → Bool
  | 0 => false
  | i + 1 => lt1 (B i)
def sW (B : Nat → Nat) : Nat → Nat
  | 0 => 0
  | i + 1 => sW B i + if lt1 (B i) = true ∧ inw B i = false then 1 else 0
def sV (B : Nat → Nat) (w : Nat) : Nat → Nat
  | 0 => 0
  | i + 1 => sV B w i + if vw1 (B i) = true ∧ sW B (i + 1) = w + 1 then 1 else 0
theorem sW_le (B : Nat → Nat) : ∀ i, sW B i ≤ i
  | 0 => Nat.le_refl _
  | i + 1 => by
    have := sW_le B i
    show sW B i + _ ≤ _
    split <;> omega
theorem sV_le (B : Nat → Nat) (w : Nat) : ∀ i, sV B w i ≤ i
  | 0 => Nat.le_refl _
  | i + 1 => by
    have := sV_le B w i
    show sV B w i + _ ≤ _
    split <;> omega
theorem sW_mono (B : Nat → Nat) (i : Nat) : sW B i ≤ sW B (i + 1) := Nat.le_add_right _ _
theorem sV_0 (B : Nat → Nat) (w : Nat) : ∀ i, sW B i ≤ w → sV B w i = 0
  | 0, _ => rfl
  | i + 1, h => by
    have h1 := sW_mono B i
    show sV B w i + _ = 0
    rw [sV_0 B w i (by omega), if_neg (by omega)]
theorem by_c : ∀ b, b < 256 → ((nI b = 32) ↔ b = 32) ∧ ((nI b < 97) ↔ b < 97) ∧ ((nI b ≤ 122) ↔ b ≤ 122) ∧ f_Song_isVowel (nI b) = (if vw1 b = true then 1 else 0) := by decide +kernel
theorem by_m : ∀ b, b < 256 → (((nI b).toInt8.toInt32 = 32) ↔ b = 32) ∧ f_Md_isSmall ((nI b).toInt8.toInt32) = (if lt1 b = true then 1 else 0) ∧ f_Md_isVowel ((nI b).toInt8.toInt32) = (if vw1 b = true then 1 else 0) := by decide +kernel
theorem lt1_iff {b : Nat} : lt1 b = true ↔ 97 ≤ b ∧ b ≤ 122 := by unfold lt1; rw [Bool.and_eq_true, decide_eq_true_iff, decide_eq_true_iff]
theorem vw_lt {b : Nat} (h : vw1 b = true) : lt1 b = true := by
  rw [lt1_iff]
  unfold vw1 at h
  simp only [Bool.or_eq_true, beq_iff_eq] at h
  omega
/-- what the class holds of a song read to a place -/
def sgC (V W : xV) (i : Nat) : Prop := W 63 0 = nI (sW (bc V) i) ∧ (∀ w, w < sW (bc V) i → W 64 w = nI (sV (bc V) w i)) ∧ ∀ r, r ≠ 63 → r ≠ 64 → W r = V r
def bN (b : Bool) : Int32 := if b = true then 1 else 0
theorem tape_at {V W : xV} {n i : Nat} (h : tpN V n) (hi : i < n) (h17 : W 17 = V 17) (h18 : W 18 = V 18) : f_Tape_at (nI i) W = some (nI (bc V i)) := by
  obtain ⟨h1, h2, h3, h4⟩ := h
  unfold f_Tape_at
  rw [h17, h2, within_in hi (by omega), if_neg (by decide), if_neg (show ¬ (300 : Int32) ≤ nI i from nI_ge (b := 300) (by omega) (by decide)), if_pos (xI_ok (by omega) (by decide)), cl (by omega), h18, (h4 i hi).2.1]
theorem song_vow {V W : xV} {n i : Nat} (h : tpN V n) (hi : i < n) (k : Int32 → Int32 → xV → Option (Int32 × xV)) (s0 : Int32) (h1 : W 63 0 = nI (sW (bc V) (i + 1))) (h2 : ∀ w, w < sW (bc V) (i + 1) → W 64 w = nI (sV (bc V) w i)) (h3 : ∀ r, r ≠ 63 → r ≠ 64 → W r = V r) (h0 : lt1 (bc V i) = true → 0 < sW (bc V) (i + 1)) : ∃ W', b_Song_read_103 k (nI i) (nI (bc V i)) s0 W = k s0 (nI (i + 1)) W' ∧ sgC V W' (i + 1) := by
  have hb := h.2.2.2 i hi
  have hn := h.1
  have q := (by_c _ hb.1).2.2.2
  have hw := sW_le (bc V) (i + 1)
  by_cases c : vw1 (bc V i) = true
  · rw [if_pos c] at q
    have hp := h0 (vw_lt c)
    obtain ⟨w, ew⟩ : ∃ w, sW (bc V) (i + 1) = w + 1 := ⟨sW (bc V) (i + 1) - 1, by omega⟩
    refine ⟨x2 W 64 w (W 64 w + 1), ?_, ?_, fun u hu => ?_, fun r q1 q2 => by rw [x2_ne q2]; exact h3 r q1 q2⟩
    · unfold b_Song_read_103
      rw [q, if_neg (by decide), h1, ew, nI_pred, show (300 : Int32) = nI 300 from rfl, within_in (by omega) (by decide), if_neg (by decide), if_pos (xI_ok (by omega) (by decide)), if_pos (xI_ok (by omega) (by decide)), cl (by omega), nI_1]
    · rw [x2_ne (by decide)]; exact h1
    · show _ = nI (sV (bc V) u i + _)
      by_cases d : u = w
      · subst d; rw [x2_at, h2 u (by omega), nI_1, if_pos ⟨c, ew⟩]
      · rw [x2_off (by omega), h2 u hu, if_neg (by omega)]; rfl
  · rw [if_neg c] at q
    refine ⟨W, ?_, h1, fun u hu => ?_, h3⟩
    · unfold b_Song_read_103
      rw [q, if_pos (by decide), nI_1]
    · show _ = nI (sV (bc V) u i + _)
      rw [h2 u hu, if_neg (fun z => c z.1)]; rfl
def okc (b : Nat) : Prop := b = 32 ∨ lt1 b = true
theorem sW_32 {B : Nat → Nat} {i : Nat} (h : ¬ (lt1 (B i) = true ∧ inw B i = false)) : sW B (i + 1) = sW B i := by
  show sW B i + _ = _
  rw [if_neg h]; rfl
theorem sW_new {B : Nat → Nat} {i : Nat} (h : lt1 (B i) = true ∧ inw B i = false) : sW B (i + 1) = sW B i + 1 := by
  show sW B i + _ = _
  rw [if_pos h]
theorem inw_pos (B : Nat → Nat) : ∀ i, inw B i = true → 0 < sW B i
  | 0, h => by cases h
  | i + 1, h => by
    by_cases c : inw B i = true
    · have := inw_pos B i c
      have := sW_mono B i
      omega
    · rw [sW_new ⟨h, by simpa using c⟩]; omega
theorem song_c {V : xV} {n : Nat} (h : tpN V n) : ∀ (m i f : Nat) (W : xV), i + m = n → m < f → sgC V W i → ∃ W', sgC V W' n ∧ (∀ r, r ≠ 63 → r ≠ 64 → W' r = V r) ∧ ((∀ j, i ≤ j → j < n → okc (bc V j)) → g_Song_read_9 f (bN (inw (bc V) i)) (nI i) W = some (if 0 < sW (bc V) n then 1 else 0, W')) ∧ (¬ (∀ j, i ≤ j → j < n → okc (bc V j)) → ∃ W2, g_Song_read_9 f (bN (inw (bc V) i)) (nI i) W = some (0, W2) ∧ ∀ r, r ≠ 63 → r ≠ 64 → W2 r = V r)
  | 0, i, f + 1, W, h1, h2, h3 => by
    have : i = n := by omega
    subst this
    refine ⟨W, h3, h3.2.2, fun _ => ?_, fun q => absurd (fun j _ _ => by omega) q⟩
    show b_Song_read_9 _ _ _ _ = _
    unfold b_Song_read_9
    have hw := sW_le (bc V) i
    have hn := h.1
    rw [h3.2.2 17 (by decide) (by decide), h.2.1, if_pos (nI_le (Nat.le_refl _) (by omega)), h3.1]
    by_cases c : 0 < sW (bc V) i
    · rw [if_neg (nI_nle c (by omega)), if_pos c]
    · rw [show sW (bc V) i = 0 by omega]; rfl
  | m + 1, i, f + 1, W, h1, h2, h3 => by
    have hi : i < n := by omega
    have hn := h.1
    have hb := h.2.2.2 i hi
    obtain ⟨b1, b2, b3, -⟩ := by_c _ hb.1
    have hw := sW_le (bc V) i
    have start : g_Song_read_9 (f + 1) (bN (inw (bc V) i)) (nI i) W = (if nI (bc V i) = 32 then b_Song_read_47 (g_Song_read_9 f) (bN (inw (bc V) i)) (nI i) (nI (bc V i)) W else (if nI (bc V i) < 97 then some (0, W) else (if nI (bc V i) ≤ 122 then b_Song_read_47 (g_Song_read_9 f) (bN (inw (bc V) i)) (nI i) (nI (bc V i)) W else some (0, W)))) := by
      show b_Song_read_9 _ _ _ _ = _
      unfold b_Song_read_9
      rw [h3.2.2 17 (by decide) (by decide), h.2.1, if_neg (nI_ge hi (by omega)), tape_at h hi (h3.2.2 17 (by decide) (by decide)) (h3.2.2 18 (by decide) (by decide)), Option.bind_some]
    by_cases c : okc (bc V i)
    · have key : ∃ W1, g_Song_read_9 (f + 1) (bN (inw (bc V) i)) (nI i) W = g_Song_read_9 f (bN (inw (bc V) (i + 1))) (nI (i + 1)) W1 ∧ sgC V W1 (i + 1) := by
        have s1 : g_Song_read_9 (f + 1) (bN (inw (bc V) i)) (nI i) W = b_Song_read_47 (g_Song_read_9 f) (bN (inw (bc V) i)) (nI i) (nI (bc V i)) W := by
          rw [start]
          rcases c with c | c
          · rw [if_pos (b1.mpr c)]
          · rw [lt1_iff] at c
            rw [if_neg (fun z => by have := b1.mp z; omega), if_neg (fun z => by have := b2.mp z; omega), if_pos (b3.mpr c.2)]
        rw [s1]
        unfold b_Song_read_47
        by_cases d : bc V i = 32
        · have nl : lt1 (bc V i) = false := by rw [d]; rfl
          have e0 : inw (bc V) (i + 1) = false := nl
          have ew := sW_32 (B := bc V) (i := i) (by rw [nl]; simp)
          obtain ⟨W1, k1, k2⟩ := song_vow h hi (g_Song_read_9 f) 0 (W := W) (by rw [ew]; exact h3.1) (by rw [ew]; exact h3.2.1) h3.2.2 (by rw [nl]; simp)
          refine ⟨W1, ?_, k2⟩
          rw [if_pos (b1.mpr d), if_pos (b1.mpr d), k1, e0]; rfl
        · have hl : lt1 (bc V i) = true := by rcases c with c | c; exact absurd c d; exact c
          have e0 : inw (bc V) (i + 1) = true := hl
          have nd : ¬ nI (bc V i) = 32 := fun z => d (b1.mp z)
          rw [if_neg nd]
          by_cases g : inw (bc V) i = true
          · have ew := sW_32 (B := bc V) (i := i) (by rw [g]; simp)
            obtain ⟨W1, k1, k2⟩ := song_vow h hi (g_Song_read_9 f) 1 (W := W) (by rw [ew]; exact h3.1) (by rw [ew]; exact h3.2.1) h3.2.2 (fun _ => inw_pos _ _ e0)
            refine ⟨W1, ?_, k2⟩
            rw [g, if_pos (by decide), if_neg nd, k1, e0]; rfl
          · have g : inw (bc V) i = false := by simpa using g
            have ew := sW_new (B := bc V) (i := i) ⟨hl, g⟩
            obtain ⟨W1, k1, k2⟩ := song_vow h hi (g_Song_read_9 f) 1 (W := x2 (x2 W 64 (sW (bc V) i) 0) 63 0 (nI (sW (bc V) i) + 1)) (by rw [x2_at, ew, nI_1]) (fun u hu => by
              rw [x2_ne (by decide)]
              by_cases z : u = sW (bc V) i
              · subst z; rw [x2_at, sV_0 _ _ _ (Nat.le_refl _)]; rfl
              · rw [x2_off (by omega)]; exact h3.2.1 u (by omega)) (fun r q1 q2 => by rw [x2_ne q1, x2_ne q2]; exact h3.2.2 r q1 q2) (fun _ => inw_pos _ _ e0)
            refine ⟨W1, ?_, k2⟩
            rw [g, if_neg (by decide), h3.1, show (300 : Int32) = nI 300 from rfl, within_in (by omega) (by decide), if_neg (by decide), if_pos (xI_ok (by omega) (by decide)), if_neg nd, cl (by omega), x2_ne (by decide), h3.1, k1, e0]; rfl
      obtain ⟨W1, k1, k2⟩ := key
      obtain ⟨W', q1, q2, q3, q4⟩ := song_c h m (i + 1) f W1 (by omega) (by omega) k2
      refine ⟨W', q1, q2, fun z => ?_, fun z => ?_⟩
      · rw [k1]; exact q3 (fun j j1 j2 => z j (by omega) j2)
      · rw [k1]
        refine q4 (fun y => z (fun j j1 j2 => ?_))
        by_cases x : j = i
        · subst x; exact c
        · exact y j (by omega) j2
    · obtain ⟨W0, z0⟩ : ∃ W0, sgC V W0 n := ⟨fun r k => if r = 63 then nI (sW (bc V) n) else if r = 64 then nI (sV (bc V) k n) else V r k, by simp [sgC]; intro r h1 h2; funext k; rw [if_neg h1, if_neg h2]⟩
      refine ⟨W0, z0, z0.2.2, fun z => absurd (z i (Nat.le_refl _) hi) c, fun _ => ⟨W, ?_, h3.2.2⟩⟩
      rw [start]
      have c1 : ¬ bc V i = 32 := fun z => c (Or.inl z)
      have c2 : ¬ (97 ≤ bc V i ∧ bc V i ≤ 122) := fun z => c (Or.inr (lt1_iff.mpr z))
      rw [if_neg (fun z => c1 (b1.mp z))]
      by_cases y : bc V i < 97
      · rw [if_pos (b2.mpr y)]
      · rw [if_neg (fun z => y (b2.mp z)), if_neg (fun z => by have := b3.mp z; omega)]
/-- what the model holds -/
def tpM (V : xV) (n : Nat) : Prop := n ≤ 300 ∧ True ∧ V 65 3 = nI n ∧ ∀ i, i < n → bc V i < 256 ∧ True ∧ V 68 i = (nI (bc V i)).toInt8.toInt32
def sgM (V W : xV) (a w i : Nat) : Prop := (∀ u, u < w → W 86 u = nI ((a + sV (bc V) u i) % 10)) ∧ ∀ r, r ≠ 86 → W r = V r
theorem wrds_in {V : xV} {n a : Nat} (h : tpM V n) (ha : a < 10) (k4 : Int32 → Int32 → Int32 → xV → Option (Int32 × xV)) {w : Nat} : ∀ (m i f : Nat) (W : xV), i + m = n → m < f → sgM V W a w i → ((inw (bc V) i = false ∧ sW (bc V) i = w ∧ i < n ∧ lt1 (bc V i) = true) ∨ (inw (bc V) i = true ∧ sW (bc V) i = w + 1)) → ∃ j W', g_Md_words_27 k4 f (nI a) (nI w) (nI i) (nI (a + sV (bc V) w i)) W = k4 (nI a) (nI (w + 1)) (nI j) W' ∧ i ≤ j ∧ (inw (bc V) i = false → i < j) ∧ j ≤ n ∧ sgM V W' a (w + 1) j ∧ sW (bc V) j = w + 1 ∧ (j < n → lt1 (bc V j) = false) ∧ ∀ x, i ≤ x → x < j → lt1 (bc V x) = true
  | m, i, f + 1, W, h1, h2, h3, h4 => by
    have hn := h.1
    have hv := sV_le (bc V) w i
    have hws := sW_le (bc V) i
    have stop : inw (bc V) i = true → sW (bc V) i = w + 1 → ∃ W', b_Md_words_75 k4 (nI a) (nI w) (nI i) (nI (a + sV (bc V) w i)) W = k4 (nI a) (nI (w + 1)) (nI i) W' ∧ sgM V W' a (w + 1) i := by
      intro z1 z2
      refine ⟨x2 W 86 w (nI ((a + sV (bc V) w i) % 10)), ?_, fun u hu => ?_, fun r hr => by rw [x2_ne hr]; exact h3.2 r hr⟩
      · unfold b_Md_words_75
        rw [if_pos (xI_ok (by omega) (by decide)), cl (by omega), nI_1, show xrem (nI (a + sV (bc V) w i)) 10 = nI ((a + sV (bc V) w i) % 10) from xrem_nI (d := 10) (by omega) (by decide) (by decide)]
      · by_cases c : u = w
        · subst c; rw [x2_at]
        · rw [x2_off (by omega)]; exact h3.1 u (by omega)
    by_cases hi : i < n
    · have hb := h.2.2.2 i hi
      obtain ⟨b1, b2, b3⟩ := by_m _ hb.1
      have e65 : W 65 = V 65 := h3.2 65 (by decide)
      have e68 : W 68 = V 68 := h3.2 68 (by decide)
      by_cases c : lt1 (bc V i) = true
      · obtain ⟨m', rfl⟩ : ∃ m', m = m' + 1 := ⟨m - 1, by omega⟩
        have ew : sW (bc V) (i + 1) = w + 1 := by
          rcases h4 with ⟨z1, z2, -, -⟩ | ⟨z1, z2⟩
          · rw [sW_new ⟨c, z1⟩, z2]
          · rw [sW_32 (by rw [z1]; simp), z2]
        have h3' : sgM V W a w (i + 1) := ⟨fun u hu => by
          show _ = nI ((a + (sV (bc V) u i + _)) % 10)
          rw [if_neg (by omega)]; exact h3.1 u hu, h3.2⟩
        obtain ⟨j, W', q1, q2, q3, q4, q5, q6, q7, q8⟩ := wrds_in h ha k4 m' (i + 1) f W (by omega) (by omega) h3' (Or.inr ⟨c, ew⟩)
        refine ⟨j, W', ?_, by omega, fun _ => by omega, q4, q5, q6, q7, fun x x1 x2 => if e : x = i then by rw [e]; exact c else q8 x (by omega) x2⟩
        rw [← q1]
        show b_Md_words_27 _ _ _ _ _ _ _ = _
        unfold b_Md_words_27
        rw [e65, h.2.2.1, if_neg (nI_ge hi (by omega)), if_pos (xI_ok (by omega) (by decide)), cl (by omega), e68, hb.2.2, b2, b3, if_pos c, if_neg (by decide), if_pos (xI_ok (by omega) (by decide)), nI_1]
        have e9 : sV (bc V) w (i + 1) = sV (bc V) w i + if vw1 (bc V i) = true ∧ sW (bc V) (i + 1) = w + 1 then 1 else 0 := rfl
        by_cases d : vw1 (bc V i) = true
        · rw [if_pos d, if_neg (by decide), e9, if_pos ⟨d, ew⟩, nI_1]; rfl
        · rw [if_neg d, if_pos (by decide), e9, if_neg (fun z => d z.1), nI_a0]; rfl
      · rcases h4 with ⟨-, -, -, z⟩ | ⟨z1, z2⟩
        · exact absurd z c
        obtain ⟨W', s1, s2⟩ := stop z1 z2
        refine ⟨i, W', ?_, Nat.le_refl _, fun z => absurd (z1.symm.trans z) (by decide), by omega, s2, z2, fun _ => by simpa using c, fun x x1 x2 => by omega⟩
        rw [← s1]
        show b_Md_words_27 _ _ _ _ _ _ _ = _
        unfold b_Md_words_27
        rw [e65, h.2.2.1, if_neg (nI_ge hi (by omega)), if_pos (xI_ok (by omega) (by decide)), cl (by omega), e68, hb.2.2, b2, if_neg c, if_pos (by decide)]
    · have : i = n := by omega
      subst this
      rcases h4 with ⟨-, -, z, -⟩ | ⟨z1, z2⟩
      · exact absurd z hi
      obtain ⟨W', s1, s2⟩ := stop z1 z2
      refine ⟨i, W', ?_, Nat.le_refl _, fun z => absurd (z1.symm.trans z) (by decide), by omega, s2, z2, fun z => by omega, fun x x1 x2 => by omega⟩
      rw [← s1]
      show b_Md_words_27 _ _ _ _ _ _ _ = _
      unfold b_Md_words_27
      rw [h3.2 65 (by decide), h.2.2.1, if_pos (nI_le (Nat.le_refl _) (by omega))]
theorem wrds_m {V : xV} {n a : Nat} (h : tpM V n) (ha : a < 10) : ∀ (m i f : Nat) (W : xV), i + m = n → m < f → sgM V W a (sW (bc V) i) i → (i < n → inw (bc V) i = true → lt1 (bc V i) = false) → ((∀ j, i ≤ j → j < n → okc (bc V j)) → ∃ W', g_Md_words_4 f (nI a) (nI (sW (bc V) i)) (nI i) W = some (nI (sW (bc V) n), W') ∧ sgM V W' a (sW (bc V) n) n) ∧ (¬ (∀ j, i ≤ j → j < n → okc (bc V j)) → ∃ W', g_Md_words_4 f (nI a) (nI (sW (bc V) i)) (nI i) W = some (0, W') ∧ ∀ r, r ≠ 86 → W' r = V r) := by
  intro m
  induction m using Nat.strongRecOn with
  | ind m ih =>
    intro i f W h1 h2 h3 h4
    obtain ⟨f, rfl⟩ : ∃ f', f = f' + 1 := ⟨f - 1, by omega⟩
    have hn := h.1
    have e65 : W 65 = V 65 := h3.2 65 (by decide)
    have e68 : W 68 = V 68 := h3.2 68 (by decide)
    by_cases hi : i < n
    · have hb := h.2.2.2 i hi
      obtain ⟨b1, b2, b3⟩ := by_m _ hb.1
      by_cases c : lt1 (bc V i) = true
      · have z1 : inw (bc V) i = false := by
          by_cases z : inw (bc V) i = true
          · rw [h4 hi z] at c; cases c
          · simpa using z
        have e0 : sV (bc V) (sW (bc V) i) i = 0 := sV_0 _ _ _ (Nat.le_refl _)
        obtain ⟨j, W', q1, q2, q3, q4, q5, q6, q7, q8⟩ := wrds_in h ha (g_Md_words_4 f) m i 2000 W h1 (by omega) h3 (Or.inl ⟨z1, rfl, hi, c⟩)
        rw [e0] at q1
        have hj := q3 z1
        have s1 : g_Md_words_4 (f + 1) (nI a) (nI (sW (bc V) i)) (nI i) W = g_Md_words_4 f (nI a) (nI (sW (bc V) j)) (nI j) W' := by
          rw [q6, ← q1]
          show b_Md_words_4 _ _ _ _ _ = _
          unfold b_Md_words_4
          rw [e65, h.2.2.1, if_neg (nI_ge hi (by omega)), if_pos (xI_ok (by omega) (by decide)), cl (by omega), e68, hb.2.2, b2, if_pos c, if_neg (by decide)]
          rfl
        have okij : ∀ x, i ≤ x → x < j → okc (bc V x) := fun x x1 x2 => Or.inr (q8 x x1 x2)
        obtain ⟨r1, r2⟩ := ih (n - j) (by omega) j f W' (by omega) (by omega) (by rw [q6]; exact q5) (fun z _ => q7 z)
        rw [s1]
        refine ⟨fun z => r1 (fun x x1 x2 => z x (by omega) x2), fun z => r2 (fun y => z (fun x x1 x2 => ?_))⟩
        by_cases u : x < j
        · exact okij x x1 u
        · exact y x (by omega) x2
      · by_cases d : bc V i = 32
        · have ew := sW_32 (B := bc V) (i := i) (fun z => c z.1)
          have s1 : g_Md_words_4 (f + 1) (nI a) (nI (sW (bc V) i)) (nI i) W = g_Md_words_4 f (nI a) (nI (sW (bc V) (i + 1))) (nI (i + 1)) W := by
            rw [ew]
            show b_Md_words_4 _ _ _ _ _ = _
            unfold b_Md_words_4
            rw [e65, h.2.2.1, if_neg (nI_ge hi (by omega)), if_pos (xI_ok (by omega) (by decide)), cl (by omega), e68, hb.2.2, b2, if_neg c, if_pos (by decide), if_pos (xI_ok (by omega) (by decide)), if_neg (fun z => z (b1.mpr d)), nI_1]
          have nv : ¬ vw1 (bc V i) = true := fun z => c (vw_lt z)
          obtain ⟨r1, r2⟩ := ih (n - (i + 1)) (by omega) (i + 1) f W (by omega) (by omega) ⟨fun u hu => by
            show _ = nI ((a + (sV (bc V) u i + _)) % 10)
            rw [if_neg (fun z => nv z.1)]; exact h3.1 u (by omega), h3.2⟩ (fun _ z => absurd z c)
          rw [s1]
          refine ⟨fun z => r1 (fun x x1 x2 => z x (by omega) x2), fun z => r2 (fun y => z (fun x x1 x2 => ?_))⟩
          by_cases u : x = i
          · subst u; exact Or.inl d
          · exact y x (by omega) x2
        · refine ⟨fun z => ?_, fun _ => ⟨W, ?_, h3.2⟩⟩
          · rcases z i (Nat.le_refl _) hi with z | z
            · exact absurd z d
            · exact absurd z c
          · show b_Md_words_4 _ _ _ _ _ = _
            unfold b_Md_words_4
            rw [e65, h.2.2.1, if_neg (nI_ge hi (by omega)), if_pos (xI_ok (by omega) (by decide)), cl (by omega), e68, hb.2.2, b2, if_neg c, if_pos (by decide), if_pos (xI_ok (by omega) (by decide)), if_pos (fun z => d (b1.mp z))]
    · have : i = n := by omega
      subst this
      refine ⟨fun _ => ⟨W, ?_, h3⟩, fun z => absurd (fun j _ _ => by omega) z⟩
      show b_Md_words_4 _ _ _ _ _ = _
      unfold b_Md_words_4
      rw [e65, h.2.2.1, if_pos (nI_le (Nat.le_refl _) (by omega))]

/-! PURE: ruined -/
def rR (a ru : Int32) (T : Nat → Int32) : Nat → Nat → Int32 → Int32
  | 0, _, c => if ¬ a = -1 then -1 else c
  | n + 1, i, c => if 0 - ru ≤ T i then rR a ru T n (i + 1) c else if ¬ c = a then rR a ru T n (i + 1) (c + 1) else nI i
theorem rR_neg {a ru : Int32} {T : Nat → Int32} (h1 : a < 0) (h2 : ¬ a = -1) : ∀ n i k, k + n < 2 ^ 31 → rR a ru T n i (nI k) = -1
  | 0, _, _, _ => if_pos h2
  | n + 1, i, k, hk => by
    show (if 0 - ru ≤ T i then rR a ru T n (i + 1) (nI k) else if ¬ nI k = a then rR a ru T n (i + 1) (nI k + 1) else nI i) = -1
    have ne : ¬ nI k = a := fun z => by rw [← z] at h1; exact nI_pos (by omega) h1
    rw [if_pos ne, nI_1, rR_neg h1 h2 n (i + 1) k (by omega), rR_neg h1 h2 n (i + 1) (k + 1) (by omega)]
    split <;> rfl
theorem ruin_c {V : xV} {S : Nat → Nat} {q e m : Nat} {F : Nat → Mn} (h : ST V S q F e m) {T : Nat → Int32} {a : Int32} (hT : ∀ f, f < S 0 → V 56 f = T f) : ∀ (n i u : Nat) (c : Int32), i + n = S 0 → n < u → g_Ww_ruined_17 u a c (nI i) V = some (rR a (nI (S 1)) T n i c, V)
  | 0, i, u + 1, c, h1, h2 => by
    have h12 := h.1.1.1
    show b_Ww_ruined_17 _ _ _ _ _ = some (if ¬ a = -1 then -1 else c, V)
    unfold b_Ww_ruined_17
    rw [h.2.1.1.1, if_pos (nI_le (by omega) (by omega))]
    split <;> rfl
  | n + 1, i, u + 1, c, h1, h2 => by
    have h12 := h.1.1.1
    show b_Ww_ruined_17 _ _ _ _ _ = some (if 0 - nI (S 1) ≤ T i then rR a (nI (S 1)) T n (i + 1) c else if ¬ c = a then rR a (nI (S 1)) T n (i + 1) (c + 1) else nI i, V)
    unfold b_Ww_ruined_17 f_Court_totalOf
    rw [h.2.1.1.1, if_neg (nI_ge (by omega) (by omega)), show (12 : Int32) = nI 12 from rfl, within_in (show i < 12 by omega) (by decide), if_neg (by decide), if_pos (xI_ok (show i < 12 by omega) (by decide)), cl (by omega), hT i (by omega), Option.bind_some, h.2.1.1.2.1, nI_1, ruin_c h hT n (i + 1) u c (by omega) (by omega), ruin_c h hT n (i + 1) u (c + 1) (by omega) (by omega)]
    split
    · rfl
    · split <;> rfl
theorem ruin_m {V : xV} {S : Nat → Nat} {q e m : Nat} {F : Nat → Mn} (h : ST V S q F m e) {a : Int32} : ∀ (n i u : Nat) (c : Int32) (W : xV) (L : xL), i + n = S 0 → n < u → sM V W → ∃ W1 L1, g_Md_ruined_11 u a c (nI i) W L = some (rR a (nI (S 1)) (fun f => iI (sd (gz (Fx F e) S 0 f) 30 0)) n i c, W1, L1) ∧ sM V W1
  | 0, i, u + 1, c, W, L, h1, h2, hW => by
    have h12 := h.1.1.1
    refine ⟨W, L, ?_, hW⟩
    show b_Md_ruined_11 _ _ _ _ _ _ = some (if ¬ a = -1 then -1 else c, W, L)
    unfold b_Md_ruined_11
    rw [hW 66 (by decide), h.2.2.1.2 0 (by decide) (by decide), if_pos (nI_le (by omega) (by omega))]
    split <;> rfl
  | n + 1, i, u + 1, c, W, L, h1, h2, hW => by
    have h12 := h.1.1.1
    obtain ⟨W1, L1, e1, e2⟩ := sumOf_f (L := L) h hW (f := i) (x := 0) (y := 29) (pp := 0) (by omega) (by decide) (by decide) (by decide)
    obtain ⟨W2, L2, g1, g2⟩ := ruin_m h (a := a) n (i + 1) u c W1 L1 (by omega) (by omega) e2
    obtain ⟨W3, L3, k1, k2⟩ := ruin_m h (a := a) n (i + 1) u (c + 1) W1 L1 (by omega) (by omega) e2
    have eq : g_Md_ruined_11 (u + 1) a c (nI i) W L = (if 0 - nI (S 1) ≤ iI (sd (gz (Fx F e) S 0 i) 30 0) then g_Md_ruined_11 u a c (nI (i + 1)) W1 L1 else if ¬ c = a then g_Md_ruined_11 u a (c + 1) (nI (i + 1)) W1 L1 else some (nI i, W1, L1)) := by
      show b_Md_ruined_11 _ _ _ _ _ _ = _
      unfold b_Md_ruined_11
      rw [hW 66 (by decide), h.2.2.1.2 0 (by decide) (by decide), if_neg (nI_ge (by omega) (by omega)), show f_Md_sumOf (nI i) 0 29 0 W L = _ from e1, Option.bind_some, nI_1]
      show (if 0 - W1 66 1 ≤ _ then _ else _) = _
      rw [e2 66 (by decide), h.2.2.1.2 1 (by decide) (by decide)]
    have st : rR a (nI (S 1)) (fun f => iI (sd (gz (Fx F e) S 0 f) 30 0)) (n + 1) i c = (if 0 - nI (S 1) ≤ iI (sd (gz (Fx F e) S 0 i) 30 0) then rR a (nI (S 1)) (fun f => iI (sd (gz (Fx F e) S 0 f) 30 0)) n (i + 1) c else if ¬ c = a then rR a (nI (S 1)) (fun f => iI (sd (gz (Fx F e) S 0 f) 30 0)) n (i + 1) (c + 1) else nI i) := rfl
    rw [eq, st]
    by_cases c1 : 0 - nI (S 1) ≤ iI (sd (gz (Fx F e) S 0 i) 30 0)
    · exact ⟨W2, L2, by rw [if_pos c1, if_pos c1]; exact g1, g2⟩
    · by_cases c2 : ¬ c = a
      · exact ⟨W3, L3, by rw [if_neg c1, if_neg c1, if_pos c2, if_pos c2]; exact k1, k2⟩
      · exact ⟨W1, L1, by rw [if_neg c1, if_neg c1, if_neg c2, if_neg c2], e2⟩
theorem op_ruined : P_ruined (Inv LW) := by
  intro a V L hI
  obtain ⟨S, q, F, h, -⟩ := hI.st
  have h12 := h.1.1.1
  obtain ⟨W, t1, t2, t3⟩ := tally_f h (o := -1) (x := 0) (y := 29) (pp := 0) (by decide) (by decide) (by decide) (Or.inl rfl)
  have h' := h.fT t2
  have hc := ruin_c h' (a := a) (T := fun f => iI (sd (gz (Fx F 6) S 0 f) 30 0)) (fun f hf => t3 f hf (sel_iff.mpr (Or.inl rfl))) (S 0) 0 2000 0 (by omega) (by omega)
  have A : f_Ww_ruined a V = some (rR a (nI (S 1)) (fun f => iI (sd (gz (Fx F 6) S 0 f) 30 0)) (S 0) 0 0, W) := by
    unfold f_Ww_ruined
    rw [show f_Court_tally (-1) 0 29 0 V = _ from t1, Option.bind_some]
    exact hc
  by_cases c : (-1 : Int32) ≤ a
  · obtain ⟨W2, L2, m1, m2⟩ := ruin_m h' (a := a) (S 0) 0 2000 0 W L (by omega) (by omega) (fun _ _ => rfl)
    refine ⟨_, W, W2, L2, A, ?_, hI.evT t2 m2⟩
    unfold f_Md_ruined
    rw [if_pos c]; exact m1
  · have c0 : a < 0 := by
      have := Int32.not_le.mp c
      exact Int32.lt_trans this (by decide)
    have c1 : ¬ a = -1 := fun z => c (by rw [z]; exact Int32.le_refl _)
    refine ⟨-1, W, W, L, ?_, ?_, hI.evT t2 (fun _ _ => rfl)⟩
    · rw [A, show (0 : Int32) = nI 0 from rfl, rR_neg c0 c1 (S 0) 0 0 (by omega)]
    · unfold f_Md_ruined
      rw [if_neg c]

/-! PURE: text, the model's next token -/
theorem vld_sl {B : Nat → Nat} : ∀ (r p : Nat), (∀ i, p ≤ i → i < p + r → isL (B i) = true) → vld (sl B r p)
  | 0, _, _ => fun c hc => by cases hc
  | r + 1, p, h => fun c hc => by
    rcases List.mem_cons.mp hc with e | e
    · rw [e]; exact isL_r (h p (by omega) (by omega))
    · exact vld_sl r (p + 1) (fun i i1 i2 => h i (by omega) (by omega)) c e
theorem if4 {α : Type} (f : Int32 → α) (a b c d : Prop) [Decidable a] [Decidable b] [Decidable c] [Decidable d] : (if ¬ a then f 3 else if ¬ b then f 3 else if c then f 3 else if ¬ d then f 4 else f 3) = f (if ¬ a then 3 else if ¬ b then 3 else if c then 3 else if ¬ d then 4 else 3) := by
  by_cases ha : a <;> by_cases hb : b <;> by_cases hc : c <;> by_cases hd : d <;> simp [ha, hb, hc, hd]
theorem b_370 {B : Nat → Nat} {n p : Nat} {W : xV} (h : TM W B n) (hp : p < n) (hL : isL (B p) = false) (hD : isD (B p) = false) (h12 : W 65 12 = nI (p + 1)) (h15 : W 65 15 = sx (B p)) : ∃ W', b_Md_next_370 (sx (B p)) (sgA (B p)) W = some W' ∧ W' 65 12 = nI (if lgr B n p = true then p + 2 else p + 1) ∧ W' 65 14 = sgA (B p) ∧ W' 65 15 = tol (B p) (lgr B n p) ∧ W' 65 13 = W 65 13 ∧ nf W W' := by
  have hn := h.1
  have hb := (h.2.2 p hp).1
  obtain ⟨-, q1, q2⟩ := b60 (B p) hb
  have no : (¬ (B p = 60 ∨ B p = 62)) → ∃ W', some (x2 W 65 14 (sgA (B p))) = some W' ∧ W' 65 12 = nI (if lgr B n p = true then p + 2 else p + 1) ∧ W' 65 14 = sgA (B p) ∧ W' 65 15 = tol (B p) (lgr B n p) ∧ W' 65 13 = W 65 13 ∧ nf W W' := by
    intro z
    have e : lgr B n p = false := by
      unfold lgr
      rw [show (B p == 60 || B p == 62) = false by rw [Bool.or_eq_false_iff]; exact ⟨beq_false_of_ne (fun y => z (Or.inl y)), beq_false_of_ne (fun y => z (Or.inr y))⟩, Bool.false_and]
    rw [e]
    exact ⟨_, rfl, by rw [x2_off (by omega), if_neg (by decide)]; exact h12, x2_at _ _ _ _, by rw [x2_off (by omega)]; exact h15, x2_off (by omega), nf_x2 (by decide) (by decide)⟩
  have yes : (B p = 60 ∨ B p = 62) → ∃ W', b_Md_next_385 (sx (B p)) (x2 W 65 14 (sgA (B p))) = some W' ∧ W' 65 12 = nI (if lgr B n p = true then p + 2 else p + 1) ∧ W' 65 14 = sgA (B p) ∧ W' 65 15 = tol (B p) (lgr B n p) ∧ W' 65 13 = W 65 13 ∧ nf W W' := by
    intro z
    have e : lgr B n p = (decide (p + 1 < n) && B (p + 1) == 61) := by
      unfold lgr
      rw [show (B p == 60 || B p == 62) = true by rcases z with z | z <;> rw [z] <;> rfl, Bool.true_and]
    have f0 : nf W (x2 W 65 14 (sgA (B p))) := nf_x2 (by decide) (by decide)
    have h' := h.nf f0
    have e12 : x2 W 65 14 (sgA (B p)) 65 12 = nI (p + 1) := by rw [x2_off (by omega)]; exact h12
    unfold b_Md_next_385
    rw [h'.2.1, e12, e]
    by_cases c : p + 1 < n
    · obtain ⟨hb1, hw1⟩ := h'.2.2 (p + 1) c
      rw [if_neg (nI_ge c (by omega)), if_pos (xI_ok (by omega) (by decide)), cl (by omega), hw1, decide_eq_true c, Bool.true_and]
      have q3 := (b61 (B (p + 1)) hb1).2
      by_cases c2 : B (p + 1) = 61
      · rw [if_neg (fun y => y (q3.mpr c2)), c2, show ((61 : Nat) == 61) = true from rfl]
        have e3 : ∀ v, x2 (x2 W 65 14 (sgA (B p))) 65 15 v 65 12 + 1 = nI (p + 2) := fun v => by rw [x2_off (by omega), e12, nI_1]
        rw [e3, e3]
        have fin : ∀ v, v = tol (B p) true → ∃ W', some (x2 (x2 (x2 W 65 14 (sgA (B p))) 65 15 v) 65 12 (nI (p + 2))) = some W' ∧ W' 65 12 = nI (if true = true then p + 2 else p + 1) ∧ W' 65 14 = sgA (B p) ∧ W' 65 15 = tol (B p) true ∧ W' 65 13 = W 65 13 ∧ nf W W' := fun v hv => ⟨_, rfl, by rw [x2_at, if_pos rfl], by rw [x2_off (by omega), x2_off (by omega), x2_at], by rw [x2_off (by omega), x2_at]; exact hv, by rw [x2_off (by omega), x2_off (by omega), x2_off (by omega)], f0.tr ((nf_x2 (by decide) (by decide)).tr (nf_x2 (by decide) (by decide)))⟩
        by_cases c3 : sx (B p) = 60
        · rw [if_neg (fun y => y c3)]
          exact fin _ (by unfold tol; rw [if_pos rfl, if_neg (fun y => y c3)])
        · rw [if_pos c3]
          exact fin _ (by unfold tol; rw [if_pos rfl, if_pos c3])
      · rw [if_pos (fun y => c2 (q3.mp y)), show (B (p + 1) == 61) = false from beq_false_of_ne c2]
        exact ⟨_, rfl, by rw [e12, if_neg (by decide)], x2_at _ _ _ _, by rw [x2_off (by omega)]; exact h15, x2_off (by omega), f0⟩
    · rw [if_pos (nI_le (by omega) (by omega)), decide_eq_false c, Bool.false_and]
      exact ⟨_, rfl, by rw [e12, if_neg (by decide)], x2_at _ _ _ _, by rw [x2_off (by omega)]; exact h15, x2_off (by omega), f0⟩
  unfold b_Md_next_370
  by_cases c1 : B p = 60
  · rw [if_pos (q1.mpr c1)]; exact yes (Or.inl c1)
  · rw [if_neg (fun y => c1 (q1.mp y))]
    by_cases c2 : B p = 62
    · rw [if_neg (fun y => y (q2.mpr c2))]; exact yes (Or.inr c2)
    · rw [if_pos (fun y => c2 (q2.mp y))]; exact no (fun z => z.elim c1 c2)
theorem next_52 {B : Nat → Nat} {n p : Nat} {W : xV} (h : TM W B n) (hp : p < n) (h12 : W 65 12 = nI p) : ∃ W', b_Md_next_52 W = some W' ∧ W' 65 13 = nI p ∧ W' 65 12 = nI (stopP B n p) ∧ mt (kdP B n p) (vlP B n p) (W' 65 14) (W' 65 15) ∧ nf W W' := by
  have hn := h.1
  have hb := (h.2.2 p hp).1
  have f0 : nf W (x2 W 65 13 (nI p)) := nf_x2 (by decide) (by decide)
  have h' := h.nf f0
  have e12 : x2 W 65 13 (nI p) 65 12 = nI p := by rw [x2_off (by omega)]; exact h12
  have e13 : x2 W 65 13 (nI p) 65 13 = nI p := x2_at _ _ _ _
  have e68 := (h'.2.2 p hp).2
  unfold b_Md_next_52
  rw [h12, e12, h'.2.1, if_pos (fun z => by have := nI_small (by omega) (by omega) z; omega), if_pos (xI_ok (by omega) (by decide)), cl (by omega), e68, letM _ hb, digM _ hb, nI_1]
  generalize hW1 : x2 W 65 13 (nI p) = W1 at f0 h' e12 e13 e68 ⊢
  by_cases c1 : isL (B p) = true
  · rw [if_neg (show ¬ o1 (isL (B p)) = 0 by rw [c1]; decide)]
    obtain ⟨W2, v3, k1, k2, k3, k4, k5⟩ := let_m (n - p) p 2000 [] 0 W1 (by omega) (by omega) (Nat.zero_le _) h' e12 (fun _ => rfl)
    have es : stopP B n p = rn isL B (n - p) p := by unfold stopP; rw [if_pos c1]
    rw [← es] at k1 k2 k3
    have hg := stopP_gt (B := B) hp
    have e0 : ([] : List Nat).length + (stopP B n p - p) = stopP B n p - p := Nat.zero_add _
    rw [e0] at k1 k3
    rw [show g_Md_next_99 2000 0 0 W1 = _ from k1]
    have ek : kdP B n p = wx WDS 0 (sl B (stopP B n p - p) p) := by unfold kdP; rw [if_pos c1]
    have hv : vld (sl B (stopP B n p - p) p).reverse := fun c hc => vld_sl (stopP B n p - p) p (fun i i1 i2 => rn_in isL B (n - p) p i i1 (by rw [← es]; omega)) c (List.mem_reverse.mp hc)
    have e14 : ∀ s v, x2 (x2 W2 65 15 s) 65 14 v 65 12 = nI (stopP B n p) ∧ x2 (x2 W2 65 15 s) 65 14 v 65 13 = nI p ∧ x2 (x2 W2 65 15 s) 65 14 v 65 14 = v ∧ x2 (x2 W2 65 15 s) 65 14 v 65 15 = s ∧ nf W (x2 (x2 W2 65 15 s) 65 14 v) := fun s v => ⟨by rw [x2_off (by omega), x2_off (by omega)]; exact k2, by rw [x2_off (by omega), x2_off (by omega), k4]; exact e13, x2_at _ _ _ _, by rw [x2_off (by omega), x2_at], f0.tr (k5.tr ((nf_x2 (by decide) (by decide)).tr (nf_x2 (by decide) (by decide))))⟩
    have bad : kdP B n p = 36 → ∃ W', b_Md_next_189 (-1) W2 = some W' ∧ W' 65 13 = nI p ∧ W' 65 12 = nI (stopP B n p) ∧ mt (kdP B n p) (vlP B n p) (W' 65 14) (W' 65 15) ∧ nf W W' := by
      intro z
      unfold b_Md_next_189
      rw [x2_at, if_neg (by decide)]
      obtain ⟨t1, t2, t3, t4, t5⟩ := e14 (-1) 4
      refine ⟨_, rfl, t2, t1, ?_, t5⟩
      rw [t3, z]
      exact Or.inr (Or.inr (Or.inr (Or.inl ⟨rfl, Or.inl rfl⟩)))
    have hle := wx_le WDS 0 (sl B (stopP B n p - p) p) (by decide)
    unfold b_Md_next_173
    by_cases c8 : stopP B n p - p ≤ 8
    · rw [if_pos (show nI (stopP B n p - p) ≤ 8 from nI_le (b := 8) c8 (by decide)), k3 c8, List.append_nil, mc_of, mcs_ok, mc_wx hv (by rw [sl_len]; exact c8) WDS 0 wds_ok (by decide), ← ek]
      rw [← ek] at hle
      by_cases z : kdP B n p = 36
      · rw [if_pos z]; exact bad z
      · have hk : kdP B n p < 22 := by rcases hle.2 with y | y; exact y; exact absurd y z
        rw [if_neg z]
        unfold b_Md_next_189
        rw [x2_at, if_pos (show (0 : Int32) ≤ nI (kdP B n p) from nI_le (a := 0) (by omega) (by omega))]
        obtain ⟨t1, t2, t3, t4, t5⟩ := e14 (nI (kdP B n p)) 1
        refine ⟨_, rfl, t2, t1, ?_, t5⟩
        rw [t3, t4]
        exact Or.inl ⟨hk, rfl, rfl⟩
    · rw [if_neg (show ¬ nI (stopP B n p - p) ≤ 8 from nI_ge (a := 8) (by omega) (by omega))]
      refine bad ?_
      rw [ek]
      by_cases z : wx WDS 0 (sl B (stopP B n p - p) p) = 36
      · exact z
      · have := (wds_ok _ (wx_in _ _ _ z)).2
        rw [sl_len] at this
        omega
  · have c1' : isL (B p) = false := by cases q : isL (B p); rfl; exact absurd q c1
    rw [if_pos (show o1 (isL (B p)) = 0 by rw [c1']; rfl)]
    by_cases c2 : isD (B p) = true
    · rw [if_neg (show ¬ o1 (isD (B p)) = 0 by rw [c2]; decide)]
      have f1 : nf W1 (x2 (x2 W1 65 14 2) 65 15 0) := (nf_x2 (by decide) (by decide)).tr (nf_x2 (by decide) (by decide))
      obtain ⟨W2, t', k1, k2, k3, k4, k5, k6, k7⟩ := num_m (n - p) p 0 0 2000 _ (by omega) (by omega) (h'.nf f1) (by rw [x2_off (by omega), x2_off (by omega)]; exact e12) (x2_at _ _ _ _) (Or.inl ⟨by omega, rfl⟩)
      have es : stopP B n p = rn isD B (n - p) p := by unfold stopP; rw [if_neg c1, if_pos c2]
      rw [← es] at k2 k4
      refine ⟨W2, k1, by rw [k5, x2_off (by omega), x2_off (by omega)]; exact e13, k2, ?_, f0.tr (f1.tr k7)⟩
      have ek : kdP B n p = 35 := by unfold kdP; rw [if_neg c1, if_pos c2]
      have ev : vlP B n p = nc B (stopP B n p - p) p 0 := by unfold vlP; rw [if_pos c2]
      rw [ek, ev, k6, k3, x2_off (by omega), x2_at]
      refine Or.inr (Or.inr (Or.inl ⟨rfl, rfl, ?_⟩))
      rcases k4 with ⟨z1, z2⟩ | ⟨z1, z2, z3⟩
      · exact Or.inl ⟨z1, by rw [z2]⟩
      · exact Or.inr ⟨by omega, nI_lt (a := 9999) z2 (by omega)⟩
    · have c2' : isD (B p) = false := by cases q : isD (B p); rfl; exact absurd q c2
      rw [if_pos (show o1 (isD (B p)) = 0 by rw [c2']; rfl)]
      have f1 : nf W1 (x2 (x2 W1 65 12 (nI (p + 1))) 65 15 (sx (B p))) := (nf_x2 (by decide) (by decide)).tr (nf_x2 (by decide) (by decide))
      obtain ⟨W2, k1, k2, k3, k4, k5, k6⟩ := b_370 (h'.nf f1) hp c1' c2' (by rw [x2_off (by omega), x2_at]) (x2_at _ _ _ _)
      have es : stopP B n p = if lgr B n p = true then p + 2 else p + 1 := by unfold stopP; rw [if_neg c1, if_neg c2]
      rw [← es] at k2
      refine ⟨W2, ?_, by rw [k5, x2_off (by omega), x2_off (by omega)]; exact e13, k2, ?_, f0.tr (f1.tr k6)⟩
      · rw [← k1]
        exact if4 (fun s => b_Md_next_370 (sx (B p)) s (x2 (x2 W1 65 12 (nI (p + 1))) 65 15 (sx (B p)))) _ _ _ _
      · have ek : kdP B n p = sgn (B p) (lgr B n p) := by unfold kdP; rw [if_neg c1, if_neg c2]
        rw [ek, k3, k4]
        rcases sgA_ok (B p) hb (lgr B n p) with (z | z) | z | ⟨z1, z2⟩
        · rcases z with z | z
          · exact absurd z c1
          · exact absurd z c2
        · exfalso
          have y := z.1
          unfold lgr at y
          simp only [Bool.and_eq_true, Bool.or_eq_true, beq_iff_eq] at y
          exact z.2 y.1
        · exact Or.inr (Or.inl z)
        · exact Or.inr (Or.inr (Or.inr (Or.inl ⟨z1, z2⟩)))
/-- the model stands at the i-th token -/
def AT (B : Nat → Nat) (n : Nat) (W : xV) (i : Nat) : Prop := TM W B n ∧ W 65 12 = nI (afT B n i) ∧ W 65 13 = nI (plT B n i) ∧ mt (kdT B n i) (vlT B n i) (W 65 14) (W 65 15)
theorem next_m {B : Nat → Nat} {n a i : Nat} {W : xV} (h : TM W B n) (ha : a ≤ n) (h12 : W 65 12 = nI a) (hi : plT B n i = skp B n a) : ∃ W', f_Md_next W = some W' ∧ AT B n W' i ∧ nf W W' := by
  have hn := h.1
  obtain ⟨W1, k1, k2, k3⟩ := skip_m (n - a) a 2000 W (by omega) (by omega) h h12
  have hs := skp_le B ha
  have e0 : rn isB B (n - a) a = plT B n i := by rw [hi]; rfl
  rw [e0] at k2
  rw [← hi] at hs
  unfold f_Md_next
  by_cases c : plT B n i < n
  · obtain ⟨W2, t1, t2, t3, t4, t5⟩ := next_52 (h.nf k3) c k2
    refine ⟨W2, by rw [k1]; exact t1, ⟨(h.nf k3).nf t5, ?_, t2, ?_⟩, k3.tr t5⟩
    · unfold afT; rw [if_pos c]; exact t3
    · unfold kdT vlT; rw [if_pos c, if_pos c]; exact t4
  · have e1 : plT B n i = n := by omega
    have f0 : nf W1 (x2 (x2 W1 65 13 (nI n)) 65 14 0) := (nf_x2 (by decide) (by decide)).tr (nf_x2 (by decide) (by decide))
    refine ⟨x2 (x2 W1 65 13 (nI n)) 65 14 0, ?_, ⟨(h.nf k3).nf f0, ?_, ?_, ?_⟩, k3.tr f0⟩
    · rw [k1]
      unfold b_Md_next_52
      rw [k2, e1, if_neg]
      rw [x2_off (by omega), x2_off (by omega), k2, e1, (h.nf k3).2.1]
      exact fun z => z rfl
    · unfold afT; rw [if_neg c, x2_off (by omega), x2_off (by omega), k2, e1]
    · rw [e1, x2_off (by omega), x2_at]
    · unfold kdT; rw [if_neg c, x2_at]
      exact Or.inr (Or.inr (Or.inr (Or.inr ⟨rfl, rfl⟩)))
theorem AT.next {B : Nat → Nat} {n N i : Nat} {W : xV} (hN : tkN B n N) (h : AT B n W i) (hi : i + 1 < N) : ∃ W', f_Md_next W = some W' ∧ AT B n W' (i + 1) ∧ nf W W' := by
  have hp := hN.2.2.2 i hi
  obtain ⟨h1, h2, h3, h4⟩ := h
  have ea : afT B n i = stopP B n (plT B n i) := by unfold afT; rw [if_pos hp]
  exact next_m h1 (a := afT B n i) (by rw [ea]; exact (stopP_gt hp).2) h2 (by show (if plT B n i < n then skp B n (stopP B n (plT B n i)) else n) = _; rw [if_pos hp, ea])

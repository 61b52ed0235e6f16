/-! PURE: plan -/
theorem smA_congr {gn gm : Nat → Int32} {t : Nat} : ∀ (r k : Nat) (g : Int32), (∀ i, i < 2 * (k + r) → gn i = gm i) → smA gn r k g t = smA gm r k g t
  | 0, _, _, _ => rfl
  | r + 1, k, g, h => by
    show smA gn r (k + 1) (g + gn (2 * k + t / 2 ^ r % 2)) t = smA gm r (k + 1) (g + gm (2 * k + t / 2 ^ r % 2)) t
    rw [h (2 * k + t / 2 ^ r % 2) (by omega)]
    exact smA_congr r (k + 1) _ (fun i hi => h i (by omega))
theorem stp_congr {gn gm : Nat → Int32} (sn : Nat → Nat) (r : Nat) (R : Nat → Int32) (l : Nat) (h : ∀ i, i < 2 * r → gn i = gm i) : stp gn sn r 0 R l 0 0 = stp gm sn r 0 R l 0 0 := by
  funext t st
  unfold stp
  rw [smA_congr r 0 0 (fun i hi => h i (by omega))]
theorem plan_c {V : xV} {S : Nat → Nat} {q : Nat} {F : Nat → Mn} {p x N : Nat} (h : ST V S q F 6 6) (hp : p < 4) (hN : N ≤ 10) (hx : x + N ≤ 30) : ∃ W, f_Planner_draw (nI p) (nI x) (nI N) V = some W ∧ (∀ r, r ≠ 51 → r ≠ 53 → r ≠ 54 → r ≠ 55 → r ≠ 57 → r ≠ 58 → r ≠ 59 → W r = V r) ∧ W 51 1 = V 51 1 ∧ ∃ gn : Nat → Int32, (∀ i, i < 2 * N → gn i = iI (gB (Fx F 6) S p (x + i / 2) (i % 2))) ∧ (W 57 8, W 57 0, W 57 1) = rng (stp gn (fun k => se S (x + k)) N 0 (fun _ => -1) (la S p x) 0 0) (2 ^ N) 0 (0, 0, 0) := by
  obtain ⟨rk, hc, hm, -⟩ := id h
  obtain ⟨-, -, rs, rd, -, -⟩ := rk
  have em : xmin (nI N) 10 = nI N := by
    unfold xmin
    rw [if_neg (show ¬ (10 : Int32) < nI N from nI_nlt (a := 10) (by omega) (by decide))]
  have h0 : ST (x2 (x2 V 57 6 (nI x)) 57 7 (nI N)) S q F 6 6 := h.fr (fun r hr => by rw [x2_ne (by omega), x2_ne (by omega)]) (by rw [x2_ne (by omega), x2_ne (by omega)]) (fun r _ _ => by rw [x2_ne (by omega), x2_ne (by omega)]) 6 6 (by rw [x2_ne (by omega), x2_ne (by omega)]; exact h.2.2.2.2.1) (by rw [x2_ne (by omega), x2_ne (by omega)]; exact h.2.2.2.2.2)
  obtain ⟨W1, a1, a2, -, a4⟩ := draw_c (S := S) (q := q) (F := F) (e := 6) (m := 6) hp hN hx N 0 2000 _ (by omega) (by omega) h0 (by rw [x2_at])
  have f7 : ∀ r, r ≠ 51 → r ≠ 53 → r ≠ 54 → r ≠ 55 → r ≠ 57 → r ≠ 58 → W1 r = V r := fun r r1 r2 r3 r4 r5 r6 => by rw [a2.1 r r1 r2 r3 r4 r6, x2_ne r5, x2_ne r5]
  have g6 : W1 57 6 = nI x := by rw [a2.1 57 (by decide) (by decide) (by decide) (by decide) (by decide), x2_off (by omega), x2_at]
  have g7 : W1 57 7 = nI N := by rw [a2.1 57 (by decide) (by decide) (by decide) (by decide) (by decide), x2_at]
  obtain ⟨W2, hW2⟩ : ∃ W2, W2 = x2 (x2 (x2 (xfill W1 59 20 (-1)) 57 8 0) 57 0 0) 57 1 0 := ⟨_, rfl⟩
  have xf : ∀ r, r ≠ 59 → xfill W1 59 20 (-1) r = W1 r := fun r hr => by unfold xfill xrow; rw [if_neg hr]
  have fW : ∀ r, r ≠ 57 → r ≠ 59 → W2 r = W1 r := fun r r1 r2 => by rw [hW2, x2_ne r1, x2_ne r1, x2_ne r1, xf r r2]
  have w6 : W2 57 6 = nI x := by rw [hW2, x2_off (by omega), x2_off (by omega), x2_off (by omega), xf 57 (by decide)]; exact g6
  have w7 : W2 57 7 = nI N := by rw [hW2, x2_off (by omega), x2_off (by omega), x2_off (by omega), xf 57 (by decide)]; exact g7
  have hF : FW W2 W2 (fun _ => -1) (0, 0, 0) := ⟨fun i hi => by rw [hW2, x2_ne (by decide), x2_ne (by decide), x2_ne (by decide)]; unfold xfill xrow; rw [if_pos rfl, if_pos hi], by rw [hW2, x2_off (by omega), x2_off (by omega), x2_at], by rw [hW2, x2_off (by omega), x2_at], by rw [hW2, x2_at], rfl, rfl, fun _ _ _ => rfl⟩
  have f2 : ∀ r, r ≠ 51 → r ≠ 53 → r ≠ 54 → r ≠ 55 → r ≠ 57 → r ≠ 58 → r ≠ 59 → W2 r = V r := fun r r1 r2 r3 r4 r5 r6 r7 => by rw [fW r r5 r7]; exact f7 r r1 r2 r3 r4 r5 r6
  have hD : pD W2 1 S := hc.2.2.2.1.fr (f2 _ (by decide) (by decide) (by decide) (by decide) (by decide) (by decide) (by decide)) (fun _ _ _ => rfl)
  have hSk : pS W2 1 S := hc.2.2.1.fr (f2 _ (by decide) (by decide) (by decide) (by decide) (by decide) (by decide) (by decide)) (fun _ _ _ => rfl)
  obtain ⟨W3, b1, b2⟩ := follow_c (x := x) (N := N) hSk rs hN hx w6 w7 N 0 11 (fun _ => -1) (la S p x) 0 0 (0, 0, 0) W2 (by omega) (by omega) (la_lt rd hp (by omega)) hF
  rw [foS_rng _ _ N 0 _ _ _ _ _ 0, Nat.mul_zero] at b2
  obtain ⟨-, c2, c3, c4, -, -, c7⟩ := b2
  refine ⟨W3, ?_, fun r r1 r2 r3 r4 r5 r6 r7 => by rw [c7 r r5 r7]; exact f2 r r1 r2 r3 r4 r5 r6 r7, by rw [c7 51 (by decide) (by decide), fW 51 (by decide) (by decide), a2.2, x2_ne (by decide), x2_ne (by decide)], W2 58, fun i hi => by rw [fW 58 (by decide) (by decide)]; exact a4 i (by omega) hi, ?_⟩
  · unfold f_Planner_draw
    rw [em]
    refine Eq.trans a1 ?_
    unfold b_Planner_draw_18
    rw [g7, if_pos (nI_le (by omega) (by omega)), ← hW2, last_c hD (by omega) hp, Option.bind_some, show f_Planner_follow 11 0 (nI (la S p x)) 0 0 W2 = _ from b1, Option.bind_some]
  · rw [c2, c3, c4]
theorem op_plan : P_plan (Inv LW) := by
  intro a1 a2 a3 a4 V L hI
  obtain ⟨S, q, F, h, -⟩ := hI.st
  rcases wi a1 4 3 4 (by decide) rfl (by decide) with ⟨h1, h2⟩ | ⟨p, hp, rfl, h1, h2⟩
  · refine ⟨-100000000, V, V, L, ?_, ?_, hI⟩
    · unfold f_Ww_plan; rw [h1, if_pos rfl]
    · unfold f_Md_plan f_Md_isProvince; rw [h2, if_pos rfl]
  rcases wi a2 30 29 30 (by decide) rfl (by decide) with ⟨k1, k2⟩ | ⟨x, hx, rfl, k1, k2⟩
  · refine ⟨-100000000, V, V, L, ?_, ?_, hI⟩
    · unfold f_Ww_plan; rw [h1, if_neg (by decide), k1, if_pos rfl]
    · unfold f_Md_plan f_Md_isProvince f_Md_isDay; rw [h2, if_neg (by decide), k2, if_pos rfl]
  by_cases n1 : a3 < 1
  · refine ⟨-100000000, V, V, L, ?_, ?_, hI⟩
    · unfold f_Ww_plan; rw [h1, if_neg (by decide), k1, if_neg (by decide), if_pos n1]
    · unfold f_Md_plan f_Md_isProvince f_Md_isDay; rw [h2, if_neg (by decide), k2, if_neg (by decide), show f_Md_in a3 1 10 = 0 by unfold f_Md_in; rw [if_pos n1], if_pos rfl]
  by_cases n2 : 10 < a3
  · refine ⟨-100000000, V, V, L, ?_, ?_, hI⟩
    · unfold f_Ww_plan; rw [h1, if_neg (by decide), k1, if_neg (by decide), if_neg n1, if_pos n2]
    · unfold f_Md_plan f_Md_isProvince f_Md_isDay; rw [h2, if_neg (by decide), k2, if_neg (by decide), show f_Md_in a3 1 10 = 0 by unfold f_Md_in; rw [if_neg n1, if_pos n2], if_pos rfl]
  have n3 : f_Md_in a3 1 10 = 1 := by unfold f_Md_in; rw [if_neg n1, if_neg n2]
  obtain ⟨N, hN1, hN, rfl⟩ : ∃ N, 1 ≤ N ∧ N ≤ 10 ∧ a3 = nI N := by
    rcases pk_ix a3 (n := 11) (by decide) with z | z | ⟨j, hj, rfl⟩
    · exact absurd (Int32.lt_trans z (by decide)) n1
    · exact absurd (Int32.lt_of_lt_of_le (by decide) z) n2
    · refine ⟨j, ?_, by omega, rfl⟩
      rcases Nat.eq_zero_or_pos j with z | z
      · subst z; exact absurd (by decide) n1
      · exact z
  by_cases n4' : ¬ x + N ≤ 30
  · have l1 : ¬ nI (x + N) ≤ 30 := nI_ge (a := 30) (by omega) (by omega)
    refine ⟨-100000000, V, V, L, ?_, ?_, hI⟩
    · unfold f_Ww_plan; rw [h1, if_neg (by decide), k1, if_neg (by decide), if_neg n1, if_neg n2, nI_add, if_neg l1]
    · unfold f_Md_plan f_Md_isProvince f_Md_isDay; rw [h2, if_neg (by decide), k2, if_neg (by decide), n3, if_neg (by decide), nI_add, if_pos (show (30 : Int32) < nI (x + N) from nI_lt (a := 30) (by omega) (by omega))]
  have n4 : x + N ≤ 30 := Decidable.of_not_not n4'
  have l1 : nI (x + N) ≤ 30 := nI_le (b := 30) n4 (by decide)
  have l2 : ¬ (30 : Int32) < nI (x + N) := nI_nlt (a := 30) n4 (by decide)
  have core : (a4 = -1 ∨ ∃ i, i < N ∧ a4 = nI i) → ∃ (r : Int32) (V1 V2 : xV) (L2 : xL), b_Ww_plan_57 (nI p) (nI x) (nI N) a4 V = some (r, V1) ∧ g_Md_plan_51 2000 (nI p) (nI x) (nI N) a4 0 V1 L = some (r, V2, L2) ∧ Inv LW V2 L2 := by
    intro hb
    obtain ⟨W1, c1, c2, c3, gn, c4, c5⟩ := plan_c h hp hN n4
    have h' : ST W1 S q F 6 6 := h.fr (fun r hr => c2 r (by omega) (by omega) (by omega) (by omega) (by omega) (by omega) (by omega)) (c2 66 (by omega) (by omega) (by omega) (by omega) (by omega) (by omega) (by omega)) (fun r _ _ => c2 r (by omega) (by omega) (by omega) (by omega) (by omega) (by omega) (by omega)) 6 6 (by rw [c3]; exact h.2.2.2.2.1) (by rw [c2 65 (by omega) (by omega) (by omega) (by omega) (by omega) (by omega) (by omega)]; exact h.2.2.2.2.2)
    obtain ⟨V2, W2, L2, d1, d2, d3, -, d5⟩ := draw_m (S := S) (q := q) (F := F) (e := 6) (m := 6) hp hN n4 a4 (2 * N) 0 2000 W1 W1 L (by omega) (by omega) h' (fun _ _ => rfl)
    have hm2 : pm W2 66 S := h'.2.2.1.fr (by rw [d3 66 (by decide), d2 66 (by decide)])
    obtain ⟨W3, e1, e2⟩ := p96 (L := L2) hm2 h.1.2.2.1 h.1.2.2.2.1 hp hN n4 hb (2 ^ N) 0 2000 (-1) 0 (0, 0, 0) W2 (by omega) (by have := (pow_ten N hN).1; omega) (Or.inl ⟨rfl, rfl, rfl, rfl⟩) (fun _ _ => rfl)
    have eg : stp (W2 85) (fun k => se S (x + k)) N 0 (fun _ => -1) (la S p x) 0 0 = stp gn (fun k => se S (x + k)) N 0 (fun _ => -1) (la S p x) 0 0 := stp_congr _ N _ _ (fun i hi => by rw [c4 i hi, d3 85 (by decide)]; exact d5 i (by omega) hi)
    rw [eg, ← c5] at e1
    have u : ∀ r, r ≠ 51 → r ≠ 53 → r ≠ 54 → r ≠ 55 → r ≠ 57 → r ≠ 58 → r ≠ 59 → r ≠ 82 → r ≠ 84 → r ≠ 85 → W3 r = V r := fun r r1 r2 r3 r4 r5 r6 r7 r8 r9 r10 => by rw [e2 r r9, d3 r r8, d2 r r10]; exact c2 r r1 r2 r3 r4 r5 r6 r7
    refine ⟨ansP a4 (W1 57 8, W1 57 0, W1 57 1), W1, W3, L2, ?_, Eq.trans d1 e1, hI.scratch lwF_LW (fun r hr => u r (by omega) (by omega) (by omega) (by omega) (by omega) (by omega) (by omega) (by omega) (by omega) (by omega)) (fun k _ => by rw [u 46 (by omega) (by omega) (by omega) (by omega) (by omega) (by omega) (by omega) (by omega) (by omega) (by omega)]) (by rw [e2 51 (by omega), d3 51 (by omega), d2 51 (by omega)]; exact c3) (fun k _ => by rw [u 65 (by omega) (by omega) (by omega) (by omega) (by omega) (by omega) (by omega) (by omega) (by omega) (by omega)]) (fun r _ _ => u r (by omega) (by omega) (by omega) (by omega) (by omega) (by omega) (by omega) (by omega) (by omega) (by omega))⟩
    unfold b_Ww_plan_57 ansP
    rw [c1, Option.bind_some]
    by_cases z : a4 = -1
    · rw [if_neg (fun y => y z), if_pos z]
    · rw [if_pos z, if_neg z]
  have eM : f_Md_plan (nI p) (nI x) (nI N) a4 = fun V L => if ¬ (f_Md_in a4 (-1) (nI N - 1)) = 0 then g_Md_plan_51 2000 (nI p) (nI x) (nI N) a4 0 V L else some (-100000000, V, L) := by
    funext V L
    unfold f_Md_plan f_Md_isProvince f_Md_isDay
    rw [h2, if_neg (by decide), k2, if_neg (by decide), n3, if_neg (by decide), nI_add, if_neg l2]
  have eW : f_Ww_plan (nI p) (nI x) (nI N) a4 V = if a4 = -1 then b_Ww_plan_57 (nI p) (nI x) (nI N) a4 V else if ¬ (f_Ww_within a4 (nI N)) = 0 then b_Ww_plan_57 (nI p) (nI x) (nI N) a4 V else some (-100000000, V) := by
    unfold f_Ww_plan
    rw [h1, if_neg (by decide), k1, if_neg (by decide), if_neg n1, if_neg n2, nI_add, if_pos l1]
  rw [eM, eW]
  obtain ⟨M, rfl⟩ : ∃ M, N = M + 1 := ⟨N - 1, by omega⟩
  rw [nI_pred]
  by_cases z : a4 = -1
  · obtain ⟨r, V1, V2, L2, o1, o2, o3⟩ := core (Or.inl z)
    refine ⟨r, V1, V2, L2, by rw [if_pos z]; exact o1, ?_, o3⟩
    simp only []
    rw [if_pos (show ¬ f_Md_in a4 (-1) (nI M) = 0 by unfold f_Md_in; rw [z, if_neg (by decide), if_neg (fun y => nI_pos (n := M) (by omega) (Int32.lt_trans y (by decide)))]; decide)]
    exact o2
  · rw [if_neg z]
    rcases pk_ix a4 (n := M + 1) (by omega) with y | y | ⟨j, hj, rfl⟩
    · refine ⟨-100000000, V, V, L, by unfold f_Ww_within; rw [if_pos y, if_neg (fun w => w rfl)], ?_, hI⟩
      have : a4 < -1 := by
        have z' : ¬ a4.toInt = -1 := fun w => z (Int32.toInt_inj.mp w)
        rw [Int32.lt_iff_toInt_lt] at y ⊢
        have e0 : (0 : Int32).toInt = 0 := rfl
        have e1 : (-1 : Int32).toInt = -1 := rfl
        rw [e0] at y
        rw [e1]
        omega
      simp only []
      unfold f_Md_in
      rw [if_pos this, if_neg (fun w => w rfl)]
    · have y0 : ¬ a4 < 0 := fun w => nI_pos (n := M + 1) (by omega) (Int32.lt_of_le_of_lt y w)
      refine ⟨-100000000, V, V, L, by unfold f_Ww_within; rw [if_neg y0, if_pos y, if_neg (fun w => w rfl)], ?_, hI⟩
      simp only []
      unfold f_Md_in
      rw [if_neg (fun w => y0 (Int32.lt_trans w (by decide))), if_pos (Int32.lt_of_lt_of_le (nI_lt (show M < M + 1 by omega) (by omega)) y), if_neg (fun w => w rfl)]
    · obtain ⟨r, V1, V2, L2, o1, o2, o3⟩ := core (Or.inr ⟨j, hj, rfl⟩)
      refine ⟨r, V1, V2, L2, by rw [within_in hj (by omega), if_pos (by decide)]; exact o1, ?_, o3⟩
      simp only []
      rw [if_pos (show ¬ f_Md_in (nI j) (-1) (nI M) = 0 by unfold f_Md_in; rw [if_neg (fun w => nI_pos (n := j) (by omega) (Int32.lt_trans w (by decide))), if_neg (nI_nlt (by omega) (by omega))]; decide)]
      exact o2

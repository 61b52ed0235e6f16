/-! PURE: the tally; sum and ruined -/
def fT (V W : xV) : Prop := (∀ r, r ≠ 51 → r ≠ 53 → r ≠ 54 → r ≠ 55 → r ≠ 56 → W r = V r) ∧ W 51 1 = V 51 1
theorem fT.tr {V W X : xV} (h1 : fT V W) (h2 : fT W X) : fT V X := ⟨fun r a b c d e => by rw [h2.1 r a b c d e]; exact h1.1 r a b c d e, h2.2.trans h1.2⟩
theorem fT.rf (V : xV) : fT V V := ⟨fun _ _ _ _ _ _ => rfl, rfl⟩
theorem ST.fT {V V' : xV} {S : Nat → Nat} {q e m : Nat} {F : Nat → Mn} (h : ST V S q F e m) (hF : fT V V') : ST V' S q F e m := h.fr (fun r _ => hF.1 r (by omega) (by omega) (by omega) (by omega) (by omega)) (hF.1 66 (by omega) (by omega) (by omega) (by omega) (by omega)) (fun r _ _ => hF.1 r (by omega) (by omega) (by omega) (by omega) (by omega)) e m (by rw [hF.2]; exact h.2.2.2.2.1) (by rw [hF.1 65 (by omega) (by omega) (by omega) (by omega) (by omega)]; exact h.2.2.2.2.2)
theorem Inv.evT {V V1 V2 : xV} {L L2 : xL} (h : Inv LW V L) (h1 : fT V V1) (h2 : sM V1 V2) : Inv LW V2 L2 :=
  h.scratch lwF_LW (fun r hr => by rw [h2 r (by omega)]; exact h1.1 r (by omega) (by omega) (by omega) (by omega) (by omega)) (fun k _ => by rw [h2 46 (by omega), h1.1 46 (by omega) (by omega) (by omega) (by omega) (by omega)]) (by rw [h2 51 (by omega)]; exact h1.2) (fun k _ => by rw [h2 65 (by omega), h1.1 65 (by omega) (by omega) (by omega) (by omega) (by omega)]) (fun r _ _ => by rw [h2 r (by omega)]; exact h1.1 r (by omega) (by omega) (by omega) (by omega) (by omega))
theorem iI_0 (x : Int32) : x + iI 0 = x := Int32.add_zero x
theorem tly_d {S : Nat → Nat} {q e m : Nat} {F : Nat → Mn} {o : Int32} {x y p pp : Nat} (hy : y < 30) (hp : p < 4) (hpp : pp < 2) (k : Int32 → Int32 → Int32 → Int32 → Int32 → Int32 → xV → Option (Int32 × xV)) : ∀ (n d u : Nat) (acc : Int) (W : xV), d + n = y + 1 → n < u → ST W S q F e m → ∃ W', g_Court_tally_41 k u o (nI x) (nI y) (nI pp) (iI acc) (nI p) (nI d) W = k o (nI x) (nI y) (nI pp) (iI (acc + sd (fun d => sd (gs (Fx F e) S pp o p d) (S 0) 0) n d)) (nI (p + 1)) W' ∧ fT W W' ∧ ∀ f, f < S 0 → W' 56 f = W 56 f + iI (sd (fun d => gs (Fx F e) S pp o p d f) n d)
  | 0, d, u + 1, acc, W, h1, h2, h => by
    refine ⟨W, ?_, fT.rf W, fun f _ => (iI_0 _).symm⟩
    show b_Court_tally_41 _ _ _ _ _ _ _ _ _ _ = _
    unfold b_Court_tally_41
    rw [if_pos (nI_lt (by omega) (by omega)), nI_1]
    show _ = k o _ _ _ (iI (acc + 0)) _ _
    rw [Int.add_zero]
  | n + 1, d, u + 1, acc, W, h1, h2, h => by
    have h12 := h.1.1.1
    have hd : d < 30 := by omega
    obtain ⟨W1, a1, a2⟩ := asIs_c h (fC.rf W) hd hp
    obtain ⟨V', W2, b1, b2, b3, b4⟩ := add_g (o := o) hd hp hpp (S 0) 0 2000 0 W W1 (by omega) (by omega) h a2
    have f2 : fT W W2 := ⟨fun r r1 r2 r3 r4 r5 => by rw [b3.1.1 r r1 r2 r3 r4]; exact b2 r r5, by rw [b3.1.2]; rw [b2 51 (by decide)]⟩
    obtain ⟨W3, c1, c2, c3⟩ := tly_d (x := x) (o := o) hy hp hpp k n (d + 1) u (acc + sd (gs (Fx F e) S pp o p d) (S 0) 0) W2 (by omega) (by omega) (h.fT f2)
    refine ⟨W3, ?_, f2.tr c2, fun f hf => ?_⟩
    · show _ = k o _ _ _ (iI (acc + (sd (gs (Fx F e) S pp o p d) (S 0) 0 + sd (fun d => sd (gs (Fx F e) S pp o p d) (S 0) 0) n (d + 1)))) _ _
      rw [← Int.add_assoc, ← c1]
      rw [Int.zero_add] at b1
      show b_Court_tally_41 _ _ _ _ _ _ _ _ _ _ = _
      unfold b_Court_tally_41
      rw [if_neg (nI_nlt (by omega) (by omega)), a1, Option.bind_some]
      unfold f_Court_addGains
      rw [show g_Court_addGains_5 2000 o (nI pp) 0 0 W1 = _ from b1, Option.bind_some, nI_1]
      show g_Court_tally_41 k u o _ _ _ (iI acc + iI _) _ _ _ = _
      rw [iI_add]
    · rw [c3 f hf, b3.1.1 56 (by decide) (by decide) (by decide) (by decide), b4 f, if_pos (by omega), Int32.add_assoc, iI_add]; rfl
theorem sel_iff {o : Int32} {f : Nat} : sel o f = true ↔ o = -1 ∨ o = nI f := by unfold sel; rw [Bool.or_eq_true, decide_eq_true_iff, decide_eq_true_iff]
theorem tly_p {S : Nat → Nat} {q e mm : Nat} {F : Nat → Mn} {o : Int32} {x y pp : Nat} (hxy : x ≤ y) (hy : y < 30) (hpp : pp < 2) (ho : o = -1 ∨ ∃ f, f < S 0 ∧ o = nI f) : ∀ (m p u : Nat) (acc : Int) (W : xV), p + m = 4 → m < u → ST W S q F e mm → ∃ W', g_Court_tally_14 u o (nI x) (nI y) (nI pp) (iI acc) (nI p) W = some (iI (acc + sd (fun p => sd (fun d => sd (gs (Fx F e) S pp o p d) (S 0) 0) (y + 1 - x) x) m p), W') ∧ fT W W' ∧ ∀ f, f < S 0 → W' 56 f = W 56 f + iI (sd (fun p => sd (fun d => gs (Fx F e) S pp o p d f) (y + 1 - x) x) m p)
  | 0, p, u + 1, acc, W, h1, h2, h => by
    refine ⟨W, ?_, fT.rf W, fun f _ => (iI_0 _).symm⟩
    show b_Court_tally_14 _ _ _ _ _ _ _ _ = _
    unfold b_Court_tally_14
    rw [if_pos (show (4 : Int32) ≤ nI p from nI_le (a := 4) (by omega) (by omega))]
    show _ = some (iI (acc + 0), _)
    rw [Int.add_zero]
  | m + 1, p, u + 1, acc, W, h1, h2, h => by
    have h12 := h.1.1.1
    have hp : p < 4 := by omega
    have yes : (g_Court_tally_14 (u + 1) o (nI x) (nI y) (nI pp) (iI acc) (nI p) W = g_Court_tally_41 (g_Court_tally_14 u) 2000 o (nI x) (nI y) (nI pp) (iI acc) (nI p) (nI x) W) → ∃ W', g_Court_tally_14 (u + 1) o (nI x) (nI y) (nI pp) (iI acc) (nI p) W = some (iI (acc + sd (fun p => sd (fun d => sd (gs (Fx F e) S pp o p d) (S 0) 0) (y + 1 - x) x) (m + 1) p), W') ∧ fT W W' ∧ ∀ f, f < S 0 → W' 56 f = W 56 f + iI (sd (fun p => sd (fun d => gs (Fx F e) S pp o p d f) (y + 1 - x) x) (m + 1) p) := by
      intro hg
      obtain ⟨W1, a1, a2, a3⟩ := tly_d (S := S) (q := q) (F := F) (e := e) (x := x) (o := o) hy hp hpp (g_Court_tally_14 u) (y + 1 - x) x 2000 acc W (by omega) (by omega) h
      obtain ⟨W2, b1, b2, b3⟩ := tly_p hxy hy hpp ho m (p + 1) u (acc + sd (fun d => sd (gs (Fx F e) S pp o p d) (S 0) 0) (y + 1 - x) x) W1 (by omega) (by omega) (h.fT a2)
      refine ⟨W2, ?_, a2.tr b2, fun f hf => ?_⟩
      · rw [hg, a1, b1]
        show _ = some (iI (acc + (sd (fun d => sd (gs (Fx F e) S pp o p d) (S 0) 0) (y + 1 - x) x + sd (fun p => sd (fun d => sd (gs (Fx F e) S pp o p d) (S 0) 0) (y + 1 - x) x) m (p + 1))), _)
        rw [← Int.add_assoc]
      · rw [b3 f hf, a3 f hf, Int32.add_assoc, iI_add]; rfl
    rcases ho with o1 | ⟨f0, hf0, o1⟩
    · apply yes
      show b_Court_tally_14 _ _ _ _ _ _ _ _ = _
      unfold b_Court_tally_14
      rw [if_neg (show ¬ (4 : Int32) ≤ nI p from nI_ge (b := 4) hp (by decide)), if_pos o1]
    · have hp0 := (h.1.2.1 f0 (by omega)).1
      have n1 : ¬ o = -1 := by rw [o1]; exact nI_m1 (by omega)
      by_cases c : S (170 + 3 * f0) = p
      · apply yes
        show b_Court_tally_14 _ _ _ _ _ _ _ _ = _
        unfold b_Court_tally_14
        rw [if_neg (show ¬ (4 : Int32) ≤ nI p from nI_ge (b := 4) hp (by decide)), if_neg n1, o1, home_c h.2.1.2.1 rfl (by omega), Option.bind_some, if_neg (fun z => z (by rw [c]))]
      · have gz0 : ∀ d f, f < S 0 → gs (Fx F e) S pp o p d f = 0 := by
          intro d f hf
          unfold gs
          rw [if_neg]
          rintro ⟨z1, z2⟩
          rcases sel_iff.mp z2 with z | z
          · exact n1 z
          · have := nI_small (by omega) (by omega) (o1.symm.trans z)
            subst this
            exact c z1
        obtain ⟨W2, b1, b2, b3⟩ := tly_p (q := q) (F := F) (e := e) hxy hy hpp (Or.inr ⟨f0, hf0, o1⟩) m (p + 1) u acc W (by omega) (by omega) h
        have s0 : sd (fun d => sd (gs (Fx F e) S pp o p d) (S 0) 0) (y + 1 - x) x = 0 := by
          rw [sd_congr (b := fun _ => 0) _ _ (fun d _ _ => by rw [sd_congr (b := fun _ => 0) _ _ (fun f _ h2 => gz0 d f (by omega)), sd_z]), sd_z]
        refine ⟨W2, ?_, b2, fun f hf => ?_⟩
        · show _ = some (iI (acc + (sd (fun d => sd (gs (Fx F e) S pp o p d) (S 0) 0) (y + 1 - x) x + sd (fun p => sd (fun d => sd (gs (Fx F e) S pp o p d) (S 0) 0) (y + 1 - x) x) m (p + 1))), _)
          rw [s0, Int.zero_add, ← b1]
          show b_Court_tally_14 _ _ _ _ _ _ _ _ = _
          unfold b_Court_tally_14
          rw [if_neg (show ¬ (4 : Int32) ≤ nI p from nI_ge (b := 4) hp (by decide)), if_neg n1, o1, home_c h.2.1.2.1 rfl (by omega), Option.bind_some, if_pos (fun z => c (nI_small (by omega) (by omega) z)), nI_1]
        · rw [b3 f hf]
          show _ = W 56 f + iI (sd (fun d => gs (Fx F e) S pp o p d f) (y + 1 - x) x + sd (fun p => sd (fun d => gs (Fx F e) S pp o p d f) (y + 1 - x) x) m (p + 1))
          rw [sd_congr (b := fun _ => 0) (y + 1 - x) x (fun d _ _ => gz0 d f hf), sd_z, Int.zero_add]
theorem gs_p {G : Nat → Mn} {S : Nat → Nat} {pp : Nat} {o : Int32} {f n x : Nat} (hf : S (170 + 3 * f) < 4) : sd (fun p => sd (fun d => gs G S pp o p d f) n x) 4 0 = if sel o f = true then sd (gz G S pp f) n x else 0 := by
  have e : ∀ p, sd (fun d => gs G S pp o p d f) n x = if p = S (170 + 3 * f) then (if sel o f = true then sd (gz G S pp f) n x else 0) else 0 := by
    intro p
    by_cases c : p = S (170 + 3 * f)
    · rw [if_pos c]
      by_cases c2 : sel o f = true
      · rw [if_pos c2]
        exact sd_congr _ _ (fun d _ _ => by unfold gs; rw [if_pos ⟨c.symm, c2⟩])
      · rw [if_neg c2, sd_congr (b := fun _ => 0) _ _ (fun d _ _ => by unfold gs; rw [if_neg (fun z => c2 z.2)]), sd_z]
    · rw [if_neg c, sd_congr (b := fun _ => 0) _ _ (fun d _ _ => by unfold gs; rw [if_neg (fun z => c z.1.symm)]), sd_z]
  rw [sd_congr _ _ (fun p _ _ => e p)]
  exact sd_one (fun _ => if sel o f = true then sd (gz G S pp f) n x else 0) _ 4 0 (by omega) (by omega)
theorem tally_f {V : xV} {S : Nat → Nat} {q e m : Nat} {F : Nat → Mn} (h : ST V S q F e m) {o : Int32} {x y pp : Nat} (hxy : x ≤ y) (hy : y < 30) (hpp : pp < 2) (ho : o = -1 ∨ ∃ f, f < S 0 ∧ o = nI f) : ∃ W, f_Court_tally o (nI x) (nI y) (nI pp) V = some (iI (sd (fun f => if sel o f = true then sd (gz (Fx F e) S pp f) (y + 1 - x) x else 0) (S 0) 0), W) ∧ fT V W ∧ ∀ f, f < S 0 → sel o f = true → W 56 f = iI (sd (gz (Fx F e) S pp f) (y + 1 - x) x) := by
  have h12 := h.1.1.1
  have f0 : fT V (xfill V 56 12 0) := ⟨fun r _ _ _ _ r5 => by unfold xfill xrow; exact if_neg r5, by unfold xfill xrow; rw [if_neg (by decide)]⟩
  obtain ⟨W, a1, a2, a3⟩ := tly_p (q := q) (F := F) (e := e) hxy hy hpp ho 4 0 2000 0 (xfill V 56 12 0) rfl (by decide) (h.fT f0)
  refine ⟨W, ?_, f0.tr a2, fun f hf hs => ?_⟩
  · unfold f_Court_tally
    rw [Int.zero_add] at a1
    refine Eq.trans a1 ?_
    congr 3
    rw [sd_congr (b := fun p => sd (fun f => sd (fun d => gs (Fx F e) S pp o p d f) (y + 1 - x) x) (S 0) 0) 4 0 (fun p _ _ => sd_comm (fun d f => gs (Fx F e) S pp o p d f) (S 0) 0 (y + 1 - x) x)]
    rw [sd_comm (fun p f => sd (fun d => gs (Fx F e) S pp o p d f) (y + 1 - x) x) (S 0) 0 4 0]
    exact sd_congr _ _ (fun f _ h2 => gs_p (h.1.2.1 f (by omega)).1)
  · rw [a3 f hf, gs_p (h.1.2.1 f (by omega)).1, if_pos hs]
    unfold xfill xrow
    rw [if_pos rfl, if_pos (by omega)]
    exact Int32.zero_add _
theorem op_sum : P_sum (Inv LW) := by
  intro a b c d V L hI hd
  obtain ⟨S, q, F, h, -⟩ := hI.st
  have h12 := h.1.1.1
  obtain ⟨pp, hpp, rfl⟩ : ∃ pp, pp < 2 ∧ d = nI pp := by rcases hd with rfl | rfl; exact ⟨0, by decide, rfl⟩; exact ⟨1, by decide, rfl⟩
  have main : (a = -1 ∨ ∃ f, f < S 0 ∧ a = nI f) → ∃ (r : Int32) (V1 V2 : xV) (L2 : xL), b_Ww_sum_19 a b c (nI pp) V = some (r, V1) ∧ b_Md_sum_13 a b c (nI pp) V1 L = some (r, V2, L2) ∧ Inv LW V2 L2 ∧ V1 66 = V 66 := by
    intro ho
    unfold b_Ww_sum_19 b_Md_sum_13
    rcases days b c with ⟨h1, h2⟩ | ⟨x, y, hxy, hy, rfl, rfl, h1, h2, h3⟩
    · refine ⟨-100000000, V, V, L, by rw [h1]; rfl, ?_, hI, rfl⟩
      rcases h2 with h2 | ⟨h2, h3⟩
      · rw [h2]; rfl
      · rw [h2, h3]; rfl
    · obtain ⟨W, t1, t2, t3⟩ := tally_f h hxy hy hpp ho
      have h' := h.fT t2
      rcases ho with o1 | ⟨f, hf, o1⟩
      · obtain ⟨W2, L2, m1, m2⟩ := sumAll_f (L := L) h' (W := W) (fun _ _ => rfl) hxy hy hpp
        refine ⟨iI (sd (fun f => sd (gz (Fx F 6) S pp f) (y + 1 - x) x) (S 0) 0), W, W2, L2, ?_, ?_, hI.evT t2 m2, t2.1 66 (by decide) (by decide) (by decide) (by decide) (by decide)⟩
        · rw [h1, if_pos (by decide), t1, Option.bind_some, sd_congr (b := fun f => sd (gz (Fx F 6) S pp f) (y + 1 - x) x) (S 0) 0 (fun f _ _ => if_pos (sel_iff.mpr (Or.inl o1)))]
        · rw [h2, h3, if_neg (by decide), if_pos (by decide), if_neg (fun z => z o1), m1, Option.bind_some]
      · obtain ⟨W2, L2, m1, m2⟩ := sumOf_f (L := L) h' (W := W) (fun _ _ => rfl) (show f < 12 by omega) hxy hy hpp
        have n1 : ¬ a = -1 := by rw [o1]; exact nI_m1 (by omega)
        refine ⟨iI (sd (gz (Fx F 6) S pp f) (y + 1 - x) x), W, W2, L2, ?_, ?_, hI.evT t2 m2, t2.1 66 (by decide) (by decide) (by decide) (by decide) (by decide)⟩
        · have e : sd (fun f => if sel a f = true then sd (gz (Fx F 6) S pp f) (y + 1 - x) x else 0) (S 0) 0 = sd (gz (Fx F 6) S pp f) (y + 1 - x) x := by
            rw [sd_congr (b := fun g => if g = f then sd (gz (Fx F 6) S pp g) (y + 1 - x) x else 0) (S 0) 0 (fun g _ hg => ?_)]
            · exact sd_one _ f (S 0) 0 (by omega) (by omega)
            · by_cases z : g = f
              · rw [if_pos (sel_iff.mpr (Or.inr (by rw [z]; exact o1))), if_pos z]
              · rw [if_neg z, if_neg]
                intro y1
                rcases sel_iff.mp y1 with y2 | y2
                · exact n1 y2
                · exact z (nI_small (by omega) (by omega) (y2.symm.trans o1))
          rw [h1, if_pos (by decide), t1, Option.bind_some, e]
        · rw [h2, h3, if_neg (by decide), if_pos (by decide), if_pos n1, o1, m1, Option.bind_some]
  unfold f_Ww_sum
  by_cases o1 : a = -1
  · obtain ⟨r, V1, V2, L2, m1, m2, m3, -⟩ := main (Or.inl o1)
    refine ⟨r, V1, V2, L2, by rw [if_pos o1]; exact m1, ?_, m3⟩
    unfold f_Md_sum
    rw [if_pos o1]; exact m2
  · rcases folk_w h a with ⟨h1, h2⟩ | ⟨f, hf, rfl, h1, h2⟩
    · refine ⟨-100000000, V, V, L, by rw [if_neg o1, h1]; rfl, ?_, hI⟩
      unfold f_Md_sum
      rw [if_neg o1, h2 V rfl]; rfl
    · obtain ⟨r, V1, V2, L2, m1, m2, m3, m4⟩ := main (Or.inr ⟨f, hf, rfl⟩)
      refine ⟨r, V1, V2, L2, by rw [if_neg o1, h1, if_neg (by decide)]; exact m1, ?_, m3⟩
      unfold f_Md_sum
      rw [if_neg o1, h2 V1 m4, if_neg (by decide)]; exact m2

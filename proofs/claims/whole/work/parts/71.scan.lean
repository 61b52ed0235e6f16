/-! PURE: text, the class's scan -/
theorem skp_n (B : Nat → Nat) (n : Nat) : skp B n n = n := by unfold skp; rw [Nat.sub_self]; rfl
theorem skp_s {B : Nat → Nat} {n a : Nat} (h : a < n) : skp B n a = if isB (B a) = true then skp B n (a + 1) else a := by
  unfold skp
  rw [show n - a = (n - (a + 1)) + 1 by omega]; rfl
theorem skp_le (B : Nat → Nat) {n a : Nat} (h : a ≤ n) : a ≤ skp B n a ∧ skp B n a ≤ n := by
  have := rn_le isB B (n - a) a
  unfold skp
  omega
def pu (V : xV) (c : Nat) (k p v : Int32) : xV := x2 (x2 (x2 (x2 V 48 c k) 49 c p) 50 c v) 47 3 (nI (c + 1))
theorem put_t {V : xV} {c : Nat} {k p v : Int32} (h : V 47 3 = nI c) (hc : c < 301) : f_Tokens_put k p v V = some (pu V c k p v) := by
  unfold f_Tokens_put pu
  have e1 : x2 V 48 c k 47 3 = nI c := by rw [x2_ne (by decide)]; exact h
  have e2 : x2 (x2 V 48 c k) 49 c p 47 3 = nI c := by rw [x2_ne (by decide)]; exact e1
  have e3 : x2 (x2 (x2 V 48 c k) 49 c p) 50 c v 47 3 = nI c := by rw [x2_ne (by decide)]; exact e2
  rw [h, show f_Ww_within (nI c) 301 = 1 from within_in (n := 301) hc (by decide), if_neg (by decide), if_pos (xI_ok hc (by decide)), cl (by omega), e1, if_pos (xI_ok hc (by decide)), cl (by omega), e2, if_pos (xI_ok hc (by decide)), cl (by omega), e3, nI_1]
def tkC (V : xV) (B : Nat → Nat) (n c : Nat) : Prop := ∀ i, i < c → V 48 i = nI (kdT B n i) ∧ V 49 i = nI (plT B n i) ∧ V 50 i = nI (vlT B n i)
theorem tkC.put {V : xV} {B : Nat → Nat} {n c : Nat} (h : tkC V B n c) {k p v : Int32} (h1 : k = nI (kdT B n c)) (h2 : p = nI (plT B n c)) (h3 : v = nI (vlT B n c)) : tkC (pu V c k p v) B n (c + 1) := by
  intro i hi
  unfold pu
  by_cases e : i = c
  · subst e
    refine ⟨?_, ?_, ?_⟩
    · rw [x2_ne (by decide), x2_ne (by decide), x2_ne (by decide), x2_at]; exact h1
    · rw [x2_ne (by decide), x2_ne (by decide), x2_at]; exact h2
    · rw [x2_ne (by decide), x2_at]; exact h3
  · obtain ⟨a1, a2, a3⟩ := h i (by omega)
    refine ⟨?_, ?_, ?_⟩
    · rw [x2_ne (by decide), x2_ne (by decide), x2_ne (by decide), x2_off (by omega)]; exact a1
    · rw [x2_ne (by decide), x2_ne (by decide), x2_off (by omega), x2_ne (by decide)]; exact a2
    · rw [x2_ne (by decide), x2_off (by omega), x2_ne (by decide), x2_ne (by decide)]; exact a3
theorem pu_fr {V : xV} {c : Nat} {k p v : Int32} {r : Nat} (h1 : r ≠ 47) (h2 : r ≠ 48) (h3 : r ≠ 49) (h4 : r ≠ 50) : pu V c k p v r = V r := by
  unfold pu
  rw [x2_ne h1, x2_ne h4, x2_ne h3, x2_ne h2]
theorem TP.fr {V V' : xV} {B : Nat → Nat} {n : Nat} (h : TP V B n) (h1 : V' 17 = V 17) (h2 : V' 18 = V 18) : TP V' B n := by unfold TP; rw [h1, h2]; exact h
def tkN (B : Nat → Nat) (n N : Nat) : Prop := 0 < N ∧ N ≤ 301 ∧ plT B n (N - 1) = n ∧ ∀ i, i + 1 < N → plT B n i < n
theorem scan_c {B : Nat → Nat} {n : Nat} : ∀ (r a x c u : Nat) (V : xV), a + r = n → r < u → TP V B n → V 47 3 = nI c → c ≤ a → x ≤ n → plT B n c = skp B n (max a x) → tkC V B n c → (∀ i, i < c → plT B n i < n) → ∃ N V', g_Tokens_scan_9 u (nI x) (nI a) V = some V' ∧ tkN B n N ∧ V' 47 3 = nI N ∧ tkC V' B n N ∧ ∀ r, r ≠ 47 → r ≠ 48 → r ≠ 49 → r ≠ 50 → V' r = V r
  | 0, a, x, c, u + 1, V, h1, h2, h, h3, h4, h5, h6, h7, h8 => by
    have hn := h.1
    have ha : a = n := by omega
    subst ha
    rw [Nat.max_eq_left h5, skp_n] at h6
    have hp := put_t (k := 37) (p := nI a) (v := 0) h3 (by omega)
    refine ⟨c + 1, _, ?_, ⟨by omega, by omega, h6, fun i hi => h8 i (by omega)⟩, ?_, h7.put (k := 37) (p := nI a) (v := 0) ?_ ?_ ?_, fun r r1 r2 r3 r4 => pu_fr r1 r2 r3 r4⟩
    · show b_Tokens_scan_9 _ _ _ _ = _
      unfold b_Tokens_scan_9
      rw [h.2.1, if_pos (nI_le (Nat.le_refl _) (by omega)), hp, Option.bind_some]
    · unfold pu; rw [x2_at]
    · unfold kdT; rw [h6, if_neg (Nat.lt_irrefl _)]; rfl
    · rw [h6]
    · unfold vlT; rw [h6, if_neg (Nat.lt_irrefl _)]; rfl
  | r + 1, a, x, c, u + 1, V, h1, h2, h, h3, h4, h5, h6, h7, h8 => by
    have hn := h.1
    have hb := (h.2.2 a (by omega)).1
    obtain ⟨⟨q1, q2⟩, -⟩ := b32 (B a) hb
    have head : ∀ v2, b_Tokens_scan_9 (g_Tokens_scan_9 u) v2 (nI a) V = if nI a < v2 then g_Tokens_scan_9 u v2 (nI (a + 1)) V else if nI (B a) = 32 then g_Tokens_scan_9 u v2 (nI (a + 1)) V else if nI (B a) = 10 then g_Tokens_scan_9 u v2 (nI (a + 1)) V else Option.bind (f_Tokens_stopOf (nI a) V) fun p9 => if f_Tokens_isDigit (nI (B a)) = 0 then b_Tokens_scan_67 (g_Tokens_scan_9 u) p9 (nI a) 0 V else Option.bind (f_Tokens_numberOf (nI a) p9 V) fun p13 => b_Tokens_scan_67 (g_Tokens_scan_9 u) p9 (nI a) p13 V := by
      intro v2
      unfold b_Tokens_scan_9
      rw [h.2.1, if_neg (nI_ge (by omega) (by omega)), at_in h (by omega), Option.bind_some, nI_1]
    show ∃ N V', b_Tokens_scan_9 _ _ _ _ = _ ∧ _
    rw [head]
    by_cases c1 : a < x
    · rw [if_pos (nI_lt c1 (by omega))]
      exact scan_c r (a + 1) x c u V (by omega) (by omega) h h3 (by omega) h5 (by rw [h6]; congr 1; omega) h7 h8
    · rw [if_neg (nI_nlt (by omega) (by omega))]
      rw [Nat.max_eq_left (by omega), skp_s (show a < n by omega)] at h6
      by_cases c2 : isB (B a) = true
      · rw [if_pos c2] at h6
        have ih := scan_c r (a + 1) x c u V (by omega) (by omega) h h3 (by omega) h5 (by rw [h6, Nat.max_eq_left (by omega)]) h7 h8
        rcases isB_r.mp c2 with z | z
        · rw [if_pos (q1.mpr z)]; exact ih
        · rw [if_neg (fun y => by have := q1.mp y; omega), if_pos (q2.mpr z)]; exact ih
      · rw [if_neg c2] at h6
        have z : ¬ B a = 32 ∧ ¬ B a = 10 := ⟨fun y => c2 (isB_r.mpr (Or.inl y)), fun y => c2 (isB_r.mpr (Or.inr y))⟩
        rw [if_neg (fun y => z.1 (q1.mp y)), if_neg (fun y => z.2 (q2.mp y)), stop_c h (by omega), Option.bind_some]
        obtain ⟨s1, s2⟩ := stopP_gt (B := B) (show a < n by omega)
        have ev : vlT B n c = vlP B n a := by unfold vlT; rw [h6, if_pos (by omega)]
        have ek : kdT B n c = kdP B n a := by unfold kdT; rw [h6, if_pos (by omega)]
        have go : ∃ N V', b_Tokens_scan_67 (g_Tokens_scan_9 u) (nI (stopP B n a)) (nI a) (nI (vlP B n a)) V = some V' ∧ tkN B n N ∧ V' 47 3 = nI N ∧ tkC V' B n N ∧ ∀ r, r ≠ 47 → r ≠ 48 → r ≠ 49 → r ≠ 50 → V' r = V r := by
          unfold b_Tokens_scan_67
          rw [kind_c h (by omega), Option.bind_some, put_t h3 (by omega), Option.bind_some, nI_1]
          obtain ⟨N, V', k1, k2, k3, k4, k5⟩ := scan_c r (a + 1) (stopP B n a) (c + 1) u (pu V c (nI (kdP B n a)) (nI a) (nI (vlP B n a))) (by omega) (by omega) (h.fr (pu_fr (by decide) (by decide) (by decide) (by decide)) (pu_fr (by decide) (by decide) (by decide) (by decide))) (by unfold pu; rw [x2_at]) (by omega) s2 (by show (if plT B n c < n then skp B n (stopP B n (plT B n c)) else n) = _; rw [h6, if_pos (by omega), Nat.max_eq_right (by omega)]) (h7.put (by rw [ek]) (by rw [h6]) (by rw [ev])) (fun i hi => by
            by_cases y : i = c
            · rw [y, h6]; omega
            · exact h8 i (by omega))
          exact ⟨N, V', k1, k2, k3, k4, fun r r1 r2 r3 r4 => by rw [k5 r r1 r2 r3 r4, pu_fr r1 r2 r3 r4]⟩
        rw [digC _ hb]
        by_cases c3 : isD (B a) = true
        · rw [if_neg (show ¬ o1 (isD (B a)) = 0 by rw [c3]; decide)]
          have hL : ¬ isL (B a) = true := fun y => by
            have := isD_r c3
            have := isL_r y
            omega
          have es : stopP B n a = rn isD B (n - a) a := by unfold stopP; rw [if_neg hL, if_pos c3]
          have hnum := num_c h s2 (stopP B n a - a) a 0 2000 (by omega) (by omega) (by omega) (fun i i1 i2 => rn_in isD B (n - a) a i i1 (by rw [← es]; exact i2))
          unfold f_Tokens_numberOf
          rw [show g_Tokens_numberOf_5 V 2000 (nI (stopP B n a)) 0 (nI a) = _ from hnum, Option.bind_some]
          have e0 : nc B (stopP B n a - a) a 0 = vlP B n a := by unfold vlP; rw [if_pos c3]
          rw [e0]; exact go
        · have c3' : isD (B a) = false := by cases q : isD (B a); rfl; exact absurd q c3
          rw [if_pos (show o1 (isD (B a)) = 0 by rw [c3']; rfl)]
          have e0 : vlP B n a = 0 := by unfold vlP; rw [if_neg c3]
          rw [e0] at go
          exact go
theorem scan_t {B : Nat → Nat} {n : Nat} {V : xV} (h : TP V B n) : ∃ N V', f_Tokens_scan V = some V' ∧ tkN B n N ∧ V' 47 3 = nI N ∧ tkC V' B n N ∧ ∀ r, r ≠ 47 → r ≠ 48 → r ≠ 49 → r ≠ 50 → V' r = V r := by
  obtain ⟨N, V', k1, k2, k3, k4, k5⟩ := scan_c (B := B) (n := n) n 0 0 0 2000 (x2 V 47 3 0) (by omega) (by have := h.1; omega) (h.fr (x2_ne (by decide)) (x2_ne (by decide))) (by rw [x2_at]; rfl) (by omega) (by omega) rfl (fun i hi => absurd hi (Nat.not_lt_zero _)) (fun i hi => absurd hi (Nat.not_lt_zero _))
  exact ⟨N, V', k1, k2, k3, k4, fun r r1 r2 r3 r4 => by rw [k5 r r1 r2 r3 r4, x2_ne r1]⟩
theorem kdT_lt {B : Nat → Nat} {n N : Nat} (hB : ∀ i, i < n → B i < 256) (h : tkN B n N) : (∀ i, i + 1 < N → kdT B n i < 37) ∧ kdT B n (N - 1) = 37 := by
  refine ⟨fun i hi => ?_, ?_⟩
  · have := h.2.2.2 i hi
    unfold kdT; rw [if_pos this]; exact kdP_lt (hB _ this)
  · unfold kdT; rw [h.2.2.1, if_neg (Nat.lt_irrefl _)]

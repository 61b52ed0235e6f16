/-! PURE: text, a CLAUSE on both sides -/
section CD
variable (B : Nat → Nat) (n N q : Nat)
def clA (V W : xV) (w : Nat) : Prop := V (q + 2) w = 0 ∧ V (q + 3) w = 0 ∧ W 78 w = -1 ∧ W 79 w = -1
def clP (V W : xV) (len m nc w : Nat) : Prop := ∃ (s : Nat) (C : List Int32) (M : List (Int32 × Int32)) (v : (Nat → Int) → Int) (d k x : Nat), Good w (tyw w) C M v d ∧ d ≤ 40 ∧ V (q + 2) w = nI s ∧ V (q + 3) w = nI (s + C.length) ∧ s + C.length ≤ len ∧ cA V (q + 1) s C ∧ W 78 w = nI k ∧ k + M.length + 1 ≤ m ∧ oN W k (M ++ [(408, 0)]) ∧ W 79 w = nI x ∧ x < nc ∧ V (q + 4) x = nI w
def RC (V : xV) (i len nc : Nat) : Prop := V 46 5 = nI i ∧ V 46 4 = nI q ∧ V q 5 = nI len ∧ V 47 3 = nI N ∧ tkC V B n N ∧ V q 4 = nI nc
def RM (W : xV) (i m nc : Nat) : Prop := AT B n W i ∧ W 65 16 = 0 ∧ W 65 25 = nI 4 ∧ W 65 19 = nI 0 ∧ W 65 18 = nI 0 ∧ W 65 22 = nI 0 ∧ W 65 30 = nI m ∧ W 65 26 = nI nc
def RR (V W : xV) (i len m nc : Nat) (p : Nat → Nat) : Prop := RC B n N q V i len nc ∧ RM B n W i m nc ∧ (len ≤ i ∧ m ≤ i) ∧ (∀ w, w < 6 → (p w = 0 ∧ clA q V W w) ∨ (p w = 1 ∧ clP q V W len m nc w)) ∧ nc = p 0 + p 1 + p 2 + p 3 + p 4 + p 5 ∧ ∀ x, x < nc → ∃ w, w < 6 ∧ V (q + 4) x = nI w ∧ W 79 w = nI x
def CG (V V' : xV) : Prop := (∀ r, r ≠ 46 → ¬ (q ≤ r ∧ r ≤ q + 4) → V' r = V r) ∧ ∀ k, k < 3 → V' 46 k = V 46 k
def CGx (V V' : xV) : Prop := (∀ r, r ≠ 46 → ¬ (q ≤ r ∧ r ≤ q + 4) → V' r = V r) ∧ V' 46 0 = V 46 0
def MG (W W' : xV) : Prop := MX W W' ∧ W' 65 17 = W 65 17
end CD
section CL
variable {B : Nat → Nat} {n N q : Nat}
theorem CG.tr {V V1 V2 : xV} (h1 : CG q V V1) (h2 : CG q V1 V2) : CG q V V2 := ⟨fun r r1 r2 => (h2.1 r r1 r2).trans (h1.1 r r1 r2), fun k hk => (h2.2 k hk).trans (h1.2 k hk)⟩
theorem CG.x {V V1 V2 : xV} (h1 : CG q V V1) (h2 : CGx q V1 V2) : CGx q V V2 := ⟨fun r r1 r2 => (h2.1 r r1 r2).trans (h1.1 r r1 r2), h2.2.trans (h1.2 0 (by omega))⟩
theorem MG.tr {W W1 W2 : xV} (h1 : MG W W1) (h2 : MG W1 W2) : MG W W2 := ⟨h1.1.tr h2.1, h2.2.trans h1.2⟩
theorem CFr.g {V V' : xV} {a : Nat} (h : CFr q V V' a) : CG q V V' := ⟨fun r r1 r2 => h.1 r r1 (by omega) (by omega), fun k hk => h.2.1 k (by omega)⟩
theorem CFx.g {V V' : xV} (h : CFx q V V') : CGx q V V' := ⟨fun r r1 r2 => h.1 r r1 (by omega) (by omega), h.2 0 (by decide) (by decide) (by decide)⟩
theorem MF.g {W W' : xV} {fr w m : Nat} (h : MF W W' fr w m) : MG W W' := ⟨h.x, h.2.1.1 17 (by omega) (by omega) (by omega) (by omega)⟩
theorem psum {p : Nat → Nat} {k : Nat} (hk : k < 6) (h0 : p k = 0) : su p k 1 0 + su p k 1 1 + su p k 1 2 + su p k 1 3 + su p k 1 4 + su p k 1 5 = p 0 + p 1 + p 2 + p 3 + p 4 + p 5 + 1 := by
  have : k = 0 ∨ k = 1 ∨ k = 2 ∨ k = 3 ∨ k = 4 ∨ k = 5 := by omega
  rcases this with rfl | rfl | rfl | rfl | rfl | rfl <;> simp [su] <;> omega
theorem has_c {V W : xV} {i len m nc k : Nat} {p : Nat → Nat} (h : RR B n N q V W i len m nc p) (hN : N ≤ 301) (hi : i < N) (hk : k < 6) {V' : xV} (h2 : V' (q + 2) = V (q + 2)) (h3 : V' (q + 3) = V (q + 3)) : f_Law_has q (nI k) V' = some (nI (p k)) := by
  rcases h.2.2.2.1 k hk with ⟨e, a1, a2, -⟩ | ⟨e, s, C, M, v, d, kk, x, hG, -, a1, a2, a3, -⟩
  · rw [law_hs (s := 0) (e := 0) hk (by decide) (by decide) (by rw [h2]; exact a1) (by rw [h3]; exact a2), e]; rfl
  · have := hG.2.2.2.1
    have := h.2.2.1.1
    rw [law_hs (s := s) (e := s + C.length) hk (by omega) (by omega) (by rw [h2]; exact a1) (by rw [h3]; exact a2), if_neg (by omega), e]; rfl
theorem RC.set {V V' : xV} {i len nc j : Nat} (hq : qk q) (h : RC B n N q V i len nc) (h5 : V' 46 5 = nI j) (h4 : V' 46 4 = V 46 4) (hr : ∀ r, r ≠ 46 → V' r = V r) : RC B n N q V' j len nc := by
  have := hq.r
  obtain ⟨a1, a2, a3, a4, a5, a6⟩ := h
  exact ⟨h5, by rw [h4]; exact a2, by rw [hr q (by omega)]; exact a3, by rw [hr 47 (by omega)]; exact a4, a5.fr (hr 48 (by omega)) (hr 49 (by omega)) (hr 50 (by omega)), by rw [hr q (by omega)]; exact a6⟩
/-- what the class does with a CLAUSE's first word -/
theorem clause_c (hq : qk q) (hN : N ≤ 301) (hB : ∀ i, i < n → B i < 256) {V W : xV} {i len m nc : Nat} {p : Nat → Nat} (h : RR B n N q V W i len m nc p) (hi : i < N) : f_Reader_readClause V = if kdT B n i < 6 then (if p (kdT B n i) = 0 then b_Reader_readClause_93 (nI len) (o1 (tyw (kdT B n i))) (x2 (x2 V 46 6 (nI (kdT B n i))) 46 5 (nI (i + 1))) else Option.bind (f_Reader_wrong 4 (x2 V 46 6 (nI (kdT B n i)))) fun p13 => if p13.1 = 0 ∨ p13.1 = 1 then some (p13.1, p13.2) else none) else Option.bind (f_Reader_wrong 1 (x2 V 46 6 (nI (kdT B n i)))) fun p16 => if p16.1 = 0 ∨ p16.1 = 1 then some (p16.1, p16.2) else none := by
  have hr := hq.r
  have hkl := kdT_le (n := n) hB i
  obtain ⟨c1, c2, c3, c4, c5, c6⟩ := h.1
  have hk : f_Reader_kind V = some (nI (kdT B n i)) := by
    unfold f_Reader_kind
    rw [c1, c4, if_neg (nI_pos (by omega)), if_neg (nI_ge hi (by omega)), if_neg (show ¬ (301 : Int32) ≤ nI i from nI_ge (b := 301) (by omega) (by decide)), if_pos (xI_ok (by omega) (by decide)), cl (by omega), (c5 i hi).1]
  have e6 : x2 V 46 6 (nI (kdT B n i)) 46 6 = nI (kdT B n i) := x2_at _ _ _ _
  have e4 : (x2 V 46 6 (nI (kdT B n i)) 46 4).toNatClampNeg = q := by rw [x2_off (by omega), c2, cl (by omega)]
  have e5 : x2 V 46 6 (nI (kdT B n i)) 46 5 + 1 = nI (i + 1) := by rw [x2_off (by omega), c1, nI_1]
  have g6 : x2 (x2 V 46 6 (nI (kdT B n i))) 46 5 (nI (i + 1)) 46 6 = nI (kdT B n i) := by rw [x2_off (by omega), x2_at]
  have g4 : (x2 (x2 V 46 6 (nI (kdT B n i))) 46 5 (nI (i + 1)) 46 4).toNatClampNeg = q := by rw [x2_off (by omega), x2_off (by omega), c2, cl (by omega)]
  have gq : x2 (x2 V 46 6 (nI (kdT B n i))) 46 5 (nI (i + 1)) q 5 = nI len := by rw [x2_ne (by omega), x2_ne (by omega)]; exact c3
  unfold f_Reader_readClause
  rw [hk, Option.bind_some, e6]
  by_cases ck : kdT B n i < 6
  · rw [show f_Ww_within (nI (kdT B n i)) 6 = 1 from within_in (n := 6) ck (by decide), if_pos (by decide), e4, if_pos hq.law, has_c h hN hi ck (x2_ne (by omega)) (x2_ne (by omega)), Option.bind_some, if_pos ck, e5, g6, g4, gq, if_pos hq.law]
    by_cases cp : p (kdT B n i) = 0
    · rw [if_pos (show nI (p (kdT B n i)) = 0 by rw [cp]; rfl), if_pos cp]
      have : kdT B n i = 0 ∨ kdT B n i = 1 ∨ kdT B n i = 2 ∨ kdT B n i = 3 ∨ kdT B n i = 4 ∨ kdT B n i = 5 := by omega
      rcases this with e | e | e | e | e | e
      · rw [e, if_neg (by decide), if_neg (by decide), if_pos (by decide)]; rfl
      · rw [e, if_neg (by decide), if_neg (by decide), if_pos (by decide)]; rfl
      · rw [e, if_pos (by decide)]; rfl
      · rw [e, if_neg (by decide), if_pos (by decide)]; rfl
      · rw [e, if_neg (by decide), if_neg (by decide), if_pos (by decide)]; rfl
      · rw [e, if_neg (by decide), if_neg (by decide), if_neg (by decide)]; rfl
    · have hp1 : p (kdT B n i) = 1 := by
        rcases h.2.2.2.1 _ ck with ⟨e, -⟩ | ⟨e, -⟩
        · exact absurd e cp
        · exact e
      rw [if_neg (show ¬ nI (p (kdT B n i)) = 0 by rw [hp1]; decide), if_neg cp]
  · have hw : f_Ww_within (nI (kdT B n i)) 6 = 0 := by
      unfold f_Ww_within
      rw [if_neg (nI_pos (by omega)), if_pos (show (6 : Int32) ≤ nI (kdT B n i) from nI_le (a := 6) (by omega) (by omega))]
    rw [hw, if_neg (fun z => z rfl), if_neg ck]
theorem sort_ne {W : xV} {i : Nat} (h : AT B n W i) (hk : ¬ kdT B n i = 37) : ¬ W 65 14 = 0 := by
  obtain ⟨-, -, -, h⟩ := h
  rcases h with ⟨a1, a2, a3⟩ | ⟨⟨a0, a1⟩, a2, a3⟩ | ⟨a1, a2, a3⟩ | ⟨a1, a2⟩ | ⟨a1, a2⟩
  · rw [a2]; decide
  · rw [a2]; decide
  · rw [a2]; decide
  · rcases a2 with a2 | ⟨a2, -⟩ <;> rw [a2] <;> decide
  · exact absurd a1 hk
/-- what the model does with it -/
theorem clause_no {V W : xV} {i len m nc : Nat} {p : Nat → Nat} (h : RR B n N q V W i len m nc p) (hk : ¬ kdT B n i < 6) : f_Md_clause W = some (f_Md_errs 1 W) := by
  obtain ⟨-, -, -, ha⟩ := h.2.1.1
  unfold f_Md_clause
  rcases ha with ⟨a1, a2, a3⟩ | ⟨⟨a0, a1⟩, a2, a3⟩ | ⟨a1, a2, a3⟩ | ⟨a1, a2⟩ | ⟨a1, a2⟩
  · rw [a2, if_neg (fun z => z rfl), a3, if_neg (show ¬ nI (kdT B n i) ≤ 5 from nI_ge (a := 5) (by omega) (by omega))]
  · rw [a2, if_pos (by decide)]
  · rw [a2, if_pos (by decide)]
  · rcases a2 with a2 | ⟨a2, -⟩ <;> rw [a2, if_pos (by decide)]
  · rw [a2, if_pos (by decide)]
def W27 (W : xV) (k m nc : Nat) : xV := x2 (x2 (x2 W 65 27 (nI k)) 78 k (nI m)) 79 k (nI nc)
theorem clause_m {V W : xV} {i len m nc : Nat} {p : Nat → Nat} (h : RR B n N q V W i len m nc p) (hi : i < 301) (hk : kdT B n i < 6) : f_Md_clause W = if p (kdT B n i) = 0 then Option.bind (f_Md_next (W27 W (kdT B n i) m nc)) fun p8 => (if (p8 65 27) = 0 then b_Md_clause_102 p8 else (if (p8 65 27) = 1 then b_Md_clause_102 p8 else (if ¬ (p8 65 27) = 4 then b_Md_clause_118 0 1 p8 else b_Md_clause_102 p8))) else some (f_Md_errs 4 (x2 W 65 27 (nI (kdT B n i)))) := by
  obtain ⟨-, -, -, ha⟩ := h.2.1.1
  obtain ⟨-, b2, b3, b4, b5, b6, b7, b8⟩ := h.2.1
  have hs : W 65 14 = 1 ∧ W 65 15 = nI (kdT B n i) := by
    rcases ha with ⟨a1, a2, a3⟩ | ⟨⟨a0, a1⟩, a2, a3⟩ | ⟨a1, a2, a3⟩ | ⟨a1, a2⟩ | ⟨a1, a2⟩
    · exact ⟨a2, a3⟩
    all_goals omega
  have e1 : x2 W 65 27 (nI (kdT B n i)) 65 27 = nI (kdT B n i) := x2_at _ _ _ _
  have e2 : x2 W 65 27 (nI (kdT B n i)) 78 = W 78 := x2_ne (by decide)
  have e3 : x2 W 65 27 (nI (kdT B n i)) 65 30 = nI m := by rw [x2_off (by omega)]; exact b7
  have e4 : x2 (x2 W 65 27 (nI (kdT B n i))) 78 (kdT B n i) (nI m) 65 27 = nI (kdT B n i) := by rw [x2_ne (by decide)]; exact e1
  have e5 : x2 (x2 W 65 27 (nI (kdT B n i))) 78 (kdT B n i) (nI m) 65 26 = nI nc := by rw [x2_ne (by decide), x2_off (by omega)]; exact b8
  unfold f_Md_clause W27
  rw [hs.1, if_neg (fun z => z rfl), hs.2, if_pos (show nI (kdT B n i) ≤ 5 from nI_le (b := 5) (by omega) (by decide)), e1, if_pos (xI_ok hk (by decide)), if_pos (xI_ok hk (by decide)), cl (by omega), e2, e3, e4, e5, if_pos (xI_ok hk (by decide)), cl (by omega)]
  rcases h.2.2.2.1 _ hk with ⟨e, -, -, a3, -⟩ | ⟨e, s, C, M, v, d, kk, x, -, -, -, -, -, -, a7, a8, -⟩
  · rw [if_pos a3, if_pos e]
  · have := h.2.2.1.2
    rw [if_neg (show ¬ W 78 (kdT B n i) = -1 by rw [a7]; exact nI_m1 (by omega)), if_neg (by omega)]
end CL

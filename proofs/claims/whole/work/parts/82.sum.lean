/-! PURE: text, SUM: what waits in the model -/
def np (hp lp : Option Nat) : Nat := (ol hp).length + (ol lp).length
theorem ol_le (x : Option Nat) : (ol x).length ≤ 1 := by cases x; exact Nat.zero_le _; exact Nat.le_refl _
theorem mos_len (l : List Nat) : (mos l).length = l.length := List.length_map _
theorem cks_len (l : List Nat) : (cks l).length = l.length := List.length_map _
section SU
variable (B : Nat → Nat) (n N q wc : Nat)
/-- the model in the midst of a SUM (st 1: a ONE is due, st 2: it is over) or of an EITHER -/
def PL (st : Nat) (W0 W : xV) (i fr o w m : Nat) (hp lp : Option Nat) (Mx : List (Int32 × Int32)) : Prop := MV B n wc W i st fr o (w + np hp lp) (m + Mx.length) ∧ MR W0 W fr w m Mx ∧ sk W fr (w + np hp lp) (ol hp ++ ol lp) ∧ (∃ g, fr = g + 1 ∧ ¬ W 74 g = 7) ∧ fr ≤ o + 2 ∧ w + 2 ≤ 2 * fr ∧ (∀ x, x < w → ∃ g, g < fr ∧ W 77 x = nI g) ∧ m + Mx.length + np hp lp ≤ i
end SU
section SV
variable {B : Nat → Nat} {n N q wc : Nat}
theorem PL.base {W0 W : xV} {st i fr o w m : Nat} {hp lp : Option Nat} {Mx : List (Int32 × Int32)} (h : PL B n wc st W0 W i fr o w m hp lp Mx) (rk : Int32) : SP W fr rk w := by
  rcases Nat.eq_zero_or_pos w with z | z
  · exact Or.inl z
  · exact Or.inr ⟨w - 1, by omega, Or.inl (h.2.2.2.2.2.2.1 (w - 1) (by omega))⟩
/-- what is popped goes behind what was written; rows 76, 77 stay -/
theorem PL.pop {W0 W : xV} {st i fr o w m : Nat} {hp lp hp' lp' : Option Nat} {Mx : List (Int32 × Int32)} {R : List Nat} {rk : Int32} (h : PL B n wc st W0 W i fr o w m hp lp Mx) (ho : o ≤ 8) (hi : i ≤ 300) (hR : ol hp ++ ol lp = R ++ (ol hp' ++ ol lp')) (hk : ∀ p, p ∈ R → ¬ f_Md_rank (mo p) < rk) (hs : SP W fr rk (w + np hp' lp')) : ∃ W', f_Md_works rk W = some W' ∧ PL B n wc st W0 W' i fr o w m hp' lp' (Mx ++ mos R) := by
  obtain ⟨a1, a2, a3, ⟨g, a4, a4'⟩, a5, a6, a7, a8⟩ := h
  have hl : np hp lp = R.length + np hp' lp' := by
    have := congrArg List.length hR
    rw [List.length_append, List.length_append, List.length_append] at this
    exact this
  have h2 : np hp lp ≤ 2 := by
    have := ol_le hp
    have := ol_le lp
    unfold np
    omega
  have e : w + np hp lp = w + np hp' lp' + R.length := by omega
  rw [e] at a1 a3
  rw [hR] at a3
  obtain ⟨W', b1, b2, b3, b4, b5⟩ := works_R rk (w + np hp' lp') (by omega) R (m + Mx.length) 2000 W a1 a3.take hk hs (by omega) (by omega) (by omega)
  have b3' := b3 w
  refine ⟨W', b1, ⟨by rw [List.length_append, mos_len, ← Nat.add_assoc]; exact b2, a2.tr b3' (Nat.le_refl _) (Nat.le_refl _), (sk.drop a3).fr (fun k _ => by rw [b4, b5]; exact ⟨rfl, rfl⟩), ⟨g, a4, by rw [b3'.2.2.2.1 g (by omega)]; exact a4'⟩, a5, a6, fun x hx => by rw [b5]; exact a7 x hx, by rw [List.length_append, mos_len]; omega⟩⟩
theorem PL.push {W0 W W2 : xV} {st i fr o w m kk : Nat} {hp' lp' hp lp : Option Nat} {Mx : List (Int32 × Int32)} (hN : tkN B n N) (h : PL B n wc st W0 W2 i fr o w m hp' lp' Mx) (h1 : f_Md_works (f_Md_rank (mo kk)) W = some W2) (ho : o ≤ 8) (hi : i + 1 < N) (hR : ol hp ++ ol lp = kk :: (ol hp' ++ ol lp')) (st' : Nat) : ∃ W3, f_Md_waitsFor (mo kk) W = some W3 ∧ PL B n wc st' W0 (x2 W3 65 25 (nI st')) (i + 1) fr o w m hp lp Mx := by
  obtain ⟨a1, a2, a3, ⟨g, a4, a4'⟩, a5, a6, a7, a8⟩ := h
  have hl : np hp lp = np hp' lp' + 1 := by
    have := congrArg List.length hR
    rw [List.length_append, List.length_cons, List.length_append] at this
    exact this
  have h2 : np hp lp ≤ 2 := by
    have := ol_le hp
    have := ol_le lp
    unfold np
    omega
  obtain ⟨W3, b1, b2, ⟨b3, b3'⟩, b4⟩ := waits_m hN h1 a1 (by omega) hi
  have e25 : ∀ r, r ≠ 65 → x2 W3 65 25 (nI st') r = W3 r := fun r hr => x2_ne hr
  have f4 : MF W2 (x2 W3 65 25 (nI st')) fr (w + np hp' lp') (m + Mx.length) := b4.tr (MF.s65 (by omega) _ _ _) (Nat.le_refl _) (Nat.le_refl _) (Nat.le_refl _)
  refine ⟨W3, b1, ⟨by rw [hl]; exact b2.sta st', ?_, ?_, ⟨g, a4, by rw [f4.2.2.1 g (by omega)]; exact a4'⟩, a5, a6, fun x hx => by rw [(f4.2.2.2.1 x (by omega)).2]; exact a7 x hx, by omega⟩⟩
  · have := MR.tr (M2 := []) a2 ⟨trivial, f4⟩ (Nat.le_refl _) (by omega)
    rw [List.append_nil] at this
    exact this
  · rw [hR, hl]
    exact ⟨w + np hp' lp', rfl, ⟨by rw [e25 76 (by decide)]; exact b3, by rw [e25 77 (by decide)]; exact b3'⟩, a3.fr (fun k hk => f4.2.2.2.1 k hk)⟩
theorem PL.one {W0 W : xV} {i fr o w m : Nat} {hp lp : Option Nat} {Mx : List (Int32 × Int32)} (h : PL B n wc 1 W0 W i fr o w m hp lp Mx) : S1 B n wc W i 0 fr o (w + np hp lp) (m + Mx.length) := by
  obtain ⟨a1, a2, a3, a4, a5, a6, a7, a8⟩ := h
  have h2 : np hp lp ≤ 2 := by
    have := ol_le hp
    have := ol_le lp
    unfold np
    omega
  refine ⟨a1, fun x hx => absurd hx (Nat.not_lt_zero _), a4, a5, by omega, fun x hx => ?_, by omega⟩
  by_cases c : x < w
  · obtain ⟨g, g1, g2⟩ := a7 x c
    exact ⟨g, by omega, g2⟩
  · exact ⟨fr, Nat.le_refl _, a3.at x (by rw [List.length_append]; unfold np; omega) hx⟩
/-- behind the ONE -/
theorem PL.after {W0 W W1 : xV} {i j fr o w m st st' : Nat} {hp lp : Option Nat} {Mx Mc : List (Int32 × Int32)} (h : PL B n wc st W0 W i fr o w m hp lp Mx) (h1 : MV B n wc W1 j st' fr o (w + np hp lp) (m + Mx.length + Mc.length)) (h2 : MR W W1 fr (w + np hp lp) (m + Mx.length) Mc) (hj : i ≤ j) (hM : Mc.length ≤ j - i) : PL B n wc st' W0 W1 j fr o w m hp lp (Mx ++ Mc) := by
  obtain ⟨a1, a2, a3, ⟨g, a4, a4'⟩, a5, a6, a7, a8⟩ := h
  refine ⟨by rw [List.length_append, ← Nat.add_assoc]; exact h1, a2.tr h2 (Nat.le_refl _) (by omega), a3.fr (fun k hk => h2.2.2.2.2.1 k hk), ⟨g, a4, by rw [h2.2.2.2.1 g (by omega)]; exact a4'⟩, a5, a6, fun x hx => by rw [(h2.2.2.2.2.1 x (by omega)).2]; exact a7 x hx, by rw [List.length_append]; omega⟩
theorem rk_mo : f_Md_rank (mo 28) = 3 ∧ f_Md_rank (mo 29) = 3 ∧ f_Md_rank (mo 30) = 4 ∧ f_Md_rank (mo 31) = 4 ∧ f_Md_rank (mo 6) = 1 ∧ f_Md_rank (mo 7) = 2 := by decide +kernel
end SV

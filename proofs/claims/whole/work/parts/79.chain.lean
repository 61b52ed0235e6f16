/-! PURE: text, ONE with its signs and brackets -/
section JC
variable {B : Nat → Nat} {n N q wc : Nat} {W : xV} {i : Nat}
theorem beg_num (h : AT B n W i) (hk : kdT B n i = 35) : f_Md_begins W = if vlT B n i ≤ 9999 then (Option.bind (f_Md_emits 400 (nI (vlT B n i)) W) fun p => Option.bind (f_Md_next p) fun p => Option.bind (f_Md_oneIsOver p) fun p => some p) else some (f_Md_errs 2 W) := by
  obtain ⟨-, -, -, h⟩ := h
  unfold f_Md_begins
  rcases h with ⟨a1, a2, a3⟩ | ⟨⟨a0, a1⟩, a2, a3⟩ | ⟨a1, a2, a3⟩ | ⟨a1, a2⟩ | ⟨a1, a2⟩
  · omega
  · omega
  · rw [a2, if_neg (fun z => z rfl)]
    rcases a3 with ⟨b1, b2⟩ | ⟨b1, b2⟩
    · rw [b2, if_pos (show nI (vlT B n i) ≤ 9999 from nI_le (b := 9999) b1 (by decide)), if_pos b1]
    · rw [if_neg (Int32.not_le.mpr b2), if_neg (by omega)]
  · omega
  · omega
theorem beg_nam (h : AT B n W i) (h27 : W 65 27 = nI wc) (hw : wc < 6) (h1 : 9 ≤ kdT B n i) (h2 : kdT B n i < 22) : f_Md_begins W = if msk (kdT B n i - 9) / 2 ^ wc % 2 = 1 then (Option.bind (f_Md_emits 401 (nI (kdT B n i - 9)) W) fun p => Option.bind (f_Md_next p) fun p => Option.bind (f_Md_oneIsOver p) fun p => some p) else some (f_Md_errs 5 W) := by
  obtain ⟨-, -, -, h⟩ := h
  unfold f_Md_begins
  rcases h with ⟨a1, a2, a3⟩ | ⟨⟨a0, a1⟩, a2, a3⟩ | ⟨a1, a2, a3⟩ | ⟨a1, a2⟩ | ⟨a1, a2⟩
  · rw [a2, if_pos (by decide), if_neg (fun z => z rfl), a3, if_neg (show ¬ nI (kdT B n i) ≤ 8 from nI_ge (a := 8) (by omega) (by omega)), h27, show nI (kdT B n i) - 8 - 1 = nI (kdT B n i - 9) by rw [show (8 : Int32) = nI 8 from rfl, show (1 : Int32) = nI 1 from rfl, pk_sub (by omega), pk_sub (by omega)]; congr 1]
    have q := nmM wc hw (kdT B n i - 9) (by omega)
    by_cases c : msk (kdT B n i - 9) / 2 ^ wc % 2 = 1
    · rw [if_pos (q.mpr c), if_pos c]
    · rw [if_neg (fun z => c (q.mp z)), if_neg c]
  · omega
  · omega
  · omega
  · omega
theorem beg_112 (h : AT B n W i) (h1 : ¬ kdT B n i = 35) (h2 : kdT B n i < 9 ∨ 22 ≤ kdT B n i) : f_Md_begins W = b_Md_begins_112 W := by
  obtain ⟨-, -, -, h⟩ := h
  unfold f_Md_begins
  rcases h with ⟨a1, a2, a3⟩ | ⟨⟨a0, a1⟩, a2, a3⟩ | ⟨a1, a2, a3⟩ | ⟨a1, a2⟩ | ⟨a1, a2⟩
  · rw [a2, if_pos (by decide), if_neg (fun z => z rfl), a3, if_pos (show nI (kdT B n i) ≤ 8 from nI_le (b := 8) (by omega) (by decide))]
  · rw [a2, if_pos (by decide), if_pos (by decide)]
  · omega
  · rcases a2 with a2 | ⟨a2, -⟩ <;> rw [a2, if_pos (by decide), if_pos (by decide)]
  · rw [a2, if_pos (by decide), if_pos (by decide)]
theorem beg_other (h : AT B n W i) (h1 : ¬ kdT B n i = 35) (h2 : kdT B n i < 9 ∨ 22 ≤ kdT B n i) : f_Md_begins W = if kdT B n i = 32 then (Option.bind (f_Md_opensSign 6 W) fun p => some p.2) else if kdT B n i = 29 then (Option.bind (f_Md_opensSign 7 W) fun p => some p.2) else some (f_Md_errs 1 W) := by
  rw [beg_112 h h1 h2]
  unfold b_Md_begins_112
  rw [show f_Md_isSign 40 W = _ from isSign_at h (x := 32) (by decide) (by decide), show f_Md_isSign 45 W = _ from isSign_at h (x := 29) (by decide) (by decide)]
  by_cases c1 : kdT B n i = 32
  · rw [if_pos c1, if_neg (by decide), if_pos c1]
  · rw [if_neg c1, if_pos rfl, if_neg c1]
    by_cases c2 : kdT B n i = 29
    · rw [if_pos c2, if_neg (by decide), if_pos c2]
    · rw [if_neg c2, if_pos rfl, if_neg c2]
theorem sgN : ∀ k, k < 35 → 22 ≤ k → ¬ (28 ≤ k ∧ k ≤ 31) → ¬ sg k = 43 ∧ ¬ sg k = 45 ∧ ¬ sg k = 42 ∧ ¬ sg k = 47 := by decide +kernel
theorem go_65 (h : AT B n W i) (hk : ¬ (28 ≤ kdT B n i ∧ kdT B n i ≤ 31)) : f_Md_goesOn W = Option.bind (f_Md_top W) fun p1 => b_Md_goesOn_65 p1 W := by
  obtain ⟨-, -, -, h⟩ := h
  unfold f_Md_goesOn
  congr 1
  funext p1
  rcases h with ⟨a1, a2, a3⟩ | ⟨⟨a0, a1⟩, a2, a3⟩ | ⟨a1, a2, a3⟩ | ⟨a1, a2⟩ | ⟨a1, a2⟩
  · rw [a2, if_pos (by decide)]
  · obtain ⟨s1, s2, s3, s4⟩ := sgN (kdT B n i) a1 a0 hk
    rw [a2, a3, if_neg (fun z => z rfl), if_neg s1, if_neg s2, if_neg s3, if_pos s4]
  · rw [a2, if_pos (by decide)]
  · rcases a2 with a2 | ⟨a2, a3⟩
    · rw [a2, if_pos (by decide)]
    · rw [a2, a3, if_neg (fun z => z rfl), if_neg (by decide), if_neg (by decide), if_neg (by decide), if_pos (by decide)]
  · rw [a2, if_pos (by decide)]
theorem go_op (h : AT B n W i) (h1 : 28 ≤ kdT B n i) (h2 : kdT B n i ≤ 31) : f_Md_goesOn W = Option.bind (f_Md_top W) fun _ => Option.bind (f_Md_waitsFor (mo (kdT B n i)) W) fun p => some (x2 p 65 25 1) := by
  obtain ⟨-, -, -, h⟩ := h
  unfold f_Md_goesOn
  congr 1
  funext p1
  rcases h with ⟨a1, a2, a3⟩ | ⟨⟨a0, a1⟩, a2, a3⟩ | ⟨a1, a2, a3⟩ | ⟨a1, a2⟩ | ⟨a1, a2⟩
  · omega
  · rw [a2, a3, if_neg (fun z => z rfl)]
    have : kdT B n i = 28 ∨ kdT B n i = 29 ∨ kdT B n i = 30 ∨ kdT B n i = 31 := by omega
    rcases this with e | e | e | e
    · rw [e, show sg 28 = mo 28 from rfl, if_pos (by decide)]
    · rw [e, show sg 29 = mo 29 from rfl, if_neg (by decide), if_pos (by decide)]
    · rw [e, show sg 30 = mo 30 from rfl, if_neg (by decide), if_neg (by decide), if_pos (by decide)]
    · rw [e, show sg 31 = mo 31 from rfl, if_neg (by decide), if_neg (by decide), if_neg (by decide), if_neg (by decide)]
  · omega
  · omega
  · omega
theorem plain_rd (h : TX B n N q wc) {V : xV} {len : Nat} (rs : Int32 → xV → Option (Int32 × xV)) (v1 v2 : Int32) (hV : CS B n N q wc V i len) (hi : i < N) (hk : ¬ kdT B n i = 32) : b_Reader_readOne_50 rs v1 v2 V = if plF wc (kdT B n i) (vlT B n i) = 0 then (if kdT B n i = 35 then Option.bind (f_Reader_emitIf 1 (nI (vlT B n i)) V) fun p => b_Reader_readOne_161 rs v1 v2 p else Option.bind (f_Reader_emitIf 1 (cK (kdT B n i)) V) fun p => b_Reader_readOne_161 rs v1 v2 p) else Option.bind (f_Reader_wrong (nI (plF wc (kdT B n i) (vlT B n i))) V) fun p => if p.1 = 0 ∨ p.1 = 1 then some (p.1, p.2) else none := by
  have hN := h.1.2.1
  have hkl := kdT_le (n := n) h.2.1 i
  have hf : plF wc (kdT B n i) (vlT B n i) < 6 := by unfold plF; split <;> (try split) <;> (try split) <;> omega
  unfold b_Reader_readOne_50
  rw [kind_at hV hi hN, Option.bind_some, if_neg (show ¬ nI (kdT B n i) = 32 from fun z => hk (nI_small (b := 32) (by omega) (by decide) z)), Option.bind_some, value_at hV hi hN, Option.bind_some, plain_c hV h.2.2.2 hkl (vlT_le B n i), Option.bind_some]
  by_cases c : plF wc (kdT B n i) (vlT B n i) = 0
  · rw [if_pos (show nI (plF wc (kdT B n i) (vlT B n i)) = 0 by rw [c]; rfl), if_pos c, Option.bind_some]
    by_cases c2 : kdT B n i = 35
    · rw [if_neg (fun z => z (by rw [c2]; rfl)), if_pos c2, Option.bind_some]
    · rw [if_pos (show ¬ nI (kdT B n i) = 35 from fun z => c2 (nI_small (b := 35) (by omega) (by decide) z)), if_neg c2, Option.bind_some]
      rfl
  · rw [if_neg (show ¬ nI (plF wc (kdT B n i) (vlT B n i)) = 0 from fun z => c (nI_small (b := 0) (by omega) (by decide) z)), if_neg c]
theorem one_plain (h : TX B n N q wc) (rs : Int32 → xV → Option (Int32 × xV)) {k o D : Nat} (hi : i < N) (hk : o + k ≤ 8) (hD : 1 ≤ D) (h32 : ¬ kdT B n i = 32) (h29 : ¬ kdT B n i = 29) : J1 B n N q wc (b_Reader_readOne_50 rs (nI o) (nI (o + k))) k o D i := by
  have hw := h.2.2.2
  have er : ∀ {W : xV} {fr w m f : Nat}, S1 B n wc W i k fr o w m → f_Md_begins W = some (f_Md_errs (nI f) W) → ∃ W', f_Md_begins W = some W' ∧ W' 65 16 = nI f ∧ W' 65 17 = nI (plT B n i) ∧ MX W W' := by
    intro W fr w m f hW e
    obtain ⟨e1, e2, e3⟩ := err_m hW.1.1 hW.1.2.1 (nI f)
    exact ⟨_, e, e1, e2, e3⟩
  by_cases c35 : kdT B n i = 35
  · by_cases cv : vlT B n i ≤ 9999
    · have ef : plF wc (kdT B n i) (vlT B n i) = 0 := by unfold plF; rw [if_pos c35, if_pos cv]
      exact leafOk h rs (h.nx hi (by omega)) hk hD (good_num wc (vlT B n i) cv) (fun V len hV => by rw [plain_rd h rs _ _ hV hi h32, if_pos ef, if_pos c35]) (fun W fr w m hW => by rw [beg_num hW.1.1 c35, if_pos cv])
    · have ef : plF wc (kdT B n i) (vlT B n i) = 2 := by unfold plF; rw [if_pos c35, if_neg cv]
      exact leafNo h hi (f := 2) (by omega) (fun V len hV => by rw [plain_rd h rs _ _ hV hi h32, ef, if_neg (by decide)]) (fun W fr w m hW => er (f := 2) hW (by rw [beg_num hW.1.1 c35, if_neg cv]; rfl))
  · by_cases c9 : kdT B n i < 9 ∨ 22 ≤ kdT B n i
    · have ef : plF wc (kdT B n i) (vlT B n i) = 1 := by unfold plF; rw [if_neg c35, if_pos c9]
      exact leafNo h hi (f := 1) (by omega) (fun V len hV => by rw [plain_rd h rs _ _ hV hi h32, ef, if_neg (by decide)]) (fun W fr w m hW => er (f := 1) hW (by rw [beg_other hW.1.1 c35 c9, if_neg h32, if_neg h29]; rfl))
    · by_cases cm : msk (kdT B n i - 9) / 2 ^ wc % 2 = 1
      · have ef : plF wc (kdT B n i) (vlT B n i) = 0 := by unfold plF; rw [if_neg c35, if_neg c9, if_pos cm]
        have hG := good_nam wc (kdT B n i - 9) (by omega) cm
        rw [show 9 + (kdT B n i - 9) = kdT B n i by omega] at hG
        exact leafOk h rs (h.nx hi (by omega)) hk hD hG (fun V len hV => by rw [plain_rd h rs _ _ hV hi h32, if_pos ef, if_neg c35]) (fun W fr w m hW => by rw [beg_nam hW.1.1 hW.1.2.2.2.2.2.2.2 hw (by omega) (by omega), if_pos cm])
      · have ef : plF wc (kdT B n i) (vlT B n i) = 5 := by unfold plF; rw [if_neg c35, if_neg c9, if_neg cm]
        exact leafNo h hi (f := 5) (by omega) (fun V len hV => by rw [plain_rd h rs _ _ hV hi h32, ef, if_neg (by decide)]) (fun W fr w m hW => er (f := 5) hW (by rw [beg_nam hW.1.1 hW.1.2.2.2.2.2.2.2 hw (by omega) (by omega), if_neg cm]; rfl))
end JC

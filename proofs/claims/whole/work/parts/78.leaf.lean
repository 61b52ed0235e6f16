/-! PURE: text, ONE on both sides -/
section JD
variable (B : Nat → Nat) (n N q wc : Nat)
def cNo (rd : xV → Option (Int32 × xV)) (i k f j : Nat) : Prop := ∀ V len, CS B n N q wc V i len → len + k ≤ i → ∃ V', rd V = some (0, V') ∧ V' 46 1 = nI f ∧ V' 46 2 = nI (plT B n j) ∧ CFx q V V'
def cOk (rd : xV → Option (Int32 × xV)) (i k j : Nat) (C : List Int32) : Prop := ∀ V len, CS B n N q wc V i len → len + k ≤ i → ∃ V', rd V = some (1, V') ∧ CE B n N q wc V V' j len C
def S1 (W : xV) (i k fr o w m : Nat) : Prop := MV B n wc W i 1 (fr + k) (o + k) w m ∧ (∀ x, x < k → W 74 (fr + x) = 7) ∧ (∃ g, fr = g + 1 ∧ ¬ W 74 g = 7) ∧ fr ≤ o + 2 ∧ w ≤ 2 * fr ∧ (∀ x, x < w → ∃ g, g ≤ fr ∧ W 77 x = nI g) ∧ m + k ≤ i
def mZ (W : xV) (i f j : Nat) : Prop := ∃ c W', c ≤ j - i + 1 ∧ MS c W W' ∧ W' 65 16 = nI f ∧ W' 65 17 = nI (plT B n j) ∧ MX W W'
def m1No (k o i f j : Nat) : Prop := ∀ W fr w m, S1 B n wc W i k fr o w m → mZ B n W i f j
def m1Ok (k o i j : Nat) (M : List (Int32 × Int32)) : Prop := ∀ W fr w m, S1 B n wc W i k fr o w m → ∃ c W', c ≤ j - i ∧ MS c W W' ∧ MV B n wc W' j 2 fr o w (m + M.length) ∧ MR W W' fr w m M
def J1 (rd : xV → Option (Int32 × xV)) (k o D i : Nat) : Prop := (∃ f j, (0 < f ∧ f < 6) ∧ i ≤ j ∧ j < N ∧ cNo B n N q wc rd i k f j ∧ m1No B n wc k o i f j) ∨ ∃ j C M v d, i < j ∧ j < N ∧ Good wc true C M v d ∧ d ≤ D ∧ C.length ≤ (j - i) + k ∧ M.length ≤ (j - i) + k ∧ cOk B n N q wc rd i k j C ∧ m1Ok B n wc k o i j M
def S2 (W : xV) (i fr o w m : Nat) : Prop := MV B n wc W i 1 fr o w m ∧ (∃ g, fr = g + 1 ∧ ¬ W 74 g = 7) ∧ fr ≤ o + 2 ∧ w + 2 ≤ 2 * fr ∧ (∀ x, x < w → ∃ g, g < fr ∧ W 77 x = nI g) ∧ m ≤ i
def m2No (o i f j : Nat) : Prop := ∀ W fr w m, S2 B n wc W i fr o w m → mZ B n W i f j
def m2Ok (o i j : Nat) (M : List (Int32 × Int32)) : Prop := ∀ W fr w m, S2 B n wc W i fr o w m → ∃ c W', c ≤ j - i ∧ MS c W W' ∧ (∃ w' m', MV B n wc W' j 2 fr o w' m') ∧ MF W W' fr w m ∧ ∀ rk, rk = 1 ∨ rk = 3 → ∃ W'', f_Md_works rk W' = some W'' ∧ MV B n wc W'' j 2 fr o w (m + M.length) ∧ MR W W'' fr w m M
def J2 (rd : xV → Option (Int32 × xV)) (o i : Nat) : Prop := (∃ f j, (0 < f ∧ f < 6) ∧ i ≤ j ∧ j < N ∧ cNo B n N q wc rd i 0 f j ∧ m2No B n wc o i f j) ∨ ∃ j C M v d, i < j ∧ j < N ∧ ¬ (28 ≤ kdT B n j ∧ kdT B n j ≤ 31) ∧ Good wc true C M v d ∧ d ≤ 3 + 2 * (8 - o) ∧ C.length ≤ j - i ∧ M.length ≤ j - i ∧ cOk B n N q wc rd i 0 j C ∧ m2Ok B n wc o i j M
/-- what is the same in all of a text's reading -/
def TX : Prop := tkN B n N ∧ (∀ i, i < n → B i < 256) ∧ qk q ∧ wc < 6
end JD
section JL
variable {B : Nat → Nat} {n N q wc : Nat}
theorem TX.nx (h : TX B n N q wc) {i : Nat} (hi : i < N) (hk : ¬ kdT B n i = 37) : i + 1 < N := by
  have h2 := (kdT_lt h.2.1 h.1).2
  by_cases c : i = N - 1
  · rw [c] at hk; exact absurd h2 hk
  · have := h.1.1; omega
theorem c161 (h : TX B n N q wc) {V : xV} {i len o k : Nat} (rs : Int32 → xV → Option (Int32 × xV)) (hV : CS B n N q wc V i len) (hok : o + k < 100) (hl : k % 2 = 1 → len < 300) : ∃ V', b_Reader_readOne_161 rs (nI o) (nI (o + k)) V = some (1, V') ∧ CE B n N q wc V V' (i + 1) len (if k % 2 = 1 then [cK 38] else []) := by
  have ha := adv h.2.2.1 hV
  have ha1 : CS B n N q wc (x2 V 46 5 (V 46 5 + 1)) (i + 1) len := ha.1
  unfold b_Reader_readOne_161
  rw [pk_sub (by omega), show o + k - o = k by omega, show xrem (nI k) 2 = nI (k % 2) from xrem_nI (d := 2) (by omega) (by decide) (by decide)]
  by_cases c : k % 2 = 1
  · obtain ⟨V', e1, e2⟩ := emit_at h.2.2.1 ha1 true (fun _ => hl c) (cK 38)
    rw [if_neg (fun z => z (by rw [c]; rfl)), if_pos c, show f_Reader_emitIf 1 (-39) (x2 V 46 5 (V 46 5 + 1)) = some V' from e1, Option.bind_some]
    exact ⟨V', rfl, ha.tr e2⟩
  · obtain ⟨V', e1, e2⟩ := emit_at h.2.2.1 ha1 false (fun z => by cases z) (cK 38)
    rw [if_pos (show ¬ nI (k % 2) = 1 from fun z => c (nI_small (b := 1) (by omega) (by decide) z)), if_neg c, show f_Reader_emitIf 0 (-39) (x2 V 46 5 (V 46 5 + 1)) = some V' from e1, Option.bind_some]
    exact ⟨V', rfl, ha.tr e2⟩
theorem wrong_rd (h : TX B n N q wc) {V : xV} {i len : Nat} (hV : CS B n N q wc V i len) (hi : i < N) (f : Nat) : ∃ V', (Option.bind (f_Reader_wrong (nI f) V) fun p => if p.1 = 0 ∨ p.1 = 1 then some (p.1, p.2) else none) = some (0, V') ∧ V' 46 1 = nI f ∧ V' 46 2 = nI (plT B n i) ∧ CFx q V V' := by
  obtain ⟨V', e1, e2, e3, e4⟩ := wrong_at hV hi h.1.2.1 (nI f)
  refine ⟨V', ?_, e2, e3, e4⟩
  rw [e1, Option.bind_some, if_pos (Or.inl rfl)]
theorem leafNo (h : TX B n N q wc) {rd : xV → Option (Int32 × xV)} {i k o D f : Nat} (hi : i < N) (hf : 0 < f ∧ f < 6) (hc : ∀ V len, CS B n N q wc V i len → rd V = Option.bind (f_Reader_wrong (nI f) V) fun p => if p.1 = 0 ∨ p.1 = 1 then some (p.1, p.2) else none) (hm : ∀ W fr w m, S1 B n wc W i k fr o w m → ∃ W', f_Md_begins W = some W' ∧ W' 65 16 = nI f ∧ W' 65 17 = nI (plT B n i) ∧ MX W W') : J1 B n N q wc rd k o D i := by
  refine Or.inl ⟨f, i, hf, Nat.le_refl _, hi, fun V len hV _ => ?_, fun W fr w m hW => ?_⟩
  · rw [hc V len hV]; exact wrong_rd h hV hi f
  · obtain ⟨W', e1, e2, e3, e4⟩ := hm W fr w m hW
    exact ⟨1, W', by omega, MS.s1 hW.1.2.1 hW.1.2.2.1 e1, e2, e3, e4⟩
/-- behind a plain ONE or a bracket the model closes what minus opened -/
theorem over_S1 {W W1 : xV} {i j k fr o w m m1 sv : Nat} (hW : S1 B n wc W i k fr o w m) (h1 : MV B n wc W1 j sv (fr + k) (o + k) w m1) (h2 : MF W W1 (fr + k) w m) (hk : o + k ≤ 8) (hm : m1 + k ≤ 400) : ∃ W', f_Md_oneIsOver W1 = some W' ∧ MV B n wc W' j 2 fr o w (m1 + k) ∧ MR W1 W' fr w m1 (List.replicate k (402, 0)) := by
  obtain ⟨a1, a2, ⟨g, rfl, a3⟩, a4, -, -, -⟩ := hW
  exact over_m k 2000 m1 W1 h1 (fun x hx => by rw [h2.2.2.1 _ (by omega)]; exact a2 x hx) (by rw [h2.2.2.1 _ (by omega)]; exact a3) (by omega) hm (by omega)
theorem leafOk (h : TX B n N q wc) (rs : Int32 → xV → Option (Int32 × xV)) {rd : xV → Option (Int32 × xV)} {i k o D : Nat} {e a x : Int32} {v : (Nat → Int) → Int} (hi : i + 1 < N) (hk : o + k ≤ 8) (hD : 1 ≤ D) (hG : Good wc true [e] [(a, x)] v 1) (hc : ∀ V len, CS B n N q wc V i len → rd V = Option.bind (f_Reader_emitIf 1 e V) fun p => b_Reader_readOne_161 rs (nI o) (nI (o + k)) p) (hm : ∀ W fr w m, S1 B n wc W i k fr o w m → f_Md_begins W = Option.bind (f_Md_emits a x W) fun p => Option.bind (f_Md_next p) fun p => Option.bind (f_Md_oneIsOver p) fun p => some p) : J1 B n N q wc rd k o D i := by
  have hN := h.1.2.1
  have hG2 := good_un hG 38 402 (Or.inl ⟨rfl, rfl, rfl⟩) k
  refine Or.inr ⟨i + 1, _, _, _, _, by omega, by omega, hG2, hD, ?_, ?_, fun V len hV hl => ?_, fun W fr w m hW => ?_⟩
  · rw [List.length_append]
    show 1 + _ ≤ _
    by_cases c : k % 2 = 1
    · rw [if_pos c]
      show 1 + 1 ≤ _
      omega
    · rw [if_neg c]
      show 1 + 0 ≤ _
      omega
  · rw [List.length_append, List.length_replicate]
    show 1 + k ≤ _
    omega
  · obtain ⟨V1, b1, b2⟩ := emit_at h.2.2.1 hV true (fun _ => by omega) e
    obtain ⟨V2, c1, c2⟩ := c161 h rs b2.1 (o := o) (k := k) (by omega) (fun c => by show len + 1 < 300; omega)
    rw [hc V len hV, show f_Reader_emitIf 1 e V = some V1 from b1, Option.bind_some]
    exact ⟨V2, c1, b2.tr c2⟩
  · have a1 := hW.1
    have a7 := hW.2.2.2.2.2.2
    have em := emits_m a1.2.2.2.2.2.2.1 (by omega) a x
    have q1 := eMm_R W m a x (fr + k) w
    obtain ⟨W2, b1, b2, b3⟩ := (a1.em a x).next h.1 hi
    have q2 : MR W W2 (fr + k) w m [(a, x)] := ⟨⟨⟨by rw [b3 80 m (by omega)]; exact q1.1.1.1, by rw [b3 81 m (by omega)]; exact q1.1.1.2⟩, trivial⟩, q1.2.tr (MF.nf b3 (fr + k) w m) (Nat.le_refl _) (Nat.le_refl _) (Nat.le_refl _)⟩
    obtain ⟨W3, c1, c2, c3⟩ := over_S1 hW b2 q2.2 hk (by omega)
    refine ⟨1, W3, by omega, MS.s1 a1.2.1 a1.2.2.1 ?_, ?_, MR.tr (M1 := [(a, x)]) ⟨q2.1, ?_⟩ c3 (Nat.le_refl _) (Nat.le_refl _)⟩
    · rw [hm W fr w m hW, em, Option.bind_some, b1, Option.bind_some, c1, Option.bind_some]
    · rw [List.length_append, List.length_replicate]
      show MV B n wc W3 (i + 1) 2 fr o w (m + (1 + k))
      rw [show m + (1 + k) = m + 1 + k by omega]; exact c2
    · exact q2.2.le (by omega) (Nat.le_refl _) (Nat.le_refl _)
end JL

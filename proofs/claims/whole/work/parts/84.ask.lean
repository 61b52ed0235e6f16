/-! PURE: text, ASK on both sides -/
section AD
variable (B : Nat → Nat) (n N q wc : Nat)
def mY (W : xV) (i f j : Nat) : Prop := ∃ c W', c ≤ 2 * (j - i) + 2 ∧ MS c W W' ∧ W' 65 16 = nI f ∧ W' 65 17 = nI (plT B n j) ∧ MX W W'
def S3 (W : xV) (i k w m : Nat) : Prop := MV B n wc W i 0 (0 + 1 + k) (0 + k) w m ∧ (∀ x, x < k → W 74 (0 + 1 + x) = 3) ∧ W 74 0 = 2 ∧ w ≤ 2 ∧ (∀ x, x < w → W 77 x = nI 1) ∧ m + k ≤ i
def m3No (k i f j : Nat) : Prop := ∀ W w m, S3 B n wc W i k w m → mY B n W i f j
def m3Ok (k i j : Nat) (M : List (Int32 × Int32)) : Prop := ∀ W w m, S3 B n wc W i k w m → ∃ c W', c ≤ 2 * (j - i) ∧ MS c W W' ∧ MV B n wc W' j 3 1 0 w (m + M.length) ∧ MR W W' 1 w m M
def J3 (rd : xV → Option (Int32 × xV)) (k i : Nat) : Prop := (∃ f j, (0 < f ∧ f < 6) ∧ i ≤ j ∧ j < N ∧ cNo B n N q wc rd i k f j ∧ m3No B n wc k i f j) ∨ ∃ j C M v d, i < j ∧ j < N ∧ Good wc false C M v d ∧ d ≤ 20 ∧ C.length ≤ (j - i) + k ∧ M.length ≤ (j - i) + k ∧ cOk B n N q wc rd i k j C ∧ m3Ok B n wc k i j M
end AD
section AE
variable {B : Nat → Nat} {n N q wc : Nat}
theorem MV.rw {W W' : xV} {i st fr o w m : Nat} (h : MV B n wc W i st fr o w m) (h1 : W' 65 = W 65) (h2 : W' 68 = W 68) : MV B n wc W' i st fr o w m := by
  obtain ⟨a1, a2⟩ := h
  refine ⟨a1.fr h2 (fun k _ _ => by rw [h1]), ?_⟩
  rw [h1]; exact a2
theorem MV.f1 {W : xV} {i st fr o w m : Nat} (h : MV B n wc W i st fr o w m) (fr' : Nat) : MV B n wc (x2 W 65 19 (nI fr')) i st fr' o w m := by
  obtain ⟨h1, h2, h3, h4, h5, h6, h7, h8⟩ := h
  exact ⟨h1.fr (x2_ne (by decide)) (fun k _ _ => x2_off (by omega)), by rw [x2_off (by omega)]; exact h2, by rw [x2_off (by omega)]; exact h3, x2_at _ _ _ _, by rw [x2_off (by omega)]; exact h5, by rw [x2_off (by omega)]; exact h6, by rw [x2_off (by omega)]; exact h7, by rw [x2_off (by omega)]; exact h8⟩
theorem J_sum1 (h : TX B n N q wc) {nf o : Nat} (ho : o ≤ 8) (H1 : ∀ i, i < N → J1 B n N q wc (f_Reader_readOne nf (nI o)) 0 o (1 + 2 * (8 - o)) i) (i : Nat) (hi : i < N) : J2 B n N q wc (F_Reader_readSum (f_Reader_readOne nf) (nI o)) o i := by
  have hN := h.1.2.1
  have toPL : ∀ {W : xV} {fr w m : Nat}, S2 B n wc W i fr o w m → PL B n wc 1 W W i fr o w m none none [] := fun hW => ⟨hW.1, ⟨trivial, MF.rf _ _ _ _⟩, trivial, hW.2.1, hW.2.2.1, hW.2.2.2.1, hW.2.2.2.2.1, hW.2.2.2.2.2⟩
  rcases sum_loop h ho H1 N i 2000 0 none none [] [] [] [] (by omega) hi (by omega) (by omega) (Or.inl ⟨rfl, rfl, rfl⟩) (Or.inl ⟨rfl, rfl, rfl⟩) (fun p e => by cases e) (fun p e => by cases e) with ⟨f, j, f1, j1, j2, hcn, hmn⟩ | ⟨j, C, M, v, d, j1, j2, jk, hG, hd, hC, hM, hco, hmo⟩
  · exact Or.inl ⟨f, j, f1, j1, j2, fun V len hV hl => hcn V V len (CE.rf hV) hl, fun W fr w m hW => hmn W W fr w m (toPL hW)⟩
  · have z : np none none = 0 := rfl
    refine Or.inr ⟨j, C, M, v, d, j1, j2, jk, hG, by omega, ?_, ?_, fun V len hV hl => hco V V len (CE.rf hV) hl, fun W fr w m hW => hmo W W fr w m (toPL hW)⟩
    · rw [z] at hC
      have : (([] : List Int32) ++ []).length = 0 := rfl
      omega
    · rw [z] at hM
      have : (([] : List (Int32 × Int32)) ++ []).length = 0 := rfl
      omega
theorem J_ones (h : TX B n N q wc) : ∀ (nf o : Nat), o ≤ 8 → 9 ≤ nf + o → ∀ i, i < N → J1 B n N q wc (f_Reader_readOne nf (nI o)) 0 o (1 + 2 * (8 - o)) i
  | 0, o, h1, h2 => by omega
  | nf + 1, o, h1, h2 => fun i hi => one_chain h (fun a V => F_Reader_readSum (f_Reader_readOne nf) a V) (fun k hk i hi => J_sum1 h (by omega) (J_ones h nf (o + k + 1) (by omega) (by omega)) i hi) (8 - o) 0 2000 i (by omega) (by omega) hi
theorem J_sums (h : TX B n N q wc) {o : Nat} (ho : o ≤ 8) (i : Nat) (hi : i < N) : J2 B n N q wc (f_Reader_readSum 9 (nI o)) o i := J_sum1 h ho (J_ones h 9 o ho (by omega)) i hi
theorem mZ.y {W W0 : xV} {i i0 f j c0 : Nat} (h : mZ B n W i f j) (hx : MX W0 W) (hs : MS c0 W0 W) (hc : c0 ≤ 2 * (i - i0) + 1) (h1 : i0 ≤ i) (h2 : i ≤ j) : mY B n W0 i0 f j := by
  obtain ⟨c, W', a1, a2, a3, a4, a5⟩ := h
  exact ⟨c0 + c, W', by omega, hs.tr a2, a3, a4, hx.tr a5⟩
theorem sg_mo : ∀ x, x < 32 → sg x = mo x := by decide +kernel
theorem asking : ∀ x, x < 35 → 22 ≤ x → f_Md_isAsking (sg x) = if x ≤ 27 then 1 else 0 := by decide +kernel
/-- LEFT is over: a sign that asks, or a fault -/
theorem left_go {W : xV} {j : Nat} (h : AT B n W j) (hk : ¬ (28 ≤ kdT B n j ∧ kdT B n j ≤ 31)) (ht : f_Md_top W = some 4) : f_Md_goesOn W = if 22 ≤ kdT B n j ∧ kdT B n j ≤ 27 then (Option.bind (f_Md_works 3 W) fun p29 => if xI (p29 65 19) 41 = true then (if xI (((x2 p29 75 ((p29 65 19).toNatClampNeg) (p29 65 15)) 65 19) - 1) 40 = true then (Option.bind (f_Md_next (x2 (x2 p29 75 ((p29 65 19).toNatClampNeg) (p29 65 15)) 74 ((((x2 p29 75 ((p29 65 19).toNatClampNeg) (p29 65 15)) 65 19) - 1).toNatClampNeg) 5)) fun p33 => some (x2 p33 65 25 1)) else none) else none) else some (f_Md_errs 1 W) := by
  have e181 : b_Md_goesOn_181 4 W = some (f_Md_errs 1 W) := by
    unfold b_Md_goesOn_181
    rw [if_pos (by decide), if_pos (by decide)]
  rw [go_65 h hk, ht, Option.bind_some]
  obtain ⟨-, -, -, h⟩ := h
  unfold b_Md_goesOn_65
  rw [if_pos (by decide)]
  unfold b_Md_goesOn_116
  rw [if_neg (fun z => z rfl)]
  rcases h with ⟨a1, a2, a3⟩ | ⟨⟨a0, a1⟩, a2, a3⟩ | ⟨a1, a2, a3⟩ | ⟨a1, a2⟩ | ⟨a1, a2⟩
  · rw [a2, if_pos (by decide), e181, if_neg (by omega)]
  · rw [a2, if_neg (fun z => z rfl), a3, asking _ a1 a0]
    by_cases c : kdT B n j ≤ 27
    · rw [if_pos c, if_neg (by decide), if_pos ⟨a0, c⟩]
    · rw [if_neg c, if_pos rfl, e181, if_neg (fun z => c z.2)]
  · rw [a2, if_pos (by decide), e181, if_neg (by omega)]
  · rw [if_neg (show ¬ (22 ≤ kdT B n j ∧ kdT B n j ≤ 27) by omega)]
    rcases a2 with a2 | ⟨a2, a3⟩
    · rw [a2, if_pos (by decide), e181]
    · rw [a2, if_neg (fun z => z rfl), a3, if_pos (by decide), e181]
  · rw [a2, if_pos (by decide), e181, if_neg (by omega)]
theorem told_at {W : xV} {j : Nat} (h : AT B n W j) (h1 : 22 ≤ kdT B n j) (h2 : kdT B n j ≤ 27) : W 65 15 = mo (kdT B n j) := by
  obtain ⟨-, -, -, h⟩ := h
  rcases h with ⟨a1, a2, a3⟩ | ⟨⟨a0, a1⟩, a2, a3⟩ | ⟨a1, a2, a3⟩ | ⟨a1, a2⟩ | ⟨a1, a2⟩
  · omega
  · rw [a3, sg_mo _ (by omega)]
  · omega
  · omega
  · omega
/-- a LEFT is opened -/
theorem ask_open {W : xV} {i k w m : Nat} (hW : S3 B n wc W i k w m) (hk : k ≤ 8) (h8 : ¬ kdT B n i = 8) : ∃ W1, MS 1 W W1 ∧ S2 B n wc W1 i (k + 2) k w m ∧ W1 74 (k + 1) = 4 ∧ MF W W1 (k + 1) w m := by
  obtain ⟨a1, a2, a3, a4, a5, a6⟩ := hW
  rw [show 0 + 1 + k = k + 1 by omega, Nat.zero_add] at a1
  obtain ⟨W1, b1, b2, b3, b4⟩ := opens_m a1 (by omega) 4
  have e74 : x2 W1 65 25 (nI 1) 74 = W1 74 := x2_ne (by decide)
  have f4 : MF W (x2 W1 65 25 (nI 1)) (k + 1) w m := b4.tr (MF.s65 (by omega) _ _ _) (Nat.le_refl _) (Nat.le_refl _) (Nat.le_refl _)
  refine ⟨x2 W1 65 25 (nI 1), MS.s0 a1.2.1 a1.2.2.1 ?_, ⟨b2.sta 1, ⟨k + 1, rfl, by rw [e74, b3]; decide⟩, by omega, by omega, fun x hx => ⟨1, by omega, by rw [(f4.2.2.2.1 x hx).2]; exact a5 x hx⟩, by omega⟩, by rw [e74]; exact b3, f4⟩
  unfold f_Md_asks
  rw [show f_Md_isWord 8 W = _ from isWord_at a1.1 (x := 8) (by decide), if_neg h8, if_pos rfl, b1, Option.bind_some]; rfl
theorem ask_body (h : TX B n N q wc) {k i : Nat} (hi : i < N) (hk : k ≤ 8) (h8 : ¬ kdT B n i = 8) : J3 B n N q wc (b_Reader_readAsk_50 (nI k)) k i := by
  have hN := h.1.2.1
  rcases J_sums h hk i hi with ⟨f, j, f1, j1, j2, hcn, hmn⟩ | ⟨j, Ca, Ma, va, da, j1, j2, jk, hGa, hda, hCa, hMa, hcoa, hmoa⟩
  · refine Or.inl ⟨f, j, f1, j1, j2, fun V len hV hl => ?_, fun W w m hW => ?_⟩
    · obtain ⟨V', e1, e2, e3, e4⟩ := hcn V len hV (by omega)
      refine ⟨V', ?_, e2, e3, e4⟩
      unfold b_Reader_readAsk_50
      rw [e1, Option.bind_some, if_neg (fun z => z rfl)]
    · obtain ⟨W1, b1, b2, b3, b4⟩ := ask_open hW hk h8
      exact (hmn W1 _ _ _ b2).y b4.x b1 (by omega) (by omega) j1
  have hkl := kdT_le (n := n) h.2.1 j
  by_cases ca : ¬ (22 ≤ kdT B n j ∧ kdT B n j ≤ 27)
  · refine Or.inl ⟨1, j, by omega, by omega, j2, fun V len hV hl => ?_, fun W w m hW => ?_⟩
    · obtain ⟨V1, e1, e2⟩ := hcoa V len hV (by omega)
      obtain ⟨V2, d1, d2, d3, d4⟩ := wrong_rd h e2.1 j2 1
      refine ⟨V2, ?_, d2, d3, e2.2.2.x d4⟩
      unfold b_Reader_readAsk_50
      rw [e1, Option.bind_some, if_pos (show ¬ (1 : Int32) = 0 by decide), kind_at e2.1 j2 hN, Option.bind_some]
      by_cases c22 : kdT B n j < 22
      · rw [if_pos (show nI (kdT B n j) < 22 from nI_lt (b := 22) c22 (by decide))]; exact d1
      · rw [if_neg (show ¬ nI (kdT B n j) < 22 from nI_nlt (b := 22) (by omega) (by omega)), if_neg (show ¬ nI (kdT B n j) ≤ 27 from nI_ge (a := 27) (by omega) (by omega))]; exact d1
    · obtain ⟨W1, b1, b2, b3, b4⟩ := ask_open hW hk h8
      obtain ⟨c, W2, c1, c2, ⟨w', m', c3⟩, c4, c5⟩ := hmoa W1 _ _ _ b2
      have top2 : f_Md_top W2 = some 4 := by rw [top_m (fr := k + 1) c3.2.2.2.1 (by omega), c4.2.2.1 _ (by omega), b3]
      obtain ⟨x1, x2', x3⟩ := err_m c3.1 c3.2.1 1
      exact ⟨1 + c + 1, _, by omega, (b1.tr c2).tr (MS.s2 c3.2.1 c3.2.2.1 (by rw [left_go c3.1 jk top2, if_neg ca])), x1, x2', b4.x.tr (c4.x.tr x3)⟩
  have ca : 22 ≤ kdT B n j ∧ kdT B n j ≤ 27 := Decidable.of_not_not ca
  have hj1 : j + 1 < N := h.nx j2 (by omega)
  have hc : ∀ {V : xV} {len : Nat}, CS B n N q wc V i len → len + k ≤ i → ∃ V2, CE B n N q wc V V2 (j + 1) len Ca ∧ b_Reader_readAsk_50 (nI k) V = Option.bind (f_Reader_readSum 9 (nI k) V2) fun p19 => if ¬ p19.1 = 0 then (Option.bind (f_Reader_emitIf 1 (cK (kdT B n j)) p19.2) fun p22 => if ¬ (xrem (nI k) 2) = 1 then (Option.bind (f_Reader_emitIf 0 (-9) p22) fun p25 => some (1, p25)) else (Option.bind (f_Reader_emitIf 1 (-9) p22) fun p27 => some (1, p27))) else some (0, p19.2) := by
    intro V len hV hl
    obtain ⟨V1, e1, e2⟩ := hcoa V len hV (by omega)
    have ha := adv h.2.2.1 e2.1
    have tot := e2.tr ha
    rw [List.append_nil] at tot
    refine ⟨_, tot, ?_⟩
    unfold b_Reader_readAsk_50
    rw [e1, Option.bind_some, if_pos (show ¬ (1 : Int32) = 0 by decide), kind_at e2.1 j2 hN, Option.bind_some, if_neg (show ¬ nI (kdT B n j) < 22 from nI_nlt (b := 22) ca.1 (by omega)), if_pos (show nI (kdT B n j) ≤ 27 from nI_le (b := 27) ca.2 (by decide))]
    rfl
  have hm : ∀ {W : xV} {w m : Nat}, S3 B n wc W i k w m → ∃ c W6, c ≤ j - i + 2 ∧ MS c W W6 ∧ S2 B n wc W6 (j + 1) (k + 2) k w (m + Ma.length) ∧ W6 75 (k + 2) = mo (kdT B n j) ∧ W6 74 (k + 1) = 5 ∧ MR W W6 (k + 1) w m Ma := by
    intro W w m hW
    obtain ⟨W1, b1, b2, b3, b4⟩ := ask_open hW hk h8
    obtain ⟨c, W2, c1, c2, ⟨w', m', c3⟩, c4, c5⟩ := hmoa W1 _ _ _ b2
    have top2 : f_Md_top W2 = some 4 := by rw [top_m (fr := k + 1) c3.2.2.2.1 (by omega), c4.2.2.1 _ (by omega), b3]
    obtain ⟨W3, d1, d2, d3⟩ := c5 3 (Or.inr rfl)
    have e15 := told_at d2.1 ca.1 ca.2
    have e19 : x2 W3 75 (k + 2) (mo (kdT B n j)) 65 19 = nI (k + 1 + 1) := by rw [x2_ne (by decide)]; exact d2.2.2.2.1
    have hv : MV B n wc (x2 (x2 W3 75 (k + 2) (mo (kdT B n j))) 74 (k + 1) 5) j 2 (k + 2) k w (m + Ma.length) := d2.rw (by rw [x2_ne (by decide), x2_ne (by decide)]) (by rw [x2_ne (by decide), x2_ne (by decide)])
    obtain ⟨W5, g1, g2, g3⟩ := hv.next h.1 hj1
    have f5 : MF W3 (x2 W5 65 25 (nI 1)) (k + 1) w (m + Ma.length) := (MF.s75 (by omega)).tr ((MF.s74 (by omega)).tr ((MF.nf g3 _ _ _).tr (MF.s65 (by omega) _ _ _) (Nat.le_refl _) (Nat.le_refl _) (Nat.le_refl _)) (Nat.le_refl _) (Nat.le_refl _) (Nat.le_refl _)) (Nat.le_refl _) (Nat.le_refl _) (Nat.le_refl _)
    have mr : MR W (x2 W5 65 25 (nI 1)) (k + 1) w m Ma := by
      have := MR.tr (M2 := []) (MR.fm (m' := m) b4 d3 (by omega) (Nat.le_refl _)) ⟨trivial, f5⟩ (Nat.le_refl _) (Nat.le_refl _)
      rw [List.append_nil] at this
      exact this
    have e74 : x2 W5 65 25 (nI 1) 74 (k + 1) = 5 := by rw [x2_ne (by decide), g3 74 (k + 1) (by omega), x2_at]
    obtain ⟨a1, a2, a3, a4, a5, a6⟩ := hW
    refine ⟨1 + c + 1, x2 W5 65 25 (nI 1), by omega, (b1.tr c2).tr (MS.s2 c3.2.1 c3.2.2.1 ?_), ⟨g2.sta 1, ⟨k + 1, rfl, by rw [e74]; decide⟩, by omega, by omega, fun x hx => ⟨1, by omega, by rw [(mr.2.2.2.2.1 x hx).2]; exact a5 x hx⟩, by omega⟩, by rw [x2_ne (by decide), g3 75 (k + 2) (by omega), x2_ne (by decide), x2_at], e74, mr⟩
    rw [left_go c3.1 jk top2, if_pos ca, d1, Option.bind_some, d2.2.2.2.1, if_pos (xI_ok (by omega) (by decide)), cl (by omega), e15, e19, nI_pred, if_pos (xI_ok (by omega) (by decide)), cl (by omega), g1, Option.bind_some]
    rfl
  rcases J_sums h hk (j + 1) hj1 with ⟨f, j', f1, k1, k2, hcn, hmn⟩ | ⟨j', Cb, Mb, vb, db, k1, k2, kk, hGb, hdb, hCb, hMb, hcob, hmob⟩
  · refine Or.inl ⟨f, j', f1, by omega, k2, fun V len hV hl => ?_, fun W w m hW => ?_⟩
    · obtain ⟨V2, e1, e2⟩ := hc hV hl
      obtain ⟨V', g1, g2, g3, g4⟩ := hcn V2 _ e1.1 (by omega)
      exact ⟨V', by rw [e2, g1, Option.bind_some, if_neg (fun z => z rfl)], g2, g3, e1.2.2.x g4⟩
    · obtain ⟨c, W6, b1, b2, b3, -, -, b6⟩ := hm hW
      exact (hmn W6 _ _ _ b3).y b6.2.x b2 (by omega) (by omega) k1
  · have hG1 := good_bin (ty := false) hGa hGb (kdT B n j) 0 (Or.inr (Or.inl ⟨by unfold opA; omega, rfl, rfl⟩))
    have hG2 := good_un hG1 8 405 (Or.inr ⟨rfl, rfl, rfl⟩) k
    have l1 : (Ca ++ Cb ++ [cK (kdT B n j)]).length = Ca.length + Cb.length + 1 := by simp only [List.length_append]; rfl
    have l2 : (Ma ++ Mb ++ [(mo (kdT B n j), (0 : Int32))]).length = Ma.length + Mb.length + 1 := by simp only [List.length_append]; rfl
    refine Or.inr ⟨j', _, _, _, _, by omega, k2, hG2, by omega, ?_, ?_, fun V len hV hl => ?_, fun W w m hW => ?_⟩
    · rw [List.length_append, l1]
      by_cases c : k % 2 = 1
      · rw [if_pos c]
        show _ + 1 ≤ _
        omega
      · rw [if_neg c]
        show _ + 0 ≤ _
        omega
    · rw [List.length_append, l2, List.length_replicate]
      omega
    · obtain ⟨V2, e1, e2⟩ := hc hV hl
      obtain ⟨V3, g1, g2⟩ := hcob V2 _ e1.1 (by omega)
      have t1 := e1.tr g2
      obtain ⟨V4, p1, p2⟩ := emit_at h.2.2.1 t1.1 true (fun _ => by rw [List.length_append]; omega) (cK (kdT B n j))
      have t2 := t1.tr p2
      rw [e2, g1, Option.bind_some, if_pos (show ¬ (1 : Int32) = 0 by decide), show f_Reader_emitIf 1 (cK (kdT B n j)) V3 = some V4 from p1, Option.bind_some, show xrem (nI k) 2 = nI (k % 2) from xrem_nI (d := 2) (by omega) (by decide) (by decide)]
      have lt2 : (Ca ++ Cb ++ (if true = true then [cK (kdT B n j)] else [])).length = Ca.length + Cb.length + 1 := l1
      by_cases c : k % 2 = 1
      · obtain ⟨V5, r1, r2⟩ := emit_at h.2.2.1 t2.1 true (fun _ => by rw [lt2]; omega) (cK 8)
        rw [if_neg (fun z => z (by rw [c]; rfl)), show f_Reader_emitIf 1 (-9) V4 = some V5 from r1, Option.bind_some, if_pos c]
        exact ⟨V5, rfl, t2.tr r2⟩
      · obtain ⟨V5, r1, r2⟩ := emit_at h.2.2.1 t2.1 false (fun z => by cases z) (cK 8)
        rw [if_pos (show ¬ nI (k % 2) = 1 from fun z => c (nI_small (b := 1) (by omega) (by decide) z)), show f_Reader_emitIf 0 (-9) V4 = some V5 from r1, Option.bind_some, if_neg c]
        exact ⟨V5, rfl, t2.tr r2⟩
    · obtain ⟨c, W6, b1, b2, b3, b4, b5, b6⟩ := hm hW
      obtain ⟨c', W7, p1, p2, ⟨w', m', p3⟩, p4, p5⟩ := hmob W6 _ _ _ b3
      obtain ⟨W8, r1, r2, r3⟩ := p5 3 (Or.inr rfl)
      have top7 : f_Md_top W7 = some 5 := by rw [top_m (fr := k + 1) p3.2.2.2.1 (by omega), p4.2.2.1 _ (by omega), b5]
      have e75 : W8 75 (k + 2) = mo (kdT B n j) := by rw [r3.2.2.1.2 _ (by omega)]; exact b4
      have hf := r2.f1 (k + 1)
      have hq : MR W8 (eMm (x2 W8 65 19 (nI (k + 1))) (m + Ma.length + Mb.length) (mo (kdT B n j)) 0) 1 w (m + Ma.length + Mb.length) [(mo (kdT B n j), 0)] := MR.fm (m' := m) (MF.s65 (by omega) _ _ _) (eMm_R _ _ _ 0 1 w) (Nat.le_refl _) (Nat.le_refl _)
      have m6 : MR W W6 1 w m Ma := ⟨b6.1, b6.2.le (by omega) (Nat.le_refl _) (Nat.le_refl _)⟩
      have m8 : MR W W8 1 w m (Ma ++ Mb) := m6.tr ⟨r3.1, r3.2.le (by omega) (Nat.le_refl _) (Nat.le_refl _)⟩ (Nat.le_refl _) (Nat.le_refl _)
      have m9 := m8.tr (M2 := [(mo (kdT B n j), 0)]) (by rw [List.length_append, ← Nat.add_assoc]; exact hq) (Nat.le_refl _) (Nat.le_refl _)
      obtain ⟨a1, a2, a3, a4, a5, a6⟩ := hW
      have e74 : ∀ x, x < k + 1 → eMm (x2 W8 65 19 (nI (k + 1))) (m + Ma.length + Mb.length) (mo (kdT B n j)) 0 74 x = W 74 x := fun x hx => by rw [eMm_r _ _ _ _ (by decide) (by decide) (by decide), x2_ne (by decide), r3.2.2.2.1 x (by omega)]; exact b6.2.2.2.1 x hx
      have hem := hf.em (mo (kdT B n j)) 0
      obtain ⟨W10, s1, s2, s3⟩ := aover_m (g := 0) (o := 0) k 2000 (m + Ma.length + Mb.length + 1) (eMm (x2 W8 65 19 (nI (k + 1))) (m + Ma.length + Mb.length) (mo (kdT B n j)) 0) (by rw [show 0 + 1 + k = k + 1 by omega, Nat.zero_add]; exact hem) (fun x hx => by rw [e74 _ (by omega)]; exact a2 x hx) (by rw [e74 0 (by omega), a3]; decide) (by omega) (by omega) (by omega)
      refine ⟨c + c' + 1, W10, by omega, (b2.tr p2).tr (MS.s2 p3.2.1 p3.2.2.1 ?_), ?_, m9.tr (by rw [l2, ← Nat.add_assoc, ← Nat.add_assoc]; exact s3) (Nat.le_refl _) (Nat.le_refl _)⟩
      · rw [go_65 p3.1 kk, top7, Option.bind_some]
        unfold b_Md_goesOn_65
        rw [if_pos (by decide)]
        unfold b_Md_goesOn_116
        rw [if_pos (by decide)]
        unfold b_Md_goesOn_181
        rw [if_neg (fun z => z rfl), r1, Option.bind_some, r2.2.2.2.1, if_pos (xI_ok (by omega) (by decide)), cl (by omega), e75, show nI (k + 2) - 1 = nI (k + 1) from nI_pred _, emits_m hf.2.2.2.2.2.2.1 (by omega), Option.bind_some]
        unfold f_Md_askIsOver
        rw [s1, Option.bind_some]
      · rw [List.length_append, l2, List.length_replicate]
        have : m + (Ma.length + Mb.length + 1 + k) = m + Ma.length + Mb.length + 1 + k := by omega
        rw [this]
        exact s2
end AE

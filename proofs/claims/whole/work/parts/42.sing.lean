/-! PURE: sing and heard -/
theorem nI_m1 {n : Nat} (h : n < 2 ^ 31) : ¬ nI n = -1 := fun q => by
  have h1 := congrArg Int32.toInt q
  rw [nI_toInt h, show (-1 : Int32).toInt = -1 from by decide] at h1
  omega
/-- both readings of a song: both refuse it, or both hold the same words -/
theorem song_of {V : xV} (ht : tp V) (a1 a2 : Int32) : (∃ V1 V2, f_Ww_songFits a1 a2 V = some (0, V1) ∧ (∀ r, r ≠ 63 → r ≠ 64 → V1 r = V r) ∧ f_Md_songOf a1 a2 V1 = some (-1, V2) ∧ ∀ r, r ≠ 86 → V2 r = V1 r) ∨ ∃ (a c w : Nat) (g : Nat → Nat) (V1 : xV), a1 = nI a ∧ a2 = nI c ∧ c < 10 ∧ 0 < w ∧ a + w ≤ 30 ∧ (∀ i, i < w → g i < 10) ∧ f_Ww_songFits a1 a2 V = some (1, V1) ∧ V1 63 0 = nI w ∧ (∀ W : xV, (∀ r, r ≠ 5 → W r = V1 r) → ∀ i, i < w → f_Song_skyOf (nI i) a2 W = some (nI (g i))) ∧ (∀ r, r ≠ 63 → r ≠ 64 → V1 r = V r) ∧ ∀ U : xV, U 18 = V 18 → U 65 = V 65 → U 68 = V 68 → ∃ V2, f_Md_songOf a1 a2 U = some (nI w, V2) ∧ (∀ i, i < w → V2 86 i = nI (g i)) ∧ ∀ r, r ≠ 86 → V2 r = U r := by
  rcases wi a1 30 29 30 (by decide) rfl (by decide) with ⟨h1, h2⟩ | ⟨a, ha, rfl, h1, h2⟩
  · left
    refine ⟨V, V, ?_, fun _ _ _ => rfl, ?_, fun _ _ => rfl⟩
    · unfold f_Ww_songFits; rw [h1, if_pos rfl]
    · unfold f_Md_songOf f_Md_isDay; rw [h2, if_pos rfl]
  rcases wi a2 10 9 10 (by decide) rfl (by decide) with ⟨g1, g2⟩ | ⟨c, hc, rfl, g1, g2⟩
  · left
    refine ⟨V, V, ?_, fun _ _ _ => rfl, ?_, fun _ _ => rfl⟩
    · unfold f_Ww_songFits; rw [h1, g1, if_neg (by decide), if_pos rfl]
    · unfold f_Md_songOf f_Md_isDay; rw [h2, g2, if_neg (by decide), if_neg (by decide)]
  obtain ⟨n, hn⟩ := ht.n
  obtain ⟨W', q1, q2, q3, q4⟩ := song_c hn n 0 2000 (x2 V 63 0 0) (by omega) (by have := hn.1; omega) ⟨x2_at _ _ _ _, fun w hw => absurd hw (Nat.not_lt_zero _), fun r r1 r2 => x2_ne r1⟩
  have hw := sW_le (bc V) n
  have hn3 := hn.1
  have tpU : ∀ U : xV, U 18 = V 18 → U 65 = V 65 → U 68 = V 68 → tpM U n ∧ bc U = bc V := by
    intro U u2 u3 u4
    have e : bc U = bc V := by unfold bc; rw [u2]
    refine ⟨?_, e⟩
    refine ⟨hn.1, trivial, by rw [u3]; exact hn.2.2.1, fun i hi => ?_⟩
    rw [e, u4]; exact ⟨(hn.2.2.2 i hi).1, trivial, (hn.2.2.2 i hi).2.2⟩
  have mod : ∀ U : xV, U 18 = V 18 → U 65 = V 65 → U 68 = V 68 → ((∀ j, 0 ≤ j → j < n → okc (bc V j)) → ∃ V2, f_Md_words (nI c) U = some (nI (sW (bc V) n), V2) ∧ sgM U V2 c (sW (bc V) n) n) ∧ (¬ (∀ j, 0 ≤ j → j < n → okc (bc V j)) → ∃ V2, f_Md_words (nI c) U = some (0, V2) ∧ ∀ r, r ≠ 86 → V2 r = U r) := by
    intro U u2 u3 u4
    obtain ⟨t1, t2⟩ := tpU U u2 u3 u4
    have := wrds_m t1 hc n 0 2000 U (by omega) (by omega) ⟨fun u hu => absurd hu (Nat.not_lt_zero _), fun _ _ => rfl⟩ (fun _ z => by cases z)
    rw [t2] at this
    exact this
  have fits : ∀ (x : Int32) (W : xV), f_Song_read V = some (x, W) → f_Ww_songFits (nI a) (nI c) V = (if x = 0 then some (0, W) else (if 30 < (nI a + (W 63 0)) then some (0, W) else some (1, W))) := by
    intro x W hp
    unfold f_Ww_songFits
    rw [h1, g1, if_neg (by decide), if_neg (by decide), hp, Option.bind_some]
  have fitm : ∀ (U : xV) (x : Int32) (W : xV), f_Md_words (nI c) U = some (x, W) → f_Md_songOf (nI a) (nI c) U = (if x = 0 then some ((-1), W) else (if (nI a + x) ≤ 30 then some (x, W) else some ((-1), W))) := by
    intro U x W hp
    unfold f_Md_songOf f_Md_isDay
    rw [h2, g2, if_neg (by decide), if_pos (by decide), hp, Option.bind_some]
  by_cases ok : ∀ j, 0 ≤ j → j < n → okc (bc V j)
  · have r1 : f_Song_read V = some (if 0 < sW (bc V) n then 1 else 0, W') := q3 ok
    by_cases c0 : 0 < sW (bc V) n
    · rw [if_pos c0] at r1
      by_cases c1 : a + sW (bc V) n ≤ 30
      · right
        refine ⟨a, c, sW (bc V) n, fun i => (c + sV (bc V) i n) % 10, W', rfl, rfl, hc, c0, c1, fun i _ => Nat.mod_lt _ (by decide), ?_, q1.1, fun W hW i hi => ?_, q2, fun U u2 u3 u4 => ?_⟩
        · rw [fits _ _ r1]
          rw [if_neg (by decide), q1.1, nI_add, if_neg (show ¬ (30 : Int32) < nI (a + sW (bc V) n) from nI_nlt (b := a + sW (bc V) n) (a := 30) c1 (by decide))]
        · unfold f_Song_skyOf
          have hv := sV_le (bc V) i n
          rw [show (300 : Int32) = nI 300 from rfl, within_in (by omega) (by decide), if_neg (by decide), if_pos (xI_ok (by omega) (by decide)), cl (by omega), hW 64 (by decide), q1.2.1 i hi, nI_add, show xrem (nI (sV (bc V) i n + c)) 10 = nI ((sV (bc V) i n + c) % 10) from xrem_nI (d := 10) (by omega) (by decide) (by decide), Nat.add_comm]
        · obtain ⟨V2, m1, m2⟩ := (mod U u2 u3 u4).1 ok
          refine ⟨V2, ?_, fun i hi => ?_, m2.2⟩
          · rw [fitm U _ _ m1]
            rw [if_neg (nI_ne0 c0 (by omega)), nI_add, if_pos (show nI (a + sW (bc V) n) ≤ 30 from nI_le (b := 30) c1 (by decide))]
          · have := m2.1 i hi
            rw [(tpU U u2 u3 u4).2] at this; exact this
      · left
        obtain ⟨V2, m1, m2⟩ := (mod W' (q2 18 (by decide) (by decide)) (q2 65 (by decide) (by decide)) (q2 68 (by decide) (by decide))).1 ok
        refine ⟨W', V2, ?_, q2, ?_, m2.2⟩
        · rw [fits _ _ r1]
          rw [if_neg (by decide), q1.1, nI_add, if_pos (show (30 : Int32) < nI (a + sW (bc V) n) from nI_lt (a := 30) (by omega) (by omega))]
        · rw [fitm W' _ _ m1]
          rw [if_neg (nI_ne0 c0 (by omega)), nI_add, if_neg (show ¬ nI (a + sW (bc V) n) ≤ 30 from nI_ge (a := 30) (by omega) (by omega))]
    · rw [if_neg c0] at r1
      left
      obtain ⟨V2, m1, m2⟩ := (mod W' (q2 18 (by decide) (by decide)) (q2 65 (by decide) (by decide)) (q2 68 (by decide) (by decide))).1 ok
      refine ⟨W', V2, ?_, q2, ?_, m2.2⟩
      · rw [fits _ _ r1]; rfl
      · rw [fitm W' _ _ m1, show sW (bc V) n = 0 by omega]; rfl
  · left
    obtain ⟨W2, r1, r2⟩ := q4 ok
    obtain ⟨V2, m1, m2⟩ := (mod W2 (r2 18 (by decide) (by decide)) (r2 65 (by decide) (by decide)) (r2 68 (by decide) (by decide))).2 ok
    refine ⟨W2, V2, ?_, r2, ?_, m2⟩
    · rw [fits _ _ r1]; rfl
    · rw [fitm W2 _ _ m1]; rfl
theorem sing_c {a c w : Nat} {g : Nat → Nat} {V1 : xV} (h : a + w ≤ 30) (h63 : V1 63 0 = nI w) (hs : ∀ W : xV, (∀ r, r ≠ 5 → W r = V1 r) → ∀ i, i < w → f_Song_skyOf (nI i) (nI c) W = some (nI (g i))) : ∀ (m i f : Nat) (V : xV), i + m = w → m < f → (∀ r, r ≠ 5 → V r = V1 r) → ∃ V', g_Ww_sing_13 f (nI a) (nI c) (nI i) V = some (nI w, x2 V' 17 1 0) ∧ (∀ r, r ≠ 5 → V' r = V1 r) ∧ (∀ j, i ≤ j → j < w → V' 5 (a + j) = nI (g j)) ∧ ∀ d, d < a + i ∨ a + w ≤ d → V' 5 d = V 5 d
  | 0, i, f + 1, V, h1, h2, h3 => by
    refine ⟨V, ?_, h3, fun j _ _ => by omega, fun _ _ => rfl⟩
    show b_Ww_sing_13 _ _ _ _ _ = _
    unfold b_Ww_sing_13
    rw [h3 63 (by decide), h63, if_pos (nI_le (by omega) (by omega)), x2_ne (by decide), h3 63 (by decide), h63]
  | m + 1, i, f + 1, V, h1, h2, h3 => by
    obtain ⟨V', e, q1, q2, q3⟩ := sing_c h h63 hs m (i + 1) f (x2 V 5 (a + i) (nI (g i))) (by omega) (by omega) (fun r hr => by rw [x2_ne hr]; exact h3 r hr)
    refine ⟨V', ?_, q1, fun j j1 j2 => ?_, fun d hd => ?_⟩
    · show b_Ww_sing_13 _ _ _ _ _ = _
      unfold b_Ww_sing_13
      rw [h3 63 (by decide), h63, if_neg (nI_ge (by omega) (by omega)), nI_add, show (30 : Int32) = nI 30 from rfl, within_in (by omega) (by decide), if_neg (by decide), hs V h3 i (by omega), Option.bind_some, if_pos (xI_ok (by omega) (by decide)), cl (by omega), nI_1]
      exact e
    · by_cases z : j = i
      · subst z; rw [q3 _ (by omega), x2_at]
      · exact q2 j (by omega) j2
    · rw [q3 d (by omega), x2_off (by omega)]
theorem sing_m {a w : Nat} {g : Nat → Nat} (h : a + w ≤ 30) : ∀ (m i f : Nat) (V : xV), i + m = w → m < f → (∀ j, j < w → V 86 j = nI (g j)) → ∃ V', g_Md_sing_17 f (nI a) (nI w) (nI i) V = some (nI w, x2 V' 65 3 0) ∧ (∀ r, r ≠ 66 → V' r = V r) ∧ (∀ j, i ≤ j → j < w → V' 66 (10 + (a + j)) = nI (g j)) ∧ ∀ d, d < 10 + (a + i) ∨ 10 + (a + w) ≤ d → V' 66 d = V 66 d
  | 0, i, f + 1, V, h1, h2, h3 => by
    refine ⟨V, ?_, fun _ _ => rfl, fun j _ _ => by omega, fun _ _ => rfl⟩
    show b_Md_sing_17 _ _ _ _ _ = _
    unfold b_Md_sing_17
    rw [if_pos (nI_le (by omega) (by omega))]
  | m + 1, i, f + 1, V, h1, h2, h3 => by
    obtain ⟨V', e, q1, q2, q3⟩ := sing_m h m (i + 1) f (x2 V 66 (10 + (a + i)) (nI (g i))) (by omega) (by omega) (fun j hj => by rw [x2_ne (by decide)]; exact h3 j hj)
    refine ⟨V', ?_, fun r hr => by rw [q1 r hr, x2_ne hr], fun j j1 j2 => ?_, fun d hd => ?_⟩
    · show b_Md_sing_17 _ _ _ _ _ = _
      unfold b_Md_sing_17
      rw [if_neg (nI_ge (by omega) (by omega)), if_pos (xI_ok (by omega) (by decide)), show (10 : Int32) + nI a = nI (10 + a) from nI_add 10 a, nI_add, if_pos (xI_ok (by omega) (by decide)), cl (by omega), cl (by omega), h3 i (by omega), nI_1, Nat.add_assoc]
      exact e
    · by_cases z : j = i
      · subst z; rw [q3 _ (by omega), x2_at]
      · exact q2 j (by omega) j2
    · rw [q3 d (by omega), x2_off (by omega)]
theorem op_sing {LW : xV → Nat → Prop} (hF : lwF LW) : P_sing (Inv LW) := by
  intro a1 a2 V L hI
  obtain ⟨S, K, b1, b2, b3, b4, b5, b6, b7, b8, b9, b10, b11⟩ := id hI
  rcases song_of b8 a1 a2 with ⟨V1, V2, e1, u1, e2, u2⟩ | ⟨a, c, w, g, V1, rfl, rfl, hc, hw, haw, hg, e1, e63, hs, u1, hm⟩
  · refine ⟨-1, V1, V2, ?_, ?_, hI.scratch hF (fun r hr => by rw [u2 r (by omega), u1 r (by omega) (by omega)]) (fun k _ => by rw [u2 46 (by omega), u1 46 (by omega) (by omega)]) (by rw [u2 51 (by omega), u1 51 (by omega) (by omega)]) (fun k _ => by rw [u2 65 (by omega), u1 65 (by omega) (by omega)]) (fun r _ _ => by rw [u2 r (by omega), u1 r (by omega) (by omega)])⟩
    · unfold f_Ww_sing; rw [e1, Option.bind_some]; rfl
    · unfold f_Md_sing; rw [e2, Option.bind_some]; rfl
  · obtain ⟨X, x1, x2', x3, x4⟩ := sing_c haw e63 hs w 0 2000 V1 (by omega) (by omega) (fun _ _ => rfl)
    have hX : ∀ r, r ≠ 5 → r ≠ 63 → r ≠ 64 → r ≠ 17 → x2 X 17 1 0 r = V r := fun r r1 r2 r3 r4 => by rw [x2_ne r4, x2' r r1, u1 r r2 r3]
    obtain ⟨Y, y1, y2, y3⟩ := hm (x2 X 17 1 0) (hX 18 (by decide) (by decide) (by decide) (by decide)) (hX 65 (by decide) (by decide) (by decide) (by decide)) (hX 68 (by decide) (by decide) (by decide) (by decide))
    obtain ⟨Z, z1, z2, z3, z4⟩ := sing_m haw w 0 2000 Y (by omega) (by omega) y2
    have hZ : ∀ r, r ≠ 5 → r ≠ 63 → r ≠ 64 → r ≠ 17 → r ≠ 65 → r ≠ 66 → r ≠ 86 → x2 Z 65 3 0 r = V r := fun r r1 r2 r3 r4 r5 r6 r7 => by rw [x2_ne r5, z2 r r6, y3 r r7]; exact hX r r1 r2 r3 r4
    have h65 : ∀ k, k ≠ 3 → x2 Z 65 3 0 65 k = V 65 k := fun k hk => by rw [x2_off (by omega), z2 65 (by decide), y3 65 (by decide), hX 65 (by decide) (by decide) (by decide) (by decide)]
    have hr' : rok (skS S fun d => if a ≤ d ∧ d < a + w then g (d - a) else S (10 + d)) := skS_r b1 (fun d hd => by
      show (if _ then _ else _) < 10
      by_cases q : a ≤ d ∧ d < a + w
      · rw [if_pos q]; exact hg _ (by omega)
      · rw [if_neg q]; exact b1.2.2.1 d hd)
    refine ⟨nI w, x2 X 17 1 0, x2 Z 65 3 0, ?_, ?_, skS S (fun d => if a ≤ d ∧ d < a + w then g (d - a) else S (10 + d)), K, hr', b2, skS_c (V := V) b1.2.2.2.2.2 b3 (fun d hd => ?_) (fun r r1 r2 => hZ r r2 (by omega) (by omega) (by omega) (by omega) (by omega) (by omega)), skS_m (V := V) b4 (fun d hd => ?_) (fun k hk => ?_), b5.fr (fun r r1 r2 => hZ r (by omega) (by omega) (by omega) (by omega) (by omega) (by omega) (by omega)), b6.fr (hZ 67 (by omega) (by omega) (by omega) (by omega) (by omega) (by omega) (by omega)), by rw [skS_out (by omega)]; exact b7, ⟨0, by omega, ?_, x2_at _ _ _ _, fun i hi => absurd hi (Nat.not_lt_zero _)⟩, b9.fr (fun k _ => by rw [hZ 46 (by omega) (by omega) (by omega) (by omega) (by omega) (by omega) (by omega)]) (h65 4 (by omega)) (h65 5 (by omega)), b10.fr (by rw [hZ 51 (by omega) (by omega) (by omega) (by omega) (by omega) (by omega) (by omega)]) (h65 35 (by omega)) (fun r _ _ => hZ r (by omega) (by omega) (by omega) (by omega) (by omega) (by omega) (by omega)), ?_⟩
    · unfold f_Ww_sing; rw [e1, Option.bind_some, if_pos (show ¬ (1 : Int32) = 0 by decide)]; exact x1
    · unfold f_Md_sing; rw [y1, Option.bind_some, if_pos (nI_m1 (n := w) (by omega))]; exact z1
    · show _ = nI (if _ then _ else _)
      rw [x2_ne (by decide), z2 5 (by decide), y3 5 (by decide), x2_ne (by decide)]
      by_cases q : a ≤ d ∧ d < a + w
      · rw [if_pos q]
        have := x3 (d - a) (by omega) (by omega)
        rw [show a + (d - a) = d by omega] at this; exact this
      · rw [if_neg q, x4 d (by omega), u1 5 (by decide) (by decide)]; exact b3.2.2.1 d hd
    · show _ = nI (if _ then _ else _)
      rw [x2_ne (by decide)]
      by_cases q : a ≤ d ∧ d < a + w
      · rw [if_pos q]
        have := z3 (d - a) (by omega) (by omega)
        rw [show a + (d - a) = d by omega] at this; exact this
      · rw [if_neg q, z4 _ (by omega), y3 66 (by decide), hX 66 (by decide) (by decide) (by decide) (by decide)]; exact b4.2 _ (by omega) (by omega)
    · rw [x2_ne (by decide), z4 k (by omega), y3 66 (by decide), hX 66 (by decide) (by decide) (by decide) (by decide)]
    · rw [x2_ne (by decide), z2 17 (by decide), y3 17 (by decide), x2_at]; rfl
    · rw [skS_out (by omega)]
      exact hF.1 V _ _ (fun r _ _ => hZ r (by omega) (by omega) (by omega) (by omega) (by omega) (by omega) (by omega)) (fun r _ _ => hZ r (by omega) (by omega) (by omega) (by omega) (by omega) (by omega) (by omega)) b11
def hrd (S g : Nat → Nat) (a : Nat) : Nat → Nat
  | 0 => 0
  | i + 1 => hrd S g a i + if S (10 + (a + i)) = g i then 1 else 0
theorem hrd_le (S g : Nat → Nat) (a : Nat) : ∀ i, hrd S g a i ≤ i
  | 0 => Nat.le_refl _
  | i + 1 => by
    have := hrd_le S g a i
    show hrd S g a i + _ ≤ _
    split <;> omega
theorem heard_c {a c w : Nat} {g S : Nat → Nat} {V : xV} (h : a + w ≤ 30) (h63 : V 63 0 = nI w) (hS : pS V 1 S) (hr : rS S) (hg : ∀ i, i < w → g i < 10) (hs : ∀ i, i < w → f_Song_skyOf (nI i) (nI c) V = some (nI (g i))) : ∀ (m i f : Nat), i + m = w → m < f → g_Ww_heard_16 f (nI a) (nI c) (nI (hrd S g a i)) (nI i) V = some (nI (hrd S g a w), V)
  | 0, i, f + 1, h1, h2 => by
    have : i = w := by omega
    subst this
    show b_Ww_heard_16 _ _ _ _ _ _ = _
    unfold b_Ww_heard_16
    rw [h63, if_pos (nI_le (by omega) (by omega))]
  | m + 1, i, f + 1, h1, h2 => by
    rw [← heard_c h h63 hS hr hg hs m (i + 1) f (by omega) (by omega)]
    show b_Ww_heard_16 _ _ _ _ _ _ = _
    unfold b_Ww_heard_16
    have g1 := hg i (by omega)
    have r1 := hr (a + i) (by omega)
    rw [h63, if_neg (nI_ge (by omega) (by omega)), nI_add, show (30 : Int32) = nI 30 from rfl, within_in (by omega) (by decide), if_neg (by decide), if_pos (xI_ok (by omega) (by decide)), hs i (by omega), Option.bind_some, cl (by omega), show V 5 (a + i) = _ from hS (a + i) (by omega), nI_1]
    show _ = g_Ww_heard_16 _ _ _ (nI (hrd S g a i + _)) _ _
    by_cases q : S (10 + (a + i)) = g i
    · rw [if_neg (fun z => z (by rw [q])), if_pos q, nI_1]
    · rw [if_pos (fun z => q (nI_small (by omega) (by omega) z)), if_neg q]; rfl
theorem heard_m {a w : Nat} {g S : Nat → Nat} {V : xV} (h : a + w ≤ 30) (hS : pm V 66 S) (hr : rS S) (hg : ∀ i, i < w → g i < 10) (hs : ∀ i, i < w → V 86 i = nI (g i)) : ∀ (m i f : Nat), i + m = w → m < f → g_Md_heard_13 f (nI a) (nI w) (nI (hrd S g a i)) (nI i) V = some (nI (hrd S g a w), V)
  | 0, i, f + 1, h1, h2 => by
    have : i = w := by omega
    subst this
    show b_Md_heard_13 _ _ _ _ _ _ = _
    unfold b_Md_heard_13
    rw [if_pos (nI_le (by omega) (by omega)), if_pos (nI_m1 (n := i) (by omega))]
  | m + 1, i, f + 1, h1, h2 => by
    rw [← heard_m h hS hr hg hs m (i + 1) f (by omega) (by omega)]
    show b_Md_heard_13 _ _ _ _ _ _ = _
    unfold b_Md_heard_13
    have g1 := hg i (by omega)
    have r1 := hr (a + i) (by omega)
    rw [if_neg (nI_ge (by omega) (by omega)), show (10 : Int32) + nI a = nI (10 + a) from nI_add 10 a, nI_add, if_pos (xI_ok (by omega) (by decide)), if_pos (xI_ok (by omega) (by decide)), cl (by omega), cl (by omega), hs i (by omega), Nat.add_assoc, hS.2 _ (by omega) (by omega), nI_1]
    show _ = g_Md_heard_13 _ _ _ (nI (hrd S g a i + _)) _ _
    by_cases q : S (10 + (a + i)) = g i
    · rw [if_neg (fun z => z (by rw [q])), if_pos q, nI_1]
    · rw [if_pos (fun z => q (nI_small (by omega) (by omega) z)), if_neg q, nI_a0]; rfl
theorem op_heard {LW : xV → Nat → Prop} (hF : lwF LW) : P_heard (Inv LW) := by
  intro a1 a2 V L hI
  obtain ⟨S, K, b1, b2, b3, b4, b5, b6, b7, b8, b9, b10, b11⟩ := id hI
  have fr : ∀ V1 V2 : xV, (∀ r, r ≠ 63 → r ≠ 64 → V1 r = V r) → (∀ r, r ≠ 86 → V2 r = V1 r) → Inv LW V2 L := fun V1 V2 u1 u2 => hI.scratch hF (fun r hr => by rw [u2 r (by omega), u1 r (by omega) (by omega)]) (fun k _ => by rw [u2 46 (by omega), u1 46 (by omega) (by omega)]) (by rw [u2 51 (by omega), u1 51 (by omega) (by omega)]) (fun k _ => by rw [u2 65 (by omega), u1 65 (by omega) (by omega)]) (fun r _ _ => by rw [u2 r (by omega), u1 r (by omega) (by omega)])
  rcases song_of b8 a1 a2 with ⟨V1, V2, e1, u1, e2, u2⟩ | ⟨a, c, w, g, V1, rfl, rfl, hc, hw, haw, hg, e1, e63, hs, u1, hm⟩
  · refine ⟨-1, V1, V2, ?_, ?_, fr V1 V2 u1 u2⟩
    · unfold f_Ww_heard; rw [e1, Option.bind_some]; rfl
    · unfold f_Md_heard; rw [e2, Option.bind_some]
      show b_Md_heard_13 _ _ _ _ _ _ = _
      unfold b_Md_heard_13
      rw [if_pos (show (-1 : Int32) ≤ 0 by decide), if_neg (show ¬ ¬ (-1 : Int32) = -1 by decide)]
  · obtain ⟨Y, y1, y2, y3⟩ := hm V1 (u1 18 (by decide) (by decide)) (u1 65 (by decide) (by decide)) (u1 68 (by decide) (by decide))
    refine ⟨nI (hrd S g a w), V1, Y, ?_, ?_, fr V1 Y u1 y3⟩
    · unfold f_Ww_heard; rw [e1, Option.bind_some, if_pos (show ¬ (1 : Int32) = 0 by decide)]
      exact heard_c haw e63 (b3.2.2.1.fr (u1 5 (by decide) (by decide)) (fun _ _ _ => rfl)) b1.2.2.1 hg (hs V1 (fun _ _ => rfl)) w 0 2000 (by omega) (by omega)
    · unfold f_Md_heard; rw [y1, Option.bind_some]
      exact heard_m haw (b4.fr (by rw [y3 66 (by decide), u1 66 (by decide) (by decide)])) b1.2.2.1 hg y2 w 0 2000 (by omega) (by omega)

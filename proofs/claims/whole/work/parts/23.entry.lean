/-! THE ENTRY: the law's first rows, and the state that the Statement gives (printed by wip/whole/entry.py) -/
def V00 : xV := fun _ _ => 0
def L00 : xL := fun _ _ => 0
def VW0 : xV := x2 (x2 (x2 (xfill (x2 (xfill (x2 V00 1 10 (-1)) 7 10 1) 9 10 (-1)) 15 10 1) 46 2 (-1)) 46 4 (nI 20)) 51 1 (-1)
theorem laws_fun : va_up (va_up (va_up (va_up (fun _ => none) 0 (some 26)) 1 (some 31)) 2 (some 36)) 3 (some 41) = fun j => if j < 4 then some (26 + 5 * j) else none := by
  funext j
  rcases (show j = 0 ∨ j = 1 ∨ j = 2 ∨ j = 3 ∨ 4 ≤ j by omega) with rfl | rfl | rfl | rfl | h
  · rfl
  · rfl
  · rfl
  · rfl
  · rw [if_neg (by omega)]
    simp only [va_up]
    rw [if_neg (by omega), if_neg (by omega), if_neg (by omega), if_neg (by omega)]
theorem k_Ww : xRuns 3 M_Ww_init [.ref 0] ([] ++ [.inr (11, [1, 1, 1, 1, 1, 1, 1, 1, 1])], V00, L00) (fun o h' => o = none ∧ h' = (SHW, VW0, L00)) := by
  have h := k_Ww_init_0 [] rfl V00 L00 (fun _ _ _ => rfl) (fun _ _ => rfl)
  rw [laws_fun] at h
  exact h
theorem vw_zero : xzr VW0 65 := (xz2 (xz2 (xz2 (xzf (xz2 (xzf (xz2 (xzw (V := V00) (m := 0) (m2 := 65) (fun _ _ _ => rfl) (by decide)) (by decide)) (by decide)) (by decide)) (by decide)) (by decide)) (by decide)) (by decide))
theorem law_entry {Inv : xV → xL → Prop} {G0 : xG} {b0 : Nat} (hP : P_all Inv) (hL : G0.2.2.2.2.1 ≤ 3072) (V2 : xV) (hc : f_Md_copies 1 (VM0 VW0) = some V2) (hI : Inv V2 L00) : X M_law room_1 (xZ0 G0 #[.ref b0] lw_Z) [] V00 L00 0 0 0 [(0, .retAddr 0)] [] := by
  refine x_newA (sh := []) (suf := []) (sh2 := [.inr (11, [1, 1, 1, 1, 1, 1, 1, 1, 1])]) (r := 0) (cu2 := 1) (su2 := 9) n_Lw_7 rfl rfl rfl (fun _ => rfl) (Nat.le_of_ble_eq_true rfl) (Nat.le_of_ble_eq_true rfl) rfl rfl d_law_0 ?_
  refine x_dup d_law_3 rfl ?_
  refine x_callI1 (V2 := VW0) (sh2 := SHW) (cu2 := 65) (su2 := 3874) e_Lw_9 (as := []) k_Ww rfl rfl (Nat.le_of_ble_eq_true rfl) ⟨Nat.le_of_ble_eq_true rfl, Nat.le_of_ble_eq_true rfl, Nat.le_of_ble_eq_true rfl, Nat.le_of_ble_eq_true rfl⟩ (Nat.le_of_ble_eq_true rfl) rfl rfl d_law_4 ?_
  refine x_astore_n [(1, .ref 0), (0, .retAddr 0)] d_law_7 rfl (Nat.le_of_ble_eq_true rfl) rfl ?_
  rw [show SHW = SHW ++ [] from (List.append_nil _).symm]
  refine x_newA (sh := SHW) (suf := []) (sh2 := [.inr (12, [1, 1, 1, 0, 0, 0, 1, 1, 1, 1, 1, 0, 0, 0, 0, 0, 0, 0, 0, 0, 1, 1, 0, 1, 1, 0, 0, 0, 1, 1, 0, 1, 1, 1, 1, 0, 1, 1, 1])]) (r := 65) (cu2 := 66) (su2 := 3913) n_Lw_10 rfl rfl rfl (vw_zero 65 (Nat.le_refl _)) (Nat.le_of_ble_eq_true rfl) (Nat.le_of_ble_eq_true rfl) rfl rfl d_law_8 ?_
  refine x_dup d_law_11 rfl ?_
  refine x_callI1 (V2 := V2) (sh2 := SH) (cu2 := 87) (su2 := 9611) e_Lw_12 (as := []) (k_Md_init_65 VW0 V2 L00 (xzw vw_zero (by decide)) (fun _ _ => rfl) hc) rfl rfl (Nat.le_of_ble_eq_true rfl) ⟨Nat.le_of_ble_eq_true rfl, Nat.le_of_ble_eq_true rfl, Nat.le_of_ble_eq_true rfl, Nat.le_of_ble_eq_true rfl⟩ (Nat.le_of_ble_eq_true rfl) rfl rfl d_law_12 ?_
  refine x_astore_n [(2, .ref 65), (1, .ref 0), (0, .retAddr 0)] d_law_15 rfl (Nat.le_of_ble_eq_true rfl) rfl ?_
  refine x_iconst 0 d_law_16 (by decide) ?_
  refine x_istore_n [(3, .int 0), (2, .ref 65), (1, .ref 0), (0, .retAddr 0)] d_law_17 rfl (Nat.le_of_ble_eq_true rfl) rfl ?_
  refine x_pick [3, 2, 1, 0] rfl ?_
  exact law_loop hP hL 512 0 V2 L00 rfl hI
theorem xi1 {P : Nat → Prop} {i : Nat} (hi : i < 1) (h : P 0) : P i := by
  have e : i = 0 := by omega
  subst e
  exact h
theorem vk_S.const {len : List Nat} {byt : List (List Int32)} {adK adV : Nat → Nat} {A : Nat → Prop} {U : State} {H : Heap} (h : vk_S 1 len byt adK adV A U H) : vk_S 1 len byt (fun _ => adK 0) (fun _ => adV 0) A U H :=
  ⟨fun i hi => by have e : i = 0 := by omega
                  subst e; exact h.1 0 hi, fun i j hi hj _ => by omega⟩
theorem xarr {s : State} {ty : FieldType} {cA comp : ClassId} {kA : Class} (h2 : s.vm.classes[cA]? = some kA) (h3 : kA.kind = .array comp ty) : ArrOfT s cA ty := fun n z => ⟨fun k h => (by cases h), kA, h2, comp, h3⟩
theorem names_in : ∀ j : Nat, j < 13 → Cond.eq (.elem (.static "WarrantWeather" "NAME_IS_OF" "[I") (.int (Int32.ofNat j))) (.int (xNames.getD j 0)) ∈ flatC (Jvm.Cond.and given_1 narrow_1) := by decide +kernel
theorem words_in : ∀ j : Nat, j < 116 → Cond.eq (.elem (.field (.string "WarrantWeather$Tokens" 65) "java/lang/String" "value" "[B") (.int (Int32.ofNat j))) (.int (xWordsB.getD j 0)) ∈ flatC (Jvm.Cond.and given_1 narrow_1) := by decide +kernel
theorem words_h : ∀ i : Nat, i < 1 → ∀ j : Nat, j < [xWordsN].getD i 0 → Cond.eq (.elem (.field (.string "WarrantWeather$Tokens" 65) "java/lang/String" "value" "[B") (.int (Int32.ofNat j))) (.int (([xWordsB].getD i []).getD j 0)) ∈ flatC (Jvm.Cond.and given_1 narrow_1) := by
  intro i hi
  have e : i = 0 := by omega
  subst e
  exact words_in
theorem len_h : ∀ i : Nat, i < 1 → Cond.eq (.length (.field (.string "WarrantWeather$Tokens" 65) "java/lang/String" "value" "[B")) (.int (Int32.ofNat ([xWordsN].getD i 0))) ∈ flatC (Jvm.Cond.and given_1 narrow_1) := by decide +kernel
theorem xtbl_sub {w : Cond} (h : w ∈ xTbl) : w ∈ lw_tbl := (List.mem_filter.mp h).1
theorem xnest_sub {w : Cond} (h : w ∈ xNest) : w ∈ lw_tbl := (List.mem_filter.mp h).1
theorem whole_start_of {Inv : xV → xL → Prop} (hP : P_all Inv) (V2 : xV) (hc0 : f_Md_copies 1 (VM0 VW0) = some V2) (hI : Inv V2 L00) {p : Program} {e : Env} {s : State} {m : MethodId} {below : List Frame} {meth : Method} {c : Code} (l : Launch) {b L : Nat} {xs : Nat → Int32} (hL : L ≤ 3072) (C0 : lw_At p s m meth c b L xs) : W p l e room_1 s m #[Value.ref b] below meth c s.heap [] 0 0 (lw_Z below #[Value.ref b] s) (entryFrame m ([Value.ref b] : List Value).toArray 4) := by
  obtain ⟨hx, hb, hr, hml, hown, hts, hX, hbl, hlocks, hgv⟩ := C0
  have hfl := flat_of_before _ hgv
  have hA : ∀ a : Nat, a < s.heap.size → ¬ (fun q => s.heap.size ≤ q) a := fun a h1 h2 => by have h2 : s.heap.size ≤ a := h2; omega
  obtain ⟨c0, i0, k0⟩ := u_known (C := R_Bench) (T := T_Bench) (N := 2) (n := 2) (fun w hw => hts w (xtbl_sub hw)) q_Bench.1 (hts (.instantiable R_Bench 2) (List.mem_append_right _ (xch1 215 rfl)))
  obtain ⟨c1, i1, k1⟩ := u_known (C := R_Council) (T := T_Council) (N := 4) (n := 4) (fun w hw => hts w (xtbl_sub hw)) q_Council.1 (hts (.instantiable R_Council 4) (List.mem_append_right _ (xch2 57 rfl)))
  obtain ⟨c2, i2, k2⟩ := u_known (C := R_Court) (T := T_Court) (N := 10) (n := 10) (fun w hw => hts w (xtbl_sub hw)) q_Court.1 (hts (.instantiable R_Court 10) (List.mem_append_right _ (xch1 209 rfl)))
  obtain ⟨c3, i3, k3⟩ := u_known (C := R_Law) (T := T_Law) (N := 6) (n := 6) (fun w hw => hts w (xtbl_sub hw)) q_Law.1 (hts (.instantiable R_Law 6) (List.mem_append_right _ (xch1 114 rfl)))
  obtain ⟨c4, i4, k4⟩ := u_known (C := R_Planner) (T := T_Planner) (N := 9) (n := 9) (fun w hw => hts w (xtbl_sub hw)) q_Planner.1 (hts (.instantiable R_Planner 9) (List.mem_append_right _ (xch2 21 rfl)))
  obtain ⟨c5, i5, k5⟩ := u_known (C := R_Reader) (T := T_Reader) (N := 7) (n := 7) (fun w hw => hts w (xtbl_sub hw)) q_Reader.1 (hts (.instantiable R_Reader 7) (List.mem_append_right _ (xch1 155 rfl)))
  obtain ⟨c6, i6, k6⟩ := u_known (C := R_Rolls) (T := T_Rolls) (N := 13) (n := 13) (fun w hw => hts w (xtbl_sub hw)) q_Rolls.1 (hts (.instantiable R_Rolls 13) (List.mem_append_right _ (xch1 30 rfl)))
  obtain ⟨c7, i7, k7⟩ := u_known (C := R_Shelf) (T := T_Shelf) (N := 3) (n := 3) (fun w hw => hts w (xtbl_sub hw)) q_Shelf.1 (hts (.instantiable R_Shelf 3) (List.mem_append_right _ (xch1 108 rfl)))
  obtain ⟨c8, i8, k8⟩ := u_known (C := R_Song) (T := T_Song) (N := 2) (n := 2) (fun w hw => hts w (xtbl_sub hw)) q_Song.1 (hts (.instantiable R_Song 2) (List.mem_append_right _ (xch2 76 rfl)))
  obtain ⟨c9, i9, k9⟩ := u_known (C := R_Tape) (T := T_Tape) (N := 2) (n := 2) (fun w hw => hts w (xtbl_sub hw)) q_Tape.1 (hts (.instantiable R_Tape 2) (List.mem_append_right _ (xch1 92 rfl)))
  obtain ⟨c10, i10, k10⟩ := u_known (C := R_Tokens) (T := T_Tokens) (N := 4) (n := 4) (fun w hw => hts w (xtbl_sub hw)) q_Tokens.1 (hts (.instantiable R_Tokens 4) (List.mem_append_right _ (xch1 161 rfl)))
  obtain ⟨c11, i11, k11⟩ := u_known (C := R_Ww) (T := T_Ww) (N := 9) (n := 9) (fun w hw => hts w (xtbl_sub hw)) q_Ww.1 (hts (.instantiable R_Ww 9) (List.mem_append_right _ (xch1 22 rfl)))
  obtain ⟨c12, i12, k12⟩ := u_known (C := R_Md) (T := T_Md) (N := 39) (n := 39) (fun w hw => hts w (xtbl_sub hw)) q_Md.1 (hts (.instantiable R_Md 39) (List.mem_append_right _ (xch4 166 rfl)))
  have hKc : ∀ (k : Nat) (q : vw_C), classes[k]? = some q → u_Kn s q.1 q.2.1 q.2.2 ([c0, c1, c2, c3, c4, c5, c6, c7, c8, c9, c10, c11, c12].getD k 0) ([i0, i1, i2, i3, i4, i5, i6, i7, i8, i9, i10, i11, i12].getD k (fun _ => 0)) := by
    intro k q hq
    match k, hq with
    | 0, hq => cases hq; exact k0
    | 1, hq => cases hq; exact k1
    | 2, hq => cases hq; exact k2
    | 3, hq => cases hq; exact k3
    | 4, hq => cases hq; exact k4
    | 5, hq => cases hq; exact k5
    | 6, hq => cases hq; exact k6
    | 7, hq => cases hq; exact k7
    | 8, hq => cases hq; exact k8
    | 9, hq => cases hq; exact k9
    | 10, hq => cases hq; exact k10
    | 11, hq => cases hq; exact k11
    | 12, hq => cases hq; exact k12
    | k + 13, hq => simp [classes] at hq
  obtain ⟨cI, kI, mI, fI, gI, eI⟩ := Cond.arrayClass_spec (hts (.arrayClass .int) (List.mem_append_right _ (xch1 90 rfl)))
  obtain ⟨cB, kB, mB, fB, gB, eB⟩ := Cond.arrayClass_spec (hts (.arrayClass .byte) (List.mem_append_right _ (xch3 87 rfl)))
  obtain ⟨cJ, kJ, mJ, fJ, gJ, eJ⟩ := Cond.arrayClass_spec (hts (.arrayClass .long) (List.mem_append_right _ (xch5 53 rfl)))
  have hover := hts (.arrayOver (.object "WarrantWeather$Law")) (List.mem_append_right _ (xch1 142 rfl))
  obtain ⟨mW, cW, kW, fW, -, gW, eW, nW⟩ := Cond.arrayOver_spec hover
  obtain ⟨t2, ht2, hT2⟩ := va_Tof (args := #[Value.ref b]) (s := s) (tm := .static "WarrantWeather" "NAME_IS_OF" "[I") (ty := .int) (N := 13) (f := fun j => .int (xNames.getD j 0)) (A := fun q => s.heap.size ≤ q) (by decide) (hfl (.arrayOf (.static "WarrantWeather" "NAME_IS_OF" "[I") .int) (by decide +kernel)) (va_eqt (hfl (.eq (.length (.static "WarrantWeather" "NAME_IS_OF" "[I")) (.int (Int32.ofNat 13))) (by decide +kernel))) (fun j hj => va_eqt (hfl _ (names_in j hj))) hA
  have hZ2 := va_Zof (A := fun q => s.heap.size ≤ q) (hts (.laysStatic "WarrantWeather" "NAME_IS_OF" "[I") (List.mem_append_right _ (xch3 70 rfl))) (hts (.initialized "WarrantWeather") (List.mem_append_right _ (xch1 1 rfl))) ht2 hA
  have hZc := va_Zof (A := fun q => s.heap.size ≤ q) (hts (.laysStatic "java/lang/String" "COMPACT_STRINGS" "Z") (List.mem_append_right _ (xch2 228 rfl))) (hts (.initialized "java/lang/String") (List.mem_append_right _ (xch1 16 rfl))) (va_eqi (hfl (.eq (.static "java/lang/String" "COMPACT_STRINGS" "Z") (.int 1)) (by decide +kernel))) hA
  obtain ⟨v4, hv4, hr4⟩ := Cond.isRef_spec (hfl (.isRef (.static "jdk/internal/util/Preconditions" "SIOOBE_FORMATTER" "Ljava/util/function/BiFunction;")) (by decide +kernel))
  have hZs := va_Zof (A := fun q => s.heap.size ≤ q) (hts (.laysStatic "jdk/internal/util/Preconditions" "SIOOBE_FORMATTER" "Ljava/util/function/BiFunction;") (List.mem_append_right _ (xch3 4 rfl))) (hts (.initialized "jdk/internal/util/Preconditions") (List.mem_append_right _ (xch1 18 rfl))) hv4 hA
  obtain ⟨t4, hZ4⟩ : ∃ t4 : Nat, va_Z "jdk/internal/util/Preconditions" "SIOOBE_FORMATTER" "Ljava/util/function/BiFunction;" .null (fun q => s.heap.size ≤ q) s s.heap ∨ va_Z "jdk/internal/util/Preconditions" "SIOOBE_FORMATTER" "Ljava/util/function/BiFunction;" (.ref t4) (fun q => s.heap.size ≤ q) s s.heap := by
    cases v4 with
    | null => exact ⟨0, Or.inl hZs⟩
    | ref a => exact ⟨a, Or.inr hZs⟩
    | _ => simp [Value.isRef] at hr4
  obtain ⟨adK, adV, hS1, hS2⟩ := vk_Sof (args := #[Value.ref b]) (s := s) (N := 1) (tm := fun _ => .string "WarrantWeather$Tokens" 65) (len := [xWordsN]) (byt := [xWordsB]) (A := fun q => s.heap.size ≤ q) (by decide) (fun i _ => hfl (.exactly (.string "WarrantWeather$Tokens" 65) "java/lang/String") (by decide +kernel)) (fun i _ => hfl (.eq (.field (.string "WarrantWeather$Tokens" 65) "java/lang/String" "coder" "B") (.int 0)) (by decide +kernel)) (fun i _ => hfl (.arrayOf (.field (.string "WarrantWeather$Tokens" 65) "java/lang/String" "value" "[B") .byte) (by decide +kernel)) (fun i hi => hfl _ (len_h i hi)) (fun i hi j hj => hfl _ (words_h i hi j hj)) (fun i j hi hj hne => by omega) hA
  have hR1 : vk_R "WarrantWeather$Tokens" 65 xWords (adK 0) s := vk_R.of (hts (.stringRef "WarrantWeather$Tokens" 65 xWords) (List.mem_append_right _ (xch2 218 rfl))) (hS2 0 (by decide))
  let G0 : xG := (s.heap.size, fun k => [b, adK 0, t2, adV 0, t4].getD k 0, (fun k => [c0, c1, c2, c3, c4, c5, c6, c7, c8, c9, c10, c11, c12].getD k 0, fun k => [i0, i1, i2, i3, i4, i5, i6, i7, i8, i9, i10, i11, i12].getD k (fun _ => 0)), (fun ty => match ty with | .int => cI | .byte => cB | .long => cJ | _ => cW), (L, xs))
  have hKK : va_K G0.2.2.1 classes (xTy G0) s := by
    refine ⟨hKc, fun k q hq => ?_⟩
    match k, hq with
    | 0, hq => cases hq; exact ⟨xarr gI eI, fI⟩
    | 1, hq => cases hq; exact ⟨xarr gB eB, fB⟩
    | 2, hq => cases hq; exact ⟨xarr gJ eJ, fJ⟩
    | 3, hq => cases hq; exact ⟨xarr gW eW, kW, mW, gW, eW, fW, nW⟩
    | k + 4, hq => simp [xTy] at hq
  have hK : xK G0 s := ⟨hKK, fun w hw => ?_, hX, hbl, Nat.le_refl _, hZ2, hT2, hR1, hS1.const, hZc, hZ4, va_AO.of hover⟩
  · have hl := lv_entry ([.ref b]) (n := 4) (Nat.le_of_ble_eq_true rfl)
    rw [lg_entry_eq]
    have hent := law_entry (G0 := G0) (b0 := b) hP hL V2 hc0 hI l G0 p e s m #[Value.ref b] below meth c s.heap [] _ ⟨hx, hb, hr, hml, hown, fun w hw => hts w (xtbl_sub hw), hlocks, (fun h => absurd h (by decide)), hK⟩ (Nat.le_refl _) (fun k q h => by simp [xw] at h) va_S.rf hl
    intro T hT Xs
    obtain ⟨t, a1, b1⟩ := hent T hT Xs
    exact ⟨t, a1, b1 ⟨rfl, rfl⟩⟩
  · exact va_Nw.of (by have hn : xIsNest w = true := (List.mem_filter.mp hw).2
                       cases w <;> first | rfl | (cases hn)) (hts w (xnest_sub hw))

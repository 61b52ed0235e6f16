theorem d_Ww_back_0 : decode M_Ww_back.2.1 0 = .ok (.aload_n 0, 1) := by decide +kernel
theorem d_Ww_back_1 : decode M_Ww_back.2.1 1 = .ok (.getfield 10, 3) := by decide +kernel
theorem d_Ww_back_4 : decode M_Ww_back.2.1 4 = .ok (.aload_n 0, 1) := by decide +kernel
theorem d_Ww_back_5 : decode M_Ww_back.2.1 5 = .ok (.getfield 16, 3) := by decide +kernel
theorem d_Ww_back_8 : decode M_Ww_back.2.1 8 = .ok (.invokevirtual 251, 3) := by decide +kernel
theorem d_Ww_back_11 : decode M_Ww_back.2.1 11 = .ok (.aload_n 0, 1) := by decide +kernel
theorem d_Ww_back_12 : decode M_Ww_back.2.1 12 = .ok (.getfield 10, 3) := by decide +kernel
theorem d_Ww_back_15 : decode M_Ww_back.2.1 15 = .ok (.getfield 170, 3) := by decide +kernel
theorem d_Ww_back_18 : decode M_Ww_back.2.1 18 = .ok (.ireturn, 1) := by decide +kernel
theorem d_Rolls_entryOf_0 : decode M_Rolls_entryOf.2.1 0 = .ok (.iload_n 1, 1) := by decide +kernel
theorem d_Rolls_entryOf_1 : decode M_Rolls_entryOf.2.1 1 = .ok (.bipush 12, 2) := by decide +kernel
theorem d_Rolls_entryOf_3 : decode M_Rolls_entryOf.2.1 3 = .ok (.invokestatic 64, 3) := by decide +kernel
theorem d_Rolls_entryOf_6 : decode M_Rolls_entryOf.2.1 6 = .ok (.ifCond .eq 32, 3) := by decide +kernel
theorem d_Rolls_entryOf_9 : decode M_Rolls_entryOf.2.1 9 = .ok (.bipush 100, 2) := by decide +kernel
theorem d_Rolls_entryOf_11 : decode M_Rolls_entryOf.2.1 11 = .ok (.aload_n 0, 1) := by decide +kernel
theorem d_Rolls_entryOf_12 : decode M_Rolls_entryOf.2.1 12 = .ok (.getfield 9, 3) := by decide +kernel
theorem d_Rolls_entryOf_15 : decode M_Rolls_entryOf.2.1 15 = .ok (.iload_n 1, 1) := by decide +kernel
theorem d_Rolls_entryOf_16 : decode M_Rolls_entryOf.2.1 16 = .ok (.iaload, 1) := by decide +kernel
theorem d_Rolls_entryOf_17 : decode M_Rolls_entryOf.2.1 17 = .ok (.imul, 1) := by decide +kernel
theorem d_Rolls_entryOf_18 : decode M_Rolls_entryOf.2.1 18 = .ok (.bipush 10, 2) := by decide +kernel
theorem d_Rolls_entryOf_20 : decode M_Rolls_entryOf.2.1 20 = .ok (.aload_n 0, 1) := by decide +kernel
theorem d_Rolls_entryOf_21 : decode M_Rolls_entryOf.2.1 21 = .ok (.getfield 15, 3) := by decide +kernel
theorem d_Rolls_entryOf_24 : decode M_Rolls_entryOf.2.1 24 = .ok (.iload_n 1, 1) := by decide +kernel
theorem d_Rolls_entryOf_25 : decode M_Rolls_entryOf.2.1 25 = .ok (.iaload, 1) := by decide +kernel
theorem d_Rolls_entryOf_26 : decode M_Rolls_entryOf.2.1 26 = .ok (.imul, 1) := by decide +kernel
theorem d_Rolls_entryOf_27 : decode M_Rolls_entryOf.2.1 27 = .ok (.iadd, 1) := by decide +kernel
theorem d_Rolls_entryOf_28 : decode M_Rolls_entryOf.2.1 28 = .ok (.aload_n 0, 1) := by decide +kernel
theorem d_Rolls_entryOf_29 : decode M_Rolls_entryOf.2.1 29 = .ok (.getfield 18, 3) := by decide +kernel
theorem d_Rolls_entryOf_32 : decode M_Rolls_entryOf.2.1 32 = .ok (.iload_n 1, 1) := by decide +kernel
theorem d_Rolls_entryOf_33 : decode M_Rolls_entryOf.2.1 33 = .ok (.iaload, 1) := by decide +kernel
theorem d_Rolls_entryOf_34 : decode M_Rolls_entryOf.2.1 34 = .ok (.iadd, 1) := by decide +kernel
theorem d_Rolls_entryOf_35 : decode M_Rolls_entryOf.2.1 35 = .ok (.goto 4, 3) := by decide +kernel
theorem d_Rolls_entryOf_38 : decode M_Rolls_entryOf.2.1 38 = .ok (.iconst 0, 1) := by decide +kernel
theorem d_Rolls_entryOf_39 : decode M_Rolls_entryOf.2.1 39 = .ok (.ireturn, 1) := by decide +kernel
theorem d_Rolls_wetDecrees_0 : decode M_Rolls_wetDecrees.2.1 0 = .ok (.iconst 0, 1) := by decide +kernel
theorem d_Rolls_wetDecrees_1 : decode M_Rolls_wetDecrees.2.1 1 = .ok (.istore_n 1, 1) := by decide +kernel
theorem d_Rolls_wetDecrees_2 : decode M_Rolls_wetDecrees.2.1 2 = .ok (.iconst 0, 1) := by decide +kernel
theorem d_Rolls_wetDecrees_3 : decode M_Rolls_wetDecrees.2.1 3 = .ok (.istore_n 2, 1) := by decide +kernel
theorem d_Rolls_wetDecrees_4 : decode M_Rolls_wetDecrees.2.1 4 = .ok (.iload_n 2, 1) := by decide +kernel
theorem d_Rolls_wetDecrees_5 : decode M_Rolls_wetDecrees.2.1 5 = .ok (.bipush 30, 2) := by decide +kernel
theorem d_Rolls_wetDecrees_7 : decode M_Rolls_wetDecrees.2.1 7 = .ok (.if_icmp .ge 17, 3) := by decide +kernel
theorem d_Rolls_wetDecrees_10 : decode M_Rolls_wetDecrees.2.1 10 = .ok (.iload_n 1, 1) := by decide +kernel
theorem d_Rolls_wetDecrees_11 : decode M_Rolls_wetDecrees.2.1 11 = .ok (.aload_n 0, 1) := by decide +kernel
theorem d_Rolls_wetDecrees_12 : decode M_Rolls_wetDecrees.2.1 12 = .ok (.iload_n 2, 1) := by decide +kernel
theorem d_Rolls_wetDecrees_13 : decode M_Rolls_wetDecrees.2.1 13 = .ok (.invokevirtual 87, 3) := by decide +kernel
theorem d_Rolls_wetDecrees_16 : decode M_Rolls_wetDecrees.2.1 16 = .ok (.iadd, 1) := by decide +kernel
theorem d_Rolls_wetDecrees_17 : decode M_Rolls_wetDecrees.2.1 17 = .ok (.istore_n 1, 1) := by decide +kernel
theorem d_Rolls_wetDecrees_18 : decode M_Rolls_wetDecrees.2.1 18 = .ok (.iinc 2 1, 3) := by decide +kernel
theorem d_Rolls_wetDecrees_21 : decode M_Rolls_wetDecrees.2.1 21 = .ok (.goto (-17), 3) := by decide +kernel
theorem d_Rolls_wetDecrees_24 : decode M_Rolls_wetDecrees.2.1 24 = .ok (.iload_n 1, 1) := by decide +kernel
theorem d_Rolls_wetDecrees_25 : decode M_Rolls_wetDecrees.2.1 25 = .ok (.ireturn, 1) := by decide +kernel
theorem d_Ww_about_0 : decode M_Ww_about.2.1 0 = .ok (.iload_n 1, 1) := by decide +kernel
theorem d_Ww_about_1 : decode M_Ww_about.2.1 1 = .ok (.bipush 10, 2) := by decide +kernel
theorem d_Ww_about_3 : decode M_Ww_about.2.1 3 = .ok (.if_icmp .lt 22, 3) := by decide +kernel
theorem d_Ww_about_6 : decode M_Ww_about.2.1 6 = .ok (.iload_n 1, 1) := by decide +kernel
theorem d_Ww_about_7 : decode M_Ww_about.2.1 7 = .ok (.bipush 20, 2) := by decide +kernel
theorem d_Ww_about_9 : decode M_Ww_about.2.1 9 = .ok (.if_icmp .ge 16, 3) := by decide +kernel
theorem d_Ww_about_12 : decode M_Ww_about.2.1 12 = .ok (.aload_n 0, 1) := by decide +kernel
theorem d_Ww_about_13 : decode M_Ww_about.2.1 13 = .ok (.getfield 10, 3) := by decide +kernel
theorem d_Ww_about_16 : decode M_Ww_about.2.1 16 = .ok (.getfield 100, 3) := by decide +kernel
theorem d_Ww_about_19 : decode M_Ww_about.2.1 19 = .ok (.iload_n 1, 1) := by decide +kernel
theorem d_Ww_about_20 : decode M_Ww_about.2.1 20 = .ok (.bipush 10, 2) := by decide +kernel
theorem d_Ww_about_22 : decode M_Ww_about.2.1 22 = .ok (.isub, 1) := by decide +kernel
theorem d_Ww_about_23 : decode M_Ww_about.2.1 23 = .ok (.iaload, 1) := by decide +kernel
theorem d_Ww_about_24 : decode M_Ww_about.2.1 24 = .ok (.ireturn, 1) := by decide +kernel
theorem d_Ww_about_25 : decode M_Ww_about.2.1 25 = .ok (.iload_n 1, 1) := by decide +kernel
theorem d_Ww_about_26 : decode M_Ww_about.2.1 26 = .ok (.bipush 20, 2) := by decide +kernel
theorem d_Ww_about_28 : decode M_Ww_about.2.1 28 = .ok (.if_icmp .lt 29, 3) := by decide +kernel
theorem d_Ww_about_31 : decode M_Ww_about.2.1 31 = .ok (.iload_n 1, 1) := by decide +kernel
theorem d_Ww_about_32 : decode M_Ww_about.2.1 32 = .ok (.bipush 20, 2) := by decide +kernel
theorem d_Ww_about_34 : decode M_Ww_about.2.1 34 = .ok (.aload_n 0, 1) := by decide +kernel
theorem d_Ww_about_35 : decode M_Ww_about.2.1 35 = .ok (.getfield 10, 3) := by decide +kernel
theorem d_Ww_about_38 : decode M_Ww_about.2.1 38 = .ok (.getfield 170, 3) := by decide +kernel
theorem d_Ww_about_41 : decode M_Ww_about.2.1 41 = .ok (.iadd, 1) := by decide +kernel
theorem d_Ww_about_42 : decode M_Ww_about.2.1 42 = .ok (.if_icmp .ge 15, 3) := by decide +kernel
theorem d_Ww_about_45 : decode M_Ww_about.2.1 45 = .ok (.aload_n 0, 1) := by decide +kernel
theorem d_Ww_about_46 : decode M_Ww_about.2.1 46 = .ok (.getfield 10, 3) := by decide +kernel
theorem d_Ww_about_49 : decode M_Ww_about.2.1 49 = .ok (.iload_n 1, 1) := by decide +kernel
theorem d_Ww_about_50 : decode M_Ww_about.2.1 50 = .ok (.bipush 20, 2) := by decide +kernel
theorem d_Ww_about_52 : decode M_Ww_about.2.1 52 = .ok (.isub, 1) := by decide +kernel
theorem d_Ww_about_53 : decode M_Ww_about.2.1 53 = .ok (.invokevirtual 254, 3) := by decide +kernel
theorem d_Ww_about_56 : decode M_Ww_about.2.1 56 = .ok (.ireturn, 1) := by decide +kernel
theorem d_Ww_about_57 : decode M_Ww_about.2.1 57 = .ok (.iload_n 1, 1) := by decide +kernel
theorem d_Ww_about_58 : decode M_Ww_about.2.1 58 = .ok (.tableswitch 110 0 7 #[46, 54, 62, 70, 78, 86, 94, 102], 46) := by decide +kernel
theorem d_Ww_about_104 : decode M_Ww_about.2.1 104 = .ok (.aload_n 0, 1) := by decide +kernel
theorem d_Ww_about_105 : decode M_Ww_about.2.1 105 = .ok (.getfield 10, 3) := by decide +kernel
theorem d_Ww_about_108 : decode M_Ww_about.2.1 108 = .ok (.getfield 170, 3) := by decide +kernel
theorem d_Ww_about_111 : decode M_Ww_about.2.1 111 = .ok (.ireturn, 1) := by decide +kernel
theorem d_Ww_about_112 : decode M_Ww_about.2.1 112 = .ok (.aload_n 0, 1) := by decide +kernel
theorem d_Ww_about_113 : decode M_Ww_about.2.1 113 = .ok (.getfield 10, 3) := by decide +kernel
theorem d_Ww_about_116 : decode M_Ww_about.2.1 116 = .ok (.getfield 103, 3) := by decide +kernel
theorem d_Ww_about_119 : decode M_Ww_about.2.1 119 = .ok (.ireturn, 1) := by decide +kernel
theorem d_Ww_about_120 : decode M_Ww_about.2.1 120 = .ok (.aload_n 0, 1) := by decide +kernel
theorem d_Ww_about_121 : decode M_Ww_about.2.1 121 = .ok (.getfield 10, 3) := by decide +kernel
theorem d_Ww_about_124 : decode M_Ww_about.2.1 124 = .ok (.getfield 114, 3) := by decide +kernel
theorem d_Ww_about_127 : decode M_Ww_about.2.1 127 = .ok (.ireturn, 1) := by decide +kernel
theorem d_Ww_about_128 : decode M_Ww_about.2.1 128 = .ok (.aload_n 0, 1) := by decide +kernel
theorem d_Ww_about_129 : decode M_Ww_about.2.1 129 = .ok (.getfield 10, 3) := by decide +kernel
theorem d_Ww_about_132 : decode M_Ww_about.2.1 132 = .ok (.getfield 135, 3) := by decide +kernel
theorem d_Ww_about_135 : decode M_Ww_about.2.1 135 = .ok (.ireturn, 1) := by decide +kernel
theorem d_Ww_about_136 : decode M_Ww_about.2.1 136 = .ok (.aload_n 0, 1) := by decide +kernel
theorem d_Ww_about_137 : decode M_Ww_about.2.1 137 = .ok (.getfield 10, 3) := by decide +kernel
theorem d_Ww_about_140 : decode M_Ww_about.2.1 140 = .ok (.getfield 257, 3) := by decide +kernel
theorem d_Ww_about_143 : decode M_Ww_about.2.1 143 = .ok (.ireturn, 1) := by decide +kernel
theorem d_Ww_about_144 : decode M_Ww_about.2.1 144 = .ok (.aload_n 0, 1) := by decide +kernel
theorem d_Ww_about_145 : decode M_Ww_about.2.1 145 = .ok (.getfield 22, 3) := by decide +kernel
theorem d_Ww_about_148 : decode M_Ww_about.2.1 148 = .ok (.getfield 107, 3) := by decide +kernel
theorem d_Ww_about_151 : decode M_Ww_about.2.1 151 = .ok (.ireturn, 1) := by decide +kernel
theorem d_Ww_about_152 : decode M_Ww_about.2.1 152 = .ok (.aload_n 0, 1) := by decide +kernel
theorem d_Ww_about_153 : decode M_Ww_about.2.1 153 = .ok (.getfield 10, 3) := by decide +kernel
theorem d_Ww_about_156 : decode M_Ww_about.2.1 156 = .ok (.invokevirtual 92, 3) := by decide +kernel
theorem d_Ww_about_159 : decode M_Ww_about.2.1 159 = .ok (.ireturn, 1) := by decide +kernel
theorem d_Ww_about_160 : decode M_Ww_about.2.1 160 = .ok (.aload_n 0, 1) := by decide +kernel
theorem d_Ww_about_161 : decode M_Ww_about.2.1 161 = .ok (.getfield 10, 3) := by decide +kernel
theorem d_Ww_about_164 : decode M_Ww_about.2.1 164 = .ok (.invokevirtual 260, 3) := by decide +kernel
theorem d_Ww_about_167 : decode M_Ww_about.2.1 167 = .ok (.ireturn, 1) := by decide +kernel
theorem d_Ww_about_168 : decode M_Ww_about.2.1 168 = .ok (.bipush (-2), 2) := by decide +kernel
theorem d_Ww_about_170 : decode M_Ww_about.2.1 170 = .ok (.ireturn, 1) := by decide +kernel
-- Ww_back
def f_Ww_back (V : xV) : Int32 × xV := ((f_Rolls_takeOver_now V) 1 7, (f_Rolls_takeOver_now V))
theorem t_Ww_back  (V : xV) (L : xL) (res : Int32 × xV) (h : f_Ww_back V = res) : xRuns (2) M_Ww_back [.ref 0] (SH, V, L) (fun o h' => o = some (.int res.1) ∧ h' = (SH, res.2, L)) := by
  refine xRuns_of (by decide) (Nat.le_of_ble_eq_true rfl) ?_
  unfold f_Ww_back at h
  show X M_Ww_back (xRm (2) M_Ww_back) (xZ M_Ww_back (fun o h' => o = some (.int res.1) ∧ h' = (SH, res.2, L))) SH V L 0 0 0 [(0, .ref 0)] []
  refine x_aload_n 0 d_Ww_back_0 rfl rfl ?_
  refine x_getP (q := 1) f_Ww_10 sh_0 rfl d_Ww_back_1 ?_
  refine x_aload_n 0 d_Ww_back_4 rfl rfl ?_
  refine x_getP (q := 9) f_Ww_16 sh_0 rfl d_Ww_back_5 ?_
  refine x_callV0v e_Ww_251 sh_1 rfl (t_Rolls_takeOver_now V L _ rfl) rfl rfl rfl (Nat.le_of_ble_eq_true rfl) (xfit_of (by omega) (Nat.le_of_ble_eq_true rfl)) (Nat.zero_le _) (Nat.zero_le _) d_Ww_back_8 ?_
  refine x_aload_n 0 d_Ww_back_11 rfl rfl ?_
  refine x_getP (q := 1) f_Ww_10 sh_0 rfl d_Ww_back_12 ?_
  refine x_getI f_Ww_170 sh_1 rfl d_Ww_back_15 ?_
  obtain rfl := h
  exact x_ireturn rfl d_Ww_back_18 (Nat.le_refl _) (Nat.le_refl _) ⟨rfl, rfl⟩
-- Rolls_entryOf
def f_Rolls_entryOf (a1 : Int32) (V : xV) : Option (Int32) := (if (f_Ww_within a1 12) = 0 then some 0 else (if xI a1 12 = true then (if xI a1 12 = true then (if xI a1 12 = true then some (((100 * (V 2 a1.toNatClampNeg)) + (10 * (V 3 a1.toNatClampNeg))) + (V 4 a1.toNatClampNeg)) else none) else none) else none))
theorem t_Rolls_entryOf (a1 : Int32) (V : xV) (L : xL) (res : Int32) (h : f_Rolls_entryOf a1 V = some res) : xRuns (2) M_Rolls_entryOf [.ref 1, .int a1] (SH, V, L) (fun o h' => o = some (.int res) ∧ h' = (SH, V, L)) := by
  refine xRuns_of (by decide) (Nat.le_of_ble_eq_true rfl) ?_
  unfold f_Rolls_entryOf at h
  show X M_Rolls_entryOf (xRm (2) M_Rolls_entryOf) (xZ M_Rolls_entryOf (fun o h' => o = some (.int res) ∧ h' = (SH, V, L))) SH V L 0 0 0 [(0, .ref 1), (1, .int a1)] []
  refine x_iload_n 1 d_Rolls_entryOf_0 rfl rfl ?_
  refine x_bipush 12 d_Rolls_entryOf_1 (by decide) ?_
  refine x_callSN0 e_Rolls_64 (t_Ww_within a1 12 V L _ rfl) rfl rfl rfl (Nat.le_of_ble_eq_true rfl) (xfit_of (by omega) (Nat.le_of_ble_eq_true rfl)) (Nat.zero_le _) (Nat.zero_le _) d_Rolls_entryOf_3 ?_
  refine x_if_eq 38 d_Rolls_entryOf_6 (by decide) (fun c2 => ?_) (fun c2 => ?_)
  · replace h := xpos c2 h
    refine x_iconst 0 d_Rolls_entryOf_38 (by decide) ?_
    obtain rfl := Option.some.inj h
    exact x_ireturn rfl d_Rolls_entryOf_39 (Nat.le_refl _) (Nat.le_refl _) ⟨rfl, rfl⟩
  · replace h := xneg c2 h
    refine x_bipush 100 d_Rolls_entryOf_9 (by decide) ?_
    refine x_aload_n 0 d_Rolls_entryOf_11 rfl rfl ?_
    refine x_getP (q := 2) f_Rolls_9 sh_1 rfl d_Rolls_entryOf_12 ?_
    refine x_iload_n 1 d_Rolls_entryOf_15 rfl rfl ?_
    obtain ⟨c3, h⟩ := xguard h
    refine x_iaload sh_2 c3 d_Rolls_entryOf_16 ?_
    refine x_imul d_Rolls_entryOf_17 ?_
    refine x_bipush 10 d_Rolls_entryOf_18 (by decide) ?_
    refine x_aload_n 0 d_Rolls_entryOf_20 rfl rfl ?_
    refine x_getP (q := 3) f_Rolls_15 sh_1 rfl d_Rolls_entryOf_21 ?_
    refine x_iload_n 1 d_Rolls_entryOf_24 rfl rfl ?_
    obtain ⟨c4, h⟩ := xguard h
    refine x_iaload sh_3 c4 d_Rolls_entryOf_25 ?_
    refine x_imul d_Rolls_entryOf_26 ?_
    refine x_iadd d_Rolls_entryOf_27 ?_
    refine x_aload_n 0 d_Rolls_entryOf_28 rfl rfl ?_
    refine x_getP (q := 4) f_Rolls_18 sh_1 rfl d_Rolls_entryOf_29 ?_
    refine x_iload_n 1 d_Rolls_entryOf_32 rfl rfl ?_
    obtain ⟨c5, h⟩ := xguard h
    refine x_iaload sh_4 c5 d_Rolls_entryOf_33 ?_
    refine x_iadd d_Rolls_entryOf_34 ?_
    refine x_goto 39 d_Rolls_entryOf_35 (by decide) ?_
    obtain rfl := Option.some.inj h
    exact x_ireturn rfl d_Rolls_entryOf_39 (Nat.le_refl _) (Nat.le_refl _) ⟨rfl, rfl⟩
-- Rolls_wetDecrees
def b_Rolls_wetDecrees_4 (V : xV) (k4 : Int32 → Int32 → Option (Int32)) (v1 : Int32) (v2 : Int32) : Option (Int32) := (if 30 ≤ v2 then some v1 else (Option.bind (f_Rolls_wetDecreesOn v2 V) fun p2 => k4 (v1 + p2) (v2 + 1)))
theorem tb_Rolls_wetDecrees_4 {V : xV} {L : xL} (k4 : Int32 → Int32 → Option (Int32)) (res : Int32) (hk4 : ∀ (v1 : Int32) (v2 : Int32), k4 v1 v2 = some res → X M_Rolls_wetDecrees (xRm (4) M_Rolls_wetDecrees) (xZ M_Rolls_wetDecrees (fun o h' => o = some (.int res) ∧ h' = (SH, V, L))) SH V L 0 0 4 [(0, .ref 1), (1, .int v1), (2, .int v2)] []) (v1 : Int32) (v2 : Int32) (h : b_Rolls_wetDecrees_4 V k4 v1 v2 = some res) : X M_Rolls_wetDecrees (xRm (4) M_Rolls_wetDecrees) (xZ M_Rolls_wetDecrees (fun o h' => o = some (.int res) ∧ h' = (SH, V, L))) SH V L 0 0 4 [(0, .ref 1), (1, .int v1), (2, .int v2)] [] := by
  unfold b_Rolls_wetDecrees_4 at h
  refine x_iload_n 2 d_Rolls_wetDecrees_4 rfl rfl ?_
  refine x_bipush 30 d_Rolls_wetDecrees_5 (by decide) ?_
  refine x_icmp_ge 24 d_Rolls_wetDecrees_7 (by decide) (fun c1 => ?_) (fun c1 => ?_)
  · replace h := xpos c1 h
    refine x_iload_n 1 d_Rolls_wetDecrees_24 rfl rfl ?_
    obtain rfl := Option.some.inj h
    exact x_ireturn rfl d_Rolls_wetDecrees_25 (Nat.le_refl _) (Nat.le_refl _) ⟨rfl, rfl⟩
  · replace h := xneg c1 h
    refine x_iload_n 1 d_Rolls_wetDecrees_10 rfl rfl ?_
    refine x_aload_n 0 d_Rolls_wetDecrees_11 rfl rfl ?_
    refine x_iload_n 2 d_Rolls_wetDecrees_12 rfl rfl ?_
    obtain ⟨p2, e3, h⟩ := xbind h
    refine x_callV0 e_Rolls_87 sh_1 rfl (t_Rolls_wetDecreesOn v2 V L _ e3) rfl rfl rfl (Nat.le_of_ble_eq_true rfl) (xfit_of (by omega) (Nat.le_of_ble_eq_true rfl)) (Nat.zero_le _) (Nat.zero_le _) d_Rolls_wetDecrees_13 ?_
    refine x_iadd d_Rolls_wetDecrees_16 ?_
    refine x_istore_n [(1, .int (v1 + p2)), (0, .ref 1), (2, .int v2)] d_Rolls_wetDecrees_17 rfl (Nat.le_of_ble_eq_true rfl) rfl ?_
    refine x_iinc 2 1 [(2, .int (v2 + 1)), (1, .int (v1 + p2)), (0, .ref 1)] d_Rolls_wetDecrees_18 rfl (by decide) (Nat.le_of_ble_eq_true rfl) rfl ?_
    refine x_goto 4 d_Rolls_wetDecrees_21 (by decide) ?_
    refine x_pick [2, 1, 0] rfl ?_
    exact hk4 (v1 + p2) (v2 + 1) h
def g_Rolls_wetDecrees_4 (V : xV) : Nat → Int32 → Int32 → Option (Int32)
  | 0, _, _ => none
  | n + 1, v1, v2 => b_Rolls_wetDecrees_4 V (g_Rolls_wetDecrees_4 V n) v1 v2
theorem tg_Rolls_wetDecrees_4 {V : xV} {L : xL} (res : Int32)  : ∀ (n : Nat) (v1 : Int32) (v2 : Int32), g_Rolls_wetDecrees_4 V n v1 v2 = some res → X M_Rolls_wetDecrees (xRm (4) M_Rolls_wetDecrees) (xZ M_Rolls_wetDecrees (fun o h' => o = some (.int res) ∧ h' = (SH, V, L))) SH V L 0 0 4 [(0, .ref 1), (1, .int v1), (2, .int v2)] []
  | 0, _, _, h => by cases h
  | n + 1, v1, v2, h => tb_Rolls_wetDecrees_4 (V := V) (L := L) (g_Rolls_wetDecrees_4 V n) res (tg_Rolls_wetDecrees_4 (V := V) (L := L) res n) v1 v2 h
def f_Rolls_wetDecrees (V : xV) : Option (Int32) := g_Rolls_wetDecrees_4 V 2000 0 0
theorem t_Rolls_wetDecrees  (V : xV) (L : xL) (res : Int32) (h : f_Rolls_wetDecrees V = some res) : xRuns (4) M_Rolls_wetDecrees [.ref 1] (SH, V, L) (fun o h' => o = some (.int res) ∧ h' = (SH, V, L)) := by
  refine xRuns_of (by decide) (Nat.le_of_ble_eq_true rfl) ?_
  unfold f_Rolls_wetDecrees at h
  show X M_Rolls_wetDecrees (xRm (4) M_Rolls_wetDecrees) (xZ M_Rolls_wetDecrees (fun o h' => o = some (.int res) ∧ h' = (SH, V, L))) SH V L 0 0 0 [(0, .ref 1)] []
  refine x_iconst 0 d_Rolls_wetDecrees_0 (by decide) ?_
  refine x_istore_n [(1, .int 0), (0, .ref 1)] d_Rolls_wetDecrees_1 rfl (Nat.le_of_ble_eq_true rfl) rfl ?_
  refine x_iconst 0 d_Rolls_wetDecrees_2 (by decide) ?_
  refine x_istore_n [(2, .int 0), (1, .int 0), (0, .ref 1)] d_Rolls_wetDecrees_3 rfl (Nat.le_of_ble_eq_true rfl) rfl ?_
  refine x_pick [2, 1, 0] rfl ?_
  exact tg_Rolls_wetDecrees_4 (V := V) (L := L) res _ 0 0 h
-- Ww_about
def b_Ww_about_57 (V : xV) (v1 : Int32) : Option (Int32) := (if v1 = 0 then some (V 1 7) else (if v1 = 1 then some (V 1 8) else (if v1 = 2 then some (V 1 9) else (if v1 = 3 then some (V 1 10) else (if v1 = 4 then some (V 1 11) else (if v1 = 5 then some (V 17 1) else (if v1 = 6 then (Option.bind (f_Rolls_wetDays V) fun p15 => some p15) else (if v1 = 7 then (Option.bind (f_Rolls_wetDecrees V) fun p18 => some p18) else some (-2)))))))))
theorem tb_Ww_about_57 {V : xV} {L : xL} (res : Int32)  (v1 : Int32) (h : b_Ww_about_57 V v1 = some res) : X M_Ww_about (xRm (5) M_Ww_about) (xZ M_Ww_about (fun o h' => o = some (.int res) ∧ h' = (SH, V, L))) SH V L 0 0 57 [(0, .ref 0), (1, .int v1)] [] := by
  unfold b_Ww_about_57 at h
  refine x_iload_n 1 d_Ww_about_57 rfl rfl ?_
  by_cases c8 : v1 = 0
  · replace h := xpos c8 h
    refine x_tableIn 46 104 d_Ww_about_58 (by rw [c8]; decide) (by rw [c8]; decide) (by rw [c8]; rfl) (by decide) ?_
    refine x_aload_n 0 d_Ww_about_104 rfl rfl ?_
    refine x_getP (q := 1) f_Ww_10 sh_0 rfl d_Ww_about_105 ?_
    refine x_getI f_Ww_170 sh_1 rfl d_Ww_about_108 ?_
    obtain rfl := Option.some.inj h
    exact x_ireturn rfl d_Ww_about_111 (Nat.le_refl _) (Nat.le_refl _) ⟨rfl, rfl⟩
  replace h := xneg c8 h
  by_cases c9 : v1 = 1
  · replace h := xpos c9 h
    refine x_tableIn 54 112 d_Ww_about_58 (by rw [c9]; decide) (by rw [c9]; decide) (by rw [c9]; rfl) (by decide) ?_
    refine x_aload_n 0 d_Ww_about_112 rfl rfl ?_
    refine x_getP (q := 1) f_Ww_10 sh_0 rfl d_Ww_about_113 ?_
    refine x_getI f_Ww_103 sh_1 rfl d_Ww_about_116 ?_
    obtain rfl := Option.some.inj h
    exact x_ireturn rfl d_Ww_about_119 (Nat.le_refl _) (Nat.le_refl _) ⟨rfl, rfl⟩
  replace h := xneg c9 h
  by_cases c10 : v1 = 2
  · replace h := xpos c10 h
    refine x_tableIn 62 120 d_Ww_about_58 (by rw [c10]; decide) (by rw [c10]; decide) (by rw [c10]; rfl) (by decide) ?_
    refine x_aload_n 0 d_Ww_about_120 rfl rfl ?_
    refine x_getP (q := 1) f_Ww_10 sh_0 rfl d_Ww_about_121 ?_
    refine x_getI f_Ww_114 sh_1 rfl d_Ww_about_124 ?_
    obtain rfl := Option.some.inj h
    exact x_ireturn rfl d_Ww_about_127 (Nat.le_refl _) (Nat.le_refl _) ⟨rfl, rfl⟩
  replace h := xneg c10 h
  by_cases c11 : v1 = 3
  · replace h := xpos c11 h
    refine x_tableIn 70 128 d_Ww_about_58 (by rw [c11]; decide) (by rw [c11]; decide) (by rw [c11]; rfl) (by decide) ?_
    refine x_aload_n 0 d_Ww_about_128 rfl rfl ?_
    refine x_getP (q := 1) f_Ww_10 sh_0 rfl d_Ww_about_129 ?_
    refine x_getI f_Ww_135 sh_1 rfl d_Ww_about_132 ?_
    obtain rfl := Option.some.inj h
    exact x_ireturn rfl d_Ww_about_135 (Nat.le_refl _) (Nat.le_refl _) ⟨rfl, rfl⟩
  replace h := xneg c11 h
  by_cases c12 : v1 = 4
  · replace h := xpos c12 h
    refine x_tableIn 78 136 d_Ww_about_58 (by rw [c12]; decide) (by rw [c12]; decide) (by rw [c12]; rfl) (by decide) ?_
    refine x_aload_n 0 d_Ww_about_136 rfl rfl ?_
    refine x_getP (q := 1) f_Ww_10 sh_0 rfl d_Ww_about_137 ?_
    refine x_getI f_Ww_257 sh_1 rfl d_Ww_about_140 ?_
    obtain rfl := Option.some.inj h
    exact x_ireturn rfl d_Ww_about_143 (Nat.le_refl _) (Nat.le_refl _) ⟨rfl, rfl⟩
  replace h := xneg c12 h
  by_cases c13 : v1 = 5
  · replace h := xpos c13 h
    refine x_tableIn 86 144 d_Ww_about_58 (by rw [c13]; decide) (by rw [c13]; decide) (by rw [c13]; rfl) (by decide) ?_
    refine x_aload_n 0 d_Ww_about_144 rfl rfl ?_
    refine x_getP (q := 17) f_Ww_22 sh_0 rfl d_Ww_about_145 ?_
    refine x_getI f_Ww_107 sh_17 rfl d_Ww_about_148 ?_
    obtain rfl := Option.some.inj h
    exact x_ireturn rfl d_Ww_about_151 (Nat.le_refl _) (Nat.le_refl _) ⟨rfl, rfl⟩
  replace h := xneg c13 h
  by_cases c14 : v1 = 6
  · replace h := xpos c14 h
    refine x_tableIn 94 152 d_Ww_about_58 (by rw [c14]; decide) (by rw [c14]; decide) (by rw [c14]; rfl) (by decide) ?_
    refine x_aload_n 0 d_Ww_about_152 rfl rfl ?_
    refine x_getP (q := 1) f_Ww_10 sh_0 rfl d_Ww_about_153 ?_
    obtain ⟨p15, e16, h⟩ := xbind h
    refine x_callV0 e_Ww_92 sh_1 rfl (t_Rolls_wetDays V L _ e16) rfl rfl rfl (Nat.le_of_ble_eq_true rfl) (xfit_of (by omega) (Nat.le_of_ble_eq_true rfl)) (Nat.zero_le _) (Nat.zero_le _) d_Ww_about_156 ?_
    obtain rfl := Option.some.inj h
    exact x_ireturn rfl d_Ww_about_159 (Nat.le_refl _) (Nat.le_refl _) ⟨rfl, rfl⟩
  replace h := xneg c14 h
  by_cases c17 : v1 = 7
  · replace h := xpos c17 h
    refine x_tableIn 102 160 d_Ww_about_58 (by rw [c17]; decide) (by rw [c17]; decide) (by rw [c17]; rfl) (by decide) ?_
    refine x_aload_n 0 d_Ww_about_160 rfl rfl ?_
    refine x_getP (q := 1) f_Ww_10 sh_0 rfl d_Ww_about_161 ?_
    obtain ⟨p18, e19, h⟩ := xbind h
    refine x_callV0 e_Ww_260 sh_1 rfl (t_Rolls_wetDecrees V L _ e19) rfl rfl rfl (Nat.le_of_ble_eq_true rfl) (xfit_of (by omega) (Nat.le_of_ble_eq_true rfl)) (Nat.zero_le _) (Nat.zero_le _) d_Ww_about_164 ?_
    obtain rfl := Option.some.inj h
    exact x_ireturn rfl d_Ww_about_167 (Nat.le_refl _) (Nat.le_refl _) ⟨rfl, rfl⟩
  replace h := xneg c17 h
  refine x_tableOut 168 d_Ww_about_58 (by have n0 := lv_neT c8 (a := 0) rfl; have n1 := lv_neT c9 (a := 1) rfl; have n2 := lv_neT c10 (a := 2) rfl; have n3 := lv_neT c11 (a := 3) rfl; have n4 := lv_neT c12 (a := 4) rfl; have n5 := lv_neT c13 (a := 5) rfl; have n6 := lv_neT c14 (a := 6) rfl; have n7 := lv_neT c17 (a := 7) rfl; omega) (by decide) ?_
  refine x_bipush (-2) d_Ww_about_168 (by decide) ?_
  obtain rfl := Option.some.inj h
  exact x_ireturn rfl d_Ww_about_170 (Nat.le_refl _) (Nat.le_refl _) ⟨rfl, rfl⟩
def b_Ww_about_25 (V : xV) (v1 : Int32) : Option (Int32) := (if v1 < 20 then b_Ww_about_57 V v1 else (if (20 + (V 1 7)) ≤ v1 then b_Ww_about_57 V v1 else (Option.bind (f_Rolls_entryOf (v1 - 20) V) fun p6 => some p6)))
theorem tb_Ww_about_25 {V : xV} {L : xL} (res : Int32)  (v1 : Int32) (h : b_Ww_about_25 V v1 = some res) : X M_Ww_about (xRm (5) M_Ww_about) (xZ M_Ww_about (fun o h' => o = some (.int res) ∧ h' = (SH, V, L))) SH V L 0 0 25 [(0, .ref 0), (1, .int v1)] [] := by
  unfold b_Ww_about_25 at h
  refine x_iload_n 1 d_Ww_about_25 rfl rfl ?_
  refine x_bipush 20 d_Ww_about_26 (by decide) ?_
  refine x_icmp_lt 57 d_Ww_about_28 (by decide) (fun c4 => ?_) (fun c4 => ?_)
  · replace h := xpos c4 h
    exact tb_Ww_about_57 (V := V) (L := L) res v1 h
  · replace h := xneg c4 h
    refine x_iload_n 1 d_Ww_about_31 rfl rfl ?_
    refine x_bipush 20 d_Ww_about_32 (by decide) ?_
    refine x_aload_n 0 d_Ww_about_34 rfl rfl ?_
    refine x_getP (q := 1) f_Ww_10 sh_0 rfl d_Ww_about_35 ?_
    refine x_getI f_Ww_170 sh_1 rfl d_Ww_about_38 ?_
    refine x_iadd d_Ww_about_41 ?_
    refine x_icmp_ge 57 d_Ww_about_42 (by decide) (fun c5 => ?_) (fun c5 => ?_)
    · replace h := xpos c5 h
      exact tb_Ww_about_57 (V := V) (L := L) res v1 h
    · replace h := xneg c5 h
      refine x_aload_n 0 d_Ww_about_45 rfl rfl ?_
      refine x_getP (q := 1) f_Ww_10 sh_0 rfl d_Ww_about_46 ?_
      refine x_iload_n 1 d_Ww_about_49 rfl rfl ?_
      refine x_bipush 20 d_Ww_about_50 (by decide) ?_
      refine x_isub d_Ww_about_52 ?_
      obtain ⟨p6, e7, h⟩ := xbind h
      refine x_callV0 e_Ww_254 sh_1 rfl (t_Rolls_entryOf (v1 - 20) V L _ e7) rfl rfl rfl (Nat.le_of_ble_eq_true rfl) (xfit_of (by omega) (Nat.le_of_ble_eq_true rfl)) (Nat.zero_le _) (Nat.zero_le _) d_Ww_about_53 ?_
      obtain rfl := Option.some.inj h
      exact x_ireturn rfl d_Ww_about_56 (Nat.le_refl _) (Nat.le_refl _) ⟨rfl, rfl⟩
def f_Ww_about (a1 : Int32) (V : xV) : Option (Int32) := (if a1 < 10 then b_Ww_about_25 V a1 else (if 20 ≤ a1 then b_Ww_about_25 V a1 else (if xI (a1 - 10) 10 = true then some (V 7 (a1 - 10).toNatClampNeg) else none)))
theorem t_Ww_about (a1 : Int32) (V : xV) (L : xL) (res : Int32) (h : f_Ww_about a1 V = some res) : xRuns (5) M_Ww_about [.ref 0, .int a1] (SH, V, L) (fun o h' => o = some (.int res) ∧ h' = (SH, V, L)) := by
  refine xRuns_of (by decide) (Nat.le_of_ble_eq_true rfl) ?_
  unfold f_Ww_about at h
  show X M_Ww_about (xRm (5) M_Ww_about) (xZ M_Ww_about (fun o h' => o = some (.int res) ∧ h' = (SH, V, L))) SH V L 0 0 0 [(0, .ref 0), (1, .int a1)] []
  refine x_iload_n 1 d_Ww_about_0 rfl rfl ?_
  refine x_bipush 10 d_Ww_about_1 (by decide) ?_
  refine x_icmp_lt 25 d_Ww_about_3 (by decide) (fun c1 => ?_) (fun c1 => ?_)
  · replace h := xpos c1 h
    exact tb_Ww_about_25 (V := V) (L := L) res a1 h
  · replace h := xneg c1 h
    refine x_iload_n 1 d_Ww_about_6 rfl rfl ?_
    refine x_bipush 20 d_Ww_about_7 (by decide) ?_
    refine x_icmp_ge 25 d_Ww_about_9 (by decide) (fun c2 => ?_) (fun c2 => ?_)
    · replace h := xpos c2 h
      exact tb_Ww_about_25 (V := V) (L := L) res a1 h
    · replace h := xneg c2 h
      refine x_aload_n 0 d_Ww_about_12 rfl rfl ?_
      refine x_getP (q := 1) f_Ww_10 sh_0 rfl d_Ww_about_13 ?_
      refine x_getP (q := 7) f_Ww_100 sh_1 rfl d_Ww_about_16 ?_
      refine x_iload_n 1 d_Ww_about_19 rfl rfl ?_
      refine x_bipush 10 d_Ww_about_20 (by decide) ?_
      refine x_isub d_Ww_about_22 ?_
      obtain ⟨c3, h⟩ := xguard h
      refine x_iaload sh_7 c3 d_Ww_about_23 ?_
      obtain rfl := Option.some.inj h
      exact x_ireturn rfl d_Ww_about_24 (Nat.le_refl _) (Nat.le_refl _) ⟨rfl, rfl⟩

def SHW : xS := SH.take 65
theorem shw_len : SHW.length = 65 := rfl
/-- the ints behind the constructors, ahead of the image -/
def VM0 (V : xV) : xV := x2 (x2 (x2 (x2 (x2 (x2 (x2 (x2 (x2 (x2 (x2 (x2 (x2 (x2 V 65 4 (-1)) 65 5 (-1)) 65 35 (-1)) 66 3 (-1)) 66 160 1) 66 161 1) 66 162 1) 66 163 1) 66 164 1) 66 165 1) 66 166 1) 66 167 1) 66 168 1) 66 169 1
theorem k_Md_init_65 (V V2 : xV) (L : xL) (hV : xzr V 66) (hL : ∀ r k, L r k = 0) (hc : f_Md_copies 1 (VM0 V) = some V2) : xRuns 2 M_Md_init [.ref 65] (SHW ++ [.inr (12, [1, 1, 1, 0, 0, 0, 1, 1, 1, 1, 1, 0, 0, 0, 0, 0, 0, 0, 0, 0, 1, 1, 0, 1, 1, 0, 0, 0, 1, 1, 0, 1, 1, 1, 1, 0, 1, 1, 1])], V, L) (fun o h' => o = none ∧ h' = (SH, V2, L)) := by
  have hn := shw_len
  generalize hsh : SHW = sh at hn ⊢
  refine xRuns_of (by decide) (Nat.le_of_ble_eq_true rfl) ?_
  show X M_Md_init _ _ _ _ _ _ _ _ [(0, .ref 65)] []
  refine x_aload_n 0 d_Md_init_0 rfl rfl ?_
  refine x_objInit w_obj_Md w_obj_i w_obj_c (Nat.le_of_ble_eq_true rfl) (Nat.le_of_ble_eq_true rfl) (Nat.le_of_ble_eq_true rfl) d_Md_init_1 ?_
  refine x_aload_n 0 d_Md_init_4 rfl rfl ?_
  refine x_sipush 270 d_Md_init_5 (by decide) ?_
  refine x_newarrA (sh2 := [.inr (12, [1, 1, 1, 0, 0, 0, 1, 1, 1, 1, 1, 0, 0, 0, 0, 0, 0, 0, 0, 0, 1, 1, 0, 1, 1, 0, 0, 0, 1, 1, 0, 1, 1, 1, 1, 0, 1, 1, 1]), .inl (.int, 270, fun _ => none)]) (r := 66) (cu2 := 1) (su2 := 270) 270 a_int rfl (by decide) hn rfl rfl ((xzw hV (m2 := 66) (by decide)) 66 (Nat.le_refl _)) (fun k => hL _ k) (by decide) (by decide) (Nat.le_of_ble_eq_true rfl) (Nat.le_of_ble_eq_true rfl) (Nat.le_of_ble_eq_true rfl) rfl rfl d_Md_init_8 ?_
  refine x_putPA (sh2 := [.inr (12, [69, 1, 1, 0, 0, 0, 1, 1, 1, 1, 1, 0, 0, 0, 0, 0, 0, 0, 0, 0, 1, 1, 0, 1, 1, 0, 0, 0, 1, 1, 0, 1, 1, 1, 1, 0, 1, 1, 1]), .inl (.int, 270, fun _ => none)]) (k := 0) (j := 0) f_Md_7 hn rfl rfl rfl (Nat.le_of_ble_eq_true rfl) ⟨rfl, fun _ => ⟨rfl, rfl⟩⟩ (fun _ => ⟨rfl, _, _, rfl⟩) d_Md_init_10 ?_
  refine x_aload_n 0 d_Md_init_13 rfl rfl ?_
  refine x_sipush 270 d_Md_init_14 (by decide) ?_
  refine x_newarrA (sh2 := [.inr (12, [69, 1, 1, 0, 0, 0, 1, 1, 1, 1, 1, 0, 0, 0, 0, 0, 0, 0, 0, 0, 1, 1, 0, 1, 1, 0, 0, 0, 1, 1, 0, 1, 1, 1, 1, 0, 1, 1, 1]), .inl (.int, 270, fun _ => none), .inl (.int, 270, fun _ => none)]) (r := 67) (cu2 := 2) (su2 := 540) 270 a_int rfl (by decide) hn rfl rfl ((xzw hV (m2 := 67) (by decide)) 67 (Nat.le_refl _)) (fun k => hL _ k) (by decide) (by decide) (Nat.le_of_ble_eq_true rfl) (Nat.le_of_ble_eq_true rfl) (Nat.le_of_ble_eq_true rfl) rfl rfl d_Md_init_17 ?_
  refine x_putPA (sh2 := [.inr (12, [69, 70, 1, 0, 0, 0, 1, 1, 1, 1, 1, 0, 0, 0, 0, 0, 0, 0, 0, 0, 1, 1, 0, 1, 1, 0, 0, 0, 1, 1, 0, 1, 1, 1, 1, 0, 1, 1, 1]), .inl (.int, 270, fun _ => none), .inl (.int, 270, fun _ => none)]) (k := 1) (j := 0) f_Md_13 hn rfl rfl rfl (Nat.le_of_ble_eq_true rfl) ⟨rfl, fun _ => ⟨rfl, rfl⟩⟩ (fun _ => ⟨rfl, _, _, rfl⟩) d_Md_init_19 ?_
  refine x_aload_n 0 d_Md_init_22 rfl rfl ?_
  refine x_sipush 300 d_Md_init_23 (by decide) ?_
  refine x_newarrA (sh2 := [.inr (12, [69, 70, 1, 0, 0, 0, 1, 1, 1, 1, 1, 0, 0, 0, 0, 0, 0, 0, 0, 0, 1, 1, 0, 1, 1, 0, 0, 0, 1, 1, 0, 1, 1, 1, 1, 0, 1, 1, 1]), .inl (.int, 270, fun _ => none), .inl (.int, 270, fun _ => none), .inl (.byte, 300, fun _ => none)]) (r := 68) (cu2 := 3) (su2 := 840) 300 a_byte rfl (by decide) hn rfl rfl ((xzw hV (m2 := 68) (by decide)) 68 (Nat.le_refl _)) (fun k => hL _ k) (by decide) (by decide) (Nat.le_of_ble_eq_true rfl) (Nat.le_of_ble_eq_true rfl) (Nat.le_of_ble_eq_true rfl) rfl rfl d_Md_init_26 ?_
  refine x_putPA (sh2 := [.inr (12, [69, 70, 71, 0, 0, 0, 1, 1, 1, 1, 1, 0, 0, 0, 0, 0, 0, 0, 0, 0, 1, 1, 0, 1, 1, 0, 0, 0, 1, 1, 0, 1, 1, 1, 1, 0, 1, 1, 1]), .inl (.int, 270, fun _ => none), .inl (.int, 270, fun _ => none), .inl (.byte, 300, fun _ => none)]) (k := 2) (j := 0) f_Md_16 hn rfl rfl rfl (Nat.le_of_ble_eq_true rfl) ⟨rfl, fun _ => ⟨rfl, rfl⟩⟩ (fun _ => ⟨rfl, _, _, rfl⟩) d_Md_init_28 ?_
  refine x_aload_n 0 d_Md_init_31 rfl rfl ?_
  refine x_iconst (-1) d_Md_init_32 (by decide) ?_
  refine x_putI f_Md_20 (xget (k := 0) hn rfl rfl) rfl rfl rfl d_Md_init_33 ?_
  refine x_aload_n 0 d_Md_init_36 rfl rfl ?_
  refine x_iconst (-1) d_Md_init_37 (by decide) ?_
  refine x_putI f_Md_24 (xget (k := 0) hn rfl rfl) rfl rfl rfl d_Md_init_38 ?_
  refine x_aload_n 0 d_Md_init_41 rfl rfl ?_
  refine x_iconst 4 d_Md_init_42 (by decide) ?_
  refine x_newarrA (sh2 := [.inr (12, [69, 70, 71, 0, 0, 0, 1, 1, 1, 1, 1, 0, 0, 0, 0, 0, 0, 0, 0, 0, 1, 1, 0, 1, 1, 0, 0, 0, 1, 1, 0, 1, 1, 1, 1, 0, 1, 1, 1]), .inl (.int, 270, fun _ => none), .inl (.int, 270, fun _ => none), .inl (.byte, 300, fun _ => none), .inl (.int, 4, fun _ => none)]) (r := 69) (cu2 := 4) (su2 := 844) 4 a_int rfl (by decide) hn rfl rfl ((xz2 (xz2 (xzw hV (m2 := 69) (by decide)) (by decide)) (by decide)) 69 (Nat.le_refl _)) (fun k => hL _ k) (by decide) (by decide) (Nat.le_of_ble_eq_true rfl) (Nat.le_of_ble_eq_true rfl) (Nat.le_of_ble_eq_true rfl) rfl rfl d_Md_init_43 ?_
  refine x_putPA (sh2 := [.inr (12, [69, 70, 71, 0, 0, 0, 72, 1, 1, 1, 1, 0, 0, 0, 0, 0, 0, 0, 0, 0, 1, 1, 0, 1, 1, 0, 0, 0, 1, 1, 0, 1, 1, 1, 1, 0, 1, 1, 1]), .inl (.int, 270, fun _ => none), .inl (.int, 270, fun _ => none), .inl (.byte, 300, fun _ => none), .inl (.int, 4, fun _ => none)]) (k := 6) (j := 0) f_Md_27 hn rfl rfl rfl (Nat.le_of_ble_eq_true rfl) ⟨rfl, fun _ => ⟨rfl, rfl⟩⟩ (fun _ => ⟨rfl, _, _, rfl⟩) d_Md_init_45 ?_
  refine x_aload_n 0 d_Md_init_48 rfl rfl ?_
  refine x_bipush 24 d_Md_init_49 (by decide) ?_
  refine x_newarrA (sh2 := [.inr (12, [69, 70, 71, 0, 0, 0, 72, 1, 1, 1, 1, 0, 0, 0, 0, 0, 0, 0, 0, 0, 1, 1, 0, 1, 1, 0, 0, 0, 1, 1, 0, 1, 1, 1, 1, 0, 1, 1, 1]), .inl (.int, 270, fun _ => none), .inl (.int, 270, fun _ => none), .inl (.byte, 300, fun _ => none), .inl (.int, 4, fun _ => none), .inl (.int, 24, fun _ => none)]) (r := 70) (cu2 := 5) (su2 := 868) 24 a_int rfl (by decide) hn rfl rfl ((xz2 (xz2 (xzw hV (m2 := 70) (by decide)) (by decide)) (by decide)) 70 (Nat.le_refl _)) (fun k => hL _ k) (by decide) (by decide) (Nat.le_of_ble_eq_true rfl) (Nat.le_of_ble_eq_true rfl) (Nat.le_of_ble_eq_true rfl) rfl rfl d_Md_init_51 ?_
  refine x_putPA (sh2 := [.inr (12, [69, 70, 71, 0, 0, 0, 72, 73, 1, 1, 1, 0, 0, 0, 0, 0, 0, 0, 0, 0, 1, 1, 0, 1, 1, 0, 0, 0, 1, 1, 0, 1, 1, 1, 1, 0, 1, 1, 1]), .inl (.int, 270, fun _ => none), .inl (.int, 270, fun _ => none), .inl (.byte, 300, fun _ => none), .inl (.int, 4, fun _ => none), .inl (.int, 24, fun _ => none)]) (k := 7) (j := 0) f_Md_30 hn rfl rfl rfl (Nat.le_of_ble_eq_true rfl) ⟨rfl, fun _ => ⟨rfl, rfl⟩⟩ (fun _ => ⟨rfl, _, _, rfl⟩) d_Md_init_53 ?_
  refine x_aload_n 0 d_Md_init_56 rfl rfl ?_
  refine x_bipush 24 d_Md_init_57 (by decide) ?_
  refine x_newarrA (sh2 := [.inr (12, [69, 70, 71, 0, 0, 0, 72, 73, 1, 1, 1, 0, 0, 0, 0, 0, 0, 0, 0, 0, 1, 1, 0, 1, 1, 0, 0, 0, 1, 1, 0, 1, 1, 1, 1, 0, 1, 1, 1]), .inl (.int, 270, fun _ => none), .inl (.int, 270, fun _ => none), .inl (.byte, 300, fun _ => none), .inl (.int, 4, fun _ => none), .inl (.int, 24, fun _ => none), .inl (.int, 24, fun _ => none)]) (r := 71) (cu2 := 6) (su2 := 892) 24 a_int rfl (by decide) hn rfl rfl ((xz2 (xz2 (xzw hV (m2 := 71) (by decide)) (by decide)) (by decide)) 71 (Nat.le_refl _)) (fun k => hL _ k) (by decide) (by decide) (Nat.le_of_ble_eq_true rfl) (Nat.le_of_ble_eq_true rfl) (Nat.le_of_ble_eq_true rfl) rfl rfl d_Md_init_59 ?_
  refine x_putPA (sh2 := [.inr (12, [69, 70, 71, 0, 0, 0, 72, 73, 74, 1, 1, 0, 0, 0, 0, 0, 0, 0, 0, 0, 1, 1, 0, 1, 1, 0, 0, 0, 1, 1, 0, 1, 1, 1, 1, 0, 1, 1, 1]), .inl (.int, 270, fun _ => none), .inl (.int, 270, fun _ => none), .inl (.byte, 300, fun _ => none), .inl (.int, 4, fun _ => none), .inl (.int, 24, fun _ => none), .inl (.int, 24, fun _ => none)]) (k := 8) (j := 0) f_Md_33 hn rfl rfl rfl (Nat.le_of_ble_eq_true rfl) ⟨rfl, fun _ => ⟨rfl, rfl⟩⟩ (fun _ => ⟨rfl, _, _, rfl⟩) d_Md_init_61 ?_
  refine x_aload_n 0 d_Md_init_64 rfl rfl ?_
  refine x_sipush 1600 d_Md_init_65 (by decide) ?_
  refine x_newarrA (sh2 := [.inr (12, [69, 70, 71, 0, 0, 0, 72, 73, 74, 1, 1, 0, 0, 0, 0, 0, 0, 0, 0, 0, 1, 1, 0, 1, 1, 0, 0, 0, 1, 1, 0, 1, 1, 1, 1, 0, 1, 1, 1]), .inl (.int, 270, fun _ => none), .inl (.int, 270, fun _ => none), .inl (.byte, 300, fun _ => none), .inl (.int, 4, fun _ => none), .inl (.int, 24, fun _ => none), .inl (.int, 24, fun _ => none), .inl (.int, 1600, fun _ => none)]) (r := 72) (cu2 := 7) (su2 := 2492) 1600 a_int rfl (by decide) hn rfl rfl ((xz2 (xz2 (xzw hV (m2 := 72) (by decide)) (by decide)) (by decide)) 72 (Nat.le_refl _)) (fun k => hL _ k) (by decide) (by decide) (Nat.le_of_ble_eq_true rfl) (Nat.le_of_ble_eq_true rfl) (Nat.le_of_ble_eq_true rfl) rfl rfl d_Md_init_68 ?_
  refine x_putPA (sh2 := [.inr (12, [69, 70, 71, 0, 0, 0, 72, 73, 74, 75, 1, 0, 0, 0, 0, 0, 0, 0, 0, 0, 1, 1, 0, 1, 1, 0, 0, 0, 1, 1, 0, 1, 1, 1, 1, 0, 1, 1, 1]), .inl (.int, 270, fun _ => none), .inl (.int, 270, fun _ => none), .inl (.byte, 300, fun _ => none), .inl (.int, 4, fun _ => none), .inl (.int, 24, fun _ => none), .inl (.int, 24, fun _ => none), .inl (.int, 1600, fun _ => none)]) (k := 9) (j := 0) f_Md_36 hn rfl rfl rfl (Nat.le_of_ble_eq_true rfl) ⟨rfl, fun _ => ⟨rfl, rfl⟩⟩ (fun _ => ⟨rfl, _, _, rfl⟩) d_Md_init_70 ?_
  refine x_aload_n 0 d_Md_init_73 rfl rfl ?_
  refine x_sipush 1600 d_Md_init_74 (by decide) ?_
  refine x_newarrA (sh2 := [.inr (12, [69, 70, 71, 0, 0, 0, 72, 73, 74, 75, 1, 0, 0, 0, 0, 0, 0, 0, 0, 0, 1, 1, 0, 1, 1, 0, 0, 0, 1, 1, 0, 1, 1, 1, 1, 0, 1, 1, 1]), .inl (.int, 270, fun _ => none), .inl (.int, 270, fun _ => none), .inl (.byte, 300, fun _ => none), .inl (.int, 4, fun _ => none), .inl (.int, 24, fun _ => none), .inl (.int, 24, fun _ => none), .inl (.int, 1600, fun _ => none), .inl (.int, 1600, fun _ => none)]) (r := 73) (cu2 := 8) (su2 := 4092) 1600 a_int rfl (by decide) hn rfl rfl ((xz2 (xz2 (xzw hV (m2 := 73) (by decide)) (by decide)) (by decide)) 73 (Nat.le_refl _)) (fun k => hL _ k) (by decide) (by decide) (Nat.le_of_ble_eq_true rfl) (Nat.le_of_ble_eq_true rfl) (Nat.le_of_ble_eq_true rfl) rfl rfl d_Md_init_77 ?_
  refine x_putPA (sh2 := [.inr (12, [69, 70, 71, 0, 0, 0, 72, 73, 74, 75, 76, 0, 0, 0, 0, 0, 0, 0, 0, 0, 1, 1, 0, 1, 1, 0, 0, 0, 1, 1, 0, 1, 1, 1, 1, 0, 1, 1, 1]), .inl (.int, 270, fun _ => none), .inl (.int, 270, fun _ => none), .inl (.byte, 300, fun _ => none), .inl (.int, 4, fun _ => none), .inl (.int, 24, fun _ => none), .inl (.int, 24, fun _ => none), .inl (.int, 1600, fun _ => none), .inl (.int, 1600, fun _ => none)]) (k := 10) (j := 0) f_Md_39 hn rfl rfl rfl (Nat.le_of_ble_eq_true rfl) ⟨rfl, fun _ => ⟨rfl, rfl⟩⟩ (fun _ => ⟨rfl, _, _, rfl⟩) d_Md_init_79 ?_
  refine x_aload_n 0 d_Md_init_82 rfl rfl ?_
  refine x_bipush 40 d_Md_init_83 (by decide) ?_
  refine x_newarrA (sh2 := [.inr (12, [69, 70, 71, 0, 0, 0, 72, 73, 74, 75, 76, 0, 0, 0, 0, 0, 0, 0, 0, 0, 1, 1, 0, 1, 1, 0, 0, 0, 1, 1, 0, 1, 1, 1, 1, 0, 1, 1, 1]), .inl (.int, 270, fun _ => none), .inl (.int, 270, fun _ => none), .inl (.byte, 300, fun _ => none), .inl (.int, 4, fun _ => none), .inl (.int, 24, fun _ => none), .inl (.int, 24, fun _ => none), .inl (.int, 1600, fun _ => none), .inl (.int, 1600, fun _ => none), .inl (.int, 40, fun _ => none)]) (r := 74) (cu2 := 9) (su2 := 4132) 40 a_int rfl (by decide) hn rfl rfl ((xz2 (xz2 (xzw hV (m2 := 74) (by decide)) (by decide)) (by decide)) 74 (Nat.le_refl _)) (fun k => hL _ k) (by decide) (by decide) (Nat.le_of_ble_eq_true rfl) (Nat.le_of_ble_eq_true rfl) (Nat.le_of_ble_eq_true rfl) rfl rfl d_Md_init_85 ?_
  refine x_putPA (sh2 := [.inr (12, [69, 70, 71, 0, 0, 0, 72, 73, 74, 75, 76, 0, 0, 0, 0, 0, 0, 0, 0, 0, 77, 1, 0, 1, 1, 0, 0, 0, 1, 1, 0, 1, 1, 1, 1, 0, 1, 1, 1]), .inl (.int, 270, fun _ => none), .inl (.int, 270, fun _ => none), .inl (.byte, 300, fun _ => none), .inl (.int, 4, fun _ => none), .inl (.int, 24, fun _ => none), .inl (.int, 24, fun _ => none), .inl (.int, 1600, fun _ => none), .inl (.int, 1600, fun _ => none), .inl (.int, 40, fun _ => none)]) (k := 20) (j := 0) f_Md_42 hn rfl rfl rfl (Nat.le_of_ble_eq_true rfl) ⟨rfl, fun _ => ⟨rfl, rfl⟩⟩ (fun _ => ⟨rfl, _, _, rfl⟩) d_Md_init_87 ?_
  refine x_aload_n 0 d_Md_init_90 rfl rfl ?_
  refine x_bipush 41 d_Md_init_91 (by decide) ?_
  refine x_newarrA (sh2 := [.inr (12, [69, 70, 71, 0, 0, 0, 72, 73, 74, 75, 76, 0, 0, 0, 0, 0, 0, 0, 0, 0, 77, 1, 0, 1, 1, 0, 0, 0, 1, 1, 0, 1, 1, 1, 1, 0, 1, 1, 1]), .inl (.int, 270, fun _ => none), .inl (.int, 270, fun _ => none), .inl (.byte, 300, fun _ => none), .inl (.int, 4, fun _ => none), .inl (.int, 24, fun _ => none), .inl (.int, 24, fun _ => none), .inl (.int, 1600, fun _ => none), .inl (.int, 1600, fun _ => none), .inl (.int, 40, fun _ => none), .inl (.int, 41, fun _ => none)]) (r := 75) (cu2 := 10) (su2 := 4173) 41 a_int rfl (by decide) hn rfl rfl ((xz2 (xz2 (xzw hV (m2 := 75) (by decide)) (by decide)) (by decide)) 75 (Nat.le_refl _)) (fun k => hL _ k) (by decide) (by decide) (Nat.le_of_ble_eq_true rfl) (Nat.le_of_ble_eq_true rfl) (Nat.le_of_ble_eq_true rfl) rfl rfl d_Md_init_93 ?_
  refine x_putPA (sh2 := [.inr (12, [69, 70, 71, 0, 0, 0, 72, 73, 74, 75, 76, 0, 0, 0, 0, 0, 0, 0, 0, 0, 77, 78, 0, 1, 1, 0, 0, 0, 1, 1, 0, 1, 1, 1, 1, 0, 1, 1, 1]), .inl (.int, 270, fun _ => none), .inl (.int, 270, fun _ => none), .inl (.byte, 300, fun _ => none), .inl (.int, 4, fun _ => none), .inl (.int, 24, fun _ => none), .inl (.int, 24, fun _ => none), .inl (.int, 1600, fun _ => none), .inl (.int, 1600, fun _ => none), .inl (.int, 40, fun _ => none), .inl (.int, 41, fun _ => none)]) (k := 21) (j := 0) f_Md_45 hn rfl rfl rfl (Nat.le_of_ble_eq_true rfl) ⟨rfl, fun _ => ⟨rfl, rfl⟩⟩ (fun _ => ⟨rfl, _, _, rfl⟩) d_Md_init_95 ?_
  refine x_aload_n 0 d_Md_init_98 rfl rfl ?_
  refine x_bipush 80 d_Md_init_99 (by decide) ?_
  refine x_newarrA (sh2 := [.inr (12, [69, 70, 71, 0, 0, 0, 72, 73, 74, 75, 76, 0, 0, 0, 0, 0, 0, 0, 0, 0, 77, 78, 0, 1, 1, 0, 0, 0, 1, 1, 0, 1, 1, 1, 1, 0, 1, 1, 1]), .inl (.int, 270, fun _ => none), .inl (.int, 270, fun _ => none), .inl (.byte, 300, fun _ => none), .inl (.int, 4, fun _ => none), .inl (.int, 24, fun _ => none), .inl (.int, 24, fun _ => none), .inl (.int, 1600, fun _ => none), .inl (.int, 1600, fun _ => none), .inl (.int, 40, fun _ => none), .inl (.int, 41, fun _ => none), .inl (.int, 80, fun _ => none)]) (r := 76) (cu2 := 11) (su2 := 4253) 80 a_int rfl (by decide) hn rfl rfl ((xz2 (xz2 (xzw hV (m2 := 76) (by decide)) (by decide)) (by decide)) 76 (Nat.le_refl _)) (fun k => hL _ k) (by decide) (by decide) (Nat.le_of_ble_eq_true rfl) (Nat.le_of_ble_eq_true rfl) (Nat.le_of_ble_eq_true rfl) rfl rfl d_Md_init_101 ?_
  refine x_putPA (sh2 := [.inr (12, [69, 70, 71, 0, 0, 0, 72, 73, 74, 75, 76, 0, 0, 0, 0, 0, 0, 0, 0, 0, 77, 78, 0, 79, 1, 0, 0, 0, 1, 1, 0, 1, 1, 1, 1, 0, 1, 1, 1]), .inl (.int, 270, fun _ => none), .inl (.int, 270, fun _ => none), .inl (.byte, 300, fun _ => none), .inl (.int, 4, fun _ => none), .inl (.int, 24, fun _ => none), .inl (.int, 24, fun _ => none), .inl (.int, 1600, fun _ => none), .inl (.int, 1600, fun _ => none), .inl (.int, 40, fun _ => none), .inl (.int, 41, fun _ => none), .inl (.int, 80, fun _ => none)]) (k := 23) (j := 0) f_Md_48 hn rfl rfl rfl (Nat.le_of_ble_eq_true rfl) ⟨rfl, fun _ => ⟨rfl, rfl⟩⟩ (fun _ => ⟨rfl, _, _, rfl⟩) d_Md_init_103 ?_
  refine x_aload_n 0 d_Md_init_106 rfl rfl ?_
  refine x_bipush 80 d_Md_init_107 (by decide) ?_
  refine x_newarrA (sh2 := [.inr (12, [69, 70, 71, 0, 0, 0, 72, 73, 74, 75, 76, 0, 0, 0, 0, 0, 0, 0, 0, 0, 77, 78, 0, 79, 1, 0, 0, 0, 1, 1, 0, 1, 1, 1, 1, 0, 1, 1, 1]), .inl (.int, 270, fun _ => none), .inl (.int, 270, fun _ => none), .inl (.byte, 300, fun _ => none), .inl (.int, 4, fun _ => none), .inl (.int, 24, fun _ => none), .inl (.int, 24, fun _ => none), .inl (.int, 1600, fun _ => none), .inl (.int, 1600, fun _ => none), .inl (.int, 40, fun _ => none), .inl (.int, 41, fun _ => none), .inl (.int, 80, fun _ => none), .inl (.int, 80, fun _ => none)]) (r := 77) (cu2 := 12) (su2 := 4333) 80 a_int rfl (by decide) hn rfl rfl ((xz2 (xz2 (xzw hV (m2 := 77) (by decide)) (by decide)) (by decide)) 77 (Nat.le_refl _)) (fun k => hL _ k) (by decide) (by decide) (Nat.le_of_ble_eq_true rfl) (Nat.le_of_ble_eq_true rfl) (Nat.le_of_ble_eq_true rfl) rfl rfl d_Md_init_109 ?_
  refine x_putPA (sh2 := [.inr (12, [69, 70, 71, 0, 0, 0, 72, 73, 74, 75, 76, 0, 0, 0, 0, 0, 0, 0, 0, 0, 77, 78, 0, 79, 80, 0, 0, 0, 1, 1, 0, 1, 1, 1, 1, 0, 1, 1, 1]), .inl (.int, 270, fun _ => none), .inl (.int, 270, fun _ => none), .inl (.byte, 300, fun _ => none), .inl (.int, 4, fun _ => none), .inl (.int, 24, fun _ => none), .inl (.int, 24, fun _ => none), .inl (.int, 1600, fun _ => none), .inl (.int, 1600, fun _ => none), .inl (.int, 40, fun _ => none), .inl (.int, 41, fun _ => none), .inl (.int, 80, fun _ => none), .inl (.int, 80, fun _ => none)]) (k := 24) (j := 0) f_Md_51 hn rfl rfl rfl (Nat.le_of_ble_eq_true rfl) ⟨rfl, fun _ => ⟨rfl, rfl⟩⟩ (fun _ => ⟨rfl, _, _, rfl⟩) d_Md_init_111 ?_
  refine x_aload_n 0 d_Md_init_114 rfl rfl ?_
  refine x_bipush 6 d_Md_init_115 (by decide) ?_
  refine x_newarrA (sh2 := [.inr (12, [69, 70, 71, 0, 0, 0, 72, 73, 74, 75, 76, 0, 0, 0, 0, 0, 0, 0, 0, 0, 77, 78, 0, 79, 80, 0, 0, 0, 1, 1, 0, 1, 1, 1, 1, 0, 1, 1, 1]), .inl (.int, 270, fun _ => none), .inl (.int, 270, fun _ => none), .inl (.byte, 300, fun _ => none), .inl (.int, 4, fun _ => none), .inl (.int, 24, fun _ => none), .inl (.int, 24, fun _ => none), .inl (.int, 1600, fun _ => none), .inl (.int, 1600, fun _ => none), .inl (.int, 40, fun _ => none), .inl (.int, 41, fun _ => none), .inl (.int, 80, fun _ => none), .inl (.int, 80, fun _ => none), .inl (.int, 6, fun _ => none)]) (r := 78) (cu2 := 13) (su2 := 4339) 6 a_int rfl (by decide) hn rfl rfl ((xz2 (xz2 (xzw hV (m2 := 78) (by decide)) (by decide)) (by decide)) 78 (Nat.le_refl _)) (fun k => hL _ k) (by decide) (by decide) (Nat.le_of_ble_eq_true rfl) (Nat.le_of_ble_eq_true rfl) (Nat.le_of_ble_eq_true rfl) rfl rfl d_Md_init_117 ?_
  refine x_putPA (sh2 := [.inr (12, [69, 70, 71, 0, 0, 0, 72, 73, 74, 75, 76, 0, 0, 0, 0, 0, 0, 0, 0, 0, 77, 78, 0, 79, 80, 0, 0, 0, 81, 1, 0, 1, 1, 1, 1, 0, 1, 1, 1]), .inl (.int, 270, fun _ => none), .inl (.int, 270, fun _ => none), .inl (.byte, 300, fun _ => none), .inl (.int, 4, fun _ => none), .inl (.int, 24, fun _ => none), .inl (.int, 24, fun _ => none), .inl (.int, 1600, fun _ => none), .inl (.int, 1600, fun _ => none), .inl (.int, 40, fun _ => none), .inl (.int, 41, fun _ => none), .inl (.int, 80, fun _ => none), .inl (.int, 80, fun _ => none), .inl (.int, 6, fun _ => none)]) (k := 28) (j := 0) f_Md_54 hn rfl rfl rfl (Nat.le_of_ble_eq_true rfl) ⟨rfl, fun _ => ⟨rfl, rfl⟩⟩ (fun _ => ⟨rfl, _, _, rfl⟩) d_Md_init_119 ?_
  refine x_aload_n 0 d_Md_init_122 rfl rfl ?_
  refine x_bipush 6 d_Md_init_123 (by decide) ?_
  refine x_newarrA (sh2 := [.inr (12, [69, 70, 71, 0, 0, 0, 72, 73, 74, 75, 76, 0, 0, 0, 0, 0, 0, 0, 0, 0, 77, 78, 0, 79, 80, 0, 0, 0, 81, 1, 0, 1, 1, 1, 1, 0, 1, 1, 1]), .inl (.int, 270, fun _ => none), .inl (.int, 270, fun _ => none), .inl (.byte, 300, fun _ => none), .inl (.int, 4, fun _ => none), .inl (.int, 24, fun _ => none), .inl (.int, 24, fun _ => none), .inl (.int, 1600, fun _ => none), .inl (.int, 1600, fun _ => none), .inl (.int, 40, fun _ => none), .inl (.int, 41, fun _ => none), .inl (.int, 80, fun _ => none), .inl (.int, 80, fun _ => none), .inl (.int, 6, fun _ => none), .inl (.int, 6, fun _ => none)]) (r := 79) (cu2 := 14) (su2 := 4345) 6 a_int rfl (by decide) hn rfl rfl ((xz2 (xz2 (xzw hV (m2 := 79) (by decide)) (by decide)) (by decide)) 79 (Nat.le_refl _)) (fun k => hL _ k) (by decide) (by decide) (Nat.le_of_ble_eq_true rfl) (Nat.le_of_ble_eq_true rfl) (Nat.le_of_ble_eq_true rfl) rfl rfl d_Md_init_125 ?_
  refine x_putPA (sh2 := [.inr (12, [69, 70, 71, 0, 0, 0, 72, 73, 74, 75, 76, 0, 0, 0, 0, 0, 0, 0, 0, 0, 77, 78, 0, 79, 80, 0, 0, 0, 81, 82, 0, 1, 1, 1, 1, 0, 1, 1, 1]), .inl (.int, 270, fun _ => none), .inl (.int, 270, fun _ => none), .inl (.byte, 300, fun _ => none), .inl (.int, 4, fun _ => none), .inl (.int, 24, fun _ => none), .inl (.int, 24, fun _ => none), .inl (.int, 1600, fun _ => none), .inl (.int, 1600, fun _ => none), .inl (.int, 40, fun _ => none), .inl (.int, 41, fun _ => none), .inl (.int, 80, fun _ => none), .inl (.int, 80, fun _ => none), .inl (.int, 6, fun _ => none), .inl (.int, 6, fun _ => none)]) (k := 29) (j := 0) f_Md_57 hn rfl rfl rfl (Nat.le_of_ble_eq_true rfl) ⟨rfl, fun _ => ⟨rfl, rfl⟩⟩ (fun _ => ⟨rfl, _, _, rfl⟩) d_Md_init_127 ?_
  refine x_aload_n 0 d_Md_init_130 rfl rfl ?_
  refine x_sipush 400 d_Md_init_131 (by decide) ?_
  refine x_newarrA (sh2 := [.inr (12, [69, 70, 71, 0, 0, 0, 72, 73, 74, 75, 76, 0, 0, 0, 0, 0, 0, 0, 0, 0, 77, 78, 0, 79, 80, 0, 0, 0, 81, 82, 0, 1, 1, 1, 1, 0, 1, 1, 1]), .inl (.int, 270, fun _ => none), .inl (.int, 270, fun _ => none), .inl (.byte, 300, fun _ => none), .inl (.int, 4, fun _ => none), .inl (.int, 24, fun _ => none), .inl (.int, 24, fun _ => none), .inl (.int, 1600, fun _ => none), .inl (.int, 1600, fun _ => none), .inl (.int, 40, fun _ => none), .inl (.int, 41, fun _ => none), .inl (.int, 80, fun _ => none), .inl (.int, 80, fun _ => none), .inl (.int, 6, fun _ => none), .inl (.int, 6, fun _ => none), .inl (.int, 400, fun _ => none)]) (r := 80) (cu2 := 15) (su2 := 4745) 400 a_int rfl (by decide) hn rfl rfl ((xz2 (xz2 (xzw hV (m2 := 80) (by decide)) (by decide)) (by decide)) 80 (Nat.le_refl _)) (fun k => hL _ k) (by decide) (by decide) (Nat.le_of_ble_eq_true rfl) (Nat.le_of_ble_eq_true rfl) (Nat.le_of_ble_eq_true rfl) rfl rfl d_Md_init_134 ?_
  refine x_putPA (sh2 := [.inr (12, [69, 70, 71, 0, 0, 0, 72, 73, 74, 75, 76, 0, 0, 0, 0, 0, 0, 0, 0, 0, 77, 78, 0, 79, 80, 0, 0, 0, 81, 82, 0, 83, 1, 1, 1, 0, 1, 1, 1]), .inl (.int, 270, fun _ => none), .inl (.int, 270, fun _ => none), .inl (.byte, 300, fun _ => none), .inl (.int, 4, fun _ => none), .inl (.int, 24, fun _ => none), .inl (.int, 24, fun _ => none), .inl (.int, 1600, fun _ => none), .inl (.int, 1600, fun _ => none), .inl (.int, 40, fun _ => none), .inl (.int, 41, fun _ => none), .inl (.int, 80, fun _ => none), .inl (.int, 80, fun _ => none), .inl (.int, 6, fun _ => none), .inl (.int, 6, fun _ => none), .inl (.int, 400, fun _ => none)]) (k := 31) (j := 0) f_Md_60 hn rfl rfl rfl (Nat.le_of_ble_eq_true rfl) ⟨rfl, fun _ => ⟨rfl, rfl⟩⟩ (fun _ => ⟨rfl, _, _, rfl⟩) d_Md_init_136 ?_
  refine x_aload_n 0 d_Md_init_139 rfl rfl ?_
  refine x_sipush 400 d_Md_init_140 (by decide) ?_
  refine x_newarrA (sh2 := [.inr (12, [69, 70, 71, 0, 0, 0, 72, 73, 74, 75, 76, 0, 0, 0, 0, 0, 0, 0, 0, 0, 77, 78, 0, 79, 80, 0, 0, 0, 81, 82, 0, 83, 1, 1, 1, 0, 1, 1, 1]), .inl (.int, 270, fun _ => none), .inl (.int, 270, fun _ => none), .inl (.byte, 300, fun _ => none), .inl (.int, 4, fun _ => none), .inl (.int, 24, fun _ => none), .inl (.int, 24, fun _ => none), .inl (.int, 1600, fun _ => none), .inl (.int, 1600, fun _ => none), .inl (.int, 40, fun _ => none), .inl (.int, 41, fun _ => none), .inl (.int, 80, fun _ => none), .inl (.int, 80, fun _ => none), .inl (.int, 6, fun _ => none), .inl (.int, 6, fun _ => none), .inl (.int, 400, fun _ => none), .inl (.int, 400, fun _ => none)]) (r := 81) (cu2 := 16) (su2 := 5145) 400 a_int rfl (by decide) hn rfl rfl ((xz2 (xz2 (xzw hV (m2 := 81) (by decide)) (by decide)) (by decide)) 81 (Nat.le_refl _)) (fun k => hL _ k) (by decide) (by decide) (Nat.le_of_ble_eq_true rfl) (Nat.le_of_ble_eq_true rfl) (Nat.le_of_ble_eq_true rfl) rfl rfl d_Md_init_143 ?_
  refine x_putPA (sh2 := [.inr (12, [69, 70, 71, 0, 0, 0, 72, 73, 74, 75, 76, 0, 0, 0, 0, 0, 0, 0, 0, 0, 77, 78, 0, 79, 80, 0, 0, 0, 81, 82, 0, 83, 84, 1, 1, 0, 1, 1, 1]), .inl (.int, 270, fun _ => none), .inl (.int, 270, fun _ => none), .inl (.byte, 300, fun _ => none), .inl (.int, 4, fun _ => none), .inl (.int, 24, fun _ => none), .inl (.int, 24, fun _ => none), .inl (.int, 1600, fun _ => none), .inl (.int, 1600, fun _ => none), .inl (.int, 40, fun _ => none), .inl (.int, 41, fun _ => none), .inl (.int, 80, fun _ => none), .inl (.int, 80, fun _ => none), .inl (.int, 6, fun _ => none), .inl (.int, 6, fun _ => none), .inl (.int, 400, fun _ => none), .inl (.int, 400, fun _ => none)]) (k := 32) (j := 0) f_Md_63 hn rfl rfl rfl (Nat.le_of_ble_eq_true rfl) ⟨rfl, fun _ => ⟨rfl, rfl⟩⟩ (fun _ => ⟨rfl, _, _, rfl⟩) d_Md_init_145 ?_
  refine x_aload_n 0 d_Md_init_148 rfl rfl ?_
  refine x_bipush 13 d_Md_init_149 (by decide) ?_
  refine x_newarrA (sh2 := [.inr (12, [69, 70, 71, 0, 0, 0, 72, 73, 74, 75, 76, 0, 0, 0, 0, 0, 0, 0, 0, 0, 77, 78, 0, 79, 80, 0, 0, 0, 81, 82, 0, 83, 84, 1, 1, 0, 1, 1, 1]), .inl (.int, 270, fun _ => none), .inl (.int, 270, fun _ => none), .inl (.byte, 300, fun _ => none), .inl (.int, 4, fun _ => none), .inl (.int, 24, fun _ => none), .inl (.int, 24, fun _ => none), .inl (.int, 1600, fun _ => none), .inl (.int, 1600, fun _ => none), .inl (.int, 40, fun _ => none), .inl (.int, 41, fun _ => none), .inl (.int, 80, fun _ => none), .inl (.int, 80, fun _ => none), .inl (.int, 6, fun _ => none), .inl (.int, 6, fun _ => none), .inl (.int, 400, fun _ => none), .inl (.int, 400, fun _ => none), .inl (.int, 13, fun _ => none)]) (r := 82) (cu2 := 17) (su2 := 5158) 13 a_int rfl (by decide) hn rfl rfl ((xz2 (xz2 (xzw hV (m2 := 82) (by decide)) (by decide)) (by decide)) 82 (Nat.le_refl _)) (fun k => hL _ k) (by decide) (by decide) (Nat.le_of_ble_eq_true rfl) (Nat.le_of_ble_eq_true rfl) (Nat.le_of_ble_eq_true rfl) rfl rfl d_Md_init_151 ?_
  refine x_putPA (sh2 := [.inr (12, [69, 70, 71, 0, 0, 0, 72, 73, 74, 75, 76, 0, 0, 0, 0, 0, 0, 0, 0, 0, 77, 78, 0, 79, 80, 0, 0, 0, 81, 82, 0, 83, 84, 85, 1, 0, 1, 1, 1]), .inl (.int, 270, fun _ => none), .inl (.int, 270, fun _ => none), .inl (.byte, 300, fun _ => none), .inl (.int, 4, fun _ => none), .inl (.int, 24, fun _ => none), .inl (.int, 24, fun _ => none), .inl (.int, 1600, fun _ => none), .inl (.int, 1600, fun _ => none), .inl (.int, 40, fun _ => none), .inl (.int, 41, fun _ => none), .inl (.int, 80, fun _ => none), .inl (.int, 80, fun _ => none), .inl (.int, 6, fun _ => none), .inl (.int, 6, fun _ => none), .inl (.int, 400, fun _ => none), .inl (.int, 400, fun _ => none), .inl (.int, 13, fun _ => none)]) (k := 33) (j := 0) f_Md_66 hn rfl rfl rfl (Nat.le_of_ble_eq_true rfl) ⟨rfl, fun _ => ⟨rfl, rfl⟩⟩ (fun _ => ⟨rfl, _, _, rfl⟩) d_Md_init_153 ?_
  refine x_aload_n 0 d_Md_init_156 rfl rfl ?_
  refine x_sipush 200 d_Md_init_157 (by decide) ?_
  refine x_newarrA (sh2 := [.inr (12, [69, 70, 71, 0, 0, 0, 72, 73, 74, 75, 76, 0, 0, 0, 0, 0, 0, 0, 0, 0, 77, 78, 0, 79, 80, 0, 0, 0, 81, 82, 0, 83, 84, 85, 1, 0, 1, 1, 1]), .inl (.int, 270, fun _ => none), .inl (.int, 270, fun _ => none), .inl (.byte, 300, fun _ => none), .inl (.int, 4, fun _ => none), .inl (.int, 24, fun _ => none), .inl (.int, 24, fun _ => none), .inl (.int, 1600, fun _ => none), .inl (.int, 1600, fun _ => none), .inl (.int, 40, fun _ => none), .inl (.int, 41, fun _ => none), .inl (.int, 80, fun _ => none), .inl (.int, 80, fun _ => none), .inl (.int, 6, fun _ => none), .inl (.int, 6, fun _ => none), .inl (.int, 400, fun _ => none), .inl (.int, 400, fun _ => none), .inl (.int, 13, fun _ => none), .inl (.long, 200, fun _ => none)]) (r := 83) (cu2 := 18) (su2 := 5358) 200 a_long rfl (by decide) hn rfl rfl ((xz2 (xz2 (xzw hV (m2 := 83) (by decide)) (by decide)) (by decide)) 83 (Nat.le_refl _)) (fun k => hL _ k) (by decide) (by decide) (Nat.le_of_ble_eq_true rfl) (Nat.le_of_ble_eq_true rfl) (Nat.le_of_ble_eq_true rfl) rfl rfl d_Md_init_160 ?_
  refine x_putPA (sh2 := [.inr (12, [69, 70, 71, 0, 0, 0, 72, 73, 74, 75, 76, 0, 0, 0, 0, 0, 0, 0, 0, 0, 77, 78, 0, 79, 80, 0, 0, 0, 81, 82, 0, 83, 84, 85, 86, 0, 1, 1, 1]), .inl (.int, 270, fun _ => none), .inl (.int, 270, fun _ => none), .inl (.byte, 300, fun _ => none), .inl (.int, 4, fun _ => none), .inl (.int, 24, fun _ => none), .inl (.int, 24, fun _ => none), .inl (.int, 1600, fun _ => none), .inl (.int, 1600, fun _ => none), .inl (.int, 40, fun _ => none), .inl (.int, 41, fun _ => none), .inl (.int, 80, fun _ => none), .inl (.int, 80, fun _ => none), .inl (.int, 6, fun _ => none), .inl (.int, 6, fun _ => none), .inl (.int, 400, fun _ => none), .inl (.int, 400, fun _ => none), .inl (.int, 13, fun _ => none), .inl (.long, 200, fun _ => none)]) (k := 34) (j := 0) f_Md_69 hn rfl rfl rfl (Nat.le_of_ble_eq_true rfl) ⟨rfl, fun _ => ⟨rfl, rfl⟩⟩ (fun _ => ⟨rfl, _, _, rfl⟩) d_Md_init_162 ?_
  refine x_aload_n 0 d_Md_init_165 rfl rfl ?_
  refine x_iconst (-1) d_Md_init_166 (by decide) ?_
  refine x_putI f_Md_73 (xget (k := 0) hn rfl rfl) rfl rfl rfl d_Md_init_167 ?_
  refine x_aload_n 0 d_Md_init_170 rfl rfl ?_
  refine x_bipush 20 d_Md_init_171 (by decide) ?_
  refine x_newarrA (sh2 := [.inr (12, [69, 70, 71, 0, 0, 0, 72, 73, 74, 75, 76, 0, 0, 0, 0, 0, 0, 0, 0, 0, 77, 78, 0, 79, 80, 0, 0, 0, 81, 82, 0, 83, 84, 85, 86, 0, 1, 1, 1]), .inl (.int, 270, fun _ => none), .inl (.int, 270, fun _ => none), .inl (.byte, 300, fun _ => none), .inl (.int, 4, fun _ => none), .inl (.int, 24, fun _ => none), .inl (.int, 24, fun _ => none), .inl (.int, 1600, fun _ => none), .inl (.int, 1600, fun _ => none), .inl (.int, 40, fun _ => none), .inl (.int, 41, fun _ => none), .inl (.int, 80, fun _ => none), .inl (.int, 80, fun _ => none), .inl (.int, 6, fun _ => none), .inl (.int, 6, fun _ => none), .inl (.int, 400, fun _ => none), .inl (.int, 400, fun _ => none), .inl (.int, 13, fun _ => none), .inl (.long, 200, fun _ => none), .inl (.int, 20, fun _ => none)]) (r := 84) (cu2 := 19) (su2 := 5378) 20 a_int rfl (by decide) hn rfl rfl ((xz2 (xz2 (xz2 (xzw hV (m2 := 84) (by decide)) (by decide)) (by decide)) (by decide)) 84 (Nat.le_refl _)) (fun k => hL _ k) (by decide) (by decide) (Nat.le_of_ble_eq_true rfl) (Nat.le_of_ble_eq_true rfl) (Nat.le_of_ble_eq_true rfl) rfl rfl d_Md_init_173 ?_
  refine x_putPA (sh2 := [.inr (12, [69, 70, 71, 0, 0, 0, 72, 73, 74, 75, 76, 0, 0, 0, 0, 0, 0, 0, 0, 0, 77, 78, 0, 79, 80, 0, 0, 0, 81, 82, 0, 83, 84, 85, 86, 0, 87, 1, 1]), .inl (.int, 270, fun _ => none), .inl (.int, 270, fun _ => none), .inl (.byte, 300, fun _ => none), .inl (.int, 4, fun _ => none), .inl (.int, 24, fun _ => none), .inl (.int, 24, fun _ => none), .inl (.int, 1600, fun _ => none), .inl (.int, 1600, fun _ => none), .inl (.int, 40, fun _ => none), .inl (.int, 41, fun _ => none), .inl (.int, 80, fun _ => none), .inl (.int, 80, fun _ => none), .inl (.int, 6, fun _ => none), .inl (.int, 6, fun _ => none), .inl (.int, 400, fun _ => none), .inl (.int, 400, fun _ => none), .inl (.int, 13, fun _ => none), .inl (.long, 200, fun _ => none), .inl (.int, 20, fun _ => none)]) (k := 36) (j := 0) f_Md_76 hn rfl rfl rfl (Nat.le_of_ble_eq_true rfl) ⟨rfl, fun _ => ⟨rfl, rfl⟩⟩ (fun _ => ⟨rfl, _, _, rfl⟩) d_Md_init_175 ?_
  refine x_aload_n 0 d_Md_init_178 rfl rfl ?_
  refine x_bipush 20 d_Md_init_179 (by decide) ?_
  refine x_newarrA (sh2 := [.inr (12, [69, 70, 71, 0, 0, 0, 72, 73, 74, 75, 76, 0, 0, 0, 0, 0, 0, 0, 0, 0, 77, 78, 0, 79, 80, 0, 0, 0, 81, 82, 0, 83, 84, 85, 86, 0, 87, 1, 1]), .inl (.int, 270, fun _ => none), .inl (.int, 270, fun _ => none), .inl (.byte, 300, fun _ => none), .inl (.int, 4, fun _ => none), .inl (.int, 24, fun _ => none), .inl (.int, 24, fun _ => none), .inl (.int, 1600, fun _ => none), .inl (.int, 1600, fun _ => none), .inl (.int, 40, fun _ => none), .inl (.int, 41, fun _ => none), .inl (.int, 80, fun _ => none), .inl (.int, 80, fun _ => none), .inl (.int, 6, fun _ => none), .inl (.int, 6, fun _ => none), .inl (.int, 400, fun _ => none), .inl (.int, 400, fun _ => none), .inl (.int, 13, fun _ => none), .inl (.long, 200, fun _ => none), .inl (.int, 20, fun _ => none), .inl (.int, 20, fun _ => none)]) (r := 85) (cu2 := 20) (su2 := 5398) 20 a_int rfl (by decide) hn rfl rfl ((xz2 (xz2 (xz2 (xzw hV (m2 := 85) (by decide)) (by decide)) (by decide)) (by decide)) 85 (Nat.le_refl _)) (fun k => hL _ k) (by decide) (by decide) (Nat.le_of_ble_eq_true rfl) (Nat.le_of_ble_eq_true rfl) (Nat.le_of_ble_eq_true rfl) rfl rfl d_Md_init_181 ?_
  refine x_putPA (sh2 := [.inr (12, [69, 70, 71, 0, 0, 0, 72, 73, 74, 75, 76, 0, 0, 0, 0, 0, 0, 0, 0, 0, 77, 78, 0, 79, 80, 0, 0, 0, 81, 82, 0, 83, 84, 85, 86, 0, 87, 88, 1]), .inl (.int, 270, fun _ => none), .inl (.int, 270, fun _ => none), .inl (.byte, 300, fun _ => none), .inl (.int, 4, fun _ => none), .inl (.int, 24, fun _ => none), .inl (.int, 24, fun _ => none), .inl (.int, 1600, fun _ => none), .inl (.int, 1600, fun _ => none), .inl (.int, 40, fun _ => none), .inl (.int, 41, fun _ => none), .inl (.int, 80, fun _ => none), .inl (.int, 80, fun _ => none), .inl (.int, 6, fun _ => none), .inl (.int, 6, fun _ => none), .inl (.int, 400, fun _ => none), .inl (.int, 400, fun _ => none), .inl (.int, 13, fun _ => none), .inl (.long, 200, fun _ => none), .inl (.int, 20, fun _ => none), .inl (.int, 20, fun _ => none)]) (k := 37) (j := 0) f_Md_79 hn rfl rfl rfl (Nat.le_of_ble_eq_true rfl) ⟨rfl, fun _ => ⟨rfl, rfl⟩⟩ (fun _ => ⟨rfl, _, _, rfl⟩) d_Md_init_183 ?_
  refine x_aload_n 0 d_Md_init_186 rfl rfl ?_
  refine x_sipush 300 d_Md_init_187 (by decide) ?_
  refine x_newarrA (sh2 := [.inr (12, [69, 70, 71, 0, 0, 0, 72, 73, 74, 75, 76, 0, 0, 0, 0, 0, 0, 0, 0, 0, 77, 78, 0, 79, 80, 0, 0, 0, 81, 82, 0, 83, 84, 85, 86, 0, 87, 88, 1]), .inl (.int, 270, fun _ => none), .inl (.int, 270, fun _ => none), .inl (.byte, 300, fun _ => none), .inl (.int, 4, fun _ => none), .inl (.int, 24, fun _ => none), .inl (.int, 24, fun _ => none), .inl (.int, 1600, fun _ => none), .inl (.int, 1600, fun _ => none), .inl (.int, 40, fun _ => none), .inl (.int, 41, fun _ => none), .inl (.int, 80, fun _ => none), .inl (.int, 80, fun _ => none), .inl (.int, 6, fun _ => none), .inl (.int, 6, fun _ => none), .inl (.int, 400, fun _ => none), .inl (.int, 400, fun _ => none), .inl (.int, 13, fun _ => none), .inl (.long, 200, fun _ => none), .inl (.int, 20, fun _ => none), .inl (.int, 20, fun _ => none), .inl (.int, 300, fun _ => none)]) (r := 86) (cu2 := 21) (su2 := 5698) 300 a_int rfl (by decide) hn rfl rfl ((xz2 (xz2 (xz2 (xzw hV (m2 := 86) (by decide)) (by decide)) (by decide)) (by decide)) 86 (Nat.le_refl _)) (fun k => hL _ k) (by decide) (by decide) (Nat.le_of_ble_eq_true rfl) (Nat.le_of_ble_eq_true rfl) (Nat.le_of_ble_eq_true rfl) rfl rfl d_Md_init_190 ?_
  refine x_putPA (sh2 := [.inr (12, [69, 70, 71, 0, 0, 0, 72, 73, 74, 75, 76, 0, 0, 0, 0, 0, 0, 0, 0, 0, 77, 78, 0, 79, 80, 0, 0, 0, 81, 82, 0, 83, 84, 85, 86, 0, 87, 88, 89]), .inl (.int, 270, fun _ => none), .inl (.int, 270, fun _ => none), .inl (.byte, 300, fun _ => none), .inl (.int, 4, fun _ => none), .inl (.int, 24, fun _ => none), .inl (.int, 24, fun _ => none), .inl (.int, 1600, fun _ => none), .inl (.int, 1600, fun _ => none), .inl (.int, 40, fun _ => none), .inl (.int, 41, fun _ => none), .inl (.int, 80, fun _ => none), .inl (.int, 80, fun _ => none), .inl (.int, 6, fun _ => none), .inl (.int, 6, fun _ => none), .inl (.int, 400, fun _ => none), .inl (.int, 400, fun _ => none), .inl (.int, 13, fun _ => none), .inl (.long, 200, fun _ => none), .inl (.int, 20, fun _ => none), .inl (.int, 20, fun _ => none), .inl (.int, 300, fun _ => none)]) (k := 38) (j := 0) f_Md_82 hn rfl rfl rfl (Nat.le_of_ble_eq_true rfl) ⟨rfl, fun _ => ⟨rfl, rfl⟩⟩ (fun _ => ⟨rfl, _, _, rfl⟩) d_Md_init_192 ?_
  refine x_aload_n 0 d_Md_init_195 rfl rfl ?_
  refine x_getP (q := 66) f_Md_7 (xget (k := 0) hn rfl rfl) rfl d_Md_init_196 ?_
  refine x_iconst 3 d_Md_init_199 (by decide) ?_
  refine x_iconst (-1) d_Md_init_200 (by decide) ?_
  refine x_iastoreC 3 (xget (k := 1) hn rfl rfl) (by decide) (by decide) d_Md_init_201 ?_
  refine x_iconst 0 d_Md_init_202 (by decide) ?_
  refine x_istore_n [(1, .int 0), (0, .ref 65)] d_Md_init_203 rfl (Nat.le_of_ble_eq_true rfl) rfl ?_
  refine x_iload_n 0 d_Md_init_204 rfl rfl ?_
  refine x_bipush 10 d_Md_init_205 (by decide) ?_
  refine x_icmp_ge 227 d_Md_init_207 (by decide) (fun c => absurd c (by decide)) (fun _ => ?_)
  refine x_aload_n 1 d_Md_init_210 rfl rfl ?_
  refine x_getP (q := 66) f_Md_7 (xget (k := 0) hn rfl rfl) rfl d_Md_init_211 ?_
  refine x_sipush 160 d_Md_init_214 (by decide) ?_
  refine x_iload_n 0 d_Md_init_217 rfl rfl ?_
  refine x_iadd d_Md_init_218 ?_
  refine x_iconst 1 d_Md_init_219 (by decide) ?_
  refine x_iastoreC 160 (xget (k := 1) hn rfl rfl) (by decide) (by decide) d_Md_init_220 ?_
  refine x_iinc 0 1 [(1, .int 1), (0, .ref 65)] d_Md_init_221 rfl (by decide) (Nat.le_of_ble_eq_true rfl) rfl ?_
  refine x_goto 204 d_Md_init_224 (by decide) ?_
  refine x_iload_n 0 d_Md_init_204 rfl rfl ?_
  refine x_bipush 10 d_Md_init_205 (by decide) ?_
  refine x_icmp_ge 227 d_Md_init_207 (by decide) (fun c => absurd c (by decide)) (fun _ => ?_)
  refine x_aload_n 1 d_Md_init_210 rfl rfl ?_
  refine x_getP (q := 66) f_Md_7 (xget (k := 0) hn rfl rfl) rfl d_Md_init_211 ?_
  refine x_sipush 160 d_Md_init_214 (by decide) ?_
  refine x_iload_n 0 d_Md_init_217 rfl rfl ?_
  refine x_iadd d_Md_init_218 ?_
  refine x_iconst 1 d_Md_init_219 (by decide) ?_
  refine x_iastoreC 161 (xget (k := 1) hn rfl rfl) (by decide) (by decide) d_Md_init_220 ?_
  refine x_iinc 0 1 [(1, .int 2), (0, .ref 65)] d_Md_init_221 rfl (by decide) (Nat.le_of_ble_eq_true rfl) rfl ?_
  refine x_goto 204 d_Md_init_224 (by decide) ?_
  refine x_iload_n 0 d_Md_init_204 rfl rfl ?_
  refine x_bipush 10 d_Md_init_205 (by decide) ?_
  refine x_icmp_ge 227 d_Md_init_207 (by decide) (fun c => absurd c (by decide)) (fun _ => ?_)
  refine x_aload_n 1 d_Md_init_210 rfl rfl ?_
  refine x_getP (q := 66) f_Md_7 (xget (k := 0) hn rfl rfl) rfl d_Md_init_211 ?_
  refine x_sipush 160 d_Md_init_214 (by decide) ?_
  refine x_iload_n 0 d_Md_init_217 rfl rfl ?_
  refine x_iadd d_Md_init_218 ?_
  refine x_iconst 1 d_Md_init_219 (by decide) ?_
  refine x_iastoreC 162 (xget (k := 1) hn rfl rfl) (by decide) (by decide) d_Md_init_220 ?_
  refine x_iinc 0 1 [(1, .int 3), (0, .ref 65)] d_Md_init_221 rfl (by decide) (Nat.le_of_ble_eq_true rfl) rfl ?_
  refine x_goto 204 d_Md_init_224 (by decide) ?_
  refine x_iload_n 0 d_Md_init_204 rfl rfl ?_
  refine x_bipush 10 d_Md_init_205 (by decide) ?_
  refine x_icmp_ge 227 d_Md_init_207 (by decide) (fun c => absurd c (by decide)) (fun _ => ?_)
  refine x_aload_n 1 d_Md_init_210 rfl rfl ?_
  refine x_getP (q := 66) f_Md_7 (xget (k := 0) hn rfl rfl) rfl d_Md_init_211 ?_
  refine x_sipush 160 d_Md_init_214 (by decide) ?_
  refine x_iload_n 0 d_Md_init_217 rfl rfl ?_
  refine x_iadd d_Md_init_218 ?_
  refine x_iconst 1 d_Md_init_219 (by decide) ?_
  refine x_iastoreC 163 (xget (k := 1) hn rfl rfl) (by decide) (by decide) d_Md_init_220 ?_
  refine x_iinc 0 1 [(1, .int 4), (0, .ref 65)] d_Md_init_221 rfl (by decide) (Nat.le_of_ble_eq_true rfl) rfl ?_
  refine x_goto 204 d_Md_init_224 (by decide) ?_
  refine x_iload_n 0 d_Md_init_204 rfl rfl ?_
  refine x_bipush 10 d_Md_init_205 (by decide) ?_
  refine x_icmp_ge 227 d_Md_init_207 (by decide) (fun c => absurd c (by decide)) (fun _ => ?_)
  refine x_aload_n 1 d_Md_init_210 rfl rfl ?_
  refine x_getP (q := 66) f_Md_7 (xget (k := 0) hn rfl rfl) rfl d_Md_init_211 ?_
  refine x_sipush 160 d_Md_init_214 (by decide) ?_
  refine x_iload_n 0 d_Md_init_217 rfl rfl ?_
  refine x_iadd d_Md_init_218 ?_
  refine x_iconst 1 d_Md_init_219 (by decide) ?_
  refine x_iastoreC 164 (xget (k := 1) hn rfl rfl) (by decide) (by decide) d_Md_init_220 ?_
  refine x_iinc 0 1 [(1, .int 5), (0, .ref 65)] d_Md_init_221 rfl (by decide) (Nat.le_of_ble_eq_true rfl) rfl ?_
  refine x_goto 204 d_Md_init_224 (by decide) ?_
  refine x_iload_n 0 d_Md_init_204 rfl rfl ?_
  refine x_bipush 10 d_Md_init_205 (by decide) ?_
  refine x_icmp_ge 227 d_Md_init_207 (by decide) (fun c => absurd c (by decide)) (fun _ => ?_)
  refine x_aload_n 1 d_Md_init_210 rfl rfl ?_
  refine x_getP (q := 66) f_Md_7 (xget (k := 0) hn rfl rfl) rfl d_Md_init_211 ?_
  refine x_sipush 160 d_Md_init_214 (by decide) ?_
  refine x_iload_n 0 d_Md_init_217 rfl rfl ?_
  refine x_iadd d_Md_init_218 ?_
  refine x_iconst 1 d_Md_init_219 (by decide) ?_
  refine x_iastoreC 165 (xget (k := 1) hn rfl rfl) (by decide) (by decide) d_Md_init_220 ?_
  refine x_iinc 0 1 [(1, .int 6), (0, .ref 65)] d_Md_init_221 rfl (by decide) (Nat.le_of_ble_eq_true rfl) rfl ?_
  refine x_goto 204 d_Md_init_224 (by decide) ?_
  refine x_iload_n 0 d_Md_init_204 rfl rfl ?_
  refine x_bipush 10 d_Md_init_205 (by decide) ?_
  refine x_icmp_ge 227 d_Md_init_207 (by decide) (fun c => absurd c (by decide)) (fun _ => ?_)
  refine x_aload_n 1 d_Md_init_210 rfl rfl ?_
  refine x_getP (q := 66) f_Md_7 (xget (k := 0) hn rfl rfl) rfl d_Md_init_211 ?_
  refine x_sipush 160 d_Md_init_214 (by decide) ?_
  refine x_iload_n 0 d_Md_init_217 rfl rfl ?_
  refine x_iadd d_Md_init_218 ?_
  refine x_iconst 1 d_Md_init_219 (by decide) ?_
  refine x_iastoreC 166 (xget (k := 1) hn rfl rfl) (by decide) (by decide) d_Md_init_220 ?_
  refine x_iinc 0 1 [(1, .int 7), (0, .ref 65)] d_Md_init_221 rfl (by decide) (Nat.le_of_ble_eq_true rfl) rfl ?_
  refine x_goto 204 d_Md_init_224 (by decide) ?_
  refine x_iload_n 0 d_Md_init_204 rfl rfl ?_
  refine x_bipush 10 d_Md_init_205 (by decide) ?_
  refine x_icmp_ge 227 d_Md_init_207 (by decide) (fun c => absurd c (by decide)) (fun _ => ?_)
  refine x_aload_n 1 d_Md_init_210 rfl rfl ?_
  refine x_getP (q := 66) f_Md_7 (xget (k := 0) hn rfl rfl) rfl d_Md_init_211 ?_
  refine x_sipush 160 d_Md_init_214 (by decide) ?_
  refine x_iload_n 0 d_Md_init_217 rfl rfl ?_
  refine x_iadd d_Md_init_218 ?_
  refine x_iconst 1 d_Md_init_219 (by decide) ?_
  refine x_iastoreC 167 (xget (k := 1) hn rfl rfl) (by decide) (by decide) d_Md_init_220 ?_
  refine x_iinc 0 1 [(1, .int 8), (0, .ref 65)] d_Md_init_221 rfl (by decide) (Nat.le_of_ble_eq_true rfl) rfl ?_
  refine x_goto 204 d_Md_init_224 (by decide) ?_
  refine x_iload_n 0 d_Md_init_204 rfl rfl ?_
  refine x_bipush 10 d_Md_init_205 (by decide) ?_
  refine x_icmp_ge 227 d_Md_init_207 (by decide) (fun c => absurd c (by decide)) (fun _ => ?_)
  refine x_aload_n 1 d_Md_init_210 rfl rfl ?_
  refine x_getP (q := 66) f_Md_7 (xget (k := 0) hn rfl rfl) rfl d_Md_init_211 ?_
  refine x_sipush 160 d_Md_init_214 (by decide) ?_
  refine x_iload_n 0 d_Md_init_217 rfl rfl ?_
  refine x_iadd d_Md_init_218 ?_
  refine x_iconst 1 d_Md_init_219 (by decide) ?_
  refine x_iastoreC 168 (xget (k := 1) hn rfl rfl) (by decide) (by decide) d_Md_init_220 ?_
  refine x_iinc 0 1 [(1, .int 9), (0, .ref 65)] d_Md_init_221 rfl (by decide) (Nat.le_of_ble_eq_true rfl) rfl ?_
  refine x_goto 204 d_Md_init_224 (by decide) ?_
  refine x_iload_n 0 d_Md_init_204 rfl rfl ?_
  refine x_bipush 10 d_Md_init_205 (by decide) ?_
  refine x_icmp_ge 227 d_Md_init_207 (by decide) (fun c => absurd c (by decide)) (fun _ => ?_)
  refine x_aload_n 1 d_Md_init_210 rfl rfl ?_
  refine x_getP (q := 66) f_Md_7 (xget (k := 0) hn rfl rfl) rfl d_Md_init_211 ?_
  refine x_sipush 160 d_Md_init_214 (by decide) ?_
  refine x_iload_n 0 d_Md_init_217 rfl rfl ?_
  refine x_iadd d_Md_init_218 ?_
  refine x_iconst 1 d_Md_init_219 (by decide) ?_
  refine x_iastoreC 169 (xget (k := 1) hn rfl rfl) (by decide) (by decide) d_Md_init_220 ?_
  refine x_iinc 0 1 [(1, .int 10), (0, .ref 65)] d_Md_init_221 rfl (by decide) (Nat.le_of_ble_eq_true rfl) rfl ?_
  refine x_goto 204 d_Md_init_224 (by decide) ?_
  refine x_iload_n 0 d_Md_init_204 rfl rfl ?_
  refine x_bipush 10 d_Md_init_205 (by decide) ?_
  refine x_icmp_ge 227 d_Md_init_207 (by decide) (fun _ => ?_) (fun c => absurd (by decide) c)
  refine x_aload_n 1 d_Md_init_227 rfl rfl ?_
  refine x_iconst 1 d_Md_init_228 (by decide) ?_
  subst hsh
  show X M_Md_init _ _ SH (VM0 V) L _ _ _ _ _
  refine x_callV0v e_Md_85 sh_65 rfl (as := [.int 1]) (t_Md_copies 1 (VM0 V) L V2 hc) rfl rfl rfl (Nat.le_of_ble_eq_true rfl) (xfit_of (by omega) (Nat.le_of_ble_eq_true rfl)) (Nat.le_of_ble_eq_true rfl) (Nat.le_of_ble_eq_true rfl) d_Md_init_229 ?_
  exact x_return rfl d_Md_init_232 (Nat.le_of_ble_eq_true rfl) (Nat.le_of_ble_eq_true rfl) ⟨rfl, rfl⟩

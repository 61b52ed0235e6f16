def M_Slen : xM := (⟨"java/lang/String", "length", "()I"⟩, prog_16_method_54_code, 1, some .int, 0, 0)
theorem e0_Slen : xE0 M_Slen 0 := ⟨xin2 (xch1 16 rfl) rfl, xin2 (xch2 222 rfl) rfl, by decide⟩
theorem d_Slen_0 : decode M_Slen.2.1 0 = .ok (.aload_n 0, 1) := by decide +kernel
theorem d_Slen_1 : decode M_Slen.2.1 1 = .ok (.getfield 9, 3) := by decide +kernel
theorem d_Slen_4 : decode M_Slen.2.1 4 = .ok (.arraylength, 1) := by decide +kernel
theorem d_Slen_5 : decode M_Slen.2.1 5 = .ok (.aload_n 0, 1) := by decide +kernel
theorem d_Slen_6 : decode M_Slen.2.1 6 = .ok (.invokevirtual 335, 3) := by decide +kernel
theorem d_Slen_9 : decode M_Slen.2.1 9 = .ok (.ishr, 1) := by decide +kernel
theorem d_Slen_10 : decode M_Slen.2.1 10 = .ok (.ireturn, 1) := by decide +kernel
def M_Scod : xM := (⟨"java/lang/String", "coder", "()B"⟩, prog_16_method_152_code, 1, some .byte, 0, 0)
theorem e0_Scod : xE0 M_Scod 0 := ⟨xin2 (xch1 16 rfl) rfl, xin2 (xch2 226 rfl) rfl, by decide⟩
theorem d_Scod_0 : decode M_Scod.2.1 0 = .ok (.getstatic 38, 3) := by decide +kernel
theorem d_Scod_3 : decode M_Scod.2.1 3 = .ok (.ifCond .eq 10, 3) := by decide +kernel
theorem d_Scod_6 : decode M_Scod.2.1 6 = .ok (.aload_n 0, 1) := by decide +kernel
theorem d_Scod_7 : decode M_Scod.2.1 7 = .ok (.getfield 15, 3) := by decide +kernel
theorem d_Scod_10 : decode M_Scod.2.1 10 = .ok (.goto 4, 3) := by decide +kernel
theorem d_Scod_13 : decode M_Scod.2.1 13 = .ok (.iconst 1, 1) := by decide +kernel
theorem d_Scod_14 : decode M_Scod.2.1 14 = .ok (.ireturn, 1) := by decide +kernel
def M_Slat : xM := (⟨"java/lang/String", "isLatin1", "()Z"⟩, prog_16_method_154_code, 1, some .boolean, 0, 0)
theorem e0_Slat : xE0 M_Slat 0 := ⟨xin2 (xch1 16 rfl) rfl, xin2 (xch2 236 rfl) rfl, by decide⟩
theorem d_Slat_0 : decode M_Slat.2.1 0 = .ok (.getstatic 38, 3) := by decide +kernel
theorem d_Slat_3 : decode M_Slat.2.1 3 = .ok (.ifCond .eq 14, 3) := by decide +kernel
theorem d_Slat_6 : decode M_Slat.2.1 6 = .ok (.aload_n 0, 1) := by decide +kernel
theorem d_Slat_7 : decode M_Slat.2.1 7 = .ok (.getfield 15, 3) := by decide +kernel
theorem d_Slat_10 : decode M_Slat.2.1 10 = .ok (.ifCond .ne 7, 3) := by decide +kernel
theorem d_Slat_13 : decode M_Slat.2.1 13 = .ok (.iconst 1, 1) := by decide +kernel
theorem d_Slat_14 : decode M_Slat.2.1 14 = .ok (.goto 4, 3) := by decide +kernel
theorem d_Slat_17 : decode M_Slat.2.1 17 = .ok (.iconst 0, 1) := by decide +kernel
theorem d_Slat_18 : decode M_Slat.2.1 18 = .ok (.ireturn, 1) := by decide +kernel
def M_Scha : xM := (⟨"java/lang/String", "charAt", "(I)C"⟩, prog_16_method_56_code, 2, some .char, 0, 0)
theorem e0_Scha : xE0 M_Scha 1 := ⟨xin2 (xch1 16 rfl) rfl, xin2 (xch2 232 rfl) rfl, by decide⟩
theorem d_Scha_0 : decode M_Scha.2.1 0 = .ok (.aload_n 0, 1) := by decide +kernel
theorem d_Scha_1 : decode M_Scha.2.1 1 = .ok (.invokevirtual 492, 3) := by decide +kernel
theorem d_Scha_4 : decode M_Scha.2.1 4 = .ok (.ifCond .eq 12, 3) := by decide +kernel
theorem d_Scha_7 : decode M_Scha.2.1 7 = .ok (.aload_n 0, 1) := by decide +kernel
theorem d_Scha_8 : decode M_Scha.2.1 8 = .ok (.getfield 9, 3) := by decide +kernel
theorem d_Scha_11 : decode M_Scha.2.1 11 = .ok (.iload_n 1, 1) := by decide +kernel
theorem d_Scha_12 : decode M_Scha.2.1 12 = .ok (.invokestatic 495, 3) := by decide +kernel
theorem d_Scha_15 : decode M_Scha.2.1 15 = .ok (.ireturn, 1) := by decide +kernel
theorem d_Scha_16 : decode M_Scha.2.1 16 = .ok (.aload_n 0, 1) := by decide +kernel
theorem d_Scha_17 : decode M_Scha.2.1 17 = .ok (.getfield 9, 3) := by decide +kernel
theorem d_Scha_20 : decode M_Scha.2.1 20 = .ok (.iload_n 1, 1) := by decide +kernel
theorem d_Scha_21 : decode M_Scha.2.1 21 = .ok (.invokestatic 498, 3) := by decide +kernel
theorem d_Scha_24 : decode M_Scha.2.1 24 = .ok (.ireturn, 1) := by decide +kernel
def M_Lcha : xM := (⟨"java/lang/StringLatin1", "charAt", "([BI)C"⟩, prog_17_method_2_code, 2, some .char, 0, 0)
theorem e0_Lcha : xE0 M_Lcha 2 := ⟨xin2 (xch1 17 rfl) rfl, xin2 (xch2 239 rfl) rfl, by decide⟩
theorem d_Lcha_0 : decode M_Lcha.2.1 0 = .ok (.iload_n 1, 1) := by decide +kernel
theorem d_Lcha_1 : decode M_Lcha.2.1 1 = .ok (.aload_n 0, 1) := by decide +kernel
theorem d_Lcha_2 : decode M_Lcha.2.1 2 = .ok (.arraylength, 1) := by decide +kernel
theorem d_Lcha_3 : decode M_Lcha.2.1 3 = .ok (.invokestatic 9, 3) := by decide +kernel
theorem d_Lcha_6 : decode M_Lcha.2.1 6 = .ok (.aload_n 0, 1) := by decide +kernel
theorem d_Lcha_7 : decode M_Lcha.2.1 7 = .ok (.iload_n 1, 1) := by decide +kernel
theorem d_Lcha_8 : decode M_Lcha.2.1 8 = .ok (.baload, 1) := by decide +kernel
theorem d_Lcha_9 : decode M_Lcha.2.1 9 = .ok (.sipush 255, 3) := by decide +kernel
theorem d_Lcha_12 : decode M_Lcha.2.1 12 = .ok (.iand, 1) := by decide +kernel
theorem d_Lcha_13 : decode M_Lcha.2.1 13 = .ok (.i2c, 1) := by decide +kernel
theorem d_Lcha_14 : decode M_Lcha.2.1 14 = .ok (.ireturn, 1) := by decide +kernel
def M_Schk : xM := (⟨"java/lang/String", "checkIndex", "(II)V"⟩, prog_16_method_155_code, 2, none, 0, 0)
theorem e0_Schk : xE0 M_Schk 2 := ⟨xin2 (xch1 16 rfl) rfl, xin2 (xch3 2 rfl) rfl, by decide⟩
theorem d_Schk_0 : decode M_Schk.2.1 0 = .ok (.iload_n 0, 1) := by decide +kernel
theorem d_Schk_1 : decode M_Schk.2.1 1 = .ok (.iload_n 1, 1) := by decide +kernel
theorem d_Schk_2 : decode M_Schk.2.1 2 = .ok (.getstatic 1053, 3) := by decide +kernel
theorem d_Schk_5 : decode M_Schk.2.1 5 = .ok (.invokestatic 1059, 3) := by decide +kernel
theorem d_Schk_8 : decode M_Schk.2.1 8 = .ok (.pop, 1) := by decide +kernel
theorem d_Schk_9 : decode M_Schk.2.1 9 = .ok (.return_, 1) := by decide +kernel
def M_Pchk : xM := (⟨"jdk/internal/util/Preconditions", "checkIndex", "(IILjava/util/function/BiFunction;)I"⟩, prog_21_method_11_code, 3, some .int, 0, 0)
theorem e0_Pchk : xE0 M_Pchk 3 := ⟨xin2 (xch1 18 rfl) rfl, xin2 (xch3 7 rfl) rfl, by decide⟩
theorem d_Pchk_0 : decode M_Pchk.2.1 0 = .ok (.iload_n 0, 1) := by decide +kernel
theorem d_Pchk_1 : decode M_Pchk.2.1 1 = .ok (.ifCond .lt 8, 3) := by decide +kernel
theorem d_Pchk_4 : decode M_Pchk.2.1 4 = .ok (.iload_n 0, 1) := by decide +kernel
theorem d_Pchk_5 : decode M_Pchk.2.1 5 = .ok (.iload_n 1, 1) := by decide +kernel
theorem d_Pchk_6 : decode M_Pchk.2.1 6 = .ok (.if_icmp .lt 10, 3) := by decide +kernel
theorem d_Pchk_9 : decode M_Pchk.2.1 9 = .ok (.aload_n 2, 1) := by decide +kernel
theorem d_Pchk_10 : decode M_Pchk.2.1 10 = .ok (.iload_n 0, 1) := by decide +kernel
theorem d_Pchk_11 : decode M_Pchk.2.1 11 = .ok (.iload_n 1, 1) := by decide +kernel
theorem d_Pchk_12 : decode M_Pchk.2.1 12 = .ok (.invokestatic 95, 3) := by decide +kernel
theorem d_Pchk_16 : decode M_Pchk.2.1 16 = .ok (.iload_n 0, 1) := by decide +kernel
theorem d_Pchk_17 : decode M_Pchk.2.1 17 = .ok (.ireturn, 1) := by decide +kernel
theorem li_strLen : xEV "WarrantWeather$Tokens" 67 M_Slen 0 := ⟨e0_Slen, xin2 (xch2 219 rfl) rfl, xin2 (xch2 220 rfl) rfl, xin2 (xch2 221 rfl) rfl⟩
theorem li_charAt : xEV "WarrantWeather$Tokens" 73 M_Scha 1 := ⟨e0_Scha, xin2 (xch2 229 rfl) rfl, xin2 (xch2 230 rfl) rfl, xin2 (xch2 231 rfl) rfl⟩
theorem e_S_335 : xEV "java/lang/String" 335 M_Scod 0 := ⟨e0_Scod, xin2 (xch2 223 rfl) rfl, xin2 (xch2 224 rfl) rfl, xin2 (xch2 225 rfl) rfl⟩
theorem e_S_492 : xEV "java/lang/String" 492 M_Slat 0 := ⟨e0_Slat, xin2 (xch2 233 rfl) rfl, xin2 (xch2 234 rfl) rfl, xin2 (xch2 235 rfl) rfl⟩
theorem e_S_495 : xES "java/lang/String" 495 M_Lcha 2 := ⟨e0_Lcha, xin2 (xch2 237 rfl) rfl, xin2 (xch2 238 rfl) rfl⟩
theorem e_L_9 : xES "java/lang/StringLatin1" 9 M_Schk 2 := ⟨e0_Schk, xin2 (xch3 0 rfl) rfl, xin2 (xch3 1 rfl) rfl⟩
theorem e_S_1059 : xES "java/lang/String" 1059 M_Pchk 3 := ⟨e0_Pchk, xin2 (xch3 5 rfl) rfl, xin2 (xch3 6 rfl) rfl⟩
theorem g_val : Cond.fieldLink "java/lang/String" 9 "java/lang/String" "value" "[B" ∈ xTbl := xin2 (xch6 185 rfl) rfl
theorem g_cod : Cond.fieldLink "java/lang/String" 15 "java/lang/String" "coder" "B" ∈ xTbl := xin2 (xch6 186 rfl) rfl
theorem g_cmp : Cond.fieldLink "java/lang/String" 38 "java/lang/String" "COMPACT_STRINGS" "Z" ∈ xTbl := xin2 (xch2 227 rfl) rfl
theorem g_sio : Cond.fieldLink "java/lang/String" 1053 "jdk/internal/util/Preconditions" "SIOOBE_FORMATTER" "Ljava/util/function/BiFunction;" ∈ xTbl := xin2 (xch3 3 rfl) rfl

section XStr
variable {M M2 : xM} {R : Room} {Z : xG → List Frame → Array Value → State → State → Prop} {sh : xS} {V : xV} {L : xL} {cu su pc : Nat} {ls : List (Nat × Value)} {st stk : List Value} {d idx n : Nat} {as : List Value} {v : Value}
theorem x_ldcS (hM : M.1.cls = "WarrantWeather$Tokens") (hd : decode M.2.1 pc = .ok (.ldc 65, 2)) (K : X M R Z sh V L cu su (pc + 2) ls (.retAddr 1 :: st)) : X M R Z sh V L cu su pc ls st := by
  intro l G p e s m args below meth c H locs la hC hz hR hS hl
  have hk : xK G s := hC.2.2.2.2.2.2.2.2
  exact va_ldcS hC.1 hC.2.1 (hM ▸ hC.2.2.2.2.1) hk.2.2.2.2.2.2.2.1 hd (K l G p e s m args below meth c H locs la hC hz hR hS hl)
theorem x_gval (hM : M.1.cls = "java/lang/String") (hd : decode M.2.1 pc = .ok (.getfield 9, 3)) (K : X M R Z sh V L cu su (pc + 3) ls (.retAddr 3 :: st)) : X M R Z sh V L cu su pc ls (.retAddr 1 :: st) := by
  intro l G p e s m args below meth c H locs la hC hz hR hS hl
  have hk : xK G s := hC.2.2.2.2.2.2.2.2
  exact vk_getf hC.1 hC.2.1 (hk.2.2.2.2.2.2.2.2.1.1 0 (by decide)).2.2.1 hS (hM ▸ hC.2.2.2.2.1) (hC.2.2.2.2.2.1 _ g_val) (fun _ h => h) hd (K l G p e s m args below meth c H locs la hC hz hR hS hl)
theorem x_gcod (hM : M.1.cls = "java/lang/String") (hd : decode M.2.1 pc = .ok (.getfield 15, 3)) (K : X M R Z sh V L cu su (pc + 3) ls (.int 0 :: st)) : X M R Z sh V L cu su pc ls (.retAddr 1 :: st) := by
  intro l G p e s m args below meth c H locs la hC hz hR hS hl
  have hk : xK G s := hC.2.2.2.2.2.2.2.2
  exact vk_getf hC.1 hC.2.1 (hk.2.2.2.2.2.2.2.2.1.1 0 (by decide)).2.1 hS (hM ▸ hC.2.2.2.2.1) (hC.2.2.2.2.2.1 _ g_cod) (fun _ h => h) hd (K l G p e s m args below meth c H locs la hC hz hR hS hl)
theorem x_gcmp (hM : M.1.cls = "java/lang/String") (hd : decode M.2.1 pc = .ok (.getstatic 38, 3)) (K : X M R Z sh V L cu su (pc + 3) ls (.int 1 :: st)) : X M R Z sh V L cu su pc ls st := by
  intro l G p e s m args below meth c H locs la hC hz hR hS hl
  have hk : xK G s := hC.2.2.2.2.2.2.2.2
  exact va_gets hC.1 hC.2.1 hk.2.2.2.2.2.2.2.2.2.1 hS (hM ▸ hC.2.2.2.2.1) (hC.2.2.2.2.2.1 _ g_cmp) (fun _ h => h) hd (K l G p e s m args below meth c H locs la hC hz hR hS hl)
theorem x_gsio (hM : M.1.cls = "java/lang/String") (hd : decode M.2.1 pc = .ok (.getstatic 1053, 3)) (K1 : X M R Z sh V L cu su (pc + 3) ls (.null :: st)) (K2 : X M R Z sh V L cu su (pc + 3) ls (.retAddr 4 :: st)) : X M R Z sh V L cu su pc ls st := by
  intro l G p e s m args below meth c H locs la hC hz hR hS hl
  have hk : xK G s := hC.2.2.2.2.2.2.2.2
  rcases hk.2.2.2.2.2.2.2.2.2.2.1 with h | h
  · exact va_gets hC.1 hC.2.1 h hS (hM ▸ hC.2.2.2.2.1) (hC.2.2.2.2.2.1 _ g_sio) (fun _ h => h) hd (K1 l G p e s m args below meth c H locs la hC hz hR hS hl)
  · exact va_gets hC.1 hC.2.1 h hS (hM ▸ hC.2.2.2.2.1) (hC.2.2.2.2.2.1 _ g_sio) (fun _ h => h) hd (K2 l G p e s m args below meth c H locs la hC hz hR hS hl)
theorem x_wlen (hd : decode M.2.1 pc = .ok (.arraylength, 1)) (K : X M R Z sh V L cu su (pc + 1) ls (.int 116 :: st)) : X M R Z sh V L cu su pc ls (.retAddr 3 :: st) := by
  intro l G p e s m args below meth c H locs la hC hz hR hS hl
  have hk : xK G s := hC.2.2.2.2.2.2.2.2
  obtain ⟨cell, q1, q2, q3, q4, q5, q6⟩ := (hk.2.2.2.2.2.2.2.2.1.1 0 (by decide)).2.2.2.kept hS.2.1
  exact W.alen (n := 116) hC.1 hC.2.1 q1 q2 (by rw [q5]; rfl) rfl rfl hd (K l G p e s m args below meth c H locs la hC hz hR hS hl)
theorem x_wat {i : Int32} (hi : xI i 116 = true) (hd : decode M.2.1 pc = .ok (.baload, 1)) (K : X M R Z sh V L cu su (pc + 1) ls (.int (xWordsB.getD i.toNatClampNeg 0) :: st)) : X M R Z sh V L cu su pc ls (.int i :: .retAddr 3 :: st) := by
  intro l G p e s m args below meth c H locs la hC hz hR hS hl
  have hk : xK G s := hC.2.2.2.2.2.2.2.2
  obtain ⟨cell, q1, q2, q3, q4, q5, q6, q7⟩ := (hk.2.2.2.2.2.2.2.2.1.1 0 (by decide)).2.2.2.kept hS.2.1
  have h1 := xI_in hi
  have hlt : i.toNatClampNeg < 116 := Nat.not_le.mp fun q => h1 (Or.inr q)
  have h2 : ¬ i < 0 := fun q => h1 (Or.inl q)
  have q4 : 116 ≤ cell.slots.size := q4
  exact W.bald hC.1 hC.2.1 q1 q2 q3 (fun q => q.elim h2 (fun q => by omega)) (q6 _ hlt) rfl rfl hd (K l G p e s m args below meth c H locs la hC hz hR hS hl)
theorem x_i2c {x : Int32} (hd : decode M.2.1 pc = .ok (.i2c, 1)) (K : X M R Z sh V L cu su (pc + 1) ls (.int (x.toUInt32 % 65536).toInt32 :: st)) : X M R Z sh V L cu su pc ls (.int x :: st) := by
  intro l G p e s m args below meth c H locs la hC hz hR hS hl
  exact lv_i2c hC.1 hC.2.1 hd rfl (K l G p e s m args below meth c H locs la hC hz hR hS hl)
/-- a call of the text's own method -/
theorem x_callX0 (hM : M2.1.cls = "java/lang/String") (he : xEV M.1.cls idx M2 n) (hrun : xRuns d M2 (.retAddr 1 :: as) (sh, V, L) (fun o h => o = some v ∧ h = (sh, V, L))) (h0 : M2.2.2.2.2 = (0, 0)) (hn : as.length = n) (hstk : stk = as.reverse ++ .retAddr 1 :: st) (hc : (st.map fun v => v.category).sum ≤ 8) (hf : d + 1 ≤ R.frames ∧ 8 + (M2.2.2.1 + 11) + (64 * d + 64) ≤ R.locals) (h1 : cu ≤ R.cells) (h2 : su ≤ R.slots) (hd : decode M.2.1 pc = .ok (.invokevirtual idx, 3))
    (K : X M R Z sh V L cu su (pc + 3) ls (v :: st)) : X M R Z sh V L cu su pc ls stk := by
  intro l G p e1 s m args below meth c H locs la hC hz hR hS hl
  refine x_size fun hsz => ?_
  have hz2 : H.size ≤ G.1 + sh.length := by omega
  obtain ⟨⟨e3, e4, e5⟩, e6, e7, e8⟩ := he
  subst hstk
  have hts := hC.2.2.2.2.2.1
  have hk : xK G s := hC.2.2.2.2.2.2.2.2
  have hrec := vk_recv hk.2.2.2.2.2.2.2.2.1 (i := 0) (by decide) hS
  rw [← hM] at hrec
  refine x_run (Q := fun o h => o = some v ∧ h = (sh, V, L)) (rest := st.map (xv G)) (va_runV (C := M2.1.cls) (b := G.2.1 1) (As := as.map (xv G)) ⟨hC.1, hC.2.1, hC.2.2.2.1, hC.2.2.2.2.1, hC.2.2.2.2.2.1⟩ (hrun l G) ⟨callB_of n hts (xGood e4) rfl rfl rfl (hts _ e3) (hts _ e6) e5 ⟨hf.1, hf.2⟩, hts _ e7, hts _ e8⟩ ⟨xblind, hrec, xpre (as := .retAddr 1 :: as) hk hR hS hz2⟩ rfl (by rw [List.length_map]; exact hn) hl.1 (by simp [xv]) (lv_room (xcat hc)) hd ⟨by rw [h0]; exact h1, by rw [h0]; exact h2⟩) hS (fun r h H1 locs1 hq hR1 hS1 => ?_)
  obtain ⟨rfl, rfl⟩ := hq
  rw [h0]
  exact K l G p e1 s m args below meth c H1 locs1 la hC hz hR1 hS1 hl
theorem t_Pchk {i : Int32} (hi : xI i 116 = true) (v : Value) (hv : v = .null ∨ v = .retAddr 4) : xRuns 1 M_Pchk [.int i, .int 116, v] (sh, V, L) (fun o h' => o = some (.int i) ∧ h' = (sh, V, L)) := by
  have h1 := of_decide_eq_true hi
  refine xRuns_of (by decide) (by rcases hv with rfl | rfl <;> exact Nat.le_of_ble_eq_true rfl) ?_
  have ea : lv_args 0 [.int i, .int 116, v] = [(0, .int i), (1, .int 116), (2, v)] := rfl
  rw [ea]
  refine x_iload_n 0 d_Pchk_0 rfl rfl ?_
  refine x_if_lt 9 d_Pchk_1 (by decide) (fun c => ?_) (fun c => ?_)
  · exact absurd (Int32.lt_iff_toInt_lt.mp c) (by simpa using h1.1)
  · refine x_iload_n 0 d_Pchk_4 rfl rfl ?_
    refine x_iload_n 1 d_Pchk_5 rfl rfl ?_
    refine x_icmp_lt 16 d_Pchk_6 (by decide) (fun c => ?_) (fun c => ?_)
    · refine x_iload_n 0 d_Pchk_16 rfl rfl ?_
      exact x_ireturn rfl d_Pchk_17 (Nat.le_refl _) (Nat.le_refl _) ⟨rfl, rfl⟩
    · exact absurd (Int32.lt_iff_toInt_lt.mpr (by simpa using h1.2)) c
theorem t_Schk {i : Int32} (hi : xI i 116 = true) : xRuns 2 M_Schk [.int i, .int 116] (sh, V, L) (fun o h' => o = none ∧ h' = (sh, V, L)) := by
  refine xRuns_of (by decide) (Nat.le_of_ble_eq_true rfl) ?_
  have ea : lv_args 0 [.int i, .int 116] = [(0, .int i), (1, .int 116)] := rfl
  rw [ea]
  refine x_iload_n 0 d_Schk_0 rfl rfl ?_
  refine x_iload_n 1 d_Schk_1 rfl rfl ?_
  refine x_gsio rfl d_Schk_2 ?_ ?_
  · refine x_callS0 e_S_1059 (as := [.int i, .int 116, .null]) (t_Pchk hi .null (Or.inl rfl)) rfl rfl rfl (Nat.le_of_ble_eq_true rfl) (xfit_of (by omega) (Nat.le_of_ble_eq_true rfl)) (Nat.zero_le _) (Nat.zero_le _) d_Schk_5 ?_
    refine x_pop d_Schk_8 rfl ?_
    exact x_return rfl d_Schk_9 (Nat.le_refl _) (Nat.le_refl _) ⟨rfl, rfl⟩
  · refine x_callS0 e_S_1059 (as := [.int i, .int 116, .retAddr 4]) (t_Pchk hi (.retAddr 4) (Or.inr rfl)) rfl rfl rfl (Nat.le_of_ble_eq_true rfl) (xfit_of (by omega) (Nat.le_of_ble_eq_true rfl)) (Nat.zero_le _) (Nat.zero_le _) d_Schk_5 ?_
    refine x_pop d_Schk_8 rfl ?_
    exact x_return rfl d_Schk_9 (Nat.le_refl _) (Nat.le_refl _) ⟨rfl, rfl⟩
def xch (b : Int32) : Int32 := ((b &&& 255).toUInt32 % 65536).toInt32
theorem xch_ok : ∀ j : Nat, j < 116 → xch (xWordsB.getD j 0) = xWordsB.getD j 0 ∧ narrow .char (.int (xWordsB.getD j 0)) = .int (xWordsB.getD j 0) := by decide +kernel
theorem t_Lcha {i : Int32} (hi : xI i 116 = true) : xRuns 3 M_Lcha [.retAddr 3, .int i] (sh, V, L) (fun o h' => o = some (.int (xWordsB.getD i.toNatClampNeg 0)) ∧ h' = (sh, V, L)) := by
  have hlt : i.toNatClampNeg < 116 := Nat.not_le.mp fun q => xI_in hi (Or.inr q)
  have hc := xch_ok _ hlt
  refine xRuns_of (by decide) (Nat.le_of_ble_eq_true rfl) ?_
  have ea : lv_args 0 [.retAddr 3, .int i] = [(0, .retAddr 3), (1, .int i)] := rfl
  rw [ea]
  refine x_iload_n 1 d_Lcha_0 rfl rfl ?_
  refine x_aload_nX 0 d_Lcha_1 rfl rfl ?_
  refine x_wlen d_Lcha_2 ?_
  refine x_callS0v e_L_9 (as := [.int i, .int 116]) (t_Schk hi) rfl rfl rfl (Nat.le_of_ble_eq_true rfl) (xfit_of (by omega) (Nat.le_of_ble_eq_true rfl)) (Nat.zero_le _) (Nat.zero_le _) d_Lcha_3 ?_
  refine x_aload_nX 0 d_Lcha_6 rfl rfl ?_
  refine x_iload_n 1 d_Lcha_7 rfl rfl ?_
  refine x_wat hi d_Lcha_8 ?_
  refine x_sipush 255 d_Lcha_9 (by decide) ?_
  refine x_iand d_Lcha_12 ?_
  refine x_i2c d_Lcha_13 ?_
  show X _ _ _ _ _ _ _ _ _ _ [.int (xch (xWordsB.getD i.toNatClampNeg 0))]
  rw [hc.1]
  exact x_zreturn rfl hc.2 d_Lcha_14 (Nat.le_refl _) (Nat.le_refl _) ⟨rfl, rfl⟩
theorem t_Slat : xRuns 1 M_Slat [.retAddr 1] (sh, V, L) (fun o h' => o = some (.int 1) ∧ h' = (sh, V, L)) := by
  refine xRuns_of (by decide) (Nat.le_of_ble_eq_true rfl) ?_
  have ea : lv_args 0 [.retAddr 1] = [(0, .retAddr 1)] := rfl
  rw [ea]
  refine x_gcmp rfl d_Slat_0 ?_
  refine x_if_eq 17 d_Slat_3 (by decide) (fun c => absurd c (by decide)) (fun _ => ?_)
  refine x_aload_nX 0 d_Slat_6 rfl rfl ?_
  refine x_gcod rfl d_Slat_7 ?_
  refine x_if_ne 17 d_Slat_10 (by decide) (fun c => absurd rfl c) (fun _ => ?_)
  refine x_iconst 1 d_Slat_13 (by decide) ?_
  refine x_goto 18 d_Slat_14 (by decide) ?_
  exact x_zreturn rfl rfl d_Slat_18 (Nat.le_refl _) (Nat.le_refl _) ⟨rfl, rfl⟩
theorem t_Scod : xRuns 1 M_Scod [.retAddr 1] (sh, V, L) (fun o h' => o = some (.int 0) ∧ h' = (sh, V, L)) := by
  refine xRuns_of (by decide) (Nat.le_of_ble_eq_true rfl) ?_
  have ea : lv_args 0 [.retAddr 1] = [(0, .retAddr 1)] := rfl
  rw [ea]
  refine x_gcmp rfl d_Scod_0 ?_
  refine x_if_eq 13 d_Scod_3 (by decide) (fun c => absurd c (by decide)) (fun _ => ?_)
  refine x_aload_nX 0 d_Scod_6 rfl rfl ?_
  refine x_gcod rfl d_Scod_7 ?_
  refine x_goto 14 d_Scod_10 (by decide) ?_
  exact x_zreturn rfl rfl d_Scod_14 (Nat.le_refl _) (Nat.le_refl _) ⟨rfl, rfl⟩
theorem t_Slen : xRuns 2 M_Slen [.retAddr 1] (sh, V, L) (fun o h' => o = some (.int 116) ∧ h' = (sh, V, L)) := by
  refine xRuns_of (by decide) (Nat.le_of_ble_eq_true rfl) ?_
  have ea : lv_args 0 [.retAddr 1] = [(0, .retAddr 1)] := rfl
  rw [ea]
  refine x_aload_nX 0 d_Slen_0 rfl rfl ?_
  refine x_gval rfl d_Slen_1 ?_
  refine x_wlen d_Slen_4 ?_
  refine x_aload_nX 0 d_Slen_5 rfl rfl ?_
  refine x_callX0 rfl e_S_335 (as := []) t_Scod rfl rfl rfl (Nat.le_of_ble_eq_true rfl) (xfit_of (by omega) (Nat.le_of_ble_eq_true rfl)) (Nat.zero_le _) (Nat.zero_le _) d_Slen_6 ?_
  refine x_ishr d_Slen_9 ?_
  have e : (116 : Int32) >>> ((0 : Int32) &&& 31) = 116 := by decide
  rw [e]
  exact x_ireturn rfl d_Slen_10 (Nat.le_refl _) (Nat.le_refl _) ⟨rfl, rfl⟩
theorem t_Scha {i : Int32} (hi : xI i 116 = true) : xRuns 4 M_Scha [.retAddr 1, .int i] (sh, V, L) (fun o h' => o = some (.int (xWordsB.getD i.toNatClampNeg 0)) ∧ h' = (sh, V, L)) := by
  have hlt : i.toNatClampNeg < 116 := Nat.not_le.mp fun q => xI_in hi (Or.inr q)
  have hc := xch_ok _ hlt
  refine xRuns_of (by decide) (Nat.le_of_ble_eq_true rfl) ?_
  have ea : lv_args 0 [.retAddr 1, .int i] = [(0, .retAddr 1), (1, .int i)] := rfl
  rw [ea]
  refine x_aload_nX 0 d_Scha_0 rfl rfl ?_
  refine x_callX0 rfl e_S_492 (as := []) t_Slat rfl rfl rfl (Nat.le_of_ble_eq_true rfl) (xfit_of (by omega) (Nat.le_of_ble_eq_true rfl)) (Nat.zero_le _) (Nat.zero_le _) d_Scha_1 ?_
  refine x_if_eq 16 d_Scha_4 (by decide) (fun c => absurd c (by decide)) (fun _ => ?_)
  refine x_aload_nX 0 d_Scha_7 rfl rfl ?_
  refine x_gval rfl d_Scha_8 ?_
  refine x_iload_n 1 d_Scha_11 rfl rfl ?_
  refine x_callS0 e_S_495 (as := [.retAddr 3, .int i]) (t_Lcha hi) rfl rfl rfl (Nat.le_of_ble_eq_true rfl) (xfit_of (by omega) (Nat.le_of_ble_eq_true rfl)) (Nat.zero_le _) (Nat.zero_le _) d_Scha_12 ?_
  exact x_zreturn rfl hc.2 d_Scha_15 (Nat.le_refl _) (Nat.le_refl _) ⟨rfl, rfl⟩
theorem x_strLen (he : xEV M.1.cls idx M_Slen 0) (hf : 2 + 1 ≤ R.frames ∧ 8 + (M_Slen.2.2.1 + 11) + (64 * 2 + 64) ≤ R.locals) (h1 : cu ≤ R.cells) (h2 : su ≤ R.slots) (hc : (st.map fun v => v.category).sum ≤ 8) (hd : decode M.2.1 pc = .ok (.invokevirtual idx, 3)) (K : X M R Z sh V L cu su (pc + 3) ls (.int 116 :: st)) : X M R Z sh V L cu su pc ls (.retAddr 1 :: st) :=
  x_callX0 rfl he (as := []) t_Slen rfl rfl rfl hc hf h1 h2 hd K
theorem x_charAt {i : Int32} (he : xEV M.1.cls idx M_Scha 1) (hf : 4 + 1 ≤ R.frames ∧ 8 + (M_Scha.2.2.1 + 11) + (64 * 4 + 64) ≤ R.locals) (h1 : cu ≤ R.cells) (h2 : su ≤ R.slots) (hc : (st.map fun v => v.category).sum ≤ 8) (hi : xI i 116 = true) (hd : decode M.2.1 pc = .ok (.invokevirtual idx, 3)) (K : X M R Z sh V L cu su (pc + 3) ls (.int (xWordsB.getD i.toNatClampNeg 0) :: st)) : X M R Z sh V L cu su pc ls (.int i :: .retAddr 1 :: st) :=
  x_callX0 rfl he (as := [.int i]) (t_Scha hi) rfl rfl rfl hc hf h1 h2 hd K
end XStr

/-! THE RULES: a row for each instruction (printed by wip/whole/gen_rules.py) -/
section XRules
variable {M : xM} {R : Room} {Z : xG → List Frame → Array Value → State → State → Prop} {sh : xS} {V : xV} {L : xL} {cu su pc : Nat} {ls ls' : List (Nat × Value)} {st : List Value}
theorem x_iconst {n : Int} (v : Int32) (hd : decode M.2.1 pc = .ok (.iconst n, 1)) (hv : Int32.ofInt n = v) (K : X M R Z sh V L cu su (pc + 1) ls (.int v :: st)) : X M R Z sh V L cu su pc ls st := by
  intro l G p e s m args below meth c H locs la hC hz hR hS hl
  exact lv_iconst hC.1 hC.2.1 hd hv (K l G p e s m args below meth c H locs la hC hz hR hS hl)
theorem x_bipush {n : Int} (v : Int32) (hd : decode M.2.1 pc = .ok (.bipush n, 2)) (hv : (Int8.ofInt n).toInt32 = v) (K : X M R Z sh V L cu su (pc + 2) ls (.int v :: st)) : X M R Z sh V L cu su pc ls st := by
  intro l G p e s m args below meth c H locs la hC hz hR hS hl
  exact lv_bipush hC.1 hC.2.1 hd hv (K l G p e s m args below meth c H locs la hC hz hR hS hl)
theorem x_sipush {n : Int} (v : Int32) (hd : decode M.2.1 pc = .ok (.sipush n, 3)) (hv : (Int16.ofInt n).toInt32 = v) (K : X M R Z sh V L cu su (pc + 3) ls (.int v :: st)) : X M R Z sh V L cu su pc ls st := by
  intro l G p e s m args below meth c H locs la hC hz hR hS hl
  exact lv_sipush hC.1 hC.2.1 hd hv (K l G p e s m args below meth c H locs la hC hz hR hS hl)
theorem x_lconst {n : Fin 2} (v : Int64) (hd : decode M.2.1 pc = .ok (.lconst n, 1)) (hv : Int64.ofNat (n : Nat) = v) (K : X M R Z sh V L cu su (pc + 1) ls (.long v :: st)) : X M R Z sh V L cu su pc ls st := by
  intro l G p e s m args below meth c H locs la hC hz hR hS hl
  exact lv_lconst hC.1 hC.2.1 hd hv (K l G p e s m args below meth c H locs la hC hz hR hS hl)
theorem x_iadd {x y : Int32} (hd : decode M.2.1 pc = .ok (.iadd, 1))  (K : X M R Z sh V L cu su (pc + 1) ls (.int (x + y) :: st)) : X M R Z sh V L cu su pc ls (.int y :: .int x :: st) := by
  intro l G p e s m args below meth c H locs la hC hz hR hS hl
  exact lv_iadd hC.1 hC.2.1 hd  (K l G p e s m args below meth c H locs la hC hz hR hS hl)
theorem x_isub {x y : Int32} (hd : decode M.2.1 pc = .ok (.isub, 1))  (K : X M R Z sh V L cu su (pc + 1) ls (.int (x - y) :: st)) : X M R Z sh V L cu su pc ls (.int y :: .int x :: st) := by
  intro l G p e s m args below meth c H locs la hC hz hR hS hl
  exact lv_isub hC.1 hC.2.1 hd  (K l G p e s m args below meth c H locs la hC hz hR hS hl)
theorem x_imul {x y : Int32} (hd : decode M.2.1 pc = .ok (.imul, 1))  (K : X M R Z sh V L cu su (pc + 1) ls (.int (x * y) :: st)) : X M R Z sh V L cu su pc ls (.int y :: .int x :: st) := by
  intro l G p e s m args below meth c H locs la hC hz hR hS hl
  exact lv_imul hC.1 hC.2.1 hd  (K l G p e s m args below meth c H locs la hC hz hR hS hl)
theorem x_iand {x y : Int32} (hd : decode M.2.1 pc = .ok (.iand, 1))  (K : X M R Z sh V L cu su (pc + 1) ls (.int (x &&& y) :: st)) : X M R Z sh V L cu su pc ls (.int y :: .int x :: st) := by
  intro l G p e s m args below meth c H locs la hC hz hR hS hl
  exact lv_iand hC.1 hC.2.1 hd  (K l G p e s m args below meth c H locs la hC hz hR hS hl)
theorem x_ior {x y : Int32} (hd : decode M.2.1 pc = .ok (.ior, 1))  (K : X M R Z sh V L cu su (pc + 1) ls (.int (x ||| y) :: st)) : X M R Z sh V L cu su pc ls (.int y :: .int x :: st) := by
  intro l G p e s m args below meth c H locs la hC hz hR hS hl
  exact lv_ior hC.1 hC.2.1 hd  (K l G p e s m args below meth c H locs la hC hz hR hS hl)
theorem x_ixor {x y : Int32} (hd : decode M.2.1 pc = .ok (.ixor, 1))  (K : X M R Z sh V L cu su (pc + 1) ls (.int (x ^^^ y) :: st)) : X M R Z sh V L cu su pc ls (.int y :: .int x :: st) := by
  intro l G p e s m args below meth c H locs la hC hz hR hS hl
  exact lv_ixor hC.1 hC.2.1 hd  (K l G p e s m args below meth c H locs la hC hz hR hS hl)
theorem x_ladd {x y : Int64} (hd : decode M.2.1 pc = .ok (.ladd, 1))  (K : X M R Z sh V L cu su (pc + 1) ls (.long (x + y) :: st)) : X M R Z sh V L cu su pc ls (.long y :: .long x :: st) := by
  intro l G p e s m args below meth c H locs la hC hz hR hS hl
  exact lv_ladd hC.1 hC.2.1 hd  (K l G p e s m args below meth c H locs la hC hz hR hS hl)
theorem x_lsub {x y : Int64} (hd : decode M.2.1 pc = .ok (.lsub, 1))  (K : X M R Z sh V L cu su (pc + 1) ls (.long (x - y) :: st)) : X M R Z sh V L cu su pc ls (.long y :: .long x :: st) := by
  intro l G p e s m args below meth c H locs la hC hz hR hS hl
  exact lv_lsub hC.1 hC.2.1 hd  (K l G p e s m args below meth c H locs la hC hz hR hS hl)
theorem x_lmul {x y : Int64} (hd : decode M.2.1 pc = .ok (.lmul, 1))  (K : X M R Z sh V L cu su (pc + 1) ls (.long (x * y) :: st)) : X M R Z sh V L cu su pc ls (.long y :: .long x :: st) := by
  intro l G p e s m args below meth c H locs la hC hz hR hS hl
  exact lv_lmul hC.1 hC.2.1 hd  (K l G p e s m args below meth c H locs la hC hz hR hS hl)
theorem x_land {x y : Int64} (hd : decode M.2.1 pc = .ok (.land, 1))  (K : X M R Z sh V L cu su (pc + 1) ls (.long (x &&& y) :: st)) : X M R Z sh V L cu su pc ls (.long y :: .long x :: st) := by
  intro l G p e s m args below meth c H locs la hC hz hR hS hl
  exact lv_land hC.1 hC.2.1 hd  (K l G p e s m args below meth c H locs la hC hz hR hS hl)
theorem x_lor {x y : Int64} (hd : decode M.2.1 pc = .ok (.lor, 1))  (K : X M R Z sh V L cu su (pc + 1) ls (.long (x ||| y) :: st)) : X M R Z sh V L cu su pc ls (.long y :: .long x :: st) := by
  intro l G p e s m args below meth c H locs la hC hz hR hS hl
  exact lv_lor hC.1 hC.2.1 hd  (K l G p e s m args below meth c H locs la hC hz hR hS hl)
theorem x_idiv {x y : Int32} (hd : decode M.2.1 pc = .ok (.idiv, 1)) (hne : ¬ y = 0) (K : X M R Z sh V L cu su (pc + 1) ls (.int (x / y) :: st)) : X M R Z sh V L cu su pc ls (.int y :: .int x :: st) := by
  intro l G p e s m args below meth c H locs la hC hz hR hS hl
  exact lv_idiv hC.1 hC.2.1 hd hne (K l G p e s m args below meth c H locs la hC hz hR hS hl)
theorem x_irem {x y : Int32} (hd : decode M.2.1 pc = .ok (.irem, 1)) (hne : ¬ y = 0) (K : X M R Z sh V L cu su (pc + 1) ls (.int (x - x / y * y) :: st)) : X M R Z sh V L cu su pc ls (.int y :: .int x :: st) := by
  intro l G p e s m args below meth c H locs la hC hz hR hS hl
  exact lv_irem hC.1 hC.2.1 hd hne (K l G p e s m args below meth c H locs la hC hz hR hS hl)
theorem x_ldiv {x y : Int64} (hd : decode M.2.1 pc = .ok (.ldiv, 1)) (hne : ¬ y = 0) (K : X M R Z sh V L cu su (pc + 1) ls (.long (x / y) :: st)) : X M R Z sh V L cu su pc ls (.long y :: .long x :: st) := by
  intro l G p e s m args below meth c H locs la hC hz hR hS hl
  exact lv_ldiv hC.1 hC.2.1 hd hne (K l G p e s m args below meth c H locs la hC hz hR hS hl)
theorem x_ineg {x : Int32} (hd : decode M.2.1 pc = .ok (.ineg, 1))  (K : X M R Z sh V L cu su (pc + 1) ls (.int (0 - x) :: st)) : X M R Z sh V L cu su pc ls (.int x :: st) := by
  intro l G p e s m args below meth c H locs la hC hz hR hS hl
  exact lv_ineg hC.1 hC.2.1 hd  (K l G p e s m args below meth c H locs la hC hz hR hS hl)
theorem x_lneg {x : Int64} (hd : decode M.2.1 pc = .ok (.lneg, 1))  (K : X M R Z sh V L cu su (pc + 1) ls (.long (0 - x) :: st)) : X M R Z sh V L cu su pc ls (.long x :: st) := by
  intro l G p e s m args below meth c H locs la hC hz hR hS hl
  exact lv_lneg hC.1 hC.2.1 hd  (K l G p e s m args below meth c H locs la hC hz hR hS hl)
theorem x_ishl {x y : Int32} (hd : decode M.2.1 pc = .ok (.ishl, 1))  (K : X M R Z sh V L cu su (pc + 1) ls (.int (x <<< (y &&& 31)) :: st)) : X M R Z sh V L cu su pc ls (.int y :: .int x :: st) := by
  intro l G p e s m args below meth c H locs la hC hz hR hS hl
  exact lv_ishl hC.1 hC.2.1 hd  (K l G p e s m args below meth c H locs la hC hz hR hS hl)
theorem x_ishr {x y : Int32} (hd : decode M.2.1 pc = .ok (.ishr, 1))  (K : X M R Z sh V L cu su (pc + 1) ls (.int (x >>> (y &&& 31)) :: st)) : X M R Z sh V L cu su pc ls (.int y :: .int x :: st) := by
  intro l G p e s m args below meth c H locs la hC hz hR hS hl
  exact lv_ishr hC.1 hC.2.1 hd  (K l G p e s m args below meth c H locs la hC hz hR hS hl)
theorem x_i2l {x : Int32} (hd : decode M.2.1 pc = .ok (.i2l, 1))  (K : X M R Z sh V L cu su (pc + 1) ls (.long x.toInt64 :: st)) : X M R Z sh V L cu su pc ls (.int x :: st) := by
  intro l G p e s m args below meth c H locs la hC hz hR hS hl
  exact lv_i2l hC.1 hC.2.1 hd rfl (K l G p e s m args below meth c H locs la hC hz hR hS hl)
theorem x_l2i {x : Int64} (hd : decode M.2.1 pc = .ok (.l2i, 1))  (K : X M R Z sh V L cu su (pc + 1) ls (.int x.toInt32 :: st)) : X M R Z sh V L cu su pc ls (.long x :: st) := by
  intro l G p e s m args below meth c H locs la hC hz hR hS hl
  exact lv_l2i hC.1 hC.2.1 hd rfl (K l G p e s m args below meth c H locs la hC hz hR hS hl)
theorem x_i2b {x : Int32} (hd : decode M.2.1 pc = .ok (.i2b, 1))  (K : X M R Z sh V L cu su (pc + 1) ls (.int x.toInt8.toInt32 :: st)) : X M R Z sh V L cu su pc ls (.int x :: st) := by
  intro l G p e s m args below meth c H locs la hC hz hR hS hl
  exact lv_i2b hC.1 hC.2.1 hd rfl (K l G p e s m args below meth c H locs la hC hz hR hS hl)
theorem x_lcmp {x y : Int64} (hd : decode M.2.1 pc = .ok (.lcmp, 1))  (K : X M R Z sh V L cu su (pc + 1) ls (.int (lg_cmp x y) :: st)) : X M R Z sh V L cu su pc ls (.long y :: .long x :: st) := by
  intro l G p e s m args below meth c H locs la hC hz hR hS hl
  exact W.lcmp hC.1 hC.2.1 hd  (K l G p e s m args below meth c H locs la hC hz hR hS hl)
theorem x_dup {v : Value} (hd : decode M.2.1 pc = .ok (.dup, 1)) (hv : v.category = 1) (K : X M R Z sh V L cu su (pc + 1) ls (v :: v :: st)) : X M R Z sh V L cu su pc ls (v :: st) := by
  intro l G p e s m args below meth c H locs la hC hz hR hS hl
  exact lv_dup hC.1 hC.2.1 hd (by rw [xv_cat]; exact hv) (K l G p e s m args below meth c H locs la hC hz hR hS hl)
theorem x_pop {v : Value} (hd : decode M.2.1 pc = .ok (.pop, 1)) (hv : v.category = 1) (K : X M R Z sh V L cu su (pc + 1) ls st) : X M R Z sh V L cu su pc ls (v :: st) := by
  intro l G p e s m args below meth c H locs la hC hz hR hS hl
  exact lv_pop hC.1 hC.2.1 hd (by rw [xv_cat]; exact hv) (K l G p e s m args below meth c H locs la hC hz hR hS hl)
theorem x_dup2 {v w : Value} (hd : decode M.2.1 pc = .ok (.dup2, 1)) (hv : v.category = 1) (hw : w.category = 1) (K : X M R Z sh V L cu su (pc + 1) ls (v :: w :: v :: w :: st)) : X M R Z sh V L cu su pc ls (v :: w :: st) := by
  intro l G p e s m args below meth c H locs la hC hz hR hS hl
  exact lv_dup2_11 hC.1 hC.2.1 hd (by rw [xv_cat]; exact hv) (by rw [xv_cat]; exact hw) (K l G p e s m args below meth c H locs la hC hz hR hS hl)
theorem x_null  (hd : decode M.2.1 pc = .ok (.aconst_null, 1))  (K : X M R Z sh V L cu su (pc + 1) ls (.null :: st)) : X M R Z sh V L cu su pc ls st := by
  intro l G p e s m args below meth c H locs la hC hz hR hS hl
  exact lv_null hC.1 hC.2.1 hd  (K l G p e s m args below meth c H locs la hC hz hR hS hl)
theorem x_iload_n {k : Fin 4} (j : Nat) {i : Nat} {x : Int32} (hd : decode M.2.1 pc = .ok (.iload_n k, 1)) (hi : (k : Nat) = i) (hk : ls[j]? = some (i, .int x)) (K : X M R Z sh V L cu su (pc + 1) ls (.int x :: st)) : X M R Z sh V L cu su pc ls st := by
  intro l G p e s m args below meth c H locs la hC hz hR hS hl
  exact lv_iload_n hC.1 hC.2.1 hd hi (lv_at hl j (xl_at hk)) (K l G p e s m args below meth c H locs la hC hz hR hS hl)
theorem x_iload (j : Nat) {i : Nat} {x : Int32} (hd : decode M.2.1 pc = .ok (.iload i, 2)) (hk : ls[j]? = some (i, .int x)) (K : X M R Z sh V L cu su (pc + 2) ls (.int x :: st)) : X M R Z sh V L cu su pc ls st := by
  intro l G p e s m args below meth c H locs la hC hz hR hS hl
  exact lv_iload hC.1 hC.2.1 hd (lv_at hl j (xl_at hk)) (K l G p e s m args below meth c H locs la hC hz hR hS hl)
theorem x_lload_n {k : Fin 4} (j : Nat) {i : Nat} {x : Int64} (hd : decode M.2.1 pc = .ok (.lload_n k, 1)) (hi : (k : Nat) = i) (hk : ls[j]? = some (i, .long x)) (K : X M R Z sh V L cu su (pc + 1) ls (.long x :: st)) : X M R Z sh V L cu su pc ls st := by
  intro l G p e s m args below meth c H locs la hC hz hR hS hl
  exact lv_lload_n hC.1 hC.2.1 hd hi (lv_at hl j (xl_at hk)) (K l G p e s m args below meth c H locs la hC hz hR hS hl)
theorem x_lload (j : Nat) {i : Nat} {x : Int64} (hd : decode M.2.1 pc = .ok (.lload i, 2)) (hk : ls[j]? = some (i, .long x)) (K : X M R Z sh V L cu su (pc + 2) ls (.long x :: st)) : X M R Z sh V L cu su pc ls st := by
  intro l G p e s m args below meth c H locs la hC hz hR hS hl
  exact lv_lload hC.1 hC.2.1 hd (lv_at hl j (xl_at hk)) (K l G p e s m args below meth c H locs la hC hz hR hS hl)
theorem x_aload_n {k : Fin 4} (j : Nat) {i q : Nat} (hd : decode M.2.1 pc = .ok (.aload_n k, 1)) (hi : (k : Nat) = i) (hk : ls[j]? = some (i, .ref q)) (K : X M R Z sh V L cu su (pc + 1) ls (.ref q :: st)) : X M R Z sh V L cu su pc ls st := by
  intro l G p e s m args below meth c H locs la hC hz hR hS hl
  exact lv_aload_n hC.1 hC.2.1 hd hi (lv_at hl j (xl_at hk)) (K l G p e s m args below meth c H locs la hC hz hR hS hl)
theorem x_aload_nX {k : Fin 4} (j : Nat) {i q : Nat} (hd : decode M.2.1 pc = .ok (.aload_n k, 1)) (hi : (k : Nat) = i) (hk : ls[j]? = some (i, .retAddr q)) (K : X M R Z sh V L cu su (pc + 1) ls (.retAddr q :: st)) : X M R Z sh V L cu su pc ls st := by
  intro l G p e s m args below meth c H locs la hC hz hR hS hl
  exact lv_aload_n hC.1 hC.2.1 hd hi (lv_at hl j (xl_at hk)) (K l G p e s m args below meth c H locs la hC hz hR hS hl)
theorem x_aload_nN {k : Fin 4} (j : Nat) {i : Nat} (hd : decode M.2.1 pc = .ok (.aload_n k, 1)) (hi : (k : Nat) = i) (hk : ls[j]? = some (i, .null)) (K : X M R Z sh V L cu su (pc + 1) ls (.null :: st)) : X M R Z sh V L cu su pc ls st := by
  intro l G p e s m args below meth c H locs la hC hz hR hS hl
  exact lv_aload_nN hC.1 hC.2.1 hd hi (lv_at hl j (xl_at hk)) (K l G p e s m args below meth c H locs la hC hz hR hS hl)
theorem x_aload (j : Nat) {i q : Nat} (hd : decode M.2.1 pc = .ok (.aload i, 2)) (hk : ls[j]? = some (i, .ref q)) (K : X M R Z sh V L cu su (pc + 2) ls (.ref q :: st)) : X M R Z sh V L cu su pc ls st := by
  intro l G p e s m args below meth c H locs la hC hz hR hS hl
  exact lv_aload hC.1 hC.2.1 hd (lv_at hl j (xl_at hk)) (K l G p e s m args below meth c H locs la hC hz hR hS hl)
theorem x_istore_n {k : Fin 4} {x : Int32} {i : Nat} (ls' : List (Nat × Value)) (hd : decode M.2.1 pc = .ok (.istore_n k, 1)) (hi : (k : Nat) = i) (hn : i < M.2.2.1) (hl' : (i, .int x) :: ls.filter (fun q => !(q.1 == i) && !(q.1 + 1 == i && q.2.category == 2)) = ls') (K : X M R Z sh V L cu su (pc + 1) ls' st) : X M R Z sh V L cu su pc ls (.int x :: st) := by
  intro l G p e s m args below meth c H locs la hC hz hR hS hl
  exact lv_istore_n hC.1 hC.2.1 hd hi hl hn (xl_st1 hl') (fun la' hl2 => K l G p e s m args below meth c H locs la' hC hz hR hS hl2)
theorem x_istore {x : Int32} {i : Nat} (ls' : List (Nat × Value)) (hd : decode M.2.1 pc = .ok (.istore i, 2))  (hn : i < M.2.2.1) (hl' : (i, .int x) :: ls.filter (fun q => !(q.1 == i) && !(q.1 + 1 == i && q.2.category == 2)) = ls') (K : X M R Z sh V L cu su (pc + 2) ls' st) : X M R Z sh V L cu su pc ls (.int x :: st) := by
  intro l G p e s m args below meth c H locs la hC hz hR hS hl
  exact lv_istore hC.1 hC.2.1 hd  hl hn (xl_st1 hl') (fun la' hl2 => K l G p e s m args below meth c H locs la' hC hz hR hS hl2)
theorem x_lstore_n {k : Fin 4} {x : Int64} {i : Nat} (ls' : List (Nat × Value)) (hd : decode M.2.1 pc = .ok (.lstore_n k, 1)) (hi : (k : Nat) = i) (hn : i + 1 < M.2.2.1) (hl' : (i, .long x) :: ls.filter (fun q => !(q.1 == i) && (!(q.1 == i + 1) && !(q.1 + 1 == i && q.2.category == 2))) = ls') (K : X M R Z sh V L cu su (pc + 1) ls' st) : X M R Z sh V L cu su pc ls (.long x :: st) := by
  intro l G p e s m args below meth c H locs la hC hz hR hS hl
  exact lv_lstore_n hC.1 hC.2.1 hd hi hl hn (xl_st2 hl') (fun la' hl2 => K l G p e s m args below meth c H locs la' hC hz hR hS hl2)
theorem x_lstore {x : Int64} {i : Nat} (ls' : List (Nat × Value)) (hd : decode M.2.1 pc = .ok (.lstore i, 2))  (hn : i + 1 < M.2.2.1) (hl' : (i, .long x) :: ls.filter (fun q => !(q.1 == i) && (!(q.1 == i + 1) && !(q.1 + 1 == i && q.2.category == 2))) = ls') (K : X M R Z sh V L cu su (pc + 2) ls' st) : X M R Z sh V L cu su pc ls (.long x :: st) := by
  intro l G p e s m args below meth c H locs la hC hz hR hS hl
  exact lv_lstore hC.1 hC.2.1 hd  hl hn (xl_st2 hl') (fun la' hl2 => K l G p e s m args below meth c H locs la' hC hz hR hS hl2)
theorem x_astore_n {k : Fin 4} {q : Nat} {i : Nat} (ls' : List (Nat × Value)) (hd : decode M.2.1 pc = .ok (.astore_n k, 1)) (hi : (k : Nat) = i) (hn : i < M.2.2.1) (hl' : (i, .ref q) :: ls.filter (fun q => !(q.1 == i) && !(q.1 + 1 == i && q.2.category == 2)) = ls') (K : X M R Z sh V L cu su (pc + 1) ls' st) : X M R Z sh V L cu su pc ls (.ref q :: st) := by
  intro l G p e s m args below meth c H locs la hC hz hR hS hl
  exact lv_astore_n hC.1 hC.2.1 hd hi hl hn (xl_st1 hl') (fun la' hl2 => K l G p e s m args below meth c H locs la' hC hz hR hS hl2)
theorem x_astore_nN {k : Fin 4} {i : Nat} (ls' : List (Nat × Value)) (hd : decode M.2.1 pc = .ok (.astore_n k, 1)) (hi : (k : Nat) = i) (hn : i < M.2.2.1) (hl' : (i, .null) :: ls.filter (fun q => !(q.1 == i) && !(q.1 + 1 == i && q.2.category == 2)) = ls') (K : X M R Z sh V L cu su (pc + 1) ls' st) : X M R Z sh V L cu su pc ls (.null :: st) := by
  intro l G p e s m args below meth c H locs la hC hz hR hS hl
  exact lv_astore_nN hC.1 hC.2.1 hd hi hl hn (xl_st1 hl') (fun la' hl2 => K l G p e s m args below meth c H locs la' hC hz hR hS hl2)
theorem x_iinc (j : Nat) {i : Nat} {n : Int} {x : Int32} (v : Int32) (ls' : List (Nat × Value)) (hd : decode M.2.1 pc = .ok (.iinc i n, 3)) (hk : ls[j]? = some (i, .int x)) (hv : Int32.ofInt n = v) (hn : i < M.2.2.1) (hl' : (i, .int (x + v)) :: ls.filter (fun q => !(q.1 == i) && !(q.1 + 1 == i && q.2.category == 2)) = ls') (K : X M R Z sh V L cu su (pc + 3) ls' st) : X M R Z sh V L cu su pc ls st := by
  intro l G p e s m args below meth c H locs la hC hz hR hS hl
  subst hv
  exact lv_iinc hC.1 hC.2.1 hd hl (xl_at hk) rfl hn (xl_st1 hl') (fun la' hl2 => K l G p e s m args below meth c H locs la' hC hz hR hS hl2)
theorem x_if_eq {x : Int32} {off : Int} (tgt : Nat) (hd : decode M.2.1 pc = .ok (.ifCond .eq off, 3)) (ht : (pc : Int) + off = (tgt : Int)) (K1 : x = 0 → X M R Z sh V L cu su tgt ls st) (K2 : ¬ (x = 0) → X M R Z sh V L cu su (pc + 3) ls st) : X M R Z sh V L cu su pc ls (.int x :: st) := by
  intro l G p e s m args below meth c H locs la hC hz hR hS hl
  exact lv_if_eq hC.1 hC.2.1 hd ht (fun k => K1 (by first | exact k | simpa using k) l G p e s m args below meth c H locs la hC hz hR hS hl) (fun k => K2 (by first | exact k | simpa using k) l G p e s m args below meth c H locs la hC hz hR hS hl)
theorem x_icmp_eq {x y : Int32} {off : Int} (tgt : Nat) (hd : decode M.2.1 pc = .ok (.if_icmp .eq off, 3)) (ht : (pc : Int) + off = (tgt : Int)) (K1 : x = y → X M R Z sh V L cu su tgt ls st) (K2 : ¬ (x = y) → X M R Z sh V L cu su (pc + 3) ls st) : X M R Z sh V L cu su pc ls (.int y :: .int x :: st) := by
  intro l G p e s m args below meth c H locs la hC hz hR hS hl
  exact lv_icmp_eq hC.1 hC.2.1 hd ht (fun k => K1 (by first | exact k | simpa using k) l G p e s m args below meth c H locs la hC hz hR hS hl) (fun k => K2 (by first | exact k | simpa using k) l G p e s m args below meth c H locs la hC hz hR hS hl)
theorem x_if_ne {x : Int32} {off : Int} (tgt : Nat) (hd : decode M.2.1 pc = .ok (.ifCond .ne off, 3)) (ht : (pc : Int) + off = (tgt : Int)) (K1 : ¬ x = 0 → X M R Z sh V L cu su tgt ls st) (K2 : ¬ (¬ x = 0) → X M R Z sh V L cu su (pc + 3) ls st) : X M R Z sh V L cu su pc ls (.int x :: st) := by
  intro l G p e s m args below meth c H locs la hC hz hR hS hl
  exact lv_if_ne hC.1 hC.2.1 hd ht (fun k => K1 (by first | exact k | simpa using k) l G p e s m args below meth c H locs la hC hz hR hS hl) (fun k => K2 (by first | exact k | simpa using k) l G p e s m args below meth c H locs la hC hz hR hS hl)
theorem x_icmp_ne {x y : Int32} {off : Int} (tgt : Nat) (hd : decode M.2.1 pc = .ok (.if_icmp .ne off, 3)) (ht : (pc : Int) + off = (tgt : Int)) (K1 : ¬ x = y → X M R Z sh V L cu su tgt ls st) (K2 : ¬ (¬ x = y) → X M R Z sh V L cu su (pc + 3) ls st) : X M R Z sh V L cu su pc ls (.int y :: .int x :: st) := by
  intro l G p e s m args below meth c H locs la hC hz hR hS hl
  exact lv_icmp_ne hC.1 hC.2.1 hd ht (fun k => K1 (by first | exact k | simpa using k) l G p e s m args below meth c H locs la hC hz hR hS hl) (fun k => K2 (by first | exact k | simpa using k) l G p e s m args below meth c H locs la hC hz hR hS hl)
theorem x_if_lt {x : Int32} {off : Int} (tgt : Nat) (hd : decode M.2.1 pc = .ok (.ifCond .lt off, 3)) (ht : (pc : Int) + off = (tgt : Int)) (K1 : x < 0 → X M R Z sh V L cu su tgt ls st) (K2 : ¬ (x < 0) → X M R Z sh V L cu su (pc + 3) ls st) : X M R Z sh V L cu su pc ls (.int x :: st) := by
  intro l G p e s m args below meth c H locs la hC hz hR hS hl
  exact lv_if_lt hC.1 hC.2.1 hd ht (fun k => K1 (by first | exact k | simpa using k) l G p e s m args below meth c H locs la hC hz hR hS hl) (fun k => K2 (by first | exact k | simpa using k) l G p e s m args below meth c H locs la hC hz hR hS hl)
theorem x_icmp_lt {x y : Int32} {off : Int} (tgt : Nat) (hd : decode M.2.1 pc = .ok (.if_icmp .lt off, 3)) (ht : (pc : Int) + off = (tgt : Int)) (K1 : x < y → X M R Z sh V L cu su tgt ls st) (K2 : ¬ (x < y) → X M R Z sh V L cu su (pc + 3) ls st) : X M R Z sh V L cu su pc ls (.int y :: .int x :: st) := by
  intro l G p e s m args below meth c H locs la hC hz hR hS hl
  exact lv_icmp_lt hC.1 hC.2.1 hd ht (fun k => K1 (by first | exact k | simpa using k) l G p e s m args below meth c H locs la hC hz hR hS hl) (fun k => K2 (by first | exact k | simpa using k) l G p e s m args below meth c H locs la hC hz hR hS hl)
theorem x_if_ge {x : Int32} {off : Int} (tgt : Nat) (hd : decode M.2.1 pc = .ok (.ifCond .ge off, 3)) (ht : (pc : Int) + off = (tgt : Int)) (K1 : 0 ≤ x → X M R Z sh V L cu su tgt ls st) (K2 : ¬ (0 ≤ x) → X M R Z sh V L cu su (pc + 3) ls st) : X M R Z sh V L cu su pc ls (.int x :: st) := by
  intro l G p e s m args below meth c H locs la hC hz hR hS hl
  exact lv_if_ge hC.1 hC.2.1 hd ht (fun k => K1 (by first | exact k | simpa using k) l G p e s m args below meth c H locs la hC hz hR hS hl) (fun k => K2 (by first | exact k | simpa using k) l G p e s m args below meth c H locs la hC hz hR hS hl)
theorem x_icmp_ge {x y : Int32} {off : Int} (tgt : Nat) (hd : decode M.2.1 pc = .ok (.if_icmp .ge off, 3)) (ht : (pc : Int) + off = (tgt : Int)) (K1 : y ≤ x → X M R Z sh V L cu su tgt ls st) (K2 : ¬ (y ≤ x) → X M R Z sh V L cu su (pc + 3) ls st) : X M R Z sh V L cu su pc ls (.int y :: .int x :: st) := by
  intro l G p e s m args below meth c H locs la hC hz hR hS hl
  exact lv_icmp_ge hC.1 hC.2.1 hd ht (fun k => K1 (by first | exact k | simpa using k) l G p e s m args below meth c H locs la hC hz hR hS hl) (fun k => K2 (by first | exact k | simpa using k) l G p e s m args below meth c H locs la hC hz hR hS hl)
theorem x_if_gt {x : Int32} {off : Int} (tgt : Nat) (hd : decode M.2.1 pc = .ok (.ifCond .gt off, 3)) (ht : (pc : Int) + off = (tgt : Int)) (K1 : 0 < x → X M R Z sh V L cu su tgt ls st) (K2 : ¬ (0 < x) → X M R Z sh V L cu su (pc + 3) ls st) : X M R Z sh V L cu su pc ls (.int x :: st) := by
  intro l G p e s m args below meth c H locs la hC hz hR hS hl
  exact lv_if_gt hC.1 hC.2.1 hd ht (fun k => K1 (by first | exact k | simpa using k) l G p e s m args below meth c H locs la hC hz hR hS hl) (fun k => K2 (by first | exact k | simpa using k) l G p e s m args below meth c H locs la hC hz hR hS hl)
theorem x_icmp_gt {x y : Int32} {off : Int} (tgt : Nat) (hd : decode M.2.1 pc = .ok (.if_icmp .gt off, 3)) (ht : (pc : Int) + off = (tgt : Int)) (K1 : y < x → X M R Z sh V L cu su tgt ls st) (K2 : ¬ (y < x) → X M R Z sh V L cu su (pc + 3) ls st) : X M R Z sh V L cu su pc ls (.int y :: .int x :: st) := by
  intro l G p e s m args below meth c H locs la hC hz hR hS hl
  exact lv_icmp_gt hC.1 hC.2.1 hd ht (fun k => K1 (by first | exact k | simpa using k) l G p e s m args below meth c H locs la hC hz hR hS hl) (fun k => K2 (by first | exact k | simpa using k) l G p e s m args below meth c H locs la hC hz hR hS hl)
theorem x_if_le {x : Int32} {off : Int} (tgt : Nat) (hd : decode M.2.1 pc = .ok (.ifCond .le off, 3)) (ht : (pc : Int) + off = (tgt : Int)) (K1 : x ≤ 0 → X M R Z sh V L cu su tgt ls st) (K2 : ¬ (x ≤ 0) → X M R Z sh V L cu su (pc + 3) ls st) : X M R Z sh V L cu su pc ls (.int x :: st) := by
  intro l G p e s m args below meth c H locs la hC hz hR hS hl
  exact lv_if_le hC.1 hC.2.1 hd ht (fun k => K1 (by first | exact k | simpa using k) l G p e s m args below meth c H locs la hC hz hR hS hl) (fun k => K2 (by first | exact k | simpa using k) l G p e s m args below meth c H locs la hC hz hR hS hl)
theorem x_icmp_le {x y : Int32} {off : Int} (tgt : Nat) (hd : decode M.2.1 pc = .ok (.if_icmp .le off, 3)) (ht : (pc : Int) + off = (tgt : Int)) (K1 : x ≤ y → X M R Z sh V L cu su tgt ls st) (K2 : ¬ (x ≤ y) → X M R Z sh V L cu su (pc + 3) ls st) : X M R Z sh V L cu su pc ls (.int y :: .int x :: st) := by
  intro l G p e s m args below meth c H locs la hC hz hR hS hl
  exact lv_icmp_le hC.1 hC.2.1 hd ht (fun k => K1 (by first | exact k | simpa using k) l G p e s m args below meth c H locs la hC hz hR hS hl) (fun k => K2 (by first | exact k | simpa using k) l G p e s m args below meth c H locs la hC hz hR hS hl)
theorem x_goto {off : Int} (tgt : Nat) (hd : decode M.2.1 pc = .ok (.goto off, 3)) (ht : (pc : Int) + off = (tgt : Int)) (K : X M R Z sh V L cu su tgt ls st) : X M R Z sh V L cu su pc ls st := by
  intro l G p e s m args below meth c H locs la hC hz hR hS hl
  exact lv_goto hC.1 hC.2.1 hd ht (K l G p e s m args below meth c H locs la hC hz hR hS hl)
theorem x_ifnonnull {q : Nat} {off : Int} (tgt : Nat) (hd : decode M.2.1 pc = .ok (.ifnonnull off, 3)) (ht : (pc : Int) + off = (tgt : Int)) (K : X M R Z sh V L cu su tgt ls st) : X M R Z sh V L cu su pc ls (.ref q :: st) := by
  intro l G p e s m args below meth c H locs la hC hz hR hS hl
  exact lv_ifnonnull hC.1 hC.2.1 hd ht (K l G p e s m args below meth c H locs la hC hz hR hS hl)
theorem x_ifnonnullN {off : Int} (hd : decode M.2.1 pc = .ok (.ifnonnull off, 3)) (K : X M R Z sh V L cu su (pc + 3) ls st) : X M R Z sh V L cu su pc ls (.null :: st) := by
  intro l G p e s m args below meth c H locs la hC hz hR hS hl
  exact lv_ifnonnullN hC.1 hC.2.1 hd (K l G p e s m args below meth c H locs la hC hz hR hS hl)
theorem x_tableOut {dflt lo hi : Int} {offs : Array Int} {len : Nat} {x : Int32} (tgt : Nat) (hd : decode M.2.1 pc = .ok (.tableswitch dflt lo hi offs, len)) (h : x.toInt < lo ∨ hi < x.toInt) (ht : (pc : Int) + dflt = (tgt : Int)) (K : X M R Z sh V L cu su tgt ls st) : X M R Z sh V L cu su pc ls (.int x :: st) := by
  intro l G p e s m args below meth c H locs la hC hz hR hS hl
  exact lv_tableOut hC.1 hC.2.1 hd h ht (K l G p e s m args below meth c H locs la hC hz hR hS hl)
theorem x_tableIn {dflt lo hi : Int} {offs : Array Int} {len : Nat} {x : Int32} (off : Int) (tgt : Nat) (hd : decode M.2.1 pc = .ok (.tableswitch dflt lo hi offs, len)) (h1 : ¬ x.toInt < lo) (h2 : ¬ hi < x.toInt) (ho : offs[(x.toInt - lo).toNat]? = some off) (ht : (pc : Int) + off = (tgt : Int)) (K : X M R Z sh V L cu su tgt ls st) : X M R Z sh V L cu su pc ls (.int x :: st) := by
  intro l G p e s m args below meth c H locs la hC hz hR hS hl
  exact lv_tableIn hC.1 hC.2.1 hd h1 h2 ho ht (K l G p e s m args below meth c H locs la hC hz hR hS hl)
theorem x_lookup {dflt : Int} {ps : Array (Int × Int)} {len : Nat} {x : Int32} (off : Int) (tgt : Nat) (hd : decode M.2.1 pc = .ok (.lookupswitch dflt ps, len)) (hp : (ps.toList.zip (ps.toList.drop 1)).all (fun (a, next) => a.1 < next.1) = true) (ho : Op.lookupswitch.offset ps.toList dflt x.toInt = off) (ht : (pc : Int) + off = (tgt : Int)) (K : X M R Z sh V L cu su tgt ls st) : X M R Z sh V L cu su pc ls (.int x :: st) := by
  intro l G p e s m args below meth c H locs la hC hz hR hS hl
  exact lv_lookup hC.1 hC.2.1 hd hp ho ht (K l G p e s m args below meth c H locs la hC hz hR hS hl)
theorem x_ldc {index : Nat} {v : Int32} (hw : Cond.constant M.1.cls index v ∈ xTbl) (hd : decode M.2.1 pc = .ok (.ldc index, 2)) (K : X M R Z sh V L cu su (pc + 2) ls (.int v :: st)) : X M R Z sh V L cu su pc ls st := by
  intro l G p e s m args below meth c H locs la hC hz hR hS hl
  exact lv_ldc hC.1 hC.2.1 hC.2.2.2.2.1 (hC.2.2.2.2.2.1 _ hw) hd (K l G p e s m args below meth c H locs la hC hz hR hS hl)
theorem x_ldcw {index : Nat} {v : Int32} (hw : Cond.constant M.1.cls index v ∈ xTbl) (hd : decode M.2.1 pc = .ok (.ldc_w index, 3)) (K : X M R Z sh V L cu su (pc + 3) ls (.int v :: st)) : X M R Z sh V L cu su pc ls st := by
  intro l G p e s m args below meth c H locs la hC hz hR hS hl
  exact lv_ldcw hC.1 hC.2.1 hC.2.2.2.2.1 (hC.2.2.2.2.2.1 _ hw) hd (K l G p e s m args below meth c H locs la hC hz hR hS hl)
theorem x_ldc2 {index : Nat} {v : Int64} (hw : Cond.constantLong M.1.cls index v ∈ xTbl) (hd : decode M.2.1 pc = .ok (.ldc2_w index, 3)) (K : X M R Z sh V L cu su (pc + 3) ls (.long v :: st)) : X M R Z sh V L cu su pc ls st := by
  intro l G p e s m args below meth c H locs la hC hz hR hS hl
  exact lv_ldc2 hC.1 hC.2.1 hC.2.2.2.2.1 (hC.2.2.2.2.2.1 _ hw) hd (K l G p e s m args below meth c H locs la hC hz hR hS hl)
/-- a field of ours, as an instruction of the class own names it: its class, its slot, whether it is final, its type -/
def xF (own : String) (idx ci k : Nat) (fin : Bool) (ty : FieldType) : Prop := ∃ (C : String) (T : u_T) (N : Nat) (tf : Nat → FieldType), classes[ci]? = some (C, T, N) ∧ xCls C T N tf ∧ k < N ∧ Cond.fieldLink own idx (T k).1 (T k).2.1 (T k).2.2.1 ∈ xTbl ∧ (T k).2.2.2 = fin ∧ tf k = ty ∧ (T k).1 = C
theorem xks_at {G : xG} {V : xV} {r k kd : Nat} {ks : List Nat} (h : ks[k]? = some kd) : (ks.mapIdx (fun k kd => xv G (xsv kd (V r k))))[k]? = some (xv G (xsv kd (V r k))) := by simp only [List.getElem?_mapIdx, h, Option.map_some]
theorem x_getI {idx ci k r : Nat} {fin : Bool} {ty : FieldType} {ks : List Nat} (hf : xF M.1.cls idx ci k fin ty) (hs : sh[r]? = some (.inr (ci, ks))) (hk : ks[k]? = some 0) (hd : decode M.2.1 pc = .ok (.getfield idx, 3)) (K : X M R Z sh V L cu su (pc + 3) ls (.int (V r k) :: st)) : X M R Z sh V L cu su pc ls (.ref r :: st) := by
  intro l G p e s m args below meth c H locs la hC hz hR hS hl
  obtain ⟨C, T, N, tf, f1, f2, f3, f4, f5, f6, f7⟩ := hf
  exact va_get hC.1 hC.2.1 hC.2.2.2.2.2.1 f2.1 hC.2.2.2.2.1 hC.2.2.2.2.2.2.2.2.1 hR r (xw_at hs) f1 k f3 (hC.2.2.2.2.2.1 _ f4) (fun _ h => h) (xks_at hk) hd (K l G p e s m args below meth c H locs la hC hz hR hS hl)
theorem x_getP {idx ci k r q : Nat} {fin : Bool} {ty : FieldType} {ks : List Nat} (hf : xF M.1.cls idx ci k fin ty) (hs : sh[r]? = some (.inr (ci, ks))) (hk : ks[k]? = some (q + 3)) (hd : decode M.2.1 pc = .ok (.getfield idx, 3)) (K : X M R Z sh V L cu su (pc + 3) ls (.ref q :: st)) : X M R Z sh V L cu su pc ls (.ref r :: st) := by
  intro l G p e s m args below meth c H locs la hC hz hR hS hl
  obtain ⟨C, T, N, tf, f1, f2, f3, f4, f5, f6, f7⟩ := hf
  exact va_get hC.1 hC.2.1 hC.2.2.2.2.2.1 f2.1 hC.2.2.2.2.1 hC.2.2.2.2.2.2.2.2.1 hR r (xw_at hs) f1 k f3 (hC.2.2.2.2.2.1 _ f4) (fun _ h => h) (xks_at hk) hd (K l G p e s m args below meth c H locs la hC hz hR hS hl)
theorem x_getU {idx ci k r : Nat} {fin : Bool} {ty : FieldType} {ks : List Nat} (hf : xF M.1.cls idx ci k fin ty) (hs : sh[r]? = some (.inr (ci, ks))) (hk : ks[k]? = some 2) (hd : decode M.2.1 pc = .ok (.getfield idx, 3)) (K : X M R Z sh V L cu su (pc + 3) ls (.ref (V r k).toNatClampNeg :: st)) : X M R Z sh V L cu su pc ls (.ref r :: st) := by
  intro l G p e s m args below meth c H locs la hC hz hR hS hl
  obtain ⟨C, T, N, tf, f1, f2, f3, f4, f5, f6, f7⟩ := hf
  exact va_get hC.1 hC.2.1 hC.2.2.2.2.2.1 f2.1 hC.2.2.2.2.1 hC.2.2.2.2.2.2.2.2.1 hR r (xw_at hs) f1 k f3 (hC.2.2.2.2.2.1 _ f4) (fun _ h => h) (xks_at hk) hd (K l G p e s m args below meth c H locs la hC hz hR hS hl)
theorem xV_put {G : xG} {V : xV} {L : xL} {r k ci : Nat} {ks : List Nat} {v : Int32} (hk : ks[k]? = some 0) : xe G (x2 V r k v) L r (.inr (ci, ks)) = .inr (ci, (ks.mapIdx (fun k kd => xv G (xsv kd (V r k)))).set k (.int v)) := by
  simp only [xe]
  congr 2
  apply List.ext_getElem?
  intro j
  by_cases hj : j = k
  · subst hj
    rw [List.getElem?_set_self (by simp only [List.length_mapIdx]; exact (List.getElem?_eq_some_iff.mp hk).1)]
    simp only [List.getElem?_mapIdx, hk, Option.map_some, x2, and_self, if_true, xsv, xv]
  · rw [List.getElem?_set_ne (Ne.symm hj)]
    simp only [List.getElem?_mapIdx, x2, hj, and_false, if_false]
theorem x_putI {idx ci k r : Nat} {ty : FieldType} {ks : List Nat} {v : Int32} (hf : xF M.1.cls idx ci k false ty) (hs : sh[r]? = some (.inr (ci, ks))) (hk : ks[k]? = some 0) (hn : narrow ty (.int v) = .int v) (hv : fits ty (.int v) = true) (hd : decode M.2.1 pc = .ok (.putfield idx, 3)) (K : X M R Z sh (x2 V r k v) L cu su (pc + 3) ls st) : X M R Z sh V L cu su pc ls (.int v :: .ref r :: st) := by
  intro l G p e s m args below meth c H locs la hC hz hR hS hl
  obtain ⟨C, T, N, tf, f1, f2, f3, f4, f5, f6, f7⟩ := hf
  refine va_put hC.1 hC.2.1 hC.2.2.2.2.2.1 f2.1 tf f2.2.1 f2.2.2 hC.2.2.2.2.1 hC.2.2.2.2.2.2.2.2.1 hR (xw_D G sh V L) hS r (xw_at hs) f1 k f3 (hC.2.2.2.2.2.1 _ f4) (fun _ h => h) f5 (by rw [f2.2.1 k f3, f6]) hn hv (by simp only [List.length_mapIdx]; exact (List.getElem?_eq_some_iff.mp hk).1) hd (fun H1 locs1 p1 p2 p3 => ?_)
  refine K l G p e s m args below meth c H1 locs1 la hC hz ?_ p3 hl
  show va_P _ _ _ _
  rw [xw_setS (V := V) (L := L) hs (fun j hj => x2_ne hj) (fun _ _ => rfl), xV_put hk]
  exact p1
theorem xV_putU {G : xG} {V : xV} {L : xL} {r k ci q : Nat} {ks : List Nat} (hk : ks[k]? = some 2) (hq : q < 2 ^ 31) : xe G (x2 V r k (nI q)) L r (.inr (ci, ks)) = .inr (ci, (ks.mapIdx (fun k kd => xv G (xsv kd (V r k)))).set k (.ref (G.1 + q))) := by
  simp only [xe]
  congr 2
  apply List.ext_getElem?
  intro j
  by_cases hj : j = k
  · subst hj
    rw [List.getElem?_set_self (by simp only [List.length_mapIdx]; exact (List.getElem?_eq_some_iff.mp hk).1)]
    simp only [List.getElem?_mapIdx, hk, Option.map_some, x2, and_self, if_true, xsv, xv, nI_clamp hq]
  · rw [List.getElem?_set_ne (Ne.symm hj)]
    simp only [List.getElem?_mapIdx, x2, hj, and_false, if_false]
theorem x_putU {idx ci k r q : Nat} {cn : String} {ks : List Nat} (hf : xF M.1.cls idx ci k false (.object cn)) (hs : sh[r]? = some (.inr (ci, ks))) (hk : ks[k]? = some 2) (hq : q < 2 ^ 31) (hd : decode M.2.1 pc = .ok (.putfield idx, 3)) (K : X M R Z sh (x2 V r k (nI q)) L cu su (pc + 3) ls st) : X M R Z sh V L cu su pc ls (.ref q :: .ref r :: st) := by
  intro l G p e s m args below meth c H locs la hC hz hR hS hl
  obtain ⟨C, T, N, tf, f1, f2, f3, f4, f5, f6, f7⟩ := hf
  refine va_put hC.1 hC.2.1 hC.2.2.2.2.2.1 f2.1 tf f2.2.1 f2.2.2 hC.2.2.2.2.1 hC.2.2.2.2.2.2.2.2.1 hR (xw_D G sh V L) hS r (xw_at hs) f1 k f3 (hC.2.2.2.2.2.1 _ f4) (fun _ h => h) f5 (by rw [f2.2.1 k f3, f6]) rfl rfl (by simp only [List.length_mapIdx]; exact (List.getElem?_eq_some_iff.mp hk).1) hd (fun H1 locs1 p1 p2 p3 => ?_)
  refine K l G p e s m args below meth c H1 locs1 la hC hz ?_ p3 hl
  show va_P _ _ _ _
  rw [xw_setS (V := V) (L := L) hs (fun j hj => x2_ne hj) (fun _ _ => rfl), xV_putU hk hq]
  exact p1
theorem x_iaload {r n : Nat} {f : Nat → Option Nat} {i : Int32} (hs : sh[r]? = some (.inl (.int, n, f))) (hi : xI i n = true) (hd : decode M.2.1 pc = .ok (.iaload, 1)) (K : X M R Z sh V L cu su (pc + 1) ls (.int (V r i.toNatClampNeg) :: st)) : X M R Z sh V L cu su pc ls (.int i :: .ref r :: st) := by
  intro l G p e s m args below meth c H locs la hC hz hR hS hl
  exact va_iald hC.1 hC.2.1 hC.2.2.2.2.2.2.2.2.1 hR r 0 (xw_at hs) rfl (xI_in hi) hd (K l G p e s m args below meth c H locs la hC hz hR hS hl)
theorem x_baload {r n : Nat} {f : Nat → Option Nat} {i : Int32} (hs : sh[r]? = some (.inl (.byte, n, f))) (hi : xI i n = true) (hd : decode M.2.1 pc = .ok (.baload, 1)) (K : X M R Z sh V L cu su (pc + 1) ls (.int (V r i.toNatClampNeg) :: st)) : X M R Z sh V L cu su pc ls (.int i :: .ref r :: st) := by
  intro l G p e s m args below meth c H locs la hC hz hR hS hl
  exact va_bald hC.1 hC.2.1 hC.2.2.2.2.2.2.2.2.1 hR r 1 (xw_at hs) rfl (xI_in hi) hd (K l G p e s m args below meth c H locs la hC hz hR hS hl)
theorem x_laload {r n : Nat} {f : Nat → Option Nat} {i : Int32} (hs : sh[r]? = some (.inl (.long, n, f))) (hi : xI i n = true) (hd : decode M.2.1 pc = .ok (.laload, 1)) (K : X M R Z sh V L cu su (pc + 1) ls (.long (L r i.toNatClampNeg) :: st)) : X M R Z sh V L cu su pc ls (.int i :: .ref r :: st) := by
  intro l G p e s m args below meth c H locs la hC hz hR hS hl
  exact va_lald hC.1 hC.2.1 hC.2.2.2.2.2.2.2.2.1 hR r 2 (xw_at hs) rfl (xI_in hi) hd (K l G p e s m args below meth c H locs la hC hz hR hS hl)
theorem x_aaload {r n q : Nat} {f : Nat → Option Nat} {i : Int32} (hs : sh[r]? = some (.inl (.object "WarrantWeather$Law", n, f))) (hi : xI i n = true) (hq : f i.toNatClampNeg = some q) (hd : decode M.2.1 pc = .ok (.aaload, 1)) (K : X M R Z sh V L cu su (pc + 1) ls (.ref q :: st)) : X M R Z sh V L cu su pc ls (.int i :: .ref r :: st) := by
  intro l G p e s m args below meth c H locs la hC hz hR hS hl
  have k1 := K l G p e s m args below meth c H locs la hC hz hR hS hl
  refine va_aldq hC.1 hC.2.1 hC.2.2.2.2.2.2.2.2.1 hR r 3 (xw_at hs) rfl (xI_in hi) hd ?_
  simp only [hq, Option.map_some, va_rf]
  exact k1
theorem x_iastore {r n : Nat} {f : Nat → Option Nat} {i : Int32} {x : Int32} (hs : sh[r]? = some (.inl (.int, n, f))) (hi : xI i n = true) (hd : decode M.2.1 pc = .ok (.iastore, 1)) (K : X M R Z sh (x2 V r i.toNatClampNeg x) L cu su (pc + 1) ls st) : X M R Z sh V L cu su pc ls (.int x :: .int i :: .ref r :: st) := by
  intro l G p e s m args below meth c H locs la hC hz hR hS hl
  refine va_iast hC.1 hC.2.1 hC.2.2.2.2.2.2.2.2.1 hR (xw_D G sh V L) hS r 0 (xw_at hs) rfl (xI_in hi) hd (fun H1 locs1 p1 p2 p3 => ?_)
  refine K l G p e s m args below meth c H1 locs1 la hC hz ?_ p3 hl
  show va_P _ _ _ _
  rw [xw_setS (V := V) (L := L) hs (fun j hj => x2_ne hj) (fun _ _ => rfl)]
  simp only [xe, xb, x2_upd]
  exact p1
theorem x_bastore {r n : Nat} {f : Nat → Option Nat} {i : Int32} {x : Int32} (hs : sh[r]? = some (.inl (.byte, n, f))) (hi : xI i n = true) (hd : decode M.2.1 pc = .ok (.bastore, 1)) (K : X M R Z sh (x2 V r i.toNatClampNeg (vp_nar .byte x)) L cu su (pc + 1) ls st) : X M R Z sh V L cu su pc ls (.int x :: .int i :: .ref r :: st) := by
  intro l G p e s m args below meth c H locs la hC hz hR hS hl
  refine va_bast hC.1 hC.2.1 hC.2.2.2.2.2.2.2.2.1 hR (xw_D G sh V L) hS r 1 (xw_at hs) rfl (xI_in hi) hd (fun H1 locs1 p1 p2 p3 => ?_)
  refine K l G p e s m args below meth c H1 locs1 la hC hz ?_ p3 hl
  show va_P _ _ _ _
  rw [xw_setS (V := V) (L := L) hs (fun j hj => x2_ne hj) (fun _ _ => rfl)]
  simp only [xe, xb, x2_upd]
  exact p1
theorem x_lastore {r n : Nat} {f : Nat → Option Nat} {i : Int32} {x : Int64} (hs : sh[r]? = some (.inl (.long, n, f))) (hi : xI i n = true) (hd : decode M.2.1 pc = .ok (.lastore, 1)) (K : X M R Z sh V (x2L L r i.toNatClampNeg x) cu su (pc + 1) ls st) : X M R Z sh V L cu su pc ls (.long x :: .int i :: .ref r :: st) := by
  intro l G p e s m args below meth c H locs la hC hz hR hS hl
  refine va_last hC.1 hC.2.1 hC.2.2.2.2.2.2.2.2.1 hR (xw_D G sh V L) hS r 2 (xw_at hs) rfl (xI_in hi) hd (fun H1 locs1 p1 p2 p3 => ?_)
  refine K l G p e s m args below meth c H1 locs1 la hC hz ?_ p3 hl
  show va_P _ _ _ _
  rw [xw_setS (V := V) (L := L) hs (fun _ _ => rfl) (fun j hj => x2L_ne hj)]
  simp only [xe, xb, x2L_upd]
  exact p1
theorem x_alen {r n : Nat} {ty : FieldType} {f : Nat → Option Nat} (v : Int32) (hs : sh[r]? = some (.inl (ty, n, f))) (ht : ty = .int ∨ ty = .byte ∨ ty = .long ∨ ty = .object "WarrantWeather$Law") (hv : Int32.ofNat n = v) (hd : decode M.2.1 pc = .ok (.arraylength, 1)) (K : X M R Z sh V L cu su (pc + 1) ls (.int v :: st)) : X M R Z sh V L cu su pc ls (.ref r :: st) := by
  intro l G p e s m args below meth c H locs la hC hz hR hS hl
  rcases ht with rfl | rfl | rfl | rfl
  · exact va_alen hC.1 hC.2.1 hC.2.2.2.2.2.2.2.2.1 hR r 0 (xw_at hs) rfl hv hd (K l G p e s m args below meth c H locs la hC hz hR hS hl)
  · exact va_alen hC.1 hC.2.1 hC.2.2.2.2.2.2.2.2.1 hR r 1 (xw_at hs) rfl hv hd (K l G p e s m args below meth c H locs la hC hz hR hS hl)
  · exact va_alen hC.1 hC.2.1 hC.2.2.2.2.2.2.2.2.1 hR r 2 (xw_at hs) rfl hv hd (K l G p e s m args below meth c H locs la hC hz hR hS hl)
  · exact va_alen hC.1 hC.2.1 hC.2.2.2.2.2.2.2.2.1 hR r 3 (xw_at hs) rfl hv hd (K l G p e s m args below meth c H locs la hC hz hR hS hl)
variable {Q : Option Value → xH → Prop}
theorem x_ireturn {v : Int32} (hr : M.2.2.2.1 = some .int) (hd : decode M.2.1 pc = .ok (.ireturn, 1)) (h1 : cu ≤ M.2.2.2.2.1) (h2 : su ≤ M.2.2.2.2.2) (hQ : Q (some (.int v)) (sh, V, L)) : X M R (xZ M Q) sh V L cu su pc ls [.int v] := by
  intro l G p e s m args below meth c H locs la hC hz hR hS hl
  refine W.widen (k := M.2.2.2.2.1) (n := M.2.2.2.2.2) h1 h2 ?_
  exact W.iret hC.1 hC.2.1 (by rw [hC.2.2.1]; exact hr) (fun t ht hw => ⟨(some (.int v)), (sh, V, L), rfl, hQ, by rw [ht]; exact hR, hS.F ht⟩) hS.2.2 hd hC.2.2.2.2.2.2.1
theorem x_zreturn {v : Int32} {ty : FieldType} (hr : M.2.2.2.1 = some ty) (hn : narrow ty (.int v) = .int v) (hd : decode M.2.1 pc = .ok (.ireturn, 1)) (h1 : cu ≤ M.2.2.2.2.1) (h2 : su ≤ M.2.2.2.2.2) (hQ : Q (some (.int v)) (sh, V, L)) : X M R (xZ M Q) sh V L cu su pc ls [.int v] := by
  intro l G p e s m args below meth c H locs la hC hz hR hS hl
  refine W.widen (k := M.2.2.2.2.1) (n := M.2.2.2.2.2) h1 h2 ?_
  exact W.zret hC.1 hC.2.1 (by rw [hC.2.2.1]; exact hr) hn (fun t ht hw => ⟨(some (.int v)), (sh, V, L), rfl, hQ, by rw [ht]; exact hR, hS.F ht⟩) hS.2.2 hd hC.2.2.2.2.2.2.1
theorem x_lreturn {v : Int64} (hr : M.2.2.2.1 = some .long) (hd : decode M.2.1 pc = .ok (.lreturn, 1)) (h1 : cu ≤ M.2.2.2.2.1) (h2 : su ≤ M.2.2.2.2.2) (hQ : Q (some (.long v)) (sh, V, L)) : X M R (xZ M Q) sh V L cu su pc ls [.long v] := by
  intro l G p e s m args below meth c H locs la hC hz hR hS hl
  refine W.widen (k := M.2.2.2.2.1) (n := M.2.2.2.2.2) h1 h2 ?_
  exact W.lret hC.1 hC.2.1 (by rw [hC.2.2.1]; exact hr) (fun t ht hw => ⟨(some (.long v)), (sh, V, L), rfl, hQ, by rw [ht]; exact hR, hS.F ht⟩) hS.2.2 hd hC.2.2.2.2.2.2.1
theorem x_return  (hr : M.2.2.2.1 = none) (hd : decode M.2.1 pc = .ok (.return_, 1)) (h1 : cu ≤ M.2.2.2.2.1) (h2 : su ≤ M.2.2.2.2.2) (hQ : Q none (sh, V, L)) : X M R (xZ M Q) sh V L cu su pc ls [] := by
  intro l G p e s m args below meth c H locs la hC hz hR hS hl
  refine W.widen (k := M.2.2.2.2.1) (n := M.2.2.2.2.2) h1 h2 ?_
  exact W.vret hC.1 hC.2.1 (by rw [hC.2.2.1]; exact hr) (fun t ht hw => ⟨none, (sh, V, L), rfl, hQ, by rw [ht]; exact hR, hS.F ht⟩) hS.2.2 hd hC.2.2.2.2.2.2.1
theorem x_areturn {q : Nat} {cn : String} (hr : M.2.2.2.1 = some (.object cn)) (hd : decode M.2.1 pc = .ok (.areturn, 1)) (h1 : cu ≤ M.2.2.2.2.1) (h2 : su ≤ M.2.2.2.2.2) (hQ : Q (some (.ref q)) (sh, V, L)) : X M R (xZ M Q) sh V L cu su pc ls [.ref q] := by
  intro l G p e s m args below meth c H locs la hC hz hR hS hl
  refine W.widen (k := M.2.2.2.2.1) (n := M.2.2.2.2.2) h1 h2 ?_
  exact W.aret hC.1 hC.2.1 (by rw [hC.2.2.1]; exact hr) (Or.inl ⟨_, rfl⟩) (Or.inr ⟨_, rfl⟩) (fun t ht hw => ⟨(some (.ref q)), (sh, V, L), rfl, hQ, by rw [ht]; exact hR, hS.F ht⟩) hS.2.2 hd hC.2.2.2.2.2.2.1
theorem x_areturnN {cn : String} (hr : M.2.2.2.1 = some (.object cn)) (hd : decode M.2.1 pc = .ok (.areturn, 1)) (h1 : cu ≤ M.2.2.2.2.1) (h2 : su ≤ M.2.2.2.2.2) (hQ : Q (some .null) (sh, V, L)) : X M R (xZ M Q) sh V L cu su pc ls [.null] := by
  intro l G p e s m args below meth c H locs la hC hz hR hS hl
  refine W.widen (k := M.2.2.2.2.1) (n := M.2.2.2.2.2) h1 h2 ?_
  exact W.aret hC.1 hC.2.1 (by rw [hC.2.2.1]; exact hr) (Or.inl ⟨_, rfl⟩) (Or.inl rfl) (fun t ht hw => ⟨(some .null), (sh, V, L), rfl, hQ, by rw [ht]; exact hR, hS.F ht⟩) hS.2.2 hd hC.2.2.2.2.2.2.1
end XRules

section VF
variable {Y : Yt} {X : XT} {M M' : Mm} {pc : Nat} {L : List (Option Value)} {st : List Value} {ins : List (Nat × Instr × Nat)} {nL : Nat} {own : String} {rm : Room} {ret : Option FieldType}
theorem v_fload_n (hX : vOK Y X ins nL own rm ret) {k : Fin 4} (i : Nat) {x : UInt32} (ix : Nat) (hd : gi ins ix = some (pc, .fload_n k, 1)) (hi : (k : Nat) = i) (hg : lg L i = some (.float x)) (kk : V Y X M (pc + 1) L (.float x :: st)) : V Y X M pc L st := by
  obtain ⟨l, D, cy, ad⟩ := Y
  obtain ⟨p, e, R, s, m, args, below, meth, c, cells, slots, Q, A⟩ := X
  obtain ⟨hx, hcd, hml, hts, hown, hK, ⟨hdd, hda⟩, hN, rfl, hret, hlk, hcl, hsl⟩ := hX
  intro H locs ls hP hS hl
  have hd := hcd ix _ hd
  exact lv_fload_n hx rfl hd hi (lw_at hl hg) (kk H locs ls hP hS hl)
theorem v_fstore_n (hX : vOK Y X ins nL own rm ret) {k : Fin 4} (i : Nat) {x : UInt32} (ix : Nat) (hd : gi ins ix = some (pc, .fstore_n k, 1)) (hi : (k : Nat) = i) (hn : i < L.length) (hc : lc L i = true) (kk : V Y X M (pc + 1) (lset L i (some (.float x))) st) : V Y X M pc L (.float x :: st) := by
  obtain ⟨l, D, cy, ad⟩ := Y
  obtain ⟨p, e, R, s, m, args, below, meth, c, cells, slots, Q, A⟩ := X
  obtain ⟨hx, hcd, hml, hts, hown, hK, ⟨hdd, hda⟩, hN, rfl, hret, hlk, hcl, hsl⟩ := hX
  intro H locs ls hP hS hl
  have hd := hcd ix _ hd
  exact lv_fstore_n hx rfl hd hi hl hn rfl (fun ls2 h2 => kk H locs ls2 hP hS (lw_set1 hc h2))
theorem v_fconst0 (hX : vOK Y X ins nL own rm ret) (ix : Nat) (hd : gi ins ix = some (pc, .fconst 0, 1)) (kk : V Y X M (pc + 1) L (.float 0 :: st)) : V Y X M pc L (st) := by
  obtain ⟨l, D, cy, ad⟩ := Y
  obtain ⟨p, e, R, s, m, args, below, meth, c, cells, slots, Q, A⟩ := X
  obtain ⟨hx, hcd, hml, hts, hown, hK, ⟨hdd, hda⟩, hN, rfl, hret, hlk, hcl, hsl⟩ := hX
  intro H locs ls hP hS hl
  have hd := hcd ix _ hd
  exact lv_fconst0 hx rfl hd (kk H locs ls hP hS hl)
theorem v_fconst1 (hX : vOK Y X ins nL own rm ret) (ix : Nat) (hd : gi ins ix = some (pc, .fconst 1, 1)) (kk : V Y X M (pc + 1) L (.float 1065353216 :: st)) : V Y X M pc L (st) := by
  obtain ⟨l, D, cy, ad⟩ := Y
  obtain ⟨p, e, R, s, m, args, below, meth, c, cells, slots, Q, A⟩ := X
  obtain ⟨hx, hcd, hml, hts, hown, hK, ⟨hdd, hda⟩, hN, rfl, hret, hlk, hcl, hsl⟩ := hX
  intro H locs ls hP hS hl
  have hd := hcd ix _ hd
  exact lv_fconst1 hx rfl hd (kk H locs ls hP hS hl)
theorem v_fconst2 (hX : vOK Y X ins nL own rm ret) (ix : Nat) (hd : gi ins ix = some (pc, .fconst 2, 1)) (kk : V Y X M (pc + 1) L (.float 1073741824 :: st)) : V Y X M pc L (st) := by
  obtain ⟨l, D, cy, ad⟩ := Y
  obtain ⟨p, e, R, s, m, args, below, meth, c, cells, slots, Q, A⟩ := X
  obtain ⟨hx, hcd, hml, hts, hown, hK, ⟨hdd, hda⟩, hN, rfl, hret, hlk, hcl, hsl⟩ := hX
  intro H locs ls hP hS hl
  have hd := hcd ix _ hd
  exact lv_fconst2 hx rfl hd (kk H locs ls hP hS hl)
theorem v_fcmp (hX : vOK Y X ins nL own rm ret) {x y : UInt32} {op : CmpOp} (ix : Nat) (hd : gi ins ix = some (pc, .fcmp op, 1)) (kk : V Y X M (pc + 1) L (.int (Op.cmpValue (FP.fcmp x y) op) :: st)) : V Y X M pc L (.float y :: .float x :: st) := by
  obtain ⟨l, D, cy, ad⟩ := Y
  obtain ⟨p, e, R, s, m, args, below, meth, c, cells, slots, Q, A⟩ := X
  obtain ⟨hx, hcd, hml, hts, hown, hK, ⟨hdd, hda⟩, hN, rfl, hret, hlk, hcl, hsl⟩ := hX
  intro H locs ls hP hS hl
  have hd := hcd ix _ hd
  exact lv_fcmp hx rfl hd (kk H locs ls hP hS hl)
theorem v_fmul (hX : vOK Y X ins nL own rm ret) {x y v : UInt32} (hv : FP.fmul x y = v) (hne : vf_n32 v) (ix : Nat) (hd : gi ins ix = some (pc, .fmul, 1)) (kk : V Y X M (pc + 1) L (.float v :: st)) : V Y X M pc L (.float y :: .float x :: st) := by
  obtain ⟨l, D, cy, ad⟩ := Y
  obtain ⟨p, e, R, s, m, args, below, meth, c, cells, slots, Q, A⟩ := X
  obtain ⟨hx, hcd, hml, hts, hown, hK, ⟨hdd, hda⟩, hN, rfl, hret, hlk, hcl, hsl⟩ := hX
  intro H locs ls hP hS hl
  have hd := hcd ix _ hd
  exact lv_fmul hx rfl hd (by rw [hv]; exact hne) (by rw [hv]; exact kk H locs ls hP hS hl)
theorem v_fdiv (hX : vOK Y X ins nL own rm ret) {x y v : UInt32} (hv : FP.fdiv x y = v) (hne : vf_n32 v) (ix : Nat) (hd : gi ins ix = some (pc, .fdiv, 1)) (kk : V Y X M (pc + 1) L (.float v :: st)) : V Y X M pc L (.float y :: .float x :: st) := by
  obtain ⟨l, D, cy, ad⟩ := Y
  obtain ⟨p, e, R, s, m, args, below, meth, c, cells, slots, Q, A⟩ := X
  obtain ⟨hx, hcd, hml, hts, hown, hK, ⟨hdd, hda⟩, hN, rfl, hret, hlk, hcl, hsl⟩ := hX
  intro H locs ls hP hS hl
  have hd := hcd ix _ hd
  exact lv_fdiv hx rfl hd (by rw [hv]; exact hne) (by rw [hv]; exact kk H locs ls hP hS hl)
theorem v_i2f (hX : vOK Y X ins nL own rm ret) {x : Int32} {v : UInt32} (hv : FP.i2f x = v) (ix : Nat) (hd : gi ins ix = some (pc, .i2f, 1)) (kk : V Y X M (pc + 1) L (.float v :: st)) : V Y X M pc L (.int x :: st) := by
  obtain ⟨l, D, cy, ad⟩ := Y
  obtain ⟨p, e, R, s, m, args, below, meth, c, cells, slots, Q, A⟩ := X
  obtain ⟨hx, hcd, hml, hts, hown, hK, ⟨hdd, hda⟩, hN, rfl, hret, hlk, hcl, hsl⟩ := hX
  intro H locs ls hP hS hl
  have hd := hcd ix _ hd
  exact lv_i2f hx rfl hd (by rw [hv]; exact kk H locs ls hP hS hl)
theorem v_f2i (hX : vOK Y X ins nL own rm ret) {x : UInt32} {v : Int32} (hv : FP.f2i x = v) (ix : Nat) (hd : gi ins ix = some (pc, .f2i, 1)) (kk : V Y X M (pc + 1) L (.int v :: st)) : V Y X M pc L (.float x :: st) := by
  obtain ⟨l, D, cy, ad⟩ := Y
  obtain ⟨p, e, R, s, m, args, below, meth, c, cells, slots, Q, A⟩ := X
  obtain ⟨hx, hcd, hml, hts, hown, hK, ⟨hdd, hda⟩, hN, rfl, hret, hlk, hcl, hsl⟩ := hX
  intro H locs ls hP hS hl
  have hd := hcd ix _ hd
  exact lv_f2i hx rfl hd (by rw [hv]; exact kk H locs ls hP hS hl)
theorem v_ldcf (hX : vOK Y X ins nL own rm ret) {index : Nat} {v : UInt32} (hm : Cond.constantFloat own index v ∈ wT) (ix : Nat) (hd : gi ins ix = some (pc, .ldc index, 2)) (kk : V Y X M (pc + 2) L (.float v :: st)) : V Y X M pc L (st) := by
  obtain ⟨l, D, cy, ad⟩ := Y
  obtain ⟨p, e, R, s, m, args, below, meth, c, cells, slots, Q, A⟩ := X
  obtain ⟨hx, hcd, hml, hts, hown, hK, ⟨hdd, hda⟩, hN, rfl, hret, hlk, hcl, hsl⟩ := hX
  intro H locs ls hP hS hl
  have hd := hcd ix _ hd
  exact lv_ldcf hx rfl hown (hts _ hm) hd (kk H locs ls hP hS hl)
end VF

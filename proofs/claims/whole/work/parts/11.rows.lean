section ZRows
variable {β : zz_B} {n : Nat} {Γ : zz_X} {cc : ByteArray} {own : String} {fr lo : Nat} {ws : va_W} {pc : Nat} {lv : List (Nat × Value)} {rest : List Value}
theorem zv_iconst {z : Int} {v : Int32} (g : zG β n Γ cc own fr lo) (hd : decode cc pc = .ok (.iconst z, 1)) (hv : Int32.ofInt z = v) (k : zV β n Γ ws (pc + 1) lv (.int v :: rest)) : zV β n Γ ws pc lv (rest) := by
  obtain ⟨⟨p, e, R, s⟩, ⟨m, args, below, meth, c⟩, ⟨Q, A, nc, ns⟩⟩ := Γ
  obtain ⟨hx, hb, hml, hown, hts, hK, hlk, hA, ⟨hfr, hlo⟩, ⟨hnc, hns⟩, hE⟩ := g
  intro H locs ls hP hD hS hl
  exact lv_iconst hx hb hd hv (k H locs ls hP hD hS hl)
theorem zv_bipush {z : Int} {v : Int32} (g : zG β n Γ cc own fr lo) (hd : decode cc pc = .ok (.bipush z, 2)) (hv : (Int8.ofInt z).toInt32 = v) (k : zV β n Γ ws (pc + 2) lv (.int v :: rest)) : zV β n Γ ws pc lv (rest) := by
  obtain ⟨⟨p, e, R, s⟩, ⟨m, args, below, meth, c⟩, ⟨Q, A, nc, ns⟩⟩ := Γ
  obtain ⟨hx, hb, hml, hown, hts, hK, hlk, hA, ⟨hfr, hlo⟩, ⟨hnc, hns⟩, hE⟩ := g
  intro H locs ls hP hD hS hl
  exact lv_bipush hx hb hd hv (k H locs ls hP hD hS hl)
theorem zv_sipush {z : Int} {v : Int32} (g : zG β n Γ cc own fr lo) (hd : decode cc pc = .ok (.sipush z, 3)) (hv : (Int16.ofInt z).toInt32 = v) (k : zV β n Γ ws (pc + 3) lv (.int v :: rest)) : zV β n Γ ws pc lv (rest) := by
  obtain ⟨⟨p, e, R, s⟩, ⟨m, args, below, meth, c⟩, ⟨Q, A, nc, ns⟩⟩ := Γ
  obtain ⟨hx, hb, hml, hown, hts, hK, hlk, hA, ⟨hfr, hlo⟩, ⟨hnc, hns⟩, hE⟩ := g
  intro H locs ls hP hD hS hl
  exact lv_sipush hx hb hd hv (k H locs ls hP hD hS hl)
theorem zv_lconst {z : Fin 2} {v : Int64} (g : zG β n Γ cc own fr lo) (hd : decode cc pc = .ok (.lconst z, 1)) (hv : Int64.ofNat (z : Nat) = v) (k : zV β n Γ ws (pc + 1) lv (.long v :: rest)) : zV β n Γ ws pc lv (rest) := by
  obtain ⟨⟨p, e, R, s⟩, ⟨m, args, below, meth, c⟩, ⟨Q, A, nc, ns⟩⟩ := Γ
  obtain ⟨hx, hb, hml, hown, hts, hK, hlk, hA, ⟨hfr, hlo⟩, ⟨hnc, hns⟩, hE⟩ := g
  intro H locs ls hP hD hS hl
  exact lv_lconst hx hb hd hv (k H locs ls hP hD hS hl)
theorem zv_iadd {x y : Int32} (g : zG β n Γ cc own fr lo) (hd : decode cc pc = .ok (.iadd, 1)) (k : zV β n Γ ws (pc + 1) lv (.int (x + y) :: rest)) : zV β n Γ ws pc lv (.int y :: .int x :: rest) := by
  obtain ⟨⟨p, e, R, s⟩, ⟨m, args, below, meth, c⟩, ⟨Q, A, nc, ns⟩⟩ := Γ
  obtain ⟨hx, hb, hml, hown, hts, hK, hlk, hA, ⟨hfr, hlo⟩, ⟨hnc, hns⟩, hE⟩ := g
  intro H locs ls hP hD hS hl
  exact lv_iadd hx hb hd (k H locs ls hP hD hS hl)
theorem zv_isub {x y : Int32} (g : zG β n Γ cc own fr lo) (hd : decode cc pc = .ok (.isub, 1)) (k : zV β n Γ ws (pc + 1) lv (.int (x - y) :: rest)) : zV β n Γ ws pc lv (.int y :: .int x :: rest) := by
  obtain ⟨⟨p, e, R, s⟩, ⟨m, args, below, meth, c⟩, ⟨Q, A, nc, ns⟩⟩ := Γ
  obtain ⟨hx, hb, hml, hown, hts, hK, hlk, hA, ⟨hfr, hlo⟩, ⟨hnc, hns⟩, hE⟩ := g
  intro H locs ls hP hD hS hl
  exact lv_isub hx hb hd (k H locs ls hP hD hS hl)
theorem zv_imul {x y : Int32} (g : zG β n Γ cc own fr lo) (hd : decode cc pc = .ok (.imul, 1)) (k : zV β n Γ ws (pc + 1) lv (.int (x * y) :: rest)) : zV β n Γ ws pc lv (.int y :: .int x :: rest) := by
  obtain ⟨⟨p, e, R, s⟩, ⟨m, args, below, meth, c⟩, ⟨Q, A, nc, ns⟩⟩ := Γ
  obtain ⟨hx, hb, hml, hown, hts, hK, hlk, hA, ⟨hfr, hlo⟩, ⟨hnc, hns⟩, hE⟩ := g
  intro H locs ls hP hD hS hl
  exact lv_imul hx hb hd (k H locs ls hP hD hS hl)
theorem zv_iand {x y : Int32} (g : zG β n Γ cc own fr lo) (hd : decode cc pc = .ok (.iand, 1)) (k : zV β n Γ ws (pc + 1) lv (.int (x &&& y) :: rest)) : zV β n Γ ws pc lv (.int y :: .int x :: rest) := by
  obtain ⟨⟨p, e, R, s⟩, ⟨m, args, below, meth, c⟩, ⟨Q, A, nc, ns⟩⟩ := Γ
  obtain ⟨hx, hb, hml, hown, hts, hK, hlk, hA, ⟨hfr, hlo⟩, ⟨hnc, hns⟩, hE⟩ := g
  intro H locs ls hP hD hS hl
  exact lv_iand hx hb hd (k H locs ls hP hD hS hl)
theorem zv_ior {x y : Int32} (g : zG β n Γ cc own fr lo) (hd : decode cc pc = .ok (.ior, 1)) (k : zV β n Γ ws (pc + 1) lv (.int (x ||| y) :: rest)) : zV β n Γ ws pc lv (.int y :: .int x :: rest) := by
  obtain ⟨⟨p, e, R, s⟩, ⟨m, args, below, meth, c⟩, ⟨Q, A, nc, ns⟩⟩ := Γ
  obtain ⟨hx, hb, hml, hown, hts, hK, hlk, hA, ⟨hfr, hlo⟩, ⟨hnc, hns⟩, hE⟩ := g
  intro H locs ls hP hD hS hl
  exact lv_ior hx hb hd (k H locs ls hP hD hS hl)
theorem zv_ixor {x y : Int32} (g : zG β n Γ cc own fr lo) (hd : decode cc pc = .ok (.ixor, 1)) (k : zV β n Γ ws (pc + 1) lv (.int (x ^^^ y) :: rest)) : zV β n Γ ws pc lv (.int y :: .int x :: rest) := by
  obtain ⟨⟨p, e, R, s⟩, ⟨m, args, below, meth, c⟩, ⟨Q, A, nc, ns⟩⟩ := Γ
  obtain ⟨hx, hb, hml, hown, hts, hK, hlk, hA, ⟨hfr, hlo⟩, ⟨hnc, hns⟩, hE⟩ := g
  intro H locs ls hP hD hS hl
  exact lv_ixor hx hb hd (k H locs ls hP hD hS hl)
theorem zv_ishl {x y : Int32} (g : zG β n Γ cc own fr lo) (hd : decode cc pc = .ok (.ishl, 1)) (k : zV β n Γ ws (pc + 1) lv (.int (x <<< (y &&& 31)) :: rest)) : zV β n Γ ws pc lv (.int y :: .int x :: rest) := by
  obtain ⟨⟨p, e, R, s⟩, ⟨m, args, below, meth, c⟩, ⟨Q, A, nc, ns⟩⟩ := Γ
  obtain ⟨hx, hb, hml, hown, hts, hK, hlk, hA, ⟨hfr, hlo⟩, ⟨hnc, hns⟩, hE⟩ := g
  intro H locs ls hP hD hS hl
  exact lv_ishl hx hb hd (k H locs ls hP hD hS hl)
theorem zv_ishr {x y : Int32} (g : zG β n Γ cc own fr lo) (hd : decode cc pc = .ok (.ishr, 1)) (k : zV β n Γ ws (pc + 1) lv (.int (x >>> (y &&& 31)) :: rest)) : zV β n Γ ws pc lv (.int y :: .int x :: rest) := by
  obtain ⟨⟨p, e, R, s⟩, ⟨m, args, below, meth, c⟩, ⟨Q, A, nc, ns⟩⟩ := Γ
  obtain ⟨hx, hb, hml, hown, hts, hK, hlk, hA, ⟨hfr, hlo⟩, ⟨hnc, hns⟩, hE⟩ := g
  intro H locs ls hP hD hS hl
  exact lv_ishr hx hb hd (k H locs ls hP hD hS hl)
theorem zv_idiv {x y : Int32} (g : zG β n Γ cc own fr lo) (hd : decode cc pc = .ok (.idiv, 1)) (hne : ¬ y = 0) (k : zV β n Γ ws (pc + 1) lv (.int (x / y) :: rest)) : zV β n Γ ws pc lv (.int y :: .int x :: rest) := by
  obtain ⟨⟨p, e, R, s⟩, ⟨m, args, below, meth, c⟩, ⟨Q, A, nc, ns⟩⟩ := Γ
  obtain ⟨hx, hb, hml, hown, hts, hK, hlk, hA, ⟨hfr, hlo⟩, ⟨hnc, hns⟩, hE⟩ := g
  intro H locs ls hP hD hS hl
  exact lv_idiv hx hb hd hne (k H locs ls hP hD hS hl)
theorem zv_irem {x y : Int32} (g : zG β n Γ cc own fr lo) (hd : decode cc pc = .ok (.irem, 1)) (hne : ¬ y = 0) (k : zV β n Γ ws (pc + 1) lv (.int (x - x / y * y) :: rest)) : zV β n Γ ws pc lv (.int y :: .int x :: rest) := by
  obtain ⟨⟨p, e, R, s⟩, ⟨m, args, below, meth, c⟩, ⟨Q, A, nc, ns⟩⟩ := Γ
  obtain ⟨hx, hb, hml, hown, hts, hK, hlk, hA, ⟨hfr, hlo⟩, ⟨hnc, hns⟩, hE⟩ := g
  intro H locs ls hP hD hS hl
  exact lv_irem hx hb hd hne (k H locs ls hP hD hS hl)
theorem zv_ladd {x y : Int64} (g : zG β n Γ cc own fr lo) (hd : decode cc pc = .ok (.ladd, 1)) (k : zV β n Γ ws (pc + 1) lv (.long (x + y) :: rest)) : zV β n Γ ws pc lv (.long y :: .long x :: rest) := by
  obtain ⟨⟨p, e, R, s⟩, ⟨m, args, below, meth, c⟩, ⟨Q, A, nc, ns⟩⟩ := Γ
  obtain ⟨hx, hb, hml, hown, hts, hK, hlk, hA, ⟨hfr, hlo⟩, ⟨hnc, hns⟩, hE⟩ := g
  intro H locs ls hP hD hS hl
  exact lv_ladd hx hb hd (k H locs ls hP hD hS hl)
theorem zv_lsub {x y : Int64} (g : zG β n Γ cc own fr lo) (hd : decode cc pc = .ok (.lsub, 1)) (k : zV β n Γ ws (pc + 1) lv (.long (x - y) :: rest)) : zV β n Γ ws pc lv (.long y :: .long x :: rest) := by
  obtain ⟨⟨p, e, R, s⟩, ⟨m, args, below, meth, c⟩, ⟨Q, A, nc, ns⟩⟩ := Γ
  obtain ⟨hx, hb, hml, hown, hts, hK, hlk, hA, ⟨hfr, hlo⟩, ⟨hnc, hns⟩, hE⟩ := g
  intro H locs ls hP hD hS hl
  exact lv_lsub hx hb hd (k H locs ls hP hD hS hl)
theorem zv_lmul {x y : Int64} (g : zG β n Γ cc own fr lo) (hd : decode cc pc = .ok (.lmul, 1)) (k : zV β n Γ ws (pc + 1) lv (.long (x * y) :: rest)) : zV β n Γ ws pc lv (.long y :: .long x :: rest) := by
  obtain ⟨⟨p, e, R, s⟩, ⟨m, args, below, meth, c⟩, ⟨Q, A, nc, ns⟩⟩ := Γ
  obtain ⟨hx, hb, hml, hown, hts, hK, hlk, hA, ⟨hfr, hlo⟩, ⟨hnc, hns⟩, hE⟩ := g
  intro H locs ls hP hD hS hl
  exact lv_lmul hx hb hd (k H locs ls hP hD hS hl)
theorem zv_land {x y : Int64} (g : zG β n Γ cc own fr lo) (hd : decode cc pc = .ok (.land, 1)) (k : zV β n Γ ws (pc + 1) lv (.long (x &&& y) :: rest)) : zV β n Γ ws pc lv (.long y :: .long x :: rest) := by
  obtain ⟨⟨p, e, R, s⟩, ⟨m, args, below, meth, c⟩, ⟨Q, A, nc, ns⟩⟩ := Γ
  obtain ⟨hx, hb, hml, hown, hts, hK, hlk, hA, ⟨hfr, hlo⟩, ⟨hnc, hns⟩, hE⟩ := g
  intro H locs ls hP hD hS hl
  exact lv_land hx hb hd (k H locs ls hP hD hS hl)
theorem zv_lor {x y : Int64} (g : zG β n Γ cc own fr lo) (hd : decode cc pc = .ok (.lor, 1)) (k : zV β n Γ ws (pc + 1) lv (.long (x ||| y) :: rest)) : zV β n Γ ws pc lv (.long y :: .long x :: rest) := by
  obtain ⟨⟨p, e, R, s⟩, ⟨m, args, below, meth, c⟩, ⟨Q, A, nc, ns⟩⟩ := Γ
  obtain ⟨hx, hb, hml, hown, hts, hK, hlk, hA, ⟨hfr, hlo⟩, ⟨hnc, hns⟩, hE⟩ := g
  intro H locs ls hP hD hS hl
  exact lv_lor hx hb hd (k H locs ls hP hD hS hl)
theorem zv_lcmp {x y : Int64} (g : zG β n Γ cc own fr lo) (hd : decode cc pc = .ok (.lcmp, 1)) (k : zV β n Γ ws (pc + 1) lv (.int (lg_cmp x y) :: rest)) : zV β n Γ ws pc lv (.long y :: .long x :: rest) := by
  obtain ⟨⟨p, e, R, s⟩, ⟨m, args, below, meth, c⟩, ⟨Q, A, nc, ns⟩⟩ := Γ
  obtain ⟨hx, hb, hml, hown, hts, hK, hlk, hA, ⟨hfr, hlo⟩, ⟨hnc, hns⟩, hE⟩ := g
  intro H locs ls hP hD hS hl
  exact W.lcmp hx hb hd (k H locs ls hP hD hS hl)
theorem zv_lshl {x : Int64} {y : Int32} (g : zG β n Γ cc own fr lo) (hd : decode cc pc = .ok (.lshl, 1)) (k : zV β n Γ ws (pc + 1) lv (.long (x <<< (y.toInt64 &&& 63)) :: rest)) : zV β n Γ ws pc lv (.int y :: .long x :: rest) := by
  obtain ⟨⟨p, e, R, s⟩, ⟨m, args, below, meth, c⟩, ⟨Q, A, nc, ns⟩⟩ := Γ
  obtain ⟨hx, hb, hml, hown, hts, hK, hlk, hA, ⟨hfr, hlo⟩, ⟨hnc, hns⟩, hE⟩ := g
  intro H locs ls hP hD hS hl
  exact lv_lshl hx hb hd rfl (k H locs ls hP hD hS hl)
theorem zv_lshr {x : Int64} {y : Int32} (g : zG β n Γ cc own fr lo) (hd : decode cc pc = .ok (.lshr, 1)) (k : zV β n Γ ws (pc + 1) lv (.long (x >>> (y.toInt64 &&& 63)) :: rest)) : zV β n Γ ws pc lv (.int y :: .long x :: rest) := by
  obtain ⟨⟨p, e, R, s⟩, ⟨m, args, below, meth, c⟩, ⟨Q, A, nc, ns⟩⟩ := Γ
  obtain ⟨hx, hb, hml, hown, hts, hK, hlk, hA, ⟨hfr, hlo⟩, ⟨hnc, hns⟩, hE⟩ := g
  intro H locs ls hP hD hS hl
  exact lv_lshr hx hb hd rfl (k H locs ls hP hD hS hl)
theorem zv_iushr {x y : Int32} (g : zG β n Γ cc own fr lo) (hd : decode cc pc = .ok (.iushr, 1)) (k : zV β n Γ ws (pc + 1) lv (.int (x.toUInt32 >>> (y.toUInt32 &&& Int32.toUInt32 31)).toInt32 :: rest)) : zV β n Γ ws pc lv (.int y :: .int x :: rest) := by
  obtain ⟨⟨p, e, R, s⟩, ⟨m, args, below, meth, c⟩, ⟨Q, A, nc, ns⟩⟩ := Γ
  obtain ⟨hx, hb, hml, hown, hts, hK, hlk, hA, ⟨hfr, hlo⟩, ⟨hnc, hns⟩, hE⟩ := g
  intro H locs ls hP hD hS hl
  exact lv_iushr hx hb hd rfl (k H locs ls hP hD hS hl)
theorem zv_i2l {x : Int32} (g : zG β n Γ cc own fr lo) (hd : decode cc pc = .ok (.i2l, 1)) (k : zV β n Γ ws (pc + 1) lv (.long x.toInt64 :: rest)) : zV β n Γ ws pc lv (.int x :: rest) := by
  obtain ⟨⟨p, e, R, s⟩, ⟨m, args, below, meth, c⟩, ⟨Q, A, nc, ns⟩⟩ := Γ
  obtain ⟨hx, hb, hml, hown, hts, hK, hlk, hA, ⟨hfr, hlo⟩, ⟨hnc, hns⟩, hE⟩ := g
  intro H locs ls hP hD hS hl
  exact lv_i2l hx hb hd rfl (k H locs ls hP hD hS hl)
theorem zv_l2i {x : Int64} (g : zG β n Γ cc own fr lo) (hd : decode cc pc = .ok (.l2i, 1)) (k : zV β n Γ ws (pc + 1) lv (.int x.toInt32 :: rest)) : zV β n Γ ws pc lv (.long x :: rest) := by
  obtain ⟨⟨p, e, R, s⟩, ⟨m, args, below, meth, c⟩, ⟨Q, A, nc, ns⟩⟩ := Γ
  obtain ⟨hx, hb, hml, hown, hts, hK, hlk, hA, ⟨hfr, hlo⟩, ⟨hnc, hns⟩, hE⟩ := g
  intro H locs ls hP hD hS hl
  exact lv_l2i hx hb hd rfl (k H locs ls hP hD hS hl)
theorem zv_i2b {x : Int32} (g : zG β n Γ cc own fr lo) (hd : decode cc pc = .ok (.i2b, 1)) (k : zV β n Γ ws (pc + 1) lv (.int x.toInt8.toInt32 :: rest)) : zV β n Γ ws pc lv (.int x :: rest) := by
  obtain ⟨⟨p, e, R, s⟩, ⟨m, args, below, meth, c⟩, ⟨Q, A, nc, ns⟩⟩ := Γ
  obtain ⟨hx, hb, hml, hown, hts, hK, hlk, hA, ⟨hfr, hlo⟩, ⟨hnc, hns⟩, hE⟩ := g
  intro H locs ls hP hD hS hl
  exact lv_i2b hx hb hd rfl (k H locs ls hP hD hS hl)
theorem zv_i2s {x : Int32} (g : zG β n Γ cc own fr lo) (hd : decode cc pc = .ok (.i2s, 1)) (k : zV β n Γ ws (pc + 1) lv (.int x.toInt16.toInt32 :: rest)) : zV β n Γ ws pc lv (.int x :: rest) := by
  obtain ⟨⟨p, e, R, s⟩, ⟨m, args, below, meth, c⟩, ⟨Q, A, nc, ns⟩⟩ := Γ
  obtain ⟨hx, hb, hml, hown, hts, hK, hlk, hA, ⟨hfr, hlo⟩, ⟨hnc, hns⟩, hE⟩ := g
  intro H locs ls hP hD hS hl
  exact lv_i2s hx hb hd rfl (k H locs ls hP hD hS hl)
theorem zv_i2c {x : Int32} (g : zG β n Γ cc own fr lo) (hd : decode cc pc = .ok (.i2c, 1)) (k : zV β n Γ ws (pc + 1) lv (.int (x.toUInt32 % 65536).toInt32 :: rest)) : zV β n Γ ws pc lv (.int x :: rest) := by
  obtain ⟨⟨p, e, R, s⟩, ⟨m, args, below, meth, c⟩, ⟨Q, A, nc, ns⟩⟩ := Γ
  obtain ⟨hx, hb, hml, hown, hts, hK, hlk, hA, ⟨hfr, hlo⟩, ⟨hnc, hns⟩, hE⟩ := g
  intro H locs ls hP hD hS hl
  exact lv_i2c hx hb hd rfl (k H locs ls hP hD hS hl)
theorem zv_dup {v : Value} (g : zG β n Γ cc own fr lo) (hd : decode cc pc = .ok (.dup, 1)) (hv : v.category = 1) (k : zV β n Γ ws (pc + 1) lv (v :: v :: rest)) : zV β n Γ ws pc lv (v :: rest) := by
  obtain ⟨⟨p, e, R, s⟩, ⟨m, args, below, meth, c⟩, ⟨Q, A, nc, ns⟩⟩ := Γ
  obtain ⟨hx, hb, hml, hown, hts, hK, hlk, hA, ⟨hfr, hlo⟩, ⟨hnc, hns⟩, hE⟩ := g
  intro H locs ls hP hD hS hl
  exact lv_dup hx hb hd hv (k H locs ls hP hD hS hl)
theorem zv_pop {v : Value} (g : zG β n Γ cc own fr lo) (hd : decode cc pc = .ok (.pop, 1)) (hv : v.category = 1) (k : zV β n Γ ws (pc + 1) lv (rest)) : zV β n Γ ws pc lv (v :: rest) := by
  obtain ⟨⟨p, e, R, s⟩, ⟨m, args, below, meth, c⟩, ⟨Q, A, nc, ns⟩⟩ := Γ
  obtain ⟨hx, hb, hml, hown, hts, hK, hlk, hA, ⟨hfr, hlo⟩, ⟨hnc, hns⟩, hE⟩ := g
  intro H locs ls hP hD hS hl
  exact lv_pop hx hb hd hv (k H locs ls hP hD hS hl)
theorem zv_dup2 {v u : Value} (g : zG β n Γ cc own fr lo) (hd : decode cc pc = .ok (.dup2, 1)) (hv : v.category = 1) (hu : u.category = 1) (k : zV β n Γ ws (pc + 1) lv (v :: u :: v :: u :: rest)) : zV β n Γ ws pc lv (v :: u :: rest) := by
  obtain ⟨⟨p, e, R, s⟩, ⟨m, args, below, meth, c⟩, ⟨Q, A, nc, ns⟩⟩ := Γ
  obtain ⟨hx, hb, hml, hown, hts, hK, hlk, hA, ⟨hfr, hlo⟩, ⟨hnc, hns⟩, hE⟩ := g
  intro H locs ls hP hD hS hl
  exact lv_dup2_11 hx hb hd hv hu (k H locs ls hP hD hS hl)
theorem zv_iload_n {i : Fin 4} {j : Nat} {x : Int32} (g : zG β n Γ cc own fr lo) (hd : decode cc pc = .ok (.iload_n i, 1)) (q : Nat) (hq : lv[q]? = some (j, .int x)) (hi : (i : Nat) = j) (k : zV β n Γ ws (pc + 1) lv (.int x :: rest)) : zV β n Γ ws pc lv rest := by
  obtain ⟨⟨p, e, R, s⟩, ⟨m, args, below, meth, c⟩, ⟨Q, A, nc, ns⟩⟩ := Γ
  obtain ⟨hx, hb, hml, hown, hts, hK, hlk, hA, ⟨hfr, hlo⟩, ⟨hnc, hns⟩, hE⟩ := g
  intro H locs ls hP hD hS hl
  exact lv_iload_n hx hb hd hi (lv_at hl q hq) (k H locs ls hP hD hS hl)
theorem zv_iload {j : Nat} {x : Int32} (g : zG β n Γ cc own fr lo) (hd : decode cc pc = .ok (.iload j, 2)) (q : Nat) (hq : lv[q]? = some (j, .int x)) (k : zV β n Γ ws (pc + 2) lv (.int x :: rest)) : zV β n Γ ws pc lv rest := by
  obtain ⟨⟨p, e, R, s⟩, ⟨m, args, below, meth, c⟩, ⟨Q, A, nc, ns⟩⟩ := Γ
  obtain ⟨hx, hb, hml, hown, hts, hK, hlk, hA, ⟨hfr, hlo⟩, ⟨hnc, hns⟩, hE⟩ := g
  intro H locs ls hP hD hS hl
  exact lv_iload hx hb hd (lv_at hl q hq) (k H locs ls hP hD hS hl)
theorem zv_lload_n {i : Fin 4} {j : Nat} {x : Int64} (g : zG β n Γ cc own fr lo) (hd : decode cc pc = .ok (.lload_n i, 1)) (q : Nat) (hq : lv[q]? = some (j, .long x)) (hi : (i : Nat) = j) (k : zV β n Γ ws (pc + 1) lv (.long x :: rest)) : zV β n Γ ws pc lv rest := by
  obtain ⟨⟨p, e, R, s⟩, ⟨m, args, below, meth, c⟩, ⟨Q, A, nc, ns⟩⟩ := Γ
  obtain ⟨hx, hb, hml, hown, hts, hK, hlk, hA, ⟨hfr, hlo⟩, ⟨hnc, hns⟩, hE⟩ := g
  intro H locs ls hP hD hS hl
  exact lv_lload_n hx hb hd hi (lv_at hl q hq) (k H locs ls hP hD hS hl)
theorem zv_lload {j : Nat} {x : Int64} (g : zG β n Γ cc own fr lo) (hd : decode cc pc = .ok (.lload j, 2)) (q : Nat) (hq : lv[q]? = some (j, .long x)) (k : zV β n Γ ws (pc + 2) lv (.long x :: rest)) : zV β n Γ ws pc lv rest := by
  obtain ⟨⟨p, e, R, s⟩, ⟨m, args, below, meth, c⟩, ⟨Q, A, nc, ns⟩⟩ := Γ
  obtain ⟨hx, hb, hml, hown, hts, hK, hlk, hA, ⟨hfr, hlo⟩, ⟨hnc, hns⟩, hE⟩ := g
  intro H locs ls hP hD hS hl
  exact lv_lload hx hb hd (lv_at hl q hq) (k H locs ls hP hD hS hl)
theorem zv_aload_n {i : Fin 4} {j : Nat} {x : Nat} (g : zG β n Γ cc own fr lo) (hd : decode cc pc = .ok (.aload_n i, 1)) (q : Nat) (hq : lv[q]? = some (j, .ref x)) (hi : (i : Nat) = j) (k : zV β n Γ ws (pc + 1) lv (.ref x :: rest)) : zV β n Γ ws pc lv rest := by
  obtain ⟨⟨p, e, R, s⟩, ⟨m, args, below, meth, c⟩, ⟨Q, A, nc, ns⟩⟩ := Γ
  obtain ⟨hx, hb, hml, hown, hts, hK, hlk, hA, ⟨hfr, hlo⟩, ⟨hnc, hns⟩, hE⟩ := g
  intro H locs ls hP hD hS hl
  exact lv_aload_n hx hb hd hi (lv_at hl q hq) (k H locs ls hP hD hS hl)
theorem zv_aload {j : Nat} {x : Nat} (g : zG β n Γ cc own fr lo) (hd : decode cc pc = .ok (.aload j, 2)) (q : Nat) (hq : lv[q]? = some (j, .ref x)) (k : zV β n Γ ws (pc + 2) lv (.ref x :: rest)) : zV β n Γ ws pc lv rest := by
  obtain ⟨⟨p, e, R, s⟩, ⟨m, args, below, meth, c⟩, ⟨Q, A, nc, ns⟩⟩ := Γ
  obtain ⟨hx, hb, hml, hown, hts, hK, hlk, hA, ⟨hfr, hlo⟩, ⟨hnc, hns⟩, hE⟩ := g
  intro H locs ls hP hD hS hl
  exact lv_aload hx hb hd (lv_at hl q hq) (k H locs ls hP hD hS hl)
theorem zv_istore_n {i : Fin 4} {x : Int32} (j : Nat) (lv2 : List (Nat × Value)) (g : zG β n Γ cc own fr lo) (hd : decode cc pc = .ok (.istore_n i, 1)) (hi : (i : Nat) = j) (hn : j < n) (hv : (j, Value.int x) :: lv.filter (fun q => !(q.1 == j) && !(q.1 + 1 == j && q.2.category == 2)) = lv2) (k : zV β n Γ ws (pc + 1) lv2 rest) : zV β n Γ ws pc lv (.int x :: rest) := by
  obtain ⟨⟨p, e, R, s⟩, ⟨m, args, below, meth, c⟩, ⟨Q, A, nc, ns⟩⟩ := Γ
  obtain ⟨hx, hb, hml, hown, hts, hK, hlk, hA, ⟨hfr, hlo⟩, ⟨hnc, hns⟩, hE⟩ := g
  intro H locs ls hP hD hS hl
  exact lv_istore_n hx hb hd hi hl hn hv (fun ls2 hl2 => k H locs ls2 hP hD hS hl2)
theorem zv_istore {x : Int32} {j : Nat} (lv2 : List (Nat × Value)) (g : zG β n Γ cc own fr lo) (hd : decode cc pc = .ok (.istore j, 2)) (hn : j < n) (hv : (j, Value.int x) :: lv.filter (fun q => !(q.1 == j) && !(q.1 + 1 == j && q.2.category == 2)) = lv2) (k : zV β n Γ ws (pc + 2) lv2 rest) : zV β n Γ ws pc lv (.int x :: rest) := by
  obtain ⟨⟨p, e, R, s⟩, ⟨m, args, below, meth, c⟩, ⟨Q, A, nc, ns⟩⟩ := Γ
  obtain ⟨hx, hb, hml, hown, hts, hK, hlk, hA, ⟨hfr, hlo⟩, ⟨hnc, hns⟩, hE⟩ := g
  intro H locs ls hP hD hS hl
  exact lv_istore hx hb hd hl hn hv (fun ls2 hl2 => k H locs ls2 hP hD hS hl2)
theorem zv_lstore_n {i : Fin 4} {x : Int64} (j : Nat) (lv2 : List (Nat × Value)) (g : zG β n Γ cc own fr lo) (hd : decode cc pc = .ok (.lstore_n i, 1)) (hi : (i : Nat) = j) (hn : j + 1 < n) (hv : (j, Value.long x) :: lv.filter (fun q => !(q.1 == j) && (!(q.1 == j + 1) && !(q.1 + 1 == j && q.2.category == 2))) = lv2) (k : zV β n Γ ws (pc + 1) lv2 rest) : zV β n Γ ws pc lv (.long x :: rest) := by
  obtain ⟨⟨p, e, R, s⟩, ⟨m, args, below, meth, c⟩, ⟨Q, A, nc, ns⟩⟩ := Γ
  obtain ⟨hx, hb, hml, hown, hts, hK, hlk, hA, ⟨hfr, hlo⟩, ⟨hnc, hns⟩, hE⟩ := g
  intro H locs ls hP hD hS hl
  exact lv_lstore_n hx hb hd hi hl hn hv (fun ls2 hl2 => k H locs ls2 hP hD hS hl2)
theorem zv_lstore {x : Int64} {j : Nat} (lv2 : List (Nat × Value)) (g : zG β n Γ cc own fr lo) (hd : decode cc pc = .ok (.lstore j, 2)) (hn : j + 1 < n) (hv : (j, Value.long x) :: lv.filter (fun q => !(q.1 == j) && (!(q.1 == j + 1) && !(q.1 + 1 == j && q.2.category == 2))) = lv2) (k : zV β n Γ ws (pc + 2) lv2 rest) : zV β n Γ ws pc lv (.long x :: rest) := by
  obtain ⟨⟨p, e, R, s⟩, ⟨m, args, below, meth, c⟩, ⟨Q, A, nc, ns⟩⟩ := Γ
  obtain ⟨hx, hb, hml, hown, hts, hK, hlk, hA, ⟨hfr, hlo⟩, ⟨hnc, hns⟩, hE⟩ := g
  intro H locs ls hP hD hS hl
  exact lv_lstore hx hb hd hl hn hv (fun ls2 hl2 => k H locs ls2 hP hD hS hl2)
theorem zv_astore_n {i : Fin 4} {x : Nat} (j : Nat) (lv2 : List (Nat × Value)) (g : zG β n Γ cc own fr lo) (hd : decode cc pc = .ok (.astore_n i, 1)) (hi : (i : Nat) = j) (hn : j < n) (hv : (j, Value.ref x) :: lv.filter (fun q => !(q.1 == j) && !(q.1 + 1 == j && q.2.category == 2)) = lv2) (k : zV β n Γ ws (pc + 1) lv2 rest) : zV β n Γ ws pc lv (.ref x :: rest) := by
  obtain ⟨⟨p, e, R, s⟩, ⟨m, args, below, meth, c⟩, ⟨Q, A, nc, ns⟩⟩ := Γ
  obtain ⟨hx, hb, hml, hown, hts, hK, hlk, hA, ⟨hfr, hlo⟩, ⟨hnc, hns⟩, hE⟩ := g
  intro H locs ls hP hD hS hl
  exact lv_astore_n hx hb hd hi hl hn hv (fun ls2 hl2 => k H locs ls2 hP hD hS hl2)
theorem zv_astore {x : Nat} {j : Nat} (lv2 : List (Nat × Value)) (g : zG β n Γ cc own fr lo) (hd : decode cc pc = .ok (.astore j, 2)) (hn : j < n) (hv : (j, Value.ref x) :: lv.filter (fun q => !(q.1 == j) && !(q.1 + 1 == j && q.2.category == 2)) = lv2) (k : zV β n Γ ws (pc + 2) lv2 rest) : zV β n Γ ws pc lv (.ref x :: rest) := by
  obtain ⟨⟨p, e, R, s⟩, ⟨m, args, below, meth, c⟩, ⟨Q, A, nc, ns⟩⟩ := Γ
  obtain ⟨hx, hb, hml, hown, hts, hK, hlk, hA, ⟨hfr, hlo⟩, ⟨hnc, hns⟩, hE⟩ := g
  intro H locs ls hP hD hS hl
  exact lv_astore hx hb hd hl hn hv (fun ls2 hl2 => k H locs ls2 hP hD hS hl2)
theorem zv_iinc {j : Nat} {z : Int} {x : Int32} (v : Int32) (lv2 : List (Nat × Value)) (g : zG β n Γ cc own fr lo) (hd : decode cc pc = .ok (.iinc j z, 3)) (q : Nat) (hq : lv[q]? = some (j, .int x)) (hz : Int32.ofInt z = v) (hn : j < n) (hv : (j, Value.int (x + v)) :: lv.filter (fun q => !(q.1 == j) && !(q.1 + 1 == j && q.2.category == 2)) = lv2) (k : zV β n Γ ws (pc + 3) lv2 rest) : zV β n Γ ws pc lv rest := by
  obtain ⟨⟨p, e, R, s⟩, ⟨m, args, below, meth, c⟩, ⟨Q, A, nc, ns⟩⟩ := Γ
  obtain ⟨hx, hb, hml, hown, hts, hK, hlk, hA, ⟨hfr, hlo⟩, ⟨hnc, hns⟩, hE⟩ := g
  intro H locs ls hP hD hS hl
  exact lv_iinc hx hb hd hl hq (by rw [hz]) hn hv (fun ls2 hl2 => k H locs ls2 hP hD hS hl2)
theorem zv_if_eq {x : Int32} (t : Nat) {z : Int} (g : zG β n Γ cc own fr lo) (hd : decode cc pc = .ok (.ifCond .eq z, 3)) (ht : (pc : Int) + z = (t : Int)) (kt : x = 0 → zV β n Γ ws t lv rest) (kf : ¬ x = 0 → zV β n Γ ws (pc + 3) lv rest) : zV β n Γ ws pc lv (.int x :: rest) := by
  obtain ⟨⟨p, e, R, s⟩, ⟨m, args, below, meth, c⟩, ⟨Q, A, nc, ns⟩⟩ := Γ
  obtain ⟨hx, hb, hml, hown, hts, hK, hlk, hA, ⟨hfr, hlo⟩, ⟨hnc, hns⟩, hE⟩ := g
  intro H locs ls hP hD hS hl
  exact lv_if_eq hx hb hd ht (fun h => kt h H locs ls hP hD hS hl) (fun h => kf h H locs ls hP hD hS hl)
theorem zv_icmp_eq {x y : Int32} (t : Nat) {z : Int} (g : zG β n Γ cc own fr lo) (hd : decode cc pc = .ok (.if_icmp .eq z, 3)) (ht : (pc : Int) + z = (t : Int)) (kt : x = y → zV β n Γ ws t lv rest) (kf : ¬ x = y → zV β n Γ ws (pc + 3) lv rest) : zV β n Γ ws pc lv (.int y :: .int x :: rest) := by
  obtain ⟨⟨p, e, R, s⟩, ⟨m, args, below, meth, c⟩, ⟨Q, A, nc, ns⟩⟩ := Γ
  obtain ⟨hx, hb, hml, hown, hts, hK, hlk, hA, ⟨hfr, hlo⟩, ⟨hnc, hns⟩, hE⟩ := g
  intro H locs ls hP hD hS hl
  exact lv_icmp_eq hx hb hd ht (fun h => kt h H locs ls hP hD hS hl) (fun h => kf h H locs ls hP hD hS hl)
theorem zv_if_ne {x : Int32} (t : Nat) {z : Int} (g : zG β n Γ cc own fr lo) (hd : decode cc pc = .ok (.ifCond .ne z, 3)) (ht : (pc : Int) + z = (t : Int)) (kt : ¬ x = 0 → zV β n Γ ws t lv rest) (kf : x = 0 → zV β n Γ ws (pc + 3) lv rest) : zV β n Γ ws pc lv (.int x :: rest) := by
  obtain ⟨⟨p, e, R, s⟩, ⟨m, args, below, meth, c⟩, ⟨Q, A, nc, ns⟩⟩ := Γ
  obtain ⟨hx, hb, hml, hown, hts, hK, hlk, hA, ⟨hfr, hlo⟩, ⟨hnc, hns⟩, hE⟩ := g
  intro H locs ls hP hD hS hl
  exact lv_if_ne hx hb hd ht (fun h => kt h H locs ls hP hD hS hl) (fun h => kf h H locs ls hP hD hS hl)
theorem zv_icmp_ne {x y : Int32} (t : Nat) {z : Int} (g : zG β n Γ cc own fr lo) (hd : decode cc pc = .ok (.if_icmp .ne z, 3)) (ht : (pc : Int) + z = (t : Int)) (kt : ¬ x = y → zV β n Γ ws t lv rest) (kf : x = y → zV β n Γ ws (pc + 3) lv rest) : zV β n Γ ws pc lv (.int y :: .int x :: rest) := by
  obtain ⟨⟨p, e, R, s⟩, ⟨m, args, below, meth, c⟩, ⟨Q, A, nc, ns⟩⟩ := Γ
  obtain ⟨hx, hb, hml, hown, hts, hK, hlk, hA, ⟨hfr, hlo⟩, ⟨hnc, hns⟩, hE⟩ := g
  intro H locs ls hP hD hS hl
  exact lv_icmp_ne hx hb hd ht (fun h => kt h H locs ls hP hD hS hl) (fun h => kf h H locs ls hP hD hS hl)
theorem zv_if_lt {x : Int32} (t : Nat) {z : Int} (g : zG β n Γ cc own fr lo) (hd : decode cc pc = .ok (.ifCond .lt z, 3)) (ht : (pc : Int) + z = (t : Int)) (kt : x < 0 → zV β n Γ ws t lv rest) (kf : ¬ x < 0 → zV β n Γ ws (pc + 3) lv rest) : zV β n Γ ws pc lv (.int x :: rest) := by
  obtain ⟨⟨p, e, R, s⟩, ⟨m, args, below, meth, c⟩, ⟨Q, A, nc, ns⟩⟩ := Γ
  obtain ⟨hx, hb, hml, hown, hts, hK, hlk, hA, ⟨hfr, hlo⟩, ⟨hnc, hns⟩, hE⟩ := g
  intro H locs ls hP hD hS hl
  exact lv_if_lt hx hb hd ht (fun h => kt h H locs ls hP hD hS hl) (fun h => kf h H locs ls hP hD hS hl)
theorem zv_icmp_lt {x y : Int32} (t : Nat) {z : Int} (g : zG β n Γ cc own fr lo) (hd : decode cc pc = .ok (.if_icmp .lt z, 3)) (ht : (pc : Int) + z = (t : Int)) (kt : x < y → zV β n Γ ws t lv rest) (kf : ¬ x < y → zV β n Γ ws (pc + 3) lv rest) : zV β n Γ ws pc lv (.int y :: .int x :: rest) := by
  obtain ⟨⟨p, e, R, s⟩, ⟨m, args, below, meth, c⟩, ⟨Q, A, nc, ns⟩⟩ := Γ
  obtain ⟨hx, hb, hml, hown, hts, hK, hlk, hA, ⟨hfr, hlo⟩, ⟨hnc, hns⟩, hE⟩ := g
  intro H locs ls hP hD hS hl
  exact lv_icmp_lt hx hb hd ht (fun h => kt h H locs ls hP hD hS hl) (fun h => kf h H locs ls hP hD hS hl)
theorem zv_if_ge {x : Int32} (t : Nat) {z : Int} (g : zG β n Γ cc own fr lo) (hd : decode cc pc = .ok (.ifCond .ge z, 3)) (ht : (pc : Int) + z = (t : Int)) (kt : 0 ≤ x → zV β n Γ ws t lv rest) (kf : ¬ 0 ≤ x → zV β n Γ ws (pc + 3) lv rest) : zV β n Γ ws pc lv (.int x :: rest) := by
  obtain ⟨⟨p, e, R, s⟩, ⟨m, args, below, meth, c⟩, ⟨Q, A, nc, ns⟩⟩ := Γ
  obtain ⟨hx, hb, hml, hown, hts, hK, hlk, hA, ⟨hfr, hlo⟩, ⟨hnc, hns⟩, hE⟩ := g
  intro H locs ls hP hD hS hl
  exact lv_if_ge hx hb hd ht (fun h => kt h H locs ls hP hD hS hl) (fun h => kf h H locs ls hP hD hS hl)
theorem zv_icmp_ge {x y : Int32} (t : Nat) {z : Int} (g : zG β n Γ cc own fr lo) (hd : decode cc pc = .ok (.if_icmp .ge z, 3)) (ht : (pc : Int) + z = (t : Int)) (kt : y ≤ x → zV β n Γ ws t lv rest) (kf : ¬ y ≤ x → zV β n Γ ws (pc + 3) lv rest) : zV β n Γ ws pc lv (.int y :: .int x :: rest) := by
  obtain ⟨⟨p, e, R, s⟩, ⟨m, args, below, meth, c⟩, ⟨Q, A, nc, ns⟩⟩ := Γ
  obtain ⟨hx, hb, hml, hown, hts, hK, hlk, hA, ⟨hfr, hlo⟩, ⟨hnc, hns⟩, hE⟩ := g
  intro H locs ls hP hD hS hl
  exact lv_icmp_ge hx hb hd ht (fun h => kt h H locs ls hP hD hS hl) (fun h => kf h H locs ls hP hD hS hl)
theorem zv_if_gt {x : Int32} (t : Nat) {z : Int} (g : zG β n Γ cc own fr lo) (hd : decode cc pc = .ok (.ifCond .gt z, 3)) (ht : (pc : Int) + z = (t : Int)) (kt : 0 < x → zV β n Γ ws t lv rest) (kf : ¬ 0 < x → zV β n Γ ws (pc + 3) lv rest) : zV β n Γ ws pc lv (.int x :: rest) := by
  obtain ⟨⟨p, e, R, s⟩, ⟨m, args, below, meth, c⟩, ⟨Q, A, nc, ns⟩⟩ := Γ
  obtain ⟨hx, hb, hml, hown, hts, hK, hlk, hA, ⟨hfr, hlo⟩, ⟨hnc, hns⟩, hE⟩ := g
  intro H locs ls hP hD hS hl
  exact lv_if_gt hx hb hd ht (fun h => kt h H locs ls hP hD hS hl) (fun h => kf h H locs ls hP hD hS hl)
theorem zv_icmp_gt {x y : Int32} (t : Nat) {z : Int} (g : zG β n Γ cc own fr lo) (hd : decode cc pc = .ok (.if_icmp .gt z, 3)) (ht : (pc : Int) + z = (t : Int)) (kt : y < x → zV β n Γ ws t lv rest) (kf : ¬ y < x → zV β n Γ ws (pc + 3) lv rest) : zV β n Γ ws pc lv (.int y :: .int x :: rest) := by
  obtain ⟨⟨p, e, R, s⟩, ⟨m, args, below, meth, c⟩, ⟨Q, A, nc, ns⟩⟩ := Γ
  obtain ⟨hx, hb, hml, hown, hts, hK, hlk, hA, ⟨hfr, hlo⟩, ⟨hnc, hns⟩, hE⟩ := g
  intro H locs ls hP hD hS hl
  exact lv_icmp_gt hx hb hd ht (fun h => kt h H locs ls hP hD hS hl) (fun h => kf h H locs ls hP hD hS hl)
theorem zv_if_le {x : Int32} (t : Nat) {z : Int} (g : zG β n Γ cc own fr lo) (hd : decode cc pc = .ok (.ifCond .le z, 3)) (ht : (pc : Int) + z = (t : Int)) (kt : x ≤ 0 → zV β n Γ ws t lv rest) (kf : ¬ x ≤ 0 → zV β n Γ ws (pc + 3) lv rest) : zV β n Γ ws pc lv (.int x :: rest) := by
  obtain ⟨⟨p, e, R, s⟩, ⟨m, args, below, meth, c⟩, ⟨Q, A, nc, ns⟩⟩ := Γ
  obtain ⟨hx, hb, hml, hown, hts, hK, hlk, hA, ⟨hfr, hlo⟩, ⟨hnc, hns⟩, hE⟩ := g
  intro H locs ls hP hD hS hl
  exact lv_if_le hx hb hd ht (fun h => kt h H locs ls hP hD hS hl) (fun h => kf h H locs ls hP hD hS hl)
theorem zv_icmp_le {x y : Int32} (t : Nat) {z : Int} (g : zG β n Γ cc own fr lo) (hd : decode cc pc = .ok (.if_icmp .le z, 3)) (ht : (pc : Int) + z = (t : Int)) (kt : x ≤ y → zV β n Γ ws t lv rest) (kf : ¬ x ≤ y → zV β n Γ ws (pc + 3) lv rest) : zV β n Γ ws pc lv (.int y :: .int x :: rest) := by
  obtain ⟨⟨p, e, R, s⟩, ⟨m, args, below, meth, c⟩, ⟨Q, A, nc, ns⟩⟩ := Γ
  obtain ⟨hx, hb, hml, hown, hts, hK, hlk, hA, ⟨hfr, hlo⟩, ⟨hnc, hns⟩, hE⟩ := g
  intro H locs ls hP hD hS hl
  exact lv_icmp_le hx hb hd ht (fun h => kt h H locs ls hP hD hS hl) (fun h => kf h H locs ls hP hD hS hl)
theorem zv_tblIn {x : Int32} (k0 : Int32) (t : Nat) {dflt lo0 hi0 off : Int} {offs : Array Int} {len : Nat} (g : zG β n Γ cc own fr lo) (hd : decode cc pc = .ok (.tableswitch dflt lo0 hi0 offs, len)) (hxk : x = k0) (h1 : ¬ k0.toInt < lo0) (h2 : ¬ hi0 < k0.toInt) (ho : offs[(k0.toInt - lo0).toNat]? = some off) (ht : (pc : Int) + off = (t : Int)) (k : zV β n Γ ws t lv rest) : zV β n Γ ws pc lv (.int x :: rest) := by
  subst hxk
  obtain ⟨⟨p, e, R, s⟩, ⟨m, args, below, meth, c⟩, ⟨Q, A, nc, ns⟩⟩ := Γ
  obtain ⟨hx, hb, hml, hown, hts, hK, hlk, hA, ⟨hfr, hlo⟩, ⟨hnc, hns⟩, hE⟩ := g
  intro H locs ls hP hD hS hl
  exact lv_tableIn hx hb hd h1 h2 ho ht (k H locs ls hP hD hS hl)
theorem zv_tblOut {x : Int32} (t : Nat) {dflt lo0 hi0 : Int} {offs : Array Int} {len : Nat} (g : zG β n Γ cc own fr lo) (hd : decode cc pc = .ok (.tableswitch dflt lo0 hi0 offs, len)) (h : x.toInt < lo0 ∨ hi0 < x.toInt) (ht : (pc : Int) + dflt = (t : Int)) (k : zV β n Γ ws t lv rest) : zV β n Γ ws pc lv (.int x :: rest) := by
  obtain ⟨⟨p, e, R, s⟩, ⟨m, args, below, meth, c⟩, ⟨Q, A, nc, ns⟩⟩ := Γ
  obtain ⟨hx, hb, hml, hown, hts, hK, hlk, hA, ⟨hfr, hlo⟩, ⟨hnc, hns⟩, hE⟩ := g
  intro H locs ls hP hD hS hl
  exact lv_tableOut hx hb hd h ht (k H locs ls hP hD hS hl)
theorem zv_lkp {x : Int32} (t : Nat) {dflt off : Int} {ps : Array (Int × Int)} {len : Nat} (g : zG β n Γ cc own fr lo) (hd : decode cc pc = .ok (.lookupswitch dflt ps, len)) (hp : (ps.toList.zip (ps.toList.drop 1)).all (fun (a, next) => a.1 < next.1) = true) (ho : Op.lookupswitch.offset ps.toList dflt x.toInt = off) (ht : (pc : Int) + off = (t : Int)) (k : zV β n Γ ws t lv rest) : zV β n Γ ws pc lv (.int x :: rest) := by
  obtain ⟨⟨p, e, R, s⟩, ⟨m, args, below, meth, c⟩, ⟨Q, A, nc, ns⟩⟩ := Γ
  obtain ⟨hx, hb, hml, hown, hts, hK, hlk, hA, ⟨hfr, hlo⟩, ⟨hnc, hns⟩, hE⟩ := g
  intro H locs ls hP hD hS hl
  exact lv_lookup hx hb hd hp ho ht (k H locs ls hP hD hS hl)
theorem zv_goto (t : Nat) (g : zG β n Γ cc own fr lo) {z : Int} (hd : decode cc pc = .ok (.goto z, 3)) (ht : (pc : Int) + z = (t : Int)) (k : zV β n Γ ws t lv rest) : zV β n Γ ws pc lv rest := by
  obtain ⟨⟨p, e, R, s⟩, ⟨m, args, below, meth, c⟩, ⟨Q, A, nc, ns⟩⟩ := Γ
  obtain ⟨hx, hb, hml, hown, hts, hK, hlk, hA, ⟨hfr, hlo⟩, ⟨hnc, hns⟩, hE⟩ := g
  intro H locs ls hP hD hS hl
  exact lv_goto hx hb hd ht (k H locs ls hP hD hS hl)
theorem zv_ldc {i : Nat} {v : Int32} (g : zG β n Γ cc own fr lo) (hw : Cond.constant own i v ∈ zT) (hd : decode cc pc = .ok (.ldc i, 2)) (k : zV β n Γ ws (pc + 2) lv (.int v :: rest)) : zV β n Γ ws pc lv rest := by
  obtain ⟨⟨p, e, R, s⟩, ⟨m, args, below, meth, c⟩, ⟨Q, A, nc, ns⟩⟩ := Γ
  obtain ⟨hx, hb, hml, hown, hts, hK, hlk, hA, ⟨hfr, hlo⟩, ⟨hnc, hns⟩, hE⟩ := g
  intro H locs ls hP hD hS hl
  exact lv_ldc hx hb hown (hts _ hw) hd (k H locs ls hP hD hS hl)
theorem zv_ldcw {i : Nat} {v : Int32} (g : zG β n Γ cc own fr lo) (hw : Cond.constant own i v ∈ zT) (hd : decode cc pc = .ok (.ldc_w i, 3)) (k : zV β n Γ ws (pc + 3) lv (.int v :: rest)) : zV β n Γ ws pc lv rest := by
  obtain ⟨⟨p, e, R, s⟩, ⟨m, args, below, meth, c⟩, ⟨Q, A, nc, ns⟩⟩ := Γ
  obtain ⟨hx, hb, hml, hown, hts, hK, hlk, hA, ⟨hfr, hlo⟩, ⟨hnc, hns⟩, hE⟩ := g
  intro H locs ls hP hD hS hl
  exact lv_ldcw hx hb hown (hts _ hw) hd (k H locs ls hP hD hS hl)
theorem zv_ldc2 {i : Nat} {v : Int64} (g : zG β n Γ cc own fr lo) (hw : Cond.constantLong own i v ∈ zT) (hd : decode cc pc = .ok (.ldc2_w i, 3)) (k : zV β n Γ ws (pc + 3) lv (.long v :: rest)) : zV β n Γ ws pc lv rest := by
  obtain ⟨⟨p, e, R, s⟩, ⟨m, args, below, meth, c⟩, ⟨Q, A, nc, ns⟩⟩ := Γ
  obtain ⟨hx, hb, hml, hown, hts, hK, hlk, hA, ⟨hfr, hlo⟩, ⟨hnc, hns⟩, hE⟩ := g
  intro H locs ls hP hD hS hl
  exact lv_ldc2 hx hb hown (hts _ hw) hd (k H locs ls hP hD hS hl)
theorem zv_topi {x : Int32} (k : ∀ y : Int32, y = x → zV β n Γ ws pc lv (.int y :: rest)) : zV β n Γ ws pc lv (.int x :: rest) := k x rfl
theorem zv_topl {x : Int64} (k : ∀ y : Int64, y = x → zV β n Γ ws pc lv (.long y :: rest)) : zV β n Γ ws pc lv (.long x :: rest) := k x rfl
theorem zv_sub (ks : List Nat) {lv2 : List (Nat × Value)} (hk : lv_pick lv ks = lv2) (k : zV β n Γ ws pc lv2 rest) : zV β n Γ ws pc lv rest := by
  obtain ⟨⟨p, e, R, s⟩, ⟨m, args, below, meth, c⟩, ⟨Q, A, nc, ns⟩⟩ := Γ
  intro H locs ls hP hD hS hl
  exact k H locs ls hP hD hS (lv_sub hl ks hk)
theorem zv_perm {ws2 : va_W} (hp : ws.Perm ws2) (k : zV β n Γ ws2 pc lv rest) : zV β n Γ ws pc lv rest := by
  obtain ⟨⟨p, e, R, s⟩, ⟨m, args, below, meth, c⟩, ⟨Q, A, nc, ns⟩⟩ := Γ
  intro H locs ls hP hD hS hl
  exact k H locs ls (zz_Pp hp hP) (zz_Dp hp hD) hS hl
/-- a field that class own names by i: field k of class ci -/
def zz_FL (own : String) (i ci k : Nat) (C : String) (T : u_T) (N : Nat) : Prop := (∀ w ∈ u_ws C T N, w ∈ zT) ∧ vwCl[ci]? = some (C, T, N) ∧ k < N ∧ Cond.fieldLink own i (T k).1 (T k).2.1 (T k).2.2.1 ∈ zT
def zz_FP (own : String) (i ci k : Nat) (C : String) (T : u_T) (N : Nat) (ty : Nat → FieldType) : Prop := zz_FL own i ci k C T N ∧ (∀ k, k < N → parseFieldDescriptor (T k).2.2.1 = some (ty k)) ∧ (∀ a, a < N → ∀ b, b < N → a ≠ b → (T a).2.1 ≠ (T b).2.1) ∧ (T k).2.2.2 = false
theorem zv_get {C : String} {T : u_T} {N i ci k a : Nat} {fs : List Value} {v : Value} (g : zG β n Γ cc own fr lo) (hF : zz_FL own i ci k C T N) (q : Nat) (he : ws[q]? = some (a, .inr (ci, fs))) (hv : fs[k]? = some v) (hd : decode cc pc = .ok (.getfield i, 3)) (kk : zV β n Γ ws (pc + 3) lv (v :: rest)) : zV β n Γ ws pc lv (.ref a :: rest) := by
  obtain ⟨⟨p, e, R, s⟩, ⟨m, args, below, meth, c⟩, ⟨Q, A, nc, ns⟩⟩ := Γ
  obtain ⟨hx, hb, hml, hown, hts, hK, hlk, hA, ⟨hfr, hlo⟩, ⟨hnc, hns⟩, hE⟩ := g
  intro H locs ls hP hD hS hl
  exact va_get (D := β.2.1) (cl := vwCl) hx hb hts hF.1 hown hK hP q he hF.2.1 k hF.2.2.1 (hts _ hF.2.2.2) (fun _ h9 => h9) hv hd (kk H locs ls hP hD hS hl)
theorem zv_put {C : String} {T : u_T} {N i ci k a : Nat} {ty : Nat → FieldType} {fs : List Value} {v : Value} (ws2 : va_W) (g : zG β n Γ cc own fr lo) (hF : zz_FP own i ci k C T N ty) (q : Nat) (he : ws[q]? = some (a, .inr (ci, fs))) (hn : narrow (ty k) v = v) (hfit : fits (ty k) v = true) (hl0 : k < fs.length) (hw : ws.set q (a, .inr (ci, fs.set k v)) = ws2) (hd : decode cc pc = .ok (.putfield i, 3)) (kk : zV β n Γ ws2 (pc + 3) lv rest) : zV β n Γ ws pc lv (v :: .ref a :: rest) := by
  obtain ⟨⟨p, e, R, s⟩, ⟨m, args, below, meth, c⟩, ⟨Q, A, nc, ns⟩⟩ := Γ
  obtain ⟨hx, hb, hml, hown, hts, hK, hlk, hA, ⟨hfr, hlo⟩, ⟨hnc, hns⟩, hE⟩ := g
  intro H locs ls hP hD hS hl
  exact va_put (D := β.2.1) (cl := vwCl) hx hb hts hF.1.1 ty hF.2.1 hF.2.2.1 hown hK hP hD hS q he hF.1.2.1 k hF.1.2.2.1 (hts _ hF.1.2.2.2) (fun _ h9 => h9) hF.2.2.2 (hF.2.1 k hF.1.2.2.1) hn hfit hl0 hd (fun H1 locs1 hP1 hD1 hS1 => kk H1 locs1 ls (hw ▸ hP1) (hw ▸ hD1) hS1 hl)
theorem zv_iald {a N : Nat} {f : Nat → Int32} {i : Int32} (g : zG β n Γ cc own fr lo) (q : Nat) (ha : ws[q]? = some (a, .inl (β.2.2.1.1, N, .inl f))) (hin : vp_in i N) (hd : decode cc pc = .ok (.iaload, 1)) (k : zV β n Γ ws (pc + 1) lv (.int (f i.toNatClampNeg) :: rest)) : zV β n Γ ws pc lv (.int i :: .ref a :: rest) := by
  obtain ⟨⟨p, e, R, s⟩, ⟨m, args, below, meth, c⟩, ⟨Q, A, nc, ns⟩⟩ := Γ
  obtain ⟨hx, hb, hml, hown, hts, hK, hlk, hA, ⟨hfr, hlo⟩, ⟨hnc, hns⟩, hE⟩ := g
  intro H locs ls hP hD hS hl
  exact va_iald (D := β.2.1) (cl := vwCl) hx hb hK hP q 0 ha rfl hin hd (k H locs ls hP hD hS hl)
theorem zv_ials {a N : Nat} {f : Nat → Int32} {i : Int32} {x : Int32} (ws2 : va_W) (g : zG β n Γ cc own fr lo) (q : Nat) (ha : ws[q]? = some (a, .inl (β.2.2.1.1, N, .inl f))) (hin : vp_in i N) (hw : ws.set q (a, .inl (β.2.2.1.1, N, .inl (upd f i.toNatClampNeg x))) = ws2) (hd : decode cc pc = .ok (.iastore, 1)) (k : zV β n Γ ws2 (pc + 1) lv rest) : zV β n Γ ws pc lv (.int x :: .int i :: .ref a :: rest) := by
  obtain ⟨⟨p, e, R, s⟩, ⟨m, args, below, meth, c⟩, ⟨Q, A, nc, ns⟩⟩ := Γ
  obtain ⟨hx, hb, hml, hown, hts, hK, hlk, hA, ⟨hfr, hlo⟩, ⟨hnc, hns⟩, hE⟩ := g
  intro H locs ls hP hD hS hl
  exact va_iast (D := β.2.1) (cl := vwCl) hx hb hK hP hD hS q 0 ha rfl hin hd (fun H1 locs1 hP1 hD1 hS1 => k H1 locs1 ls (hw ▸ hP1) (hw ▸ hD1) hS1 hl)
theorem zv_lald {a N : Nat} {f : Nat → Int64} {i : Int32} (g : zG β n Γ cc own fr lo) (q : Nat) (ha : ws[q]? = some (a, .inl (β.2.2.1.2.1, N, .inr (.inl f)))) (hin : vp_in i N) (hd : decode cc pc = .ok (.laload, 1)) (k : zV β n Γ ws (pc + 1) lv (.long (f i.toNatClampNeg) :: rest)) : zV β n Γ ws pc lv (.int i :: .ref a :: rest) := by
  obtain ⟨⟨p, e, R, s⟩, ⟨m, args, below, meth, c⟩, ⟨Q, A, nc, ns⟩⟩ := Γ
  obtain ⟨hx, hb, hml, hown, hts, hK, hlk, hA, ⟨hfr, hlo⟩, ⟨hnc, hns⟩, hE⟩ := g
  intro H locs ls hP hD hS hl
  exact va_lald (D := β.2.1) (cl := vwCl) hx hb hK hP q 1 ha rfl hin hd (k H locs ls hP hD hS hl)
theorem zv_lals {a N : Nat} {f : Nat → Int64} {i : Int32} {x : Int64} (ws2 : va_W) (g : zG β n Γ cc own fr lo) (q : Nat) (ha : ws[q]? = some (a, .inl (β.2.2.1.2.1, N, .inr (.inl f)))) (hin : vp_in i N) (hw : ws.set q (a, .inl (β.2.2.1.2.1, N, .inr (.inl (vp_updL f i.toNatClampNeg x)))) = ws2) (hd : decode cc pc = .ok (.lastore, 1)) (k : zV β n Γ ws2 (pc + 1) lv rest) : zV β n Γ ws pc lv (.long x :: .int i :: .ref a :: rest) := by
  obtain ⟨⟨p, e, R, s⟩, ⟨m, args, below, meth, c⟩, ⟨Q, A, nc, ns⟩⟩ := Γ
  obtain ⟨hx, hb, hml, hown, hts, hK, hlk, hA, ⟨hfr, hlo⟩, ⟨hnc, hns⟩, hE⟩ := g
  intro H locs ls hP hD hS hl
  exact va_last (D := β.2.1) (cl := vwCl) hx hb hK hP hD hS q 1 ha rfl hin hd (fun H1 locs1 hP1 hD1 hS1 => k H1 locs1 ls (hw ▸ hP1) (hw ▸ hD1) hS1 hl)
theorem zv_aald {a N : Nat} {f : Nat → Option Nat} {i : Int32} (g : zG β n Γ cc own fr lo) (q : Nat) (ha : ws[q]? = some (a, .inl (β.2.2.1.2.2, N, .inr (.inr (.inr (.inr f)))))) (hin : vp_in i N) (hd : decode cc pc = .ok (.aaload, 1)) (k : zV β n Γ ws (pc + 1) lv (va_rf (f i.toNatClampNeg) :: rest)) : zV β n Γ ws pc lv (.int i :: .ref a :: rest) := by
  obtain ⟨⟨p, e, R, s⟩, ⟨m, args, below, meth, c⟩, ⟨Q, A, nc, ns⟩⟩ := Γ
  obtain ⟨hx, hb, hml, hown, hts, hK, hlk, hA, ⟨hfr, hlo⟩, ⟨hnc, hns⟩, hE⟩ := g
  intro H locs ls hP hD hS hl
  exact va_aldq (D := β.2.1) (cl := vwCl) (C := "DusterRounds$Sheet") hx hb hK hP q 2 ha rfl hin hd (k H locs ls hP hD hS hl)
theorem zv_ifnull {x : Nat} {z : Int} (g : zG β n Γ cc own fr lo) (hd : decode cc pc = .ok (.ifnull z, 3)) (k : zV β n Γ ws (pc + 3) lv rest) : zV β n Γ ws pc lv (.ref x :: rest) := by
  obtain ⟨⟨p, e, R, s⟩, ⟨m, args, below, meth, c⟩, ⟨Q, A, nc, ns⟩⟩ := Γ
  obtain ⟨hx, hb, hml, hown, hts, hK, hlk, hA, ⟨hfr, hlo⟩, ⟨hnc, hns⟩, hE⟩ := g
  intro H locs ls hP hD hS hl
  exact lv_ifnull hx hb hd (k H locs ls hP hD hS hl)
theorem zv_ifnullN (t : Nat) {z : Int} (g : zG β n Γ cc own fr lo) (hd : decode cc pc = .ok (.ifnull z, 3)) (ht : (pc : Int) + z = (t : Int)) (k : zV β n Γ ws t lv rest) : zV β n Γ ws pc lv (.null :: rest) := by
  obtain ⟨⟨p, e, R, s⟩, ⟨m, args, below, meth, c⟩, ⟨Q, A, nc, ns⟩⟩ := Γ
  obtain ⟨hx, hb, hml, hown, hts, hK, hlk, hA, ⟨hfr, hlo⟩, ⟨hnc, hns⟩, hE⟩ := g
  intro H locs ls hP hD hS hl
  exact lv_ifnullN hx hb hd ht (k H locs ls hP hD hS hl)
theorem zv_ifnonnull (t : Nat) {x : Nat} {z : Int} (g : zG β n Γ cc own fr lo) (hd : decode cc pc = .ok (.ifnonnull z, 3)) (ht : (pc : Int) + z = (t : Int)) (k : zV β n Γ ws t lv rest) : zV β n Γ ws pc lv (.ref x :: rest) := by
  obtain ⟨⟨p, e, R, s⟩, ⟨m, args, below, meth, c⟩, ⟨Q, A, nc, ns⟩⟩ := Γ
  obtain ⟨hx, hb, hml, hown, hts, hK, hlk, hA, ⟨hfr, hlo⟩, ⟨hnc, hns⟩, hE⟩ := g
  intro H locs ls hP hD hS hl
  exact lv_ifnonnull hx hb hd ht (k H locs ls hP hD hS hl)
theorem zv_ifnonnullN {z : Int} (g : zG β n Γ cc own fr lo) (hd : decode cc pc = .ok (.ifnonnull z, 3)) (k : zV β n Γ ws (pc + 3) lv rest) : zV β n Γ ws pc lv (.null :: rest) := by
  obtain ⟨⟨p, e, R, s⟩, ⟨m, args, below, meth, c⟩, ⟨Q, A, nc, ns⟩⟩ := Γ
  obtain ⟨hx, hb, hml, hown, hts, hK, hlk, hA, ⟨hfr, hlo⟩, ⟨hnc, hns⟩, hE⟩ := g
  intro H locs ls hP hD hS hl
  exact lv_ifnonnullN hx hb hd (k H locs ls hP hD hS hl)
theorem zv_null (g : zG β n Γ cc own fr lo) (hd : decode cc pc = .ok (.aconst_null, 1)) (k : zV β n Γ ws (pc + 1) lv (.null :: rest)) : zV β n Γ ws pc lv rest := by
  obtain ⟨⟨p, e, R, s⟩, ⟨m, args, below, meth, c⟩, ⟨Q, A, nc, ns⟩⟩ := Γ
  obtain ⟨hx, hb, hml, hown, hts, hK, hlk, hA, ⟨hfr, hlo⟩, ⟨hnc, hns⟩, hE⟩ := g
  intro H locs ls hP hD hS hl
  exact lv_null hx hb hd (k H locs ls hP hD hS hl)
theorem zv_aload_nN {i : Fin 4} {j : Nat} (g : zG β n Γ cc own fr lo) (hd : decode cc pc = .ok (.aload_n i, 1)) (q : Nat) (hq : lv[q]? = some (j, .null)) (hi : (i : Nat) = j) (k : zV β n Γ ws (pc + 1) lv (.null :: rest)) : zV β n Γ ws pc lv rest := by
  obtain ⟨⟨p, e, R, s⟩, ⟨m, args, below, meth, c⟩, ⟨Q, A, nc, ns⟩⟩ := Γ
  obtain ⟨hx, hb, hml, hown, hts, hK, hlk, hA, ⟨hfr, hlo⟩, ⟨hnc, hns⟩, hE⟩ := g
  intro H locs ls hP hD hS hl
  exact lv_aload_nN hx hb hd hi (lv_at hl q hq) (k H locs ls hP hD hS hl)
theorem zv_aloadN {j : Nat} (g : zG β n Γ cc own fr lo) (hd : decode cc pc = .ok (.aload j, 2)) (q : Nat) (hq : lv[q]? = some (j, .null)) (k : zV β n Γ ws (pc + 2) lv (.null :: rest)) : zV β n Γ ws pc lv rest := by
  obtain ⟨⟨p, e, R, s⟩, ⟨m, args, below, meth, c⟩, ⟨Q, A, nc, ns⟩⟩ := Γ
  obtain ⟨hx, hb, hml, hown, hts, hK, hlk, hA, ⟨hfr, hlo⟩, ⟨hnc, hns⟩, hE⟩ := g
  intro H locs ls hP hD hS hl
  exact lv_aloadN hx hb hd (lv_at hl q hq) (k H locs ls hP hD hS hl)
theorem zv_astore_nN {i : Fin 4} (j : Nat) (lv2 : List (Nat × Value)) (g : zG β n Γ cc own fr lo) (hd : decode cc pc = .ok (.astore_n i, 1)) (hi : (i : Nat) = j) (hn : j < n) (hv : (j, Value.null) :: lv.filter (fun q => !(q.1 == j) && !(q.1 + 1 == j && q.2.category == 2)) = lv2) (k : zV β n Γ ws (pc + 1) lv2 rest) : zV β n Γ ws pc lv (.null :: rest) := by
  obtain ⟨⟨p, e, R, s⟩, ⟨m, args, below, meth, c⟩, ⟨Q, A, nc, ns⟩⟩ := Γ
  obtain ⟨hx, hb, hml, hown, hts, hK, hlk, hA, ⟨hfr, hlo⟩, ⟨hnc, hns⟩, hE⟩ := g
  intro H locs ls hP hD hS hl
  exact lv_astore_nN hx hb hd hi hl hn hv (fun ls2 hl2 => k H locs ls2 hP hD hS hl2)
theorem zv_astoreN {j : Nat} (lv2 : List (Nat × Value)) (g : zG β n Γ cc own fr lo) (hd : decode cc pc = .ok (.astore j, 2)) (hn : j < n) (hv : (j, Value.null) :: lv.filter (fun q => !(q.1 == j) && !(q.1 + 1 == j && q.2.category == 2)) = lv2) (k : zV β n Γ ws (pc + 2) lv2 rest) : zV β n Γ ws pc lv (.null :: rest) := by
  obtain ⟨⟨p, e, R, s⟩, ⟨m, args, below, meth, c⟩, ⟨Q, A, nc, ns⟩⟩ := Γ
  obtain ⟨hx, hb, hml, hown, hts, hK, hlk, hA, ⟨hfr, hlo⟩, ⟨hnc, hns⟩, hE⟩ := g
  intro H locs ls hP hD hS hl
  exact lv_astoreN hx hb hd hl hn hv (fun ls2 hl2 => k H locs ls2 hP hD hS hl2)
theorem zv_nmS {σ : Type} {wf : σ → va_W} {S : σ} (k : ∀ T : σ, T = S → zV β n Γ (wf T) pc lv rest) : zV β n Γ (wf S) pc lv rest := k S rfl
theorem zv_iret {v : Int32} {post : Option Value → va_W → Prop} (g : zG β n Γ cc own fr lo) (hR : zR β Γ (some .int) post) (hd : decode cc pc = .ok (.ireturn, 1)) (hp : post (some (.int v)) ws) : zV β n Γ ws pc lv [.int v] := by
  obtain ⟨⟨p, e, R, s⟩, ⟨m, args, below, meth, c⟩, ⟨Q, A, nc, ns⟩⟩ := Γ
  obtain ⟨hx, hb, hml, hown, hts, hK, hlk, hA, ⟨hfr, hlo⟩, ⟨hnc, hns⟩, hE⟩ := g
  intro H locs ls hP hD hS hl
  obtain ⟨hQ, hr⟩ := hR
  subst hQ
  exact W.iret hx hb hr (fun t ht hW => ⟨⟨_, ws, rfl, hp, by rw [ht]; exact hP, hD⟩, hS.F ht⟩) hS.2.2 hd hlk
theorem zv_zret {v : Int32} {ty : FieldType} {post : Option Value → va_W → Prop} (g : zG β n Γ cc own fr lo) (hR : zR β Γ (some ty) post) (hn : narrow ty (.int v) = .int v) (hd : decode cc pc = .ok (.ireturn, 1)) (hp : post (some (.int v)) ws) : zV β n Γ ws pc lv [.int v] := by
  obtain ⟨⟨p, e, R, s⟩, ⟨m, args, below, meth, c⟩, ⟨Q, A, nc, ns⟩⟩ := Γ
  obtain ⟨hx, hb, hml, hown, hts, hK, hlk, hA, ⟨hfr, hlo⟩, ⟨hnc, hns⟩, hE⟩ := g
  intro H locs ls hP hD hS hl
  obtain ⟨hQ, hr⟩ := hR
  subst hQ
  exact W.zret hx hb hr hn (fun t ht hW => ⟨⟨_, ws, rfl, hp, by rw [ht]; exact hP, hD⟩, hS.F ht⟩) hS.2.2 hd hlk
theorem zv_lret {v : Int64} {post : Option Value → va_W → Prop} (g : zG β n Γ cc own fr lo) (hR : zR β Γ (some .long) post) (hd : decode cc pc = .ok (.lreturn, 1)) (hp : post (some (.long v)) ws) : zV β n Γ ws pc lv [.long v] := by
  obtain ⟨⟨p, e, R, s⟩, ⟨m, args, below, meth, c⟩, ⟨Q, A, nc, ns⟩⟩ := Γ
  obtain ⟨hx, hb, hml, hown, hts, hK, hlk, hA, ⟨hfr, hlo⟩, ⟨hnc, hns⟩, hE⟩ := g
  intro H locs ls hP hD hS hl
  obtain ⟨hQ, hr⟩ := hR
  subst hQ
  exact W.lret hx hb hr (fun t ht hW => ⟨⟨_, ws, rfl, hp, by rw [ht]; exact hP, hD⟩, hS.F ht⟩) hS.2.2 hd hlk
theorem zv_vret {post : Option Value → va_W → Prop} (g : zG β n Γ cc own fr lo) (hR : zR β Γ none post) (hd : decode cc pc = .ok (.return_, 1)) (hp : post none ws) : zV β n Γ ws pc lv [] := by
  obtain ⟨⟨p, e, R, s⟩, ⟨m, args, below, meth, c⟩, ⟨Q, A, nc, ns⟩⟩ := Γ
  obtain ⟨hx, hb, hml, hown, hts, hK, hlk, hA, ⟨hfr, hlo⟩, ⟨hnc, hns⟩, hE⟩ := g
  intro H locs ls hP hD hS hl
  obtain ⟨hQ, hr⟩ := hR
  subst hQ
  exact W.vret hx hb hr (fun t ht hW => ⟨⟨_, ws, rfl, hp, by rw [ht]; exact hP, hD⟩, hS.F ht⟩) hS.2.2 hd hlk
theorem zv_aret {v : Value} {rt : FieldType} {post : Option Value → va_W → Prop} (g : zG β n Γ cc own fr lo) (hR : zR β Γ (some rt) post) (hrt : (∃ n, rt = .object n) ∨ ∃ t, rt = .array t) (hv : v = .null ∨ ∃ a, v = .ref a) (hd : decode cc pc = .ok (.areturn, 1)) (hp : post (some (v)) ws) : zV β n Γ ws pc lv [v] := by
  obtain ⟨⟨p, e, R, s⟩, ⟨m, args, below, meth, c⟩, ⟨Q, A, nc, ns⟩⟩ := Γ
  obtain ⟨hx, hb, hml, hown, hts, hK, hlk, hA, ⟨hfr, hlo⟩, ⟨hnc, hns⟩, hE⟩ := g
  intro H locs ls hP hD hS hl
  obtain ⟨hQ, hr⟩ := hR
  subst hQ
  exact W.aret hx hb hr hrt hv (fun t ht hW => ⟨⟨_, ws, rfl, hp, by rw [ht]; exact hP, hD⟩, hS.F ht⟩) hS.2.2 hd hlk
/-- a call by a class own at i of method y -/
def zz_CB (own : String) (i : Nat) (y : MethodName) (b : ByteArray) (nl : Nat) (ret : Option FieldType) (np : Nat) : Prop := Cond.methodLink own i y ∈ zT ∧ Cond.initialized y.cls ∈ zT ∧ Cond.code y b nl ret ∈ zT ∧ (y.cls ≠ "java/lang/invoke/MethodHandle" ∧ y.cls ≠ "java/lang/invoke/VarHandle" ∧ (parseMethodDescriptor y.desc).map (fun d => d.parameters.length) = some np)
def zz_CV (own : String) (i : Nat) (y : MethodName) (b : ByteArray) (nl : Nat) (ret : Option FieldType) (np : Nat) : Prop := zz_CB own i y b nl ret np ∧ Cond.instanceMethod y ∈ zT ∧ Cond.selects y.cls y y ∈ zT
def zz_CS (own : String) (i : Nat) (y : MethodName) (b : ByteArray) (nl : Nat) (ret : Option FieldType) (np : Nat) : Prop := zz_CB own i y b nl ret np ∧ Cond.static y ∈ zT
theorem zz_callB {i : Nat} {y : MethodName} {b : ByteArray} {nl np : Nat} {ret : Option FieldType} {R : Room} {s : State} {args : Array Value} {fr2 lo2 : Nat} (hts : ∀ w ∈ zT, w.before args s = true) (h : zz_CB own i y b nl ret np) (hfr : fr2 + 1 ≤ R.frames) (hlo : 8 + (nl + 11) + lo2 ≤ R.locals) : CallB R s args own i y b nl ret (.code y b nl ret :: zT) (zrm fr2 lo2) 0 0 np :=
  callB_of (Ts := zT) np hts (fun w hw => by
    rcases List.mem_cons.mp hw with rfl | hw
    · exact ⟨h.2.2.1, zT_good h.2.2.1⟩
    · exact ⟨hw, zT_good hw⟩) rfl rfl rfl (hts _ h.2.1) (hts _ h.1) h.2.2.2 ⟨hfr, hlo⟩
theorem zz_pre {z : zz_Z} {A : Nat → Prop} {s U : State} {H : Heap} {locs : List Loc} {av : List Value} {wc suf : va_W} (hU : U.heap = H) (hW : s.WarmedH U.vm) (hK : va_K z.1 vwCl (zz_tys z.2.1) s) (hP : va_P z.1 vwCl (wc ++ suf) H) (hD : va_D A (wc ++ suf)) (hS : va_S A s.heap H locs) (hA : ∀ q, s.heap.size ≤ q → A q) (hE : zz_E z A s s.heap) : zPc z av wc H.size av.toArray U := by
  refine ⟨rfl, by rw [hU], ?_, va_K.moved hW.alike hK, ?_, ?_⟩
  · rw [hU]
    exact zz_Pm.mpr fun q hq => zz_Pm.mp hP q (List.mem_append_left _ hq)
  · have h1 := zz_Dm.mp hD
    refine zz_Dm.mpr ⟨?_, fun _ _ => trivial⟩
    have h2 := h1.1
    rw [List.map_append, List.nodup_append] at h2
    exact h2.1
  · rw [hU]
    exact ((hE.kept hS.2.1).narrow (zz_freeA hD hS hA)).warm hW
theorem zz_back {z : zz_Z} {A : Nat → Prop} {p : Program} {l : Launch} {e : Env} {R : Room} {s : State} {m : MethodId} {args : Array Value} {below : List Frame} {meth : Method} {c : Code} {H : Heap} {locs : List Loc} {nc ns : Nat} {Q : State → Prop} {ls : Array Slot} {st : List Value} {a : Array Value} {post : Option Value → va_W → Prop} {wc suf : va_W} {n : Nat} {β : zz_B} (hz : β = (l, z))
    (hr : va_Run p l e R s m args below meth c H locs nc ns 0 0 (F0 m pc ls st) rest (zQ z post (va_A wc H.size) a) (va_A wc H.size)) (hP : va_P z.1 vwCl (wc ++ suf) H) (hD : va_D A (wc ++ suf)) (hS : va_S A s.heap H locs) (hA : ∀ q, s.heap.size ≤ q → A q) (hl : lv_has ls n lv)
    (kk : ∀ (r : Option Value) (w : va_W), post r w → zV β n ((p, e, R, s), (m, args, below, meth, c), (Q, A, nc, ns)) (w ++ suf) (pc + 3) lv (r.toList ++ rest)) : W p l e R s m args below meth c H locs nc ns Q (F0 m pc ls st) := by
  subst hz
  intro T hT X
  obtain ⟨v, st₀, t, T', L, h0, X', hL, e1, e2, ⟨⟨r, w, hv, hp, hP1, hD1⟩, hzz, hk⟩, stp⟩ := hr T hT X
  cases hv
  rw [h0] at hzz hk
  have hF := zz_freeA hD hS hA
  obtain ⟨hP2, hD2⟩ := zz_frame (H1 := T'.heap) hP hD (fun q h1 h2 => by rw [e1]; exact hk q h1 h2) hF (by rw [e1]; exact hP1) hD1
  obtain ⟨t2, a1, b1⟩ := kk v w hp T'.heap (locs ++ L) ls hP2 hD2
    ⟨Nat.le_trans hS.1 (by rw [e1]; exact hzz), fun q h1 h2 => by rw [e1, hk q (Nat.lt_of_lt_of_le h1 hS.1) (fun z => h2 (hF q z))]; exact hS.2.1 q h1 h2, fun q hq => by
      rcases List.mem_append.mp hq with h | h
      · exact hS.2.2 q h
      · exact hF _ (hL q h)⟩ hl T' rfl X'
  exact ⟨t2, stp t2 a1, b1⟩
theorem zv_callV {i : Nat} {y : MethodName} {b : ByteArray} {nl np fr2 lo2 : Nat} {ret : Option FieldType} {b0 : Nat} {As st : List Value} {wc suf : va_W} {post : Option Value → va_W → Prop} (g : zG β n Γ cc own fr lo) (hw : zz_CV own i y b nl ret np) (hc : zC β y b nl ret fr2 lo2 (.ref b0 :: As) wc post) (hfr : fr2 + 1 ≤ fr) (hlo : 8 + (nl + 11) + lo2 ≤ lo) (hp : ws.Perm (wc ++ suf))
    {q ci : Nat} {fs : List Value} {qc : vw_C} (he : wc[q]? = some (b0, .inr (ci, fs))) (hcl : vwCl[ci]? = some qc) (hcy : y.cls = qc.1) (hn : As.length = np) (hst : st = As.reverse ++ .ref b0 :: rest) (hrs : (rest.map fun v => v.category).sum ≤ 8) (hd : decode cc pc = .ok (.invokevirtual i, 3))
    (kk : ∀ (r : Option Value) (w : va_W), post r w → zV β n Γ (w ++ suf) (pc + 3) lv (r.toList ++ rest)) : zV β n Γ ws pc lv st := by
  refine zv_perm hp ?_
  obtain ⟨l, z⟩ := β
  obtain ⟨⟨p, e, R, s⟩, ⟨m, args, below, meth, c⟩, ⟨Q, A, nc, ns⟩⟩ := Γ
  obtain ⟨hx, hb, hml, hown, hts, hK, hlk, hA, ⟨hfr0, hlo0⟩, ⟨hnc, hns⟩, hE⟩ := g
  intro H locs ls hP hD hS hl
  have hPc : va_P z.1 vwCl wc H := zz_Pm.mpr fun q hq => zz_Pm.mp hP q (List.mem_append_left _ hq)
  refine zz_back (z := z) (post := post) (wc := wc) (suf := suf) (a := (Value.ref b0 :: As).toArray) rfl ?_ hP hD hS hA hl kk
  exact va_runV (C := y.cls) (As := As) (rest := rest) (n := np) (bytes := b) (maxL := nl) (ret := ret) ⟨hx, hb, hml, hown, hts⟩ (hc H.size) ⟨zz_callB hts hw.1 (Nat.le_trans hfr hfr0) (Nat.le_trans hlo hlo0), hts _ hw.2.1, hts _ hw.2.2⟩
    ⟨zPc.blind, by rw [hcy]; exact va_recv hK hPc hcl he, fun U hU hW => zz_pre hU hW hK hP hD hS hA hE⟩ rfl hn hl.1 hst (lv_room hrs) hd ⟨hnc, hns⟩
theorem zv_callS {i : Nat} {y : MethodName} {b : ByteArray} {nl np fr2 lo2 : Nat} {ret : Option FieldType} {As st : List Value} {wc suf : va_W} {post : Option Value → va_W → Prop} (g : zG β n Γ cc own fr lo) (hw : zz_CS own i y b nl ret np) (hc : zC β y b nl ret fr2 lo2 As wc post) (hfr : fr2 + 1 ≤ fr) (hlo : 8 + (nl + 11) + lo2 ≤ lo) (hp : ws.Perm (wc ++ suf))
    (hn : As.length = np) (hst : st = As.reverse ++ rest) (hrs : (rest.map fun v => v.category).sum ≤ 8) (hd : decode cc pc = .ok (.invokestatic i, 3))
    (kk : ∀ (r : Option Value) (w : va_W), post r w → zV β n Γ (w ++ suf) (pc + 3) lv (r.toList ++ rest)) : zV β n Γ ws pc lv st := by
  refine zv_perm hp ?_
  obtain ⟨l, z⟩ := β
  obtain ⟨⟨p, e, R, s⟩, ⟨m, args, below, meth, c⟩, ⟨Q, A, nc, ns⟩⟩ := Γ
  obtain ⟨hx, hb, hml, hown, hts, hK, hlk, hA, ⟨hfr0, hlo0⟩, ⟨hnc, hns⟩, hE⟩ := g
  intro H locs ls hP hD hS hl
  refine zz_back (z := z) (post := post) (wc := wc) (suf := suf) (a := As.toArray) rfl ?_ hP hD hS hA hl kk
  exact va_runS (As := As) (rest := rest) (n := np) (bytes := b) (maxL := nl) (ret := ret) ⟨hx, hb, hml, hown, hts⟩ (hc H.size) ⟨zz_callB hts hw.1 (Nat.le_trans hfr hfr0) (Nat.le_trans hlo hlo0), hts _ hw.2⟩
    ⟨zPc.blind, fun U hU hW => zz_pre hU hW hK hP hD hS hA hE⟩ rfl hn hl.1 hst (lv_room hrs) hd ⟨hnc, hns⟩
def zz_CM (own : String) (i : Nat) (y : MethodName) (b : ByteArray) : Prop := Cond.methodLink own i y ∈ zT ∧ Cond.static y ∈ zT ∧ Cond.initialized "java/lang/Math" ∈ zT ∧ Cond.code y b 2 (some .int) ∈ zT
theorem zv_min {i : Nat} {x y : Int32} (g : zG β n Γ cc own fr lo) (hw : zz_CM own i Lib.Math.min.name Lib.Math.min.code) (hfr1 : 1 ≤ fr) (hlo1 : 21 ≤ lo) (hrs : (rest.map fun v => v.category).sum ≤ 8) (hd : decode cc pc = .ok (.invokestatic i, 3)) (k : zV β n Γ ws (pc + 3) lv (.int (if y < x then y else x) :: rest)) : zV β n Γ ws pc lv (.int y :: .int x :: rest) := by
  obtain ⟨⟨p, e, R, s⟩, ⟨m, args, below, meth, c⟩, ⟨Q, A, nc, ns⟩⟩ := Γ
  obtain ⟨hx, hb, hml, hown, hts, hK, hlk, hA, ⟨hfr, hlo⟩, ⟨hnc, hns⟩, hE⟩ := g
  intro H locs ls hP hD hS hl
  exact va_mmin hx hb (by rw [hml]; exact hl.1.symm) hown (hts _ hw.1) (hts _ hw.2.1) (hts _ hw.2.2.1) (hts _ hw.2.2.2) (Nat.le_trans hfr1 hfr) (by omega) hnc hns hd (k H locs ls hP hD hS hl)
theorem zv_max {i : Nat} {x y : Int32} (g : zG β n Γ cc own fr lo) (hw : zz_CM own i Lib.Math.max.name Lib.Math.max.code) (hfr1 : 1 ≤ fr) (hlo1 : 21 ≤ lo) (hrs : (rest.map fun v => v.category).sum ≤ 8) (hd : decode cc pc = .ok (.invokestatic i, 3)) (k : zV β n Γ ws (pc + 3) lv (.int (if x < y then y else x) :: rest)) : zV β n Γ ws pc lv (.int y :: .int x :: rest) := by
  obtain ⟨⟨p, e, R, s⟩, ⟨m, args, below, meth, c⟩, ⟨Q, A, nc, ns⟩⟩ := Γ
  obtain ⟨hx, hb, hml, hown, hts, hK, hlk, hA, ⟨hfr, hlo⟩, ⟨hnc, hns⟩, hE⟩ := g
  intro H locs ls hP hD hS hl
  exact va_mmax hx hb (by rw [hml]; exact hl.1.symm) hown (hts _ hw.1) (hts _ hw.2.1) (hts _ hw.2.2.1) (hts _ hw.2.2.2) (Nat.le_trans hfr1 hfr) (by omega) hnc hns hd (k H locs ls hP hD hS hl)
def zz_CA (own : String) (i : Nat) : Prop := Cond.methodLink own i arraycopyName ∈ zT ∧ Cond.native arraycopyName ∈ zT ∧ Cond.static arraycopyName ∈ zT ∧ Cond.initialized "java/lang/System" ∈ zT
theorem zv_copyi {i : Nat} {a0 a n0 n1 : Nat} {f h : Nat → Int32} {sp dp m0 : Int32} (ws2 : va_W) (g : zG β n Γ cc own fr lo) (hw : zz_CA own i) (q0 q1 : Nat) (ha0 : ws[q0]? = some (a0, .inl (β.2.2.1.1, n0, .inl f))) (ha1 : ws[q1]? = some (a, .inl (β.2.2.1.1, n1, .inl h))) (h1 : ¬ sp < 0) (h2 : ¬ dp < 0) (h3 : ¬ m0 < 0) (h4 : sp.toNatClampNeg + m0.toNatClampNeg ≤ n0) (h5 : dp.toNatClampNeg + m0.toNatClampNeg ≤ n1) (hw2 : ws.set q1 (a, .inl (β.2.2.1.1, n1, .inl (va_cpy f h sp.toNatClampNeg dp.toNatClampNeg m0.toNatClampNeg))) = ws2) (hfr1 : 1 ≤ fr) (hlo1 : 60 ≤ lo) (hrs : (rest.map fun v => v.category).sum ≤ 8) (hd : decode cc pc = .ok (.invokestatic i, 3)) (k : zV β n Γ ws2 (pc + 3) lv rest) : zV β n Γ ws pc lv (.int m0 :: .int dp :: .ref a :: .int sp :: .ref a0 :: rest) := by
  obtain ⟨⟨p, e, R, s⟩, ⟨m, args, below, meth, c⟩, ⟨Q, A, nc, ns⟩⟩ := Γ
  obtain ⟨hx, hb, hml, hown, hts, hK, hlk, hA, ⟨hfr, hlo⟩, ⟨hnc, hns⟩, hE⟩ := g
  intro H locs ls hP hD hS hl
  exact va_copyi (D := β.2.1) (cl := vwCl) (ty := .int) hx hb (by rw [hml]; exact hl.1.symm) hown (hts _ hw.1) (hts _ hw.2.1) (hts _ hw.2.2.1) (hts _ hw.2.2.2) hK hP hD hS q0 q1 0 0 ha0 ha1 rfl rfl rfl h1 h2 h3 h4 h5 (fun _ _ => rfl) (Nat.le_trans hfr1 hfr) (Nat.le_trans (Nat.add_le_add_right hrs _) (Nat.le_trans (by decide) (Nat.le_trans hlo1 hlo))) hd (fun H1 locs1 hP1 hD1 hS1 => k H1 locs1 ls (hw2 ▸ hP1) (hw2 ▸ hD1) hS1 hl)
theorem zv_copyl {i : Nat} {a0 a n0 n1 : Nat} {f h : Nat → Int64} {sp dp m0 : Int32} (ws2 : va_W) (g : zG β n Γ cc own fr lo) (hw : zz_CA own i) (q0 q1 : Nat) (ha0 : ws[q0]? = some (a0, .inl (β.2.2.1.2.1, n0, .inr (.inl f)))) (ha1 : ws[q1]? = some (a, .inl (β.2.2.1.2.1, n1, .inr (.inl h)))) (h1 : ¬ sp < 0) (h2 : ¬ dp < 0) (h3 : ¬ m0 < 0) (h4 : sp.toNatClampNeg + m0.toNatClampNeg ≤ n0) (h5 : dp.toNatClampNeg + m0.toNatClampNeg ≤ n1) (hw2 : ws.set q1 (a, .inl (β.2.2.1.2.1, n1, .inr (.inl (va_cpy f h sp.toNatClampNeg dp.toNatClampNeg m0.toNatClampNeg)))) = ws2) (hfr1 : 1 ≤ fr) (hlo1 : 60 ≤ lo) (hrs : (rest.map fun v => v.category).sum ≤ 8) (hd : decode cc pc = .ok (.invokestatic i, 3)) (k : zV β n Γ ws2 (pc + 3) lv rest) : zV β n Γ ws pc lv (.int m0 :: .int dp :: .ref a :: .int sp :: .ref a0 :: rest) := by
  obtain ⟨⟨p, e, R, s⟩, ⟨m, args, below, meth, c⟩, ⟨Q, A, nc, ns⟩⟩ := Γ
  obtain ⟨hx, hb, hml, hown, hts, hK, hlk, hA, ⟨hfr, hlo⟩, ⟨hnc, hns⟩, hE⟩ := g
  intro H locs ls hP hD hS hl
  exact va_copyl (D := β.2.1) (cl := vwCl) (ty := .long) hx hb (by rw [hml]; exact hl.1.symm) hown (hts _ hw.1) (hts _ hw.2.1) (hts _ hw.2.2.1) (hts _ hw.2.2.2) hK hP hD hS q0 q1 1 1 ha0 ha1 rfl rfl rfl h1 h2 h3 h4 h5 (fun _ _ => rfl) (Nat.le_trans hfr1 hfr) (Nat.le_trans (Nat.add_le_add_right hrs _) (Nat.le_trans (by decide) (Nat.le_trans hlo1 hlo))) hd (fun H1 locs1 hP1 hD1 hS1 => k H1 locs1 ls (hw2 ▸ hP1) (hw2 ▸ hD1) hS1 hl)
def zCi (β : zz_B) (y : MethodName) (b : ByteArray) (nl : Nat) (ret : Option FieldType) (fr lo : Nat) (av : List Value) {σ : Type} (wf : σ → va_W) (S : σ) (post : Int32 → σ → Prop) : Prop := zC β y b nl ret fr lo av (wf S) (fun r w => ∃ (v : Int32) (T : σ), r = some (.int v) ∧ w = wf T ∧ post v T)
def zCl (β : zz_B) (y : MethodName) (b : ByteArray) (nl : Nat) (ret : Option FieldType) (fr lo : Nat) (av : List Value) {σ : Type} (wf : σ → va_W) (S : σ) (post : Int64 → σ → Prop) : Prop := zC β y b nl ret fr lo av (wf S) (fun r w => ∃ (v : Int64) (T : σ), r = some (.long v) ∧ w = wf T ∧ post v T)
def zCv (β : zz_B) (y : MethodName) (b : ByteArray) (nl : Nat) (ret : Option FieldType) (fr lo : Nat) (av : List Value) {σ : Type} (wf : σ → va_W) (S : σ) (post : σ → Prop) : Prop := zC β y b nl ret fr lo av (wf S) (fun r w => ∃ T : σ, r = none ∧ w = wf T ∧ post T)
def zCp (β : zz_B) (y : MethodName) (b : ByteArray) (nl : Nat) (ret : Option FieldType) (fr lo : Nat) (av : List Value) (ws : va_W) (post : Int32 → Prop) : Prop := zC β y b nl ret fr lo av ws (fun r w => ∃ v : Int32, r = some (.int v) ∧ w = ws ∧ post v)
def zCq (β : zz_B) (y : MethodName) (b : ByteArray) (nl : Nat) (ret : Option FieldType) (fr lo : Nat) (av : List Value) (ws : va_W) (post : Int64 → Prop) : Prop := zC β y b nl ret fr lo av ws (fun r w => ∃ v : Int64, r = some (.long v) ∧ w = ws ∧ post v)
def zCr (β : zz_B) (y : MethodName) (b : ByteArray) (nl : Nat) (ret : Option FieldType) (fr lo : Nat) (av : List Value) (ws : va_W) {τ : Type} (vf : τ → Value) (post : τ → Prop) : Prop := zC β y b nl ret fr lo av ws (fun r w => ∃ v : τ, r = some (vf v) ∧ w = ws ∧ post v)
theorem zz_p0 {ws : va_W} : ws.Perm (ws ++ []) := by rw [List.append_nil]
theorem zz_p1 {σ : Type} {wf : σ → va_W} (T : σ) : (wf T ++ []).Perm (wf T) := by rw [List.append_nil]
theorem zz_pN {ws : va_W} : ws.Perm ([] ++ ws) := List.Perm.refl _
theorem zz_nb {v : Int32} (h : v = 0 ∨ v = 1) : narrow .boolean (.int v) = .int v ∧ fits .boolean (.int v) = true := by rcases h with rfl | rfl <;> decide
theorem zv_cVi {i : Nat} {y : MethodName} {b : ByteArray} {nl np fr2 lo2 : Nat} {ret : Option FieldType} {b0 : Nat} {As st : List Value} {σ : Type} {wf : σ → va_W} {S : σ} {suf : va_W} {post : Int32 → σ → Prop} (g : zG β n Γ cc own fr lo) (hw : zz_CV own i y b nl ret np) (hc : zCi β y b nl ret fr2 lo2 (.ref b0 :: As) wf S post) (hfr : fr2 + 1 ≤ fr) (hlo : 8 + (nl + 11) + lo2 ≤ lo) (hp : ws.Perm (wf S ++ suf)) (wb : σ → va_W) (hb : ∀ T, (wf T ++ suf).Perm (wb T)) {q ci : Nat} {fs : List Value} {qc : vw_C} (he : (wf S)[q]? = some (b0, .inr (ci, fs))) (hcl : vwCl[ci]? = some qc) (hcy : y.cls = qc.1) (hn : As.length = np) (hst : st = As.reverse ++ .ref b0 :: rest) (hrs : (rest.map fun v => v.category).sum ≤ 8) (hd : decode cc pc = .ok (.invokevirtual i, 3)) (kk : ∀ (v : Int32) (T : σ), post v T → zV β n Γ (wb T) (pc + 3) lv (.int v :: rest)) : zV β n Γ ws pc lv st :=
  zv_callV g hw hc hfr hlo hp he hcl hcy hn hst hrs hd (fun r w ⟨v, T, e1, e2, h⟩ => by subst e1; subst e2; exact zv_perm (hb T) (kk v T h))
theorem zv_cSi {i : Nat} {y : MethodName} {b : ByteArray} {nl np fr2 lo2 : Nat} {ret : Option FieldType} {As st : List Value} {σ : Type} {wf : σ → va_W} {S : σ} {suf : va_W} {post : Int32 → σ → Prop} (g : zG β n Γ cc own fr lo) (hw : zz_CS own i y b nl ret np) (hc : zCi β y b nl ret fr2 lo2 As wf S post) (hfr : fr2 + 1 ≤ fr) (hlo : 8 + (nl + 11) + lo2 ≤ lo) (hp : ws.Perm (wf S ++ suf)) (wb : σ → va_W) (hb : ∀ T, (wf T ++ suf).Perm (wb T)) (hn : As.length = np) (hst : st = As.reverse ++ rest) (hrs : (rest.map fun v => v.category).sum ≤ 8) (hd : decode cc pc = .ok (.invokestatic i, 3)) (kk : ∀ (v : Int32) (T : σ), post v T → zV β n Γ (wb T) (pc + 3) lv (.int v :: rest)) : zV β n Γ ws pc lv st :=
  zv_callS g hw hc hfr hlo hp hn hst hrs hd (fun r w ⟨v, T, e1, e2, h⟩ => by subst e1; subst e2; exact zv_perm (hb T) (kk v T h))
theorem zv_cVl {i : Nat} {y : MethodName} {b : ByteArray} {nl np fr2 lo2 : Nat} {ret : Option FieldType} {b0 : Nat} {As st : List Value} {σ : Type} {wf : σ → va_W} {S : σ} {suf : va_W} {post : Int64 → σ → Prop} (g : zG β n Γ cc own fr lo) (hw : zz_CV own i y b nl ret np) (hc : zCl β y b nl ret fr2 lo2 (.ref b0 :: As) wf S post) (hfr : fr2 + 1 ≤ fr) (hlo : 8 + (nl + 11) + lo2 ≤ lo) (hp : ws.Perm (wf S ++ suf)) (wb : σ → va_W) (hb : ∀ T, (wf T ++ suf).Perm (wb T)) {q ci : Nat} {fs : List Value} {qc : vw_C} (he : (wf S)[q]? = some (b0, .inr (ci, fs))) (hcl : vwCl[ci]? = some qc) (hcy : y.cls = qc.1) (hn : As.length = np) (hst : st = As.reverse ++ .ref b0 :: rest) (hrs : (rest.map fun v => v.category).sum ≤ 8) (hd : decode cc pc = .ok (.invokevirtual i, 3)) (kk : ∀ (v : Int64) (T : σ), post v T → zV β n Γ (wb T) (pc + 3) lv (.long v :: rest)) : zV β n Γ ws pc lv st :=
  zv_callV g hw hc hfr hlo hp he hcl hcy hn hst hrs hd (fun r w ⟨v, T, e1, e2, h⟩ => by subst e1; subst e2; exact zv_perm (hb T) (kk v T h))
theorem zv_cSl {i : Nat} {y : MethodName} {b : ByteArray} {nl np fr2 lo2 : Nat} {ret : Option FieldType} {As st : List Value} {σ : Type} {wf : σ → va_W} {S : σ} {suf : va_W} {post : Int64 → σ → Prop} (g : zG β n Γ cc own fr lo) (hw : zz_CS own i y b nl ret np) (hc : zCl β y b nl ret fr2 lo2 As wf S post) (hfr : fr2 + 1 ≤ fr) (hlo : 8 + (nl + 11) + lo2 ≤ lo) (hp : ws.Perm (wf S ++ suf)) (wb : σ → va_W) (hb : ∀ T, (wf T ++ suf).Perm (wb T)) (hn : As.length = np) (hst : st = As.reverse ++ rest) (hrs : (rest.map fun v => v.category).sum ≤ 8) (hd : decode cc pc = .ok (.invokestatic i, 3)) (kk : ∀ (v : Int64) (T : σ), post v T → zV β n Γ (wb T) (pc + 3) lv (.long v :: rest)) : zV β n Γ ws pc lv st :=
  zv_callS g hw hc hfr hlo hp hn hst hrs hd (fun r w ⟨v, T, e1, e2, h⟩ => by subst e1; subst e2; exact zv_perm (hb T) (kk v T h))
theorem zv_cVv {i : Nat} {y : MethodName} {b : ByteArray} {nl np fr2 lo2 : Nat} {ret : Option FieldType} {b0 : Nat} {As st : List Value} {σ : Type} {wf : σ → va_W} {S : σ} {suf : va_W} {post : σ → Prop} (g : zG β n Γ cc own fr lo) (hw : zz_CV own i y b nl ret np) (hc : zCv β y b nl ret fr2 lo2 (.ref b0 :: As) wf S post) (hfr : fr2 + 1 ≤ fr) (hlo : 8 + (nl + 11) + lo2 ≤ lo) (hp : ws.Perm (wf S ++ suf)) (wb : σ → va_W) (hb : ∀ T, (wf T ++ suf).Perm (wb T)) {q ci : Nat} {fs : List Value} {qc : vw_C} (he : (wf S)[q]? = some (b0, .inr (ci, fs))) (hcl : vwCl[ci]? = some qc) (hcy : y.cls = qc.1) (hn : As.length = np) (hst : st = As.reverse ++ .ref b0 :: rest) (hrs : (rest.map fun v => v.category).sum ≤ 8) (hd : decode cc pc = .ok (.invokevirtual i, 3)) (kk : ∀ (T : σ), post T → zV β n Γ (wb T) (pc + 3) lv (rest)) : zV β n Γ ws pc lv st :=
  zv_callV g hw hc hfr hlo hp he hcl hcy hn hst hrs hd (fun r w ⟨T, e1, e2, h⟩ => by subst e1; subst e2; exact zv_perm (hb T) (kk T h))
theorem zv_cSv {i : Nat} {y : MethodName} {b : ByteArray} {nl np fr2 lo2 : Nat} {ret : Option FieldType} {As st : List Value} {σ : Type} {wf : σ → va_W} {S : σ} {suf : va_W} {post : σ → Prop} (g : zG β n Γ cc own fr lo) (hw : zz_CS own i y b nl ret np) (hc : zCv β y b nl ret fr2 lo2 As wf S post) (hfr : fr2 + 1 ≤ fr) (hlo : 8 + (nl + 11) + lo2 ≤ lo) (hp : ws.Perm (wf S ++ suf)) (wb : σ → va_W) (hb : ∀ T, (wf T ++ suf).Perm (wb T)) (hn : As.length = np) (hst : st = As.reverse ++ rest) (hrs : (rest.map fun v => v.category).sum ≤ 8) (hd : decode cc pc = .ok (.invokestatic i, 3)) (kk : ∀ (T : σ), post T → zV β n Γ (wb T) (pc + 3) lv (rest)) : zV β n Γ ws pc lv st :=
  zv_callS g hw hc hfr hlo hp hn hst hrs hd (fun r w ⟨T, e1, e2, h⟩ => by subst e1; subst e2; exact zv_perm (hb T) (kk T h))
theorem zv_cVp {i : Nat} {y : MethodName} {b : ByteArray} {nl np fr2 lo2 : Nat} {ret : Option FieldType} {b0 : Nat} {As st : List Value} {wc suf : va_W} {post : Int32 → Prop} (g : zG β n Γ cc own fr lo) (hw : zz_CV own i y b nl ret np) (hc : zCp β y b nl ret fr2 lo2 (.ref b0 :: As) wc post) (hfr : fr2 + 1 ≤ fr) (hlo : 8 + (nl + 11) + lo2 ≤ lo) (hp : ws.Perm (wc ++ suf)) {q ci : Nat} {fs : List Value} {qc : vw_C} (he : wc[q]? = some (b0, .inr (ci, fs))) (hcl : vwCl[ci]? = some qc) (hcy : y.cls = qc.1) (hn : As.length = np) (hst : st = As.reverse ++ .ref b0 :: rest) (hrs : (rest.map fun v => v.category).sum ≤ 8) (hd : decode cc pc = .ok (.invokevirtual i, 3)) (kk : ∀ (v : Int32), post v → zV β n Γ ws (pc + 3) lv (.int v :: rest)) : zV β n Γ ws pc lv st :=
  zv_callV g hw hc hfr hlo hp he hcl hcy hn hst hrs hd (fun r w ⟨v, e1, e2, h⟩ => by subst e1; subst e2; exact zv_perm hp.symm (kk v h))
theorem zv_cSp {i : Nat} {y : MethodName} {b : ByteArray} {nl np fr2 lo2 : Nat} {ret : Option FieldType} {As st : List Value} {wc suf : va_W} {post : Int32 → Prop} (g : zG β n Γ cc own fr lo) (hw : zz_CS own i y b nl ret np) (hc : zCp β y b nl ret fr2 lo2 As wc post) (hfr : fr2 + 1 ≤ fr) (hlo : 8 + (nl + 11) + lo2 ≤ lo) (hp : ws.Perm (wc ++ suf)) (hn : As.length = np) (hst : st = As.reverse ++ rest) (hrs : (rest.map fun v => v.category).sum ≤ 8) (hd : decode cc pc = .ok (.invokestatic i, 3)) (kk : ∀ (v : Int32), post v → zV β n Γ ws (pc + 3) lv (.int v :: rest)) : zV β n Γ ws pc lv st :=
  zv_callS g hw hc hfr hlo hp hn hst hrs hd (fun r w ⟨v, e1, e2, h⟩ => by subst e1; subst e2; exact zv_perm hp.symm (kk v h))
theorem zv_cVq {i : Nat} {y : MethodName} {b : ByteArray} {nl np fr2 lo2 : Nat} {ret : Option FieldType} {b0 : Nat} {As st : List Value} {wc suf : va_W} {post : Int64 → Prop} (g : zG β n Γ cc own fr lo) (hw : zz_CV own i y b nl ret np) (hc : zCq β y b nl ret fr2 lo2 (.ref b0 :: As) wc post) (hfr : fr2 + 1 ≤ fr) (hlo : 8 + (nl + 11) + lo2 ≤ lo) (hp : ws.Perm (wc ++ suf)) {q ci : Nat} {fs : List Value} {qc : vw_C} (he : wc[q]? = some (b0, .inr (ci, fs))) (hcl : vwCl[ci]? = some qc) (hcy : y.cls = qc.1) (hn : As.length = np) (hst : st = As.reverse ++ .ref b0 :: rest) (hrs : (rest.map fun v => v.category).sum ≤ 8) (hd : decode cc pc = .ok (.invokevirtual i, 3)) (kk : ∀ (v : Int64), post v → zV β n Γ ws (pc + 3) lv (.long v :: rest)) : zV β n Γ ws pc lv st :=
  zv_callV g hw hc hfr hlo hp he hcl hcy hn hst hrs hd (fun r w ⟨v, e1, e2, h⟩ => by subst e1; subst e2; exact zv_perm hp.symm (kk v h))
theorem zv_cSq {i : Nat} {y : MethodName} {b : ByteArray} {nl np fr2 lo2 : Nat} {ret : Option FieldType} {As st : List Value} {wc suf : va_W} {post : Int64 → Prop} (g : zG β n Γ cc own fr lo) (hw : zz_CS own i y b nl ret np) (hc : zCq β y b nl ret fr2 lo2 As wc post) (hfr : fr2 + 1 ≤ fr) (hlo : 8 + (nl + 11) + lo2 ≤ lo) (hp : ws.Perm (wc ++ suf)) (hn : As.length = np) (hst : st = As.reverse ++ rest) (hrs : (rest.map fun v => v.category).sum ≤ 8) (hd : decode cc pc = .ok (.invokestatic i, 3)) (kk : ∀ (v : Int64), post v → zV β n Γ ws (pc + 3) lv (.long v :: rest)) : zV β n Γ ws pc lv st :=
  zv_callS g hw hc hfr hlo hp hn hst hrs hd (fun r w ⟨v, e1, e2, h⟩ => by subst e1; subst e2; exact zv_perm hp.symm (kk v h))
theorem zv_cVr {i : Nat} {y : MethodName} {b : ByteArray} {nl np fr2 lo2 : Nat} {ret : Option FieldType} {τ : Type} {vf : τ → Value} {b0 : Nat} {As st : List Value} {wc suf : va_W} {post : τ → Prop} (g : zG β n Γ cc own fr lo) (hw : zz_CV own i y b nl ret np) (hc : zCr β y b nl ret fr2 lo2 (.ref b0 :: As) wc vf post) (hfr : fr2 + 1 ≤ fr) (hlo : 8 + (nl + 11) + lo2 ≤ lo) (hp : ws.Perm (wc ++ suf)) {q ci : Nat} {fs : List Value} {qc : vw_C} (he : wc[q]? = some (b0, .inr (ci, fs))) (hcl : vwCl[ci]? = some qc) (hcy : y.cls = qc.1) (hn : As.length = np) (hst : st = As.reverse ++ .ref b0 :: rest) (hrs : (rest.map fun v => v.category).sum ≤ 8) (hd : decode cc pc = .ok (.invokevirtual i, 3)) (kk : ∀ (v : τ), post v → zV β n Γ ws (pc + 3) lv (vf v :: rest)) : zV β n Γ ws pc lv st :=
  zv_callV g hw hc hfr hlo hp he hcl hcy hn hst hrs hd (fun r w ⟨v, e1, e2, h⟩ => by subst e1; subst e2; exact zv_perm hp.symm (kk v h))
theorem zv_cSr {i : Nat} {y : MethodName} {b : ByteArray} {nl np fr2 lo2 : Nat} {ret : Option FieldType} {τ : Type} {vf : τ → Value} {As st : List Value} {wc suf : va_W} {post : τ → Prop} (g : zG β n Γ cc own fr lo) (hw : zz_CS own i y b nl ret np) (hc : zCr β y b nl ret fr2 lo2 As wc vf post) (hfr : fr2 + 1 ≤ fr) (hlo : 8 + (nl + 11) + lo2 ≤ lo) (hp : ws.Perm (wc ++ suf)) (hn : As.length = np) (hst : st = As.reverse ++ rest) (hrs : (rest.map fun v => v.category).sum ≤ 8) (hd : decode cc pc = .ok (.invokestatic i, 3)) (kk : ∀ (v : τ), post v → zV β n Γ ws (pc + 3) lv (vf v :: rest)) : zV β n Γ ws pc lv st :=
  zv_callS g hw hc hfr hlo hp hn hst hrs hd (fun r w ⟨v, e1, e2, h⟩ => by subst e1; subst e2; exact zv_perm hp.symm (kk v h))
end ZRows

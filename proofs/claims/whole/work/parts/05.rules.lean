section QR
variable {Γ : q_G} {cc : ByteArray} {own : String} {sz cells slots : Nat} {h : q_H} {lv lv' : List (Nat × Value)} {st : List Value} {pc : Nat}

theorem q_iconst (C : q_C Γ cc own) {n : Int} {v : Int32} (hv : Int32.ofInt n = v) (hd : decode cc pc = .ok (.iconst n, 1)) (k : q_V Γ sz cells slots h lv (.int v :: st) (pc + 1)) : q_V Γ sz cells slots h lv st pc := by
  obtain ⟨⟨p, l, e, R, s, m, args, below, meth, c⟩, Q, base, nL, D, tc⟩ := Γ
  obtain ⟨hx, hb, hml, hown, hts, hK, hbs, hS0⟩ := C
  intro H locs ls hR hS hl
  exact lv_iconst hx hb hd hv (k H locs ls hR hS hl)

theorem q_bipush (C : q_C Γ cc own) {n : Int} {v : Int32} (hv : (Int8.ofInt n).toInt32 = v) (hd : decode cc pc = .ok (.bipush n, 2)) (k : q_V Γ sz cells slots h lv (.int v :: st) (pc + 2)) : q_V Γ sz cells slots h lv st pc := by
  obtain ⟨⟨p, l, e, R, s, m, args, below, meth, c⟩, Q, base, nL, D, tc⟩ := Γ
  obtain ⟨hx, hb, hml, hown, hts, hK, hbs, hS0⟩ := C
  intro H locs ls hR hS hl
  exact lv_bipush hx hb hd hv (k H locs ls hR hS hl)

theorem q_sipush (C : q_C Γ cc own) {n : Int} {v : Int32} (hv : (Int16.ofInt n).toInt32 = v) (hd : decode cc pc = .ok (.sipush n, 3)) (k : q_V Γ sz cells slots h lv (.int v :: st) (pc + 3)) : q_V Γ sz cells slots h lv st pc := by
  obtain ⟨⟨p, l, e, R, s, m, args, below, meth, c⟩, Q, base, nL, D, tc⟩ := Γ
  obtain ⟨hx, hb, hml, hown, hts, hK, hbs, hS0⟩ := C
  intro H locs ls hR hS hl
  exact lv_sipush hx hb hd hv (k H locs ls hR hS hl)

theorem q_lconst (C : q_C Γ cc own) {n : Fin 2} {v : Int64} (hv : Int64.ofNat (n : Nat) = v) (hd : decode cc pc = .ok (.lconst n, 1)) (k : q_V Γ sz cells slots h lv (.long v :: st) (pc + 1)) : q_V Γ sz cells slots h lv st pc := by
  obtain ⟨⟨p, l, e, R, s, m, args, below, meth, c⟩, Q, base, nL, D, tc⟩ := Γ
  obtain ⟨hx, hb, hml, hown, hts, hK, hbs, hS0⟩ := C
  intro H locs ls hR hS hl
  exact lv_lconst hx hb hd hv (k H locs ls hR hS hl)

theorem q_ldc (C : q_C Γ cc own) {idx : Nat} {v : Int32} (hw : Cond.constant own idx v ∈ q_T) (hd : decode cc pc = .ok (.ldc idx, 2)) (k : q_V Γ sz cells slots h lv (.int v :: st) (pc + 2)) : q_V Γ sz cells slots h lv st pc := by
  obtain ⟨⟨p, l, e, R, s, m, args, below, meth, c⟩, Q, base, nL, D, tc⟩ := Γ
  obtain ⟨hx, hb, hml, hown, hts, hK, hbs, hS0⟩ := C
  intro H locs ls hR hS hl
  exact lv_ldc hx hb hown (hts _ hw) hd (k H locs ls hR hS hl)

theorem q_ldc2 (C : q_C Γ cc own) {idx : Nat} {v : Int64} (hw : Cond.constantLong own idx v ∈ q_T) (hd : decode cc pc = .ok (.ldc2_w idx, 3)) (k : q_V Γ sz cells slots h lv (.long v :: st) (pc + 3)) : q_V Γ sz cells slots h lv st pc := by
  obtain ⟨⟨p, l, e, R, s, m, args, below, meth, c⟩, Q, base, nL, D, tc⟩ := Γ
  obtain ⟨hx, hb, hml, hown, hts, hK, hbs, hS0⟩ := C
  intro H locs ls hR hS hl
  exact lv_ldc2 hx hb hown (hts _ hw) hd (k H locs ls hR hS hl)

theorem q_iload_n (C : q_C Γ cc own) {k4 : Fin 4} (j : Nat) {x : Int32} (hj : lv[j]? = some ((k4 : Nat), .int x)) (hd : decode cc pc = .ok (.iload_n k4, 1)) (k : q_V Γ sz cells slots h lv (.int x :: st) (pc + 1)) : q_V Γ sz cells slots h lv st pc := by
  obtain ⟨⟨p, l, e, R, s, m, args, below, meth, c⟩, Q, base, nL, D, tc⟩ := Γ
  obtain ⟨hx, hb, hml, hown, hts, hK, hbs, hS0⟩ := C
  intro H locs ls hR hS hl
  exact lv_iload_n hx hb hd rfl (lv_at hl j hj) (k H locs ls hR hS hl)

theorem q_iload (C : q_C Γ cc own) {i : Nat} (j : Nat) {x : Int32} (hj : lv[j]? = some (i, .int x)) (hd : decode cc pc = .ok (.iload i, 2)) (k : q_V Γ sz cells slots h lv (.int x :: st) (pc + 2)) : q_V Γ sz cells slots h lv st pc := by
  obtain ⟨⟨p, l, e, R, s, m, args, below, meth, c⟩, Q, base, nL, D, tc⟩ := Γ
  obtain ⟨hx, hb, hml, hown, hts, hK, hbs, hS0⟩ := C
  intro H locs ls hR hS hl
  exact lv_iload hx hb hd (lv_at hl j hj) (k H locs ls hR hS hl)

theorem q_lload_n (C : q_C Γ cc own) {k4 : Fin 4} (j : Nat) {x : Int64} (hj : lv[j]? = some ((k4 : Nat), .long x)) (hd : decode cc pc = .ok (.lload_n k4, 1)) (k : q_V Γ sz cells slots h lv (.long x :: st) (pc + 1)) : q_V Γ sz cells slots h lv st pc := by
  obtain ⟨⟨p, l, e, R, s, m, args, below, meth, c⟩, Q, base, nL, D, tc⟩ := Γ
  obtain ⟨hx, hb, hml, hown, hts, hK, hbs, hS0⟩ := C
  intro H locs ls hR hS hl
  exact lv_lload_n hx hb hd rfl (lv_at hl j hj) (k H locs ls hR hS hl)

theorem q_lload (C : q_C Γ cc own) {i : Nat} (j : Nat) {x : Int64} (hj : lv[j]? = some (i, .long x)) (hd : decode cc pc = .ok (.lload i, 2)) (k : q_V Γ sz cells slots h lv (.long x :: st) (pc + 2)) : q_V Γ sz cells slots h lv st pc := by
  obtain ⟨⟨p, l, e, R, s, m, args, below, meth, c⟩, Q, base, nL, D, tc⟩ := Γ
  obtain ⟨hx, hb, hml, hown, hts, hK, hbs, hS0⟩ := C
  intro H locs ls hR hS hl
  exact lv_lload hx hb hd (lv_at hl j hj) (k H locs ls hR hS hl)

theorem q_aload_n (C : q_C Γ cc own) {k4 : Fin 4} (j : Nat) {x : Nat} (hj : lv[j]? = some ((k4 : Nat), .ref x)) (hd : decode cc pc = .ok (.aload_n k4, 1)) (k : q_V Γ sz cells slots h lv (.ref x :: st) (pc + 1)) : q_V Γ sz cells slots h lv st pc := by
  obtain ⟨⟨p, l, e, R, s, m, args, below, meth, c⟩, Q, base, nL, D, tc⟩ := Γ
  obtain ⟨hx, hb, hml, hown, hts, hK, hbs, hS0⟩ := C
  intro H locs ls hR hS hl
  exact lv_aload_n hx hb hd rfl (lv_at hl j hj) (k H locs ls hR hS hl)

theorem q_aload (C : q_C Γ cc own) {i : Nat} (j : Nat) {x : Nat} (hj : lv[j]? = some (i, .ref x)) (hd : decode cc pc = .ok (.aload i, 2)) (k : q_V Γ sz cells slots h lv (.ref x :: st) (pc + 2)) : q_V Γ sz cells slots h lv st pc := by
  obtain ⟨⟨p, l, e, R, s, m, args, below, meth, c⟩, Q, base, nL, D, tc⟩ := Γ
  obtain ⟨hx, hb, hml, hown, hts, hK, hbs, hS0⟩ := C
  intro H locs ls hR hS hl
  exact lv_aload hx hb hd (lv_at hl j hj) (k H locs ls hR hS hl)

theorem q_istore_n (C : q_C Γ cc own) {nl : Nat} (N : Γ.2.2.2.1 = nl) {k4 : Fin 4} {i : Nat} (hi : (k4 : Nat) = i) {x : Int32} (hl0 : (i, Value.int x) :: lv.filter (fun q => !(q.1 == i) && !(q.1 + 1 == i && q.2.category == 2)) = lv') (hn : i < nl) (hd : decode cc pc = .ok (.istore_n k4, 1)) (k : q_V Γ sz cells slots h lv' st (pc + 1)) : q_V Γ sz cells slots h lv (.int x :: st) pc := by
  obtain ⟨⟨p, l, e, R, s, m, args, below, meth, c⟩, Q, base, nL, D, tc⟩ := Γ
  obtain ⟨hx, hb, hml, hown, hts, hK, hbs, hS0⟩ := C
  intro H locs ls hR hS hl
  have hn := N ▸ hn
  exact lv_istore_n hx hb hd hi hl hn hl0 (fun ls' hl' => k H locs ls' hR hS hl')

theorem q_istore (C : q_C Γ cc own) {nl : Nat} (N : Γ.2.2.2.1 = nl) {i : Nat} {x : Int32} (hl0 : (i, Value.int x) :: lv.filter (fun q => !(q.1 == i) && !(q.1 + 1 == i && q.2.category == 2)) = lv') (hn : i < nl) (hd : decode cc pc = .ok (.istore i, 2)) (k : q_V Γ sz cells slots h lv' st (pc + 2)) : q_V Γ sz cells slots h lv (.int x :: st) pc := by
  obtain ⟨⟨p, l, e, R, s, m, args, below, meth, c⟩, Q, base, nL, D, tc⟩ := Γ
  obtain ⟨hx, hb, hml, hown, hts, hK, hbs, hS0⟩ := C
  intro H locs ls hR hS hl
  have hn := N ▸ hn
  exact lv_istore hx hb hd hl hn hl0 (fun ls' hl' => k H locs ls' hR hS hl')

theorem q_lstore_n (C : q_C Γ cc own) {nl : Nat} (N : Γ.2.2.2.1 = nl) {k4 : Fin 4} {i : Nat} (hi : (k4 : Nat) = i) {x : Int64} (hl0 : (i, Value.long x) :: lv.filter (fun q => !(q.1 == i) && (!(q.1 == i + 1) && !(q.1 + 1 == i && q.2.category == 2))) = lv') (hn : i + 1 < nl) (hd : decode cc pc = .ok (.lstore_n k4, 1)) (k : q_V Γ sz cells slots h lv' st (pc + 1)) : q_V Γ sz cells slots h lv (.long x :: st) pc := by
  obtain ⟨⟨p, l, e, R, s, m, args, below, meth, c⟩, Q, base, nL, D, tc⟩ := Γ
  obtain ⟨hx, hb, hml, hown, hts, hK, hbs, hS0⟩ := C
  intro H locs ls hR hS hl
  have hn := N ▸ hn
  exact lv_lstore_n hx hb hd hi hl hn hl0 (fun ls' hl' => k H locs ls' hR hS hl')

theorem q_lstore (C : q_C Γ cc own) {nl : Nat} (N : Γ.2.2.2.1 = nl) {i : Nat} {x : Int64} (hl0 : (i, Value.long x) :: lv.filter (fun q => !(q.1 == i) && (!(q.1 == i + 1) && !(q.1 + 1 == i && q.2.category == 2))) = lv') (hn : i + 1 < nl) (hd : decode cc pc = .ok (.lstore i, 2)) (k : q_V Γ sz cells slots h lv' st (pc + 2)) : q_V Γ sz cells slots h lv (.long x :: st) pc := by
  obtain ⟨⟨p, l, e, R, s, m, args, below, meth, c⟩, Q, base, nL, D, tc⟩ := Γ
  obtain ⟨hx, hb, hml, hown, hts, hK, hbs, hS0⟩ := C
  intro H locs ls hR hS hl
  have hn := N ▸ hn
  exact lv_lstore hx hb hd hl hn hl0 (fun ls' hl' => k H locs ls' hR hS hl')

theorem q_astore_n (C : q_C Γ cc own) {nl : Nat} (N : Γ.2.2.2.1 = nl) {k4 : Fin 4} {i : Nat} (hi : (k4 : Nat) = i) {x : Nat} (hl0 : (i, Value.ref x) :: lv.filter (fun q => !(q.1 == i) && !(q.1 + 1 == i && q.2.category == 2)) = lv') (hn : i < nl) (hd : decode cc pc = .ok (.astore_n k4, 1)) (k : q_V Γ sz cells slots h lv' st (pc + 1)) : q_V Γ sz cells slots h lv (.ref x :: st) pc := by
  obtain ⟨⟨p, l, e, R, s, m, args, below, meth, c⟩, Q, base, nL, D, tc⟩ := Γ
  obtain ⟨hx, hb, hml, hown, hts, hK, hbs, hS0⟩ := C
  intro H locs ls hR hS hl
  have hn := N ▸ hn
  exact lv_astore_n hx hb hd hi hl hn hl0 (fun ls' hl' => k H locs ls' hR hS hl')

theorem q_astore (C : q_C Γ cc own) {nl : Nat} (N : Γ.2.2.2.1 = nl) {i : Nat} {x : Nat} (hl0 : (i, Value.ref x) :: lv.filter (fun q => !(q.1 == i) && !(q.1 + 1 == i && q.2.category == 2)) = lv') (hn : i < nl) (hd : decode cc pc = .ok (.astore i, 2)) (k : q_V Γ sz cells slots h lv' st (pc + 2)) : q_V Γ sz cells slots h lv (.ref x :: st) pc := by
  obtain ⟨⟨p, l, e, R, s, m, args, below, meth, c⟩, Q, base, nL, D, tc⟩ := Γ
  obtain ⟨hx, hb, hml, hown, hts, hK, hbs, hS0⟩ := C
  intro H locs ls hR hS hl
  have hn := N ▸ hn
  exact lv_astore hx hb hd hl hn hl0 (fun ls' hl' => k H locs ls' hR hS hl')

theorem q_iinc (C : q_C Γ cc own) {nl : Nat} (N : Γ.2.2.2.1 = nl) {i : Nat} {n : Int} {x v : Int32} (j : Nat) (hj : lv[j]? = some (i, .int x)) (hv : x + Int32.ofInt n = v) (hl0 : (i, Value.int v) :: lv.filter (fun q => !(q.1 == i) && !(q.1 + 1 == i && q.2.category == 2)) = lv') (hn : i < nl) (hd : decode cc pc = .ok (.iinc i n, 3)) (k : q_V Γ sz cells slots h lv' st (pc + 3)) : q_V Γ sz cells slots h lv st pc := by
  obtain ⟨⟨p, l, e, R, s, m, args, below, meth, c⟩, Q, base, nL, D, tc⟩ := Γ
  obtain ⟨hx, hb, hml, hown, hts, hK, hbs, hS0⟩ := C
  intro H locs ls hR hS hl
  have hn := N ▸ hn
  exact lv_iinc hx hb hd hl hj hv hn hl0 (fun ls' hl' => k H locs ls' hR hS hl')

theorem q_iadd (C : q_C Γ cc own) {x y : Int32} (hd : decode cc pc = .ok (.iadd, 1)) (k : q_V Γ sz cells slots h lv (.int (x + y) :: st) (pc + 1)) : q_V Γ sz cells slots h lv (.int y :: .int x :: st) pc := by
  obtain ⟨⟨p, l, e, R, s, m, args, below, meth, c⟩, Q, base, nL, D, tc⟩ := Γ
  obtain ⟨hx, hb, hml, hown, hts, hK, hbs, hS0⟩ := C
  intro H locs ls hR hS hl
  exact lv_iadd hx hb hd (k H locs ls hR hS hl)

theorem q_isub (C : q_C Γ cc own) {x y : Int32} (hd : decode cc pc = .ok (.isub, 1)) (k : q_V Γ sz cells slots h lv (.int (x - y) :: st) (pc + 1)) : q_V Γ sz cells slots h lv (.int y :: .int x :: st) pc := by
  obtain ⟨⟨p, l, e, R, s, m, args, below, meth, c⟩, Q, base, nL, D, tc⟩ := Γ
  obtain ⟨hx, hb, hml, hown, hts, hK, hbs, hS0⟩ := C
  intro H locs ls hR hS hl
  exact lv_isub hx hb hd (k H locs ls hR hS hl)

theorem q_imul (C : q_C Γ cc own) {x y : Int32} (hd : decode cc pc = .ok (.imul, 1)) (k : q_V Γ sz cells slots h lv (.int (x * y) :: st) (pc + 1)) : q_V Γ sz cells slots h lv (.int y :: .int x :: st) pc := by
  obtain ⟨⟨p, l, e, R, s, m, args, below, meth, c⟩, Q, base, nL, D, tc⟩ := Γ
  obtain ⟨hx, hb, hml, hown, hts, hK, hbs, hS0⟩ := C
  intro H locs ls hR hS hl
  exact lv_imul hx hb hd (k H locs ls hR hS hl)

theorem q_iand (C : q_C Γ cc own) {x y : Int32} (hd : decode cc pc = .ok (.iand, 1)) (k : q_V Γ sz cells slots h lv (.int (x &&& y) :: st) (pc + 1)) : q_V Γ sz cells slots h lv (.int y :: .int x :: st) pc := by
  obtain ⟨⟨p, l, e, R, s, m, args, below, meth, c⟩, Q, base, nL, D, tc⟩ := Γ
  obtain ⟨hx, hb, hml, hown, hts, hK, hbs, hS0⟩ := C
  intro H locs ls hR hS hl
  exact lv_iand hx hb hd (k H locs ls hR hS hl)

theorem q_ior (C : q_C Γ cc own) {x y : Int32} (hd : decode cc pc = .ok (.ior, 1)) (k : q_V Γ sz cells slots h lv (.int (x ||| y) :: st) (pc + 1)) : q_V Γ sz cells slots h lv (.int y :: .int x :: st) pc := by
  obtain ⟨⟨p, l, e, R, s, m, args, below, meth, c⟩, Q, base, nL, D, tc⟩ := Γ
  obtain ⟨hx, hb, hml, hown, hts, hK, hbs, hS0⟩ := C
  intro H locs ls hR hS hl
  exact lv_ior hx hb hd (k H locs ls hR hS hl)

theorem q_ixor (C : q_C Γ cc own) {x y : Int32} (hd : decode cc pc = .ok (.ixor, 1)) (k : q_V Γ sz cells slots h lv (.int (x ^^^ y) :: st) (pc + 1)) : q_V Γ sz cells slots h lv (.int y :: .int x :: st) pc := by
  obtain ⟨⟨p, l, e, R, s, m, args, below, meth, c⟩, Q, base, nL, D, tc⟩ := Γ
  obtain ⟨hx, hb, hml, hown, hts, hK, hbs, hS0⟩ := C
  intro H locs ls hR hS hl
  exact lv_ixor hx hb hd (k H locs ls hR hS hl)

theorem q_ladd (C : q_C Γ cc own) {x y : Int64} (hd : decode cc pc = .ok (.ladd, 1)) (k : q_V Γ sz cells slots h lv (.long (x + y) :: st) (pc + 1)) : q_V Γ sz cells slots h lv (.long y :: .long x :: st) pc := by
  obtain ⟨⟨p, l, e, R, s, m, args, below, meth, c⟩, Q, base, nL, D, tc⟩ := Γ
  obtain ⟨hx, hb, hml, hown, hts, hK, hbs, hS0⟩ := C
  intro H locs ls hR hS hl
  exact lv_ladd hx hb hd (k H locs ls hR hS hl)

theorem q_lsub (C : q_C Γ cc own) {x y : Int64} (hd : decode cc pc = .ok (.lsub, 1)) (k : q_V Γ sz cells slots h lv (.long (x - y) :: st) (pc + 1)) : q_V Γ sz cells slots h lv (.long y :: .long x :: st) pc := by
  obtain ⟨⟨p, l, e, R, s, m, args, below, meth, c⟩, Q, base, nL, D, tc⟩ := Γ
  obtain ⟨hx, hb, hml, hown, hts, hK, hbs, hS0⟩ := C
  intro H locs ls hR hS hl
  exact lv_lsub hx hb hd (k H locs ls hR hS hl)

theorem q_lmul (C : q_C Γ cc own) {x y : Int64} (hd : decode cc pc = .ok (.lmul, 1)) (k : q_V Γ sz cells slots h lv (.long (x * y) :: st) (pc + 1)) : q_V Γ sz cells slots h lv (.long y :: .long x :: st) pc := by
  obtain ⟨⟨p, l, e, R, s, m, args, below, meth, c⟩, Q, base, nL, D, tc⟩ := Γ
  obtain ⟨hx, hb, hml, hown, hts, hK, hbs, hS0⟩ := C
  intro H locs ls hR hS hl
  exact lv_lmul hx hb hd (k H locs ls hR hS hl)

theorem q_land (C : q_C Γ cc own) {x y : Int64} (hd : decode cc pc = .ok (.land, 1)) (k : q_V Γ sz cells slots h lv (.long (x &&& y) :: st) (pc + 1)) : q_V Γ sz cells slots h lv (.long y :: .long x :: st) pc := by
  obtain ⟨⟨p, l, e, R, s, m, args, below, meth, c⟩, Q, base, nL, D, tc⟩ := Γ
  obtain ⟨hx, hb, hml, hown, hts, hK, hbs, hS0⟩ := C
  intro H locs ls hR hS hl
  exact lv_land hx hb hd (k H locs ls hR hS hl)

theorem q_lor (C : q_C Γ cc own) {x y : Int64} (hd : decode cc pc = .ok (.lor, 1)) (k : q_V Γ sz cells slots h lv (.long (x ||| y) :: st) (pc + 1)) : q_V Γ sz cells slots h lv (.long y :: .long x :: st) pc := by
  obtain ⟨⟨p, l, e, R, s, m, args, below, meth, c⟩, Q, base, nL, D, tc⟩ := Γ
  obtain ⟨hx, hb, hml, hown, hts, hK, hbs, hS0⟩ := C
  intro H locs ls hR hS hl
  exact lv_lor hx hb hd (k H locs ls hR hS hl)

theorem q_idiv (C : q_C Γ cc own) {x y : Int32} (hne : ¬ y = 0) (hd : decode cc pc = .ok (.idiv, 1)) (k : q_V Γ sz cells slots h lv (.int (x / y) :: st) (pc + 1)) : q_V Γ sz cells slots h lv (.int y :: .int x :: st) pc := by
  obtain ⟨⟨p, l, e, R, s, m, args, below, meth, c⟩, Q, base, nL, D, tc⟩ := Γ
  obtain ⟨hx, hb, hml, hown, hts, hK, hbs, hS0⟩ := C
  intro H locs ls hR hS hl
  exact lv_idiv hx hb hd hne (k H locs ls hR hS hl)

theorem q_ldiv (C : q_C Γ cc own) {x y : Int64} (hne : ¬ y = 0) (hd : decode cc pc = .ok (.ldiv, 1)) (k : q_V Γ sz cells slots h lv (.long (x / y) :: st) (pc + 1)) : q_V Γ sz cells slots h lv (.long y :: .long x :: st) pc := by
  obtain ⟨⟨p, l, e, R, s, m, args, below, meth, c⟩, Q, base, nL, D, tc⟩ := Γ
  obtain ⟨hx, hb, hml, hown, hts, hK, hbs, hS0⟩ := C
  intro H locs ls hR hS hl
  exact lv_ldiv hx hb hd hne (k H locs ls hR hS hl)

theorem q_irem (C : q_C Γ cc own) {x y : Int32} (hne : ¬ y = 0) (hd : decode cc pc = .ok (.irem, 1)) (k : q_V Γ sz cells slots h lv (.int (x - x / y * y) :: st) (pc + 1)) : q_V Γ sz cells slots h lv (.int y :: .int x :: st) pc := by
  obtain ⟨⟨p, l, e, R, s, m, args, below, meth, c⟩, Q, base, nL, D, tc⟩ := Γ
  obtain ⟨hx, hb, hml, hown, hts, hK, hbs, hS0⟩ := C
  intro H locs ls hR hS hl
  exact lv_irem hx hb hd hne (k H locs ls hR hS hl)

theorem q_lrem (C : q_C Γ cc own) {x y : Int64} (hne : ¬ y = 0) (hd : decode cc pc = .ok (.lrem, 1)) (k : q_V Γ sz cells slots h lv (.long (x - x / y * y) :: st) (pc + 1)) : q_V Γ sz cells slots h lv (.long y :: .long x :: st) pc := by
  obtain ⟨⟨p, l, e, R, s, m, args, below, meth, c⟩, Q, base, nL, D, tc⟩ := Γ
  obtain ⟨hx, hb, hml, hown, hts, hK, hbs, hS0⟩ := C
  intro H locs ls hR hS hl
  exact lv_lrem hx hb hd hne (k H locs ls hR hS hl)

theorem q_ineg (C : q_C Γ cc own) {x : Int32} (hd : decode cc pc = .ok (.ineg, 1)) (k : q_V Γ sz cells slots h lv (.int (0 - x) :: st) (pc + 1)) : q_V Γ sz cells slots h lv (.int x :: st) pc := by
  obtain ⟨⟨p, l, e, R, s, m, args, below, meth, c⟩, Q, base, nL, D, tc⟩ := Γ
  obtain ⟨hx, hb, hml, hown, hts, hK, hbs, hS0⟩ := C
  intro H locs ls hR hS hl
  exact lv_ineg hx hb hd (k H locs ls hR hS hl)

theorem q_ishl (C : q_C Γ cc own) {x y : Int32} (hd : decode cc pc = .ok (.ishl, 1)) (k : q_V Γ sz cells slots h lv (.int (x <<< (y &&& 31)) :: st) (pc + 1)) : q_V Γ sz cells slots h lv (.int y :: .int x :: st) pc := by
  obtain ⟨⟨p, l, e, R, s, m, args, below, meth, c⟩, Q, base, nL, D, tc⟩ := Γ
  obtain ⟨hx, hb, hml, hown, hts, hK, hbs, hS0⟩ := C
  intro H locs ls hR hS hl
  exact lv_ishl hx hb hd (k H locs ls hR hS hl)

theorem q_ishr (C : q_C Γ cc own) {x y : Int32} (hd : decode cc pc = .ok (.ishr, 1)) (k : q_V Γ sz cells slots h lv (.int (x >>> (y &&& 31)) :: st) (pc + 1)) : q_V Γ sz cells slots h lv (.int y :: .int x :: st) pc := by
  obtain ⟨⟨p, l, e, R, s, m, args, below, meth, c⟩, Q, base, nL, D, tc⟩ := Γ
  obtain ⟨hx, hb, hml, hown, hts, hK, hbs, hS0⟩ := C
  intro H locs ls hR hS hl
  exact lv_ishr hx hb hd (k H locs ls hR hS hl)

theorem q_lshl (C : q_C Γ cc own) {x : Int64} {y : Int32} (hd : decode cc pc = .ok (.lshl, 1)) (k : q_V Γ sz cells slots h lv (.long (x <<< (y.toInt64 &&& 63)) :: st) (pc + 1)) : q_V Γ sz cells slots h lv (.int y :: .long x :: st) pc := by
  obtain ⟨⟨p, l, e, R, s, m, args, below, meth, c⟩, Q, base, nL, D, tc⟩ := Γ
  obtain ⟨hx, hb, hml, hown, hts, hK, hbs, hS0⟩ := C
  intro H locs ls hR hS hl
  exact lv_lshl hx hb hd rfl (k H locs ls hR hS hl)

theorem q_i2l (C : q_C Γ cc own) {x : Int32} (hd : decode cc pc = .ok (.i2l, 1)) (k : q_V Γ sz cells slots h lv (.long x.toInt64 :: st) (pc + 1)) : q_V Γ sz cells slots h lv (.int x :: st) pc := by
  obtain ⟨⟨p, l, e, R, s, m, args, below, meth, c⟩, Q, base, nL, D, tc⟩ := Γ
  obtain ⟨hx, hb, hml, hown, hts, hK, hbs, hS0⟩ := C
  intro H locs ls hR hS hl
  exact lv_i2l hx hb hd rfl (k H locs ls hR hS hl)

theorem q_l2i (C : q_C Γ cc own) {x : Int64} (hd : decode cc pc = .ok (.l2i, 1)) (k : q_V Γ sz cells slots h lv (.int x.toInt32 :: st) (pc + 1)) : q_V Γ sz cells slots h lv (.long x :: st) pc := by
  obtain ⟨⟨p, l, e, R, s, m, args, below, meth, c⟩, Q, base, nL, D, tc⟩ := Γ
  obtain ⟨hx, hb, hml, hown, hts, hK, hbs, hS0⟩ := C
  intro H locs ls hR hS hl
  exact lv_l2i hx hb hd rfl (k H locs ls hR hS hl)

theorem q_i2b (C : q_C Γ cc own) {x : Int32} (hd : decode cc pc = .ok (.i2b, 1)) (k : q_V Γ sz cells slots h lv (.int x.toInt8.toInt32 :: st) (pc + 1)) : q_V Γ sz cells slots h lv (.int x :: st) pc := by
  obtain ⟨⟨p, l, e, R, s, m, args, below, meth, c⟩, Q, base, nL, D, tc⟩ := Γ
  obtain ⟨hx, hb, hml, hown, hts, hK, hbs, hS0⟩ := C
  intro H locs ls hR hS hl
  exact lv_i2b hx hb hd rfl (k H locs ls hR hS hl)

theorem q_lcmp (C : q_C Γ cc own) {x y : Int64} (hd : decode cc pc = .ok (.lcmp, 1)) (k : q_V Γ sz cells slots h lv (.int (lg_cmp x y) :: st) (pc + 1)) : q_V Γ sz cells slots h lv (.long y :: .long x :: st) pc := by
  obtain ⟨⟨p, l, e, R, s, m, args, below, meth, c⟩, Q, base, nL, D, tc⟩ := Γ
  obtain ⟨hx, hb, hml, hown, hts, hK, hbs, hS0⟩ := C
  intro H locs ls hR hS hl
  exact W.lcmp hx hb hd (k H locs ls hR hS hl)

theorem q_dup (C : q_C Γ cc own) {va : Value} (hc : va.category = 1) (hd : decode cc pc = .ok (.dup, 1)) (k : q_V Γ sz cells slots h lv (va :: va :: st) (pc + 1)) : q_V Γ sz cells slots h lv (va :: st) pc := by
  obtain ⟨⟨p, l, e, R, s, m, args, below, meth, c⟩, Q, base, nL, D, tc⟩ := Γ
  obtain ⟨hx, hb, hml, hown, hts, hK, hbs, hS0⟩ := C
  intro H locs ls hR hS hl
  exact lv_dup hx hb hd hc (k H locs ls hR hS hl)

theorem q_pop (C : q_C Γ cc own) {va : Value} (hc : va.category = 1) (hd : decode cc pc = .ok (.pop, 1)) (k : q_V Γ sz cells slots h lv st (pc + 1)) : q_V Γ sz cells slots h lv (va :: st) pc := by
  obtain ⟨⟨p, l, e, R, s, m, args, below, meth, c⟩, Q, base, nL, D, tc⟩ := Γ
  obtain ⟨hx, hb, hml, hown, hts, hK, hbs, hS0⟩ := C
  intro H locs ls hR hS hl
  exact lv_pop hx hb hd hc (k H locs ls hR hS hl)

theorem q_dup2 (C : q_C Γ cc own) {va vb : Value} (hc : va.category = 1) (hc2 : vb.category = 1) (hd : decode cc pc = .ok (.dup2, 1)) (k : q_V Γ sz cells slots h lv (va :: vb :: va :: vb :: st) (pc + 1)) : q_V Γ sz cells slots h lv (va :: vb :: st) pc := by
  obtain ⟨⟨p, l, e, R, s, m, args, below, meth, c⟩, Q, base, nL, D, tc⟩ := Γ
  obtain ⟨hx, hb, hml, hown, hts, hK, hbs, hS0⟩ := C
  intro H locs ls hR hS hl
  exact lv_dup2_11 hx hb hd hc hc2 (k H locs ls hR hS hl)

theorem q_null (C : q_C Γ cc own)  (hd : decode cc pc = .ok (.aconst_null, 1)) (k : q_V Γ sz cells slots h lv (.null :: st) (pc + 1)) : q_V Γ sz cells slots h lv st pc := by
  obtain ⟨⟨p, l, e, R, s, m, args, below, meth, c⟩, Q, base, nL, D, tc⟩ := Γ
  obtain ⟨hx, hb, hml, hown, hts, hK, hbs, hS0⟩ := C
  intro H locs ls hR hS hl
  exact lv_null hx hb hd (k H locs ls hR hS hl)

theorem q_goto (C : q_C Γ cc own) {off : Int} (tgt : Nat) (hd : decode cc pc = .ok (.goto off, 3)) (ht : (pc : Int) + off = (tgt : Int)) (k : q_V Γ sz cells slots h lv st tgt) : q_V Γ sz cells slots h lv st pc := by
  obtain ⟨⟨p, l, e, R, s, m, args, below, meth, c⟩, Q, base, nL, D, tc⟩ := Γ
  obtain ⟨hx, hb, hml, hown, hts, hK, hbs, hS0⟩ := C
  intro H locs ls hR hS hl
  exact lv_goto hx hb hd ht (k H locs ls hR hS hl)

theorem q_loc (ks : List Nat) (hl0 : lv_pick lv ks = lv') (k : q_V Γ sz cells slots h lv' st pc) : q_V Γ sz cells slots h lv st pc := by
  obtain ⟨⟨p, l, e, R, s, m, args, below, meth, c⟩, Q, base, nL, D, tc⟩ := Γ
  intro H locs ls hR hS hl
  exact k H locs ls hR hS (lv_sub hl ks hl0)

theorem q_icmp_eq (C : q_C Γ cc own) {α : Type} {A B : Option α} {ρ : α} {x y : Int32} {off : Int} (tgt : Nat) (hm : (if x = y then A else B) = some ρ) (hd : decode cc pc = .ok (.if_icmp .eq off, 3)) (ht : (pc : Int) + off = (tgt : Int)) (k1 : x = y → A = some ρ → q_V Γ sz cells slots h lv st tgt) (k2 : ¬ (x = y) → B = some ρ → q_V Γ sz cells slots h lv st (pc + 3)) : q_V Γ sz cells slots h lv (.int y :: .int x :: st) pc := by
  obtain ⟨⟨p, l, e, R, s, m, args, below, meth, c⟩, Q, base, nL, D, tc⟩ := Γ
  obtain ⟨hx, hb, hml, hown, hts, hK, hbs, hS0⟩ := C
  intro H locs ls hR hS hl
  exact lv_icmp_eq hx hb hd ht (fun q => (k1 q (by rw [if_pos q] at hm; exact hm)) H locs ls hR hS hl) (fun q => (k2 q (by rw [if_neg q] at hm; exact hm)) H locs ls hR hS hl)

theorem q_icmp_lt (C : q_C Γ cc own) {α : Type} {A B : Option α} {ρ : α} {x y : Int32} {off : Int} (tgt : Nat) (hm : (if x < y then A else B) = some ρ) (hd : decode cc pc = .ok (.if_icmp .lt off, 3)) (ht : (pc : Int) + off = (tgt : Int)) (k1 : x < y → A = some ρ → q_V Γ sz cells slots h lv st tgt) (k2 : ¬ (x < y) → B = some ρ → q_V Γ sz cells slots h lv st (pc + 3)) : q_V Γ sz cells slots h lv (.int y :: .int x :: st) pc := by
  obtain ⟨⟨p, l, e, R, s, m, args, below, meth, c⟩, Q, base, nL, D, tc⟩ := Γ
  obtain ⟨hx, hb, hml, hown, hts, hK, hbs, hS0⟩ := C
  intro H locs ls hR hS hl
  exact lv_icmp_lt hx hb hd ht (fun q => (k1 q (by rw [if_pos q] at hm; exact hm)) H locs ls hR hS hl) (fun q => (k2 q (by rw [if_neg q] at hm; exact hm)) H locs ls hR hS hl)

theorem q_icmp_ge (C : q_C Γ cc own) {α : Type} {A B : Option α} {ρ : α} {x y : Int32} {off : Int} (tgt : Nat) (hm : (if y ≤ x then A else B) = some ρ) (hd : decode cc pc = .ok (.if_icmp .ge off, 3)) (ht : (pc : Int) + off = (tgt : Int)) (k1 : y ≤ x → A = some ρ → q_V Γ sz cells slots h lv st tgt) (k2 : ¬ (y ≤ x) → B = some ρ → q_V Γ sz cells slots h lv st (pc + 3)) : q_V Γ sz cells slots h lv (.int y :: .int x :: st) pc := by
  obtain ⟨⟨p, l, e, R, s, m, args, below, meth, c⟩, Q, base, nL, D, tc⟩ := Γ
  obtain ⟨hx, hb, hml, hown, hts, hK, hbs, hS0⟩ := C
  intro H locs ls hR hS hl
  exact lv_icmp_ge hx hb hd ht (fun q => (k1 q (by rw [if_pos q] at hm; exact hm)) H locs ls hR hS hl) (fun q => (k2 q (by rw [if_neg q] at hm; exact hm)) H locs ls hR hS hl)

theorem q_icmp_gt (C : q_C Γ cc own) {α : Type} {A B : Option α} {ρ : α} {x y : Int32} {off : Int} (tgt : Nat) (hm : (if y < x then A else B) = some ρ) (hd : decode cc pc = .ok (.if_icmp .gt off, 3)) (ht : (pc : Int) + off = (tgt : Int)) (k1 : y < x → A = some ρ → q_V Γ sz cells slots h lv st tgt) (k2 : ¬ (y < x) → B = some ρ → q_V Γ sz cells slots h lv st (pc + 3)) : q_V Γ sz cells slots h lv (.int y :: .int x :: st) pc := by
  obtain ⟨⟨p, l, e, R, s, m, args, below, meth, c⟩, Q, base, nL, D, tc⟩ := Γ
  obtain ⟨hx, hb, hml, hown, hts, hK, hbs, hS0⟩ := C
  intro H locs ls hR hS hl
  exact lv_icmp_gt hx hb hd ht (fun q => (k1 q (by rw [if_pos q] at hm; exact hm)) H locs ls hR hS hl) (fun q => (k2 q (by rw [if_neg q] at hm; exact hm)) H locs ls hR hS hl)

theorem q_icmp_le (C : q_C Γ cc own) {α : Type} {A B : Option α} {ρ : α} {x y : Int32} {off : Int} (tgt : Nat) (hm : (if x ≤ y then A else B) = some ρ) (hd : decode cc pc = .ok (.if_icmp .le off, 3)) (ht : (pc : Int) + off = (tgt : Int)) (k1 : x ≤ y → A = some ρ → q_V Γ sz cells slots h lv st tgt) (k2 : ¬ (x ≤ y) → B = some ρ → q_V Γ sz cells slots h lv st (pc + 3)) : q_V Γ sz cells slots h lv (.int y :: .int x :: st) pc := by
  obtain ⟨⟨p, l, e, R, s, m, args, below, meth, c⟩, Q, base, nL, D, tc⟩ := Γ
  obtain ⟨hx, hb, hml, hown, hts, hK, hbs, hS0⟩ := C
  intro H locs ls hR hS hl
  exact lv_icmp_le hx hb hd ht (fun q => (k1 q (by rw [if_pos q] at hm; exact hm)) H locs ls hR hS hl) (fun q => (k2 q (by rw [if_neg q] at hm; exact hm)) H locs ls hR hS hl)

theorem q_if_eq (C : q_C Γ cc own) {α : Type} {A B : Option α} {ρ : α} {x : Int32} {off : Int} (tgt : Nat) (hm : (if x = 0 then A else B) = some ρ) (hd : decode cc pc = .ok (.ifCond .eq off, 3)) (ht : (pc : Int) + off = (tgt : Int)) (k1 : x = 0 → A = some ρ → q_V Γ sz cells slots h lv st tgt) (k2 : ¬ (x = 0) → B = some ρ → q_V Γ sz cells slots h lv st (pc + 3)) : q_V Γ sz cells slots h lv (.int x :: st) pc := by
  obtain ⟨⟨p, l, e, R, s, m, args, below, meth, c⟩, Q, base, nL, D, tc⟩ := Γ
  obtain ⟨hx, hb, hml, hown, hts, hK, hbs, hS0⟩ := C
  intro H locs ls hR hS hl
  exact lv_if_eq hx hb hd ht (fun q => (k1 q (by rw [if_pos q] at hm; exact hm)) H locs ls hR hS hl) (fun q => (k2 q (by rw [if_neg q] at hm; exact hm)) H locs ls hR hS hl)

theorem q_if_lt (C : q_C Γ cc own) {α : Type} {A B : Option α} {ρ : α} {x : Int32} {off : Int} (tgt : Nat) (hm : (if x < 0 then A else B) = some ρ) (hd : decode cc pc = .ok (.ifCond .lt off, 3)) (ht : (pc : Int) + off = (tgt : Int)) (k1 : x < 0 → A = some ρ → q_V Γ sz cells slots h lv st tgt) (k2 : ¬ (x < 0) → B = some ρ → q_V Γ sz cells slots h lv st (pc + 3)) : q_V Γ sz cells slots h lv (.int x :: st) pc := by
  obtain ⟨⟨p, l, e, R, s, m, args, below, meth, c⟩, Q, base, nL, D, tc⟩ := Γ
  obtain ⟨hx, hb, hml, hown, hts, hK, hbs, hS0⟩ := C
  intro H locs ls hR hS hl
  exact lv_if_lt hx hb hd ht (fun q => (k1 q (by rw [if_pos q] at hm; exact hm)) H locs ls hR hS hl) (fun q => (k2 q (by rw [if_neg q] at hm; exact hm)) H locs ls hR hS hl)

theorem q_if_ge (C : q_C Γ cc own) {α : Type} {A B : Option α} {ρ : α} {x : Int32} {off : Int} (tgt : Nat) (hm : (if 0 ≤ x then A else B) = some ρ) (hd : decode cc pc = .ok (.ifCond .ge off, 3)) (ht : (pc : Int) + off = (tgt : Int)) (k1 : 0 ≤ x → A = some ρ → q_V Γ sz cells slots h lv st tgt) (k2 : ¬ (0 ≤ x) → B = some ρ → q_V Γ sz cells slots h lv st (pc + 3)) : q_V Γ sz cells slots h lv (.int x :: st) pc := by
  obtain ⟨⟨p, l, e, R, s, m, args, below, meth, c⟩, Q, base, nL, D, tc⟩ := Γ
  obtain ⟨hx, hb, hml, hown, hts, hK, hbs, hS0⟩ := C
  intro H locs ls hR hS hl
  exact lv_if_ge hx hb hd ht (fun q => (k1 q (by rw [if_pos q] at hm; exact hm)) H locs ls hR hS hl) (fun q => (k2 q (by rw [if_neg q] at hm; exact hm)) H locs ls hR hS hl)

theorem q_if_gt (C : q_C Γ cc own) {α : Type} {A B : Option α} {ρ : α} {x : Int32} {off : Int} (tgt : Nat) (hm : (if 0 < x then A else B) = some ρ) (hd : decode cc pc = .ok (.ifCond .gt off, 3)) (ht : (pc : Int) + off = (tgt : Int)) (k1 : 0 < x → A = some ρ → q_V Γ sz cells slots h lv st tgt) (k2 : ¬ (0 < x) → B = some ρ → q_V Γ sz cells slots h lv st (pc + 3)) : q_V Γ sz cells slots h lv (.int x :: st) pc := by
  obtain ⟨⟨p, l, e, R, s, m, args, below, meth, c⟩, Q, base, nL, D, tc⟩ := Γ
  obtain ⟨hx, hb, hml, hown, hts, hK, hbs, hS0⟩ := C
  intro H locs ls hR hS hl
  exact lv_if_gt hx hb hd ht (fun q => (k1 q (by rw [if_pos q] at hm; exact hm)) H locs ls hR hS hl) (fun q => (k2 q (by rw [if_neg q] at hm; exact hm)) H locs ls hR hS hl)

theorem q_if_le (C : q_C Γ cc own) {α : Type} {A B : Option α} {ρ : α} {x : Int32} {off : Int} (tgt : Nat) (hm : (if x ≤ 0 then A else B) = some ρ) (hd : decode cc pc = .ok (.ifCond .le off, 3)) (ht : (pc : Int) + off = (tgt : Int)) (k1 : x ≤ 0 → A = some ρ → q_V Γ sz cells slots h lv st tgt) (k2 : ¬ (x ≤ 0) → B = some ρ → q_V Γ sz cells slots h lv st (pc + 3)) : q_V Γ sz cells slots h lv (.int x :: st) pc := by
  obtain ⟨⟨p, l, e, R, s, m, args, below, meth, c⟩, Q, base, nL, D, tc⟩ := Γ
  obtain ⟨hx, hb, hml, hown, hts, hK, hbs, hS0⟩ := C
  intro H locs ls hR hS hl
  exact lv_if_le hx hb hd ht (fun q => (k1 q (by rw [if_pos q] at hm; exact hm)) H locs ls hR hS hl) (fun q => (k2 q (by rw [if_neg q] at hm; exact hm)) H locs ls hR hS hl)

theorem q_icmp_ne (C : q_C Γ cc own) {α : Type} {A B : Option α} {ρ : α} {x y : Int32} {off : Int} (tgt : Nat) (hm : (if x = y then B else A) = some ρ) (hd : decode cc pc = .ok (.if_icmp .ne off, 3)) (ht : (pc : Int) + off = (tgt : Int)) (k1 : ¬ x = y → A = some ρ → q_V Γ sz cells slots h lv st tgt) (k2 : x = y → B = some ρ → q_V Γ sz cells slots h lv st (pc + 3)) : q_V Γ sz cells slots h lv (.int y :: .int x :: st) pc := by
  obtain ⟨⟨p, l, e, R, s, m, args, below, meth, c⟩, Q, base, nL, D, tc⟩ := Γ
  obtain ⟨hx, hb, hml, hown, hts, hK, hbs, hS0⟩ := C
  intro H locs ls hR hS hl
  exact lv_icmp_ne hx hb hd ht (fun q => (k1 q (by rw [if_neg q] at hm; exact hm)) H locs ls hR hS hl) (fun q => (k2 q (by rw [if_pos q] at hm; exact hm)) H locs ls hR hS hl)

theorem q_if_ne (C : q_C Γ cc own) {α : Type} {A B : Option α} {ρ : α} {x : Int32} {off : Int} (tgt : Nat) (hm : (if x = 0 then B else A) = some ρ) (hd : decode cc pc = .ok (.ifCond .ne off, 3)) (ht : (pc : Int) + off = (tgt : Int)) (k1 : ¬ x = 0 → A = some ρ → q_V Γ sz cells slots h lv st tgt) (k2 : x = 0 → B = some ρ → q_V Γ sz cells slots h lv st (pc + 3)) : q_V Γ sz cells slots h lv (.int x :: st) pc := by
  obtain ⟨⟨p, l, e, R, s, m, args, below, meth, c⟩, Q, base, nL, D, tc⟩ := Γ
  obtain ⟨hx, hb, hml, hown, hts, hK, hbs, hS0⟩ := C
  intro H locs ls hR hS hl
  exact lv_if_ne hx hb hd ht (fun q => (k1 q (by rw [if_neg q] at hm; exact hm)) H locs ls hR hS hl) (fun q => (k2 q (by rw [if_pos q] at hm; exact hm)) H locs ls hR hS hl)

end QR

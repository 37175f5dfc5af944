/-! ===== new cells: the next one's address is the heap's size ===== -/
theorem q_W_get {base sz : Nat} {tc : Nat → ClassId} {h : q_H} {k : Nat} {q : Nat × va_E} (hk : (q_W base sz tc h)[k]? = some q) : q = (base + k, q_cn tc (h (base + k))) ∧ k < sz - base := by
  have h1 := q_W_at hk
  refine ⟨?_, h1.2⟩
  unfold q_W va_pl at hk
  rw [List.getElem?_map, List.getElem?_range' h1.2] at hk
  simp at hk
  exact hk.symm
theorem q_W_ix {base sz : Nat} {tc : Nat → ClassId} {h : q_H} {k : Nat} (hk : k < sz - base) : (q_W base sz tc h)[k]? = some (base + k, q_cn tc (h (base + k))) := by
  unfold q_W va_pl
  rw [List.getElem?_map, List.getElem?_range' hk]
  simp
theorem q_R.push {base sz : Nat} {D : va_G} {tc : Nat → ClassId} {h : q_H} {H H1 : Heap} {x : va_E} (hR : q_R base sz D tc h H) (hz : H1.size = sz + 1) (ho : ∀ q : Nat, q < sz → H1[q]? = H[q]?) (hat : va_at D vwCl (sz, q_cn tc x) H1) : q_R base (sz + 1) D tc (va_up h sz x) H1 := by
  obtain ⟨h1, h2, h3, h4⟩ := hR
  refine ⟨hz, by omega, fun k q hk => ?_, fun b hb => ?_⟩
  · obtain ⟨rfl, hlt⟩ := q_W_get hk
    by_cases e : base + k = sz
    · rw [e]
      simp only [va_up, if_true]
      exact hat
    · simp only [va_up, if_neg e]
      exact (h3 k _ (q_W_ix (by omega))).kept (ho _ (by show base + k < sz; omega))
  · by_cases e : b = sz
    · omega
    · simp only [va_up, if_neg e] at hb
      have := h4 b hb
      omega
theorem q_S_push {base : Nat} {H0 H H1 : Heap} {locs : List Loc} {sz : Nat} (hS : va_S (q_A base) H0 H locs) (hs : H.size = sz) (hz : H1.size = sz + 1) (ho : ∀ q : Nat, q < sz → H1[q]? = H[q]?) : va_S (q_A base) H0 H1 locs :=
  ⟨Nat.le_trans hS.1 (by omega), fun q h1 h2 => (ho q (by have := hS.1; omega)).trans (hS.2.1 q h1 h2), hS.2.2⟩
section QO
variable {Γ : q_G} {cc : ByteArray} {own : String} {sz cells slots : Nat} {h : q_H} {lv : List (Nat × Value)} {st : List Value} {pc a ci k idx nl fr lo mc ms : Nat} {ft : FieldType} {α : Type} {ρ : α}
theorem q_new (C : q_C Γ cc own) (Rm : q_Rm Γ nl fr lo mc ms) {Cn : String} {T : u_T} {N : Nat} {ty : Nat → FieldType} (F : q_F ci Cn T N ty) (fs : List Value) (hfs : ∀ j, j < N → defaultValue (ty j) = vp_V fs j) (hcl : Cond.classLink own idx Cn ∈ q_T) (hinst : Cond.instantiable Cn N ∈ q_T) (hini : Cond.initialized Cn ∈ q_T) (hc : cells + 1 ≤ mc ∧ slots + N ≤ ms) (hd : decode cc pc = .ok (.new idx, 3))
    (kk : q_V Γ (sz + 1) (cells + 1) (slots + N) (va_up h sz (.inr (ci, fs))) lv (.ref sz :: st) (pc + 3)) : q_V Γ sz cells slots h lv st pc := by
  obtain ⟨⟨p, l, ev, R, s, m, args, below, meth, c⟩, Q, base, nL, D, tc⟩ := Γ
  obtain ⟨hx, hb, hml, hown, hts, hK, hbs, hS0⟩ := C
  obtain ⟨-, hRm⟩ := Rm
  obtain ⟨f1, f2, f3, f4, f5⟩ := F
  dsimp only at hRm
  intro H locs ls hR hS hl
  have hKn := hK.1 ci _ f1
  refine W.newcK hx hb hown (hts _ hcl) (hts _ hinst) (hts _ hini) rfl hd (by rw [hRm]; exact hc.1) (by rw [hRm]; exact hc.2) hKn.2.1 hR.1 fun H1 kC hkC e1 z1 o1 => ?_
  exact kk H1 locs ls (hR.push z1 o1 ⟨_, f1, (u_born ty hts f2 hKn hkC e1 f3).to hfs⟩) (q_S_push hS hR.1 z1 o1) hl
theorem q_newa (C : q_C Γ cc own) (Rm : q_Rm Γ nl fr lo mc ms) {atype : ArrayType} {t N' : Nat} {ty : FieldType} {n : Int32} (x : (Nat → Int32) ⊕ (Nat → Int64) ⊕ (Nat → UInt32) ⊕ (Nat → UInt64) ⊕ (Nat → Option Nat)) (hat : newarray.typeOf atype = ty) (hw : Cond.arrayClass ty ∈ q_T) (ht : ∀ tc : Nat → ClassId, (q_tys tc)[t]? = some (tc t, ty)) (hra : ∀ (U : State) (cA : ClassId), va_RA U cA ty → U.vm.findClass ("[" ++ ty.toString) = some cA) (hxx : ∀ cA : ClassId, vp_cell cA (N', x) = arrV cA N' (fun _ => defaultValue ty)) (hn : ¬ n < 0) (hN : n.toNatClampNeg = N') (hbytes : N' * componentBytes ty ≤ 536870912) (hc : cells + 1 ≤ mc ∧ slots + N' ≤ ms) (hd : decode cc pc = .ok (.newarray atype, 2))
    (kk : q_V Γ (sz + 1) (cells + 1) (slots + N') (va_up h sz (.inl (t, N', x))) lv (.ref sz :: st) (pc + 2)) : q_V Γ sz cells slots h lv (.int n :: st) pc := by
  obtain ⟨⟨p, l, ev, R, s, m, args, below, meth, c⟩, Q, base, nL, D, tc⟩ := Γ
  obtain ⟨hx, hb, hml, hown, hts, hK, hbs, hS0⟩ := C
  obtain ⟨-, hRm⟩ := Rm
  dsimp only at hRm
  subst hat
  intro H locs ls hR hS hl
  refine va_newaK hx hb (hts _ hw) rfl hd rfl hn hN hbytes (by rw [hRm]; exact hc.1) (by rw [hRm]; exact hc.2) hR.1 fun H1 cA e1 z1 o1 hAr hNm => ?_
  have hcA : cA = tc t := Option.some.inj (hNm.symm.trans (hra s _ (hK.2 t _ (ht tc)).2))
  refine kk H1 locs ls (hR.push z1 o1 ?_) (q_S_push hS hR.1 z1 o1) hl
  show H1[sz]? = some (vp_cell (tc t) (N', x))
  rw [e1, hxx, hcA]
theorem q_newr (C : q_C Γ cc own) (Rm : q_Rm Γ nl fr lo mc ms) {t N' : Nat} {Cn : String} {n : Int32} (hcl : Cond.classLink own idx Cn ∈ q_T) (hao : va_AO Cn Γ.1.2.2.2.2.1) (ht : ∀ tc : Nat → ClassId, (q_tys tc)[t]? = some (tc t, .object Cn)) (hn : ¬ n < 0) (hN : n.toNatClampNeg = N') (hbytes : N' * 4 ≤ 536870912) (hc : cells + 1 ≤ mc ∧ slots + N' ≤ ms) (hd : decode cc pc = .ok (.anewarray idx, 3))
    (kk : q_V Γ (sz + 1) (cells + 1) (slots + N') (va_up h sz (.inl (t, N', .inr (.inr (.inr (.inr (fun _ => none))))))) lv (.ref sz :: st) (pc + 3)) : q_V Γ sz cells slots h lv (.int n :: st) pc := by
  obtain ⟨⟨p, l, ev, R, s, m, args, below, meth, c⟩, Q, base, nL, D, tc⟩ := Γ
  obtain ⟨hx, hb, hml, hown, hts, hK, hbs, hS0⟩ := C
  obtain ⟨-, hRm⟩ := Rm
  dsimp only at hRm hao
  intro H locs ls hR hS hl
  subst hN
  refine W.anew hx hb hown (hts _ hcl) (va_AO.use hao) rfl hd rfl hn hbytes (by rw [hRm]; exact hc.1) (by rw [hRm]; exact hc.2) fun cA kA comp f1 f2 f3 f4 => ?_
  have hcA : cA = tc t := by
    obtain ⟨kA', comp', -, -, -, g4⟩ := (hK.2 t _ (ht tc)).2
    exact Option.some.inj (f1.symm.trans g4)
  subst hcA
  generalize hH1 : H.push ({ cls := tc t, slots := Array.replicate n.toNatClampNeg .null, vm := .none } : Cell) = H1
  have z1 : H1.size = sz + 1 := by rw [← hH1, Array.size_push, hR.1]
  have e1 : H1[sz]? = some (arrV (tc t) n.toNatClampNeg (fun _ => .null)) := by rw [← hH1, ← hR.1, Array.getElem?_push_size, ← arrV_new]
  have o1 : ∀ q : Nat, q < sz → H1[q]? = H[q]? := fun q hq => by rw [← hH1, Array.getElem?_push, if_neg (Nat.ne_of_lt (by rw [hR.1]; exact hq))]
  have hsz : H.size = sz := hR.1
  show W p l ev R s m args below meth c H1 locs _ _ Q (F0 m (pc + 3) ls (.ref H.size :: st))
  rw [hsz]
  refine kk H1 locs ls (hR.push z1 o1 ?_) (q_S_push hS hR.1 z1 o1) hl
  show H1[sz]? = some (vp_cell (tc t) _)
  rw [e1, vp_cell_q]
  rfl
/-- a final field of its own class, written in its constructor -/
theorem q_putF (C : q_C Γ cc own) (hin : Γ.1.2.2.2.2.2.2.2.2.1.name = "<init>") (L : ∃ (Cn : String) (T : u_T) (N : Nat) (ty : Nat → FieldType), q_F ci Cn T N ty ∧ k < N ∧ Cond.fieldLink own idx (T k).1 (T k).2.1 (T k).2.2.1 ∈ q_T ∧ ty k = ft ∧ (T k).2.2.2 = true ∧ (T k).1 = own) {v : Value} {f : q_H → Option α} (hm : (q_pf h a ci k v).bind f = some ρ) (hn : narrow ft v = v) (hf : fits ft v = true) (hd : decode cc pc = .ok (.putfield idx, 3)) (kk : ∀ h1, f h1 = some ρ → q_V Γ sz cells slots h1 lv st (pc + 3)) : q_V Γ sz cells slots h lv (v :: .ref a :: st) pc := by
  obtain ⟨h1, e, hm⟩ := q_b hm
  obtain ⟨⟨p, l, ev, R, s, m, args, below, meth, c⟩, Q, base, nL, D, tc⟩ := Γ
  obtain ⟨hx, hb, hml, hown, hts, hK, hbs, hS0⟩ := C
  obtain ⟨Cn, T, N, ty, ⟨f1, f2, f3, f4, f5⟩, l1, l2, l3, l4, l5⟩ := L
  obtain ⟨fs, e1, e2, rfl⟩ := q_pf_spec e
  dsimp only at hin
  intro H locs ls hR hS hl
  have hne : h a ≠ q_no := by rw [e1]; exact q_obj_ne f5
  have hba := (hR.2.2.2 a hne).1
  obtain ⟨q0, hq⟩ := q_at hR hne
  have hq0 := hq
  rw [e1] at hq
  have hap := va_apart (own := own) hts f2 ty f3 f4 hK f1
  obtain ⟨r, r1, cell, q1, q2, q3, q4⟩ := hR.2.2.1 q0 _ hq
  have hr : r = (Cn, T, N) := Option.some.inj (r1.symm.trans f1)
  subst hr
  obtain ⟨hSl, hfc, kC, hkC, hkind⟩ := hK.1 ci _ f1
  obtain ⟨cf, kf, fi, g, hi, hsl⟩ := hSl k l1
  have hlay := hts _ (f2 _ (u_in_lay l1))
  unfold u_lay at hlay
  rw [if_pos l4] at hlay
  have hst := (u_facts hfc hkC (u_lays hts f2 l1) hi).1
  have hcf : m.cls = cf := by
    obtain ⟨_, _, c', _, _, _, -, -, hf', -, -, -, hown2, -⟩ := Cond.laysFinal_spec hlay
    have e1 : c' = cf := by have := hi.symm.trans hf'; simp at this; exact this.1.symm
    rw [l5] at hown2
    rw [← e1]; exact Option.some.inj (hown.symm.trans hown2)
  have h6 := u_fits (v := v) hfc hkC hkind (Or.inr hlay) hi ((f3 k l1).trans (congrArg some l3)) hn hf
  refine W.putFinK hx hb hown (hts _ l2) hi hst hcf hin (by rw [q2]; exact h6) q1 q3 (by rw [hsl]; exact k2_hasslot (q4 k l1)) rfl rfl hd fun H' e1' e2' e3' => ?_
  rw [hsl] at e1' ⊢
  exact kk _ hm H' _ ls (hR.upd hne hq0 (x := .inr (ci, fs.set k v)) ⟨_, f1, t_OB.to (V := updV (vp_V fs) k v) ⟨_, e1', q2, q3, t_set q4 hap l1 v⟩ (fun j _ => vp_updV_set e2 v j)⟩ e2' e3') (hS.put e2' e3' hba) hl
/-- Object.<init> -/
theorem q_obj (C : q_C Γ cc own) (Rm : q_Rm Γ nl fr lo mc ms) (h1 : Cond.methodLink own idx Lib.objectInit ∈ q_T) (h2 : Cond.instanceMethod Lib.objectInit ∈ q_T) (h3 : Cond.code Lib.objectInit ⟨#[0xb1]⟩ 1 none ∈ q_T) (hf : 1 ≤ fr ∧ (st.map fun v => v.category).sum + 12 ≤ lo) (hd : decode cc pc = .ok (.invokespecial idx, 3)) (kk : q_V Γ sz cells slots h lv st (pc + 3)) : q_V Γ sz cells slots h lv (.ref a :: st) pc := by
  obtain ⟨⟨p, l, ev, R, s, m, args, below, meth, c⟩, Q, base, nL, D, tc⟩ := Γ
  obtain ⟨hx, hb, hml, hown, hts, hK, hbs, hS0⟩ := C
  obtain ⟨-, hRm⟩ := Rm
  dsimp only at hRm
  intro H locs ls hR hS hl
  refine W.objInit hx hb hown (hts _ h1) (hts _ h2) (hts _ h3) rfl (by rw [hml]; exact hl.1) rfl hd (by rw [hRm]; exact hf.1) (by rw [hRm]; show 2 * 0 + (st.map fun v => v.category).sum + 12 ≤ lo; have := hf.2; omega) ?_
  exact W.eq (g2 := F0 m (pc + 3) ls st) rfl (kk H locs ls hR hS hl)
end QO
theorem q_za0 (n : Nat) (cA : ClassId) : vp_cell cA (n, .inl (fun _ => (0 : Int32))) = arrV cA n (fun _ => defaultValue .int) := rfl
section QP
variable {Γ : q_G} {cc : ByteArray} {own : String} {sz cells slots : Nat} {h h1 h' : q_H} {lv : List (Nat × Value)} {st rest st0 As : List Value} {pc b ci idx nl fr lo mc ms fr' lo' mc' ms' n maxL z sz' : Nat} {y : MethodName} {cY : ByteArray} {α : Type} {ρ : α}
theorem q_aoG (C : q_C Γ cc own) : va_AO "TugRope$Game" Γ.1.2.2.2.2.1 := by
  obtain ⟨⟨p, l, ev, R, s, m, args, below, meth, c⟩, Q, base, nL, D, tc⟩ := Γ
  exact C.2.2.2.2.2.2.2.2.2.1
theorem q_aoR (C : q_C Γ cc own) : va_AO "TugRope$Rule" Γ.1.2.2.2.2.1 := by
  obtain ⟨⟨p, l, ev, R, s, m, args, below, meth, c⟩, Q, base, nL, D, tc⟩ := Γ
  exact C.2.2.2.2.2.2.2.2.2.2.1
theorem q_aoT (C : q_C Γ cc own) : va_AO "TugRope$Tug" Γ.1.2.2.2.2.1 := by
  obtain ⟨⟨p, l, ev, R, s, m, args, below, meth, c⟩, Q, base, nL, D, tc⟩ := Γ
  exact C.2.2.2.2.2.2.2.2.2.2.2.1
theorem q_icge_t (C : q_C Γ cc own) {x y : Int32} {off : Int} (tgt : Nat) (hc : y ≤ x) (hd : decode cc pc = .ok (.if_icmp .ge off, 3)) (ht : (pc : Int) + off = (tgt : Int)) (k : q_V Γ sz cells slots h lv st tgt) : q_V Γ sz cells slots h lv (.int y :: .int x :: st) pc :=
  q_icmp_ge C (α := Unit) (A := some ()) (B := none) (ρ := ()) tgt (by rw [if_pos hc]) hd ht (fun _ _ => k) (fun q _ => absurd hc q)
theorem q_icge_f (C : q_C Γ cc own) {x y : Int32} {off : Int} (tgt : Nat) (hc : ¬ y ≤ x) (hd : decode cc pc = .ok (.if_icmp .ge off, 3)) (ht : (pc : Int) + off = (tgt : Int)) (k : q_V Γ sz cells slots h lv st (pc + 3)) : q_V Γ sz cells slots h lv (.int y :: .int x :: st) pc :=
  q_icmp_ge C (α := Unit) (A := none) (B := some ()) (ρ := ()) tgt (by rw [if_neg hc]) hd ht (fun q _ => absurd q hc) (fun _ _ => k)
theorem q_rvA (hm : some (z, h1) = some (sz', h')) (K : q_K Γ cc .return_ sz' h' mc ms []) (hc : cells ≤ mc ∧ slots ≤ ms) (hd : decode cc pc = .ok (.return_, 1)) : q_V Γ z cells slots h1 lv [] pc := by
  cases hm
  exact q_widen hc.1 hc.2 (q_ret K hd)
theorem q_riA {rt : FieldType} {x r : Int32} (hm : some (x, z, h1) = some (r, sz', h')) (K : narrow rt (.int r) = .int r → q_K Γ cc .ireturn sz' h' mc ms [.int r]) (hz : narrow rt (.int x) = .int x) (hc : cells ≤ mc ∧ slots ≤ ms) (hd : decode cc pc = .ok (.ireturn, 1)) : q_V Γ z cells slots h1 lv [.int x] pc := by
  cases hm
  exact q_widen hc.1 hc.2 (q_ret (K hz) hd)
theorem q_rnA {x r : Nat} (hm : some (x, z, h1) = some (r, sz', h')) (K : q_K Γ cc .areturn sz' h' mc ms [va_rf (some r)]) (hc : cells ≤ mc ∧ slots ≤ ms) (hd : decode cc pc = .ok (.areturn, 1)) : q_V Γ z cells slots h1 lv [.ref x] pc := by
  cases hm
  exact q_widen hc.1 hc.2 (q_ret K hd)
theorem q_inA (C : q_C Γ cc own) (Rm : q_Rm Γ nl fr lo mc ms) (Y : q_Y y cY maxL none n) (Yi : y.name = "<init>" ∧ Cond.instanceMethod y ∈ q_T) (hl : Cond.methodLink own idx y ∈ q_T) (hf : fr' + 1 ≤ fr ∧ 8 + (maxL + 11) + lo' ≤ lo) (hc : cells + mc' ≤ mc ∧ slots + ms' ≤ ms) {o : Option (Nat × q_H)} {f : Nat × q_H → Option α} (hm : o.bind f = some ρ)
    (hM : ∀ (z1 : Nat) (h1 : q_H), o = some (z1, h1) → q_M Γ.1.2.1 y cY maxL none fr' lo' mc' ms' Γ.2.2.1 Γ.2.2.2.2.1 Γ.2.2.2.2.2 (.ref b :: As) sz h none z1 h1) (hn : As.length = n) (hst : st0 = As.reverse ++ .ref b :: rest) (hw : (rest.map fun v => v.category).sum ≤ 8) (hd : decode cc pc = .ok (.invokespecial idx, 3))
    (kk : ∀ (z1 : Nat) (h1 : q_H), f (z1, h1) = some ρ → q_V Γ z1 (cells + mc') (slots + ms') h1 lv rest (pc + 3)) : q_V Γ sz cells slots h lv st0 pc := by
  obtain ⟨⟨z1, h1⟩, e, hm⟩ := q_b hm
  exact q_calln C Rm Y Yi hl hf hc (hM z1 h1 e) hn hst hw hd (kk z1 h1 hm)
theorem q_inS (C : q_C Γ cc own) (Rm : q_Rm Γ nl fr lo mc ms) (Y : q_Y y cY maxL none n) (Yi : y.name = "<init>" ∧ Cond.instanceMethod y ∈ q_T) (hl : Cond.methodLink own idx y ∈ q_T) (hf : fr' + 1 ≤ fr ∧ 8 + (maxL + 11) + lo' ≤ lo) (hc : cells + 0 ≤ mc ∧ slots + 0 ≤ ms) {o : Option q_H} {f : q_H → Option α} (hm : o.bind f = some ρ)
    (hM : ∀ (h1 : q_H), o = some h1 → q_M Γ.1.2.1 y cY maxL none fr' lo' 0 0 Γ.2.2.1 Γ.2.2.2.2.1 Γ.2.2.2.2.2 (.ref b :: As) sz h none sz h1) (hn : As.length = n) (hst : st0 = As.reverse ++ .ref b :: rest) (hw : (rest.map fun v => v.category).sum ≤ 8) (hd : decode cc pc = .ok (.invokespecial idx, 3))
    (kk : ∀ (h1 : q_H), f h1 = some ρ → q_V Γ sz cells slots h1 lv rest (pc + 3)) : q_V Γ sz cells slots h lv st0 pc := by
  obtain ⟨h1, e, hm⟩ := q_b hm
  exact q_calln C Rm Y Yi hl hf hc (hM h1 e) hn hst hw hd (kk h1 hm)
theorem q_saA (C : q_C Γ cc own) (Rm : q_Rm Γ nl fr lo mc ms) {rt : FieldType} (Y : q_Y y cY maxL (some rt) n) (Ys : Cond.static y ∈ q_T) (hl : Cond.methodLink own idx y ∈ q_T) (hf : fr' + 1 ≤ fr ∧ 8 + (maxL + 11) + lo' ≤ lo) (hc : cells + mc' ≤ mc ∧ slots + ms' ≤ ms) {o : Option (Nat × Nat × q_H)} {f : Nat × Nat × q_H → Option α} (hm : o.bind f = some ρ)
    (hM : ∀ (r z1 : Nat) (h1 : q_H), o = some (r, z1, h1) → q_M Γ.1.2.1 y cY maxL (some rt) fr' lo' mc' ms' Γ.2.2.1 Γ.2.2.2.2.1 Γ.2.2.2.2.2 As sz h (some (.ref r)) z1 h1) (hn : As.length = n) (hst : st0 = As.reverse ++ rest) (hw : (rest.map fun v => v.category).sum ≤ 8) (hd : decode cc pc = .ok (.invokestatic idx, 3))
    (kk : ∀ (r z1 : Nat) (h1 : q_H), f (r, z1, h1) = some ρ → q_V Γ z1 (cells + mc') (slots + ms') h1 lv (.ref r :: rest) (pc + 3)) : q_V Γ sz cells slots h lv st0 pc := by
  obtain ⟨⟨r, z1, h1⟩, e, hm⟩ := q_b hm
  exact q_calls C Rm Y Ys hl hf hc (hM r z1 h1 e) hn hst hw hd (fun _ => kk r z1 h1 hm)
theorem q_vaA (C : q_C Γ cc own) (Rm : q_Rm Γ nl fr lo mc ms) {rt : FieldType} (Y : q_Y y cY maxL (some rt) n) (Yv : q_Yv y ci) (hl : Cond.methodLink own idx y ∈ q_T) (hf : fr' + 1 ≤ fr ∧ 8 + (maxL + 11) + lo' ≤ lo) (hc : cells + mc' ≤ mc ∧ slots + ms' ≤ ms) {o : Option (Nat × Nat × q_H)} {f : Nat × Nat × q_H → Option α} (hm : (q_ca ci h b o).bind f = some ρ)
    (hM : ∀ (r z1 : Nat) (h1 : q_H), o = some (r, z1, h1) → q_M Γ.1.2.1 y cY maxL (some rt) fr' lo' mc' ms' Γ.2.2.1 Γ.2.2.2.2.1 Γ.2.2.2.2.2 (.ref b :: As) sz h (some (.ref r)) z1 h1) (hn : As.length = n) (hst : st0 = As.reverse ++ .ref b :: rest) (hw : (rest.map fun v => v.category).sum ≤ 8) (hd : decode cc pc = .ok (.invokevirtual idx, 3))
    (kk : ∀ (r z1 : Nat) (h1 : q_H), f (r, z1, h1) = some ρ → q_V Γ z1 (cells + mc') (slots + ms') h1 lv (.ref r :: rest) (pc + 3)) : q_V Γ sz cells slots h lv st0 pc := by
  obtain ⟨⟨r, z1, h1⟩, e, hm⟩ := q_b hm
  obtain ⟨hb, e⟩ := q_ca_spec e
  exact q_callv C Rm Y Yv hl hf hc (hM r z1 h1 e) hb hn hst hw hd (fun _ => kk r z1 h1 hm)
end QP

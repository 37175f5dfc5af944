/-- a class of ours: its number, name, fields, their types; the words of its layout are in the table -/
def q_F (ci : Nat) (C : String) (T : u_T) (N : Nat) (ty : Nat → FieldType) : Prop := vwCl[ci]? = some (C, T, N) ∧ (∀ w ∈ u_ws C T N, w ∈ q_T) ∧ (∀ k, k < N → parseFieldDescriptor (T k).2.2.1 = some (ty k)) ∧ (∀ a, a < N → ∀ b, b < N → a ≠ b → (T a).2.1 ≠ (T b).2.1) ∧ ci < 13
/-- a link to a field, in class own at number idx: field k of class ci -/
def q_L (own : String) (idx ci k : Nat) (ft : FieldType) (fin : Bool) : Prop := ∃ (C : String) (T : u_T) (N : Nat) (ty : Nat → FieldType), q_F ci C T N ty ∧ k < N ∧ Cond.fieldLink own idx (T k).1 (T k).2.1 (T k).2.2.1 ∈ q_T ∧ ty k = ft ∧ (T k).2.2.2 = fin
section QR2
variable {Γ : q_G} {cc : ByteArray} {own : String} {sz cells slots : Nat} {h : q_H} {lv : List (Nat × Value)} {st : List Value} {pc a ci k idx : Nat} {ft : FieldType} {α : Type} {ρ : α}
theorem q_getf {fin : Bool} (C : q_C Γ cc own) (L : q_L own idx ci k ft fin) {v : Value} (e : q_fd h a ci k = some v) (hd : decode cc pc = .ok (.getfield idx, 3)) (kk : q_V Γ sz cells slots h lv (v :: st) (pc + 3)) : q_V Γ sz cells slots h lv (.ref a :: st) pc := by
  obtain ⟨⟨p, l, ev, R, s, m, args, below, meth, c⟩, Q, base, nL, D, tc⟩ := Γ
  obtain ⟨hx, hb, hml, hown, hts, hK, hbs, hS0⟩ := C
  obtain ⟨Cn, T, N, ty, ⟨f1, f2, f3, f4, f5⟩, l1, l2, l3, l4⟩ := L
  obtain ⟨fs, e1, e2⟩ := q_fd_spec e
  intro H locs ls hR hS hl
  obtain ⟨q0, hq⟩ := q_at hR (by rw [e1]; exact q_obj_ne f5)
  rw [e1] at hq
  exact va_get (D := D) hx hb hts f2 hown hK hR.2.2.1 q0 hq f1 k l1 (hts _ l2) (fun _ h9 => h9) e2 hd (kk H locs ls hR hS hl)
theorem q_geti {fin : Bool} (C : q_C Γ cc own) (L : q_L own idx ci k ft fin) {f : Int32 → Option α} (hm : (q_gi h a ci k).bind f = some ρ) (hd : decode cc pc = .ok (.getfield idx, 3)) (kk : ∀ v, f v = some ρ → q_V Γ sz cells slots h lv (.int v :: st) (pc + 3)) : q_V Γ sz cells slots h lv (.ref a :: st) pc := by
  obtain ⟨v, e, hm⟩ := q_b hm
  exact q_getf C L (q_gi_spec e) hd (kk v hm)
theorem q_getl {fin : Bool} (C : q_C Γ cc own) (L : q_L own idx ci k ft fin) {f : Int64 → Option α} (hm : (q_gl h a ci k).bind f = some ρ) (hd : decode cc pc = .ok (.getfield idx, 3)) (kk : ∀ v, f v = some ρ → q_V Γ sz cells slots h lv (.long v :: st) (pc + 3)) : q_V Γ sz cells slots h lv (.ref a :: st) pc := by
  obtain ⟨v, e, hm⟩ := q_b hm
  exact q_getf C L (q_gl_spec e) hd (kk v hm)
theorem q_getn {fin : Bool} (C : q_C Γ cc own) (L : q_L own idx ci k ft fin) {f : Nat → Option α} (hm : (q_gn h a ci k).bind f = some ρ) (hd : decode cc pc = .ok (.getfield idx, 3)) (kk : ∀ v, f v = some ρ → q_V Γ sz cells slots h lv (.ref v :: st) (pc + 3)) : q_V Γ sz cells slots h lv (.ref a :: st) pc := by
  obtain ⟨v, e, hm⟩ := q_b hm
  exact q_getf C L (q_gn_spec e) hd (kk v hm)
theorem q_geto {fin : Bool} (C : q_C Γ cc own) (L : q_L own idx ci k ft fin) {f : Option Nat → Option α} (hm : (q_go h a ci k).bind f = some ρ) (hd : decode cc pc = .ok (.getfield idx, 3)) (kk : ∀ v, f v = some ρ → q_V Γ sz cells slots h lv (va_rf v :: st) (pc + 3)) : q_V Γ sz cells slots h lv (.ref a :: st) pc := by
  obtain ⟨v, e, hm⟩ := q_b hm
  exact q_getf C L (q_go_spec e) hd (kk v hm)
theorem q_putf (C : q_C Γ cc own) (L : q_L own idx ci k ft false) {v : Value} {f : q_H → Option α} (hm : (q_pf h a ci k v).bind f = some ρ) (hn : narrow ft v = v) (hf : fits ft v = true) (hd : decode cc pc = .ok (.putfield idx, 3)) (kk : ∀ h1, f h1 = some ρ → q_V Γ sz cells slots h1 lv st (pc + 3)) : q_V Γ sz cells slots h lv (v :: .ref a :: st) pc := by
  obtain ⟨h1, e, hm⟩ := q_b hm
  obtain ⟨⟨p, l, ev, R, s, m, args, below, meth, c⟩, Q, base, nL, D, tc⟩ := Γ
  obtain ⟨hx, hb, hml, hown, hts, hK, hbs, hS0⟩ := C
  obtain ⟨Cn, T, N, ty, ⟨f1, f2, f3, f4, f5⟩, l1, l2, l3, l4⟩ := L
  obtain ⟨fs, e1, e2, rfl⟩ := q_pf_spec e
  intro H locs ls hR hS hl
  have hne : h a ≠ q_no := by rw [e1]; exact q_obj_ne f5
  have hba := (hR.2.2.2 a hne).1
  obtain ⟨q0, hq⟩ := q_at hR hne
  have hq0 := hq
  rw [e1] at hq
  have hap := va_apart (own := own) hts f2 ty f3 f4 hK f1
  obtain ⟨r, r1, cell, q1, q2, q3, q4⟩ := hR.2.2.1 q0 _ hq
  have hr : r = (Cn, T, N) := Option.some.inj (r1.symm.trans f1)
  subst hr
  obtain ⟨hSl, hfc, kC, hkC, hkind⟩ := hK.1 ci _ f1
  obtain ⟨cf, kf, fi, g, hi, hsl⟩ := hSl k l1
  have hlay := hts _ (f2 _ (u_in_lay l1))
  unfold u_lay at hlay
  rw [if_neg (by rw [l4]; decide)] at hlay
  have hst := (u_facts hfc hkC (u_lays hts f2 l1) hi).1
  have h6 := u_store (v := v) hfc hkC hkind hlay hi ((f3 k l1).trans (congrArg some l3)) hn hf
  refine W.putK hx hb (f := g) ⟨hown, hts _ l2, ⟨_, _, _, hi⟩, hst⟩ (by rw [q2]; exact h6) q1 q3 (by rw [hsl]; exact k2_hasslot (q4 k l1)) rfl rfl hd fun H' e1' e2' e3' => ?_
  rw [hsl] at e1' ⊢
  exact kk _ hm H' _ ls (hR.upd hne hq0 (x := .inr (ci, fs.set k v)) ⟨_, f1, t_OB.to (V := updV (vp_V fs) k v) ⟨_, e1', q2, q3, t_set q4 hap l1 v⟩ (fun j _ => vp_updV_set e2 v j)⟩ e2' e3') (hS.put e2' e3' hba) hl
theorem q_ir (C : q_C Γ cc own) {i : Int32} {f : Int32 → Option α} (hm : (q_ai h a 1 i).bind f = some ρ) (hd : decode cc pc = .ok (.iaload, 1)) (kk : ∀ v, f v = some ρ → q_V Γ sz cells slots h lv (.int v :: st) (pc + 1)) : q_V Γ sz cells slots h lv (.int i :: .ref a :: st) pc := by
  obtain ⟨v, e, hm⟩ := q_b hm
  obtain ⟨n, g, e1, e2, rfl⟩ := q_ai_spec e
  obtain ⟨⟨p, l, ev, R, s, m, args, below, meth, c⟩, Q, base, nL, D, tc⟩ := Γ
  obtain ⟨hx, hb, hml, hown, hts, hK, hbs, hS0⟩ := C
  intro H locs ls hR hS hl
  obtain ⟨q0, hq⟩ := q_at hR (by rw [e1]; exact q_arr_ne)
  rw [e1] at hq
  exact va_iald (D := D) hx hb hK hR.2.2.1 q0 1 hq rfl e2 hd (kk _ hm H locs ls hR hS hl)
theorem q_br (C : q_C Γ cc own) {i : Int32} {f : Int32 → Option α} (hm : (q_ai h a 0 i).bind f = some ρ) (hd : decode cc pc = .ok (.baload, 1)) (kk : ∀ v, f v = some ρ → q_V Γ sz cells slots h lv (.int v :: st) (pc + 1)) : q_V Γ sz cells slots h lv (.int i :: .ref a :: st) pc := by
  obtain ⟨v, e, hm⟩ := q_b hm
  obtain ⟨n, g, e1, e2, rfl⟩ := q_ai_spec e
  obtain ⟨⟨p, l, ev, R, s, m, args, below, meth, c⟩, Q, base, nL, D, tc⟩ := Γ
  obtain ⟨hx, hb, hml, hown, hts, hK, hbs, hS0⟩ := C
  intro H locs ls hR hS hl
  obtain ⟨q0, hq⟩ := q_at hR (by rw [e1]; exact q_arr_ne)
  rw [e1] at hq
  exact va_bald (D := D) hx hb hK hR.2.2.1 q0 0 hq rfl e2 hd (kk _ hm H locs ls hR hS hl)
theorem q_zr (C : q_C Γ cc own) {i : Int32} {f : Int32 → Option α} (hm : (q_ai h a 3 i).bind f = some ρ) (hd : decode cc pc = .ok (.baload, 1)) (kk : ∀ v, f v = some ρ → q_V Γ sz cells slots h lv (.int v :: st) (pc + 1)) : q_V Γ sz cells slots h lv (.int i :: .ref a :: st) pc := by
  obtain ⟨v, e, hm⟩ := q_b hm
  obtain ⟨n, g, e1, e2, rfl⟩ := q_ai_spec e
  obtain ⟨⟨p, l, ev, R, s, m, args, below, meth, c⟩, Q, base, nL, D, tc⟩ := Γ
  obtain ⟨hx, hb, hml, hown, hts, hK, hbs, hS0⟩ := C
  intro H locs ls hR hS hl
  obtain ⟨q0, hq⟩ := q_at hR (by rw [e1]; exact q_arr_ne)
  rw [e1] at hq
  exact va_zald (D := D) hx hb hK hR.2.2.1 q0 3 hq rfl e2 hd (kk _ hm H locs ls hR hS hl)
theorem q_lr (C : q_C Γ cc own) {i : Int32} {f : Int64 → Option α} (hm : (q_al h a i).bind f = some ρ) (hd : decode cc pc = .ok (.laload, 1)) (kk : ∀ v, f v = some ρ → q_V Γ sz cells slots h lv (.long v :: st) (pc + 1)) : q_V Γ sz cells slots h lv (.int i :: .ref a :: st) pc := by
  obtain ⟨v, e, hm⟩ := q_b hm
  obtain ⟨n, g, e1, e2, rfl⟩ := q_al_spec e
  obtain ⟨⟨p, l, ev, R, s, m, args, below, meth, c⟩, Q, base, nL, D, tc⟩ := Γ
  obtain ⟨hx, hb, hml, hown, hts, hK, hbs, hS0⟩ := C
  intro H locs ls hR hS hl
  obtain ⟨q0, hq⟩ := q_at hR (by rw [e1]; exact q_arr_ne)
  rw [e1] at hq
  exact va_lald (D := D) hx hb hK hR.2.2.1 q0 2 hq rfl e2 hd (kk _ hm H locs ls hR hS hl)
theorem q_len (C : q_C Γ cc own) {f : Int32 → Option α} (hm : (q_ln h a).bind f = some ρ) (hd : decode cc pc = .ok (.arraylength, 1)) (kk : ∀ v, f v = some ρ → q_V Γ sz cells slots h lv (.int v :: st) (pc + 1)) : q_V Γ sz cells slots h lv (.ref a :: st) pc := by
  obtain ⟨v, e, hm⟩ := q_b hm
  obtain ⟨u, n, x, e1, e2, e3⟩ := q_ln_spec e
  obtain ⟨⟨p, l, ev, R, s, m, args, below, meth, c⟩, Q, base, nL, D, tc⟩ := Γ
  obtain ⟨hx, hb, hml, hown, hts, hK, hbs, hS0⟩ := C
  intro H locs ls hR hS hl
  obtain ⟨q0, hq⟩ := q_at hR (by rw [e1]; exact q_arr_ne)
  rw [e1] at hq
  have ht : ∀ w : Nat, w < 8 → ∃ ty, (q_tys tc)[w]? = some (tc w, ty) := fun w hw => by
    rcases (show w = 0 ∨ w = 1 ∨ w = 2 ∨ w = 3 ∨ w = 4 ∨ w = 5 ∨ w = 6 ∨ w = 7 by omega) with rfl | rfl | rfl | rfl | rfl | rfl | rfl | rfl <;> exact ⟨_, rfl⟩
  obtain ⟨ty, ht⟩ := ht u e2
  exact va_alen (D := D) hx hb hK hR.2.2.1 q0 u hq ht e3 hd (kk _ hm H locs ls hR hS hl)
theorem q_iw (C : q_C Γ cc own) {i x : Int32} {f : q_H → Option α} (hm : (q_si h a 1 i x).bind f = some ρ) (hd : decode cc pc = .ok (.iastore, 1)) (kk : ∀ h1, f h1 = some ρ → q_V Γ sz cells slots h1 lv st (pc + 1)) : q_V Γ sz cells slots h lv (.int x :: .int i :: .ref a :: st) pc := by
  obtain ⟨h1, e, hm⟩ := q_b hm
  obtain ⟨n, g, e1, e2, rfl⟩ := q_si_spec e
  obtain ⟨⟨p, l, ev, R, s, m, args, below, meth, c⟩, Q, base, nL, D, tc⟩ := Γ
  obtain ⟨hx, hb, hml, hown, hts, hK, hbs, hS0⟩ := C
  intro H locs ls hR hS hl
  have hne : h a ≠ q_no := by rw [e1]; exact q_arr_ne
  obtain ⟨q0, hq⟩ := q_at hR hne
  have hq0 := hq
  rw [e1] at hq
  refine W.iast hx hb (hR.2.2.1 q0 _ hq) ((hK.2 1 _ rfl).1 n (fun j => .int (g j))) (fun q => by cases q) (by show ¬ (i < 0 ∨ (arrV _ _ _).slots.size ≤ _); rw [arrV_size]; exact e2) rfl rfl hd fun H1 e z oq => ?_
  refine kk _ hm H1 _ ls (hR.upd hne hq0 ?_ z oq) (hS.put z oq (hR.2.2.2 a hne).1) hl
  show H1[a]? = some (vp_cell _ _)
  rw [e]
  show some ((vp_cell _ _).setSlot _ _) = _
  rw [vp_cell_i, vp_cell_i, arrV_store]
  congr 2
  funext q
  by_cases hq : q = i.toNatClampNeg
  · subst hq
    simp [updV, upd]
  · simp [updV, upd, hq]
theorem q_bw (C : q_C Γ cc own) {i x : Int32} {f : q_H → Option α} (hm : (q_si h a 0 i (vp_nar .byte x)).bind f = some ρ) (hd : decode cc pc = .ok (.bastore, 1)) (kk : ∀ h1, f h1 = some ρ → q_V Γ sz cells slots h1 lv st (pc + 1)) : q_V Γ sz cells slots h lv (.int x :: .int i :: .ref a :: st) pc := by
  obtain ⟨h1, e, hm⟩ := q_b hm
  obtain ⟨n, g, e1, e2, rfl⟩ := q_si_spec e
  obtain ⟨⟨p, l, ev, R, s, m, args, below, meth, c⟩, Q, base, nL, D, tc⟩ := Γ
  obtain ⟨hx, hb, hml, hown, hts, hK, hbs, hS0⟩ := C
  intro H locs ls hR hS hl
  have hne : h a ≠ q_no := by rw [e1]; exact q_arr_ne
  obtain ⟨q0, hq⟩ := q_at hR hne
  have hq0 := hq
  rw [e1] at hq
  refine W.bast hx hb (hR.2.2.1 q0 _ hq) ((hK.2 0 _ rfl).1 n (fun j => .int (g j))) (fun q => by cases q) (by show ¬ (i < 0 ∨ (arrV _ _ _).slots.size ≤ _); rw [arrV_size]; exact e2) rfl rfl hd fun H1 e z oq => ?_
  refine kk _ hm H1 _ ls (hR.upd hne hq0 ?_ z oq) (hS.put z oq (hR.2.2.2 a hne).1) hl
  show H1[a]? = some (vp_cell _ _)
  rw [e]
  show some ((vp_cell _ _).setSlot _ _) = _
  rw [vp_cell_i, vp_cell_i, arrV_store]
  congr 2
  funext q
  by_cases hq : q = i.toNatClampNeg
  · subst hq
    simp [updV, upd, vp_nar]
    try rfl
  · simp [updV, upd, hq]
theorem q_zw (C : q_C Γ cc own) {i x : Int32} {f : q_H → Option α} (hm : (q_si h a 3 i (vp_nar .boolean x)).bind f = some ρ) (hd : decode cc pc = .ok (.bastore, 1)) (kk : ∀ h1, f h1 = some ρ → q_V Γ sz cells slots h1 lv st (pc + 1)) : q_V Γ sz cells slots h lv (.int x :: .int i :: .ref a :: st) pc := by
  obtain ⟨h1, e, hm⟩ := q_b hm
  obtain ⟨n, g, e1, e2, rfl⟩ := q_si_spec e
  obtain ⟨⟨p, l, ev, R, s, m, args, below, meth, c⟩, Q, base, nL, D, tc⟩ := Γ
  obtain ⟨hx, hb, hml, hown, hts, hK, hbs, hS0⟩ := C
  intro H locs ls hR hS hl
  have hne : h a ≠ q_no := by rw [e1]; exact q_arr_ne
  obtain ⟨q0, hq⟩ := q_at hR hne
  have hq0 := hq
  rw [e1] at hq
  refine W.zast hx hb (hR.2.2.1 q0 _ hq) ((hK.2 3 _ rfl).1 n (fun j => .int (g j))) (fun q => by cases q) (by show ¬ (i < 0 ∨ (arrV _ _ _).slots.size ≤ _); rw [arrV_size]; exact e2) rfl rfl hd fun H1 e z oq => ?_
  refine kk _ hm H1 _ ls (hR.upd hne hq0 ?_ z oq) (hS.put z oq (hR.2.2.2 a hne).1) hl
  show H1[a]? = some (vp_cell _ _)
  rw [e]
  show some ((vp_cell _ _).setSlot _ _) = _
  rw [vp_cell_i, vp_cell_i, arrV_store]
  congr 2
  funext q
  by_cases hq : q = i.toNatClampNeg
  · subst hq
    simp [updV, upd, vp_nar]
    try rfl
  · simp [updV, upd, hq]
theorem q_lw (C : q_C Γ cc own) {i : Int32} {x : Int64} {f : q_H → Option α} (hm : (q_sl h a i x).bind f = some ρ) (hd : decode cc pc = .ok (.lastore, 1)) (kk : ∀ h1, f h1 = some ρ → q_V Γ sz cells slots h1 lv st (pc + 1)) : q_V Γ sz cells slots h lv (.long x :: .int i :: .ref a :: st) pc := by
  obtain ⟨h1, e, hm⟩ := q_b hm
  obtain ⟨n, g, e1, e2, rfl⟩ := q_sl_spec e
  obtain ⟨⟨p, l, ev, R, s, m, args, below, meth, c⟩, Q, base, nL, D, tc⟩ := Γ
  obtain ⟨hx, hb, hml, hown, hts, hK, hbs, hS0⟩ := C
  intro H locs ls hR hS hl
  have hne : h a ≠ q_no := by rw [e1]; exact q_arr_ne
  obtain ⟨q0, hq⟩ := q_at hR hne
  have hq0 := hq
  rw [e1] at hq
  refine W.last hx hb (hR.2.2.1 q0 _ hq) ((hK.2 2 _ rfl).1 n (fun j => .long (g j))) (fun q => by cases q) (by show ¬ (i < 0 ∨ (arrV _ _ _).slots.size ≤ _); rw [arrV_size]; exact e2) rfl rfl hd fun H1 e z oq => ?_
  refine kk _ hm H1 _ ls (hR.upd hne hq0 ?_ z oq) (hS.put z oq (hR.2.2.2 a hne).1) hl
  show H1[a]? = some (vp_cell _ _)
  rw [e]
  show some ((vp_cell _ _).setSlot _ _) = _
  rw [vp_cell_l, vp_cell_l, arrV_store]
  congr 2
  funext q
  by_cases hq : q = i.toNatClampNeg
  · subst hq
    simp [updV, vp_updL]
  · simp [updV, vp_updL, hq]
end QR2

/-! ===== more rules: references that may be null, rows of references, copies ===== -/
section QJ
variable {Γ : q_G} {cc : ByteArray} {own : String} {sz cells slots : Nat} {h : q_H} {lv lv' : List (Nat × Value)} {st : List Value} {pc a : Nat} {α : Type} {ρ : α} {A B : Option α}
theorem q_iushr (C : q_C Γ cc own) {x y : Int32} (hd : decode cc pc = .ok (.iushr, 1)) (k : q_V Γ sz cells slots h lv (.int (x.toUInt32 >>> (y.toUInt32 &&& Int32.toUInt32 31)).toInt32 :: st) (pc + 1)) : q_V Γ sz cells slots h lv (.int y :: .int x :: st) pc := by
  obtain ⟨⟨p, l, ev, R, s, m, args, below, meth, c⟩, Q, base, nL, D, tc⟩ := Γ
  obtain ⟨hx, hb, hml, hown, hts, hK, hbs, hS0⟩ := C
  intro H locs ls hR hS hl
  exact lv_iushr hx hb hd rfl (k H locs ls hR hS hl)
theorem q_aload_nO (C : q_C Γ cc own) {k4 : Fin 4} (j : Nat) {x : Option Nat} (hj : lv[j]? = some ((k4 : Nat), va_rf x)) (hd : decode cc pc = .ok (.aload_n k4, 1)) (k : q_V Γ sz cells slots h lv (va_rf x :: st) (pc + 1)) : q_V Γ sz cells slots h lv st pc := by
  obtain ⟨⟨p, l, ev, R, s, m, args, below, meth, c⟩, Q, base, nL, D, tc⟩ := Γ
  obtain ⟨hx, hb, hml, hown, hts, hK, hbs, hS0⟩ := C
  intro H locs ls hR hS hl
  cases x with
  | none => exact lv_aload_nN hx hb hd rfl (lv_at hl j hj) (k H locs ls hR hS hl)
  | some x => exact lv_aload_n hx hb hd rfl (lv_at hl j hj) (k H locs ls hR hS hl)
theorem q_ifnull (C : q_C Γ cc own) {o : Option Nat} {off : Int} (tgt : Nat) (hm : (if o = none then A else B) = some ρ) (hd : decode cc pc = .ok (.ifnull off, 3)) (ht : (pc : Int) + off = (tgt : Int)) (k1 : o = none → A = some ρ → q_V Γ sz cells slots h lv st tgt) (k2 : ¬ o = none → B = some ρ → q_V Γ sz cells slots h lv st (pc + 3)) : q_V Γ sz cells slots h lv (va_rf o :: st) pc := by
  obtain ⟨⟨p, l, ev, R, s, m, args, below, meth, c⟩, Q, base, nL, D, tc⟩ := Γ
  obtain ⟨hx, hb, hml, hown, hts, hK, hbs, hS0⟩ := C
  intro H locs ls hR hS hl
  cases o with
  | none => exact lv_ifnullN hx hb hd ht (k1 rfl (by rw [if_pos rfl] at hm; exact hm) H locs ls hR hS hl)
  | some x => exact lv_ifnull hx hb hd (k2 (fun q => by cases q) (by rw [if_neg (fun q => by cases q)] at hm; exact hm) H locs ls hR hS hl)
theorem q_ifnonnull (C : q_C Γ cc own) {o : Option Nat} {off : Int} (tgt : Nat) (hm : (if o = none then A else B) = some ρ) (hd : decode cc pc = .ok (.ifnonnull off, 3)) (ht : (pc : Int) + off = (tgt : Int)) (k1 : ¬ o = none → B = some ρ → q_V Γ sz cells slots h lv st tgt) (k2 : o = none → A = some ρ → q_V Γ sz cells slots h lv st (pc + 3)) : q_V Γ sz cells slots h lv (va_rf o :: st) pc := by
  obtain ⟨⟨p, l, ev, R, s, m, args, below, meth, c⟩, Q, base, nL, D, tc⟩ := Γ
  obtain ⟨hx, hb, hml, hown, hts, hK, hbs, hS0⟩ := C
  intro H locs ls hR hS hl
  cases o with
  | none => exact lv_ifnonnullN hx hb hd (k2 rfl (by rw [if_pos rfl] at hm; exact hm) H locs ls hR hS hl)
  | some x => exact lv_ifnonnull hx hb hd ht (k1 (fun q => by cases q) (by rw [if_neg (fun q => by cases q)] at hm; exact hm) H locs ls hR hS hl)
theorem q_no_n {Cn : String} (o : Option Nat) : narrow (.object Cn) (va_rf o) = va_rf o := by cases o <;> rfl
theorem q_no_f {Cn : String} (o : Option Nat) : fits (.object Cn) (va_rf o) = true := by cases o <;> rfl
/-- a place of a row of references: t is the row's kind -/
theorem q_rr (C : q_C Γ cc own) {t : Nat} {ty : FieldType} (ht : ∀ tc : Nat → ClassId, (q_tys tc)[t]? = some (tc t, ty)) (hrk : refKind ty = true) {i : Int32} {f : Option Nat → Option α} (hm : (q_ar h a t i).bind f = some ρ) (hd : decode cc pc = .ok (.aaload, 1)) (kk : ∀ v, f v = some ρ → q_V Γ sz cells slots h lv (va_rf v :: st) (pc + 1)) : q_V Γ sz cells slots h lv (.int i :: .ref a :: st) pc := by
  obtain ⟨v, e, hm⟩ := q_b hm
  obtain ⟨n, g, e1, e2, rfl⟩ := q_ar_spec e
  obtain ⟨⟨p, l, ev, R, s, m, args, below, meth, c⟩, Q, base, nL, D, tc⟩ := Γ
  obtain ⟨hx, hb, hml, hown, hts, hK, hbs, hS0⟩ := C
  intro H locs ls hR hS hl
  obtain ⟨q0, hq⟩ := q_at hR (by rw [e1]; exact q_arr_ne)
  rw [e1] at hq
  have hlt : i.toNatClampNeg < n := Nat.not_le.mp fun q => e2 (Or.inr q)
  exact W.aald (v := va_rf (g i.toNatClampNeg)) (ty := ty) hx hb (hR.2.2.1 q0 _ hq) ((hK.2 t _ (ht tc)).1 n (fun j => va_rf (g j))) hrk (fun q => by cases q) (by show ¬ (i < 0 ∨ (arrV _ _ _).slots.size ≤ _); rw [arrV_size]; exact e2) (by show (arrV _ _ _).slots[_]? = _; rw [arrV_read _ _ hlt]) rfl rfl hd (kk _ hm H locs ls hR hS hl)
/-- .. that isn't null -/
theorem q_rrn (C : q_C Γ cc own) {t : Nat} {ty : FieldType} (ht : ∀ tc : Nat → ClassId, (q_tys tc)[t]? = some (tc t, ty)) (hrk : refKind ty = true) {i : Int32} {f : Nat → Option α} (hm : ((q_ar h a t i).bind fun o => o).bind f = some ρ) (hd : decode cc pc = .ok (.aaload, 1)) (kk : ∀ v, f v = some ρ → q_V Γ sz cells slots h lv (.ref v :: st) (pc + 1)) : q_V Γ sz cells slots h lv (.int i :: .ref a :: st) pc := by
  obtain ⟨v, e, hm⟩ := q_b hm
  refine q_rr C ht hrk (f := fun o => o) (ρ := v) e hd (fun o ho => ?_)
  cases ho
  exact kk v hm
theorem q_rw (C : q_C Γ cc own) {t ci v N : Nat} {Cn : String} {T : u_T} (ht : ∀ tc : Nat → ClassId, (q_tys tc)[t]? = some (tc t, .object Cn)) (hc : vwCl[ci]? = some (Cn, T, N)) (hci : ci < 13) {i : Int32} {f : q_H → Option α} (hm : (q_sr h a t ci i v).bind f = some ρ) (hd : decode cc pc = .ok (.aastore, 1)) (kk : ∀ h1, f h1 = some ρ → q_V Γ sz cells slots h1 lv st (pc + 1)) : q_V Γ sz cells slots h lv (.ref v :: .int i :: .ref a :: st) pc := by
  obtain ⟨h1, e, hm⟩ := q_b hm
  obtain ⟨n, g, vs, e1, e2, e3, rfl⟩ := q_sr_spec e
  obtain ⟨⟨p, l, ev, R, s, m, args, below, meth, c⟩, Q, base, nL, D, tc⟩ := Γ
  obtain ⟨hx, hb, hml, hown, hts, hK, hbs, hS0⟩ := C
  intro H locs ls hR hS hl
  have hne : h a ≠ q_no := by rw [e1]; exact q_arr_ne
  obtain ⟨q0, hq⟩ := q_at hR hne
  have hq0 := hq
  rw [e1] at hq
  obtain ⟨q1, hqv⟩ := q_at (a := v) hR (by rw [e3]; exact q_obj_ne hci)
  rw [e3] at hqv
  have hlt : i.toNatClampNeg < n := Nat.not_le.mp fun q => e2 (Or.inr q)
  have h0 : ¬ i < 0 := fun q => e2 (Or.inl q)
  obtain ⟨r', hr', cellV, g1, g2, g3, -⟩ := hR.2.2.1 q1 _ hqv
  have hcls := (hK.1 ci _ hc).2
  obtain ⟨kA, comp, k1, k2, k3, -⟩ := (hK.2 t _ (ht tc)).2
  have hcomp : comp = D.1 ci := Option.some.inj (k3.symm.trans hcls.1)
  subst hcomp
  obtain ⟨kC, hkC, -⟩ := hcls.2
  refine W.aast hx hb (hR.2.2.1 q0 _ hq) (fun q h => by cases h) (fun h => by cases h) k1 k2 rfl hkC ⟨h0, by show _ < (arrV _ _ _).slots.size; rw [arrV_size]; exact hlt⟩ g1 (fun q h => by rw [g3] at h; cases h) (by rw [g2]; exact hkC) (by rw [g2]; exact va_assign hcls) rfl rfl hd fun H1 e z oq => ?_
  refine kk _ hm H1 _ ls (hR.upd hne hq0 ?_ z oq) (hS.put z oq (hR.2.2.2 a hne).1) hl
  show H1[a]? = some (vp_cell _ _)
  rw [e]
  show some ((vp_cell _ _).setSlot _ _) = _
  rw [vp_cell_q, vp_cell_q, arrV_store]
  congr 2
  funext q
  by_cases hq : q = i.toNatClampNeg
  · subst hq
    simp [updV, va_up, va_rf]
  · simp [updV, va_up, hq]
/-- System.arraycopy of ints -/
def q_cp (h : q_H) (a0 : Nat) (sp : Int32) (a : Nat) (dp n : Int32) : Option q_H := match h a0, h a with
  | .inl (u, n0, .inl f), .inl (w, n1, .inl g) => if u = 1 ∧ w = 1 ∧ ¬ sp < 0 ∧ ¬ dp < 0 ∧ ¬ n < 0 ∧ sp.toNatClampNeg + n.toNatClampNeg ≤ n0 ∧ dp.toNatClampNeg + n.toNatClampNeg ≤ n1 then some (va_up h a (.inl (1, n1, .inl (va_cpy f g sp.toNatClampNeg dp.toNatClampNeg n.toNatClampNeg)))) else none
  | _, _ => none
theorem q_cp_spec {h h1 : q_H} {a0 a : Nat} {sp dp n : Int32} (e : q_cp h a0 sp a dp n = some h1) : ∃ n0 n1 f g, h a0 = .inl (1, n0, .inl f) ∧ h a = .inl (1, n1, .inl g) ∧ ¬ sp < 0 ∧ ¬ dp < 0 ∧ ¬ n < 0 ∧ sp.toNatClampNeg + n.toNatClampNeg ≤ n0 ∧ dp.toNatClampNeg + n.toNatClampNeg ≤ n1 ∧ h1 = va_up h a (.inl (1, n1, .inl (va_cpy f g sp.toNatClampNeg dp.toNatClampNeg n.toNatClampNeg))) := by
  unfold q_cp at e
  split at e
  · next u n0 f w n1 g e0 e1 =>
    split at e
    · next hc =>
      cases e
      exact ⟨n0, n1, f, g, by rw [e0, hc.1], by rw [e1, hc.2.1], hc.2.2.1, hc.2.2.2.1, hc.2.2.2.2.1, hc.2.2.2.2.2.1, hc.2.2.2.2.2.2, rfl⟩
    · cases e
  · cases e
theorem q_copy (C : q_C Γ cc own) {nl fr lo mc ms idx a0 : Nat} (Rm : q_Rm Γ nl fr lo mc ms) (hlink : Cond.methodLink own idx arraycopyName ∈ q_T) (hnat : Cond.native arraycopyName ∈ q_T) (hstat : Cond.static arraycopyName ∈ q_T) (hini : Cond.initialized "java/lang/System" ∈ q_T) {sp dp n : Int32} {f : q_H → Option α} (hm : (q_cp h a0 sp a dp n).bind f = some ρ) (hfr : 1 ≤ fr) (hlo : (st.map fun v => v.category).sum + (nativeFrameWords "java/lang/System" "arraycopy" 5 + 11) ≤ lo) (hd : decode cc pc = .ok (.invokestatic idx, 3))
    (kk : ∀ h1, f h1 = some ρ → q_V Γ sz cells slots h1 lv st (pc + 3)) : q_V Γ sz cells slots h lv (.int n :: .int dp :: .ref a :: .int sp :: .ref a0 :: st) pc := by
  obtain ⟨h1, e, hm⟩ := q_b hm
  obtain ⟨n0, n1, f0, g0, e0, e1, g1, g2, g3, g4, g5, rfl⟩ := q_cp_spec e
  obtain ⟨⟨p, l, ev, R, s, m, args, below, meth, c⟩, Q, base, nL, D, tc⟩ := Γ
  obtain ⟨hx, hb, hml, hown, hts, hK, hbs, hS0⟩ := C
  obtain ⟨-, hRm⟩ := Rm
  dsimp only at hRm
  intro H locs ls hR hS hl
  have hne : h a ≠ q_no := by rw [e1]; exact q_arr_ne
  obtain ⟨q0, hq0⟩ := q_at (a := a0) hR (by rw [e0]; exact q_arr_ne)
  obtain ⟨q1, hq1⟩ := q_at hR hne
  have hq1' := hq1
  rw [e0] at hq0
  rw [e1] at hq1
  have nn : ∀ z : Int32, ¬ z < 0 → z.toInt = (z.toNatClampNeg : Int) := by
    intro z hz
    have hz0 : (0 : Int) ≤ z.toInt := by
      have := Int32.not_lt.mp hz
      simpa using Int32.le_iff_toInt_le.mp this
    show z.toInt = ((z.toInt.toNat : Nat) : Int)
    omega
  intro T hT X
  have hc0 : H[a0]? = some (vp_cell (tc 1) (n0, .inl f0)) := hR.2.2.1 q0 _ hq0
  have hc1 : H[a]? = some (vp_cell (tc 1) (n1, .inl g0)) := hR.2.2.1 q1 _ hq1
  obtain ⟨-, k0, hk0, cm0, hkk0⟩ := (hK.2 1 _ rfl).1 n0 (fun j => .int (f0 j))
  obtain ⟨-, k1, hk1, cm1, hkk1⟩ := (hK.2 1 _ rfl).1 n1 (fun j => .int (g0 j))
  obtain ⟨vm', X', step⟩ := X.arraycopy hx hown (hts _ hlink) (hts _ hnat) (hts _ hstat) (hts _ hini) (src := a0) (dst := a) (cs := vp_cell (tc 1) (n0, .inl f0)) (cd := vp_cell (tc 1) (n1, .inl g0)) (srcPos := sp) (destPos := dp) (n := n) (by rw [hT]; exact hc0) (by rw [hT]; exact hc1)
    (fun _ h => by cases h) (fun _ h => by cases h) (fun h => by cases h) (fun h => by cases h) hk0 hk1 hkk0 hkk1 (by simp [refKind]) g1 g2 g3
    (by rw [nn sp g1, nn n g3]; show ¬ _ > ((arrV (tc 1) n0 (fun j => .int (f0 j))).slots.size : Int); rw [arrV_size]; omega)
    (by rw [nn dp g2, nn n g3]; show ¬ _ > ((arrV (tc 1) n1 (fun j => .int (g0 j))).slots.size : Int); rw [arrV_size]; omega)
    (fun vm₁ _ i hi => by
      have e : (vp_cell (tc 1) (n0, .inl f0)).slots.getD (sp.toNatClampNeg + i) .null = .int (f0 (sp.toNatClampNeg + i)) := by
        show (arrV (tc 1) n0 (fun j => .int (f0 j))).slots.getD _ _ = _
        rw [Array.getD_eq_getD_getElem?, arrV_read _ _ (by omega)]
        rfl
      refine ⟨?_, ?_⟩
      · rw [e]; rfl
      · rw [e]
        exact trivial)
    (g := F0 m pc ls (.int n :: .int dp :: .ref a :: .int sp :: .ref a0 :: st)) rfl (by rw [hml]; exact hl.1) (rest := st) rfl (by rw [hb]; exact hd) (by rw [hRm]; exact hfr) (by rw [hRm]; show 2 * 0 + (st.map fun v => v.category).sum + (nativeFrameWords "java/lang/System" "arraycopy" 5 + 11) ≤ lo; omega)
  have ec : copied (vp_cell (tc 1) (n0, .inl f0)) (vp_cell (tc 1) (n1, .inl g0)) sp dp n = vp_cell (tc 1) (n1, .inl (va_cpy f0 g0 sp.toNatClampNeg dp.toNatClampNeg n.toNatClampNeg)) := va_copied (fun z => .int z) (tc 1) (tc 1) f0 g0 g4
  rw [ec] at X' step
  have hlz : a < H.size := (Array.getElem?_eq_some_iff.mp hc1).1
  generalize hcell : vp_cell (tc 1) (n1, .inl (va_cpy f0 g0 sp.toNatClampNeg dp.toNatClampNeg n.toNatClampNeg)) = cellN at X' step
  have hheap : ((T.setVm vm').setCell a cellN).heap = H.setIfInBounds a cellN := by rw [← hT]; rfl
  have oq : ∀ q : Nat, q ≠ a → (H.setIfInBounds a cellN)[q]? = H[q]? := fun q hq => by simp [Array.getElem?_setIfInBounds, Ne.symm hq]
  have hba := (hR.2.2.2 a hne).1
  obtain ⟨t, a1, b1⟩ := kk _ hm _ _ ls (hR.upd hne hq1' (show (H.setIfInBounds a cellN)[a]? = some (vp_cell _ _) by rw [← hcell]; simp [Array.getElem?_setIfInBounds, hlz]) (by simp) oq) ⟨by simp; exact hS.1, fun q g1 g2 => by
      rw [oq q (fun e => g2 (by rw [e]; exact hba))]
      exact hS.2.1 q g1 g2, fun q hq => by
      rcases List.mem_append.mp hq with h | h
      · exact hS.2.2 q h
      · obtain ⟨z, -, hz⟩ := List.mem_map.mp h
        rw [← hz]
        exact hba⟩ hl _ hheap X'
  exact ⟨t, step t a1, b1⟩
end QJ
theorem q_ldc_w {Γ : q_G} {cc : ByteArray} {own : String} {sz cells slots : Nat} {h : q_H} {lv : List (Nat × Value)} {st : List Value} {pc : Nat} (C : q_C Γ cc own) {idx : Nat} {v : Int32} (hw : Cond.constant own idx v ∈ q_T) (hd : decode cc pc = .ok (.ldc_w idx, 3)) (k : q_V Γ sz cells slots h lv (.int v :: st) (pc + 3)) : q_V Γ sz cells slots h lv st pc := by
  obtain ⟨⟨p, l, ev, R, s, m, args, below, meth, c⟩, Q, base, nL, D, tc⟩ := Γ
  obtain ⟨hx, hb, hml, hown, hts, hK, hbs, hS0⟩ := C
  intro H locs ls hR hS hl
  exact lv_ldcw hx hb hown (hts _ hw) hd (k H locs ls hR hS hl)
theorem mi_ini : Cond.initialized "java/lang/Math" ∈ q_T := q_m1 19 rfl rfl
section QM
variable {Γ : q_G} {cc : ByteArray} {own : String} {sz cells slots : Nat} {h : q_H} {lv : List (Nat × Value)} {st : List Value} {pc nl fr lo mc ms idx : Nat}
theorem ms_mmin : Cond.static Lib.Math.min.name ∈ q_T := q_m3 156 rfl rfl
theorem mc_mmin : Cond.code Lib.Math.min.name Lib.Math.min.code 2 (some .int) ∈ q_T := q_m3 157 rfl rfl
theorem q_mmin (C : q_C Γ cc own) (Rm : q_Rm Γ nl fr lo mc ms) (hl : Cond.methodLink own idx Lib.Math.min.name ∈ q_T) (hf : 1 ≤ fr) (hw : (st.map fun v => v.category).sum + 13 ≤ lo) (hc : cells ≤ mc ∧ slots ≤ ms) {x y : Int32} (hd : decode cc pc = .ok (.invokestatic idx, 3)) (k : q_V Γ sz cells slots h lv (.int (if y < x then y else x) :: st) (pc + 3)) : q_V Γ sz cells slots h lv (.int y :: .int x :: st) pc := by
  obtain ⟨⟨p, l, ev, R, s, m, args, below, meth, c⟩, Q, base, nL, D, tc⟩ := Γ
  obtain ⟨hx, hb, hml, hown, hts, hK, hbs, hS0⟩ := C
  obtain ⟨-, hRm⟩ := Rm
  dsimp only at hRm
  intro H locs ls hR hS hl'
  exact va_mmin hx hb (hml.trans hl'.1.symm) hown (hts _ hl) (hts _ ms_mmin) (hts _ mi_ini) (hts _ mc_mmin) (by rw [hRm]; exact hf) (by rw [hRm]; exact hw) (by rw [hRm]; exact hc.1) (by rw [hRm]; exact hc.2) hd (k H locs ls hR hS hl')
theorem ms_mmax : Cond.static Lib.Math.max.name ∈ q_T := q_m4 45 rfl rfl
theorem mc_mmax : Cond.code Lib.Math.max.name Lib.Math.max.code 2 (some .int) ∈ q_T := q_m4 46 rfl rfl
theorem q_mmax (C : q_C Γ cc own) (Rm : q_Rm Γ nl fr lo mc ms) (hl : Cond.methodLink own idx Lib.Math.max.name ∈ q_T) (hf : 1 ≤ fr) (hw : (st.map fun v => v.category).sum + 13 ≤ lo) (hc : cells ≤ mc ∧ slots ≤ ms) {x y : Int32} (hd : decode cc pc = .ok (.invokestatic idx, 3)) (k : q_V Γ sz cells slots h lv (.int (if x < y then y else x) :: st) (pc + 3)) : q_V Γ sz cells slots h lv (.int y :: .int x :: st) pc := by
  obtain ⟨⟨p, l, ev, R, s, m, args, below, meth, c⟩, Q, base, nL, D, tc⟩ := Γ
  obtain ⟨hx, hb, hml, hown, hts, hK, hbs, hS0⟩ := C
  obtain ⟨-, hRm⟩ := Rm
  dsimp only at hRm
  intro H locs ls hR hS hl'
  exact va_mmax hx hb (hml.trans hl'.1.symm) hown (hts _ hl) (hts _ ms_mmax) (hts _ mi_ini) (hts _ mc_mmax) (by rw [hRm]; exact hf) (by rw [hRm]; exact hw) (by rw [hRm]; exact hc.1) (by rw [hRm]; exact hc.2) hd (k H locs ls hR hS hl')
theorem ms_mabs : Cond.static Lib.Math.abs.name ∈ q_T := q_m4 53 rfl rfl
theorem mc_mabs : Cond.code Lib.Math.abs.name Lib.Math.abs.code 1 (some .int) ∈ q_T := q_m4 54 rfl rfl
theorem q_mabs (C : q_C Γ cc own) (Rm : q_Rm Γ nl fr lo mc ms) (hl : Cond.methodLink own idx Lib.Math.abs.name ∈ q_T) (hf : 1 ≤ fr) (hw : (st.map fun v => v.category).sum + 13 ≤ lo) (hc : cells ≤ mc ∧ slots ≤ ms) {x : Int32} (hd : decode cc pc = .ok (.invokestatic idx, 3)) (k : q_V Γ sz cells slots h lv (.int (if 0 ≤ x then x else 0 - x) :: st) (pc + 3)) : q_V Γ sz cells slots h lv (.int x :: st) pc := by
  obtain ⟨⟨p, l, ev, R, s, m, args, below, meth, c⟩, Q, base, nL, D, tc⟩ := Γ
  obtain ⟨hx, hb, hml, hown, hts, hK, hbs, hS0⟩ := C
  obtain ⟨-, hRm⟩ := Rm
  dsimp only at hRm
  intro H locs ls hR hS hl'
  exact va_mabs hx hb (hml.trans hl'.1.symm) hown (hts _ hl) (hts _ ms_mabs) (hts _ mi_ini) (hts _ mc_mabs) (by rw [hRm]; exact hf) (by rw [hRm]; exact hw) (by rw [hRm]; exact hc.1) (by rw [hRm]; exact hc.2) hd (k H locs ls hR hS hl')
theorem ms_mmin_long : Cond.static Lib.MathLoose.min_long.x ∈ q_T := q_m4 31 rfl rfl
theorem mc_mmin_long : Cond.code Lib.MathLoose.min_long.x Lib.MathLoose.min_long.code 4 (some .long) ∈ q_T := q_m4 32 rfl rfl
theorem q_mmin_long (C : q_C Γ cc own) (Rm : q_Rm Γ nl fr lo mc ms) (hl : Cond.methodLink own idx Lib.MathLoose.min_long.x ∈ q_T) (hf : 1 ≤ fr) (hw : (st.map fun v => v.category).sum + 15 ≤ lo) (hc : cells ≤ mc ∧ slots ≤ ms) {x y : Int64} (hd : decode cc pc = .ok (.invokestatic idx, 3)) (k : q_V Γ sz cells slots h lv (.long (if y < x then y else x) :: st) (pc + 3)) : q_V Γ sz cells slots h lv (.long y :: .long x :: st) pc := by
  obtain ⟨⟨p, l, ev, R, s, m, args, below, meth, c⟩, Q, base, nL, D, tc⟩ := Γ
  obtain ⟨hx, hb, hml, hown, hts, hK, hbs, hS0⟩ := C
  obtain ⟨-, hRm⟩ := Rm
  dsimp only at hRm
  intro H locs ls hR hS hl'
  exact va_mmin_long hx hb (hml.trans hl'.1.symm) hown (hts _ hl) (hts _ ms_mmin_long) (hts _ mi_ini) (hts _ mc_mmin_long) (by rw [hRm]; exact hf) (by rw [hRm]; exact hw) (by rw [hRm]; exact hc.1) (by rw [hRm]; exact hc.2) hd (k H locs ls hR hS hl')
theorem ms_mmax_long : Cond.static Lib.MathLoose.max_long.x ∈ q_T := q_m4 34 rfl rfl
theorem mc_mmax_long : Cond.code Lib.MathLoose.max_long.x Lib.MathLoose.max_long.code 4 (some .long) ∈ q_T := q_m4 35 rfl rfl
theorem q_mmax_long (C : q_C Γ cc own) (Rm : q_Rm Γ nl fr lo mc ms) (hl : Cond.methodLink own idx Lib.MathLoose.max_long.x ∈ q_T) (hf : 1 ≤ fr) (hw : (st.map fun v => v.category).sum + 15 ≤ lo) (hc : cells ≤ mc ∧ slots ≤ ms) {x y : Int64} (hd : decode cc pc = .ok (.invokestatic idx, 3)) (k : q_V Γ sz cells slots h lv (.long (if y < x then x else y) :: st) (pc + 3)) : q_V Γ sz cells slots h lv (.long y :: .long x :: st) pc := by
  obtain ⟨⟨p, l, ev, R, s, m, args, below, meth, c⟩, Q, base, nL, D, tc⟩ := Γ
  obtain ⟨hx, hb, hml, hown, hts, hK, hbs, hS0⟩ := C
  obtain ⟨-, hRm⟩ := Rm
  dsimp only at hRm
  intro H locs ls hR hS hl'
  exact va_mmax_long hx hb (hml.trans hl'.1.symm) hown (hts _ hl) (hts _ ms_mmax_long) (hts _ mi_ini) (hts _ mc_mmax_long) (by rw [hRm]; exact hf) (by rw [hRm]; exact hw) (by rw [hRm]; exact hc.1) (by rw [hRm]; exact hc.2) hd (k H locs ls hR hS hl')
end QM
section QN
variable {Γ : q_G} {cc : ByteArray} {own : String} {sz cells slots : Nat} {h : q_H} {lv : List (Nat × Value)} {rest st0 As : List Value} {pc b ci idx nl fr lo mc ms fr' lo' n maxL : Nat} {y : MethodName} {cY : ByteArray} {α : Type} {ρ : α}
theorem q_svS (C : q_C Γ cc own) (Rm : q_Rm Γ nl fr lo mc ms) (Y : q_Y y cY maxL none n) (Ys : Cond.static y ∈ q_T) (hl : Cond.methodLink own idx y ∈ q_T) (hf : fr' + 1 ≤ fr ∧ 8 + (maxL + 11) + lo' ≤ lo) (hc : cells + 0 ≤ mc ∧ slots + 0 ≤ ms) {o : Option q_H} {f : q_H → Option α} (hm : o.bind f = some ρ)
    (hM : ∀ (h1 : q_H), o = some h1 → q_M Γ.1.2.1 y cY maxL none fr' lo' 0 0 Γ.2.2.1 Γ.2.2.2.2.1 Γ.2.2.2.2.2 As sz h none sz h1) (hn : As.length = n) (hst : st0 = As.reverse ++ rest) (hw : (rest.map fun v => v.category).sum ≤ 8) (hd : decode cc pc = .ok (.invokestatic idx, 3))
    (kk : ∀ (h1 : q_H), f h1 = some ρ → q_V Γ sz cells slots h1 lv rest (pc + 3)) : q_V Γ sz cells slots h lv st0 pc := by
  obtain ⟨h1, e, hm⟩ := q_b hm
  exact q_calls C Rm Y Ys hl hf hc (hM h1 e) hn hst hw hd (fun hz => kk h1 hm)
theorem q_siS (C : q_C Γ cc own) (Rm : q_Rm Γ nl fr lo mc ms) {rt : FieldType} (Y : q_Y y cY maxL (some rt) n) (Ys : Cond.static y ∈ q_T) (hl : Cond.methodLink own idx y ∈ q_T) (hf : fr' + 1 ≤ fr ∧ 8 + (maxL + 11) + lo' ≤ lo) (hc : cells + 0 ≤ mc ∧ slots + 0 ≤ ms) {o : Option (Int32 × q_H)} {f : Int32 × q_H → Option α} (hm : o.bind f = some ρ)
    (hM : ∀ (r : Int32) (h1 : q_H), o = some (r, h1) → q_M Γ.1.2.1 y cY maxL (some rt) fr' lo' 0 0 Γ.2.2.1 Γ.2.2.2.2.1 Γ.2.2.2.2.2 As sz h (some (.int r)) sz h1) (hn : As.length = n) (hst : st0 = As.reverse ++ rest) (hw : (rest.map fun v => v.category).sum ≤ 8) (hd : decode cc pc = .ok (.invokestatic idx, 3))
    (kk : ∀ (r : Int32) (h1 : q_H), f (r, h1) = some ρ → narrow rt (.int r) = .int r → q_V Γ sz cells slots h1 lv (.int r :: rest) (pc + 3)) : q_V Γ sz cells slots h lv st0 pc := by
  obtain ⟨⟨r, h1⟩, e, hm⟩ := q_b hm
  exact q_calls C Rm Y Ys hl hf hc (hM r h1 e) hn hst hw hd (fun hz => kk r h1 hm (hz rt r rfl rfl))
theorem q_voP (C : q_C Γ cc own) (Rm : q_Rm Γ nl fr lo mc ms) {rt : FieldType} (Y : q_Y y cY maxL (some rt) n) (Yv : q_Yv y ci) (hl : Cond.methodLink own idx y ∈ q_T) (hf : fr' + 1 ≤ fr ∧ 8 + (maxL + 11) + lo' ≤ lo) (hc : cells + 0 ≤ mc ∧ slots + 0 ≤ ms) {o : Option (Option Nat)} {f : Option Nat → Option α} (hm : (q_ca ci h b o).bind f = some ρ)
    (hM : ∀ (r : Option Nat), o = some r → q_M Γ.1.2.1 y cY maxL (some rt) fr' lo' 0 0 Γ.2.2.1 Γ.2.2.2.2.1 Γ.2.2.2.2.2 (.ref b :: As) sz h (some (va_rf r)) sz h) (hn : As.length = n) (hst : st0 = As.reverse ++ .ref b :: rest) (hw : (rest.map fun v => v.category).sum ≤ 8) (hd : decode cc pc = .ok (.invokevirtual idx, 3))
    (kk : ∀ (r : Option Nat), f r = some ρ → q_V Γ sz cells slots h lv (va_rf r :: rest) (pc + 3)) : q_V Γ sz cells slots h lv st0 pc := by
  obtain ⟨r, e, hm⟩ := q_b hm
  obtain ⟨hb, e⟩ := q_ca_spec e
  exact q_callv C Rm Y Yv hl hf hc (hM r e) hb hn hst hw hd (fun hz => kk r hm)
end QN

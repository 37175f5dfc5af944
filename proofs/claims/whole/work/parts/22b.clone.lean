section QQ
variable {Γ : q_G} {cc : ByteArray} {own : String} {sz cells slots : Nat} {h : q_H} {lv : List (Nat × Value)} {st : List Value} {pc a idx nl fr lo mc ms : Nat} {α : Type} {ρ : α}
/-- a row of ints is made once more -/
def q_cln (h : q_H) (a M : Nat) : Option (Nat × (Nat → Int32)) := match h a with
  | .inl (u, n, .inl f) => if u = 1 ∧ n ≤ M then some (n, f) else none
  | _ => none
theorem q_cln_spec {h : q_H} {a M : Nat} {r : Nat × (Nat → Int32)} (e : q_cln h a M = some r) : h a = .inl (1, r.1, .inl r.2) ∧ r.1 ≤ M := by
  unfold q_cln at e
  split at e
  · next u n f ho =>
    split at e
    · next hc =>
      cases e
      exact ⟨by rw [ho, hc.1], hc.2⟩
    · cases e
  · cases e
theorem q_clone (C : q_C Γ cc own) (Rm : q_Rm Γ nl fr lo mc ms) (M : Nat) (hl1 : Cond.methodLink own idx ⟨"[I", "clone", "()Ljava/lang/Object;"⟩ ∈ q_T) (hl2 : Cond.sameMethod "[I" "java/lang/Object" "clone" "()Ljava/lang/Object;" ∈ q_T) (hl3 : Cond.native ⟨"java/lang/Object", "clone", "()Ljava/lang/Object;"⟩ ∈ q_T) (hl4 : Cond.instanceMethod ⟨"java/lang/Object", "clone", "()Ljava/lang/Object;"⟩ ∈ q_T) (hl5 : Cond.selects "[I" ⟨"[I", "clone", "()Ljava/lang/Object;"⟩ ⟨"java/lang/Object", "clone", "()Ljava/lang/Object;"⟩ ∈ q_T)
    {f : Nat × (Nat → Int32) → Option α} (hm : (q_cln h a M).bind f = some ρ) (hf : 1 ≤ fr ∧ (st.map fun v => v.category).sum + 14 ≤ lo) (hc : cells + 1 ≤ mc ∧ slots + M ≤ ms) (hd : decode cc pc = .ok (.invokevirtual idx, 3))
    (kk : ∀ n g, f (n, g) = some ρ → q_V Γ (sz + 1) (cells + 1) (slots + M) (va_up h sz (.inl (1, n, .inl g))) lv (.ref sz :: st) (pc + 3)) : q_V Γ sz cells slots h lv (.ref a :: st) pc := by
  obtain ⟨⟨n, g⟩, e, hm⟩ := q_b hm
  obtain ⟨e1, e2⟩ := q_cln_spec e
  dsimp only at e1 e2
  obtain ⟨⟨p, l, ev, R, s, m, args, below, meth, c⟩, Q, base, nL, D, tc⟩ := Γ
  obtain ⟨hx, hb, hml, hown, hts, hK, hbs, hS0⟩ := C
  obtain ⟨-, hRm⟩ := Rm
  dsimp only at hRm
  intro H locs ls hR hS hl
  obtain ⟨q0, hq⟩ := q_at hR (by rw [e1]; exact q_arr_ne)
  rw [e1] at hq
  have hsz : (vp_cell (tc 1) (n, .inl g)).slots.size = n := arrV_size _ _ _
  have hnm : s.vm.findClass "[I" = some (tc 1) := (hK.2 1 _ rfl).2
  obtain ⟨c0, t0', f1, f2, f3⟩ := Cond.castable_spec (va_Nw.use (A := args) rfl hS0.2.2.2.2.2.2.2.2.2.1)
  cases hnm.symm.trans f1
  refine W.widen (k := cells) (n := slots) (Nat.le_refl _) (Nat.le_refl _) ?_
  intro T hT X
  have hcellT : T.heap[a]? = some (vp_cell (tc 1) (n, .inl g)) := by rw [hT]; exact hR.2.2.1 q0 _ hq
  obtain ⟨-, kA, hkA, comp, hkind⟩ := State.isArrayOf_alike X.warmed.alike ((hK.2 1 _ rfl).1 0 (fun _ => .null))
  obtain ⟨-, kS, hkS, compS, hkindS⟩ := (hK.2 1 _ rfl).1 0 (fun _ => .null)
  obtain ⟨vm', X', st'⟩ := X.cloneArray hx hown (hts _ hl1) (hts _ hl2) (hts _ hl3) (hts _ hl4) (hts _ hl5) (a := a) (cell := vp_cell (tc 1) (n, .inl g)) hcellT (fun k h => by cases h) (fun h => by cases h) hnm f2 f3
    (fun i v hv => by
      have hk' : T.vm.classes[tc 1]? = some kA := hkA
      have hv' : (arrV (tc 1) n (fun j => .int (g j))).slots[i]? = some v := hv
      have hi : i < n := by
        have := (Array.getElem?_eq_some_iff.mp hv').1
        rwa [arrV_size] at this
      rw [arrV_read _ _ hi] at hv'
      cases hv'
      show T.fitsSlot (tc 1) .none i _ = true
      simp [State.fitsSlot, State.slotType?, hk', hkind, fits])
    (g := F0 m pc ls (.ref a :: st)) rfl (by rw [hml]; exact hl.1) rfl (by rw [hb]; exact hd) (by rw [hRm]; exact hf.1) (by rw [hRm]; show 2 * 0 + (st.map fun v => v.category).sum + 14 ≤ lo; have := hf.2; omega) (by rw [hRm]; exact hc.1) (by rw [hsz, hRm]; show slots + n ≤ ms; have := hc.2; omega) (hloader := Vm.clonesLoader_of_array hkS hkindS)
  rw [hsz] at X'
  generalize hH1 : H.push (vp_cell (tc 1) (n, .inl g)) = H1
  have z1 : H1.size = sz + 1 := by rw [← hH1, Array.size_push, hR.1]
  have e1' : H1[sz]? = some (vp_cell (tc 1) (n, .inl g)) := by rw [← hH1, ← hR.1, Array.getElem?_push_size]
  have o1 : ∀ q : Nat, q < sz → H1[q]? = H[q]? := fun q hq => by rw [← hH1, Array.getElem?_push, if_neg (Nat.ne_of_lt (by rw [hR.1]; exact hq))]
  have hTH : T.heap.size = sz := by rw [hT]; exact hR.1
  obtain ⟨t, b1, b2⟩ := W.widen (Nat.le_refl _) (Nat.add_le_add_left e2 slots) (kk n g hm H1 locs ls (hR.push z1 o1 e1') (q_S_push hS hR.1 z1 o1) hl) _ (by rw [← hH1, ← hT]; rfl) X'
  refine ⟨t, st' t ?_, b2⟩
  rw [hTH]
  exact b1
theorem q_cast (C : q_C Γ cc own) (hl1 : Cond.classLink own idx "[I" ∈ q_T) {n : Nat} {g : Nat → Int32} (e1 : h a = .inl (1, n, .inl g)) (hd : decode cc pc = .ok (.checkcast idx, 3)) (k : q_V Γ sz cells slots h lv (.ref a :: st) (pc + 3)) : q_V Γ sz cells slots h lv (.ref a :: st) pc := by
  obtain ⟨⟨p, l, ev, R, s, m, args, below, meth, c⟩, Q, base, nL, D, tc⟩ := Γ
  obtain ⟨hx, hb, hml, hown, hts, hK, hbs, hS0⟩ := C
  intro H locs ls hR hS hl
  obtain ⟨q0, hq⟩ := q_at hR (by rw [e1]; exact q_arr_ne)
  rw [e1] at hq
  exact va_castA hx hb hown (hts _ hl1) hR.2.2.1 q0 hq ((hK.2 1 _ rfl).2) hd (k H locs ls hR hS hl)
end QQ

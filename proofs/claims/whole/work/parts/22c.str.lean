/-! ===== the static row ROWS_OF, and the reader's words: a String constant ===== -/
/-- ROWS_OF's places -/
def q_ro (i : Int32) : Option Int32 := if q_in i 8 then some (q_rows i.toNatClampNeg) else none
/-- the bytes of the words -/
def q_ch (i : Int32) : Option Int32 := if q_in i 91 then some (q_txt.getD i.toNatClampNeg 0) else none
section QS
variable {Γ : q_G} {cc : ByteArray} {own : String} {sz cells slots : Nat} {h : q_H} {lv : List (Nat × Value)} {st : List Value} {pc idx : Nat} {α : Type} {ρ : α}
abbrev q_t (Γ : q_G) (k : Nat) : Nat := Γ.2.2.2.2.2 k
theorem q_gsR (C : q_C Γ cc "TugRope$Rope") (hfl : Cond.fieldLink "TugRope$Rope" idx "TugRope$Rope" "ROWS_OF" "[I" ∈ q_T) (hd : decode cc pc = .ok (.getstatic idx, 3)) (k : q_V Γ sz cells slots h lv (.ref (q_t Γ 100) :: st) (pc + 3)) : q_V Γ sz cells slots h lv st pc := by
  obtain ⟨⟨p, l, ev, R, s, m, args, below, meth, c⟩, Q, base, nL, D, tc⟩ := Γ
  obtain ⟨hx, hb, hml, hown, hts, hK, hbs, hS0⟩ := C
  intro H locs ls hR hS hl
  exact va_gets hx hb hS0.1 hS hown (hts _ hfl) (fun _ h9 => h9) hd (k H locs ls hR hS hl)
theorem q_tiR (C : q_C Γ cc own) {i : Int32} {f : Int32 → Option α} (hm : (q_ro i).bind f = some ρ) (hd : decode cc pc = .ok (.iaload, 1)) (kk : ∀ v, f v = some ρ → q_V Γ sz cells slots h lv (.int v :: st) (pc + 1)) : q_V Γ sz cells slots h lv (.int i :: .ref (q_t Γ 100) :: st) pc := by
  obtain ⟨v, e, hm⟩ := q_b hm
  unfold q_ro at e
  split at e
  · next hin =>
    cases e
    obtain ⟨⟨p, l, ev, R, s, m, args, below, meth, c⟩, Q, base, nL, D, tc⟩ := Γ
    obtain ⟨hx, hb, hml, hown, hts, hK, hbs, hS0⟩ := C
    intro H locs ls hR hS hl
    exact va_ti hx hb hS0.2.1 hS hin rfl hd (kk _ hm H locs ls hR hS hl)
  · cases e
theorem q_lenR (C : q_C Γ cc own) (hd : decode cc pc = .ok (.arraylength, 1)) (k : q_V Γ sz cells slots h lv (.int 8 :: st) (pc + 1)) : q_V Γ sz cells slots h lv (.ref (q_t Γ 100) :: st) pc := by
  obtain ⟨⟨p, l, ev, R, s, m, args, below, meth, c⟩, Q, base, nL, D, tc⟩ := Γ
  obtain ⟨hx, hb, hml, hown, hts, hK, hbs, hS0⟩ := C
  intro H locs ls hR hS hl
  exact va_tlen hx hb hS0.2.1 hS rfl hd (k H locs ls hR hS hl)
theorem q_ldcS (C : q_C Γ cc "TugRope$Reader") (hd : decode cc pc = .ok (.ldc 71, 2)) (k : q_V Γ sz cells slots h lv (.ref (q_t Γ 101) :: st) (pc + 2)) : q_V Γ sz cells slots h lv st pc := by
  obtain ⟨⟨p, l, ev, R, s, m, args, below, meth, c⟩, Q, base, nL, D, tc⟩ := Γ
  obtain ⟨hx, hb, hml, hown, hts, hK, hbs, hS0⟩ := C
  intro H locs ls hR hS hl
  exact va_ldcS hx hb hown hS0.2.2.2.2.2.1 hd (k H locs ls hR hS hl)
theorem q_gsC (C : q_C Γ cc "java/lang/String") (hfl : Cond.fieldLink "java/lang/String" idx "java/lang/String" "COMPACT_STRINGS" "Z" ∈ q_T) (hd : decode cc pc = .ok (.getstatic idx, 3)) (k : q_V Γ sz cells slots h lv (.int 1 :: st) (pc + 3)) : q_V Γ sz cells slots h lv st pc := by
  obtain ⟨⟨p, l, ev, R, s, m, args, below, meth, c⟩, Q, base, nL, D, tc⟩ := Γ
  obtain ⟨hx, hb, hml, hown, hts, hK, hbs, hS0⟩ := C
  intro H locs ls hR hS hl
  exact va_gets hx hb hS0.2.2.2.2.2.2.2.1 hS hown (hts _ hfl) (fun _ h9 => h9) hd (k H locs ls hR hS hl)
theorem q_gsF (C : q_C Γ cc "java/lang/String") (hfl : Cond.fieldLink "java/lang/String" idx "jdk/internal/util/Preconditions" "SIOOBE_FORMATTER" "Ljava/util/function/BiFunction;" ∈ q_T) (hd : decode cc pc = .ok (.getstatic idx, 3)) (k : ∀ o, q_V Γ sz cells slots h lv (va_rf o :: st) (pc + 3)) : q_V Γ sz cells slots h lv st pc := by
  obtain ⟨⟨p, l, ev, R, s, m, args, below, meth, c⟩, Q, base, nL, D, tc⟩ := Γ
  obtain ⟨hx, hb, hml, hown, hts, hK, hbs, hS0⟩ := C
  intro H locs ls hR hS hl
  rcases hS0.2.2.2.2.2.2.2.2.2.2 with h1 | ⟨t, h1⟩
  · exact va_gets hx hb h1 hS hown (hts _ hfl) (fun _ h9 => h9) hd (k none H locs ls hR hS hl)
  · exact va_gets hx hb h1 hS hown (hts _ hfl) (fun _ h9 => h9) hd (k (some t) H locs ls hR hS hl)
theorem q_gfV (C : q_C Γ cc "java/lang/String") (hfl : Cond.fieldLink "java/lang/String" idx "java/lang/String" "value" "[B" ∈ q_T) (hd : decode cc pc = .ok (.getfield idx, 3)) (k : q_V Γ sz cells slots h lv (.ref (q_t Γ 102) :: st) (pc + 3)) : q_V Γ sz cells slots h lv (.ref (q_t Γ 101) :: st) pc := by
  obtain ⟨⟨p, l, ev, R, s, m, args, below, meth, c⟩, Q, base, nL, D, tc⟩ := Γ
  obtain ⟨hx, hb, hml, hown, hts, hK, hbs, hS0⟩ := C
  intro H locs ls hR hS hl
  exact vk_getf hx hb (hS0.2.2.2.2.2.2.1.1 0 (by decide)).2.2.1 hS hown (hts _ hfl) (fun _ h9 => h9) hd (k H locs ls hR hS hl)
theorem q_gfC (C : q_C Γ cc "java/lang/String") (hfl : Cond.fieldLink "java/lang/String" idx "java/lang/String" "coder" "B" ∈ q_T) (hd : decode cc pc = .ok (.getfield idx, 3)) (k : q_V Γ sz cells slots h lv (.int 0 :: st) (pc + 3)) : q_V Γ sz cells slots h lv (.ref (q_t Γ 101) :: st) pc := by
  obtain ⟨⟨p, l, ev, R, s, m, args, below, meth, c⟩, Q, base, nL, D, tc⟩ := Γ
  obtain ⟨hx, hb, hml, hown, hts, hK, hbs, hS0⟩ := C
  intro H locs ls hR hS hl
  exact vk_getf hx hb (hS0.2.2.2.2.2.2.1.1 0 (by decide)).2.1 hS hown (hts _ hfl) (fun _ h9 => h9) hd (k H locs ls hR hS hl)
theorem q_lenS (C : q_C Γ cc own) (hd : decode cc pc = .ok (.arraylength, 1)) (k : q_V Γ sz cells slots h lv (.int 91 :: st) (pc + 1)) : q_V Γ sz cells slots h lv (.ref (q_t Γ 102) :: st) pc := by
  obtain ⟨⟨p, l, ev, R, s, m, args, below, meth, c⟩, Q, base, nL, D, tc⟩ := Γ
  obtain ⟨hx, hb, hml, hown, hts, hK, hbs, hS0⟩ := C
  intro H locs ls hR hS hl
  exact va_tlen hx hb (hS0.2.2.2.2.2.2.1.1 0 (by decide)).2.2.2 hS rfl hd (k H locs ls hR hS hl)
theorem q_tbS (C : q_C Γ cc own) {i v : Int32} (e : q_ch i = some v) (hd : decode cc pc = .ok (.baload, 1)) (kk : q_V Γ sz cells slots h lv (.int v :: st) (pc + 1)) : q_V Γ sz cells slots h lv (.int i :: .ref (q_t Γ 102) :: st) pc := by
  unfold q_ch at e
  split at e
  · next hin =>
    cases e
    obtain ⟨⟨p, l, ev, R, s, m, args, below, meth, c⟩, Q, base, nL, D, tc⟩ := Γ
    obtain ⟨hx, hb, hml, hown, hts, hK, hbs, hS0⟩ := C
    intro H locs ls hR hS hl
    exact va_tb hx hb (hS0.2.2.2.2.2.2.1.1 0 (by decide)).2.2.2 hS hin rfl hd (kk H locs ls hR hS hl)
  · cases e
end QS
/-- a call of a method of String's, of the words -/
theorem q_callS {Γ : q_G} {cc : ByteArray} {own : String} {sz cells slots : Nat} {h : q_H} {lv : List (Nat × Value)} {rest st0 As : List Value} {pc idx nl fr lo mc ms fr' lo' n maxL : Nat} {y : MethodName} {cY : ByteArray} {ret : Option FieldType} {rv : Option Value} (C : q_C Γ cc own) (Rm : q_Rm Γ nl fr lo mc ms) (Y : q_Y y cY maxL ret n) (y1 : Cond.instanceMethod y ∈ q_T) (y2 : Cond.selects "java/lang/String" y y ∈ q_T) (hl : Cond.methodLink own idx y ∈ q_T) (hf : fr' + 1 ≤ fr ∧ 8 + (maxL + 11) + lo' ≤ lo) (hc : cells + 0 ≤ mc ∧ slots + 0 ≤ ms)
    (hM : q_M Γ.1.2.1 y cY maxL ret fr' lo' 0 0 Γ.2.2.1 Γ.2.2.2.2.1 Γ.2.2.2.2.2 (.ref (q_t Γ 101) :: As) sz h rv sz h) (hn : As.length = n) (hst : st0 = As.reverse ++ .ref (q_t Γ 101) :: rest) (hw : (rest.map fun v => v.category).sum ≤ 8) (hd : decode cc pc = .ok (.invokevirtual idx, 3))
    (kk : q_nar ret rv → q_V Γ sz cells slots h lv (rv.toList ++ rest) (pc + 3)) : q_V Γ sz cells slots h lv st0 pc := by
  obtain ⟨⟨p, l, ev, R, s, m, args, below, meth, c⟩, Q, base, nL, D, tc⟩ := Γ
  obtain ⟨hx, hcb, hml, hown, hts, hK, hbs, hS0⟩ := C
  obtain ⟨-, hRm⟩ := Rm
  dsimp only at hRm hM
  intro H locs ls hR hS hl'
  subst hst
  exact q_run (va_runV (As := As) (rest := rest) ⟨hx, hcb, hml, hown, hts⟩ hM ⟨q_cB hts Y hl hRm hf, hts _ y1, hts _ y2⟩ ⟨q_P.blind, vk_recv (i := 0) hS0.2.2.2.2.2.2.1 (by decide) hS, fun U hU hW => ⟨rfl, q_pre hK hbs hS0 hR hS U hU hW⟩⟩ rfl hn hl'.1 rfl (lv_room hw) hd (by rw [hRm]; exact hc)) hS (fun H1 locs1 hnar hR1 hS1 => kk hnar H1 locs1 ls hR1 hS1 hl')
theorem q_tryp : plainName "java/lang/String" = true ∧ plainName "java/lang/StringLatin1" = true ∧ plainName "jdk/internal/util/Preconditions" = true := by decide

/-! ===== the law's walk over the models ===== -/
def q_X (Γ : q_G) (b L : Nat) (xs : Nat → Int32) : Prop := match Γ with
  | ((_, _, _, _, s, _, _, _, _, _), _, base, _, _, _) => va_X b L xs s s.heap ∧ b < base ∧ base ≤ s.heap.size
section QL
variable {Γ : q_G} {cc : ByteArray} {own : String} {sz cells slots : Nat} {h : q_H} {lv : List (Nat × Value)} {st rest st0 As : List Value} {pc b L ci idx nl fr lo mc ms fr' lo' mc' ms' n maxL : Nat} {xs : Nat → Int32} {y : MethodName} {cY : ByteArray}
theorem q_sld (C : q_C Γ cc own) (X : q_X Γ b L xs) {i : Int32} (hin : vp_in i L) (hd : decode cc pc = .ok (.iaload, 1)) (k : q_V Γ sz cells slots h lv (.int (xs i.toNatClampNeg) :: st) (pc + 1)) : q_V Γ sz cells slots h lv (.int i :: .ref b :: st) pc := by
  obtain ⟨⟨p, l, ev, R, s, m, args, below, meth, c⟩, Q, base, nL, D, tc⟩ := Γ
  obtain ⟨hx, hb, hml, hown, hts, hK, hbs, hS0⟩ := C
  obtain ⟨x1, x2, x3⟩ := X
  intro H locs ls hR hS hl
  exact va_sld hx hb x1 (by omega) (show ¬ base ≤ b by omega) hS hin hd (k H locs ls hR hS hl)
theorem q_slen (C : q_C Γ cc own) (X : q_X Γ b L xs) (hd : decode cc pc = .ok (.arraylength, 1)) (k : q_V Γ sz cells slots h lv (.int (Int32.ofNat L) :: st) (pc + 1)) : q_V Γ sz cells slots h lv (.ref b :: st) pc := by
  obtain ⟨⟨p, l, ev, R, s, m, args, below, meth, c⟩, Q, base, nL, D, tc⟩ := Γ
  obtain ⟨hx, hb, hml, hown, hts, hK, hbs, hS0⟩ := C
  obtain ⟨x1, x2, x3⟩ := X
  intro H locs ls hR hS hl
  exact va_slen hx hb x1 (by omega) (show ¬ base ≤ b by omega) hS hd (k H locs ls hR hS hl)
end QL
theorem q_ik (j k L : Nat) {K : Int32} (hK : K = nI k) (h : j + k < L) (hL : L ≤ 3072) : vp_in (nI j + K) L := by
  rw [hK, nI_add]
  exact vp_in_nI h (by omega)

theorem Y_X11_feed : q_Y yX11_feed cX11_feed 6 (some .int) 5 := ⟨q_m2 161 rfl rfl, q_m1 1 rfl rfl, by decide, by decide, by decide⟩
theorem Yv_X11_feed : q_Yv yX11_feed 11 := ⟨q_m2 159 rfl rfl, q_m2 160 rfl rfl, TX11, 10, rfl, by decide⟩
theorem Y_X12_feed : q_Y yX12_feed cX12_feed 6 (some .int) 5 := ⟨q_m6 7 rfl rfl, q_m1 12 rfl rfl, by decide, by decide, by decide⟩
theorem Yv_X12_feed : q_Yv yX12_feed 12 := ⟨q_m6 5 rfl rfl, q_m6 6 rfl rfl, TX12, 37, rfl, by decide⟩
theorem Y_X11_end : q_Y yX11_end cX11_end 2 (some .int) 1 := ⟨q_m2 173 rfl rfl, q_m1 1 rfl rfl, by decide, by decide, by decide⟩
theorem Yv_X11_end : q_Yv yX11_end 11 := ⟨q_m2 171 rfl rfl, q_m2 172 rfl rfl, TX11, 10, rfl, by decide⟩
theorem Y_X12_end : q_Y yX12_end cX12_end 2 (some .int) 1 := ⟨q_m6 15 rfl rfl, q_m1 12 rfl rfl, by decide, by decide, by decide⟩
theorem Yv_X12_end : q_Yv yX12_end 12 := ⟨q_m6 13 rfl rfl, q_m6 14 rfl rfl, TX12, 37, rfl, by decide⟩
theorem Y_X11_rope : q_Y yX11_rope cX11_rope 3 (some .int) 0 := ⟨q_m2 177 rfl rfl, q_m1 1 rfl rfl, by decide, by decide, by decide⟩
theorem Yv_X11_rope : q_Yv yX11_rope 11 := ⟨q_m2 175 rfl rfl, q_m2 176 rfl rfl, TX11, 10, rfl, by decide⟩
theorem Y_X12_rope : q_Y yX12_rope cX12_rope 2 (some .int) 0 := ⟨q_m6 167 rfl rfl, q_m1 12 rfl rfl, by decide, by decide, by decide⟩
theorem Yv_X12_rope : q_Yv yX12_rope 12 := ⟨q_m6 165 rfl rfl, q_m6 166 rfl rfl, TX12, 37, rfl, by decide⟩
theorem Y_X11_rule : q_Y yX11_rule cX11_rule 2 (some .int) 0 := ⟨q_m3 77 rfl rfl, q_m1 1 rfl rfl, by decide, by decide, by decide⟩
theorem Yv_X11_rule : q_Yv yX11_rule 11 := ⟨q_m3 75 rfl rfl, q_m3 76 rfl rfl, TX11, 10, rfl, by decide⟩
theorem Y_X12_rule : q_Y yX12_rule cX12_rule 1 (some .int) 0 := ⟨q_m6 19 rfl rfl, q_m1 12 rfl rfl, by decide, by decide, by decide⟩
theorem Yv_X12_rule : q_Yv yX12_rule 12 := ⟨q_m6 17 rfl rfl, q_m6 18 rfl rfl, TX12, 37, rfl, by decide⟩
theorem Y_X11_force : q_Y yX11_force cX11_force 3 (some .int) 1 := ⟨q_m3 175 rfl rfl, q_m1 1 rfl rfl, by decide, by decide, by decide⟩
theorem Yv_X11_force : q_Yv yX11_force 11 := ⟨q_m3 173 rfl rfl, q_m3 174 rfl rfl, TX11, 10, rfl, by decide⟩
theorem Y_X12_force : q_Y yX12_force cX12_force 3 (some .int) 1 := ⟨q_m6 175 rfl rfl, q_m1 12 rfl rfl, by decide, by decide, by decide⟩
theorem Yv_X12_force : q_Yv yX12_force 12 := ⟨q_m6 173 rfl rfl, q_m6 174 rfl rfl, TX12, 37, rfl, by decide⟩
theorem Y_X11_puller : q_Y yX11_puller cX11_puller 3 (some .int) 2 := ⟨q_m3 179 rfl rfl, q_m1 1 rfl rfl, by decide, by decide, by decide⟩
theorem Yv_X11_puller : q_Yv yX11_puller 11 := ⟨q_m3 177 rfl rfl, q_m3 178 rfl rfl, TX11, 10, rfl, by decide⟩
theorem Y_X12_puller : q_Y yX12_puller cX12_puller 3 (some .int) 2 := ⟨q_m6 183 rfl rfl, q_m1 12 rfl rfl, by decide, by decide, by decide⟩
theorem Yv_X12_puller : q_Yv yX12_puller 12 := ⟨q_m6 181 rfl rfl, q_m6 182 rfl rfl, TX12, 37, rfl, by decide⟩
theorem Y_X11_ribbon : q_Y yX11_ribbon cX11_ribbon 1 (some .int) 0 := ⟨q_m3 195 rfl rfl, q_m1 1 rfl rfl, by decide, by decide, by decide⟩
theorem Yv_X11_ribbon : q_Yv yX11_ribbon 11 := ⟨q_m3 193 rfl rfl, q_m3 194 rfl rfl, TX11, 10, rfl, by decide⟩
theorem Y_X11_heave : q_Y yX11_heave cX11_heave 1 (some .int) 0 := ⟨q_m3 199 rfl rfl, q_m1 1 rfl rfl, by decide, by decide, by decide⟩
theorem Yv_X11_heave : q_Yv yX11_heave 11 := ⟨q_m3 197 rfl rfl, q_m3 198 rfl rfl, TX11, 10, rfl, by decide⟩
theorem Y_X12_heave : q_Y yX12_heave cX12_heave 1 (some .int) 0 := ⟨q_m6 223 rfl rfl, q_m1 12 rfl rfl, by decide, by decide, by decide⟩
theorem Yv_X12_heave : q_Yv yX12_heave 12 := ⟨q_m6 221 rfl rfl, q_m6 222 rfl rfl, TX12, 37, rfl, by decide⟩
theorem Y_X11_send : q_Y yX11_send cX11_send 2 (some .int) 1 := ⟨q_m4 58 rfl rfl, q_m1 1 rfl rfl, by decide, by decide, by decide⟩
theorem Yv_X11_send : q_Yv yX11_send 11 := ⟨q_m4 56 rfl rfl, q_m4 57 rfl rfl, TX11, 10, rfl, by decide⟩
theorem Y_X12_send : q_Y yX12_send cX12_send 5 (some .int) 1 := ⟨q_m7 58 rfl rfl, q_m1 12 rfl rfl, by decide, by decide, by decide⟩
theorem Yv_X12_send : q_Yv yX12_send 12 := ⟨q_m7 56 rfl rfl, q_m7 57 rfl rfl, TX12, 37, rfl, by decide⟩
theorem Y_X11_front : q_Y yX11_front cX11_front 3 (some .int) 1 := ⟨q_m4 66 rfl rfl, q_m1 1 rfl rfl, by decide, by decide, by decide⟩
theorem Yv_X11_front : q_Yv yX11_front 11 := ⟨q_m4 64 rfl rfl, q_m4 65 rfl rfl, TX11, 10, rfl, by decide⟩
theorem Y_X12_front : q_Y yX12_front cX12_front 4 (some .int) 1 := ⟨q_m7 62 rfl rfl, q_m1 12 rfl rfl, by decide, by decide, by decide⟩
theorem Yv_X12_front : q_Yv yX12_front 12 := ⟨q_m7 60 rfl rfl, q_m7 61 rfl rfl, TX12, 37, rfl, by decide⟩
theorem Y_X11_breath : q_Y yX11_breath cX11_breath 3 (some .int) 2 := ⟨q_m4 74 rfl rfl, q_m1 1 rfl rfl, by decide, by decide, by decide⟩
theorem Yv_X11_breath : q_Yv yX11_breath 11 := ⟨q_m4 72 rfl rfl, q_m4 73 rfl rfl, TX11, 10, rfl, by decide⟩
theorem Y_X12_breath : q_Y yX12_breath cX12_breath 3 (some .int) 2 := ⟨q_m7 66 rfl rfl, q_m1 12 rfl rfl, by decide, by decide, by decide⟩
theorem Yv_X12_breath : q_Yv yX12_breath 12 := ⟨q_m7 64 rfl rfl, q_m7 65 rfl rfl, TX12, 37, rfl, by decide⟩
theorem Y_X11_set : q_Y yX11_set cX11_set 5 (some .int) 1 := ⟨q_m4 79 rfl rfl, q_m1 1 rfl rfl, by decide, by decide, by decide⟩
theorem Yv_X11_set : q_Yv yX11_set 11 := ⟨q_m4 77 rfl rfl, q_m4 78 rfl rfl, TX11, 10, rfl, by decide⟩
theorem Y_X12_set : q_Y yX12_set cX12_set 4 (some .int) 1 := ⟨q_m7 71 rfl rfl, q_m1 12 rfl rfl, by decide, by decide, by decide⟩
theorem Yv_X12_set : q_Yv yX12_set 12 := ⟨q_m7 69 rfl rfl, q_m7 70 rfl rfl, TX12, 37, rfl, by decide⟩
theorem Y_X11_undo : q_Y yX11_undo cX11_undo 1 (some .int) 0 := ⟨q_m4 83 rfl rfl, q_m1 1 rfl rfl, by decide, by decide, by decide⟩
theorem Yv_X11_undo : q_Yv yX11_undo 11 := ⟨q_m4 81 rfl rfl, q_m4 82 rfl rfl, TX11, 10, rfl, by decide⟩
theorem Y_X12_undo : q_Y yX12_undo cX12_undo 2 (some .int) 0 := ⟨q_m6 219 rfl rfl, q_m1 12 rfl rfl, by decide, by decide, by decide⟩
theorem Yv_X12_undo : q_Yv yX12_undo 12 := ⟨q_m6 217 rfl rfl, q_m6 218 rfl rfl, TX12, 37, rfl, by decide⟩
theorem Y_X11_fair : q_Y yX11_fair cX11_fair 3 (some .int) 1 := ⟨q_m4 91 rfl rfl, q_m1 1 rfl rfl, by decide, by decide, by decide⟩
theorem Yv_X11_fair : q_Yv yX11_fair 11 := ⟨q_m4 89 rfl rfl, q_m4 90 rfl rfl, TX11, 10, rfl, by decide⟩
theorem Y_X12_fair : q_Y yX12_fair cX12_fair 4 (some .int) 1 := ⟨q_m7 75 rfl rfl, q_m1 12 rfl rfl, by decide, by decide, by decide⟩
theorem Yv_X12_fair : q_Yv yX12_fair 12 := ⟨q_m7 73 rfl rfl, q_m7 74 rfl rfl, TX12, 37, rfl, by decide⟩
theorem Y_X11_swings : q_Y yX11_swings cX11_swings 2 (some .int) 1 := ⟨q_m4 110 rfl rfl, q_m1 1 rfl rfl, by decide, by decide, by decide⟩
theorem Yv_X11_swings : q_Yv yX11_swings 11 := ⟨q_m4 108 rfl rfl, q_m4 109 rfl rfl, TX11, 10, rfl, by decide⟩
theorem Y_X12_swings : q_Y yX12_swings cX12_swings 4 (some .int) 1 := ⟨q_m7 94 rfl rfl, q_m1 12 rfl rfl, by decide, by decide, by decide⟩
theorem Yv_X12_swings : q_Yv yX12_swings 12 := ⟨q_m7 92 rfl rfl, q_m7 93 rfl rfl, TX12, 37, rfl, by decide⟩
theorem Y_X11_shares : q_Y yX11_shares cX11_shares 2 (some .int) 1 := ⟨q_m4 129 rfl rfl, q_m1 1 rfl rfl, by decide, by decide, by decide⟩
theorem Yv_X11_shares : q_Yv yX11_shares 11 := ⟨q_m4 127 rfl rfl, q_m4 128 rfl rfl, TX11, 10, rfl, by decide⟩
theorem Y_X12_shares : q_Y yX12_shares cX12_shares 4 (some .int) 1 := ⟨q_m7 106 rfl rfl, q_m1 12 rfl rfl, by decide, by decide, by decide⟩
theorem Yv_X12_shares : q_Yv yX12_shares 12 := ⟨q_m7 104 rfl rfl, q_m7 105 rfl rfl, TX12, 37, rfl, by decide⟩
theorem Y_X11_fewest : q_Y yX11_fewest cX11_fewest 3 (some .int) 1 := ⟨q_m4 133 rfl rfl, q_m1 1 rfl rfl, by decide, by decide, by decide⟩
theorem Yv_X11_fewest : q_Yv yX11_fewest 11 := ⟨q_m4 131 rfl rfl, q_m4 132 rfl rfl, TX11, 10, rfl, by decide⟩
theorem Y_X12_fewest : q_Y yX12_fewest cX12_fewest 4 (some .int) 1 := ⟨q_m7 113 rfl rfl, q_m1 12 rfl rfl, by decide, by decide, by decide⟩
theorem Yv_X12_fewest : q_Yv yX12_fewest 12 := ⟨q_m7 111 rfl rfl, q_m7 112 rfl rfl, TX12, 37, rfl, by decide⟩
theorem Y_X11_needed : q_Y yX11_needed cX11_needed 1 (some .int) 0 := ⟨q_m4 142 rfl rfl, q_m1 1 rfl rfl, by decide, by decide, by decide⟩
theorem Yv_X11_needed : q_Yv yX11_needed 11 := ⟨q_m4 140 rfl rfl, q_m4 141 rfl rfl, TX11, 10, rfl, by decide⟩
theorem Y_X12_needed : q_Y yX12_needed cX12_needed 3 (some .int) 0 := ⟨q_m7 117 rfl rfl, q_m1 12 rfl rfl, by decide, by decide, by decide⟩
theorem Yv_X12_needed : q_Yv yX12_needed 12 := ⟨q_m7 115 rfl rfl, q_m7 116 rfl rfl, TX12, 37, rfl, by decide⟩
theorem Y_X11_ahead : q_Y yX11_ahead cX11_ahead 4 (some .int) 3 := ⟨q_m4 150 rfl rfl, q_m1 1 rfl rfl, by decide, by decide, by decide⟩
theorem Yv_X11_ahead : q_Yv yX11_ahead 11 := ⟨q_m4 148 rfl rfl, q_m4 149 rfl rfl, TX11, 10, rfl, by decide⟩
theorem Y_X12_ahead : q_Y yX12_ahead cX12_ahead 5 (some .int) 3 := ⟨q_m7 121 rfl rfl, q_m1 12 rfl rfl, by decide, by decide, by decide⟩
theorem Yv_X12_ahead : q_Yv yX12_ahead 12 := ⟨q_m7 119 rfl rfl, q_m7 120 rfl rfl, TX12, 37, rfl, by decide⟩
theorem Y_X11_over : q_Y yX11_over cX11_over 2 (some .int) 1 := ⟨q_m4 166 rfl rfl, q_m1 1 rfl rfl, by decide, by decide, by decide⟩
theorem Yv_X11_over : q_Yv yX11_over 11 := ⟨q_m4 164 rfl rfl, q_m4 165 rfl rfl, TX11, 10, rfl, by decide⟩
theorem Y_X12_over : q_Y yX12_over cX12_over 4 (some .int) 1 := ⟨q_m7 139 rfl rfl, q_m1 12 rfl rfl, by decide, by decide, by decide⟩
theorem Yv_X12_over : q_Yv yX12_over 12 := ⟨q_m7 137 rfl rfl, q_m7 138 rfl rfl, TX12, 37, rfl, by decide⟩
theorem Y_X11_row : q_Y yX11_row cX11_row 4 (some .int) 3 := ⟨q_m4 175 rfl rfl, q_m1 1 rfl rfl, by decide, by decide, by decide⟩
theorem Yv_X11_row : q_Yv yX11_row 11 := ⟨q_m4 173 rfl rfl, q_m4 174 rfl rfl, TX11, 10, rfl, by decide⟩
theorem Y_X12_row : q_Y yX12_row cX12_row 8 (some .int) 3 := ⟨q_m7 143 rfl rfl, q_m1 12 rfl rfl, by decide, by decide, by decide⟩
theorem Yv_X12_row : q_Yv yX12_row 12 := ⟨q_m7 141 rfl rfl, q_m7 142 rfl rfl, TX12, 37, rfl, by decide⟩
theorem Y_X11_trade : q_Y yX11_trade cX11_trade 3 (some .int) 2 := ⟨q_m4 195 rfl rfl, q_m1 1 rfl rfl, by decide, by decide, by decide⟩
theorem Yv_X11_trade : q_Yv yX11_trade 11 := ⟨q_m4 193 rfl rfl, q_m4 194 rfl rfl, TX11, 10, rfl, by decide⟩
theorem Y_X12_trade : q_Y yX12_trade cX12_trade 9 (some .int) 2 := ⟨q_m7 155 rfl rfl, q_m1 12 rfl rfl, by decide, by decide, by decide⟩
theorem Yv_X12_trade : q_Yv yX12_trade 12 := ⟨q_m7 153 rfl rfl, q_m7 154 rfl rfl, TX12, 37, rfl, by decide⟩
theorem Y_X11_out : q_Y yX11_out cX11_out 3 (some .int) 2 := ⟨q_m4 212 rfl rfl, q_m1 1 rfl rfl, by decide, by decide, by decide⟩
theorem Yv_X11_out : q_Yv yX11_out 11 := ⟨q_m4 210 rfl rfl, q_m4 211 rfl rfl, TX11, 10, rfl, by decide⟩
theorem Y_X12_out : q_Y yX12_out cX12_out 7 (some .int) 2 := ⟨q_m7 168 rfl rfl, q_m1 12 rfl rfl, by decide, by decide, by decide⟩
theorem Yv_X12_out : q_Yv yX12_out 12 := ⟨q_m7 166 rfl rfl, q_m7 167 rfl rfl, TX12, 37, rfl, by decide⟩
theorem Y_X11_strengths : q_Y yX11_strengths cX11_strengths 3 (some .int) 2 := ⟨q_m4 220 rfl rfl, q_m1 1 rfl rfl, by decide, by decide, by decide⟩
theorem Yv_X11_strengths : q_Yv yX11_strengths 11 := ⟨q_m4 218 rfl rfl, q_m4 219 rfl rfl, TX11, 10, rfl, by decide⟩
theorem Y_X12_strengths : q_Y yX12_strengths cX12_strengths 3 (some .int) 2 := ⟨q_m7 232 rfl rfl, q_m1 12 rfl rfl, by decide, by decide, by decide⟩
theorem Yv_X12_strengths : q_Yv yX12_strengths 12 := ⟨q_m7 230 rfl rfl, q_m7 231 rfl rfl, TX12, 37, rfl, by decide⟩
theorem Y_X11_winds : q_Y yX11_winds cX11_winds 3 (some .int) 2 := ⟨q_m5 7 rfl rfl, q_m1 1 rfl rfl, by decide, by decide, by decide⟩
theorem Yv_X11_winds : q_Yv yX11_winds 11 := ⟨q_m5 5 rfl rfl, q_m5 6 rfl rfl, TX11, 10, rfl, by decide⟩
theorem Y_X12_winds : q_Y yX12_winds cX12_winds 3 (some .int) 2 := ⟨q_m8 0 rfl rfl, q_m1 12 rfl rfl, by decide, by decide, by decide⟩
theorem Yv_X12_winds : q_Yv yX12_winds 12 := ⟨q_m7 238 rfl rfl, q_m7 239 rfl rfl, TX12, 37, rfl, by decide⟩
theorem Y_X11_rests : q_Y yX11_rests cX11_rests 5 (some .int) 4 := ⟨q_m5 15 rfl rfl, q_m1 1 rfl rfl, by decide, by decide, by decide⟩
theorem Yv_X11_rests : q_Yv yX11_rests 11 := ⟨q_m5 13 rfl rfl, q_m5 14 rfl rfl, TX11, 10, rfl, by decide⟩
theorem Y_X12_rests : q_Y yX12_rests cX12_rests 8 (some .int) 4 := ⟨q_m7 172 rfl rfl, q_m1 12 rfl rfl, by decide, by decide, by decide⟩
theorem Yv_X12_rests : q_Yv yX12_rests 12 := ⟨q_m7 170 rfl rfl, q_m7 171 rfl rfl, TX12, 37, rfl, by decide⟩
theorem Y_X11_alike : q_Y yX11_alike cX11_alike 2 (some .int) 1 := ⟨q_m5 27 rfl rfl, q_m1 1 rfl rfl, by decide, by decide, by decide⟩
theorem Yv_X11_alike : q_Yv yX11_alike 11 := ⟨q_m5 25 rfl rfl, q_m5 26 rfl rfl, TX11, 10, rfl, by decide⟩
theorem Y_X12_alike : q_Y yX12_alike cX12_alike 4 (some .int) 1 := ⟨q_m7 185 rfl rfl, q_m1 12 rfl rfl, by decide, by decide, by decide⟩
theorem Yv_X12_alike : q_Yv yX12_alike 12 := ⟨q_m7 183 rfl rfl, q_m7 184 rfl rfl, TX12, 37, rfl, by decide⟩
theorem Y_X11_pence : q_Y yX11_pence cX11_pence 3 (some .int) 2 := ⟨q_m5 39 rfl rfl, q_m1 1 rfl rfl, by decide, by decide, by decide⟩
theorem Yv_X11_pence : q_Yv yX11_pence 11 := ⟨q_m5 37 rfl rfl, q_m5 38 rfl rfl, TX11, 10, rfl, by decide⟩
theorem Y_X12_pence : q_Y yX12_pence cX12_pence 9 (some .int) 2 := ⟨q_m7 193 rfl rfl, q_m1 12 rfl rfl, by decide, by decide, by decide⟩
theorem Yv_X12_pence : q_Yv yX12_pence 12 := ⟨q_m7 191 rfl rfl, q_m7 192 rfl rfl, TX12, 37, rfl, by decide⟩
theorem Y_X11_note : q_Y yX11_note cX11_note 4 (some .int) 2 := ⟨q_m5 51 rfl rfl, q_m1 1 rfl rfl, by decide, by decide, by decide⟩
theorem Yv_X11_note : q_Yv yX11_note 11 := ⟨q_m5 49 rfl rfl, q_m5 50 rfl rfl, TX11, 10, rfl, by decide⟩
theorem Y_X12_note : q_Y yX12_note cX12_note 4 (some .int) 2 := ⟨q_m7 202 rfl rfl, q_m1 12 rfl rfl, by decide, by decide, by decide⟩
theorem Yv_X12_note : q_Yv yX12_note 12 := ⟨q_m7 200 rfl rfl, q_m7 201 rfl rfl, TX12, 37, rfl, by decide⟩
theorem Y_X11_ruled : q_Y yX11_ruled cX11_ruled 2 (some .int) 1 := ⟨q_m5 59 rfl rfl, q_m1 1 rfl rfl, by decide, by decide, by decide⟩
theorem Yv_X11_ruled : q_Yv yX11_ruled 11 := ⟨q_m5 57 rfl rfl, q_m5 58 rfl rfl, TX11, 10, rfl, by decide⟩
theorem Y_X12_ruled : q_Y yX12_ruled cX12_ruled 5 (some .int) 1 := ⟨q_m7 208 rfl rfl, q_m1 12 rfl rfl, by decide, by decide, by decide⟩
theorem Yv_X12_ruled : q_Yv yX12_ruled 12 := ⟨q_m7 206 rfl rfl, q_m7 207 rfl rfl, TX12, 37, rfl, by decide⟩
theorem Y_X11_look : q_Y yX11_look cX11_look 2 (some .int) 1 := ⟨q_m5 67 rfl rfl, q_m1 1 rfl rfl, by decide, by decide, by decide⟩
theorem Yv_X11_look : q_Yv yX11_look 11 := ⟨q_m5 65 rfl rfl, q_m5 66 rfl rfl, TX11, 10, rfl, by decide⟩
theorem Y_X12_look : q_Y yX12_look cX12_look 6 (some .int) 1 := ⟨q_m7 224 rfl rfl, q_m1 12 rfl rfl, by decide, by decide, by decide⟩
theorem Yv_X12_look : q_Yv yX12_look 12 := ⟨q_m7 222 rfl rfl, q_m7 223 rfl rfl, TX12, 37, rfl, by decide⟩
theorem Y_X11_seed : q_Y yX11_seed cX11_seed 3 (some .int) 1 := ⟨q_m5 84 rfl rfl, q_m1 1 rfl rfl, by decide, by decide, by decide⟩
theorem Yv_X11_seed : q_Yv yX11_seed 11 := ⟨q_m5 82 rfl rfl, q_m5 83 rfl rfl, TX11, 10, rfl, by decide⟩
theorem Y_X12_seed : q_Y yX12_seed cX12_seed 3 (some .int) 1 := ⟨q_m8 4 rfl rfl, q_m1 12 rfl rfl, by decide, by decide, by decide⟩
theorem Yv_X12_seed : q_Yv yX12_seed 12 := ⟨q_m8 2 rfl rfl, q_m8 3 rfl rfl, TX12, 37, rfl, by decide⟩
theorem Y_X11_rain : q_Y yX11_rain cX11_rain 5 (some .int) 4 := ⟨q_m5 88 rfl rfl, q_m1 1 rfl rfl, by decide, by decide, by decide⟩
theorem Yv_X11_rain : q_Yv yX11_rain 11 := ⟨q_m5 86 rfl rfl, q_m5 87 rfl rfl, TX11, 10, rfl, by decide⟩
theorem Y_X12_rain : q_Y yX12_rain cX12_rain 9 (some .int) 4 := ⟨q_m8 8 rfl rfl, q_m1 12 rfl rfl, by decide, by decide, by decide⟩
theorem Yv_X12_rain : q_Yv yX12_rain 12 := ⟨q_m8 6 rfl rfl, q_m8 7 rfl rfl, TX12, 37, rfl, by decide⟩
theorem Y_X11_count : q_Y yX11_count cX11_count 2 (some .int) 1 := ⟨q_m5 106 rfl rfl, q_m1 1 rfl rfl, by decide, by decide, by decide⟩
theorem Yv_X11_count : q_Yv yX11_count 11 := ⟨q_m5 104 rfl rfl, q_m5 105 rfl rfl, TX11, 10, rfl, by decide⟩
theorem Y_X12_count : q_Y yX12_count cX12_count 2 (some .int) 1 := ⟨q_m8 21 rfl rfl, q_m1 12 rfl rfl, by decide, by decide, by decide⟩
theorem Yv_X12_count : q_Yv yX12_count 12 := ⟨q_m8 19 rfl rfl, q_m8 20 rfl rfl, TX12, 37, rfl, by decide⟩
theorem Y_X11_image : q_Y yX11_image cX11_image 2 (some .int) 1 := ⟨q_m5 114 rfl rfl, q_m1 1 rfl rfl, by decide, by decide, by decide⟩
theorem Yv_X11_image : q_Yv yX11_image 11 := ⟨q_m5 112 rfl rfl, q_m5 113 rfl rfl, TX11, 10, rfl, by decide⟩
theorem Y_X12_image : q_Y yX12_image cX12_image 3 (some .int) 1 := ⟨q_m8 25 rfl rfl, q_m1 12 rfl rfl, by decide, by decide, by decide⟩
theorem Yv_X12_image : q_Yv yX12_image 12 := ⟨q_m8 23 rfl rfl, q_m8 24 rfl rfl, TX12, 37, rfl, by decide⟩
theorem Y_X11_back : q_Y yX11_back cX11_back 2 (some .int) 1 := ⟨q_m5 124 rfl rfl, q_m1 1 rfl rfl, by decide, by decide, by decide⟩
theorem Yv_X11_back : q_Yv yX11_back 11 := ⟨q_m5 122 rfl rfl, q_m5 123 rfl rfl, TX11, 10, rfl, by decide⟩
theorem Y_X12_back : q_Y yX12_back cX12_back 3 (some .int) 1 := ⟨q_m8 29 rfl rfl, q_m1 12 rfl rfl, by decide, by decide, by decide⟩
theorem Yv_X12_back : q_Yv yX12_back 12 := ⟨q_m8 27 rfl rfl, q_m8 28 rfl rfl, TX12, 37, rfl, by decide⟩
theorem mL_9 : Cond.methodLink RL 9 yX11_init ∈ q_T := q_m1 24 rfl rfl
theorem mL_13 : Cond.methodLink RL 13 yX11_feed ∈ q_T := q_m2 158 rfl rfl
theorem mL_18 : Cond.methodLink RL 18 yX11_end ∈ q_T := q_m2 170 rfl rfl
theorem mL_23 : Cond.methodLink RL 23 yX11_rope ∈ q_T := q_m2 174 rfl rfl
theorem mL_28 : Cond.methodLink RL 28 yX11_rule ∈ q_T := q_m3 74 rfl rfl
theorem mL_32 : Cond.methodLink RL 32 yX11_force ∈ q_T := q_m3 172 rfl rfl
theorem mL_36 : Cond.methodLink RL 36 yX11_puller ∈ q_T := q_m3 176 rfl rfl
theorem mL_41 : Cond.methodLink RL 41 yX11_ribbon ∈ q_T := q_m3 192 rfl rfl
theorem mL_45 : Cond.methodLink RL 45 yX11_heave ∈ q_T := q_m3 196 rfl rfl
theorem mL_49 : Cond.methodLink RL 49 yX11_send ∈ q_T := q_m4 55 rfl rfl
theorem mL_53 : Cond.methodLink RL 53 yX11_front ∈ q_T := q_m4 63 rfl rfl
theorem mL_57 : Cond.methodLink RL 57 yX11_breath ∈ q_T := q_m4 71 rfl rfl
theorem mL_61 : Cond.methodLink RL 61 yX11_set ∈ q_T := q_m4 76 rfl rfl
theorem mL_65 : Cond.methodLink RL 65 yX11_undo ∈ q_T := q_m4 80 rfl rfl
theorem mL_69 : Cond.methodLink RL 69 yX11_fair ∈ q_T := q_m4 88 rfl rfl
theorem mL_73 : Cond.methodLink RL 73 yX11_swings ∈ q_T := q_m4 107 rfl rfl
theorem mL_77 : Cond.methodLink RL 77 yX11_shares ∈ q_T := q_m4 126 rfl rfl
theorem mL_81 : Cond.methodLink RL 81 yX11_fewest ∈ q_T := q_m4 130 rfl rfl
theorem mL_85 : Cond.methodLink RL 85 yX11_needed ∈ q_T := q_m4 139 rfl rfl
theorem mL_89 : Cond.methodLink RL 89 yX11_ahead ∈ q_T := q_m4 147 rfl rfl
theorem mL_94 : Cond.methodLink RL 94 yX11_over ∈ q_T := q_m4 163 rfl rfl
theorem mL_98 : Cond.methodLink RL 98 yX11_row ∈ q_T := q_m4 172 rfl rfl
theorem mL_102 : Cond.methodLink RL 102 yX11_trade ∈ q_T := q_m4 192 rfl rfl
theorem mL_106 : Cond.methodLink RL 106 yX11_out ∈ q_T := q_m4 209 rfl rfl
theorem mL_110 : Cond.methodLink RL 110 yX11_strengths ∈ q_T := q_m4 217 rfl rfl
theorem mL_114 : Cond.methodLink RL 114 yX11_winds ∈ q_T := q_m5 4 rfl rfl
theorem mL_118 : Cond.methodLink RL 118 yX11_rests ∈ q_T := q_m5 12 rfl rfl
theorem mL_123 : Cond.methodLink RL 123 yX11_alike ∈ q_T := q_m5 24 rfl rfl
theorem mL_127 : Cond.methodLink RL 127 yX11_pence ∈ q_T := q_m5 36 rfl rfl
theorem mL_131 : Cond.methodLink RL 131 yX11_note ∈ q_T := q_m5 48 rfl rfl
theorem mL_135 : Cond.methodLink RL 135 yX11_ruled ∈ q_T := q_m5 56 rfl rfl
theorem mL_139 : Cond.methodLink RL 139 yX11_look ∈ q_T := q_m5 64 rfl rfl
theorem mL_143 : Cond.methodLink RL 143 yX11_seed ∈ q_T := q_m5 81 rfl rfl
theorem mL_147 : Cond.methodLink RL 147 yX11_rain ∈ q_T := q_m5 85 rfl rfl
theorem mL_151 : Cond.methodLink RL 151 yX11_count ∈ q_T := q_m5 103 rfl rfl
theorem mL_155 : Cond.methodLink RL 155 yX11_image ∈ q_T := q_m5 111 rfl rfl
theorem mL_159 : Cond.methodLink RL 159 yX11_back ∈ q_T := q_m5 121 rfl rfl
theorem mL_12 : Cond.methodLink RL 12 yX12_init ∈ q_T := q_m5 127 rfl rfl
theorem mL_17 : Cond.methodLink RL 17 yX12_feed ∈ q_T := q_m6 4 rfl rfl
theorem mL_22 : Cond.methodLink RL 22 yX12_end ∈ q_T := q_m6 12 rfl rfl
theorem mL_31 : Cond.methodLink RL 31 yX12_rule ∈ q_T := q_m6 16 rfl rfl
theorem mL_27 : Cond.methodLink RL 27 yX12_rope ∈ q_T := q_m6 164 rfl rfl
theorem mL_35 : Cond.methodLink RL 35 yX12_force ∈ q_T := q_m6 172 rfl rfl
theorem mL_40 : Cond.methodLink RL 40 yX12_puller ∈ q_T := q_m6 180 rfl rfl
theorem mL_44 : Cond.methodLink RL 44 yX12_ribbon ∈ q_T := q_m6 208 rfl rfl
theorem mL_68 : Cond.methodLink RL 68 yX12_undo ∈ q_T := q_m6 216 rfl rfl
theorem mL_48 : Cond.methodLink RL 48 yX12_heave ∈ q_T := q_m6 220 rfl rfl
theorem mL_52 : Cond.methodLink RL 52 yX12_send ∈ q_T := q_m7 55 rfl rfl
theorem mL_56 : Cond.methodLink RL 56 yX12_front ∈ q_T := q_m7 59 rfl rfl
theorem mL_60 : Cond.methodLink RL 60 yX12_breath ∈ q_T := q_m7 63 rfl rfl
theorem mL_64 : Cond.methodLink RL 64 yX12_set ∈ q_T := q_m7 68 rfl rfl
theorem mL_72 : Cond.methodLink RL 72 yX12_fair ∈ q_T := q_m7 72 rfl rfl
theorem mL_76 : Cond.methodLink RL 76 yX12_swings ∈ q_T := q_m7 91 rfl rfl
theorem mL_80 : Cond.methodLink RL 80 yX12_shares ∈ q_T := q_m7 103 rfl rfl
theorem mL_84 : Cond.methodLink RL 84 yX12_fewest ∈ q_T := q_m7 110 rfl rfl
theorem mL_88 : Cond.methodLink RL 88 yX12_needed ∈ q_T := q_m7 114 rfl rfl
theorem mL_93 : Cond.methodLink RL 93 yX12_ahead ∈ q_T := q_m7 118 rfl rfl
theorem mL_97 : Cond.methodLink RL 97 yX12_over ∈ q_T := q_m7 136 rfl rfl
theorem mL_101 : Cond.methodLink RL 101 yX12_row ∈ q_T := q_m7 140 rfl rfl
theorem mL_105 : Cond.methodLink RL 105 yX12_trade ∈ q_T := q_m7 152 rfl rfl
theorem mL_109 : Cond.methodLink RL 109 yX12_out ∈ q_T := q_m7 165 rfl rfl
theorem mL_122 : Cond.methodLink RL 122 yX12_rests ∈ q_T := q_m7 169 rfl rfl
theorem mL_126 : Cond.methodLink RL 126 yX12_alike ∈ q_T := q_m7 182 rfl rfl
theorem mL_130 : Cond.methodLink RL 130 yX12_pence ∈ q_T := q_m7 190 rfl rfl
theorem mL_134 : Cond.methodLink RL 134 yX12_note ∈ q_T := q_m7 199 rfl rfl
theorem mL_138 : Cond.methodLink RL 138 yX12_ruled ∈ q_T := q_m7 205 rfl rfl
theorem mL_142 : Cond.methodLink RL 142 yX12_look ∈ q_T := q_m7 221 rfl rfl
theorem mL_113 : Cond.methodLink RL 113 yX12_strengths ∈ q_T := q_m7 229 rfl rfl
theorem mL_117 : Cond.methodLink RL 117 yX12_winds ∈ q_T := q_m7 237 rfl rfl
theorem mL_146 : Cond.methodLink RL 146 yX12_seed ∈ q_T := q_m8 1 rfl rfl
theorem mL_150 : Cond.methodLink RL 150 yX12_rain ∈ q_T := q_m8 5 rfl rfl
theorem mL_154 : Cond.methodLink RL 154 yX12_count ∈ q_T := q_m8 18 rfl rfl
theorem mL_158 : Cond.methodLink RL 158 yX12_image ∈ q_T := q_m8 22 rfl rfl
theorem mL_162 : Cond.methodLink RL 162 yX12_back ∈ q_T := q_m8 26 rfl rfl
theorem cL_7 : Cond.classLink RL 7 RX11 ∈ q_T := q_m1 22 rfl rfl
theorem cL_10 : Cond.classLink RL 10 RX12 ∈ q_T := q_m5 125 rfl rfl
theorem in_11 : Cond.instantiable RX11 10 ∈ q_T := q_m1 23 rfl rfl
theorem ni_11 : Cond.initialized RX11 ∈ q_T := q_m1 1 rfl rfl
theorem df_11 : ∀ j, j < 10 → defaultValue (tyX11 j) = vp_V [.null, .null, .null, .null, .int 0, .null, .null, .null, .null, .null] j := fun j hj => match j, hj with
  | 0, _ => rfl
  | 1, _ => rfl
  | 2, _ => rfl
  | 3, _ => rfl
  | 4, _ => rfl
  | 5, _ => rfl
  | 6, _ => rfl
  | 7, _ => rfl
  | 8, _ => rfl
  | 9, _ => rfl
  | j + 10, h => absurd h (by omega)
theorem Y_X11_init : q_Y yX11_init cX11_init 2 none 0 := ⟨q_m1 26 rfl rfl, q_m1 1 rfl rfl, by decide, by decide, by decide⟩
theorem Yi_X11_init : yX11_init.name = "<init>" ∧ Cond.instanceMethod yX11_init ∈ q_T := ⟨rfl, q_m1 25 rfl rfl⟩
theorem in_12 : Cond.instantiable RX12 37 ∈ q_T := q_m5 126 rfl rfl
theorem ni_12 : Cond.initialized RX12 ∈ q_T := q_m1 12 rfl rfl
theorem df_12 : ∀ j, j < 37 → defaultValue (tyX12 j) = vp_V [.null, .int 0, .int 0, .null, .null, .null, .null, .null, .int 0, .int 0, .int 0, .int 0, .int 0, .int 0, .int 0, .null, .int 0, .null, .int 0, .null, .null, .int 0, .int 0, .null, .null, .null, .int 0, .null, .null, .null, .null, .null, .long 0, .null, .null, .null, .null] j := fun j hj => match j, hj with
  | 0, _ => rfl
  | 1, _ => rfl
  | 2, _ => rfl
  | 3, _ => rfl
  | 4, _ => rfl
  | 5, _ => rfl
  | 6, _ => rfl
  | 7, _ => rfl
  | 8, _ => rfl
  | 9, _ => rfl
  | 10, _ => rfl
  | 11, _ => rfl
  | 12, _ => rfl
  | 13, _ => rfl
  | 14, _ => rfl
  | 15, _ => rfl
  | 16, _ => rfl
  | 17, _ => rfl
  | 18, _ => rfl
  | 19, _ => rfl
  | 20, _ => rfl
  | 21, _ => rfl
  | 22, _ => rfl
  | 23, _ => rfl
  | 24, _ => rfl
  | 25, _ => rfl
  | 26, _ => rfl
  | 27, _ => rfl
  | 28, _ => rfl
  | 29, _ => rfl
  | 30, _ => rfl
  | 31, _ => rfl
  | 32, _ => rfl
  | 33, _ => rfl
  | 34, _ => rfl
  | 35, _ => rfl
  | 36, _ => rfl
  | j + 37, h => absurd h (by omega)
theorem Y_X12_init : q_Y yX12_init cX12_init 1 none 0 := ⟨q_m5 129 rfl rfl, q_m1 12 rfl rfl, by decide, by decide, by decide⟩
theorem Yi_X12_init : yX12_init.name = "<init>" ∧ Cond.instanceMethod yX12_init ∈ q_T := ⟨rfl, q_m5 128 rfl rfl⟩
theorem q_lgt (j L : Nat) (hj : j ≤ 3078) (hL : L ≤ 3072) (h : L < j + 6) : Int32.ofNat L - 6 < nI j := by
  rw [Int32.lt_iff_toInt_lt, show (Int32.ofNat L - 6).toInt = (L : Int) - 6 from pk_sub_toInt (a := L) (b := 6) (by omega) (by omega), nI_toInt (by omega)]
  omega
theorem q_lle (j L : Nat) (hL : L ≤ 3072) (h : j + 6 ≤ L) : ¬ (Int32.ofNat L - 6 < nI j) := by
  rw [Int32.lt_iff_toInt_lt, show (Int32.ofNat L - 6).toInt = (L : Int) - 6 from pk_sub_toInt (a := L) (b := 6) (by omega) (by omega), nI_toInt (by omega)]
  omega
theorem q_i6 (j : Nat) : nI j + Int32.ofInt 6 = nI (j + 6) := nI_add j 6
/-- feed -/
def q_st0 (x m : Nat) (Inv : Nat → q_H → Prop) : Prop := (∀ (z : Nat) (h : q_H) (c1 c2 c3 c4 c5 : Int32), Inv z h → ∃ (r : Int32) (h1 : q_H) (h2 : q_H), m_X11_feed h x c1 c2 c3 c4 c5 = some (r, h1) ∧ (∃ fs, h1 m = .inr (12, fs)) ∧ m_X12_feed h1 m c1 c2 c3 c4 c5 = some (r, h2) ∧ Inv z h2)
/-- end -/
def q_st1 (x m : Nat) (Inv : Nat → q_H → Prop) : Prop := (∀ (z : Nat) (h : q_H) (c1 : Int32), Inv z h → ∃ (r : Int32) (h1 : q_H) (h2 : q_H), m_X11_end h x c1 = some (r, h1) ∧ (∃ fs, h1 m = .inr (12, fs)) ∧ m_X12_end h1 m c1 = some (r, h2) ∧ Inv z h2)
/-- rope -/
def q_st2 (x m : Nat) (Inv : Nat → q_H → Prop) : Prop := (∀ (z : Nat) (h : q_H), Inv z h → ∃ (r : Int32) (z1 : Nat) (h1 : q_H) (h2 : q_H), m_X11_rope z h x = some (r, z1, h1) ∧ (∃ fs, h1 m = .inr (12, fs)) ∧ m_X12_rope h1 m = some (r, h2) ∧ Inv z1 h2)
/-- rule -/
def q_st3 (x m : Nat) (Inv : Nat → q_H → Prop) : Prop := (∀ (z : Nat) (h : q_H), Inv z h → ∃ (r : Int32) (z1 : Nat) (h1 : q_H) (h2 : q_H), m_X11_rule z h x = some (r, z1, h1) ∧ (∃ fs, h1 m = .inr (12, fs)) ∧ m_X12_rule h1 m = some (r, h2) ∧ Inv z1 h2)
/-- force -/
def q_st4 (x m : Nat) (Inv : Nat → q_H → Prop) : Prop := (∀ (z : Nat) (h : q_H) (c1 : Int32), Inv z h → ∃ (r : Int32) (h1 : q_H) (h2 : q_H), m_X11_force h x c1 = some (r, h1) ∧ (∃ fs, h1 m = .inr (12, fs)) ∧ m_X12_force h1 m c1 = some (r, h2) ∧ Inv z h2)
/-- puller -/
def q_st5 (x m : Nat) (Inv : Nat → q_H → Prop) : Prop := (∀ (z : Nat) (h : q_H) (c1 c2 : Int32), Inv z h → ∃ (r : Int32), m_X11_puller h x c1 c2 = some r ∧ (∃ fs, h m = .inr (12, fs)) ∧ m_X12_puller h m c1 c2 = some r ∧ Inv z h)
/-- ribbon -/
def q_st6 (x m : Nat) (Inv : Nat → q_H → Prop) : Prop := (∀ (z : Nat) (h : q_H), Inv z h → ∃ (r : Int32), m_X11_ribbon h x = some r ∧ (∃ fs, h m = .inr (12, fs)) ∧ m_X12_ribbon h m = some r ∧ Inv z h)
/-- heave -/
def q_st7 (x m : Nat) (Inv : Nat → q_H → Prop) : Prop := (∀ (z : Nat) (h : q_H), Inv z h → ∃ (r : Int32) (h1 : q_H) (h2 : q_H), m_X11_heave h x = some (r, h1) ∧ (∃ fs, h1 m = .inr (12, fs)) ∧ m_X12_heave h1 m = some (r, h2) ∧ Inv z h2)
/-- send -/
def q_st8 (x m : Nat) (Inv : Nat → q_H → Prop) : Prop := (∀ (z : Nat) (h : q_H) (c1 : Int32), Inv z h → ∃ (r : Int32) (h1 : q_H) (h2 : q_H), m_X11_send h x c1 = some (r, h1) ∧ (∃ fs, h1 m = .inr (12, fs)) ∧ m_X12_send h1 m c1 = some (r, h2) ∧ Inv z h2)
/-- front -/
def q_st9 (x m : Nat) (Inv : Nat → q_H → Prop) : Prop := (∀ (z : Nat) (h : q_H) (c1 : Int32), Inv z h → ∃ (r : Int32) (h1 : q_H) (h2 : q_H), m_X11_front h x c1 = some (r, h1) ∧ (∃ fs, h1 m = .inr (12, fs)) ∧ m_X12_front h1 m c1 = some (r, h2) ∧ Inv z h2)
/-- breath -/
def q_st10 (x m : Nat) (Inv : Nat → q_H → Prop) : Prop := (∀ (z : Nat) (h : q_H) (c1 c2 : Int32), Inv z h → ∃ (r : Int32) (h1 : q_H) (h2 : q_H), m_X11_breath h x c1 c2 = some (r, h1) ∧ (∃ fs, h1 m = .inr (12, fs)) ∧ m_X12_breath h1 m c1 c2 = some (r, h2) ∧ Inv z h2)
/-- set -/
def q_st11 (x m : Nat) (Inv : Nat → q_H → Prop) : Prop := (∀ (z : Nat) (h : q_H) (c1 : Int32), Inv z h → ∃ (r : Int32) (h1 : q_H) (h2 : q_H), m_X11_set h x c1 = some (r, h1) ∧ (∃ fs, h1 m = .inr (12, fs)) ∧ m_X12_set h1 m c1 = some (r, h2) ∧ Inv z h2)
/-- undo -/
def q_st12 (x m : Nat) (Inv : Nat → q_H → Prop) : Prop := (∀ (z : Nat) (h : q_H), Inv z h → ∃ (r : Int32) (h1 : q_H) (h2 : q_H), m_X11_undo h x = some (r, h1) ∧ (∃ fs, h1 m = .inr (12, fs)) ∧ m_X12_undo h1 m = some (r, h2) ∧ Inv z h2)
/-- fair -/
def q_st13 (x m : Nat) (Inv : Nat → q_H → Prop) : Prop := (∀ (z : Nat) (h : q_H) (c1 : Int32), Inv z h → ∃ (r : Int32), m_X11_fair h x c1 = some r ∧ (∃ fs, h m = .inr (12, fs)) ∧ m_X12_fair h m c1 = some r ∧ Inv z h)
/-- swings -/
def q_st14 (x m : Nat) (Inv : Nat → q_H → Prop) : Prop := (∀ (z : Nat) (h : q_H) (c1 : Int32), Inv z h → ∃ (r : Int32), m_X11_swings h x c1 = some r ∧ (∃ fs, h m = .inr (12, fs)) ∧ m_X12_swings h m c1 = some r ∧ Inv z h)
/-- shares -/
def q_st15 (x m : Nat) (Inv : Nat → q_H → Prop) : Prop := (∀ (z : Nat) (h : q_H) (c1 : Int32), Inv z h → ∃ (r : Int32), m_X11_shares h x c1 = some r ∧ (∃ fs, h m = .inr (12, fs)) ∧ m_X12_shares h m c1 = some r ∧ Inv z h)
/-- fewest -/
def q_st16 (x m : Nat) (Inv : Nat → q_H → Prop) : Prop := (∀ (z : Nat) (h : q_H) (c1 : Int32), Inv z h → ∃ (r : Int32), m_X11_fewest h x c1 = some r ∧ (∃ fs, h m = .inr (12, fs)) ∧ m_X12_fewest h m c1 = some r ∧ Inv z h)
/-- needed -/
def q_st17 (x m : Nat) (Inv : Nat → q_H → Prop) : Prop := (∀ (z : Nat) (h : q_H), Inv z h → ∃ (r : Int32), m_X11_needed h x = some r ∧ (∃ fs, h m = .inr (12, fs)) ∧ m_X12_needed h m = some r ∧ Inv z h)
/-- ahead -/
def q_st18 (x m : Nat) (Inv : Nat → q_H → Prop) : Prop := (∀ (z : Nat) (h : q_H) (c1 c2 c3 : Int32), Inv z h → ∃ (r : Int32) (h1 : q_H) (h2 : q_H), m_X11_ahead h x c1 c2 c3 = some (r, h1) ∧ (∃ fs, h1 m = .inr (12, fs)) ∧ m_X12_ahead h1 m c1 c2 c3 = some (r, h2) ∧ Inv z h2)
/-- over -/
def q_st19 (x m : Nat) (Inv : Nat → q_H → Prop) : Prop := (∀ (z : Nat) (h : q_H) (c1 : Int32), Inv z h → ∃ (r : Int32) (h1 : q_H) (h2 : q_H), m_X11_over h x c1 = some (r, h1) ∧ (∃ fs, h1 m = .inr (12, fs)) ∧ m_X12_over h1 m c1 = some (r, h2) ∧ Inv z h2)
/-- row -/
def q_st20 (x m : Nat) (Inv : Nat → q_H → Prop) : Prop := (∀ (z : Nat) (h : q_H) (c1 c2 c3 : Int32), Inv z h → ∃ (r : Int32) (h1 : q_H) (h2 : q_H), m_X11_row h x c1 c2 c3 = some (r, h1) ∧ (∃ fs, h1 m = .inr (12, fs)) ∧ m_X12_row h1 m c1 c2 c3 = some (r, h2) ∧ Inv z h2)
/-- trade -/
def q_st21 (x m : Nat) (Inv : Nat → q_H → Prop) : Prop := (∀ (z : Nat) (h : q_H) (c1 c2 : Int32), Inv z h → ∃ (r : Int32) (h1 : q_H) (h2 : q_H), m_X11_trade h x c1 c2 = some (r, h1) ∧ (∃ fs, h1 m = .inr (12, fs)) ∧ m_X12_trade h1 m c1 c2 = some (r, h2) ∧ Inv z h2)
/-- out -/
def q_st22 (x m : Nat) (Inv : Nat → q_H → Prop) : Prop := (∀ (z : Nat) (h : q_H) (c1 c2 : Int32), Inv z h → ∃ (r : Int32) (h1 : q_H) (h2 : q_H), m_X11_out h x c1 c2 = some (r, h1) ∧ (∃ fs, h1 m = .inr (12, fs)) ∧ m_X12_out h1 m c1 c2 = some (r, h2) ∧ Inv z h2)
/-- strengths -/
def q_st23 (x m : Nat) (Inv : Nat → q_H → Prop) : Prop := (∀ (z : Nat) (h : q_H) (c1 c2 : Int32), Inv z h → ∃ (r : Int32) (h1 : q_H) (h2 : q_H), m_X11_strengths h x c1 c2 = some (r, h1) ∧ (∃ fs, h1 m = .inr (12, fs)) ∧ m_X12_strengths h1 m c1 c2 = some (r, h2) ∧ Inv z h2)
/-- winds -/
def q_st24 (x m : Nat) (Inv : Nat → q_H → Prop) : Prop := (∀ (z : Nat) (h : q_H) (c1 c2 : Int32), Inv z h → ∃ (r : Int32) (h1 : q_H) (h2 : q_H), m_X11_winds h x c1 c2 = some (r, h1) ∧ (∃ fs, h1 m = .inr (12, fs)) ∧ m_X12_winds h1 m c1 c2 = some (r, h2) ∧ Inv z h2)
/-- rests -/
def q_st25 (x m : Nat) (Inv : Nat → q_H → Prop) : Prop := (∀ (z : Nat) (h : q_H) (c1 c2 c3 c4 : Int32), Inv z h → ∃ (r : Int32) (h1 : q_H) (h2 : q_H), m_X11_rests h x c1 c2 c3 c4 = some (r, h1) ∧ (∃ fs, h1 m = .inr (12, fs)) ∧ m_X12_rests h1 m c1 c2 c3 c4 = some (r, h2) ∧ Inv z h2)
/-- alike -/
def q_st26 (x m : Nat) (Inv : Nat → q_H → Prop) : Prop := (∀ (z : Nat) (h : q_H) (c1 : Int32), Inv z h → ∃ (r : Int32) (h1 : q_H) (h2 : q_H), m_X11_alike h x c1 = some (r, h1) ∧ (∃ fs, h1 m = .inr (12, fs)) ∧ m_X12_alike h1 m c1 = some (r, h2) ∧ Inv z h2)
/-- pence -/
def q_st27 (x m : Nat) (Inv : Nat → q_H → Prop) : Prop := (∀ (z : Nat) (h : q_H) (c1 c2 : Int32), Inv z h → ∃ (r : Int32), m_X11_pence h x c1 c2 = some r ∧ (∃ fs, h m = .inr (12, fs)) ∧ m_X12_pence h m c1 c2 = some r ∧ Inv z h)
/-- note -/
def q_st28 (x m : Nat) (Inv : Nat → q_H → Prop) : Prop := (∀ (z : Nat) (h : q_H) (c1 c2 : Int32), Inv z h → ∃ (r : Int32) (h1 : q_H) (h2 : q_H), m_X11_note h x c1 c2 = some (r, h1) ∧ (∃ fs, h1 m = .inr (12, fs)) ∧ m_X12_note h1 m c1 c2 = some (r, h2) ∧ Inv z h2)
/-- ruled -/
def q_st29 (x m : Nat) (Inv : Nat → q_H → Prop) : Prop := (∀ (z : Nat) (h : q_H) (c1 : Int32), Inv z h → ∃ (r : Int32) (h1 : q_H) (h2 : q_H), m_X11_ruled h x c1 = some (r, h1) ∧ (∃ fs, h1 m = .inr (12, fs)) ∧ m_X12_ruled h1 m c1 = some (r, h2) ∧ Inv z h2)
/-- look -/
def q_st30 (x m : Nat) (Inv : Nat → q_H → Prop) : Prop := (∀ (z : Nat) (h : q_H) (c1 : Int32), Inv z h → ∃ (r : Int32) (h1 : q_H) (h2 : q_H), m_X11_look h x c1 = some (r, h1) ∧ (∃ fs, h1 m = .inr (12, fs)) ∧ m_X12_look h1 m c1 = some (r, h2) ∧ Inv z h2)
/-- seed -/
def q_st31 (x m : Nat) (Inv : Nat → q_H → Prop) : Prop := (∀ (z : Nat) (h : q_H) (c1 : Int32), Inv z h → ∃ (r : Int32) (h1 : q_H) (h2 : q_H), m_X11_seed h x c1 = some (r, h1) ∧ (∃ fs, h1 m = .inr (12, fs)) ∧ m_X12_seed h1 m c1 = some (r, h2) ∧ Inv z h2)
/-- rain -/
def q_st32 (x m : Nat) (Inv : Nat → q_H → Prop) : Prop := (∀ (z : Nat) (h : q_H) (c1 c2 c3 c4 : Int32), Inv z h → ∃ (r : Int32) (h1 : q_H) (h2 : q_H), m_X11_rain h x c1 c2 c3 c4 = some (r, h1) ∧ (∃ fs, h1 m = .inr (12, fs)) ∧ m_X12_rain h1 m c1 c2 c3 c4 = some (r, h2) ∧ Inv z h2)
/-- count -/
def q_st33 (x m : Nat) (Inv : Nat → q_H → Prop) : Prop := (∀ (z : Nat) (h : q_H) (c1 : Int32), Inv z h → ∃ (r : Int32), m_X11_count h x c1 = some r ∧ (∃ fs, h m = .inr (12, fs)) ∧ m_X12_count h m c1 = some r ∧ Inv z h)
/-- image -/
def q_st34 (x m : Nat) (Inv : Nat → q_H → Prop) : Prop := (∀ (z : Nat) (h : q_H) (c1 : Int32), Inv z h → ∃ (r : Int32) (z1 : Nat) (h1 : q_H) (h2 : q_H), m_X11_image z h x c1 = some (r, z1, h1) ∧ (∃ fs, h1 m = .inr (12, fs)) ∧ m_X12_image h1 m c1 = some (r, h2) ∧ Inv z1 h2)
/-- back -/
def q_st35 (x m : Nat) (Inv : Nat → q_H → Prop) : Prop := (∀ (z : Nat) (h : q_H) (c1 : Int32), Inv z h → ∃ (r : Int32) (h1 : q_H) (h2 : q_H), m_X11_back h x c1 = some (r, h1) ∧ (∃ fs, h1 m = .inr (12, fs)) ∧ m_X12_back h1 m c1 = some (r, h2) ∧ Inv z h2)
/-- what the models of both sides must do in every state that is reached: answer, and answer alike -/
def q_steps (x m : Nat) (Inv : Nat → q_H → Prop) : Prop := (∀ z h, Inv z h → (∃ fs, h x = .inr (11, fs)) ∧ ∃ fs, h m = .inr (12, fs)) ∧ q_st0 x m Inv ∧ q_st1 x m Inv ∧ q_st2 x m Inv ∧ q_st3 x m Inv ∧ q_st4 x m Inv ∧ q_st5 x m Inv ∧ q_st6 x m Inv ∧ q_st7 x m Inv ∧ q_st8 x m Inv ∧ q_st9 x m Inv ∧ q_st10 x m Inv ∧ q_st11 x m Inv ∧ q_st12 x m Inv ∧ q_st13 x m Inv ∧ q_st14 x m Inv ∧ q_st15 x m Inv ∧ q_st16 x m Inv ∧ q_st17 x m Inv ∧ q_st18 x m Inv ∧ q_st19 x m Inv ∧ q_st20 x m Inv ∧ q_st21 x m Inv ∧ q_st22 x m Inv ∧ q_st23 x m Inv ∧ q_st24 x m Inv ∧ q_st25 x m Inv ∧ q_st26 x m Inv ∧ q_st27 x m Inv ∧ q_st28 x m Inv ∧ q_st29 x m Inv ∧ q_st30 x m Inv ∧ q_st31 x m Inv ∧ q_st32 x m Inv ∧ q_st33 x m Inv ∧ q_st34 x m Inv ∧ q_st35 x m Inv
set_option maxRecDepth 20000 in
set_option maxHeartbeats 1000000 in
/-- feed -/
theorem law_0 {Γ : q_G} {z cells slots b x m j L : Nat} {h : q_H} {xs : Nat → Int32} {Inv : Nat → q_H → Prop} (C : q_C Γ cL_law RL) (Rm : q_Rm Γ 4 15 568 600000 7302250) (X : q_X Γ b L xs) (hL : L ≤ 3072) (hj : j + 6 ≤ L) (St : q_steps x m Inv) (hI : Inv z h) (hc : cells + 8 ≤ 600000 ∧ slots + 2010 ≤ 7302250) (kk : ∀ z1 h1 c1 s1, Inv z1 h1 → c1 ≤ cells + 8 → s1 ≤ slots + 2010 → q_V Γ z1 c1 s1 h1 [(0, .ref b), (1, .ref x), (2, .ref m), (3, .int (nI j))] [] 1180) : q_V Γ z cells slots h [(0, .ref b), (1, .ref x), (2, .ref m), (3, .int (nI j))] [] 192 := by
  obtain ⟨hx1, hm1⟩ := St.1 z h hI
  obtain ⟨r, h1, h2, e1, hm2, e2, hI2⟩ := St.2.1 z h (xs (nI j + (1 : Int32)).toNatClampNeg) (xs (nI j + (2 : Int32)).toNatClampNeg) (xs (nI j + (3 : Int32)).toNatClampNeg) (xs (nI j + (4 : Int32)).toNatClampNeg) (xs (nI j + (5 : Int32)).toNatClampNeg) hI
  refine q_aload_n C (k4 := 1) 1 rfl (by decide +kernel) ?_
  refine q_aload_n C (k4 := 0) 0 rfl (by decide +kernel) ?_
  refine q_iload_n C (k4 := 3) 3 rfl (by decide +kernel) ?_
  refine q_iconst C (n := 1) (v := 1) (by decide) (by decide +kernel) ?_
  refine q_iadd C (by decide +kernel) ?_
  refine q_sld C X (q_ik j 1 L rfl (by omega) hL) (by decide +kernel) ?_
  refine q_aload_n C (k4 := 0) 0 rfl (by decide +kernel) ?_
  refine q_iload_n C (k4 := 3) 3 rfl (by decide +kernel) ?_
  refine q_iconst C (n := 2) (v := 2) (by decide) (by decide +kernel) ?_
  refine q_iadd C (by decide +kernel) ?_
  refine q_sld C X (q_ik j 2 L rfl (by omega) hL) (by decide +kernel) ?_
  refine q_aload_n C (k4 := 0) 0 rfl (by decide +kernel) ?_
  refine q_iload_n C (k4 := 3) 3 rfl (by decide +kernel) ?_
  refine q_iconst C (n := 3) (v := 3) (by decide) (by decide +kernel) ?_
  refine q_iadd C (by decide +kernel) ?_
  refine q_sld C X (q_ik j 3 L rfl (by omega) hL) (by decide +kernel) ?_
  refine q_aload_n C (k4 := 0) 0 rfl (by decide +kernel) ?_
  refine q_iload_n C (k4 := 3) 3 rfl (by decide +kernel) ?_
  refine q_iconst C (n := 4) (v := 4) (by decide) (by decide +kernel) ?_
  refine q_iadd C (by decide +kernel) ?_
  refine q_sld C X (q_ik j 4 L rfl (by omega) hL) (by decide +kernel) ?_
  refine q_aload_n C (k4 := 0) 0 rfl (by decide +kernel) ?_
  refine q_iload_n C (k4 := 3) 3 rfl (by decide +kernel) ?_
  refine q_iconst C (n := 5) (v := 5) (by decide) (by decide +kernel) ?_
  refine q_iadd C (by decide +kernel) ?_
  refine q_sld C X (q_ik j 5 L rfl (by omega) hL) (by decide +kernel) ?_
  refine q_callv C Rm (fr' := 1) (lo' := 22) (mc' := 0) (ms' := 0) (sz' := z) (h' := h1) (rv := some (.int r)) (As := [.int (xs (nI j + (1 : Int32)).toNatClampNeg), .int (xs (nI j + (2 : Int32)).toNatClampNeg), .int (xs (nI j + (3 : Int32)).toNatClampNeg), .int (xs (nI j + (4 : Int32)).toNatClampNeg), .int (xs (nI j + (5 : Int32)).toNatClampNeg)]) (rest := []) Y_X11_feed Yv_X11_feed mL_13 (by decide) ⟨by omega, by omega⟩ (c_X11_feed _ _ _ _ _ _ _ _ _ _ _ _ e1) hx1 rfl rfl (Nat.le_of_ble_eq_true rfl) (by decide +kernel) (fun _ => ?_)
  show q_V Γ z (cells + 0) (slots + 0) h1 [(0, .ref b), (1, .ref x), (2, .ref m), (3, .int (nI j))] [.int r] 221
  refine q_aload_n C (k4 := 2) 2 rfl (by decide +kernel) ?_
  refine q_aload_n C (k4 := 0) 0 rfl (by decide +kernel) ?_
  refine q_iload_n C (k4 := 3) 3 rfl (by decide +kernel) ?_
  refine q_iconst C (n := 1) (v := 1) (by decide) (by decide +kernel) ?_
  refine q_iadd C (by decide +kernel) ?_
  refine q_sld C X (q_ik j 1 L rfl (by omega) hL) (by decide +kernel) ?_
  refine q_aload_n C (k4 := 0) 0 rfl (by decide +kernel) ?_
  refine q_iload_n C (k4 := 3) 3 rfl (by decide +kernel) ?_
  refine q_iconst C (n := 2) (v := 2) (by decide) (by decide +kernel) ?_
  refine q_iadd C (by decide +kernel) ?_
  refine q_sld C X (q_ik j 2 L rfl (by omega) hL) (by decide +kernel) ?_
  refine q_aload_n C (k4 := 0) 0 rfl (by decide +kernel) ?_
  refine q_iload_n C (k4 := 3) 3 rfl (by decide +kernel) ?_
  refine q_iconst C (n := 3) (v := 3) (by decide) (by decide +kernel) ?_
  refine q_iadd C (by decide +kernel) ?_
  refine q_sld C X (q_ik j 3 L rfl (by omega) hL) (by decide +kernel) ?_
  refine q_aload_n C (k4 := 0) 0 rfl (by decide +kernel) ?_
  refine q_iload_n C (k4 := 3) 3 rfl (by decide +kernel) ?_
  refine q_iconst C (n := 4) (v := 4) (by decide) (by decide +kernel) ?_
  refine q_iadd C (by decide +kernel) ?_
  refine q_sld C X (q_ik j 4 L rfl (by omega) hL) (by decide +kernel) ?_
  refine q_aload_n C (k4 := 0) 0 rfl (by decide +kernel) ?_
  refine q_iload_n C (k4 := 3) 3 rfl (by decide +kernel) ?_
  refine q_iconst C (n := 5) (v := 5) (by decide) (by decide +kernel) ?_
  refine q_iadd C (by decide +kernel) ?_
  refine q_sld C X (q_ik j 5 L rfl (by omega) hL) (by decide +kernel) ?_
  refine q_callv C Rm (fr' := 1) (lo' := 22) (mc' := 0) (ms' := 0) (sz' := z) (h' := h2) (rv := some (.int r)) (As := [.int (xs (nI j + (1 : Int32)).toNatClampNeg), .int (xs (nI j + (2 : Int32)).toNatClampNeg), .int (xs (nI j + (3 : Int32)).toNatClampNeg), .int (xs (nI j + (4 : Int32)).toNatClampNeg), .int (xs (nI j + (5 : Int32)).toNatClampNeg)]) (rest := [.int r]) Y_X12_feed Yv_X12_feed mL_17 (by decide) ⟨by omega, by omega⟩ (c_X12_feed _ _ _ _ _ _ _ _ _ _ _ _ e2) hm2 rfl rfl (Nat.le_of_ble_eq_true rfl) (by decide +kernel) (fun _ => ?_)
  show q_V Γ z (cells + 0 + 0) (slots + 0 + 0) h2 [(0, .ref b), (1, .ref x), (2, .ref m), (3, .int (nI j))] [.int r, .int r] 250
  refine q_icmp_eq C (off := 930) 1180 (α := Unit) (A := some ()) (B := none) (ρ := ()) (by rw [if_pos rfl]) (by decide +kernel) (by decide) (fun _ _ => ?_) (fun q _ => absurd rfl q)
  exact kk _ _ _ _ hI2 (by omega) (by omega)
set_option maxRecDepth 20000 in
set_option maxHeartbeats 1000000 in
/-- end -/
theorem law_1 {Γ : q_G} {z cells slots b x m j L : Nat} {h : q_H} {xs : Nat → Int32} {Inv : Nat → q_H → Prop} (C : q_C Γ cL_law RL) (Rm : q_Rm Γ 4 15 568 600000 7302250) (X : q_X Γ b L xs) (hL : L ≤ 3072) (hj : j + 6 ≤ L) (St : q_steps x m Inv) (hI : Inv z h) (hc : cells + 8 ≤ 600000 ∧ slots + 2010 ≤ 7302250) (kk : ∀ z1 h1 c1 s1, Inv z1 h1 → c1 ≤ cells + 8 → s1 ≤ slots + 2010 → q_V Γ z1 c1 s1 h1 [(0, .ref b), (1, .ref x), (2, .ref m), (3, .int (nI j))] [] 1180) : q_V Γ z cells slots h [(0, .ref b), (1, .ref x), (2, .ref m), (3, .int (nI j))] [] 255 := by
  obtain ⟨hx1, hm1⟩ := St.1 z h hI
  obtain ⟨r, h1, h2, e1, hm2, e2, hI2⟩ := St.2.2.1 z h (xs (nI j + (1 : Int32)).toNatClampNeg) hI
  refine q_aload_n C (k4 := 1) 1 rfl (by decide +kernel) ?_
  refine q_aload_n C (k4 := 0) 0 rfl (by decide +kernel) ?_
  refine q_iload_n C (k4 := 3) 3 rfl (by decide +kernel) ?_
  refine q_iconst C (n := 1) (v := 1) (by decide) (by decide +kernel) ?_
  refine q_iadd C (by decide +kernel) ?_
  refine q_sld C X (q_ik j 1 L rfl (by omega) hL) (by decide +kernel) ?_
  refine q_callv C Rm (fr' := 0) (lo' := 0) (mc' := 0) (ms' := 0) (sz' := z) (h' := h1) (rv := some (.int r)) (As := [.int (xs (nI j + (1 : Int32)).toNatClampNeg)]) (rest := []) Y_X11_end Yv_X11_end mL_18 (by decide) ⟨by omega, by omega⟩ (c_X11_end _ _ _ _ _ _ _ _ e1) hx1 rfl rfl (Nat.le_of_ble_eq_true rfl) (by decide +kernel) (fun _ => ?_)
  show q_V Γ z (cells + 0) (slots + 0) h1 [(0, .ref b), (1, .ref x), (2, .ref m), (3, .int (nI j))] [.int r] 264
  refine q_aload_n C (k4 := 2) 2 rfl (by decide +kernel) ?_
  refine q_aload_n C (k4 := 0) 0 rfl (by decide +kernel) ?_
  refine q_iload_n C (k4 := 3) 3 rfl (by decide +kernel) ?_
  refine q_iconst C (n := 1) (v := 1) (by decide) (by decide +kernel) ?_
  refine q_iadd C (by decide +kernel) ?_
  refine q_sld C X (q_ik j 1 L rfl (by omega) hL) (by decide +kernel) ?_
  refine q_callv C Rm (fr' := 0) (lo' := 0) (mc' := 0) (ms' := 0) (sz' := z) (h' := h2) (rv := some (.int r)) (As := [.int (xs (nI j + (1 : Int32)).toNatClampNeg)]) (rest := [.int r]) Y_X12_end Yv_X12_end mL_22 (by decide) ⟨by omega, by omega⟩ (c_X12_end _ _ _ _ _ _ _ _ e2) hm2 rfl rfl (Nat.le_of_ble_eq_true rfl) (by decide +kernel) (fun _ => ?_)
  show q_V Γ z (cells + 0 + 0) (slots + 0 + 0) h2 [(0, .ref b), (1, .ref x), (2, .ref m), (3, .int (nI j))] [.int r, .int r] 273
  refine q_icmp_eq C (off := 907) 1180 (α := Unit) (A := some ()) (B := none) (ρ := ()) (by rw [if_pos rfl]) (by decide +kernel) (by decide) (fun _ _ => ?_) (fun q _ => absurd rfl q)
  exact kk _ _ _ _ hI2 (by omega) (by omega)
set_option maxRecDepth 20000 in
set_option maxHeartbeats 1000000 in
/-- rope -/
theorem law_2 {Γ : q_G} {z cells slots b x m j L : Nat} {h : q_H} {xs : Nat → Int32} {Inv : Nat → q_H → Prop} (C : q_C Γ cL_law RL) (Rm : q_Rm Γ 4 15 568 600000 7302250) (X : q_X Γ b L xs) (hL : L ≤ 3072) (hj : j + 6 ≤ L) (St : q_steps x m Inv) (hI : Inv z h) (hc : cells + 8 ≤ 600000 ∧ slots + 2010 ≤ 7302250) (kk : ∀ z1 h1 c1 s1, Inv z1 h1 → c1 ≤ cells + 8 → s1 ≤ slots + 2010 → q_V Γ z1 c1 s1 h1 [(0, .ref b), (1, .ref x), (2, .ref m), (3, .int (nI j))] [] 1180) : q_V Γ z cells slots h [(0, .ref b), (1, .ref x), (2, .ref m), (3, .int (nI j))] [] 278 := by
  obtain ⟨hx1, hm1⟩ := St.1 z h hI
  obtain ⟨r, z1, h1, h2, e1, hm2, e2, hI2⟩ := St.2.2.2.1 z h hI
  refine q_aload_n C (k4 := 1) 1 rfl (by decide +kernel) ?_
  refine q_callv C Rm (fr' := 8) (lo' := 184) (mc' := 5) (ms' := 40) (sz' := z1) (h' := h1) (rv := some (.int r)) (As := []) (rest := []) Y_X11_rope Yv_X11_rope mL_23 (by decide) ⟨by omega, by omega⟩ (c_X11_rope _ _ _ _ _ _ _ e1) hx1 rfl rfl (Nat.le_of_ble_eq_true rfl) (by decide +kernel) (fun _ => ?_)
  show q_V Γ z1 (cells + 5) (slots + 40) h1 [(0, .ref b), (1, .ref x), (2, .ref m), (3, .int (nI j))] [.int r] 282
  refine q_aload_n C (k4 := 2) 2 rfl (by decide +kernel) ?_
  refine q_callv C Rm (fr' := 12) (lo' := 262) (mc' := 0) (ms' := 0) (sz' := z1) (h' := h2) (rv := some (.int r)) (As := []) (rest := [.int r]) Y_X12_rope Yv_X12_rope mL_27 (by decide) ⟨by omega, by omega⟩ (c_X12_rope _ _ _ _ _ _ _ e2) hm2 rfl rfl (Nat.le_of_ble_eq_true rfl) (by decide +kernel) (fun _ => ?_)
  show q_V Γ z1 (cells + 5 + 0) (slots + 40 + 0) h2 [(0, .ref b), (1, .ref x), (2, .ref m), (3, .int (nI j))] [.int r, .int r] 286
  refine q_icmp_eq C (off := 894) 1180 (α := Unit) (A := some ()) (B := none) (ρ := ()) (by rw [if_pos rfl]) (by decide +kernel) (by decide) (fun _ _ => ?_) (fun q _ => absurd rfl q)
  exact kk _ _ _ _ hI2 (by omega) (by omega)
set_option maxRecDepth 20000 in
set_option maxHeartbeats 1000000 in
/-- rule -/
theorem law_3 {Γ : q_G} {z cells slots b x m j L : Nat} {h : q_H} {xs : Nat → Int32} {Inv : Nat → q_H → Prop} (C : q_C Γ cL_law RL) (Rm : q_Rm Γ 4 15 568 600000 7302250) (X : q_X Γ b L xs) (hL : L ≤ 3072) (hj : j + 6 ≤ L) (St : q_steps x m Inv) (hI : Inv z h) (hc : cells + 8 ≤ 600000 ∧ slots + 2010 ≤ 7302250) (kk : ∀ z1 h1 c1 s1, Inv z1 h1 → c1 ≤ cells + 8 → s1 ≤ slots + 2010 → q_V Γ z1 c1 s1 h1 [(0, .ref b), (1, .ref x), (2, .ref m), (3, .int (nI j))] [] 1180) : q_V Γ z cells slots h [(0, .ref b), (1, .ref x), (2, .ref m), (3, .int (nI j))] [] 291 := by
  obtain ⟨hx1, hm1⟩ := St.1 z h hI
  obtain ⟨r, z1, h1, h2, e1, hm2, e2, hI2⟩ := St.2.2.2.2.1 z h hI
  refine q_aload_n C (k4 := 1) 1 rfl (by decide +kernel) ?_
  refine q_callv C Rm (fr' := 8) (lo' := 183) (mc' := 3) (ms' := 2002) (sz' := z1) (h' := h1) (rv := some (.int r)) (As := []) (rest := []) Y_X11_rule Yv_X11_rule mL_28 (by decide) ⟨by omega, by omega⟩ (c_X11_rule _ _ _ _ _ _ _ e1) hx1 rfl rfl (Nat.le_of_ble_eq_true rfl) (by decide +kernel) (fun _ => ?_)
  show q_V Γ z1 (cells + 3) (slots + 2002) h1 [(0, .ref b), (1, .ref x), (2, .ref m), (3, .int (nI j))] [.int r] 295
  refine q_aload_n C (k4 := 2) 2 rfl (by decide +kernel) ?_
  refine q_callv C Rm (fr' := 12) (lo' := 262) (mc' := 0) (ms' := 0) (sz' := z1) (h' := h2) (rv := some (.int r)) (As := []) (rest := [.int r]) Y_X12_rule Yv_X12_rule mL_31 (by decide) ⟨by omega, by omega⟩ (c_X12_rule _ _ _ _ _ _ _ e2) hm2 rfl rfl (Nat.le_of_ble_eq_true rfl) (by decide +kernel) (fun _ => ?_)
  show q_V Γ z1 (cells + 3 + 0) (slots + 2002 + 0) h2 [(0, .ref b), (1, .ref x), (2, .ref m), (3, .int (nI j))] [.int r, .int r] 299
  refine q_icmp_eq C (off := 881) 1180 (α := Unit) (A := some ()) (B := none) (ρ := ()) (by rw [if_pos rfl]) (by decide +kernel) (by decide) (fun _ _ => ?_) (fun q _ => absurd rfl q)
  exact kk _ _ _ _ hI2 (by omega) (by omega)
set_option maxRecDepth 20000 in
set_option maxHeartbeats 1000000 in
/-- force -/
theorem law_4 {Γ : q_G} {z cells slots b x m j L : Nat} {h : q_H} {xs : Nat → Int32} {Inv : Nat → q_H → Prop} (C : q_C Γ cL_law RL) (Rm : q_Rm Γ 4 15 568 600000 7302250) (X : q_X Γ b L xs) (hL : L ≤ 3072) (hj : j + 6 ≤ L) (St : q_steps x m Inv) (hI : Inv z h) (hc : cells + 8 ≤ 600000 ∧ slots + 2010 ≤ 7302250) (kk : ∀ z1 h1 c1 s1, Inv z1 h1 → c1 ≤ cells + 8 → s1 ≤ slots + 2010 → q_V Γ z1 c1 s1 h1 [(0, .ref b), (1, .ref x), (2, .ref m), (3, .int (nI j))] [] 1180) : q_V Γ z cells slots h [(0, .ref b), (1, .ref x), (2, .ref m), (3, .int (nI j))] [] 304 := by
  obtain ⟨hx1, hm1⟩ := St.1 z h hI
  obtain ⟨r, h1, h2, e1, hm2, e2, hI2⟩ := St.2.2.2.2.2.1 z h (xs (nI j + (1 : Int32)).toNatClampNeg) hI
  refine q_aload_n C (k4 := 1) 1 rfl (by decide +kernel) ?_
  refine q_aload_n C (k4 := 0) 0 rfl (by decide +kernel) ?_
  refine q_iload_n C (k4 := 3) 3 rfl (by decide +kernel) ?_
  refine q_iconst C (n := 1) (v := 1) (by decide) (by decide +kernel) ?_
  refine q_iadd C (by decide +kernel) ?_
  refine q_sld C X (q_ik j 1 L rfl (by omega) hL) (by decide +kernel) ?_
  refine q_callv C Rm (fr' := 0) (lo' := 0) (mc' := 0) (ms' := 0) (sz' := z) (h' := h1) (rv := some (.int r)) (As := [.int (xs (nI j + (1 : Int32)).toNatClampNeg)]) (rest := []) Y_X11_force Yv_X11_force mL_32 (by decide) ⟨by omega, by omega⟩ (c_X11_force _ _ _ _ _ _ _ _ e1) hx1 rfl rfl (Nat.le_of_ble_eq_true rfl) (by decide +kernel) (fun _ => ?_)
  show q_V Γ z (cells + 0) (slots + 0) h1 [(0, .ref b), (1, .ref x), (2, .ref m), (3, .int (nI j))] [.int r] 313
  refine q_aload_n C (k4 := 2) 2 rfl (by decide +kernel) ?_
  refine q_aload_n C (k4 := 0) 0 rfl (by decide +kernel) ?_
  refine q_iload_n C (k4 := 3) 3 rfl (by decide +kernel) ?_
  refine q_iconst C (n := 1) (v := 1) (by decide) (by decide +kernel) ?_
  refine q_iadd C (by decide +kernel) ?_
  refine q_sld C X (q_ik j 1 L rfl (by omega) hL) (by decide +kernel) ?_
  refine q_callv C Rm (fr' := 1) (lo' := 21) (mc' := 0) (ms' := 0) (sz' := z) (h' := h2) (rv := some (.int r)) (As := [.int (xs (nI j + (1 : Int32)).toNatClampNeg)]) (rest := [.int r]) Y_X12_force Yv_X12_force mL_35 (by decide) ⟨by omega, by omega⟩ (c_X12_force _ _ _ _ _ _ _ _ e2) hm2 rfl rfl (Nat.le_of_ble_eq_true rfl) (by decide +kernel) (fun _ => ?_)
  show q_V Γ z (cells + 0 + 0) (slots + 0 + 0) h2 [(0, .ref b), (1, .ref x), (2, .ref m), (3, .int (nI j))] [.int r, .int r] 322
  refine q_icmp_eq C (off := 858) 1180 (α := Unit) (A := some ()) (B := none) (ρ := ()) (by rw [if_pos rfl]) (by decide +kernel) (by decide) (fun _ _ => ?_) (fun q _ => absurd rfl q)
  exact kk _ _ _ _ hI2 (by omega) (by omega)
set_option maxRecDepth 20000 in
set_option maxHeartbeats 1000000 in
/-- puller -/
theorem law_5 {Γ : q_G} {z cells slots b x m j L : Nat} {h : q_H} {xs : Nat → Int32} {Inv : Nat → q_H → Prop} (C : q_C Γ cL_law RL) (Rm : q_Rm Γ 4 15 568 600000 7302250) (X : q_X Γ b L xs) (hL : L ≤ 3072) (hj : j + 6 ≤ L) (St : q_steps x m Inv) (hI : Inv z h) (hc : cells + 8 ≤ 600000 ∧ slots + 2010 ≤ 7302250) (kk : ∀ z1 h1 c1 s1, Inv z1 h1 → c1 ≤ cells + 8 → s1 ≤ slots + 2010 → q_V Γ z1 c1 s1 h1 [(0, .ref b), (1, .ref x), (2, .ref m), (3, .int (nI j))] [] 1180) : q_V Γ z cells slots h [(0, .ref b), (1, .ref x), (2, .ref m), (3, .int (nI j))] [] 327 := by
  obtain ⟨hx1, hm1⟩ := St.1 z h hI
  obtain ⟨r, e1, hm2, e2, hI2⟩ := St.2.2.2.2.2.2.1 z h (xs (nI j + (1 : Int32)).toNatClampNeg) (xs (nI j + (2 : Int32)).toNatClampNeg) hI
  refine q_aload_n C (k4 := 1) 1 rfl (by decide +kernel) ?_
  refine q_aload_n C (k4 := 0) 0 rfl (by decide +kernel) ?_
  refine q_iload_n C (k4 := 3) 3 rfl (by decide +kernel) ?_
  refine q_iconst C (n := 1) (v := 1) (by decide) (by decide +kernel) ?_
  refine q_iadd C (by decide +kernel) ?_
  refine q_sld C X (q_ik j 1 L rfl (by omega) hL) (by decide +kernel) ?_
  refine q_aload_n C (k4 := 0) 0 rfl (by decide +kernel) ?_
  refine q_iload_n C (k4 := 3) 3 rfl (by decide +kernel) ?_
  refine q_iconst C (n := 2) (v := 2) (by decide) (by decide +kernel) ?_
  refine q_iadd C (by decide +kernel) ?_
  refine q_sld C X (q_ik j 2 L rfl (by omega) hL) (by decide +kernel) ?_
  refine q_callv C Rm (fr' := 2) (lo' := 41) (mc' := 0) (ms' := 0) (sz' := z) (h' := h) (rv := some (.int r)) (As := [.int (xs (nI j + (1 : Int32)).toNatClampNeg), .int (xs (nI j + (2 : Int32)).toNatClampNeg)]) (rest := []) Y_X11_puller Yv_X11_puller mL_36 (by decide) ⟨by omega, by omega⟩ (c_X11_puller _ _ _ _ _ _ _ _ _ e1) hx1 rfl rfl (Nat.le_of_ble_eq_true rfl) (by decide +kernel) (fun _ => ?_)
  show q_V Γ z (cells + 0) (slots + 0) h [(0, .ref b), (1, .ref x), (2, .ref m), (3, .int (nI j))] [.int r] 341
  refine q_aload_n C (k4 := 2) 2 rfl (by decide +kernel) ?_
  refine q_aload_n C (k4 := 0) 0 rfl (by decide +kernel) ?_
  refine q_iload_n C (k4 := 3) 3 rfl (by decide +kernel) ?_
  refine q_iconst C (n := 1) (v := 1) (by decide) (by decide +kernel) ?_
  refine q_iadd C (by decide +kernel) ?_
  refine q_sld C X (q_ik j 1 L rfl (by omega) hL) (by decide +kernel) ?_
  refine q_aload_n C (k4 := 0) 0 rfl (by decide +kernel) ?_
  refine q_iload_n C (k4 := 3) 3 rfl (by decide +kernel) ?_
  refine q_iconst C (n := 2) (v := 2) (by decide) (by decide +kernel) ?_
  refine q_iadd C (by decide +kernel) ?_
  refine q_sld C X (q_ik j 2 L rfl (by omega) hL) (by decide +kernel) ?_
  refine q_callv C Rm (fr' := 2) (lo' := 42) (mc' := 0) (ms' := 0) (sz' := z) (h' := h) (rv := some (.int r)) (As := [.int (xs (nI j + (1 : Int32)).toNatClampNeg), .int (xs (nI j + (2 : Int32)).toNatClampNeg)]) (rest := [.int r]) Y_X12_puller Yv_X12_puller mL_40 (by decide) ⟨by omega, by omega⟩ (c_X12_puller _ _ _ _ _ _ _ _ _ e2) hm2 rfl rfl (Nat.le_of_ble_eq_true rfl) (by decide +kernel) (fun _ => ?_)
  show q_V Γ z (cells + 0 + 0) (slots + 0 + 0) h [(0, .ref b), (1, .ref x), (2, .ref m), (3, .int (nI j))] [.int r, .int r] 355
  refine q_icmp_eq C (off := 825) 1180 (α := Unit) (A := some ()) (B := none) (ρ := ()) (by rw [if_pos rfl]) (by decide +kernel) (by decide) (fun _ _ => ?_) (fun q _ => absurd rfl q)
  exact kk _ _ _ _ hI2 (by omega) (by omega)
set_option maxRecDepth 20000 in
set_option maxHeartbeats 1000000 in
/-- ribbon -/
theorem law_6 {Γ : q_G} {z cells slots b x m j L : Nat} {h : q_H} {xs : Nat → Int32} {Inv : Nat → q_H → Prop} (C : q_C Γ cL_law RL) (Rm : q_Rm Γ 4 15 568 600000 7302250) (X : q_X Γ b L xs) (hL : L ≤ 3072) (hj : j + 6 ≤ L) (St : q_steps x m Inv) (hI : Inv z h) (hc : cells + 8 ≤ 600000 ∧ slots + 2010 ≤ 7302250) (kk : ∀ z1 h1 c1 s1, Inv z1 h1 → c1 ≤ cells + 8 → s1 ≤ slots + 2010 → q_V Γ z1 c1 s1 h1 [(0, .ref b), (1, .ref x), (2, .ref m), (3, .int (nI j))] [] 1180) : q_V Γ z cells slots h [(0, .ref b), (1, .ref x), (2, .ref m), (3, .int (nI j))] [] 360 := by
  obtain ⟨hx1, hm1⟩ := St.1 z h hI
  obtain ⟨r, e1, hm2, e2, hI2⟩ := St.2.2.2.2.2.2.2.1 z h hI
  refine q_aload_n C (k4 := 1) 1 rfl (by decide +kernel) ?_
  refine q_callv C Rm (fr' := 0) (lo' := 0) (mc' := 0) (ms' := 0) (sz' := z) (h' := h) (rv := some (.int r)) (As := []) (rest := []) Y_X11_ribbon Yv_X11_ribbon mL_41 (by decide) ⟨by omega, by omega⟩ (c_X11_ribbon _ _ _ _ _ _ _ e1) hx1 rfl rfl (Nat.le_of_ble_eq_true rfl) (by decide +kernel) (fun _ => ?_)
  show q_V Γ z (cells + 0) (slots + 0) h [(0, .ref b), (1, .ref x), (2, .ref m), (3, .int (nI j))] [.int r] 364
  refine q_aload_n C (k4 := 2) 2 rfl (by decide +kernel) ?_
  refine q_callv C Rm (fr' := 1) (lo' := 20) (mc' := 0) (ms' := 0) (sz' := z) (h' := h) (rv := some (.int r)) (As := []) (rest := [.int r]) Y_X12_ribbon Yv_X12_ribbon mL_44 (by decide) ⟨by omega, by omega⟩ (c_X12_ribbon _ _ _ _ _ _ _ e2) hm2 rfl rfl (Nat.le_of_ble_eq_true rfl) (by decide +kernel) (fun _ => ?_)
  show q_V Γ z (cells + 0 + 0) (slots + 0 + 0) h [(0, .ref b), (1, .ref x), (2, .ref m), (3, .int (nI j))] [.int r, .int r] 368
  refine q_icmp_eq C (off := 812) 1180 (α := Unit) (A := some ()) (B := none) (ρ := ()) (by rw [if_pos rfl]) (by decide +kernel) (by decide) (fun _ _ => ?_) (fun q _ => absurd rfl q)
  exact kk _ _ _ _ hI2 (by omega) (by omega)
set_option maxRecDepth 20000 in
set_option maxHeartbeats 1000000 in
/-- heave -/
theorem law_7 {Γ : q_G} {z cells slots b x m j L : Nat} {h : q_H} {xs : Nat → Int32} {Inv : Nat → q_H → Prop} (C : q_C Γ cL_law RL) (Rm : q_Rm Γ 4 15 568 600000 7302250) (X : q_X Γ b L xs) (hL : L ≤ 3072) (hj : j + 6 ≤ L) (St : q_steps x m Inv) (hI : Inv z h) (hc : cells + 8 ≤ 600000 ∧ slots + 2010 ≤ 7302250) (kk : ∀ z1 h1 c1 s1, Inv z1 h1 → c1 ≤ cells + 8 → s1 ≤ slots + 2010 → q_V Γ z1 c1 s1 h1 [(0, .ref b), (1, .ref x), (2, .ref m), (3, .int (nI j))] [] 1180) : q_V Γ z cells slots h [(0, .ref b), (1, .ref x), (2, .ref m), (3, .int (nI j))] [] 373 := by
  obtain ⟨hx1, hm1⟩ := St.1 z h hI
  obtain ⟨r, h1, h2, e1, hm2, e2, hI2⟩ := St.2.2.2.2.2.2.2.2.1 z h hI
  refine q_aload_n C (k4 := 1) 1 rfl (by decide +kernel) ?_
  refine q_callv C Rm (fr' := 5) (lo' := 131) (mc' := 0) (ms' := 0) (sz' := z) (h' := h1) (rv := some (.int r)) (As := []) (rest := []) Y_X11_heave Yv_X11_heave mL_45 (by decide) ⟨by omega, by omega⟩ (c_X11_heave _ _ _ _ _ _ _ e1) hx1 rfl rfl (Nat.le_of_ble_eq_true rfl) (by decide +kernel) (fun _ => ?_)
  show q_V Γ z (cells + 0) (slots + 0) h1 [(0, .ref b), (1, .ref x), (2, .ref m), (3, .int (nI j))] [.int r] 377
  refine q_aload_n C (k4 := 2) 2 rfl (by decide +kernel) ?_
  refine q_callv C Rm (fr' := 6) (lo' := 144) (mc' := 0) (ms' := 0) (sz' := z) (h' := h2) (rv := some (.int r)) (As := []) (rest := [.int r]) Y_X12_heave Yv_X12_heave mL_48 (by decide) ⟨by omega, by omega⟩ (c_X12_heave _ _ _ _ _ _ _ e2) hm2 rfl rfl (Nat.le_of_ble_eq_true rfl) (by decide +kernel) (fun _ => ?_)
  show q_V Γ z (cells + 0 + 0) (slots + 0 + 0) h2 [(0, .ref b), (1, .ref x), (2, .ref m), (3, .int (nI j))] [.int r, .int r] 381
  refine q_icmp_eq C (off := 799) 1180 (α := Unit) (A := some ()) (B := none) (ρ := ()) (by rw [if_pos rfl]) (by decide +kernel) (by decide) (fun _ _ => ?_) (fun q _ => absurd rfl q)
  exact kk _ _ _ _ hI2 (by omega) (by omega)
set_option maxRecDepth 20000 in
set_option maxHeartbeats 1000000 in
/-- send -/
theorem law_8 {Γ : q_G} {z cells slots b x m j L : Nat} {h : q_H} {xs : Nat → Int32} {Inv : Nat → q_H → Prop} (C : q_C Γ cL_law RL) (Rm : q_Rm Γ 4 15 568 600000 7302250) (X : q_X Γ b L xs) (hL : L ≤ 3072) (hj : j + 6 ≤ L) (St : q_steps x m Inv) (hI : Inv z h) (hc : cells + 8 ≤ 600000 ∧ slots + 2010 ≤ 7302250) (kk : ∀ z1 h1 c1 s1, Inv z1 h1 → c1 ≤ cells + 8 → s1 ≤ slots + 2010 → q_V Γ z1 c1 s1 h1 [(0, .ref b), (1, .ref x), (2, .ref m), (3, .int (nI j))] [] 1180) : q_V Γ z cells slots h [(0, .ref b), (1, .ref x), (2, .ref m), (3, .int (nI j))] [] 386 := by
  obtain ⟨hx1, hm1⟩ := St.1 z h hI
  obtain ⟨r, h1, h2, e1, hm2, e2, hI2⟩ := St.2.2.2.2.2.2.2.2.2.1 z h (xs (nI j + (1 : Int32)).toNatClampNeg) hI
  refine q_aload_n C (k4 := 1) 1 rfl (by decide +kernel) ?_
  refine q_aload_n C (k4 := 0) 0 rfl (by decide +kernel) ?_
  refine q_iload_n C (k4 := 3) 3 rfl (by decide +kernel) ?_
  refine q_iconst C (n := 1) (v := 1) (by decide) (by decide +kernel) ?_
  refine q_iadd C (by decide +kernel) ?_
  refine q_sld C X (q_ik j 1 L rfl (by omega) hL) (by decide +kernel) ?_
  refine q_callv C Rm (fr' := 5) (lo' := 122) (mc' := 0) (ms' := 0) (sz' := z) (h' := h1) (rv := some (.int r)) (As := [.int (xs (nI j + (1 : Int32)).toNatClampNeg)]) (rest := []) Y_X11_send Yv_X11_send mL_49 (by decide) ⟨by omega, by omega⟩ (c_X11_send _ _ _ _ _ _ _ _ e1) hx1 rfl rfl (Nat.le_of_ble_eq_true rfl) (by decide +kernel) (fun _ => ?_)
  show q_V Γ z (cells + 0) (slots + 0) h1 [(0, .ref b), (1, .ref x), (2, .ref m), (3, .int (nI j))] [.int r] 395
  refine q_aload_n C (k4 := 2) 2 rfl (by decide +kernel) ?_
  refine q_aload_n C (k4 := 0) 0 rfl (by decide +kernel) ?_
  refine q_iload_n C (k4 := 3) 3 rfl (by decide +kernel) ?_
  refine q_iconst C (n := 1) (v := 1) (by decide) (by decide +kernel) ?_
  refine q_iadd C (by decide +kernel) ?_
  refine q_sld C X (q_ik j 1 L rfl (by omega) hL) (by decide +kernel) ?_
  refine q_callv C Rm (fr' := 2) (lo' := 44) (mc' := 0) (ms' := 0) (sz' := z) (h' := h2) (rv := some (.int r)) (As := [.int (xs (nI j + (1 : Int32)).toNatClampNeg)]) (rest := [.int r]) Y_X12_send Yv_X12_send mL_52 (by decide) ⟨by omega, by omega⟩ (c_X12_send _ _ _ _ _ _ _ _ e2) hm2 rfl rfl (Nat.le_of_ble_eq_true rfl) (by decide +kernel) (fun _ => ?_)
  show q_V Γ z (cells + 0 + 0) (slots + 0 + 0) h2 [(0, .ref b), (1, .ref x), (2, .ref m), (3, .int (nI j))] [.int r, .int r] 404
  refine q_icmp_eq C (off := 776) 1180 (α := Unit) (A := some ()) (B := none) (ρ := ()) (by rw [if_pos rfl]) (by decide +kernel) (by decide) (fun _ _ => ?_) (fun q _ => absurd rfl q)
  exact kk _ _ _ _ hI2 (by omega) (by omega)
set_option maxRecDepth 20000 in
set_option maxHeartbeats 1000000 in
/-- front -/
theorem law_9 {Γ : q_G} {z cells slots b x m j L : Nat} {h : q_H} {xs : Nat → Int32} {Inv : Nat → q_H → Prop} (C : q_C Γ cL_law RL) (Rm : q_Rm Γ 4 15 568 600000 7302250) (X : q_X Γ b L xs) (hL : L ≤ 3072) (hj : j + 6 ≤ L) (St : q_steps x m Inv) (hI : Inv z h) (hc : cells + 8 ≤ 600000 ∧ slots + 2010 ≤ 7302250) (kk : ∀ z1 h1 c1 s1, Inv z1 h1 → c1 ≤ cells + 8 → s1 ≤ slots + 2010 → q_V Γ z1 c1 s1 h1 [(0, .ref b), (1, .ref x), (2, .ref m), (3, .int (nI j))] [] 1180) : q_V Γ z cells slots h [(0, .ref b), (1, .ref x), (2, .ref m), (3, .int (nI j))] [] 409 := by
  obtain ⟨hx1, hm1⟩ := St.1 z h hI
  obtain ⟨r, h1, h2, e1, hm2, e2, hI2⟩ := St.2.2.2.2.2.2.2.2.2.2.1 z h (xs (nI j + (1 : Int32)).toNatClampNeg) hI
  refine q_aload_n C (k4 := 1) 1 rfl (by decide +kernel) ?_
  refine q_aload_n C (k4 := 0) 0 rfl (by decide +kernel) ?_
  refine q_iload_n C (k4 := 3) 3 rfl (by decide +kernel) ?_
  refine q_iconst C (n := 1) (v := 1) (by decide) (by decide +kernel) ?_
  refine q_iadd C (by decide +kernel) ?_
  refine q_sld C X (q_ik j 1 L rfl (by omega) hL) (by decide +kernel) ?_
  refine q_callv C Rm (fr' := 5) (lo' := 122) (mc' := 0) (ms' := 0) (sz' := z) (h' := h1) (rv := some (.int r)) (As := [.int (xs (nI j + (1 : Int32)).toNatClampNeg)]) (rest := []) Y_X11_front Yv_X11_front mL_53 (by decide) ⟨by omega, by omega⟩ (c_X11_front _ _ _ _ _ _ _ _ e1) hx1 rfl rfl (Nat.le_of_ble_eq_true rfl) (by decide +kernel) (fun _ => ?_)
  show q_V Γ z (cells + 0) (slots + 0) h1 [(0, .ref b), (1, .ref x), (2, .ref m), (3, .int (nI j))] [.int r] 418
  refine q_aload_n C (k4 := 2) 2 rfl (by decide +kernel) ?_
  refine q_aload_n C (k4 := 0) 0 rfl (by decide +kernel) ?_
  refine q_iload_n C (k4 := 3) 3 rfl (by decide +kernel) ?_
  refine q_iconst C (n := 1) (v := 1) (by decide) (by decide +kernel) ?_
  refine q_iadd C (by decide +kernel) ?_
  refine q_sld C X (q_ik j 1 L rfl (by omega) hL) (by decide +kernel) ?_
  refine q_callv C Rm (fr' := 1) (lo' := 21) (mc' := 0) (ms' := 0) (sz' := z) (h' := h2) (rv := some (.int r)) (As := [.int (xs (nI j + (1 : Int32)).toNatClampNeg)]) (rest := [.int r]) Y_X12_front Yv_X12_front mL_56 (by decide) ⟨by omega, by omega⟩ (c_X12_front _ _ _ _ _ _ _ _ e2) hm2 rfl rfl (Nat.le_of_ble_eq_true rfl) (by decide +kernel) (fun _ => ?_)
  show q_V Γ z (cells + 0 + 0) (slots + 0 + 0) h2 [(0, .ref b), (1, .ref x), (2, .ref m), (3, .int (nI j))] [.int r, .int r] 427
  refine q_icmp_eq C (off := 753) 1180 (α := Unit) (A := some ()) (B := none) (ρ := ()) (by rw [if_pos rfl]) (by decide +kernel) (by decide) (fun _ _ => ?_) (fun q _ => absurd rfl q)
  exact kk _ _ _ _ hI2 (by omega) (by omega)
set_option maxRecDepth 20000 in
set_option maxHeartbeats 1000000 in
/-- breath -/
theorem law_10 {Γ : q_G} {z cells slots b x m j L : Nat} {h : q_H} {xs : Nat → Int32} {Inv : Nat → q_H → Prop} (C : q_C Γ cL_law RL) (Rm : q_Rm Γ 4 15 568 600000 7302250) (X : q_X Γ b L xs) (hL : L ≤ 3072) (hj : j + 6 ≤ L) (St : q_steps x m Inv) (hI : Inv z h) (hc : cells + 8 ≤ 600000 ∧ slots + 2010 ≤ 7302250) (kk : ∀ z1 h1 c1 s1, Inv z1 h1 → c1 ≤ cells + 8 → s1 ≤ slots + 2010 → q_V Γ z1 c1 s1 h1 [(0, .ref b), (1, .ref x), (2, .ref m), (3, .int (nI j))] [] 1180) : q_V Γ z cells slots h [(0, .ref b), (1, .ref x), (2, .ref m), (3, .int (nI j))] [] 432 := by
  obtain ⟨hx1, hm1⟩ := St.1 z h hI
  obtain ⟨r, h1, h2, e1, hm2, e2, hI2⟩ := St.2.2.2.2.2.2.2.2.2.2.2.1 z h (xs (nI j + (1 : Int32)).toNatClampNeg) (xs (nI j + (2 : Int32)).toNatClampNeg) hI
  refine q_aload_n C (k4 := 1) 1 rfl (by decide +kernel) ?_
  refine q_aload_n C (k4 := 0) 0 rfl (by decide +kernel) ?_
  refine q_iload_n C (k4 := 3) 3 rfl (by decide +kernel) ?_
  refine q_iconst C (n := 1) (v := 1) (by decide) (by decide +kernel) ?_
  refine q_iadd C (by decide +kernel) ?_
  refine q_sld C X (q_ik j 1 L rfl (by omega) hL) (by decide +kernel) ?_
  refine q_aload_n C (k4 := 0) 0 rfl (by decide +kernel) ?_
  refine q_iload_n C (k4 := 3) 3 rfl (by decide +kernel) ?_
  refine q_iconst C (n := 2) (v := 2) (by decide) (by decide +kernel) ?_
  refine q_iadd C (by decide +kernel) ?_
  refine q_sld C X (q_ik j 2 L rfl (by omega) hL) (by decide +kernel) ?_
  refine q_callv C Rm (fr' := 5) (lo' := 122) (mc' := 0) (ms' := 0) (sz' := z) (h' := h1) (rv := some (.int r)) (As := [.int (xs (nI j + (1 : Int32)).toNatClampNeg), .int (xs (nI j + (2 : Int32)).toNatClampNeg)]) (rest := []) Y_X11_breath Yv_X11_breath mL_57 (by decide) ⟨by omega, by omega⟩ (c_X11_breath _ _ _ _ _ _ _ _ _ e1) hx1 rfl rfl (Nat.le_of_ble_eq_true rfl) (by decide +kernel) (fun _ => ?_)
  show q_V Γ z (cells + 0) (slots + 0) h1 [(0, .ref b), (1, .ref x), (2, .ref m), (3, .int (nI j))] [.int r] 446
  refine q_aload_n C (k4 := 2) 2 rfl (by decide +kernel) ?_
  refine q_aload_n C (k4 := 0) 0 rfl (by decide +kernel) ?_
  refine q_iload_n C (k4 := 3) 3 rfl (by decide +kernel) ?_
  refine q_iconst C (n := 1) (v := 1) (by decide) (by decide +kernel) ?_
  refine q_iadd C (by decide +kernel) ?_
  refine q_sld C X (q_ik j 1 L rfl (by omega) hL) (by decide +kernel) ?_
  refine q_aload_n C (k4 := 0) 0 rfl (by decide +kernel) ?_
  refine q_iload_n C (k4 := 3) 3 rfl (by decide +kernel) ?_
  refine q_iconst C (n := 2) (v := 2) (by decide) (by decide +kernel) ?_
  refine q_iadd C (by decide +kernel) ?_
  refine q_sld C X (q_ik j 2 L rfl (by omega) hL) (by decide +kernel) ?_
  refine q_callv C Rm (fr' := 1) (lo' := 25) (mc' := 0) (ms' := 0) (sz' := z) (h' := h2) (rv := some (.int r)) (As := [.int (xs (nI j + (1 : Int32)).toNatClampNeg), .int (xs (nI j + (2 : Int32)).toNatClampNeg)]) (rest := [.int r]) Y_X12_breath Yv_X12_breath mL_60 (by decide) ⟨by omega, by omega⟩ (c_X12_breath _ _ _ _ _ _ _ _ _ e2) hm2 rfl rfl (Nat.le_of_ble_eq_true rfl) (by decide +kernel) (fun _ => ?_)
  show q_V Γ z (cells + 0 + 0) (slots + 0 + 0) h2 [(0, .ref b), (1, .ref x), (2, .ref m), (3, .int (nI j))] [.int r, .int r] 460
  refine q_icmp_eq C (off := 720) 1180 (α := Unit) (A := some ()) (B := none) (ρ := ()) (by rw [if_pos rfl]) (by decide +kernel) (by decide) (fun _ _ => ?_) (fun q _ => absurd rfl q)
  exact kk _ _ _ _ hI2 (by omega) (by omega)
set_option maxRecDepth 20000 in
set_option maxHeartbeats 1000000 in
/-- set -/
theorem law_11 {Γ : q_G} {z cells slots b x m j L : Nat} {h : q_H} {xs : Nat → Int32} {Inv : Nat → q_H → Prop} (C : q_C Γ cL_law RL) (Rm : q_Rm Γ 4 15 568 600000 7302250) (X : q_X Γ b L xs) (hL : L ≤ 3072) (hj : j + 6 ≤ L) (St : q_steps x m Inv) (hI : Inv z h) (hc : cells + 8 ≤ 600000 ∧ slots + 2010 ≤ 7302250) (kk : ∀ z1 h1 c1 s1, Inv z1 h1 → c1 ≤ cells + 8 → s1 ≤ slots + 2010 → q_V Γ z1 c1 s1 h1 [(0, .ref b), (1, .ref x), (2, .ref m), (3, .int (nI j))] [] 1180) : q_V Γ z cells slots h [(0, .ref b), (1, .ref x), (2, .ref m), (3, .int (nI j))] [] 465 := by
  obtain ⟨hx1, hm1⟩ := St.1 z h hI
  obtain ⟨r, h1, h2, e1, hm2, e2, hI2⟩ := St.2.2.2.2.2.2.2.2.2.2.2.2.1 z h (xs (nI j + (1 : Int32)).toNatClampNeg) hI
  refine q_aload_n C (k4 := 1) 1 rfl (by decide +kernel) ?_
  refine q_aload_n C (k4 := 0) 0 rfl (by decide +kernel) ?_
  refine q_iload_n C (k4 := 3) 3 rfl (by decide +kernel) ?_
  refine q_iconst C (n := 1) (v := 1) (by decide) (by decide +kernel) ?_
  refine q_iadd C (by decide +kernel) ?_
  refine q_sld C X (q_ik j 1 L rfl (by omega) hL) (by decide +kernel) ?_
  refine q_callv C Rm (fr' := 5) (lo' := 122) (mc' := 0) (ms' := 0) (sz' := z) (h' := h1) (rv := some (.int r)) (As := [.int (xs (nI j + (1 : Int32)).toNatClampNeg)]) (rest := []) Y_X11_set Yv_X11_set mL_61 (by decide) ⟨by omega, by omega⟩ (c_X11_set _ _ _ _ _ _ _ _ e1) hx1 rfl rfl (Nat.le_of_ble_eq_true rfl) (by decide +kernel) (fun _ => ?_)
  show q_V Γ z (cells + 0) (slots + 0) h1 [(0, .ref b), (1, .ref x), (2, .ref m), (3, .int (nI j))] [.int r] 474
  refine q_aload_n C (k4 := 2) 2 rfl (by decide +kernel) ?_
  refine q_aload_n C (k4 := 0) 0 rfl (by decide +kernel) ?_
  refine q_iload_n C (k4 := 3) 3 rfl (by decide +kernel) ?_
  refine q_iconst C (n := 1) (v := 1) (by decide) (by decide +kernel) ?_
  refine q_iadd C (by decide +kernel) ?_
  refine q_sld C X (q_ik j 1 L rfl (by omega) hL) (by decide +kernel) ?_
  refine q_callv C Rm (fr' := 2) (lo' := 40) (mc' := 0) (ms' := 0) (sz' := z) (h' := h2) (rv := some (.int r)) (As := [.int (xs (nI j + (1 : Int32)).toNatClampNeg)]) (rest := [.int r]) Y_X12_set Yv_X12_set mL_64 (by decide) ⟨by omega, by omega⟩ (c_X12_set _ _ _ _ _ _ _ _ e2) hm2 rfl rfl (Nat.le_of_ble_eq_true rfl) (by decide +kernel) (fun _ => ?_)
  show q_V Γ z (cells + 0 + 0) (slots + 0 + 0) h2 [(0, .ref b), (1, .ref x), (2, .ref m), (3, .int (nI j))] [.int r, .int r] 483
  refine q_icmp_eq C (off := 697) 1180 (α := Unit) (A := some ()) (B := none) (ρ := ()) (by rw [if_pos rfl]) (by decide +kernel) (by decide) (fun _ _ => ?_) (fun q _ => absurd rfl q)
  exact kk _ _ _ _ hI2 (by omega) (by omega)
set_option maxRecDepth 20000 in
set_option maxHeartbeats 1000000 in
/-- undo -/
theorem law_12 {Γ : q_G} {z cells slots b x m j L : Nat} {h : q_H} {xs : Nat → Int32} {Inv : Nat → q_H → Prop} (C : q_C Γ cL_law RL) (Rm : q_Rm Γ 4 15 568 600000 7302250) (X : q_X Γ b L xs) (hL : L ≤ 3072) (hj : j + 6 ≤ L) (St : q_steps x m Inv) (hI : Inv z h) (hc : cells + 8 ≤ 600000 ∧ slots + 2010 ≤ 7302250) (kk : ∀ z1 h1 c1 s1, Inv z1 h1 → c1 ≤ cells + 8 → s1 ≤ slots + 2010 → q_V Γ z1 c1 s1 h1 [(0, .ref b), (1, .ref x), (2, .ref m), (3, .int (nI j))] [] 1180) : q_V Γ z cells slots h [(0, .ref b), (1, .ref x), (2, .ref m), (3, .int (nI j))] [] 488 := by
  obtain ⟨hx1, hm1⟩ := St.1 z h hI
  obtain ⟨r, h1, h2, e1, hm2, e2, hI2⟩ := St.2.2.2.2.2.2.2.2.2.2.2.2.2.1 z h hI
  refine q_aload_n C (k4 := 1) 1 rfl (by decide +kernel) ?_
  refine q_callv C Rm (fr' := 5) (lo' := 122) (mc' := 0) (ms' := 0) (sz' := z) (h' := h1) (rv := some (.int r)) (As := []) (rest := []) Y_X11_undo Yv_X11_undo mL_65 (by decide) ⟨by omega, by omega⟩ (c_X11_undo _ _ _ _ _ _ _ e1) hx1 rfl rfl (Nat.le_of_ble_eq_true rfl) (by decide +kernel) (fun _ => ?_)
  show q_V Γ z (cells + 0) (slots + 0) h1 [(0, .ref b), (1, .ref x), (2, .ref m), (3, .int (nI j))] [.int r] 492
  refine q_aload_n C (k4 := 2) 2 rfl (by decide +kernel) ?_
  refine q_callv C Rm (fr' := 0) (lo' := 0) (mc' := 0) (ms' := 0) (sz' := z) (h' := h2) (rv := some (.int r)) (As := []) (rest := [.int r]) Y_X12_undo Yv_X12_undo mL_68 (by decide) ⟨by omega, by omega⟩ (c_X12_undo _ _ _ _ _ _ _ e2) hm2 rfl rfl (Nat.le_of_ble_eq_true rfl) (by decide +kernel) (fun _ => ?_)
  show q_V Γ z (cells + 0 + 0) (slots + 0 + 0) h2 [(0, .ref b), (1, .ref x), (2, .ref m), (3, .int (nI j))] [.int r, .int r] 496
  refine q_icmp_eq C (off := 684) 1180 (α := Unit) (A := some ()) (B := none) (ρ := ()) (by rw [if_pos rfl]) (by decide +kernel) (by decide) (fun _ _ => ?_) (fun q _ => absurd rfl q)
  exact kk _ _ _ _ hI2 (by omega) (by omega)
set_option maxRecDepth 20000 in
set_option maxHeartbeats 1000000 in
/-- fair -/
theorem law_13 {Γ : q_G} {z cells slots b x m j L : Nat} {h : q_H} {xs : Nat → Int32} {Inv : Nat → q_H → Prop} (C : q_C Γ cL_law RL) (Rm : q_Rm Γ 4 15 568 600000 7302250) (X : q_X Γ b L xs) (hL : L ≤ 3072) (hj : j + 6 ≤ L) (St : q_steps x m Inv) (hI : Inv z h) (hc : cells + 8 ≤ 600000 ∧ slots + 2010 ≤ 7302250) (kk : ∀ z1 h1 c1 s1, Inv z1 h1 → c1 ≤ cells + 8 → s1 ≤ slots + 2010 → q_V Γ z1 c1 s1 h1 [(0, .ref b), (1, .ref x), (2, .ref m), (3, .int (nI j))] [] 1180) : q_V Γ z cells slots h [(0, .ref b), (1, .ref x), (2, .ref m), (3, .int (nI j))] [] 501 := by
  obtain ⟨hx1, hm1⟩ := St.1 z h hI
  obtain ⟨r, e1, hm2, e2, hI2⟩ := St.2.2.2.2.2.2.2.2.2.2.2.2.2.2.1 z h (xs (nI j + (1 : Int32)).toNatClampNeg) hI
  refine q_aload_n C (k4 := 1) 1 rfl (by decide +kernel) ?_
  refine q_aload_n C (k4 := 0) 0 rfl (by decide +kernel) ?_
  refine q_iload_n C (k4 := 3) 3 rfl (by decide +kernel) ?_
  refine q_iconst C (n := 1) (v := 1) (by decide) (by decide +kernel) ?_
  refine q_iadd C (by decide +kernel) ?_
  refine q_sld C X (q_ik j 1 L rfl (by omega) hL) (by decide +kernel) ?_
  refine q_callv C Rm (fr' := 5) (lo' := 125) (mc' := 0) (ms' := 0) (sz' := z) (h' := h) (rv := some (.int r)) (As := [.int (xs (nI j + (1 : Int32)).toNatClampNeg)]) (rest := []) Y_X11_fair Yv_X11_fair mL_69 (by decide) ⟨by omega, by omega⟩ (c_X11_fair _ _ _ _ _ _ _ _ e1) hx1 rfl rfl (Nat.le_of_ble_eq_true rfl) (by decide +kernel) (fun _ => ?_)
  show q_V Γ z (cells + 0) (slots + 0) h [(0, .ref b), (1, .ref x), (2, .ref m), (3, .int (nI j))] [.int r] 510
  refine q_aload_n C (k4 := 2) 2 rfl (by decide +kernel) ?_
  refine q_aload_n C (k4 := 0) 0 rfl (by decide +kernel) ?_
  refine q_iload_n C (k4 := 3) 3 rfl (by decide +kernel) ?_
  refine q_iconst C (n := 1) (v := 1) (by decide) (by decide +kernel) ?_
  refine q_iadd C (by decide +kernel) ?_
  refine q_sld C X (q_ik j 1 L rfl (by omega) hL) (by decide +kernel) ?_
  refine q_callv C Rm (fr' := 3) (lo' := 66) (mc' := 0) (ms' := 0) (sz' := z) (h' := h) (rv := some (.int r)) (As := [.int (xs (nI j + (1 : Int32)).toNatClampNeg)]) (rest := [.int r]) Y_X12_fair Yv_X12_fair mL_72 (by decide) ⟨by omega, by omega⟩ (c_X12_fair _ _ _ _ _ _ _ _ e2) hm2 rfl rfl (Nat.le_of_ble_eq_true rfl) (by decide +kernel) (fun _ => ?_)
  show q_V Γ z (cells + 0 + 0) (slots + 0 + 0) h [(0, .ref b), (1, .ref x), (2, .ref m), (3, .int (nI j))] [.int r, .int r] 519
  refine q_icmp_eq C (off := 661) 1180 (α := Unit) (A := some ()) (B := none) (ρ := ()) (by rw [if_pos rfl]) (by decide +kernel) (by decide) (fun _ _ => ?_) (fun q _ => absurd rfl q)
  exact kk _ _ _ _ hI2 (by omega) (by omega)
set_option maxRecDepth 20000 in
set_option maxHeartbeats 1000000 in
/-- swings -/
theorem law_14 {Γ : q_G} {z cells slots b x m j L : Nat} {h : q_H} {xs : Nat → Int32} {Inv : Nat → q_H → Prop} (C : q_C Γ cL_law RL) (Rm : q_Rm Γ 4 15 568 600000 7302250) (X : q_X Γ b L xs) (hL : L ≤ 3072) (hj : j + 6 ≤ L) (St : q_steps x m Inv) (hI : Inv z h) (hc : cells + 8 ≤ 600000 ∧ slots + 2010 ≤ 7302250) (kk : ∀ z1 h1 c1 s1, Inv z1 h1 → c1 ≤ cells + 8 → s1 ≤ slots + 2010 → q_V Γ z1 c1 s1 h1 [(0, .ref b), (1, .ref x), (2, .ref m), (3, .int (nI j))] [] 1180) : q_V Γ z cells slots h [(0, .ref b), (1, .ref x), (2, .ref m), (3, .int (nI j))] [] 524 := by
  obtain ⟨hx1, hm1⟩ := St.1 z h hI
  obtain ⟨r, e1, hm2, e2, hI2⟩ := St.2.2.2.2.2.2.2.2.2.2.2.2.2.2.2.1 z h (xs (nI j + (1 : Int32)).toNatClampNeg) hI
  refine q_aload_n C (k4 := 1) 1 rfl (by decide +kernel) ?_
  refine q_aload_n C (k4 := 0) 0 rfl (by decide +kernel) ?_
  refine q_iload_n C (k4 := 3) 3 rfl (by decide +kernel) ?_
  refine q_iconst C (n := 1) (v := 1) (by decide) (by decide +kernel) ?_
  refine q_iadd C (by decide +kernel) ?_
  refine q_sld C X (q_ik j 1 L rfl (by omega) hL) (by decide +kernel) ?_
  refine q_callv C Rm (fr' := 3) (lo' := 69) (mc' := 0) (ms' := 0) (sz' := z) (h' := h) (rv := some (.int r)) (As := [.int (xs (nI j + (1 : Int32)).toNatClampNeg)]) (rest := []) Y_X11_swings Yv_X11_swings mL_73 (by decide) ⟨by omega, by omega⟩ (c_X11_swings _ _ _ _ _ _ _ _ e1) hx1 rfl rfl (Nat.le_of_ble_eq_true rfl) (by decide +kernel) (fun _ => ?_)
  show q_V Γ z (cells + 0) (slots + 0) h [(0, .ref b), (1, .ref x), (2, .ref m), (3, .int (nI j))] [.int r] 533
  refine q_aload_n C (k4 := 2) 2 rfl (by decide +kernel) ?_
  refine q_aload_n C (k4 := 0) 0 rfl (by decide +kernel) ?_
  refine q_iload_n C (k4 := 3) 3 rfl (by decide +kernel) ?_
  refine q_iconst C (n := 1) (v := 1) (by decide) (by decide +kernel) ?_
  refine q_iadd C (by decide +kernel) ?_
  refine q_sld C X (q_ik j 1 L rfl (by omega) hL) (by decide +kernel) ?_
  refine q_callv C Rm (fr' := 4) (lo' := 87) (mc' := 0) (ms' := 0) (sz' := z) (h' := h) (rv := some (.int r)) (As := [.int (xs (nI j + (1 : Int32)).toNatClampNeg)]) (rest := [.int r]) Y_X12_swings Yv_X12_swings mL_76 (by decide) ⟨by omega, by omega⟩ (c_X12_swings _ _ _ _ _ _ _ _ e2) hm2 rfl rfl (Nat.le_of_ble_eq_true rfl) (by decide +kernel) (fun _ => ?_)
  show q_V Γ z (cells + 0 + 0) (slots + 0 + 0) h [(0, .ref b), (1, .ref x), (2, .ref m), (3, .int (nI j))] [.int r, .int r] 542
  refine q_icmp_eq C (off := 638) 1180 (α := Unit) (A := some ()) (B := none) (ρ := ()) (by rw [if_pos rfl]) (by decide +kernel) (by decide) (fun _ _ => ?_) (fun q _ => absurd rfl q)
  exact kk _ _ _ _ hI2 (by omega) (by omega)
set_option maxRecDepth 20000 in
set_option maxHeartbeats 1000000 in
/-- shares -/
theorem law_15 {Γ : q_G} {z cells slots b x m j L : Nat} {h : q_H} {xs : Nat → Int32} {Inv : Nat → q_H → Prop} (C : q_C Γ cL_law RL) (Rm : q_Rm Γ 4 15 568 600000 7302250) (X : q_X Γ b L xs) (hL : L ≤ 3072) (hj : j + 6 ≤ L) (St : q_steps x m Inv) (hI : Inv z h) (hc : cells + 8 ≤ 600000 ∧ slots + 2010 ≤ 7302250) (kk : ∀ z1 h1 c1 s1, Inv z1 h1 → c1 ≤ cells + 8 → s1 ≤ slots + 2010 → q_V Γ z1 c1 s1 h1 [(0, .ref b), (1, .ref x), (2, .ref m), (3, .int (nI j))] [] 1180) : q_V Γ z cells slots h [(0, .ref b), (1, .ref x), (2, .ref m), (3, .int (nI j))] [] 547 := by
  obtain ⟨hx1, hm1⟩ := St.1 z h hI
  obtain ⟨r, e1, hm2, e2, hI2⟩ := St.2.2.2.2.2.2.2.2.2.2.2.2.2.2.2.2.1 z h (xs (nI j + (1 : Int32)).toNatClampNeg) hI
  refine q_aload_n C (k4 := 1) 1 rfl (by decide +kernel) ?_
  refine q_aload_n C (k4 := 0) 0 rfl (by decide +kernel) ?_
  refine q_iload_n C (k4 := 3) 3 rfl (by decide +kernel) ?_
  refine q_iconst C (n := 1) (v := 1) (by decide) (by decide +kernel) ?_
  refine q_iadd C (by decide +kernel) ?_
  refine q_sld C X (q_ik j 1 L rfl (by omega) hL) (by decide +kernel) ?_
  refine q_callv C Rm (fr' := 3) (lo' := 69) (mc' := 0) (ms' := 0) (sz' := z) (h' := h) (rv := some (.int r)) (As := [.int (xs (nI j + (1 : Int32)).toNatClampNeg)]) (rest := []) Y_X11_shares Yv_X11_shares mL_77 (by decide) ⟨by omega, by omega⟩ (c_X11_shares _ _ _ _ _ _ _ _ e1) hx1 rfl rfl (Nat.le_of_ble_eq_true rfl) (by decide +kernel) (fun _ => ?_)
  show q_V Γ z (cells + 0) (slots + 0) h [(0, .ref b), (1, .ref x), (2, .ref m), (3, .int (nI j))] [.int r] 556
  refine q_aload_n C (k4 := 2) 2 rfl (by decide +kernel) ?_
  refine q_aload_n C (k4 := 0) 0 rfl (by decide +kernel) ?_
  refine q_iload_n C (k4 := 3) 3 rfl (by decide +kernel) ?_
  refine q_iconst C (n := 1) (v := 1) (by decide) (by decide +kernel) ?_
  refine q_iadd C (by decide +kernel) ?_
  refine q_sld C X (q_ik j 1 L rfl (by omega) hL) (by decide +kernel) ?_
  refine q_callv C Rm (fr' := 4) (lo' := 87) (mc' := 0) (ms' := 0) (sz' := z) (h' := h) (rv := some (.int r)) (As := [.int (xs (nI j + (1 : Int32)).toNatClampNeg)]) (rest := [.int r]) Y_X12_shares Yv_X12_shares mL_80 (by decide) ⟨by omega, by omega⟩ (c_X12_shares _ _ _ _ _ _ _ _ e2) hm2 rfl rfl (Nat.le_of_ble_eq_true rfl) (by decide +kernel) (fun _ => ?_)
  show q_V Γ z (cells + 0 + 0) (slots + 0 + 0) h [(0, .ref b), (1, .ref x), (2, .ref m), (3, .int (nI j))] [.int r, .int r] 565
  refine q_icmp_eq C (off := 615) 1180 (α := Unit) (A := some ()) (B := none) (ρ := ()) (by rw [if_pos rfl]) (by decide +kernel) (by decide) (fun _ _ => ?_) (fun q _ => absurd rfl q)
  exact kk _ _ _ _ hI2 (by omega) (by omega)
set_option maxRecDepth 20000 in
set_option maxHeartbeats 1000000 in
/-- fewest -/
theorem law_16 {Γ : q_G} {z cells slots b x m j L : Nat} {h : q_H} {xs : Nat → Int32} {Inv : Nat → q_H → Prop} (C : q_C Γ cL_law RL) (Rm : q_Rm Γ 4 15 568 600000 7302250) (X : q_X Γ b L xs) (hL : L ≤ 3072) (hj : j + 6 ≤ L) (St : q_steps x m Inv) (hI : Inv z h) (hc : cells + 8 ≤ 600000 ∧ slots + 2010 ≤ 7302250) (kk : ∀ z1 h1 c1 s1, Inv z1 h1 → c1 ≤ cells + 8 → s1 ≤ slots + 2010 → q_V Γ z1 c1 s1 h1 [(0, .ref b), (1, .ref x), (2, .ref m), (3, .int (nI j))] [] 1180) : q_V Γ z cells slots h [(0, .ref b), (1, .ref x), (2, .ref m), (3, .int (nI j))] [] 570 := by
  obtain ⟨hx1, hm1⟩ := St.1 z h hI
  obtain ⟨r, e1, hm2, e2, hI2⟩ := St.2.2.2.2.2.2.2.2.2.2.2.2.2.2.2.2.2.1 z h (xs (nI j + (1 : Int32)).toNatClampNeg) hI
  refine q_aload_n C (k4 := 1) 1 rfl (by decide +kernel) ?_
  refine q_aload_n C (k4 := 0) 0 rfl (by decide +kernel) ?_
  refine q_iload_n C (k4 := 3) 3 rfl (by decide +kernel) ?_
  refine q_iconst C (n := 1) (v := 1) (by decide) (by decide +kernel) ?_
  refine q_iadd C (by decide +kernel) ?_
  refine q_sld C X (q_ik j 1 L rfl (by omega) hL) (by decide +kernel) ?_
  refine q_callv C Rm (fr' := 3) (lo' := 66) (mc' := 0) (ms' := 0) (sz' := z) (h' := h) (rv := some (.int r)) (As := [.int (xs (nI j + (1 : Int32)).toNatClampNeg)]) (rest := []) Y_X11_fewest Yv_X11_fewest mL_81 (by decide) ⟨by omega, by omega⟩ (c_X11_fewest _ _ _ _ _ _ _ _ e1) hx1 rfl rfl (Nat.le_of_ble_eq_true rfl) (by decide +kernel) (fun _ => ?_)
  show q_V Γ z (cells + 0) (slots + 0) h [(0, .ref b), (1, .ref x), (2, .ref m), (3, .int (nI j))] [.int r] 579
  refine q_aload_n C (k4 := 2) 2 rfl (by decide +kernel) ?_
  refine q_aload_n C (k4 := 0) 0 rfl (by decide +kernel) ?_
  refine q_iload_n C (k4 := 3) 3 rfl (by decide +kernel) ?_
  refine q_iconst C (n := 1) (v := 1) (by decide) (by decide +kernel) ?_
  refine q_iadd C (by decide +kernel) ?_
  refine q_sld C X (q_ik j 1 L rfl (by omega) hL) (by decide +kernel) ?_
  refine q_callv C Rm (fr' := 3) (lo' := 65) (mc' := 0) (ms' := 0) (sz' := z) (h' := h) (rv := some (.int r)) (As := [.int (xs (nI j + (1 : Int32)).toNatClampNeg)]) (rest := [.int r]) Y_X12_fewest Yv_X12_fewest mL_84 (by decide) ⟨by omega, by omega⟩ (c_X12_fewest _ _ _ _ _ _ _ _ e2) hm2 rfl rfl (Nat.le_of_ble_eq_true rfl) (by decide +kernel) (fun _ => ?_)
  show q_V Γ z (cells + 0 + 0) (slots + 0 + 0) h [(0, .ref b), (1, .ref x), (2, .ref m), (3, .int (nI j))] [.int r, .int r] 588
  refine q_icmp_eq C (off := 592) 1180 (α := Unit) (A := some ()) (B := none) (ρ := ()) (by rw [if_pos rfl]) (by decide +kernel) (by decide) (fun _ _ => ?_) (fun q _ => absurd rfl q)
  exact kk _ _ _ _ hI2 (by omega) (by omega)
set_option maxRecDepth 20000 in
set_option maxHeartbeats 1000000 in
/-- needed -/
theorem law_17 {Γ : q_G} {z cells slots b x m j L : Nat} {h : q_H} {xs : Nat → Int32} {Inv : Nat → q_H → Prop} (C : q_C Γ cL_law RL) (Rm : q_Rm Γ 4 15 568 600000 7302250) (X : q_X Γ b L xs) (hL : L ≤ 3072) (hj : j + 6 ≤ L) (St : q_steps x m Inv) (hI : Inv z h) (hc : cells + 8 ≤ 600000 ∧ slots + 2010 ≤ 7302250) (kk : ∀ z1 h1 c1 s1, Inv z1 h1 → c1 ≤ cells + 8 → s1 ≤ slots + 2010 → q_V Γ z1 c1 s1 h1 [(0, .ref b), (1, .ref x), (2, .ref m), (3, .int (nI j))] [] 1180) : q_V Γ z cells slots h [(0, .ref b), (1, .ref x), (2, .ref m), (3, .int (nI j))] [] 593 := by
  obtain ⟨hx1, hm1⟩ := St.1 z h hI
  obtain ⟨r, e1, hm2, e2, hI2⟩ := St.2.2.2.2.2.2.2.2.2.2.2.2.2.2.2.2.2.2.1 z h hI
  refine q_aload_n C (k4 := 1) 1 rfl (by decide +kernel) ?_
  refine q_callv C Rm (fr' := 3) (lo' := 66) (mc' := 0) (ms' := 0) (sz' := z) (h' := h) (rv := some (.int r)) (As := []) (rest := []) Y_X11_needed Yv_X11_needed mL_85 (by decide) ⟨by omega, by omega⟩ (c_X11_needed _ _ _ _ _ _ _ e1) hx1 rfl rfl (Nat.le_of_ble_eq_true rfl) (by decide +kernel) (fun _ => ?_)
  show q_V Γ z (cells + 0) (slots + 0) h [(0, .ref b), (1, .ref x), (2, .ref m), (3, .int (nI j))] [.int r] 597
  refine q_aload_n C (k4 := 2) 2 rfl (by decide +kernel) ?_
  refine q_callv C Rm (fr' := 3) (lo' := 65) (mc' := 0) (ms' := 0) (sz' := z) (h' := h) (rv := some (.int r)) (As := []) (rest := [.int r]) Y_X12_needed Yv_X12_needed mL_88 (by decide) ⟨by omega, by omega⟩ (c_X12_needed _ _ _ _ _ _ _ e2) hm2 rfl rfl (Nat.le_of_ble_eq_true rfl) (by decide +kernel) (fun _ => ?_)
  show q_V Γ z (cells + 0 + 0) (slots + 0 + 0) h [(0, .ref b), (1, .ref x), (2, .ref m), (3, .int (nI j))] [.int r, .int r] 601
  refine q_icmp_eq C (off := 579) 1180 (α := Unit) (A := some ()) (B := none) (ρ := ()) (by rw [if_pos rfl]) (by decide +kernel) (by decide) (fun _ _ => ?_) (fun q _ => absurd rfl q)
  exact kk _ _ _ _ hI2 (by omega) (by omega)
set_option maxRecDepth 20000 in
set_option maxHeartbeats 1000000 in
/-- ahead -/
theorem law_18 {Γ : q_G} {z cells slots b x m j L : Nat} {h : q_H} {xs : Nat → Int32} {Inv : Nat → q_H → Prop} (C : q_C Γ cL_law RL) (Rm : q_Rm Γ 4 15 568 600000 7302250) (X : q_X Γ b L xs) (hL : L ≤ 3072) (hj : j + 6 ≤ L) (St : q_steps x m Inv) (hI : Inv z h) (hc : cells + 8 ≤ 600000 ∧ slots + 2010 ≤ 7302250) (kk : ∀ z1 h1 c1 s1, Inv z1 h1 → c1 ≤ cells + 8 → s1 ≤ slots + 2010 → q_V Γ z1 c1 s1 h1 [(0, .ref b), (1, .ref x), (2, .ref m), (3, .int (nI j))] [] 1180) : q_V Γ z cells slots h [(0, .ref b), (1, .ref x), (2, .ref m), (3, .int (nI j))] [] 606 := by
  obtain ⟨hx1, hm1⟩ := St.1 z h hI
  obtain ⟨r, h1, h2, e1, hm2, e2, hI2⟩ := St.2.2.2.2.2.2.2.2.2.2.2.2.2.2.2.2.2.2.2.1 z h (xs (nI j + (1 : Int32)).toNatClampNeg) (xs (nI j + (2 : Int32)).toNatClampNeg) (xs (nI j + (3 : Int32)).toNatClampNeg) hI
  refine q_aload_n C (k4 := 1) 1 rfl (by decide +kernel) ?_
  refine q_aload_n C (k4 := 0) 0 rfl (by decide +kernel) ?_
  refine q_iload_n C (k4 := 3) 3 rfl (by decide +kernel) ?_
  refine q_iconst C (n := 1) (v := 1) (by decide) (by decide +kernel) ?_
  refine q_iadd C (by decide +kernel) ?_
  refine q_sld C X (q_ik j 1 L rfl (by omega) hL) (by decide +kernel) ?_
  refine q_aload_n C (k4 := 0) 0 rfl (by decide +kernel) ?_
  refine q_iload_n C (k4 := 3) 3 rfl (by decide +kernel) ?_
  refine q_iconst C (n := 2) (v := 2) (by decide) (by decide +kernel) ?_
  refine q_iadd C (by decide +kernel) ?_
  refine q_sld C X (q_ik j 2 L rfl (by omega) hL) (by decide +kernel) ?_
  refine q_aload_n C (k4 := 0) 0 rfl (by decide +kernel) ?_
  refine q_iload_n C (k4 := 3) 3 rfl (by decide +kernel) ?_
  refine q_iconst C (n := 3) (v := 3) (by decide) (by decide +kernel) ?_
  refine q_iadd C (by decide +kernel) ?_
  refine q_sld C X (q_ik j 3 L rfl (by omega) hL) (by decide +kernel) ?_
  refine q_callv C Rm (fr' := 6) (lo' := 154) (mc' := 0) (ms' := 0) (sz' := z) (h' := h1) (rv := some (.int r)) (As := [.int (xs (nI j + (1 : Int32)).toNatClampNeg), .int (xs (nI j + (2 : Int32)).toNatClampNeg), .int (xs (nI j + (3 : Int32)).toNatClampNeg)]) (rest := []) Y_X11_ahead Yv_X11_ahead mL_89 (by decide) ⟨by omega, by omega⟩ (c_X11_ahead _ _ _ _ _ _ _ _ _ _ e1) hx1 rfl rfl (Nat.le_of_ble_eq_true rfl) (by decide +kernel) (fun _ => ?_)
  show q_V Γ z (cells + 0) (slots + 0) h1 [(0, .ref b), (1, .ref x), (2, .ref m), (3, .int (nI j))] [.int r] 625
  refine q_aload_n C (k4 := 2) 2 rfl (by decide +kernel) ?_
  refine q_aload_n C (k4 := 0) 0 rfl (by decide +kernel) ?_
  refine q_iload_n C (k4 := 3) 3 rfl (by decide +kernel) ?_
  refine q_iconst C (n := 1) (v := 1) (by decide) (by decide +kernel) ?_
  refine q_iadd C (by decide +kernel) ?_
  refine q_sld C X (q_ik j 1 L rfl (by omega) hL) (by decide +kernel) ?_
  refine q_aload_n C (k4 := 0) 0 rfl (by decide +kernel) ?_
  refine q_iload_n C (k4 := 3) 3 rfl (by decide +kernel) ?_
  refine q_iconst C (n := 2) (v := 2) (by decide) (by decide +kernel) ?_
  refine q_iadd C (by decide +kernel) ?_
  refine q_sld C X (q_ik j 2 L rfl (by omega) hL) (by decide +kernel) ?_
  refine q_aload_n C (k4 := 0) 0 rfl (by decide +kernel) ?_
  refine q_iload_n C (k4 := 3) 3 rfl (by decide +kernel) ?_
  refine q_iconst C (n := 3) (v := 3) (by decide) (by decide +kernel) ?_
  refine q_iadd C (by decide +kernel) ?_
  refine q_sld C X (q_ik j 3 L rfl (by omega) hL) (by decide +kernel) ?_
  refine q_callv C Rm (fr' := 7) (lo' := 166) (mc' := 0) (ms' := 0) (sz' := z) (h' := h2) (rv := some (.int r)) (As := [.int (xs (nI j + (1 : Int32)).toNatClampNeg), .int (xs (nI j + (2 : Int32)).toNatClampNeg), .int (xs (nI j + (3 : Int32)).toNatClampNeg)]) (rest := [.int r]) Y_X12_ahead Yv_X12_ahead mL_93 (by decide) ⟨by omega, by omega⟩ (c_X12_ahead _ _ _ _ _ _ _ _ _ _ e2) hm2 rfl rfl (Nat.le_of_ble_eq_true rfl) (by decide +kernel) (fun _ => ?_)
  show q_V Γ z (cells + 0 + 0) (slots + 0 + 0) h2 [(0, .ref b), (1, .ref x), (2, .ref m), (3, .int (nI j))] [.int r, .int r] 644
  refine q_icmp_eq C (off := 536) 1180 (α := Unit) (A := some ()) (B := none) (ρ := ()) (by rw [if_pos rfl]) (by decide +kernel) (by decide) (fun _ _ => ?_) (fun q _ => absurd rfl q)
  exact kk _ _ _ _ hI2 (by omega) (by omega)
set_option maxRecDepth 20000 in
set_option maxHeartbeats 1000000 in
/-- over -/
theorem law_19 {Γ : q_G} {z cells slots b x m j L : Nat} {h : q_H} {xs : Nat → Int32} {Inv : Nat → q_H → Prop} (C : q_C Γ cL_law RL) (Rm : q_Rm Γ 4 15 568 600000 7302250) (X : q_X Γ b L xs) (hL : L ≤ 3072) (hj : j + 6 ≤ L) (St : q_steps x m Inv) (hI : Inv z h) (hc : cells + 8 ≤ 600000 ∧ slots + 2010 ≤ 7302250) (kk : ∀ z1 h1 c1 s1, Inv z1 h1 → c1 ≤ cells + 8 → s1 ≤ slots + 2010 → q_V Γ z1 c1 s1 h1 [(0, .ref b), (1, .ref x), (2, .ref m), (3, .int (nI j))] [] 1180) : q_V Γ z cells slots h [(0, .ref b), (1, .ref x), (2, .ref m), (3, .int (nI j))] [] 649 := by
  obtain ⟨hx1, hm1⟩ := St.1 z h hI
  obtain ⟨r, h1, h2, e1, hm2, e2, hI2⟩ := St.2.2.2.2.2.2.2.2.2.2.2.2.2.2.2.2.2.2.2.2.1 z h (xs (nI j + (1 : Int32)).toNatClampNeg) hI
  refine q_aload_n C (k4 := 1) 1 rfl (by decide +kernel) ?_
  refine q_aload_n C (k4 := 0) 0 rfl (by decide +kernel) ?_
  refine q_iload_n C (k4 := 3) 3 rfl (by decide +kernel) ?_
  refine q_iconst C (n := 1) (v := 1) (by decide) (by decide +kernel) ?_
  refine q_iadd C (by decide +kernel) ?_
  refine q_sld C X (q_ik j 1 L rfl (by omega) hL) (by decide +kernel) ?_
  refine q_callv C Rm (fr' := 6) (lo' := 153) (mc' := 0) (ms' := 0) (sz' := z) (h' := h1) (rv := some (.int r)) (As := [.int (xs (nI j + (1 : Int32)).toNatClampNeg)]) (rest := []) Y_X11_over Yv_X11_over mL_94 (by decide) ⟨by omega, by omega⟩ (c_X11_over _ _ _ _ _ _ _ _ e1) hx1 rfl rfl (Nat.le_of_ble_eq_true rfl) (by decide +kernel) (fun _ => ?_)
  show q_V Γ z (cells + 0) (slots + 0) h1 [(0, .ref b), (1, .ref x), (2, .ref m), (3, .int (nI j))] [.int r] 658
  refine q_aload_n C (k4 := 2) 2 rfl (by decide +kernel) ?_
  refine q_aload_n C (k4 := 0) 0 rfl (by decide +kernel) ?_
  refine q_iload_n C (k4 := 3) 3 rfl (by decide +kernel) ?_
  refine q_iconst C (n := 1) (v := 1) (by decide) (by decide +kernel) ?_
  refine q_iadd C (by decide +kernel) ?_
  refine q_sld C X (q_ik j 1 L rfl (by omega) hL) (by decide +kernel) ?_
  refine q_callv C Rm (fr' := 6) (lo' := 144) (mc' := 0) (ms' := 0) (sz' := z) (h' := h2) (rv := some (.int r)) (As := [.int (xs (nI j + (1 : Int32)).toNatClampNeg)]) (rest := [.int r]) Y_X12_over Yv_X12_over mL_97 (by decide) ⟨by omega, by omega⟩ (c_X12_over _ _ _ _ _ _ _ _ e2) hm2 rfl rfl (Nat.le_of_ble_eq_true rfl) (by decide +kernel) (fun _ => ?_)
  show q_V Γ z (cells + 0 + 0) (slots + 0 + 0) h2 [(0, .ref b), (1, .ref x), (2, .ref m), (3, .int (nI j))] [.int r, .int r] 667
  refine q_icmp_eq C (off := 513) 1180 (α := Unit) (A := some ()) (B := none) (ρ := ()) (by rw [if_pos rfl]) (by decide +kernel) (by decide) (fun _ _ => ?_) (fun q _ => absurd rfl q)
  exact kk _ _ _ _ hI2 (by omega) (by omega)
set_option maxRecDepth 20000 in
set_option maxHeartbeats 1000000 in
/-- row -/
theorem law_20 {Γ : q_G} {z cells slots b x m j L : Nat} {h : q_H} {xs : Nat → Int32} {Inv : Nat → q_H → Prop} (C : q_C Γ cL_law RL) (Rm : q_Rm Γ 4 15 568 600000 7302250) (X : q_X Γ b L xs) (hL : L ≤ 3072) (hj : j + 6 ≤ L) (St : q_steps x m Inv) (hI : Inv z h) (hc : cells + 8 ≤ 600000 ∧ slots + 2010 ≤ 7302250) (kk : ∀ z1 h1 c1 s1, Inv z1 h1 → c1 ≤ cells + 8 → s1 ≤ slots + 2010 → q_V Γ z1 c1 s1 h1 [(0, .ref b), (1, .ref x), (2, .ref m), (3, .int (nI j))] [] 1180) : q_V Γ z cells slots h [(0, .ref b), (1, .ref x), (2, .ref m), (3, .int (nI j))] [] 672 := by
  obtain ⟨hx1, hm1⟩ := St.1 z h hI
  obtain ⟨r, h1, h2, e1, hm2, e2, hI2⟩ := St.2.2.2.2.2.2.2.2.2.2.2.2.2.2.2.2.2.2.2.2.2.1 z h (xs (nI j + (1 : Int32)).toNatClampNeg) (xs (nI j + (2 : Int32)).toNatClampNeg) (xs (nI j + (3 : Int32)).toNatClampNeg) hI
  refine q_aload_n C (k4 := 1) 1 rfl (by decide +kernel) ?_
  refine q_aload_n C (k4 := 0) 0 rfl (by decide +kernel) ?_
  refine q_iload_n C (k4 := 3) 3 rfl (by decide +kernel) ?_
  refine q_iconst C (n := 1) (v := 1) (by decide) (by decide +kernel) ?_
  refine q_iadd C (by decide +kernel) ?_
  refine q_sld C X (q_ik j 1 L rfl (by omega) hL) (by decide +kernel) ?_
  refine q_aload_n C (k4 := 0) 0 rfl (by decide +kernel) ?_
  refine q_iload_n C (k4 := 3) 3 rfl (by decide +kernel) ?_
  refine q_iconst C (n := 2) (v := 2) (by decide) (by decide +kernel) ?_
  refine q_iadd C (by decide +kernel) ?_
  refine q_sld C X (q_ik j 2 L rfl (by omega) hL) (by decide +kernel) ?_
  refine q_aload_n C (k4 := 0) 0 rfl (by decide +kernel) ?_
  refine q_iload_n C (k4 := 3) 3 rfl (by decide +kernel) ?_
  refine q_iconst C (n := 3) (v := 3) (by decide) (by decide +kernel) ?_
  refine q_iadd C (by decide +kernel) ?_
  refine q_sld C X (q_ik j 3 L rfl (by omega) hL) (by decide +kernel) ?_
  refine q_callv C Rm (fr' := 7) (lo' := 182) (mc' := 0) (ms' := 0) (sz' := z) (h' := h1) (rv := some (.int r)) (As := [.int (xs (nI j + (1 : Int32)).toNatClampNeg), .int (xs (nI j + (2 : Int32)).toNatClampNeg), .int (xs (nI j + (3 : Int32)).toNatClampNeg)]) (rest := []) Y_X11_row Yv_X11_row mL_98 (by decide) ⟨by omega, by omega⟩ (c_X11_row _ _ _ _ _ _ _ _ _ _ e1) hx1 rfl rfl (Nat.le_of_ble_eq_true rfl) (by decide +kernel) (fun _ => ?_)
  show q_V Γ z (cells + 0) (slots + 0) h1 [(0, .ref b), (1, .ref x), (2, .ref m), (3, .int (nI j))] [.int r] 691
  refine q_aload_n C (k4 := 2) 2 rfl (by decide +kernel) ?_
  refine q_aload_n C (k4 := 0) 0 rfl (by decide +kernel) ?_
  refine q_iload_n C (k4 := 3) 3 rfl (by decide +kernel) ?_
  refine q_iconst C (n := 1) (v := 1) (by decide) (by decide +kernel) ?_
  refine q_iadd C (by decide +kernel) ?_
  refine q_sld C X (q_ik j 1 L rfl (by omega) hL) (by decide +kernel) ?_
  refine q_aload_n C (k4 := 0) 0 rfl (by decide +kernel) ?_
  refine q_iload_n C (k4 := 3) 3 rfl (by decide +kernel) ?_
  refine q_iconst C (n := 2) (v := 2) (by decide) (by decide +kernel) ?_
  refine q_iadd C (by decide +kernel) ?_
  refine q_sld C X (q_ik j 2 L rfl (by omega) hL) (by decide +kernel) ?_
  refine q_aload_n C (k4 := 0) 0 rfl (by decide +kernel) ?_
  refine q_iload_n C (k4 := 3) 3 rfl (by decide +kernel) ?_
  refine q_iconst C (n := 3) (v := 3) (by decide) (by decide +kernel) ?_
  refine q_iadd C (by decide +kernel) ?_
  refine q_sld C X (q_ik j 3 L rfl (by omega) hL) (by decide +kernel) ?_
  refine q_callv C Rm (fr' := 7) (lo' := 168) (mc' := 0) (ms' := 0) (sz' := z) (h' := h2) (rv := some (.int r)) (As := [.int (xs (nI j + (1 : Int32)).toNatClampNeg), .int (xs (nI j + (2 : Int32)).toNatClampNeg), .int (xs (nI j + (3 : Int32)).toNatClampNeg)]) (rest := [.int r]) Y_X12_row Yv_X12_row mL_101 (by decide) ⟨by omega, by omega⟩ (c_X12_row _ _ _ _ _ _ _ _ _ _ e2) hm2 rfl rfl (Nat.le_of_ble_eq_true rfl) (by decide +kernel) (fun _ => ?_)
  show q_V Γ z (cells + 0 + 0) (slots + 0 + 0) h2 [(0, .ref b), (1, .ref x), (2, .ref m), (3, .int (nI j))] [.int r, .int r] 710
  refine q_icmp_eq C (off := 470) 1180 (α := Unit) (A := some ()) (B := none) (ρ := ()) (by rw [if_pos rfl]) (by decide +kernel) (by decide) (fun _ _ => ?_) (fun q _ => absurd rfl q)
  exact kk _ _ _ _ hI2 (by omega) (by omega)
set_option maxRecDepth 20000 in
set_option maxHeartbeats 1000000 in
/-- trade -/
theorem law_21 {Γ : q_G} {z cells slots b x m j L : Nat} {h : q_H} {xs : Nat → Int32} {Inv : Nat → q_H → Prop} (C : q_C Γ cL_law RL) (Rm : q_Rm Γ 4 15 568 600000 7302250) (X : q_X Γ b L xs) (hL : L ≤ 3072) (hj : j + 6 ≤ L) (St : q_steps x m Inv) (hI : Inv z h) (hc : cells + 8 ≤ 600000 ∧ slots + 2010 ≤ 7302250) (kk : ∀ z1 h1 c1 s1, Inv z1 h1 → c1 ≤ cells + 8 → s1 ≤ slots + 2010 → q_V Γ z1 c1 s1 h1 [(0, .ref b), (1, .ref x), (2, .ref m), (3, .int (nI j))] [] 1180) : q_V Γ z cells slots h [(0, .ref b), (1, .ref x), (2, .ref m), (3, .int (nI j))] [] 715 := by
  obtain ⟨hx1, hm1⟩ := St.1 z h hI
  obtain ⟨r, h1, h2, e1, hm2, e2, hI2⟩ := St.2.2.2.2.2.2.2.2.2.2.2.2.2.2.2.2.2.2.2.2.2.2.1 z h (xs (nI j + (1 : Int32)).toNatClampNeg) (xs (nI j + (2 : Int32)).toNatClampNeg) hI
  refine q_aload_n C (k4 := 1) 1 rfl (by decide +kernel) ?_
  refine q_aload_n C (k4 := 0) 0 rfl (by decide +kernel) ?_
  refine q_iload_n C (k4 := 3) 3 rfl (by decide +kernel) ?_
  refine q_iconst C (n := 1) (v := 1) (by decide) (by decide +kernel) ?_
  refine q_iadd C (by decide +kernel) ?_
  refine q_sld C X (q_ik j 1 L rfl (by omega) hL) (by decide +kernel) ?_
  refine q_aload_n C (k4 := 0) 0 rfl (by decide +kernel) ?_
  refine q_iload_n C (k4 := 3) 3 rfl (by decide +kernel) ?_
  refine q_iconst C (n := 2) (v := 2) (by decide) (by decide +kernel) ?_
  refine q_iadd C (by decide +kernel) ?_
  refine q_sld C X (q_ik j 2 L rfl (by omega) hL) (by decide +kernel) ?_
  refine q_callv C Rm (fr' := 7) (lo' := 183) (mc' := 0) (ms' := 0) (sz' := z) (h' := h1) (rv := some (.int r)) (As := [.int (xs (nI j + (1 : Int32)).toNatClampNeg), .int (xs (nI j + (2 : Int32)).toNatClampNeg)]) (rest := []) Y_X11_trade Yv_X11_trade mL_102 (by decide) ⟨by omega, by omega⟩ (c_X11_trade _ _ _ _ _ _ _ _ _ e1) hx1 rfl rfl (Nat.le_of_ble_eq_true rfl) (by decide +kernel) (fun _ => ?_)
  show q_V Γ z (cells + 0) (slots + 0) h1 [(0, .ref b), (1, .ref x), (2, .ref m), (3, .int (nI j))] [.int r] 729
  refine q_aload_n C (k4 := 2) 2 rfl (by decide +kernel) ?_
  refine q_aload_n C (k4 := 0) 0 rfl (by decide +kernel) ?_
  refine q_iload_n C (k4 := 3) 3 rfl (by decide +kernel) ?_
  refine q_iconst C (n := 1) (v := 1) (by decide) (by decide +kernel) ?_
  refine q_iadd C (by decide +kernel) ?_
  refine q_sld C X (q_ik j 1 L rfl (by omega) hL) (by decide +kernel) ?_
  refine q_aload_n C (k4 := 0) 0 rfl (by decide +kernel) ?_
  refine q_iload_n C (k4 := 3) 3 rfl (by decide +kernel) ?_
  refine q_iconst C (n := 2) (v := 2) (by decide) (by decide +kernel) ?_
  refine q_iadd C (by decide +kernel) ?_
  refine q_sld C X (q_ik j 2 L rfl (by omega) hL) (by decide +kernel) ?_
  refine q_callv C Rm (fr' := 8) (lo' := 188) (mc' := 0) (ms' := 0) (sz' := z) (h' := h2) (rv := some (.int r)) (As := [.int (xs (nI j + (1 : Int32)).toNatClampNeg), .int (xs (nI j + (2 : Int32)).toNatClampNeg)]) (rest := [.int r]) Y_X12_trade Yv_X12_trade mL_105 (by decide) ⟨by omega, by omega⟩ (c_X12_trade _ _ _ _ _ _ _ _ _ e2) hm2 rfl rfl (Nat.le_of_ble_eq_true rfl) (by decide +kernel) (fun _ => ?_)
  show q_V Γ z (cells + 0 + 0) (slots + 0 + 0) h2 [(0, .ref b), (1, .ref x), (2, .ref m), (3, .int (nI j))] [.int r, .int r] 743
  refine q_icmp_eq C (off := 437) 1180 (α := Unit) (A := some ()) (B := none) (ρ := ()) (by rw [if_pos rfl]) (by decide +kernel) (by decide) (fun _ _ => ?_) (fun q _ => absurd rfl q)
  exact kk _ _ _ _ hI2 (by omega) (by omega)
set_option maxRecDepth 20000 in
set_option maxHeartbeats 1000000 in
/-- out -/
theorem law_22 {Γ : q_G} {z cells slots b x m j L : Nat} {h : q_H} {xs : Nat → Int32} {Inv : Nat → q_H → Prop} (C : q_C Γ cL_law RL) (Rm : q_Rm Γ 4 15 568 600000 7302250) (X : q_X Γ b L xs) (hL : L ≤ 3072) (hj : j + 6 ≤ L) (St : q_steps x m Inv) (hI : Inv z h) (hc : cells + 8 ≤ 600000 ∧ slots + 2010 ≤ 7302250) (kk : ∀ z1 h1 c1 s1, Inv z1 h1 → c1 ≤ cells + 8 → s1 ≤ slots + 2010 → q_V Γ z1 c1 s1 h1 [(0, .ref b), (1, .ref x), (2, .ref m), (3, .int (nI j))] [] 1180) : q_V Γ z cells slots h [(0, .ref b), (1, .ref x), (2, .ref m), (3, .int (nI j))] [] 748 := by
  obtain ⟨hx1, hm1⟩ := St.1 z h hI
  obtain ⟨r, h1, h2, e1, hm2, e2, hI2⟩ := St.2.2.2.2.2.2.2.2.2.2.2.2.2.2.2.2.2.2.2.2.2.2.2.1 z h (xs (nI j + (1 : Int32)).toNatClampNeg) (xs (nI j + (2 : Int32)).toNatClampNeg) hI
  refine q_aload_n C (k4 := 1) 1 rfl (by decide +kernel) ?_
  refine q_aload_n C (k4 := 0) 0 rfl (by decide +kernel) ?_
  refine q_iload_n C (k4 := 3) 3 rfl (by decide +kernel) ?_
  refine q_iconst C (n := 1) (v := 1) (by decide) (by decide +kernel) ?_
  refine q_iadd C (by decide +kernel) ?_
  refine q_sld C X (q_ik j 1 L rfl (by omega) hL) (by decide +kernel) ?_
  refine q_aload_n C (k4 := 0) 0 rfl (by decide +kernel) ?_
  refine q_iload_n C (k4 := 3) 3 rfl (by decide +kernel) ?_
  refine q_iconst C (n := 2) (v := 2) (by decide) (by decide +kernel) ?_
  refine q_iadd C (by decide +kernel) ?_
  refine q_sld C X (q_ik j 2 L rfl (by omega) hL) (by decide +kernel) ?_
  refine q_callv C Rm (fr' := 6) (lo' := 157) (mc' := 0) (ms' := 0) (sz' := z) (h' := h1) (rv := some (.int r)) (As := [.int (xs (nI j + (1 : Int32)).toNatClampNeg), .int (xs (nI j + (2 : Int32)).toNatClampNeg)]) (rest := []) Y_X11_out Yv_X11_out mL_106 (by decide) ⟨by omega, by omega⟩ (c_X11_out _ _ _ _ _ _ _ _ _ e1) hx1 rfl rfl (Nat.le_of_ble_eq_true rfl) (by decide +kernel) (fun _ => ?_)
  show q_V Γ z (cells + 0) (slots + 0) h1 [(0, .ref b), (1, .ref x), (2, .ref m), (3, .int (nI j))] [.int r] 762
  refine q_aload_n C (k4 := 2) 2 rfl (by decide +kernel) ?_
  refine q_aload_n C (k4 := 0) 0 rfl (by decide +kernel) ?_
  refine q_iload_n C (k4 := 3) 3 rfl (by decide +kernel) ?_
  refine q_iconst C (n := 1) (v := 1) (by decide) (by decide +kernel) ?_
  refine q_iadd C (by decide +kernel) ?_
  refine q_sld C X (q_ik j 1 L rfl (by omega) hL) (by decide +kernel) ?_
  refine q_aload_n C (k4 := 0) 0 rfl (by decide +kernel) ?_
  refine q_iload_n C (k4 := 3) 3 rfl (by decide +kernel) ?_
  refine q_iconst C (n := 2) (v := 2) (by decide) (by decide +kernel) ?_
  refine q_iadd C (by decide +kernel) ?_
  refine q_sld C X (q_ik j 2 L rfl (by omega) hL) (by decide +kernel) ?_
  refine q_callv C Rm (fr' := 8) (lo' := 188) (mc' := 0) (ms' := 0) (sz' := z) (h' := h2) (rv := some (.int r)) (As := [.int (xs (nI j + (1 : Int32)).toNatClampNeg), .int (xs (nI j + (2 : Int32)).toNatClampNeg)]) (rest := [.int r]) Y_X12_out Yv_X12_out mL_109 (by decide) ⟨by omega, by omega⟩ (c_X12_out _ _ _ _ _ _ _ _ _ e2) hm2 rfl rfl (Nat.le_of_ble_eq_true rfl) (by decide +kernel) (fun _ => ?_)
  show q_V Γ z (cells + 0 + 0) (slots + 0 + 0) h2 [(0, .ref b), (1, .ref x), (2, .ref m), (3, .int (nI j))] [.int r, .int r] 776
  refine q_icmp_eq C (off := 404) 1180 (α := Unit) (A := some ()) (B := none) (ρ := ()) (by rw [if_pos rfl]) (by decide +kernel) (by decide) (fun _ _ => ?_) (fun q _ => absurd rfl q)
  exact kk _ _ _ _ hI2 (by omega) (by omega)
set_option maxRecDepth 20000 in
set_option maxHeartbeats 1000000 in
/-- strengths -/
theorem law_23 {Γ : q_G} {z cells slots b x m j L : Nat} {h : q_H} {xs : Nat → Int32} {Inv : Nat → q_H → Prop} (C : q_C Γ cL_law RL) (Rm : q_Rm Γ 4 15 568 600000 7302250) (X : q_X Γ b L xs) (hL : L ≤ 3072) (hj : j + 6 ≤ L) (St : q_steps x m Inv) (hI : Inv z h) (hc : cells + 8 ≤ 600000 ∧ slots + 2010 ≤ 7302250) (kk : ∀ z1 h1 c1 s1, Inv z1 h1 → c1 ≤ cells + 8 → s1 ≤ slots + 2010 → q_V Γ z1 c1 s1 h1 [(0, .ref b), (1, .ref x), (2, .ref m), (3, .int (nI j))] [] 1180) : q_V Γ z cells slots h [(0, .ref b), (1, .ref x), (2, .ref m), (3, .int (nI j))] [] 781 := by
  obtain ⟨hx1, hm1⟩ := St.1 z h hI
  obtain ⟨r, h1, h2, e1, hm2, e2, hI2⟩ := St.2.2.2.2.2.2.2.2.2.2.2.2.2.2.2.2.2.2.2.2.2.2.2.2.1 z h (xs (nI j + (1 : Int32)).toNatClampNeg) (xs (nI j + (2 : Int32)).toNatClampNeg) hI
  refine q_aload_n C (k4 := 1) 1 rfl (by decide +kernel) ?_
  refine q_aload_n C (k4 := 0) 0 rfl (by decide +kernel) ?_
  refine q_iload_n C (k4 := 3) 3 rfl (by decide +kernel) ?_
  refine q_iconst C (n := 1) (v := 1) (by decide) (by decide +kernel) ?_
  refine q_iadd C (by decide +kernel) ?_
  refine q_sld C X (q_ik j 1 L rfl (by omega) hL) (by decide +kernel) ?_
  refine q_aload_n C (k4 := 0) 0 rfl (by decide +kernel) ?_
  refine q_iload_n C (k4 := 3) 3 rfl (by decide +kernel) ?_
  refine q_iconst C (n := 2) (v := 2) (by decide) (by decide +kernel) ?_
  refine q_iadd C (by decide +kernel) ?_
  refine q_sld C X (q_ik j 2 L rfl (by omega) hL) (by decide +kernel) ?_
  refine q_callv C Rm (fr' := 7) (lo' := 180) (mc' := 0) (ms' := 0) (sz' := z) (h' := h1) (rv := some (.int r)) (As := [.int (xs (nI j + (1 : Int32)).toNatClampNeg), .int (xs (nI j + (2 : Int32)).toNatClampNeg)]) (rest := []) Y_X11_strengths Yv_X11_strengths mL_110 (by decide) ⟨by omega, by omega⟩ (c_X11_strengths _ _ _ _ _ _ _ _ _ e1) hx1 rfl rfl (Nat.le_of_ble_eq_true rfl) (by decide +kernel) (fun _ => ?_)
  show q_V Γ z (cells + 0) (slots + 0) h1 [(0, .ref b), (1, .ref x), (2, .ref m), (3, .int (nI j))] [.int r] 795
  refine q_aload_n C (k4 := 2) 2 rfl (by decide +kernel) ?_
  refine q_aload_n C (k4 := 0) 0 rfl (by decide +kernel) ?_
  refine q_iload_n C (k4 := 3) 3 rfl (by decide +kernel) ?_
  refine q_iconst C (n := 1) (v := 1) (by decide) (by decide +kernel) ?_
  refine q_iadd C (by decide +kernel) ?_
  refine q_sld C X (q_ik j 1 L rfl (by omega) hL) (by decide +kernel) ?_
  refine q_aload_n C (k4 := 0) 0 rfl (by decide +kernel) ?_
  refine q_iload_n C (k4 := 3) 3 rfl (by decide +kernel) ?_
  refine q_iconst C (n := 2) (v := 2) (by decide) (by decide +kernel) ?_
  refine q_iadd C (by decide +kernel) ?_
  refine q_sld C X (q_ik j 2 L rfl (by omega) hL) (by decide +kernel) ?_
  refine q_callv C Rm (fr' := 8) (lo' := 195) (mc' := 0) (ms' := 0) (sz' := z) (h' := h2) (rv := some (.int r)) (As := [.int (xs (nI j + (1 : Int32)).toNatClampNeg), .int (xs (nI j + (2 : Int32)).toNatClampNeg)]) (rest := [.int r]) Y_X12_strengths Yv_X12_strengths mL_113 (by decide) ⟨by omega, by omega⟩ (c_X12_strengths _ _ _ _ _ _ _ _ _ e2) hm2 rfl rfl (Nat.le_of_ble_eq_true rfl) (by decide +kernel) (fun _ => ?_)
  show q_V Γ z (cells + 0 + 0) (slots + 0 + 0) h2 [(0, .ref b), (1, .ref x), (2, .ref m), (3, .int (nI j))] [.int r, .int r] 809
  refine q_icmp_eq C (off := 371) 1180 (α := Unit) (A := some ()) (B := none) (ρ := ()) (by rw [if_pos rfl]) (by decide +kernel) (by decide) (fun _ _ => ?_) (fun q _ => absurd rfl q)
  exact kk _ _ _ _ hI2 (by omega) (by omega)
set_option maxRecDepth 20000 in
set_option maxHeartbeats 1000000 in
/-- winds -/
theorem law_24 {Γ : q_G} {z cells slots b x m j L : Nat} {h : q_H} {xs : Nat → Int32} {Inv : Nat → q_H → Prop} (C : q_C Γ cL_law RL) (Rm : q_Rm Γ 4 15 568 600000 7302250) (X : q_X Γ b L xs) (hL : L ≤ 3072) (hj : j + 6 ≤ L) (St : q_steps x m Inv) (hI : Inv z h) (hc : cells + 8 ≤ 600000 ∧ slots + 2010 ≤ 7302250) (kk : ∀ z1 h1 c1 s1, Inv z1 h1 → c1 ≤ cells + 8 → s1 ≤ slots + 2010 → q_V Γ z1 c1 s1 h1 [(0, .ref b), (1, .ref x), (2, .ref m), (3, .int (nI j))] [] 1180) : q_V Γ z cells slots h [(0, .ref b), (1, .ref x), (2, .ref m), (3, .int (nI j))] [] 814 := by
  obtain ⟨hx1, hm1⟩ := St.1 z h hI
  obtain ⟨r, h1, h2, e1, hm2, e2, hI2⟩ := St.2.2.2.2.2.2.2.2.2.2.2.2.2.2.2.2.2.2.2.2.2.2.2.2.2.1 z h (xs (nI j + (1 : Int32)).toNatClampNeg) (xs (nI j + (2 : Int32)).toNatClampNeg) hI
  refine q_aload_n C (k4 := 1) 1 rfl (by decide +kernel) ?_
  refine q_aload_n C (k4 := 0) 0 rfl (by decide +kernel) ?_
  refine q_iload_n C (k4 := 3) 3 rfl (by decide +kernel) ?_
  refine q_iconst C (n := 1) (v := 1) (by decide) (by decide +kernel) ?_
  refine q_iadd C (by decide +kernel) ?_
  refine q_sld C X (q_ik j 1 L rfl (by omega) hL) (by decide +kernel) ?_
  refine q_aload_n C (k4 := 0) 0 rfl (by decide +kernel) ?_
  refine q_iload_n C (k4 := 3) 3 rfl (by decide +kernel) ?_
  refine q_iconst C (n := 2) (v := 2) (by decide) (by decide +kernel) ?_
  refine q_iadd C (by decide +kernel) ?_
  refine q_sld C X (q_ik j 2 L rfl (by omega) hL) (by decide +kernel) ?_
  refine q_callv C Rm (fr' := 7) (lo' := 180) (mc' := 0) (ms' := 0) (sz' := z) (h' := h1) (rv := some (.int r)) (As := [.int (xs (nI j + (1 : Int32)).toNatClampNeg), .int (xs (nI j + (2 : Int32)).toNatClampNeg)]) (rest := []) Y_X11_winds Yv_X11_winds mL_114 (by decide) ⟨by omega, by omega⟩ (c_X11_winds _ _ _ _ _ _ _ _ _ e1) hx1 rfl rfl (Nat.le_of_ble_eq_true rfl) (by decide +kernel) (fun _ => ?_)
  show q_V Γ z (cells + 0) (slots + 0) h1 [(0, .ref b), (1, .ref x), (2, .ref m), (3, .int (nI j))] [.int r] 828
  refine q_aload_n C (k4 := 2) 2 rfl (by decide +kernel) ?_
  refine q_aload_n C (k4 := 0) 0 rfl (by decide +kernel) ?_
  refine q_iload_n C (k4 := 3) 3 rfl (by decide +kernel) ?_
  refine q_iconst C (n := 1) (v := 1) (by decide) (by decide +kernel) ?_
  refine q_iadd C (by decide +kernel) ?_
  refine q_sld C X (q_ik j 1 L rfl (by omega) hL) (by decide +kernel) ?_
  refine q_aload_n C (k4 := 0) 0 rfl (by decide +kernel) ?_
  refine q_iload_n C (k4 := 3) 3 rfl (by decide +kernel) ?_
  refine q_iconst C (n := 2) (v := 2) (by decide) (by decide +kernel) ?_
  refine q_iadd C (by decide +kernel) ?_
  refine q_sld C X (q_ik j 2 L rfl (by omega) hL) (by decide +kernel) ?_
  refine q_callv C Rm (fr' := 8) (lo' := 195) (mc' := 0) (ms' := 0) (sz' := z) (h' := h2) (rv := some (.int r)) (As := [.int (xs (nI j + (1 : Int32)).toNatClampNeg), .int (xs (nI j + (2 : Int32)).toNatClampNeg)]) (rest := [.int r]) Y_X12_winds Yv_X12_winds mL_117 (by decide) ⟨by omega, by omega⟩ (c_X12_winds _ _ _ _ _ _ _ _ _ e2) hm2 rfl rfl (Nat.le_of_ble_eq_true rfl) (by decide +kernel) (fun _ => ?_)
  show q_V Γ z (cells + 0 + 0) (slots + 0 + 0) h2 [(0, .ref b), (1, .ref x), (2, .ref m), (3, .int (nI j))] [.int r, .int r] 842
  refine q_icmp_eq C (off := 338) 1180 (α := Unit) (A := some ()) (B := none) (ρ := ()) (by rw [if_pos rfl]) (by decide +kernel) (by decide) (fun _ _ => ?_) (fun q _ => absurd rfl q)
  exact kk _ _ _ _ hI2 (by omega) (by omega)
set_option maxRecDepth 20000 in
set_option maxHeartbeats 1000000 in
/-- rests -/
theorem law_25 {Γ : q_G} {z cells slots b x m j L : Nat} {h : q_H} {xs : Nat → Int32} {Inv : Nat → q_H → Prop} (C : q_C Γ cL_law RL) (Rm : q_Rm Γ 4 15 568 600000 7302250) (X : q_X Γ b L xs) (hL : L ≤ 3072) (hj : j + 6 ≤ L) (St : q_steps x m Inv) (hI : Inv z h) (hc : cells + 8 ≤ 600000 ∧ slots + 2010 ≤ 7302250) (kk : ∀ z1 h1 c1 s1, Inv z1 h1 → c1 ≤ cells + 8 → s1 ≤ slots + 2010 → q_V Γ z1 c1 s1 h1 [(0, .ref b), (1, .ref x), (2, .ref m), (3, .int (nI j))] [] 1180) : q_V Γ z cells slots h [(0, .ref b), (1, .ref x), (2, .ref m), (3, .int (nI j))] [] 847 := by
  obtain ⟨hx1, hm1⟩ := St.1 z h hI
  obtain ⟨r, h1, h2, e1, hm2, e2, hI2⟩ := St.2.2.2.2.2.2.2.2.2.2.2.2.2.2.2.2.2.2.2.2.2.2.2.2.2.2.1 z h (xs (nI j + (1 : Int32)).toNatClampNeg) (xs (nI j + (2 : Int32)).toNatClampNeg) (xs (nI j + (3 : Int32)).toNatClampNeg) (xs (nI j + (4 : Int32)).toNatClampNeg) hI
  refine q_aload_n C (k4 := 1) 1 rfl (by decide +kernel) ?_
  refine q_aload_n C (k4 := 0) 0 rfl (by decide +kernel) ?_
  refine q_iload_n C (k4 := 3) 3 rfl (by decide +kernel) ?_
  refine q_iconst C (n := 1) (v := 1) (by decide) (by decide +kernel) ?_
  refine q_iadd C (by decide +kernel) ?_
  refine q_sld C X (q_ik j 1 L rfl (by omega) hL) (by decide +kernel) ?_
  refine q_aload_n C (k4 := 0) 0 rfl (by decide +kernel) ?_
  refine q_iload_n C (k4 := 3) 3 rfl (by decide +kernel) ?_
  refine q_iconst C (n := 2) (v := 2) (by decide) (by decide +kernel) ?_
  refine q_iadd C (by decide +kernel) ?_
  refine q_sld C X (q_ik j 2 L rfl (by omega) hL) (by decide +kernel) ?_
  refine q_aload_n C (k4 := 0) 0 rfl (by decide +kernel) ?_
  refine q_iload_n C (k4 := 3) 3 rfl (by decide +kernel) ?_
  refine q_iconst C (n := 3) (v := 3) (by decide) (by decide +kernel) ?_
  refine q_iadd C (by decide +kernel) ?_
  refine q_sld C X (q_ik j 3 L rfl (by omega) hL) (by decide +kernel) ?_
  refine q_aload_n C (k4 := 0) 0 rfl (by decide +kernel) ?_
  refine q_iload_n C (k4 := 3) 3 rfl (by decide +kernel) ?_
  refine q_iconst C (n := 4) (v := 4) (by decide) (by decide +kernel) ?_
  refine q_iadd C (by decide +kernel) ?_
  refine q_sld C X (q_ik j 4 L rfl (by omega) hL) (by decide +kernel) ?_
  refine q_callv C Rm (fr' := 6) (lo' := 158) (mc' := 0) (ms' := 0) (sz' := z) (h' := h1) (rv := some (.int r)) (As := [.int (xs (nI j + (1 : Int32)).toNatClampNeg), .int (xs (nI j + (2 : Int32)).toNatClampNeg), .int (xs (nI j + (3 : Int32)).toNatClampNeg), .int (xs (nI j + (4 : Int32)).toNatClampNeg)]) (rest := []) Y_X11_rests Yv_X11_rests mL_118 (by decide) ⟨by omega, by omega⟩ (c_X11_rests _ _ _ _ _ _ _ _ _ _ _ e1) hx1 rfl rfl (Nat.le_of_ble_eq_true rfl) (by decide +kernel) (fun _ => ?_)
  show q_V Γ z (cells + 0) (slots + 0) h1 [(0, .ref b), (1, .ref x), (2, .ref m), (3, .int (nI j))] [.int r] 871
  refine q_aload_n C (k4 := 2) 2 rfl (by decide +kernel) ?_
  refine q_aload_n C (k4 := 0) 0 rfl (by decide +kernel) ?_
  refine q_iload_n C (k4 := 3) 3 rfl (by decide +kernel) ?_
  refine q_iconst C (n := 1) (v := 1) (by decide) (by decide +kernel) ?_
  refine q_iadd C (by decide +kernel) ?_
  refine q_sld C X (q_ik j 1 L rfl (by omega) hL) (by decide +kernel) ?_
  refine q_aload_n C (k4 := 0) 0 rfl (by decide +kernel) ?_
  refine q_iload_n C (k4 := 3) 3 rfl (by decide +kernel) ?_
  refine q_iconst C (n := 2) (v := 2) (by decide) (by decide +kernel) ?_
  refine q_iadd C (by decide +kernel) ?_
  refine q_sld C X (q_ik j 2 L rfl (by omega) hL) (by decide +kernel) ?_
  refine q_aload_n C (k4 := 0) 0 rfl (by decide +kernel) ?_
  refine q_iload_n C (k4 := 3) 3 rfl (by decide +kernel) ?_
  refine q_iconst C (n := 3) (v := 3) (by decide) (by decide +kernel) ?_
  refine q_iadd C (by decide +kernel) ?_
  refine q_sld C X (q_ik j 3 L rfl (by omega) hL) (by decide +kernel) ?_
  refine q_aload_n C (k4 := 0) 0 rfl (by decide +kernel) ?_
  refine q_iload_n C (k4 := 3) 3 rfl (by decide +kernel) ?_
  refine q_iconst C (n := 4) (v := 4) (by decide) (by decide +kernel) ?_
  refine q_iadd C (by decide +kernel) ?_
  refine q_sld C X (q_ik j 4 L rfl (by omega) hL) (by decide +kernel) ?_
  refine q_callv C Rm (fr' := 8) (lo' := 190) (mc' := 0) (ms' := 0) (sz' := z) (h' := h2) (rv := some (.int r)) (As := [.int (xs (nI j + (1 : Int32)).toNatClampNeg), .int (xs (nI j + (2 : Int32)).toNatClampNeg), .int (xs (nI j + (3 : Int32)).toNatClampNeg), .int (xs (nI j + (4 : Int32)).toNatClampNeg)]) (rest := [.int r]) Y_X12_rests Yv_X12_rests mL_122 (by decide) ⟨by omega, by omega⟩ (c_X12_rests _ _ _ _ _ _ _ _ _ _ _ e2) hm2 rfl rfl (Nat.le_of_ble_eq_true rfl) (by decide +kernel) (fun _ => ?_)
  show q_V Γ z (cells + 0 + 0) (slots + 0 + 0) h2 [(0, .ref b), (1, .ref x), (2, .ref m), (3, .int (nI j))] [.int r, .int r] 895
  refine q_icmp_eq C (off := 285) 1180 (α := Unit) (A := some ()) (B := none) (ρ := ()) (by rw [if_pos rfl]) (by decide +kernel) (by decide) (fun _ _ => ?_) (fun q _ => absurd rfl q)
  exact kk _ _ _ _ hI2 (by omega) (by omega)
set_option maxRecDepth 20000 in
set_option maxHeartbeats 1000000 in
/-- alike -/
theorem law_26 {Γ : q_G} {z cells slots b x m j L : Nat} {h : q_H} {xs : Nat → Int32} {Inv : Nat → q_H → Prop} (C : q_C Γ cL_law RL) (Rm : q_Rm Γ 4 15 568 600000 7302250) (X : q_X Γ b L xs) (hL : L ≤ 3072) (hj : j + 6 ≤ L) (St : q_steps x m Inv) (hI : Inv z h) (hc : cells + 8 ≤ 600000 ∧ slots + 2010 ≤ 7302250) (kk : ∀ z1 h1 c1 s1, Inv z1 h1 → c1 ≤ cells + 8 → s1 ≤ slots + 2010 → q_V Γ z1 c1 s1 h1 [(0, .ref b), (1, .ref x), (2, .ref m), (3, .int (nI j))] [] 1180) : q_V Γ z cells slots h [(0, .ref b), (1, .ref x), (2, .ref m), (3, .int (nI j))] [] 900 := by
  obtain ⟨hx1, hm1⟩ := St.1 z h hI
  obtain ⟨r, h1, h2, e1, hm2, e2, hI2⟩ := St.2.2.2.2.2.2.2.2.2.2.2.2.2.2.2.2.2.2.2.2.2.2.2.2.2.2.2.1 z h (xs (nI j + (1 : Int32)).toNatClampNeg) hI
  refine q_aload_n C (k4 := 1) 1 rfl (by decide +kernel) ?_
  refine q_aload_n C (k4 := 0) 0 rfl (by decide +kernel) ?_
  refine q_iload_n C (k4 := 3) 3 rfl (by decide +kernel) ?_
  refine q_iconst C (n := 1) (v := 1) (by decide) (by decide +kernel) ?_
  refine q_iadd C (by decide +kernel) ?_
  refine q_sld C X (q_ik j 1 L rfl (by omega) hL) (by decide +kernel) ?_
  refine q_callv C Rm (fr' := 6) (lo' := 154) (mc' := 0) (ms' := 0) (sz' := z) (h' := h1) (rv := some (.int r)) (As := [.int (xs (nI j + (1 : Int32)).toNatClampNeg)]) (rest := []) Y_X11_alike Yv_X11_alike mL_123 (by decide) ⟨by omega, by omega⟩ (c_X11_alike _ _ _ _ _ _ _ _ e1) hx1 rfl rfl (Nat.le_of_ble_eq_true rfl) (by decide +kernel) (fun _ => ?_)
  show q_V Γ z (cells + 0) (slots + 0) h1 [(0, .ref b), (1, .ref x), (2, .ref m), (3, .int (nI j))] [.int r] 909
  refine q_aload_n C (k4 := 2) 2 rfl (by decide +kernel) ?_
  refine q_aload_n C (k4 := 0) 0 rfl (by decide +kernel) ?_
  refine q_iload_n C (k4 := 3) 3 rfl (by decide +kernel) ?_
  refine q_iconst C (n := 1) (v := 1) (by decide) (by decide +kernel) ?_
  refine q_iadd C (by decide +kernel) ?_
  refine q_sld C X (q_ik j 1 L rfl (by omega) hL) (by decide +kernel) ?_
  refine q_callv C Rm (fr' := 6) (lo' := 144) (mc' := 0) (ms' := 0) (sz' := z) (h' := h2) (rv := some (.int r)) (As := [.int (xs (nI j + (1 : Int32)).toNatClampNeg)]) (rest := [.int r]) Y_X12_alike Yv_X12_alike mL_126 (by decide) ⟨by omega, by omega⟩ (c_X12_alike _ _ _ _ _ _ _ _ e2) hm2 rfl rfl (Nat.le_of_ble_eq_true rfl) (by decide +kernel) (fun _ => ?_)
  show q_V Γ z (cells + 0 + 0) (slots + 0 + 0) h2 [(0, .ref b), (1, .ref x), (2, .ref m), (3, .int (nI j))] [.int r, .int r] 918
  refine q_icmp_eq C (off := 262) 1180 (α := Unit) (A := some ()) (B := none) (ρ := ()) (by rw [if_pos rfl]) (by decide +kernel) (by decide) (fun _ _ => ?_) (fun q _ => absurd rfl q)
  exact kk _ _ _ _ hI2 (by omega) (by omega)
set_option maxRecDepth 20000 in
set_option maxHeartbeats 1000000 in
/-- pence -/
theorem law_27 {Γ : q_G} {z cells slots b x m j L : Nat} {h : q_H} {xs : Nat → Int32} {Inv : Nat → q_H → Prop} (C : q_C Γ cL_law RL) (Rm : q_Rm Γ 4 15 568 600000 7302250) (X : q_X Γ b L xs) (hL : L ≤ 3072) (hj : j + 6 ≤ L) (St : q_steps x m Inv) (hI : Inv z h) (hc : cells + 8 ≤ 600000 ∧ slots + 2010 ≤ 7302250) (kk : ∀ z1 h1 c1 s1, Inv z1 h1 → c1 ≤ cells + 8 → s1 ≤ slots + 2010 → q_V Γ z1 c1 s1 h1 [(0, .ref b), (1, .ref x), (2, .ref m), (3, .int (nI j))] [] 1180) : q_V Γ z cells slots h [(0, .ref b), (1, .ref x), (2, .ref m), (3, .int (nI j))] [] 923 := by
  obtain ⟨hx1, hm1⟩ := St.1 z h hI
  obtain ⟨r, e1, hm2, e2, hI2⟩ := St.2.2.2.2.2.2.2.2.2.2.2.2.2.2.2.2.2.2.2.2.2.2.2.2.2.2.2.2.1 z h (xs (nI j + (1 : Int32)).toNatClampNeg) (xs (nI j + (2 : Int32)).toNatClampNeg) hI
  refine q_aload_n C (k4 := 1) 1 rfl (by decide +kernel) ?_
  refine q_aload_n C (k4 := 0) 0 rfl (by decide +kernel) ?_
  refine q_iload_n C (k4 := 3) 3 rfl (by decide +kernel) ?_
  refine q_iconst C (n := 1) (v := 1) (by decide) (by decide +kernel) ?_
  refine q_iadd C (by decide +kernel) ?_
  refine q_sld C X (q_ik j 1 L rfl (by omega) hL) (by decide +kernel) ?_
  refine q_aload_n C (k4 := 0) 0 rfl (by decide +kernel) ?_
  refine q_iload_n C (k4 := 3) 3 rfl (by decide +kernel) ?_
  refine q_iconst C (n := 2) (v := 2) (by decide) (by decide +kernel) ?_
  refine q_iadd C (by decide +kernel) ?_
  refine q_sld C X (q_ik j 2 L rfl (by omega) hL) (by decide +kernel) ?_
  refine q_callv C Rm (fr' := 2) (lo' := 52) (mc' := 0) (ms' := 0) (sz' := z) (h' := h) (rv := some (.int r)) (As := [.int (xs (nI j + (1 : Int32)).toNatClampNeg), .int (xs (nI j + (2 : Int32)).toNatClampNeg)]) (rest := []) Y_X11_pence Yv_X11_pence mL_127 (by decide) ⟨by omega, by omega⟩ (c_X11_pence _ _ _ _ _ _ _ _ _ e1) hx1 rfl rfl (Nat.le_of_ble_eq_true rfl) (by decide +kernel) (fun _ => ?_)
  show q_V Γ z (cells + 0) (slots + 0) h [(0, .ref b), (1, .ref x), (2, .ref m), (3, .int (nI j))] [.int r] 937
  refine q_aload_n C (k4 := 2) 2 rfl (by decide +kernel) ?_
  refine q_aload_n C (k4 := 0) 0 rfl (by decide +kernel) ?_
  refine q_iload_n C (k4 := 3) 3 rfl (by decide +kernel) ?_
  refine q_iconst C (n := 1) (v := 1) (by decide) (by decide +kernel) ?_
  refine q_iadd C (by decide +kernel) ?_
  refine q_sld C X (q_ik j 1 L rfl (by omega) hL) (by decide +kernel) ?_
  refine q_aload_n C (k4 := 0) 0 rfl (by decide +kernel) ?_
  refine q_iload_n C (k4 := 3) 3 rfl (by decide +kernel) ?_
  refine q_iconst C (n := 2) (v := 2) (by decide) (by decide +kernel) ?_
  refine q_iadd C (by decide +kernel) ?_
  refine q_sld C X (q_ik j 2 L rfl (by omega) hL) (by decide +kernel) ?_
  refine q_callv C Rm (fr' := 2) (lo' := 43) (mc' := 0) (ms' := 0) (sz' := z) (h' := h) (rv := some (.int r)) (As := [.int (xs (nI j + (1 : Int32)).toNatClampNeg), .int (xs (nI j + (2 : Int32)).toNatClampNeg)]) (rest := [.int r]) Y_X12_pence Yv_X12_pence mL_130 (by decide) ⟨by omega, by omega⟩ (c_X12_pence _ _ _ _ _ _ _ _ _ e2) hm2 rfl rfl (Nat.le_of_ble_eq_true rfl) (by decide +kernel) (fun _ => ?_)
  show q_V Γ z (cells + 0 + 0) (slots + 0 + 0) h [(0, .ref b), (1, .ref x), (2, .ref m), (3, .int (nI j))] [.int r, .int r] 951
  refine q_icmp_eq C (off := 229) 1180 (α := Unit) (A := some ()) (B := none) (ρ := ()) (by rw [if_pos rfl]) (by decide +kernel) (by decide) (fun _ _ => ?_) (fun q _ => absurd rfl q)
  exact kk _ _ _ _ hI2 (by omega) (by omega)
set_option maxRecDepth 20000 in
set_option maxHeartbeats 1000000 in
/-- note -/
theorem law_28 {Γ : q_G} {z cells slots b x m j L : Nat} {h : q_H} {xs : Nat → Int32} {Inv : Nat → q_H → Prop} (C : q_C Γ cL_law RL) (Rm : q_Rm Γ 4 15 568 600000 7302250) (X : q_X Γ b L xs) (hL : L ≤ 3072) (hj : j + 6 ≤ L) (St : q_steps x m Inv) (hI : Inv z h) (hc : cells + 8 ≤ 600000 ∧ slots + 2010 ≤ 7302250) (kk : ∀ z1 h1 c1 s1, Inv z1 h1 → c1 ≤ cells + 8 → s1 ≤ slots + 2010 → q_V Γ z1 c1 s1 h1 [(0, .ref b), (1, .ref x), (2, .ref m), (3, .int (nI j))] [] 1180) : q_V Γ z cells slots h [(0, .ref b), (1, .ref x), (2, .ref m), (3, .int (nI j))] [] 956 := by
  obtain ⟨hx1, hm1⟩ := St.1 z h hI
  obtain ⟨r, h1, h2, e1, hm2, e2, hI2⟩ := St.2.2.2.2.2.2.2.2.2.2.2.2.2.2.2.2.2.2.2.2.2.2.2.2.2.2.2.2.2.1 z h (xs (nI j + (1 : Int32)).toNatClampNeg) (xs (nI j + (2 : Int32)).toNatClampNeg) hI
  refine q_aload_n C (k4 := 1) 1 rfl (by decide +kernel) ?_
  refine q_aload_n C (k4 := 0) 0 rfl (by decide +kernel) ?_
  refine q_iload_n C (k4 := 3) 3 rfl (by decide +kernel) ?_
  refine q_iconst C (n := 1) (v := 1) (by decide) (by decide +kernel) ?_
  refine q_iadd C (by decide +kernel) ?_
  refine q_sld C X (q_ik j 1 L rfl (by omega) hL) (by decide +kernel) ?_
  refine q_aload_n C (k4 := 0) 0 rfl (by decide +kernel) ?_
  refine q_iload_n C (k4 := 3) 3 rfl (by decide +kernel) ?_
  refine q_iconst C (n := 2) (v := 2) (by decide) (by decide +kernel) ?_
  refine q_iadd C (by decide +kernel) ?_
  refine q_sld C X (q_ik j 2 L rfl (by omega) hL) (by decide +kernel) ?_
  refine q_callv C Rm (fr' := 1) (lo' := 22) (mc' := 0) (ms' := 0) (sz' := z) (h' := h1) (rv := some (.int r)) (As := [.int (xs (nI j + (1 : Int32)).toNatClampNeg), .int (xs (nI j + (2 : Int32)).toNatClampNeg)]) (rest := []) Y_X11_note Yv_X11_note mL_131 (by decide) ⟨by omega, by omega⟩ (c_X11_note _ _ _ _ _ _ _ _ _ e1) hx1 rfl rfl (Nat.le_of_ble_eq_true rfl) (by decide +kernel) (fun _ => ?_)
  show q_V Γ z (cells + 0) (slots + 0) h1 [(0, .ref b), (1, .ref x), (2, .ref m), (3, .int (nI j))] [.int r] 970
  refine q_aload_n C (k4 := 2) 2 rfl (by decide +kernel) ?_
  refine q_aload_n C (k4 := 0) 0 rfl (by decide +kernel) ?_
  refine q_iload_n C (k4 := 3) 3 rfl (by decide +kernel) ?_
  refine q_iconst C (n := 1) (v := 1) (by decide) (by decide +kernel) ?_
  refine q_iadd C (by decide +kernel) ?_
  refine q_sld C X (q_ik j 1 L rfl (by omega) hL) (by decide +kernel) ?_
  refine q_aload_n C (k4 := 0) 0 rfl (by decide +kernel) ?_
  refine q_iload_n C (k4 := 3) 3 rfl (by decide +kernel) ?_
  refine q_iconst C (n := 2) (v := 2) (by decide) (by decide +kernel) ?_
  refine q_iadd C (by decide +kernel) ?_
  refine q_sld C X (q_ik j 2 L rfl (by omega) hL) (by decide +kernel) ?_
  refine q_callv C Rm (fr' := 1) (lo' := 25) (mc' := 0) (ms' := 0) (sz' := z) (h' := h2) (rv := some (.int r)) (As := [.int (xs (nI j + (1 : Int32)).toNatClampNeg), .int (xs (nI j + (2 : Int32)).toNatClampNeg)]) (rest := [.int r]) Y_X12_note Yv_X12_note mL_134 (by decide) ⟨by omega, by omega⟩ (c_X12_note _ _ _ _ _ _ _ _ _ e2) hm2 rfl rfl (Nat.le_of_ble_eq_true rfl) (by decide +kernel) (fun _ => ?_)
  show q_V Γ z (cells + 0 + 0) (slots + 0 + 0) h2 [(0, .ref b), (1, .ref x), (2, .ref m), (3, .int (nI j))] [.int r, .int r] 984
  refine q_icmp_eq C (off := 196) 1180 (α := Unit) (A := some ()) (B := none) (ρ := ()) (by rw [if_pos rfl]) (by decide +kernel) (by decide) (fun _ _ => ?_) (fun q _ => absurd rfl q)
  exact kk _ _ _ _ hI2 (by omega) (by omega)
set_option maxRecDepth 20000 in
set_option maxHeartbeats 1000000 in
/-- ruled -/
theorem law_29 {Γ : q_G} {z cells slots b x m j L : Nat} {h : q_H} {xs : Nat → Int32} {Inv : Nat → q_H → Prop} (C : q_C Γ cL_law RL) (Rm : q_Rm Γ 4 15 568 600000 7302250) (X : q_X Γ b L xs) (hL : L ≤ 3072) (hj : j + 6 ≤ L) (St : q_steps x m Inv) (hI : Inv z h) (hc : cells + 8 ≤ 600000 ∧ slots + 2010 ≤ 7302250) (kk : ∀ z1 h1 c1 s1, Inv z1 h1 → c1 ≤ cells + 8 → s1 ≤ slots + 2010 → q_V Γ z1 c1 s1 h1 [(0, .ref b), (1, .ref x), (2, .ref m), (3, .int (nI j))] [] 1180) : q_V Γ z cells slots h [(0, .ref b), (1, .ref x), (2, .ref m), (3, .int (nI j))] [] 989 := by
  obtain ⟨hx1, hm1⟩ := St.1 z h hI
  obtain ⟨r, h1, h2, e1, hm2, e2, hI2⟩ := St.2.2.2.2.2.2.2.2.2.2.2.2.2.2.2.2.2.2.2.2.2.2.2.2.2.2.2.2.2.2.1 z h (xs (nI j + (1 : Int32)).toNatClampNeg) hI
  refine q_aload_n C (k4 := 1) 1 rfl (by decide +kernel) ?_
  refine q_aload_n C (k4 := 0) 0 rfl (by decide +kernel) ?_
  refine q_iload_n C (k4 := 3) 3 rfl (by decide +kernel) ?_
  refine q_iconst C (n := 1) (v := 1) (by decide) (by decide +kernel) ?_
  refine q_iadd C (by decide +kernel) ?_
  refine q_sld C X (q_ik j 1 L rfl (by omega) hL) (by decide +kernel) ?_
  refine q_callv C Rm (fr' := 7) (lo' := 180) (mc' := 0) (ms' := 0) (sz' := z) (h' := h1) (rv := some (.int r)) (As := [.int (xs (nI j + (1 : Int32)).toNatClampNeg)]) (rest := []) Y_X11_ruled Yv_X11_ruled mL_135 (by decide) ⟨by omega, by omega⟩ (c_X11_ruled _ _ _ _ _ _ _ _ e1) hx1 rfl rfl (Nat.le_of_ble_eq_true rfl) (by decide +kernel) (fun _ => ?_)
  show q_V Γ z (cells + 0) (slots + 0) h1 [(0, .ref b), (1, .ref x), (2, .ref m), (3, .int (nI j))] [.int r] 998
  refine q_aload_n C (k4 := 2) 2 rfl (by decide +kernel) ?_
  refine q_aload_n C (k4 := 0) 0 rfl (by decide +kernel) ?_
  refine q_iload_n C (k4 := 3) 3 rfl (by decide +kernel) ?_
  refine q_iconst C (n := 1) (v := 1) (by decide) (by decide +kernel) ?_
  refine q_iadd C (by decide +kernel) ?_
  refine q_sld C X (q_ik j 1 L rfl (by omega) hL) (by decide +kernel) ?_
  refine q_callv C Rm (fr' := 8) (lo' := 189) (mc' := 0) (ms' := 0) (sz' := z) (h' := h2) (rv := some (.int r)) (As := [.int (xs (nI j + (1 : Int32)).toNatClampNeg)]) (rest := [.int r]) Y_X12_ruled Yv_X12_ruled mL_138 (by decide) ⟨by omega, by omega⟩ (c_X12_ruled _ _ _ _ _ _ _ _ e2) hm2 rfl rfl (Nat.le_of_ble_eq_true rfl) (by decide +kernel) (fun _ => ?_)
  show q_V Γ z (cells + 0 + 0) (slots + 0 + 0) h2 [(0, .ref b), (1, .ref x), (2, .ref m), (3, .int (nI j))] [.int r, .int r] 1007
  refine q_icmp_eq C (off := 173) 1180 (α := Unit) (A := some ()) (B := none) (ρ := ()) (by rw [if_pos rfl]) (by decide +kernel) (by decide) (fun _ _ => ?_) (fun q _ => absurd rfl q)
  exact kk _ _ _ _ hI2 (by omega) (by omega)
set_option maxRecDepth 20000 in
set_option maxHeartbeats 1000000 in
/-- look -/
theorem law_30 {Γ : q_G} {z cells slots b x m j L : Nat} {h : q_H} {xs : Nat → Int32} {Inv : Nat → q_H → Prop} (C : q_C Γ cL_law RL) (Rm : q_Rm Γ 4 15 568 600000 7302250) (X : q_X Γ b L xs) (hL : L ≤ 3072) (hj : j + 6 ≤ L) (St : q_steps x m Inv) (hI : Inv z h) (hc : cells + 8 ≤ 600000 ∧ slots + 2010 ≤ 7302250) (kk : ∀ z1 h1 c1 s1, Inv z1 h1 → c1 ≤ cells + 8 → s1 ≤ slots + 2010 → q_V Γ z1 c1 s1 h1 [(0, .ref b), (1, .ref x), (2, .ref m), (3, .int (nI j))] [] 1180) : q_V Γ z cells slots h [(0, .ref b), (1, .ref x), (2, .ref m), (3, .int (nI j))] [] 1012 := by
  obtain ⟨hx1, hm1⟩ := St.1 z h hI
  obtain ⟨r, h1, h2, e1, hm2, e2, hI2⟩ := St.2.2.2.2.2.2.2.2.2.2.2.2.2.2.2.2.2.2.2.2.2.2.2.2.2.2.2.2.2.2.2.1 z h (xs (nI j + (1 : Int32)).toNatClampNeg) hI
  refine q_aload_n C (k4 := 1) 1 rfl (by decide +kernel) ?_
  refine q_aload_n C (k4 := 0) 0 rfl (by decide +kernel) ?_
  refine q_iload_n C (k4 := 3) 3 rfl (by decide +kernel) ?_
  refine q_iconst C (n := 1) (v := 1) (by decide) (by decide +kernel) ?_
  refine q_iadd C (by decide +kernel) ?_
  refine q_sld C X (q_ik j 1 L rfl (by omega) hL) (by decide +kernel) ?_
  refine q_callv C Rm (fr' := 7) (lo' := 182) (mc' := 0) (ms' := 0) (sz' := z) (h' := h1) (rv := some (.int r)) (As := [.int (xs (nI j + (1 : Int32)).toNatClampNeg)]) (rest := []) Y_X11_look Yv_X11_look mL_139 (by decide) ⟨by omega, by omega⟩ (c_X11_look _ _ _ _ _ _ _ _ e1) hx1 rfl rfl (Nat.le_of_ble_eq_true rfl) (by decide +kernel) (fun _ => ?_)
  show q_V Γ z (cells + 0) (slots + 0) h1 [(0, .ref b), (1, .ref x), (2, .ref m), (3, .int (nI j))] [.int r] 1021
  refine q_aload_n C (k4 := 2) 2 rfl (by decide +kernel) ?_
  refine q_aload_n C (k4 := 0) 0 rfl (by decide +kernel) ?_
  refine q_iload_n C (k4 := 3) 3 rfl (by decide +kernel) ?_
  refine q_iconst C (n := 1) (v := 1) (by decide) (by decide +kernel) ?_
  refine q_iadd C (by decide +kernel) ?_
  refine q_sld C X (q_ik j 1 L rfl (by omega) hL) (by decide +kernel) ?_
  refine q_callv C Rm (fr' := 8) (lo' := 189) (mc' := 0) (ms' := 0) (sz' := z) (h' := h2) (rv := some (.int r)) (As := [.int (xs (nI j + (1 : Int32)).toNatClampNeg)]) (rest := [.int r]) Y_X12_look Yv_X12_look mL_142 (by decide) ⟨by omega, by omega⟩ (c_X12_look _ _ _ _ _ _ _ _ e2) hm2 rfl rfl (Nat.le_of_ble_eq_true rfl) (by decide +kernel) (fun _ => ?_)
  show q_V Γ z (cells + 0 + 0) (slots + 0 + 0) h2 [(0, .ref b), (1, .ref x), (2, .ref m), (3, .int (nI j))] [.int r, .int r] 1030
  refine q_icmp_eq C (off := 150) 1180 (α := Unit) (A := some ()) (B := none) (ρ := ()) (by rw [if_pos rfl]) (by decide +kernel) (by decide) (fun _ _ => ?_) (fun q _ => absurd rfl q)
  exact kk _ _ _ _ hI2 (by omega) (by omega)
set_option maxRecDepth 20000 in
set_option maxHeartbeats 1000000 in
/-- seed -/
theorem law_31 {Γ : q_G} {z cells slots b x m j L : Nat} {h : q_H} {xs : Nat → Int32} {Inv : Nat → q_H → Prop} (C : q_C Γ cL_law RL) (Rm : q_Rm Γ 4 15 568 600000 7302250) (X : q_X Γ b L xs) (hL : L ≤ 3072) (hj : j + 6 ≤ L) (St : q_steps x m Inv) (hI : Inv z h) (hc : cells + 8 ≤ 600000 ∧ slots + 2010 ≤ 7302250) (kk : ∀ z1 h1 c1 s1, Inv z1 h1 → c1 ≤ cells + 8 → s1 ≤ slots + 2010 → q_V Γ z1 c1 s1 h1 [(0, .ref b), (1, .ref x), (2, .ref m), (3, .int (nI j))] [] 1180) : q_V Γ z cells slots h [(0, .ref b), (1, .ref x), (2, .ref m), (3, .int (nI j))] [] 1035 := by
  obtain ⟨hx1, hm1⟩ := St.1 z h hI
  obtain ⟨r, h1, h2, e1, hm2, e2, hI2⟩ := St.2.2.2.2.2.2.2.2.2.2.2.2.2.2.2.2.2.2.2.2.2.2.2.2.2.2.2.2.2.2.2.2.1 z h (xs (nI j + (1 : Int32)).toNatClampNeg) hI
  refine q_aload_n C (k4 := 1) 1 rfl (by decide +kernel) ?_
  refine q_aload_n C (k4 := 0) 0 rfl (by decide +kernel) ?_
  refine q_iload_n C (k4 := 3) 3 rfl (by decide +kernel) ?_
  refine q_iconst C (n := 1) (v := 1) (by decide) (by decide +kernel) ?_
  refine q_iadd C (by decide +kernel) ?_
  refine q_sld C X (q_ik j 1 L rfl (by omega) hL) (by decide +kernel) ?_
  refine q_callv C Rm (fr' := 0) (lo' := 0) (mc' := 0) (ms' := 0) (sz' := z) (h' := h1) (rv := some (.int r)) (As := [.int (xs (nI j + (1 : Int32)).toNatClampNeg)]) (rest := []) Y_X11_seed Yv_X11_seed mL_143 (by decide) ⟨by omega, by omega⟩ (c_X11_seed _ _ _ _ _ _ _ _ e1) hx1 rfl rfl (Nat.le_of_ble_eq_true rfl) (by decide +kernel) (fun _ => ?_)
  show q_V Γ z (cells + 0) (slots + 0) h1 [(0, .ref b), (1, .ref x), (2, .ref m), (3, .int (nI j))] [.int r] 1044
  refine q_aload_n C (k4 := 2) 2 rfl (by decide +kernel) ?_
  refine q_aload_n C (k4 := 0) 0 rfl (by decide +kernel) ?_
  refine q_iload_n C (k4 := 3) 3 rfl (by decide +kernel) ?_
  refine q_iconst C (n := 1) (v := 1) (by decide) (by decide +kernel) ?_
  refine q_iadd C (by decide +kernel) ?_
  refine q_sld C X (q_ik j 1 L rfl (by omega) hL) (by decide +kernel) ?_
  refine q_callv C Rm (fr' := 0) (lo' := 0) (mc' := 0) (ms' := 0) (sz' := z) (h' := h2) (rv := some (.int r)) (As := [.int (xs (nI j + (1 : Int32)).toNatClampNeg)]) (rest := [.int r]) Y_X12_seed Yv_X12_seed mL_146 (by decide) ⟨by omega, by omega⟩ (c_X12_seed _ _ _ _ _ _ _ _ e2) hm2 rfl rfl (Nat.le_of_ble_eq_true rfl) (by decide +kernel) (fun _ => ?_)
  show q_V Γ z (cells + 0 + 0) (slots + 0 + 0) h2 [(0, .ref b), (1, .ref x), (2, .ref m), (3, .int (nI j))] [.int r, .int r] 1053
  refine q_icmp_eq C (off := 127) 1180 (α := Unit) (A := some ()) (B := none) (ρ := ()) (by rw [if_pos rfl]) (by decide +kernel) (by decide) (fun _ _ => ?_) (fun q _ => absurd rfl q)
  exact kk _ _ _ _ hI2 (by omega) (by omega)
set_option maxRecDepth 20000 in
set_option maxHeartbeats 1000000 in
/-- rain -/
theorem law_32 {Γ : q_G} {z cells slots b x m j L : Nat} {h : q_H} {xs : Nat → Int32} {Inv : Nat → q_H → Prop} (C : q_C Γ cL_law RL) (Rm : q_Rm Γ 4 15 568 600000 7302250) (X : q_X Γ b L xs) (hL : L ≤ 3072) (hj : j + 6 ≤ L) (St : q_steps x m Inv) (hI : Inv z h) (hc : cells + 8 ≤ 600000 ∧ slots + 2010 ≤ 7302250) (kk : ∀ z1 h1 c1 s1, Inv z1 h1 → c1 ≤ cells + 8 → s1 ≤ slots + 2010 → q_V Γ z1 c1 s1 h1 [(0, .ref b), (1, .ref x), (2, .ref m), (3, .int (nI j))] [] 1180) : q_V Γ z cells slots h [(0, .ref b), (1, .ref x), (2, .ref m), (3, .int (nI j))] [] 1058 := by
  obtain ⟨hx1, hm1⟩ := St.1 z h hI
  obtain ⟨r, h1, h2, e1, hm2, e2, hI2⟩ := St.2.2.2.2.2.2.2.2.2.2.2.2.2.2.2.2.2.2.2.2.2.2.2.2.2.2.2.2.2.2.2.2.2.1 z h (xs (nI j + (1 : Int32)).toNatClampNeg) (xs (nI j + (2 : Int32)).toNatClampNeg) (xs (nI j + (3 : Int32)).toNatClampNeg) (xs (nI j + (4 : Int32)).toNatClampNeg) hI
  refine q_aload_n C (k4 := 1) 1 rfl (by decide +kernel) ?_
  refine q_aload_n C (k4 := 0) 0 rfl (by decide +kernel) ?_
  refine q_iload_n C (k4 := 3) 3 rfl (by decide +kernel) ?_
  refine q_iconst C (n := 1) (v := 1) (by decide) (by decide +kernel) ?_
  refine q_iadd C (by decide +kernel) ?_
  refine q_sld C X (q_ik j 1 L rfl (by omega) hL) (by decide +kernel) ?_
  refine q_aload_n C (k4 := 0) 0 rfl (by decide +kernel) ?_
  refine q_iload_n C (k4 := 3) 3 rfl (by decide +kernel) ?_
  refine q_iconst C (n := 2) (v := 2) (by decide) (by decide +kernel) ?_
  refine q_iadd C (by decide +kernel) ?_
  refine q_sld C X (q_ik j 2 L rfl (by omega) hL) (by decide +kernel) ?_
  refine q_aload_n C (k4 := 0) 0 rfl (by decide +kernel) ?_
  refine q_iload_n C (k4 := 3) 3 rfl (by decide +kernel) ?_
  refine q_iconst C (n := 3) (v := 3) (by decide) (by decide +kernel) ?_
  refine q_iadd C (by decide +kernel) ?_
  refine q_sld C X (q_ik j 3 L rfl (by omega) hL) (by decide +kernel) ?_
  refine q_aload_n C (k4 := 0) 0 rfl (by decide +kernel) ?_
  refine q_iload_n C (k4 := 3) 3 rfl (by decide +kernel) ?_
  refine q_iconst C (n := 4) (v := 4) (by decide) (by decide +kernel) ?_
  refine q_iadd C (by decide +kernel) ?_
  refine q_sld C X (q_ik j 4 L rfl (by omega) hL) (by decide +kernel) ?_
  refine q_callv C Rm (fr' := 6) (lo' := 160) (mc' := 0) (ms' := 0) (sz' := z) (h' := h1) (rv := some (.int r)) (As := [.int (xs (nI j + (1 : Int32)).toNatClampNeg), .int (xs (nI j + (2 : Int32)).toNatClampNeg), .int (xs (nI j + (3 : Int32)).toNatClampNeg), .int (xs (nI j + (4 : Int32)).toNatClampNeg)]) (rest := []) Y_X11_rain Yv_X11_rain mL_147 (by decide) ⟨by omega, by omega⟩ (c_X11_rain _ _ _ _ _ _ _ _ _ _ _ e1) hx1 rfl rfl (Nat.le_of_ble_eq_true rfl) (by decide +kernel) (fun _ => ?_)
  show q_V Γ z (cells + 0) (slots + 0) h1 [(0, .ref b), (1, .ref x), (2, .ref m), (3, .int (nI j))] [.int r] 1082
  refine q_aload_n C (k4 := 2) 2 rfl (by decide +kernel) ?_
  refine q_aload_n C (k4 := 0) 0 rfl (by decide +kernel) ?_
  refine q_iload_n C (k4 := 3) 3 rfl (by decide +kernel) ?_
  refine q_iconst C (n := 1) (v := 1) (by decide) (by decide +kernel) ?_
  refine q_iadd C (by decide +kernel) ?_
  refine q_sld C X (q_ik j 1 L rfl (by omega) hL) (by decide +kernel) ?_
  refine q_aload_n C (k4 := 0) 0 rfl (by decide +kernel) ?_
  refine q_iload_n C (k4 := 3) 3 rfl (by decide +kernel) ?_
  refine q_iconst C (n := 2) (v := 2) (by decide) (by decide +kernel) ?_
  refine q_iadd C (by decide +kernel) ?_
  refine q_sld C X (q_ik j 2 L rfl (by omega) hL) (by decide +kernel) ?_
  refine q_aload_n C (k4 := 0) 0 rfl (by decide +kernel) ?_
  refine q_iload_n C (k4 := 3) 3 rfl (by decide +kernel) ?_
  refine q_iconst C (n := 3) (v := 3) (by decide) (by decide +kernel) ?_
  refine q_iadd C (by decide +kernel) ?_
  refine q_sld C X (q_ik j 3 L rfl (by omega) hL) (by decide +kernel) ?_
  refine q_aload_n C (k4 := 0) 0 rfl (by decide +kernel) ?_
  refine q_iload_n C (k4 := 3) 3 rfl (by decide +kernel) ?_
  refine q_iconst C (n := 4) (v := 4) (by decide) (by decide +kernel) ?_
  refine q_iadd C (by decide +kernel) ?_
  refine q_sld C X (q_ik j 4 L rfl (by omega) hL) (by decide +kernel) ?_
  refine q_callv C Rm (fr' := 6) (lo' := 144) (mc' := 0) (ms' := 0) (sz' := z) (h' := h2) (rv := some (.int r)) (As := [.int (xs (nI j + (1 : Int32)).toNatClampNeg), .int (xs (nI j + (2 : Int32)).toNatClampNeg), .int (xs (nI j + (3 : Int32)).toNatClampNeg), .int (xs (nI j + (4 : Int32)).toNatClampNeg)]) (rest := [.int r]) Y_X12_rain Yv_X12_rain mL_150 (by decide) ⟨by omega, by omega⟩ (c_X12_rain _ _ _ _ _ _ _ _ _ _ _ e2) hm2 rfl rfl (Nat.le_of_ble_eq_true rfl) (by decide +kernel) (fun _ => ?_)
  show q_V Γ z (cells + 0 + 0) (slots + 0 + 0) h2 [(0, .ref b), (1, .ref x), (2, .ref m), (3, .int (nI j))] [.int r, .int r] 1106
  refine q_icmp_eq C (off := 74) 1180 (α := Unit) (A := some ()) (B := none) (ρ := ()) (by rw [if_pos rfl]) (by decide +kernel) (by decide) (fun _ _ => ?_) (fun q _ => absurd rfl q)
  exact kk _ _ _ _ hI2 (by omega) (by omega)
set_option maxRecDepth 20000 in
set_option maxHeartbeats 1000000 in
/-- count -/
theorem law_33 {Γ : q_G} {z cells slots b x m j L : Nat} {h : q_H} {xs : Nat → Int32} {Inv : Nat → q_H → Prop} (C : q_C Γ cL_law RL) (Rm : q_Rm Γ 4 15 568 600000 7302250) (X : q_X Γ b L xs) (hL : L ≤ 3072) (hj : j + 6 ≤ L) (St : q_steps x m Inv) (hI : Inv z h) (hc : cells + 8 ≤ 600000 ∧ slots + 2010 ≤ 7302250) (kk : ∀ z1 h1 c1 s1, Inv z1 h1 → c1 ≤ cells + 8 → s1 ≤ slots + 2010 → q_V Γ z1 c1 s1 h1 [(0, .ref b), (1, .ref x), (2, .ref m), (3, .int (nI j))] [] 1180) : q_V Γ z cells slots h [(0, .ref b), (1, .ref x), (2, .ref m), (3, .int (nI j))] [] 1111 := by
  obtain ⟨hx1, hm1⟩ := St.1 z h hI
  obtain ⟨r, e1, hm2, e2, hI2⟩ := St.2.2.2.2.2.2.2.2.2.2.2.2.2.2.2.2.2.2.2.2.2.2.2.2.2.2.2.2.2.2.2.2.2.2.1 z h (xs (nI j + (1 : Int32)).toNatClampNeg) hI
  refine q_aload_n C (k4 := 1) 1 rfl (by decide +kernel) ?_
  refine q_aload_n C (k4 := 0) 0 rfl (by decide +kernel) ?_
  refine q_iload_n C (k4 := 3) 3 rfl (by decide +kernel) ?_
  refine q_iconst C (n := 1) (v := 1) (by decide) (by decide +kernel) ?_
  refine q_iadd C (by decide +kernel) ?_
  refine q_sld C X (q_ik j 1 L rfl (by omega) hL) (by decide +kernel) ?_
  refine q_callv C Rm (fr' := 1) (lo' := 24) (mc' := 0) (ms' := 0) (sz' := z) (h' := h) (rv := some (.int r)) (As := [.int (xs (nI j + (1 : Int32)).toNatClampNeg)]) (rest := []) Y_X11_count Yv_X11_count mL_151 (by decide) ⟨by omega, by omega⟩ (c_X11_count _ _ _ _ _ _ _ _ e1) hx1 rfl rfl (Nat.le_of_ble_eq_true rfl) (by decide +kernel) (fun _ => ?_)
  show q_V Γ z (cells + 0) (slots + 0) h [(0, .ref b), (1, .ref x), (2, .ref m), (3, .int (nI j))] [.int r] 1120
  refine q_aload_n C (k4 := 2) 2 rfl (by decide +kernel) ?_
  refine q_aload_n C (k4 := 0) 0 rfl (by decide +kernel) ?_
  refine q_iload_n C (k4 := 3) 3 rfl (by decide +kernel) ?_
  refine q_iconst C (n := 1) (v := 1) (by decide) (by decide +kernel) ?_
  refine q_iadd C (by decide +kernel) ?_
  refine q_sld C X (q_ik j 1 L rfl (by omega) hL) (by decide +kernel) ?_
  refine q_callv C Rm (fr' := 3) (lo' := 64) (mc' := 0) (ms' := 0) (sz' := z) (h' := h) (rv := some (.int r)) (As := [.int (xs (nI j + (1 : Int32)).toNatClampNeg)]) (rest := [.int r]) Y_X12_count Yv_X12_count mL_154 (by decide) ⟨by omega, by omega⟩ (c_X12_count _ _ _ _ _ _ _ _ e2) hm2 rfl rfl (Nat.le_of_ble_eq_true rfl) (by decide +kernel) (fun _ => ?_)
  show q_V Γ z (cells + 0 + 0) (slots + 0 + 0) h [(0, .ref b), (1, .ref x), (2, .ref m), (3, .int (nI j))] [.int r, .int r] 1129
  refine q_icmp_eq C (off := 51) 1180 (α := Unit) (A := some ()) (B := none) (ρ := ()) (by rw [if_pos rfl]) (by decide +kernel) (by decide) (fun _ _ => ?_) (fun q _ => absurd rfl q)
  exact kk _ _ _ _ hI2 (by omega) (by omega)
set_option maxRecDepth 20000 in
set_option maxHeartbeats 1000000 in
/-- image -/
theorem law_34 {Γ : q_G} {z cells slots b x m j L : Nat} {h : q_H} {xs : Nat → Int32} {Inv : Nat → q_H → Prop} (C : q_C Γ cL_law RL) (Rm : q_Rm Γ 4 15 568 600000 7302250) (X : q_X Γ b L xs) (hL : L ≤ 3072) (hj : j + 6 ≤ L) (St : q_steps x m Inv) (hI : Inv z h) (hc : cells + 8 ≤ 600000 ∧ slots + 2010 ≤ 7302250) (kk : ∀ z1 h1 c1 s1, Inv z1 h1 → c1 ≤ cells + 8 → s1 ≤ slots + 2010 → q_V Γ z1 c1 s1 h1 [(0, .ref b), (1, .ref x), (2, .ref m), (3, .int (nI j))] [] 1180) : q_V Γ z cells slots h [(0, .ref b), (1, .ref x), (2, .ref m), (3, .int (nI j))] [] 1134 := by
  obtain ⟨hx1, hm1⟩ := St.1 z h hI
  obtain ⟨r, z1, h1, h2, e1, hm2, e2, hI2⟩ := St.2.2.2.2.2.2.2.2.2.2.2.2.2.2.2.2.2.2.2.2.2.2.2.2.2.2.2.2.2.2.2.2.2.2.2.1 z h (xs (nI j + (1 : Int32)).toNatClampNeg) hI
  refine q_aload_n C (k4 := 1) 1 rfl (by decide +kernel) ?_
  refine q_aload_n C (k4 := 0) 0 rfl (by decide +kernel) ?_
  refine q_iload_n C (k4 := 3) 3 rfl (by decide +kernel) ?_
  refine q_iconst C (n := 1) (v := 1) (by decide) (by decide +kernel) ?_
  refine q_iadd C (by decide +kernel) ?_
  refine q_sld C X (q_ik j 1 L rfl (by omega) hL) (by decide +kernel) ?_
  refine q_callv C Rm (fr' := 5) (lo' := 122) (mc' := 8) (ms' := 66) (sz' := z1) (h' := h1) (rv := some (.int r)) (As := [.int (xs (nI j + (1 : Int32)).toNatClampNeg)]) (rest := []) Y_X11_image Yv_X11_image mL_155 (by decide) ⟨by omega, by omega⟩ (c_X11_image _ _ _ _ _ _ _ _ e1) hx1 rfl rfl (Nat.le_of_ble_eq_true rfl) (by decide +kernel) (fun _ => ?_)
  show q_V Γ z1 (cells + 8) (slots + 66) h1 [(0, .ref b), (1, .ref x), (2, .ref m), (3, .int (nI j))] [.int r] 1143
  refine q_aload_n C (k4 := 2) 2 rfl (by decide +kernel) ?_
  refine q_aload_n C (k4 := 0) 0 rfl (by decide +kernel) ?_
  refine q_iload_n C (k4 := 3) 3 rfl (by decide +kernel) ?_
  refine q_iconst C (n := 1) (v := 1) (by decide) (by decide +kernel) ?_
  refine q_iadd C (by decide +kernel) ?_
  refine q_sld C X (q_ik j 1 L rfl (by omega) hL) (by decide +kernel) ?_
  refine q_callv C Rm (fr' := 1) (lo' := 25) (mc' := 0) (ms' := 0) (sz' := z1) (h' := h2) (rv := some (.int r)) (As := [.int (xs (nI j + (1 : Int32)).toNatClampNeg)]) (rest := [.int r]) Y_X12_image Yv_X12_image mL_158 (by decide) ⟨by omega, by omega⟩ (c_X12_image _ _ _ _ _ _ _ _ e2) hm2 rfl rfl (Nat.le_of_ble_eq_true rfl) (by decide +kernel) (fun _ => ?_)
  show q_V Γ z1 (cells + 8 + 0) (slots + 66 + 0) h2 [(0, .ref b), (1, .ref x), (2, .ref m), (3, .int (nI j))] [.int r, .int r] 1152
  refine q_icmp_eq C (off := 28) 1180 (α := Unit) (A := some ()) (B := none) (ρ := ()) (by rw [if_pos rfl]) (by decide +kernel) (by decide) (fun _ _ => ?_) (fun q _ => absurd rfl q)
  exact kk _ _ _ _ hI2 (by omega) (by omega)
set_option maxRecDepth 20000 in
set_option maxHeartbeats 1000000 in
/-- back -/
theorem law_35 {Γ : q_G} {z cells slots b x m j L : Nat} {h : q_H} {xs : Nat → Int32} {Inv : Nat → q_H → Prop} (C : q_C Γ cL_law RL) (Rm : q_Rm Γ 4 15 568 600000 7302250) (X : q_X Γ b L xs) (hL : L ≤ 3072) (hj : j + 6 ≤ L) (St : q_steps x m Inv) (hI : Inv z h) (hc : cells + 8 ≤ 600000 ∧ slots + 2010 ≤ 7302250) (kk : ∀ z1 h1 c1 s1, Inv z1 h1 → c1 ≤ cells + 8 → s1 ≤ slots + 2010 → q_V Γ z1 c1 s1 h1 [(0, .ref b), (1, .ref x), (2, .ref m), (3, .int (nI j))] [] 1180) : q_V Γ z cells slots h [(0, .ref b), (1, .ref x), (2, .ref m), (3, .int (nI j))] [] 1157 := by
  obtain ⟨hx1, hm1⟩ := St.1 z h hI
  obtain ⟨r, h1, h2, e1, hm2, e2, hI2⟩ := St.2.2.2.2.2.2.2.2.2.2.2.2.2.2.2.2.2.2.2.2.2.2.2.2.2.2.2.2.2.2.2.2.2.2.2.2 z h (xs (nI j + (1 : Int32)).toNatClampNeg) hI
  refine q_aload_n C (k4 := 1) 1 rfl (by decide +kernel) ?_
  refine q_aload_n C (k4 := 0) 0 rfl (by decide +kernel) ?_
  refine q_iload_n C (k4 := 3) 3 rfl (by decide +kernel) ?_
  refine q_iconst C (n := 1) (v := 1) (by decide) (by decide +kernel) ?_
  refine q_iadd C (by decide +kernel) ?_
  refine q_sld C X (q_ik j 1 L rfl (by omega) hL) (by decide +kernel) ?_
  refine q_callv C Rm (fr' := 5) (lo' := 122) (mc' := 0) (ms' := 0) (sz' := z) (h' := h1) (rv := some (.int r)) (As := [.int (xs (nI j + (1 : Int32)).toNatClampNeg)]) (rest := []) Y_X11_back Yv_X11_back mL_159 (by decide) ⟨by omega, by omega⟩ (c_X11_back _ _ _ _ _ _ _ _ e1) hx1 rfl rfl (Nat.le_of_ble_eq_true rfl) (by decide +kernel) (fun _ => ?_)
  show q_V Γ z (cells + 0) (slots + 0) h1 [(0, .ref b), (1, .ref x), (2, .ref m), (3, .int (nI j))] [.int r] 1166
  refine q_aload_n C (k4 := 2) 2 rfl (by decide +kernel) ?_
  refine q_aload_n C (k4 := 0) 0 rfl (by decide +kernel) ?_
  refine q_iload_n C (k4 := 3) 3 rfl (by decide +kernel) ?_
  refine q_iconst C (n := 1) (v := 1) (by decide) (by decide +kernel) ?_
  refine q_iadd C (by decide +kernel) ?_
  refine q_sld C X (q_ik j 1 L rfl (by omega) hL) (by decide +kernel) ?_
  refine q_callv C Rm (fr' := 1) (lo' := 25) (mc' := 0) (ms' := 0) (sz' := z) (h' := h2) (rv := some (.int r)) (As := [.int (xs (nI j + (1 : Int32)).toNatClampNeg)]) (rest := [.int r]) Y_X12_back Yv_X12_back mL_162 (by decide) ⟨by omega, by omega⟩ (c_X12_back _ _ _ _ _ _ _ _ e2) hm2 rfl rfl (Nat.le_of_ble_eq_true rfl) (by decide +kernel) (fun _ => ?_)
  show q_V Γ z (cells + 0 + 0) (slots + 0 + 0) h2 [(0, .ref b), (1, .ref x), (2, .ref m), (3, .int (nI j))] [.int r, .int r] 1175
  refine q_icmp_eq C (off := 5) 1180 (α := Unit) (A := some ()) (B := none) (ρ := ()) (by rw [if_pos rfl]) (by decide +kernel) (by decide) (fun _ _ => ?_) (fun q _ => absurd rfl q)
  exact kk _ _ _ _ hI2 (by omega) (by omega)
set_option maxRecDepth 20000 in
set_option maxHeartbeats 4000000 in
theorem law_loop {Γ : q_G} {b x m L : Nat} {xs : Nat → Int32} {Inv : Nat → q_H → Prop} (C : q_C Γ cL_law RL) (Rm : q_Rm Γ 4 15 568 600000 7302250) (X : q_X Γ b L xs) (hL : L ≤ 3072) (St : q_steps x m Inv) (K : ∀ (j : Nat) z h cells slots, cells ≤ 600000 → slots ≤ 7302250 → q_V Γ z cells slots h [(0, .ref b), (1, .ref x), (2, .ref m), (3, .int (nI j))] [.int 1] 1187) :
    ∀ (n j z cells slots : Nat) (h : q_H), j ≤ 3078 → L ≤ j + 6 * n → n ≤ 600 → cells + 8 * n ≤ 600000 → slots + 2010 * n ≤ 7302250 → Inv z h → q_V Γ z cells slots h [(0, .ref b), (1, .ref x), (2, .ref m), (3, .int (nI j))] [] 18 := by
  intro n
  induction n with
  | zero =>
    intro j z cells slots h hj0 hjn hn hc hs hI
    refine q_iload_n C (k4 := 3) 3 rfl (by decide +kernel) ?_
    refine q_aload_n C (k4 := 0) 0 rfl (by decide +kernel) ?_
    refine q_slen C X (by decide +kernel) ?_
    refine q_bipush C (n := 6) (v := 6) (by decide) (by decide +kernel) ?_
    refine q_isub C (by decide +kernel) ?_
    refine q_icmp_gt C (off := 1162) 1186 (α := Unit) (A := some ()) (B := none) (ρ := ()) (by rw [if_pos (q_lgt j L hj0 hL (by omega))]) (by decide +kernel) (by decide) (fun _ _ => ?_) (fun q _ => absurd (q_lgt j L hj0 hL (by omega)) q)
    refine q_iconst C (n := 1) (v := 1) (by decide) (by decide +kernel) ?_
    refine q_loc [0, 1, 2, 3] rfl ?_
    exact K j z h cells slots (by omega) (by omega)
  | succ n ih =>
    intro j z cells slots h hj0 hjn hn hc hs hI
    refine q_iload_n C (k4 := 3) 3 rfl (by decide +kernel) ?_
    refine q_aload_n C (k4 := 0) 0 rfl (by decide +kernel) ?_
    refine q_slen C X (by decide +kernel) ?_
    refine q_bipush C (n := 6) (v := 6) (by decide) (by decide +kernel) ?_
    refine q_isub C (by decide +kernel) ?_
    by_cases hgt : L < j + 6
    · refine q_icmp_gt C (off := 1162) 1186 (α := Unit) (A := some ()) (B := none) (ρ := ()) (by rw [if_pos (q_lgt j L hj0 hL hgt)]) (by decide +kernel) (by decide) (fun _ _ => ?_) (fun q _ => absurd (q_lgt j L hj0 hL hgt) q)
      refine q_iconst C (n := 1) (v := 1) (by decide) (by decide +kernel) ?_
      exact K j z h cells slots (by omega) (by omega)
    have hj : j + 6 ≤ L := Nat.not_lt.mp hgt
    refine q_icmp_gt C (off := 1162) 1186 (α := Unit) (A := none) (B := some ()) (ρ := ()) (by rw [if_neg (q_lle j L hL hj)]) (by decide +kernel) (by decide) (fun q _ => absurd q (q_lle j L hL hj)) (fun _ _ => ?_)
    have next : ∀ z1 h1 c1 s1, Inv z1 h1 → c1 ≤ cells + 8 → s1 ≤ slots + 2010 → q_V Γ z1 c1 s1 h1 [(0, .ref b), (1, .ref x), (2, .ref m), (3, .int (nI j))] [] 1180 := by
      intro z1 h1 c1 s1 hI1 hc1 hs1
      refine q_iinc C Rm.1 (i := 3) (n := 6) (v := nI (j + 6)) 3 rfl (q_i6 j) (lv' := [(3, .int (nI (j + 6))), (0, .ref b), (1, .ref x), (2, .ref m)]) rfl (by decide) (by decide +kernel) ?_
      refine q_loc [1, 2, 3, 0] rfl ?_
      refine q_goto C (off := -1165) 18 (by decide +kernel) (by decide) ?_
      exact ih (j + 6) z1 c1 s1 h1 (by omega) (by omega) (by omega) (by omega) (by omega) hI1
    refine q_aload_n C (k4 := 0) 0 rfl (by decide +kernel) ?_
    refine q_iload_n C (k4 := 3) 3 rfl (by decide +kernel) ?_
    refine q_sld C X (vp_in_nI (show j < L by omega) (by omega)) (by decide +kernel) ?_
    refine q_bipush C (n := 63) (v := 63) (by decide) (by decide +kernel) ?_
    refine q_iand C (by decide +kernel) ?_
    generalize (xs (nI j).toNatClampNeg &&& 63) = e
    by_cases c0 : e = 0
    · refine q_tsIn C (dflt := 1147) (lo := 0) (hi := 35) (offs := #[159, 222, 245, 258, 271, 294, 327, 340, 353, 376, 399, 432, 455, 468, 491, 514, 537, 560, 573, 616, 639, 682, 715, 748, 781, 814, 867, 890, 923, 956, 979, 1002, 1025, 1078, 1101, 1124]) (len := 159) (159) 192 (by decide +kernel) (by rw [c0]; decide) (by rw [c0]; decide) (by rw [c0]; decide) (by decide) ?_
      exact law_0 C Rm X hL hj St hI ⟨by omega, by omega⟩ next
    by_cases c1 : e = 1
    · refine q_tsIn C (dflt := 1147) (lo := 0) (hi := 35) (offs := #[159, 222, 245, 258, 271, 294, 327, 340, 353, 376, 399, 432, 455, 468, 491, 514, 537, 560, 573, 616, 639, 682, 715, 748, 781, 814, 867, 890, 923, 956, 979, 1002, 1025, 1078, 1101, 1124]) (len := 159) (222) 255 (by decide +kernel) (by rw [c1]; decide) (by rw [c1]; decide) (by rw [c1]; decide) (by decide) ?_
      exact law_1 C Rm X hL hj St hI ⟨by omega, by omega⟩ next
    by_cases c2 : e = 2
    · refine q_tsIn C (dflt := 1147) (lo := 0) (hi := 35) (offs := #[159, 222, 245, 258, 271, 294, 327, 340, 353, 376, 399, 432, 455, 468, 491, 514, 537, 560, 573, 616, 639, 682, 715, 748, 781, 814, 867, 890, 923, 956, 979, 1002, 1025, 1078, 1101, 1124]) (len := 159) (245) 278 (by decide +kernel) (by rw [c2]; decide) (by rw [c2]; decide) (by rw [c2]; decide) (by decide) ?_
      exact law_2 C Rm X hL hj St hI ⟨by omega, by omega⟩ next
    by_cases c3 : e = 3
    · refine q_tsIn C (dflt := 1147) (lo := 0) (hi := 35) (offs := #[159, 222, 245, 258, 271, 294, 327, 340, 353, 376, 399, 432, 455, 468, 491, 514, 537, 560, 573, 616, 639, 682, 715, 748, 781, 814, 867, 890, 923, 956, 979, 1002, 1025, 1078, 1101, 1124]) (len := 159) (258) 291 (by decide +kernel) (by rw [c3]; decide) (by rw [c3]; decide) (by rw [c3]; decide) (by decide) ?_
      exact law_3 C Rm X hL hj St hI ⟨by omega, by omega⟩ next
    by_cases c4 : e = 4
    · refine q_tsIn C (dflt := 1147) (lo := 0) (hi := 35) (offs := #[159, 222, 245, 258, 271, 294, 327, 340, 353, 376, 399, 432, 455, 468, 491, 514, 537, 560, 573, 616, 639, 682, 715, 748, 781, 814, 867, 890, 923, 956, 979, 1002, 1025, 1078, 1101, 1124]) (len := 159) (271) 304 (by decide +kernel) (by rw [c4]; decide) (by rw [c4]; decide) (by rw [c4]; decide) (by decide) ?_
      exact law_4 C Rm X hL hj St hI ⟨by omega, by omega⟩ next
    by_cases c5 : e = 5
    · refine q_tsIn C (dflt := 1147) (lo := 0) (hi := 35) (offs := #[159, 222, 245, 258, 271, 294, 327, 340, 353, 376, 399, 432, 455, 468, 491, 514, 537, 560, 573, 616, 639, 682, 715, 748, 781, 814, 867, 890, 923, 956, 979, 1002, 1025, 1078, 1101, 1124]) (len := 159) (294) 327 (by decide +kernel) (by rw [c5]; decide) (by rw [c5]; decide) (by rw [c5]; decide) (by decide) ?_
      exact law_5 C Rm X hL hj St hI ⟨by omega, by omega⟩ next
    by_cases c6 : e = 6
    · refine q_tsIn C (dflt := 1147) (lo := 0) (hi := 35) (offs := #[159, 222, 245, 258, 271, 294, 327, 340, 353, 376, 399, 432, 455, 468, 491, 514, 537, 560, 573, 616, 639, 682, 715, 748, 781, 814, 867, 890, 923, 956, 979, 1002, 1025, 1078, 1101, 1124]) (len := 159) (327) 360 (by decide +kernel) (by rw [c6]; decide) (by rw [c6]; decide) (by rw [c6]; decide) (by decide) ?_
      exact law_6 C Rm X hL hj St hI ⟨by omega, by omega⟩ next
    by_cases c7 : e = 7
    · refine q_tsIn C (dflt := 1147) (lo := 0) (hi := 35) (offs := #[159, 222, 245, 258, 271, 294, 327, 340, 353, 376, 399, 432, 455, 468, 491, 514, 537, 560, 573, 616, 639, 682, 715, 748, 781, 814, 867, 890, 923, 956, 979, 1002, 1025, 1078, 1101, 1124]) (len := 159) (340) 373 (by decide +kernel) (by rw [c7]; decide) (by rw [c7]; decide) (by rw [c7]; decide) (by decide) ?_
      exact law_7 C Rm X hL hj St hI ⟨by omega, by omega⟩ next
    by_cases c8 : e = 8
    · refine q_tsIn C (dflt := 1147) (lo := 0) (hi := 35) (offs := #[159, 222, 245, 258, 271, 294, 327, 340, 353, 376, 399, 432, 455, 468, 491, 514, 537, 560, 573, 616, 639, 682, 715, 748, 781, 814, 867, 890, 923, 956, 979, 1002, 1025, 1078, 1101, 1124]) (len := 159) (353) 386 (by decide +kernel) (by rw [c8]; decide) (by rw [c8]; decide) (by rw [c8]; decide) (by decide) ?_
      exact law_8 C Rm X hL hj St hI ⟨by omega, by omega⟩ next
    by_cases c9 : e = 9
    · refine q_tsIn C (dflt := 1147) (lo := 0) (hi := 35) (offs := #[159, 222, 245, 258, 271, 294, 327, 340, 353, 376, 399, 432, 455, 468, 491, 514, 537, 560, 573, 616, 639, 682, 715, 748, 781, 814, 867, 890, 923, 956, 979, 1002, 1025, 1078, 1101, 1124]) (len := 159) (376) 409 (by decide +kernel) (by rw [c9]; decide) (by rw [c9]; decide) (by rw [c9]; decide) (by decide) ?_
      exact law_9 C Rm X hL hj St hI ⟨by omega, by omega⟩ next
    by_cases c10 : e = 10
    · refine q_tsIn C (dflt := 1147) (lo := 0) (hi := 35) (offs := #[159, 222, 245, 258, 271, 294, 327, 340, 353, 376, 399, 432, 455, 468, 491, 514, 537, 560, 573, 616, 639, 682, 715, 748, 781, 814, 867, 890, 923, 956, 979, 1002, 1025, 1078, 1101, 1124]) (len := 159) (399) 432 (by decide +kernel) (by rw [c10]; decide) (by rw [c10]; decide) (by rw [c10]; decide) (by decide) ?_
      exact law_10 C Rm X hL hj St hI ⟨by omega, by omega⟩ next
    by_cases c11 : e = 11
    · refine q_tsIn C (dflt := 1147) (lo := 0) (hi := 35) (offs := #[159, 222, 245, 258, 271, 294, 327, 340, 353, 376, 399, 432, 455, 468, 491, 514, 537, 560, 573, 616, 639, 682, 715, 748, 781, 814, 867, 890, 923, 956, 979, 1002, 1025, 1078, 1101, 1124]) (len := 159) (432) 465 (by decide +kernel) (by rw [c11]; decide) (by rw [c11]; decide) (by rw [c11]; decide) (by decide) ?_
      exact law_11 C Rm X hL hj St hI ⟨by omega, by omega⟩ next
    by_cases c12 : e = 12
    · refine q_tsIn C (dflt := 1147) (lo := 0) (hi := 35) (offs := #[159, 222, 245, 258, 271, 294, 327, 340, 353, 376, 399, 432, 455, 468, 491, 514, 537, 560, 573, 616, 639, 682, 715, 748, 781, 814, 867, 890, 923, 956, 979, 1002, 1025, 1078, 1101, 1124]) (len := 159) (455) 488 (by decide +kernel) (by rw [c12]; decide) (by rw [c12]; decide) (by rw [c12]; decide) (by decide) ?_
      exact law_12 C Rm X hL hj St hI ⟨by omega, by omega⟩ next
    by_cases c13 : e = 13
    · refine q_tsIn C (dflt := 1147) (lo := 0) (hi := 35) (offs := #[159, 222, 245, 258, 271, 294, 327, 340, 353, 376, 399, 432, 455, 468, 491, 514, 537, 560, 573, 616, 639, 682, 715, 748, 781, 814, 867, 890, 923, 956, 979, 1002, 1025, 1078, 1101, 1124]) (len := 159) (468) 501 (by decide +kernel) (by rw [c13]; decide) (by rw [c13]; decide) (by rw [c13]; decide) (by decide) ?_
      exact law_13 C Rm X hL hj St hI ⟨by omega, by omega⟩ next
    by_cases c14 : e = 14
    · refine q_tsIn C (dflt := 1147) (lo := 0) (hi := 35) (offs := #[159, 222, 245, 258, 271, 294, 327, 340, 353, 376, 399, 432, 455, 468, 491, 514, 537, 560, 573, 616, 639, 682, 715, 748, 781, 814, 867, 890, 923, 956, 979, 1002, 1025, 1078, 1101, 1124]) (len := 159) (491) 524 (by decide +kernel) (by rw [c14]; decide) (by rw [c14]; decide) (by rw [c14]; decide) (by decide) ?_
      exact law_14 C Rm X hL hj St hI ⟨by omega, by omega⟩ next
    by_cases c15 : e = 15
    · refine q_tsIn C (dflt := 1147) (lo := 0) (hi := 35) (offs := #[159, 222, 245, 258, 271, 294, 327, 340, 353, 376, 399, 432, 455, 468, 491, 514, 537, 560, 573, 616, 639, 682, 715, 748, 781, 814, 867, 890, 923, 956, 979, 1002, 1025, 1078, 1101, 1124]) (len := 159) (514) 547 (by decide +kernel) (by rw [c15]; decide) (by rw [c15]; decide) (by rw [c15]; decide) (by decide) ?_
      exact law_15 C Rm X hL hj St hI ⟨by omega, by omega⟩ next
    by_cases c16 : e = 16
    · refine q_tsIn C (dflt := 1147) (lo := 0) (hi := 35) (offs := #[159, 222, 245, 258, 271, 294, 327, 340, 353, 376, 399, 432, 455, 468, 491, 514, 537, 560, 573, 616, 639, 682, 715, 748, 781, 814, 867, 890, 923, 956, 979, 1002, 1025, 1078, 1101, 1124]) (len := 159) (537) 570 (by decide +kernel) (by rw [c16]; decide) (by rw [c16]; decide) (by rw [c16]; decide) (by decide) ?_
      exact law_16 C Rm X hL hj St hI ⟨by omega, by omega⟩ next
    by_cases c17 : e = 17
    · refine q_tsIn C (dflt := 1147) (lo := 0) (hi := 35) (offs := #[159, 222, 245, 258, 271, 294, 327, 340, 353, 376, 399, 432, 455, 468, 491, 514, 537, 560, 573, 616, 639, 682, 715, 748, 781, 814, 867, 890, 923, 956, 979, 1002, 1025, 1078, 1101, 1124]) (len := 159) (560) 593 (by decide +kernel) (by rw [c17]; decide) (by rw [c17]; decide) (by rw [c17]; decide) (by decide) ?_
      exact law_17 C Rm X hL hj St hI ⟨by omega, by omega⟩ next
    by_cases c18 : e = 18
    · refine q_tsIn C (dflt := 1147) (lo := 0) (hi := 35) (offs := #[159, 222, 245, 258, 271, 294, 327, 340, 353, 376, 399, 432, 455, 468, 491, 514, 537, 560, 573, 616, 639, 682, 715, 748, 781, 814, 867, 890, 923, 956, 979, 1002, 1025, 1078, 1101, 1124]) (len := 159) (573) 606 (by decide +kernel) (by rw [c18]; decide) (by rw [c18]; decide) (by rw [c18]; decide) (by decide) ?_
      exact law_18 C Rm X hL hj St hI ⟨by omega, by omega⟩ next
    by_cases c19 : e = 19
    · refine q_tsIn C (dflt := 1147) (lo := 0) (hi := 35) (offs := #[159, 222, 245, 258, 271, 294, 327, 340, 353, 376, 399, 432, 455, 468, 491, 514, 537, 560, 573, 616, 639, 682, 715, 748, 781, 814, 867, 890, 923, 956, 979, 1002, 1025, 1078, 1101, 1124]) (len := 159) (616) 649 (by decide +kernel) (by rw [c19]; decide) (by rw [c19]; decide) (by rw [c19]; decide) (by decide) ?_
      exact law_19 C Rm X hL hj St hI ⟨by omega, by omega⟩ next
    by_cases c20 : e = 20
    · refine q_tsIn C (dflt := 1147) (lo := 0) (hi := 35) (offs := #[159, 222, 245, 258, 271, 294, 327, 340, 353, 376, 399, 432, 455, 468, 491, 514, 537, 560, 573, 616, 639, 682, 715, 748, 781, 814, 867, 890, 923, 956, 979, 1002, 1025, 1078, 1101, 1124]) (len := 159) (639) 672 (by decide +kernel) (by rw [c20]; decide) (by rw [c20]; decide) (by rw [c20]; decide) (by decide) ?_
      exact law_20 C Rm X hL hj St hI ⟨by omega, by omega⟩ next
    by_cases c21 : e = 21
    · refine q_tsIn C (dflt := 1147) (lo := 0) (hi := 35) (offs := #[159, 222, 245, 258, 271, 294, 327, 340, 353, 376, 399, 432, 455, 468, 491, 514, 537, 560, 573, 616, 639, 682, 715, 748, 781, 814, 867, 890, 923, 956, 979, 1002, 1025, 1078, 1101, 1124]) (len := 159) (682) 715 (by decide +kernel) (by rw [c21]; decide) (by rw [c21]; decide) (by rw [c21]; decide) (by decide) ?_
      exact law_21 C Rm X hL hj St hI ⟨by omega, by omega⟩ next
    by_cases c22 : e = 22
    · refine q_tsIn C (dflt := 1147) (lo := 0) (hi := 35) (offs := #[159, 222, 245, 258, 271, 294, 327, 340, 353, 376, 399, 432, 455, 468, 491, 514, 537, 560, 573, 616, 639, 682, 715, 748, 781, 814, 867, 890, 923, 956, 979, 1002, 1025, 1078, 1101, 1124]) (len := 159) (715) 748 (by decide +kernel) (by rw [c22]; decide) (by rw [c22]; decide) (by rw [c22]; decide) (by decide) ?_
      exact law_22 C Rm X hL hj St hI ⟨by omega, by omega⟩ next
    by_cases c23 : e = 23
    · refine q_tsIn C (dflt := 1147) (lo := 0) (hi := 35) (offs := #[159, 222, 245, 258, 271, 294, 327, 340, 353, 376, 399, 432, 455, 468, 491, 514, 537, 560, 573, 616, 639, 682, 715, 748, 781, 814, 867, 890, 923, 956, 979, 1002, 1025, 1078, 1101, 1124]) (len := 159) (748) 781 (by decide +kernel) (by rw [c23]; decide) (by rw [c23]; decide) (by rw [c23]; decide) (by decide) ?_
      exact law_23 C Rm X hL hj St hI ⟨by omega, by omega⟩ next
    by_cases c24 : e = 24
    · refine q_tsIn C (dflt := 1147) (lo := 0) (hi := 35) (offs := #[159, 222, 245, 258, 271, 294, 327, 340, 353, 376, 399, 432, 455, 468, 491, 514, 537, 560, 573, 616, 639, 682, 715, 748, 781, 814, 867, 890, 923, 956, 979, 1002, 1025, 1078, 1101, 1124]) (len := 159) (781) 814 (by decide +kernel) (by rw [c24]; decide) (by rw [c24]; decide) (by rw [c24]; decide) (by decide) ?_
      exact law_24 C Rm X hL hj St hI ⟨by omega, by omega⟩ next
    by_cases c25 : e = 25
    · refine q_tsIn C (dflt := 1147) (lo := 0) (hi := 35) (offs := #[159, 222, 245, 258, 271, 294, 327, 340, 353, 376, 399, 432, 455, 468, 491, 514, 537, 560, 573, 616, 639, 682, 715, 748, 781, 814, 867, 890, 923, 956, 979, 1002, 1025, 1078, 1101, 1124]) (len := 159) (814) 847 (by decide +kernel) (by rw [c25]; decide) (by rw [c25]; decide) (by rw [c25]; decide) (by decide) ?_
      exact law_25 C Rm X hL hj St hI ⟨by omega, by omega⟩ next
    by_cases c26 : e = 26
    · refine q_tsIn C (dflt := 1147) (lo := 0) (hi := 35) (offs := #[159, 222, 245, 258, 271, 294, 327, 340, 353, 376, 399, 432, 455, 468, 491, 514, 537, 560, 573, 616, 639, 682, 715, 748, 781, 814, 867, 890, 923, 956, 979, 1002, 1025, 1078, 1101, 1124]) (len := 159) (867) 900 (by decide +kernel) (by rw [c26]; decide) (by rw [c26]; decide) (by rw [c26]; decide) (by decide) ?_
      exact law_26 C Rm X hL hj St hI ⟨by omega, by omega⟩ next
    by_cases c27 : e = 27
    · refine q_tsIn C (dflt := 1147) (lo := 0) (hi := 35) (offs := #[159, 222, 245, 258, 271, 294, 327, 340, 353, 376, 399, 432, 455, 468, 491, 514, 537, 560, 573, 616, 639, 682, 715, 748, 781, 814, 867, 890, 923, 956, 979, 1002, 1025, 1078, 1101, 1124]) (len := 159) (890) 923 (by decide +kernel) (by rw [c27]; decide) (by rw [c27]; decide) (by rw [c27]; decide) (by decide) ?_
      exact law_27 C Rm X hL hj St hI ⟨by omega, by omega⟩ next
    by_cases c28 : e = 28
    · refine q_tsIn C (dflt := 1147) (lo := 0) (hi := 35) (offs := #[159, 222, 245, 258, 271, 294, 327, 340, 353, 376, 399, 432, 455, 468, 491, 514, 537, 560, 573, 616, 639, 682, 715, 748, 781, 814, 867, 890, 923, 956, 979, 1002, 1025, 1078, 1101, 1124]) (len := 159) (923) 956 (by decide +kernel) (by rw [c28]; decide) (by rw [c28]; decide) (by rw [c28]; decide) (by decide) ?_
      exact law_28 C Rm X hL hj St hI ⟨by omega, by omega⟩ next
    by_cases c29 : e = 29
    · refine q_tsIn C (dflt := 1147) (lo := 0) (hi := 35) (offs := #[159, 222, 245, 258, 271, 294, 327, 340, 353, 376, 399, 432, 455, 468, 491, 514, 537, 560, 573, 616, 639, 682, 715, 748, 781, 814, 867, 890, 923, 956, 979, 1002, 1025, 1078, 1101, 1124]) (len := 159) (956) 989 (by decide +kernel) (by rw [c29]; decide) (by rw [c29]; decide) (by rw [c29]; decide) (by decide) ?_
      exact law_29 C Rm X hL hj St hI ⟨by omega, by omega⟩ next
    by_cases c30 : e = 30
    · refine q_tsIn C (dflt := 1147) (lo := 0) (hi := 35) (offs := #[159, 222, 245, 258, 271, 294, 327, 340, 353, 376, 399, 432, 455, 468, 491, 514, 537, 560, 573, 616, 639, 682, 715, 748, 781, 814, 867, 890, 923, 956, 979, 1002, 1025, 1078, 1101, 1124]) (len := 159) (979) 1012 (by decide +kernel) (by rw [c30]; decide) (by rw [c30]; decide) (by rw [c30]; decide) (by decide) ?_
      exact law_30 C Rm X hL hj St hI ⟨by omega, by omega⟩ next
    by_cases c31 : e = 31
    · refine q_tsIn C (dflt := 1147) (lo := 0) (hi := 35) (offs := #[159, 222, 245, 258, 271, 294, 327, 340, 353, 376, 399, 432, 455, 468, 491, 514, 537, 560, 573, 616, 639, 682, 715, 748, 781, 814, 867, 890, 923, 956, 979, 1002, 1025, 1078, 1101, 1124]) (len := 159) (1002) 1035 (by decide +kernel) (by rw [c31]; decide) (by rw [c31]; decide) (by rw [c31]; decide) (by decide) ?_
      exact law_31 C Rm X hL hj St hI ⟨by omega, by omega⟩ next
    by_cases c32 : e = 32
    · refine q_tsIn C (dflt := 1147) (lo := 0) (hi := 35) (offs := #[159, 222, 245, 258, 271, 294, 327, 340, 353, 376, 399, 432, 455, 468, 491, 514, 537, 560, 573, 616, 639, 682, 715, 748, 781, 814, 867, 890, 923, 956, 979, 1002, 1025, 1078, 1101, 1124]) (len := 159) (1025) 1058 (by decide +kernel) (by rw [c32]; decide) (by rw [c32]; decide) (by rw [c32]; decide) (by decide) ?_
      exact law_32 C Rm X hL hj St hI ⟨by omega, by omega⟩ next
    by_cases c33 : e = 33
    · refine q_tsIn C (dflt := 1147) (lo := 0) (hi := 35) (offs := #[159, 222, 245, 258, 271, 294, 327, 340, 353, 376, 399, 432, 455, 468, 491, 514, 537, 560, 573, 616, 639, 682, 715, 748, 781, 814, 867, 890, 923, 956, 979, 1002, 1025, 1078, 1101, 1124]) (len := 159) (1078) 1111 (by decide +kernel) (by rw [c33]; decide) (by rw [c33]; decide) (by rw [c33]; decide) (by decide) ?_
      exact law_33 C Rm X hL hj St hI ⟨by omega, by omega⟩ next
    by_cases c34 : e = 34
    · refine q_tsIn C (dflt := 1147) (lo := 0) (hi := 35) (offs := #[159, 222, 245, 258, 271, 294, 327, 340, 353, 376, 399, 432, 455, 468, 491, 514, 537, 560, 573, 616, 639, 682, 715, 748, 781, 814, 867, 890, 923, 956, 979, 1002, 1025, 1078, 1101, 1124]) (len := 159) (1101) 1134 (by decide +kernel) (by rw [c34]; decide) (by rw [c34]; decide) (by rw [c34]; decide) (by decide) ?_
      exact law_34 C Rm X hL hj St hI ⟨by omega, by omega⟩ next
    by_cases c35 : e = 35
    · refine q_tsIn C (dflt := 1147) (lo := 0) (hi := 35) (offs := #[159, 222, 245, 258, 271, 294, 327, 340, 353, 376, 399, 432, 455, 468, 491, 514, 537, 560, 573, 616, 639, 682, 715, 748, 781, 814, 867, 890, 923, 956, 979, 1002, 1025, 1078, 1101, 1124]) (len := 159) (1124) 1157 (by decide +kernel) (by rw [c35]; decide) (by rw [c35]; decide) (by rw [c35]; decide) (by decide) ?_
      exact law_35 C Rm X hL hj St hI ⟨by omega, by omega⟩ next
    have n0 := lv_neT c0 (show (0 : Int32).toInt = 0 from by decide)
    have n1 := lv_neT c1 (show (1 : Int32).toInt = 1 from by decide)
    have n2 := lv_neT c2 (show (2 : Int32).toInt = 2 from by decide)
    have n3 := lv_neT c3 (show (3 : Int32).toInt = 3 from by decide)
    have n4 := lv_neT c4 (show (4 : Int32).toInt = 4 from by decide)
    have n5 := lv_neT c5 (show (5 : Int32).toInt = 5 from by decide)
    have n6 := lv_neT c6 (show (6 : Int32).toInt = 6 from by decide)
    have n7 := lv_neT c7 (show (7 : Int32).toInt = 7 from by decide)
    have n8 := lv_neT c8 (show (8 : Int32).toInt = 8 from by decide)
    have n9 := lv_neT c9 (show (9 : Int32).toInt = 9 from by decide)
    have n10 := lv_neT c10 (show (10 : Int32).toInt = 10 from by decide)
    have n11 := lv_neT c11 (show (11 : Int32).toInt = 11 from by decide)
    have n12 := lv_neT c12 (show (12 : Int32).toInt = 12 from by decide)
    have n13 := lv_neT c13 (show (13 : Int32).toInt = 13 from by decide)
    have n14 := lv_neT c14 (show (14 : Int32).toInt = 14 from by decide)
    have n15 := lv_neT c15 (show (15 : Int32).toInt = 15 from by decide)
    have n16 := lv_neT c16 (show (16 : Int32).toInt = 16 from by decide)
    have n17 := lv_neT c17 (show (17 : Int32).toInt = 17 from by decide)
    have n18 := lv_neT c18 (show (18 : Int32).toInt = 18 from by decide)
    have n19 := lv_neT c19 (show (19 : Int32).toInt = 19 from by decide)
    have n20 := lv_neT c20 (show (20 : Int32).toInt = 20 from by decide)
    have n21 := lv_neT c21 (show (21 : Int32).toInt = 21 from by decide)
    have n22 := lv_neT c22 (show (22 : Int32).toInt = 22 from by decide)
    have n23 := lv_neT c23 (show (23 : Int32).toInt = 23 from by decide)
    have n24 := lv_neT c24 (show (24 : Int32).toInt = 24 from by decide)
    have n25 := lv_neT c25 (show (25 : Int32).toInt = 25 from by decide)
    have n26 := lv_neT c26 (show (26 : Int32).toInt = 26 from by decide)
    have n27 := lv_neT c27 (show (27 : Int32).toInt = 27 from by decide)
    have n28 := lv_neT c28 (show (28 : Int32).toInt = 28 from by decide)
    have n29 := lv_neT c29 (show (29 : Int32).toInt = 29 from by decide)
    have n30 := lv_neT c30 (show (30 : Int32).toInt = 30 from by decide)
    have n31 := lv_neT c31 (show (31 : Int32).toInt = 31 from by decide)
    have n32 := lv_neT c32 (show (32 : Int32).toInt = 32 from by decide)
    have n33 := lv_neT c33 (show (33 : Int32).toInt = 33 from by decide)
    have n34 := lv_neT c34 (show (34 : Int32).toInt = 34 from by decide)
    have n35 := lv_neT c35 (show (35 : Int32).toInt = 35 from by decide)
    refine q_tsOut C (dflt := 1147) (lo := 0) (hi := 35) (offs := #[159, 222, 245, 258, 271, 294, 327, 340, 353, 376, 399, 432, 455, 468, 491, 514, 537, 560, 573, 616, 639, 682, 715, 748, 781, 814, 867, 890, 923, 956, 979, 1002, 1025, 1078, 1101, 1124]) (len := 159) 1180 (by decide +kernel) (by omega) (by decide) ?_
    exact next z h cells slots hI (by omega) (by omega)

/-! ===== L3: rope() of the class, in its cells ===== -/
def z_o0 : g_S := (fun _ => 0, fun _ _ => 0, fun _ _ => 0, fun _ => none, fun _ => 0)
theorem z_newRope (z : Nat) (h : q_H) : ∃ h3, m_X4_init (z + 1) (va_up h z (.inr (4, [.int 0, .int 0, .int 0, .int 0, .null, .null, .null, .null]))) z = some (z + 5, h3) ∧ g4 z z_o0 h3 ∧ ∀ a, a < z → h3 a = h a := by
  have pf : ∀ (h : q_H) (l : List Value) (k : Nat) (v : Value), h z = .inr (4, l) → k < l.length → q_pf h z 4 k v = some (va_up h z (.inr (4, l.set k v))) := fun h l k v e hk => by
    unfold q_pf
    rw [e]
    exact if_pos ⟨rfl, hk⟩
  have n1 : z ≠ z + 1 := by omega
  have n2 : z ≠ z + 1 + 1 := by omega
  have n3 : z ≠ z + 1 + 1 + 1 := by omega
  have n4 : z ≠ z + 1 + 1 + 1 + 1 := by omega
  unfold m_X4_init
  try dsimp only
  rw [pf _ _ _ _ ((va_up_of n1).trans (va_up_at _ _ _)) (by simp only [List.length_set, List.length_cons, List.length_nil]; decide), Option.bind_some]
  rw [pf _ _ _ _ ((va_up_of n2).trans (va_up_at _ _ _)) (by simp only [List.length_set, List.length_cons, List.length_nil]; decide), Option.bind_some]
  rw [pf _ _ _ _ ((va_up_of n3).trans (va_up_at _ _ _)) (by simp only [List.length_set, List.length_cons, List.length_nil]; decide), Option.bind_some]
  rw [pf _ _ _ _ ((va_up_of n4).trans (va_up_at _ _ _)) (by simp only [List.length_set, List.length_cons, List.length_nil]; decide), Option.bind_some]
  refine ⟨_, rfl, ⟨?_, ?_, ?_, ?_, ?_⟩, fun a ha => ?_⟩
  · rw [va_up_at]
    rfl
  · rw [va_up_of (by omega), va_up_of (by omega), va_up_of (by omega), va_up_of (by omega), va_up_of (by omega), va_up_of (by omega), va_up_of (by omega), va_up_at]
    rfl
  · rw [va_up_of (by omega), va_up_of (by omega), va_up_of (by omega), va_up_of (by omega), va_up_of (by omega), show z + 2 = z + 1 + 1 from rfl, va_up_at]
    rfl
  · rw [va_up_of (by omega), va_up_of (by omega), va_up_of (by omega), show z + 3 = z + 1 + 1 + 1 from rfl, va_up_at]
    rfl
  · rw [va_up_of (by omega), show z + 4 = z + 1 + 1 + 1 + 1 from rfl, va_up_at]
    rfl
  · rw [va_up_of (by omega), va_up_of (by omega), va_up_of (by omega), va_up_of (by omega), va_up_of (by omega), va_up_of (by omega), va_up_of (by omega), va_up_of (by omega), va_up_of (by omega)]
theorem z_ropeH {b z : Nat} {κ : Nat → g_S} {h : q_H} (W : z_W b κ h) (hz : b + 175 ≤ z) {e : Int32} {w' d' o' : g_S} (hr : t_X5_read (κ 3) (κ 2) (κ 1) z_o0 = some (e, w', d', o')) :
    (e ≠ 0 → ∃ h', m_X11_rope z h b = some ((-2 : Int32) - e, z + 5, h') ∧ z_W b (va_up (va_up (va_up κ 2 d') 3 w') 1 (g_si (κ 1) 1 0)) h' ∧ ∀ a, b + 152 ≤ a → a < z → h' a = h a) ∧
    (e = 0 → ∀ t', t_X10_begin (κ 7) o' = some t' → ∃ h' κ', m_X11_rope z h b = some (g_I o' 3, z + 5, h') ∧ z_W b κ' h' ∧ g4 z o' h' ∧ (∀ a, b + 152 ≤ a → a < z → h' a = h a) ∧ κ' 1 = g_si (κ 1) 1 0 ∧ κ' 6 = g_si (g_sp (κ 6) 0 (some z)) 4 0 ∧ κ' 7 = t' ∧ κ' 8 = g_si (κ 8) 2 0 ∧ ∀ k, k ≠ 1 → k ≠ 2 → k ≠ 3 → k ≠ 6 → k ≠ 7 → k ≠ 8 → κ' k = κ k) := by
  obtain ⟨h3, i1, i2, i3⟩ := z_newRope z h
  have W3 : z_W b κ h3 := W_n W (fun a ha => i3 a (by omega))
  obtain ⟨⟨r, h6⟩, j1, j2, j3, j4, j5, j6, j7, j8⟩ := l_X5_read h3 (b + 7) (b + 3) (b + 1) z (κ 3) (κ 2) (κ 1) z_o0 hr (Ww3 W3) (Ww2 W3) (Ww1 W3) i2 (Wp3_0 W) (Wp2_0 W) (fun a h1 h2 => by unfold f5 at h1; unfold f3 at h2; omega) (fun a h1 h2 => by unfold f5 at h1; unfold f9 at h2; omega) (fun a h1 h2 => by unfold f5 at h1; unfold f4 at h2; omega) (fun a h1 h2 => by unfold f3 at h1; unfold f9 at h2; omega) (fun a h1 h2 => by unfold f3 at h1; unfold f4 at h2; omega) (fun a h1 h2 => by unfold f9 at h1; unfold f4 at h2; omega)
  have j2 : r = e := j2
  have j3 : g5 (b + 7) w' h6 := j3
  have j4 : g3 (b + 3) d' h6 := j4
  have j5 : g4 z o' h6 := j5
  have j8 : ∀ a, ¬ (f5 (b + 7) a ∨ f3 (b + 3) a ∨ f4 z a) → h6 a = h3 a := j8
  have W6 : z_W b (va_up (va_up κ 2 d') 3 w') h6 := W_2_3 W3 j4 j3 (by rw [j7]) (by rw [j6]) (fun a ha => j8 a (fun hh => ha (by
    rcases hh with hh | hh | hh
    · exact Or.inr (Or.inl hh)
    · exact Or.inl hh
    · unfold f4 at hh
      exact Or.inr (Or.inr (by omega)))))
  have k1 : va_up (va_up κ 2 d') 3 w' 1 = κ 1 := (va_up_of (by decide)).trans (va_up_of (by decide))
  obtain ⟨h9, l1, l2, l3⟩ := pi9_1 0 (Ww1 W6)
  rw [k1] at l2
  have W9 := W_1 W6 l2 l3
  have F9 : ∀ a, b + 152 ≤ a → a < z → h9 a = h a := fun a h1 h2 => by
    rw [l3 a (by unfold f9; omega), j8 a (by unfold f5 f3 f4; omega), i3 a h2]
  have G9 : g4 z o' h9 := fr4 j5 (fun a ha => l3 a (by unfold f4 at ha; unfold f9; omega))
  have pre : m_X11_rope z h b = if e = 0 then (q_gn h9 b 11 5).bind fun v10 => (q_pf h9 v10 0 0 (.ref z)).bind fun h11 => (q_gn h11 b 11 5).bind fun v12 => (q_gn h11 v12 0 1).bind fun v13 => (q_ca 10 h11 v13 (m_X10_begin h11 v13 z)).bind fun h15 => (q_gn h15 b 11 5).bind fun v16 => (q_pf h15 v16 0 4 (.int 0)).bind fun h17 => (q_gn h17 b 11 6).bind fun v18 => (q_ca 2 h17 v18 (m_X2_clear h17 v18)).bind fun h20 => (q_gi h20 z 4 3).bind fun v21 => some (v21, z + 5, h20) else some ((-2 : Int32) - e, z + 5, h9) := by
    unfold m_X11_rope
    try dsimp only
    rw [i1, Option.bind_some]
    try dsimp only
    rw [Wm1 W3, Option.bind_some, ca5 (Ww3 W3), j1, Option.bind_some]
    try dsimp only
    rw [Wm0 W6, Option.bind_some, l1, Option.bind_some, j2]
  refine ⟨fun he => ⟨h9, by rw [pre, if_neg he], W9, F9⟩, fun he t' ht => ?_⟩
  have k6 : va_up (va_up (va_up κ 2 d') 3 w') 1 (g_si (κ 1) 1 0) 6 = κ 6 := (va_up_of (by decide)).trans ((va_up_of (by decide)).trans (va_up_of (by decide)))
  obtain ⟨h11, m1, m2, m3⟩ := pp0_0 (some z) (Ww6 W9)
  rw [k6] at m2
  have W11 := W_6 W9 m2 (by rw [k6]; exact va_up_of (f := g_P (κ 6)) (a := 0) (b := 1) (v := some z) (by decide)) m3
  have G11 : g4 z o' h11 := fr4 G9 (fun a ha => m3 a (by unfold f4 at ha; unfold f0; omega))
  have k7 : (va_up (va_up (va_up (va_up κ 2 d') 3 w') 1 (g_si (κ 1) 1 0)) 6 (g_sp (κ 6) 0 (some z))) 7 = κ 7 := (va_up_of (by decide)).trans ((va_up_of (by decide)).trans ((va_up_of (by decide)).trans (va_up_of (by decide))))
  obtain ⟨h15, n1, n2, n3⟩ := l_X10_begin h11 (b + 14) z (κ 7) o' ht (by have := Ww7 W11; rw [k7] at this; exact this) G11 (fun a h1 h2 => by unfold f10 at h1; unfold f4 at h2; omega)
  have W15 := W_7 W11 n2 n3
  have G15 : g4 z o' h15 := fr4 G11 (fun a ha => n3 a (by unfold f4 at ha; unfold f10; omega))
  obtain ⟨h17, p1, p2, p3⟩ := pi0_4 0 (Ww6 W15)
  have W17 := W_6 W15 p2 rfl p3
  have G17 : g4 z o' h17 := fr4 G15 (fun a ha => p3 a (by unfold f4 at ha; unfold f0; omega))
  obtain ⟨h20, q1, q2, q3⟩ := pi2_2 0 (Ww8 W17)
  have W20 := W_8 W17 q2 rfl q3
  have G20 : g4 z o' h20 := fr4 G17 (fun a ha => q3 a (by unfold f4 at ha; unfold f2; omega))
  refine ⟨h20, _, ?_, W20, G20, fun a h1 h2 => ?_, ?_, ?_, ?_, ?_, fun k c1 c2 c3 c6 c7 c8 => ?_⟩
  · rw [pre, if_pos he, Wm5 W9, Option.bind_some, show q_pf h9 (b + 13) 0 0 (.ref z) = some h11 from m1, Option.bind_some, Wm5 W11, Option.bind_some, gp0_1 (Ww6 W11) (Wp6_1 W11), Option.bind_some, ca10 (Ww7 W11), n1, Option.bind_some, Wm5 W15, Option.bind_some, p1, Option.bind_some, Wm6 W17, Option.bind_some, ca2 (Ww8 W17), show m_X2_clear h17 (b + 21) = some h20 from by unfold m_X2_clear; rw [q1]; rfl, Option.bind_some, gi4_3 G20, Option.bind_some]
  · rw [q3 a (by unfold f2; omega), p3 a (by unfold f0; omega), n3 a (by unfold f10; omega), m3 a (by unfold f0; omega)]
    exact F9 a h1 h2
  · rw [va_up_of (by decide), va_up_of (by decide), va_up_of (by decide), va_up_of (by decide), va_up_at]
  · rw [va_up_of (by decide), va_up_at, va_up_of (by decide), va_up_at]
  · rw [va_up_of (by decide), va_up_of (by decide), va_up_at]
  · rw [va_up_at, va_up_of (by decide), va_up_of (by decide), va_up_of (by decide), va_up_of (by decide), va_up_of (by decide), va_up_of (by decide)]
  · rw [va_up_of c8, va_up_of c6, va_up_of c7, va_up_of c6, va_up_of c1, va_up_of c3, va_up_of c2]

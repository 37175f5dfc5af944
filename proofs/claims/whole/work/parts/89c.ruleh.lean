/-! ===== L3: rule() of the class, in its cells ===== -/
theorem z_copyOf {z n L a0 : Nat} {h : q_H} {f : Nat → Int32} (e : h a0 = .inl (1, n, .inl f)) (hn : n ≤ 1000) (hL : L ≤ n) (ha : a0 ≠ z) : ∃ g, m_J7_copyOf_59c91 z h a0 (nI L) = some (z, z + 1, va_up h z (.inl (1, L, .inl g))) ∧ ∀ i, i < L → g i = f i := by
  have l1 : ∀ h' : q_H, h' a0 = .inl (1, n, .inl f) → q_ln h' a0 = some (nI n) := fun h' e' => by
    unfold q_ln
    rw [e']
    rfl
  unfold m_J7_copyOf_59c91
  rw [l1 h e, Option.bind_some]
  by_cases c : L = n
  · refine ⟨f, ?_, fun _ _ => rfl⟩
    rw [if_pos (by rw [c]), show q_cln h a0 1000 = some (n, f) from by unfold q_cln; rw [e]; exact if_pos ⟨rfl, hn⟩, Option.bind_some, c]
  · have e2 : (va_up h z (.inl (1, L, .inl (fun _ => (0 : Int32))))) a0 = .inl (1, n, .inl f) := (va_up_of ha).trans e
    refine ⟨va_cpy f (fun _ => 0) 0 0 L, ?_, fun i hi => ?_⟩
    · rw [if_neg (fun x => c ((nI_eq (by omega) (by omega)).mp x)), if_neg (by rw [nI_clamp (by omega)]; intro x; rcases x with x | x; exact nI_pos (by omega) x; omega)]
      try dsimp only
      rw [nI_clamp (by omega), l1 _ e2, Option.bind_some, if_pos (nI_lt (by omega) (by omega))]
      have ec : q_cp (va_up h z (.inl (1, L, .inl (fun _ => (0 : Int32))))) a0 0 z 0 (nI L) = some (va_up h z (.inl (1, L, .inl (va_cpy f (fun _ => 0) 0 0 L)))) := by
        unfold q_cp
        rw [e2, va_up_at]
        have q1 : (0 : Int32).toNatClampNeg + (nI L).toNatClampNeg ≤ n := by
          rw [nI_clamp (by omega), show (0 : Int32).toNatClampNeg = 0 from rfl]; omega
        have q2 : (0 : Int32).toNatClampNeg + (nI L).toNatClampNeg ≤ L := by
          rw [nI_clamp (by omega), show (0 : Int32).toNatClampNeg = 0 from rfl]; omega
        refine (if_pos ⟨rfl, rfl, by decide, by decide, nI_pos (by omega), q1, q2⟩).trans ?_
        rw [nI_clamp (by omega), show (0 : Int32).toNatClampNeg = 0 from rfl, bx_uu]
      rw [ec, Option.bind_some]
    · rw [pk_cpy_in (by omega) (by omega)]
      congr 1
      omega
theorem z_made {p z L c : Nat} {j : g_S} {h : q_H} (G : g7 p j h) (hz : p + 4 ≤ z) (hL : L ≤ 12) (hc : c ≤ 400) (h2 : g_I j 2 = nI c) (h4 : g_I j 4 = nI (2 * L + 1)) :
    ∃ h' B, m_X7_made z h p = some (z, z + 3, h') ∧ g6 z B h' ∧ g_N B 0 = c ∧ g_N B 1 = 2 * L + 1 ∧ (∀ i, i < c → g_A B 0 i = g_A j 1 i) ∧ (∀ i, i < 2 * L + 1 → g_A B 1 i = g_A j 3 i) ∧ ∀ a, a < z → h' a = h a := by
  obtain ⟨h1, hh1⟩ : ∃ h1, h1 = va_up h z (.inr (6, [.null, .null])) := ⟨_, rfl⟩
  have G1 : g7 p j h1 := fr7 G (fun a ha => by rw [hh1]; exact va_up_of (by unfold f7 at ha; omega))
  obtain ⟨g, c1, c2⟩ := z_copyOf (z := z + 1) (L := c) (cl7_1 G1) (by decide) hc (by omega)
  obtain ⟨h6, hh6⟩ : ∃ h6, h6 = va_up h1 (z + 1) (.inl (1, c, .inl g)) := ⟨_, rfl⟩
  rw [← hh6] at c1
  have G6 : g7 p j h6 := fr7 G1 (fun a ha => by rw [hh6]; exact va_up_of (by unfold f7 at ha; omega))
  obtain ⟨g', d1, d2⟩ := z_copyOf (z := z + 2) (L := 2 * L + 1) (cl7_3 G6) (by decide) (by omega) (by omega)
  obtain ⟨h11, hh11⟩ : ∃ h11, h11 = va_up h6 (z + 2) (.inl (1, 2 * L + 1, .inl g')) := ⟨_, rfl⟩
  rw [← hh11] at d1
  have e0 : h11 z = .inr (6, [.null, .null]) := by rw [hh11, va_up_of (by omega), hh6, va_up_of (by omega), hh1, va_up_at]
  have e1 : h11 (z + 1) = .inl (1, c, .inl g) := by rw [hh11, va_up_of (by omega), hh6, va_up_at]
  have e2 : h11 (z + 2) = .inl (1, 2 * L + 1, .inl g') := by rw [hh11, va_up_at]
  have ei : m_X6_init h11 z (z + 1) (z + 2) = some (va_up h11 z (.inr (6, [.ref (z + 1), .ref (z + 2)]))) := by
    unfold m_X6_init
    rw [show q_pf h11 z 6 0 (.ref (z + 1)) = some (va_up h11 z (.inr (6, [.ref (z + 1), .null]))) from by
      unfold q_pf
      rw [e0]
      rfl, Option.bind_some]
    rw [show q_pf (va_up h11 z (.inr (6, [.ref (z + 1), .null]))) z 6 1 (.ref (z + 2)) = some (va_up h11 z (.inr (6, [.ref (z + 1), .ref (z + 2)]))) from by
      unfold q_pf
      rw [va_up_at]
      refine (if_pos ⟨rfl, Nat.le_of_ble_eq_true rfl⟩).trans ?_
      rw [bx_uu]
      rfl, Option.bind_some]
  refine ⟨va_up h11 z (.inr (6, [.ref (z + 1), .ref (z + 2)])), (fun _ => 0, fun k => if k = 0 then g else g', fun _ _ => 0, fun _ => none, fun k => if k = 0 then c else 2 * L + 1), ?_, ⟨va_up_at _ _ _, (va_up_of (by omega)).trans e1, (va_up_of (by omega)).trans e2⟩, rfl, rfl, c2, d2, fun a ha => ?_⟩
  · unfold m_X7_made
    try dsimp only
    rw [← hh1, gn7_1 G1, Option.bind_some, gi7_2 G1, Option.bind_some, h2, c1, Option.bind_some]
    try dsimp only
    rw [gn7_3 G6, Option.bind_some, gi7_4 G6, Option.bind_some, h4, d1, Option.bind_some]
    try dsimp only
    rw [ei, Option.bind_some]
  · rw [va_up_of (by omega), hh11, va_up_of (by omega), hh6, va_up_of (by omega), hh1, va_up_of (by omega)]
theorem z_ruleH {b z c : Nat} {κ : Nat → g_S} {h : q_H} (W : z_W b κ h) (hz : b + 175 ≤ z) (h4 : g_I (κ 0) 4 = nI c) (hc : c < 6) {e : Int32} {j' d' : g_S} (hr : t_X7_read (κ 4) (κ 2) (κ 1) = some (e, j', d')) :
    (e ≠ 0 → ∃ h', m_X11_rule z h b = some ((-2 : Int32) - e, z, h') ∧ z_W b (va_up (va_up (va_up κ 2 d') 4 j') 1 (g_si (κ 1) 1 0)) h' ∧ ∀ a, b + 152 ≤ a → h' a = h a) ∧
    (e = 0 → ∀ L c2, L ≤ 12 → c2 ≤ 400 → g_I j' 2 = nI c2 → g_I j' 4 = nI (2 * L + 1) → ∃ h' κ' B, m_X11_rule z h b = some (nI c, z + 3, h') ∧ z_W b κ' h' ∧ g6 z B h' ∧ g_N B 0 = c2 ∧ g_N B 1 = 2 * L + 1 ∧ (∀ i, i < c2 → g_A B 0 i = g_A j' 1 i) ∧ (∀ i, i < 2 * L + 1 → g_A B 1 i = g_A j' 3 i) ∧ (∀ a, b + 152 ≤ a → a < z → h' a = h a) ∧ κ' 0 = g_si (κ 0) 4 (nI (c + 1)) ∧ κ' 1 = g_si (κ 1) 1 0 ∧ g_P (κ' 5) = va_up (g_P (κ 5)) c (some z) ∧ ∀ k, k ≠ 0 → k ≠ 1 → k ≠ 2 → k ≠ 4 → k ≠ 5 → κ' k = κ k) := by
  obtain ⟨⟨r, h6⟩, j1, j2, j3, j4, j5, j6, j7⟩ := l_X7_read h (b + 8) (b + 3) (b + 1) (κ 4) (κ 2) (κ 1) hr (Ww4 W) (Ww2 W) (Ww1 W) (Wp4_0 W) (Wp2_0 W) (fun a h1 h2 => by unfold f7 at h1; unfold f3 at h2; omega) (fun a h1 h2 => by unfold f7 at h1; unfold f9 at h2; omega) (fun a h1 h2 => by unfold f3 at h1; unfold f9 at h2; omega)
  have j2 : r = e := j2
  have j3 : g7 (b + 8) j' h6 := j3
  have j4 : g3 (b + 3) d' h6 := j4
  have j7 : ∀ a, ¬ (f7 (b + 8) a ∨ f3 (b + 3) a) → h6 a = h a := j7
  have W6 : z_W b (va_up (va_up κ 2 d') 4 j') h6 := W_2_4 W j4 j3 (by rw [j6]) (by rw [j5]) (fun a ha => j7 a (fun hh => ha (by
    rcases hh with hh | hh
    · exact Or.inr (Or.inl hh)
    · exact Or.inl hh)))
  have k1 : va_up (va_up κ 2 d') 4 j' 1 = κ 1 := (va_up_of (by decide)).trans (va_up_of (by decide))
  obtain ⟨h9, l1, l2, l3⟩ := pi9_1 0 (Ww1 W6)
  rw [k1] at l2
  have W9 := W_1 W6 l2 l3
  have F9 : ∀ a, b + 152 ≤ a → h9 a = h a := fun a h1 => by
    rw [l3 a (by unfold f9; omega), j7 a (by unfold f7 f3; omega)]
  have pre : m_X11_rule z h b = if e = 0 then (q_ca 7 h9 (b + 8) (m_X7_made z h9 (b + 8))).bind fun x => (q_sr x.2.2 (b + 12) 5 6 (nI c) x.1).bind fun h14 => (q_gi h14 b 11 4).bind fun v15 => (q_pf h14 b 11 4 (.int (v15 + 1))).bind fun h16 => (q_gi h16 b 11 4).bind fun v17 => some (v17 - 1, x.2.1, h16) else some ((-2 : Int32) - e, z, h9) := by
    have k0 : (va_up (va_up (va_up κ 2 d') 4 j') 1 (g_si (κ 1) 1 0)) 0 = κ 0 := (va_up_of (by decide)).trans ((va_up_of (by decide)).trans (va_up_of (by decide)))
    have e9 := gi11_4 (Ww0 W9)
    rw [k0, h4] at e9
    unfold m_X11_rule
    rw [gi11_4 (Ww0 W), Option.bind_some, h4, if_pos (show nI c < 6 from nI_lt (b := 6) hc (by decide)), Wm2 W, Option.bind_some, ca7 (Ww4 W), j1, Option.bind_some]
    try dsimp only
    rw [Wm0 W6, Option.bind_some, l1, Option.bind_some, j2]
    by_cases he : e = 0
    · rw [if_pos he, if_pos he, Wm3 W9, Option.bind_some, e9, Option.bind_some, Wm2 W9, Option.bind_some]
    · rw [if_neg he, if_neg he]
  refine ⟨fun he => ⟨h9, by rw [pre, if_neg he], W9, F9⟩, fun he L c2 hL hc2 i2 i4 => ?_⟩
  have k4 : (va_up (va_up (va_up κ 2 d') 4 j') 1 (g_si (κ 1) 1 0)) 4 = j' := (va_up_of (by decide)).trans (va_up_at _ _ _)
  have G4 := Ww4 W9
  rw [k4] at G4
  obtain ⟨h13, B, m1, m2, m3, m4, m5, m6, m7⟩ := z_made G4 (z := z) (by omega) hL hc2 i2 i4
  have W13 := W_n W9 (fun a ha => m7 a (by omega))
  have k5 : (va_up (va_up (va_up κ 2 d') 4 j') 1 (g_si (κ 1) 1 0)) 5 = κ 5 := (va_up_of (by decide)).trans ((va_up_of (by decide)).trans (va_up_of (by decide)))
  have e12 := Ww5 W13
  rw [k5] at e12
  obtain ⟨h14, hh14⟩ : ∃ h14, h14 = va_up h13 (b + 12) (.inl (5, 6, .inr (.inr (.inr (.inr (va_up (g_P (κ 5)) c (some z))))))) := ⟨_, rfl⟩
  have e14 : q_sr h13 (b + 12) 5 6 (nI c) z = some h14 := by
    unfold q_sr
    rw [e12]
    refine (if_pos ⟨rfl, show q_in (nI c) 6 from vp_in_nI hc (by decide)⟩).trans ?_
    rw [m2.1]
    refine (if_pos rfl).trans ?_
    rw [nI_clamp (by omega), hh14]
  have W14 := W_5 W13 (x := g_sp (κ 5) c (some z)) (h' := h14) (by rw [hh14, va_up_at]; rfl) (fun a ha => by rw [hh14]; exact va_up_of ha)
  have k0 : (va_up (va_up (va_up (va_up κ 2 d') 4 j') 1 (g_si (κ 1) 1 0)) 5 (g_sp (κ 5) c (some z))) 0 = κ 0 := (va_up_of (by decide)).trans ((va_up_of (by decide)).trans ((va_up_of (by decide)).trans (va_up_of (by decide))))
  obtain ⟨h16, p1, p2, p3⟩ := pi11_4 (nI (c + 1)) (Ww0 W14)
  rw [k0] at p2
  have W16 := W_0 W14 p2 (by rw [k0]; rfl) p3
  have e0 := gi11_4 (Ww0 W14)
  rw [k0, h4] at e0
  refine ⟨h16, _, B, ?_, W16, fr6 m2 (fun a ha => ?_), m3, m4, m5, m6, fun a h1 h2 => ?_, va_up_at _ _ _, ?_, ?_, fun k c0 c1 c2 c4 c5 => ?_⟩
  · rw [pre, if_pos he, ca7 (Ww4 W9), m1, Option.bind_some]
    try dsimp only
    rw [e14, Option.bind_some, e0, Option.bind_some, nI_1, p1, Option.bind_some, gi11_4 p2, Option.bind_some, z_si_I, show (1 : Int32) = nI 1 from rfl, pk_sub (by omega), Nat.add_sub_cancel]
  · rw [p3 a (by unfold f6 at ha; unfold f11; omega), hh14, va_up_of (by unfold f6 at ha; omega)]
  · rw [p3 a (by unfold f11; omega), hh14, va_up_of (by omega), m7 a h2]
    exact F9 a h1
  · rw [va_up_of (by decide), va_up_of (by decide), va_up_at]
  · rw [va_up_of (by decide), va_up_at]
    rfl
  · rw [va_up_of c0, va_up_of c5, va_up_of c1, va_up_of c4, va_up_of c2]

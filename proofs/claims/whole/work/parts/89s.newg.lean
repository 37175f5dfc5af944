/-! ===== L3: new TUGS and GAMES; the call image ===== -/
theorem z_pfc (h : q_H) (z ci : Nat) (l : List Value) (k : Nat) (v : Value) (e : h z = .inr (ci, l)) (hk : k < l.length) : q_pf h z ci k v = some (va_up h z (.inr (ci, l.set k v))) := by
  unfold q_pf
  rw [e]
  exact if_pos ⟨rfl, hk⟩
theorem z_newTug (z : Nat) (h : q_H) : ∃ h3, m_X10_init (z + 1) (va_up h z (.inr (10, [.int 0, .int 0, .int 0, .null, .null, .null, .null]))) z = some (z + 5, h3) ∧ g10 z z_o0 h3 ∧ (∀ a, a < z → h3 a = h a) ∧ ∀ a, z + 5 ≤ a → h3 a = h a := by
  have n1 : z ≠ z + 1 := by omega
  have n2 : z ≠ z + 1 + 1 := by omega
  have n3 : z ≠ z + 1 + 1 + 1 := by omega
  have n4 : z ≠ z + 1 + 1 + 1 + 1 := by omega
  unfold m_X10_init
  try dsimp only
  rw [z_pfc _ _ _ _ _ _ ((va_up_of n1).trans (va_up_at _ _ _)) (by simp only [List.length_set, List.length_cons, List.length_nil]; decide), Option.bind_some]
  rw [z_pfc _ _ _ _ _ _ ((va_up_of n2).trans (va_up_at _ _ _)) (by simp only [List.length_set, List.length_cons, List.length_nil]; decide), Option.bind_some]
  rw [z_pfc _ _ _ _ _ _ ((va_up_of n3).trans (va_up_at _ _ _)) (by simp only [List.length_set, List.length_cons, List.length_nil]; decide), Option.bind_some]
  rw [z_pfc _ _ _ _ _ _ ((va_up_of n4).trans (va_up_at _ _ _)) (by simp only [List.length_set, List.length_cons, List.length_nil]; decide), Option.bind_some]
  refine ⟨_, rfl, ⟨?_, ?_, ?_, ?_, ?_⟩, fun a ha => ?_, fun a ha => ?_⟩
  · rw [va_up_at]
    rfl
  · rw [va_up_of (by omega), va_up_of (by omega), va_up_of (by omega), va_up_of (by omega), va_up_of (by omega), va_up_of (by omega), va_up_of (by omega), va_up_at]
    rfl
  · rw [va_up_of (by omega), va_up_of (by omega), va_up_of (by omega), va_up_of (by omega), va_up_of (by omega), show z + 2 = z + 1 + 1 from rfl, va_up_at]
    rfl
  · rw [va_up_of (by omega), va_up_of (by omega), va_up_of (by omega), show z + 3 = z + 1 + 1 + 1 from rfl, va_up_at]
    rfl
  · rw [va_up_of (by omega), show z + 4 = z + 1 + 1 + 1 + 1 from rfl, va_up_at]
    rfl
  · rw [va_up_of (by omega), va_up_of (by omega), va_up_of (by omega), va_up_of (by omega), va_up_of (by omega), va_up_of (by omega), va_up_of (by omega), va_up_of (by omega), va_up_of (by omega)]
  · rw [va_up_of (by omega), va_up_of (by omega), va_up_of (by omega), va_up_of (by omega), va_up_of (by omega), va_up_of (by omega), va_up_of (by omega), va_up_of (by omega), va_up_of (by omega)]
/-- a new GAME's head -/
def z_g0 (z : Nat) : g_S := (fun k => if k = 2 then -1 else 0, fun _ _ => 0, fun _ _ => 0, fun k => if k = 1 then some (z + 1) else none, fun _ => 0)
theorem z_newGame (z : Nat) (h : q_H) : ∃ h9, m_X0_init (z + 1) (va_up h z (.inr (0, [.null, .null, .int 0, .int 0, .int 0, .null, .null]))) z = some (z + 8, h9) ∧ g0 z (z_g0 z) h9 ∧ g10 (z + 1) z_o0 h9 ∧ (∀ a, a < z → h9 a = h a) ∧ ∀ a, z + 8 ≤ a → h9 a = h a := by
  obtain ⟨h3, a1, a2, a3, a4⟩ := z_newTug (z + 1) (va_up h z (.inr (0, [.null, .null, .int 0, .int 0, .int 0, .null, .null])))
  have e0 : h3 z = .inr (0, [.null, .null, .int 0, .int 0, .int 0, .null, .null]) := (a3 z (by omega)).trans (va_up_at _ _ _)
  have n6 : z ≠ z + 1 + 5 := by omega
  have n7 : z ≠ z + 1 + 5 + 1 := by omega
  unfold m_X0_init
  try dsimp only
  rw [a1, Option.bind_some]
  try dsimp only
  rw [z_pfc _ _ _ _ _ _ e0 (by simp only [List.length_cons, List.length_nil]; decide), Option.bind_some]
  rw [z_pfc _ _ _ _ _ _ (va_up_at _ _ _) (by simp only [List.length_set, List.length_cons, List.length_nil]; decide), Option.bind_some]
  rw [z_pfc _ _ _ _ _ _ ((va_up_of n6).trans (va_up_at _ _ _)) (by simp only [List.length_set, List.length_cons, List.length_nil]; decide), Option.bind_some]
  rw [z_pfc _ _ _ _ _ _ ((va_up_of n7).trans (va_up_at _ _ _)) (by simp only [List.length_set, List.length_cons, List.length_nil]; decide), Option.bind_some]
  refine ⟨_, rfl, ⟨?_, ?_, ?_⟩, fr10 a2 (fun a ha => ?_), fun a ha => ?_, fun a ha => ?_⟩
  · rw [va_up_at]
    rfl
  · rw [va_up_of (by omega), va_up_of (by omega), va_up_of (by omega), show z + 6 = z + 1 + 5 by omega, va_up_at]
    rfl
  · rw [va_up_of (by omega), show z + 7 = z + 1 + 5 + 1 by omega, va_up_at]
    rfl
  · unfold f10 at ha
    rw [va_up_of (by omega), va_up_of (by omega), va_up_of (by omega), va_up_of (by omega), va_up_of (by omega), va_up_of (by omega)]
  · rw [va_up_of (by omega), va_up_of (by omega), va_up_of (by omega), va_up_of (by omega), va_up_of (by omega), va_up_of (by omega), a3 a (by omega), va_up_of (by omega)]
  · rw [va_up_of (by omega), va_up_of (by omega), va_up_of (by omega), va_up_of (by omega), va_up_of (by omega), va_up_of (by omega), a4 a (by omega), va_up_of (by omega)]
section IN
variable {b : Nat}
theorem s_34 : q_st34 b (b + 152) (z_I b) := by
  intro z h a1 I
  have I0 := I
  obtain ⟨c, κ, σ, W, R, J⟩ := I
  have eH := z_no R
  have hz := J.1
  have no : m_X11_image z h b a1 = some (-1, z, h) → t_X12_image σ a1 = some (-1, σ) → ∃ (r : Int32) (z1 : Nat) (h1 : q_H) (h2 : q_H), m_X11_image z h b a1 = some (r, z1, h1) ∧ (∃ fs, h1 (b + 152) = .inr (12, fs)) ∧ m_X12_image h1 (b + 152) a1 = some (r, h2) ∧ z_I b z1 h2 := fun e1 e2 => by
    have e3 := l_X12_image (b + 152) h σ a1 e2
    rw [eH] at e3
    exact ⟨_, z, h, h, e1, z_fs R, e3, I0⟩
  rcases z_rng a1 0 3 (L := 0) (H := 3) (L' := 0) (H' := 3) (by decide) (by decide) rfl rfl (by decide) (by decide) with ⟨k, l1, u1, rfl, i1, x1, y1, w1⟩ | ⟨i1, x1⟩
  rotate_left
  · refine no ?_ ?_
    · unfold m_X11_image
      rcases x1 with x1 | ⟨x1, y1, w1⟩
      · rw [if_pos x1]
      · rw [if_neg x1, if_neg (z_q4 y1)]
    · unfold t_X12_image
      rw [i1, Option.bind_some]
      exact if_pos rfl
  have hk : k < 4 := by omega
  have n4 : nI k < (4 : Int32) := nI_lt (b := 4) hk (by decide)
  have eC : m_X11_image z h b (nI k) = if g_P (κ 9) k = none then (m_X0_init (z + 1) (va_up h z (.inr (0, [.null, .null, .int 0, .int 0, .int 0, .null, .null]))) z).bind (fun x => (q_sr x.2 (b + 123) 4 0 (nI k) z).bind fun h7 => m_X11_image_33 x.1 h7 b (nI k)) else m_X11_image_33 z h b (nI k) := by
    unfold m_X11_image
    rw [if_neg x1, if_pos n4, Wm7 W, Option.bind_some, z_ar9 W hk, Option.bind_some]
    by_cases e : g_P (κ 9) k = none
    · rw [if_pos e, if_pos e, Option.bind_some]
    · rw [if_neg e, if_neg e]
  obtain ⟨jI, inj⟩ := J.2.2.2.2.1
  rcases jI k hk with ⟨m1, m2⟩ | ⟨pg, g, t, m1, m2, m3, m4, m5, m6, m7, m8⟩
  · obtain ⟨h6, a1, a2, a3, a4, a5⟩ := z_newGame z h
    have W6 := W_n W (fun a ha => a4 a (by omega))
    obtain ⟨h7, hh7⟩ : ∃ h7, h7 = va_up h6 (b + 123) (.inl (4, 4, .inr (.inr (.inr (.inr (va_up (g_P (κ 9)) k (some z))))))) := ⟨_, rfl⟩
    have e7 : q_sr h6 (b + 123) 4 0 (nI k) z = some h7 := by
      unfold q_sr
      rw [Ww9 W6]
      refine (if_pos ⟨rfl, show q_in (nI k) 4 from vp_in_nI hk (by decide)⟩).trans ?_
      rw [a2.1]
      refine (if_pos rfl).trans ?_
      rw [nI_clamp (by omega), hh7]
    have F7 : ∀ a, a ≠ b + 123 → h7 a = h6 a := fun a ha => by rw [hh7]; exact va_up_of ha
    have W7 := W_9 W6 (x := g_sp (κ 9) k (some z)) (h' := h7) (by rw [hh7, va_up_at]; rfl) (fun a ha => F7 a ha)
    have F : ∀ a, b + 152 ≤ a → a < z → h7 a = h a := fun a h1 h2 => (F7 a (by omega)).trans (a4 a h2)
    have k9 : (va_up κ 9 (g_sp (κ 9) k (some z))) 9 = g_sp (κ 9) k (some z) := va_up_at _ _ _
    have kk : ∀ q, q ≠ 9 → (va_up κ 9 (g_sp (κ 9) k (some z))) q = κ q := fun q hq => va_up_of hq
    have p9 : ∀ q, g_P (g_sp (κ 9) k (some z)) q = if q = k then some z else g_P (κ 9) q := fun q => by
      show va_up (g_P (κ 9)) k (some z) q = _
      by_cases e : q = k
      · rw [e, va_up_at, if_pos rfl]
      · rw [va_up_of e, if_neg e]
    have fresh : ∀ q, q < 4 → g_P (κ 9) q ≠ some z := fun q hq e => by
      rcases jI q hq with ⟨n1, -⟩ | ⟨pg, g, t, n1, n2, n3, n4, -⟩
      · rw [n1] at e; cases e
      · rw [n1] at e
        injection e with e
        omega
    obtain ⟨h', q1, q2, h2, q3, q4⟩ := z_imgQ (z := z + 8) (c := c) (k := k) (pg := z) (g := z_g0 z) (t := z_o0) (σ := σ) hk W7 (z_ref_q R (fun a h1 h2 => F a h1 (by omega))) (by omega) (fr0 a2 (fun a ha => F7 a (by unfold f0 at ha; omega))) (fr10 a3 (fun a ha => F7 a (by unfold f10 at ha; omega))) rfl hz (Nat.le_refl _) (by rw [k9, p9, if_pos rfl])
      (fun u v pg hu hv huv e1 => by
        rw [k9, p9] at e1 ⊢
        by_cases eu : u = k
        · rw [if_pos eu] at e1
          rw [if_neg (fun e => huv (eu.trans e.symm))]
          cases e1
          exact fresh v hv
        · rw [if_neg eu] at e1
          by_cases ev : v = k
          · rw [if_pos ev]
            intro e
            cases e
            exact fresh u hu e1
          · rw [if_neg ev]
            exact inj u v pg hu hv huv e1)
      (by rw [kk 1 (by decide)]; exact J.2.1)
      (by rw [kk 0 (by decide), kk 5 (by decide)]; exact z_JR_fr J.2.2.1 (by omega) (fun a h1 h2 => F a (by omega) h2) rfl rfl rfl rfl)
      (by rw [kk 6 (by decide), kk 7 (by decide)]; exact z_Gm_fr J.2.2.2.1 (by omega) (Nat.le_refl _) (fun a h1 h2 => F a (by omega) h2))
      (fun q hq hne => by
        unfold z_im
        rw [k9, p9, if_neg hne]
        rcases jI q hq with x | ⟨pg, g, t, n1, n2, n3, n4, n5, n6, n7, n8⟩
        · exact Or.inl x
        · exact Or.inr ⟨pg, g, t, n1, n2, n3, by omega, fr0 n5 (fun a ha => F a (by unfold f0 at ha; omega) (by unfold f0 at ha; omega)), fr10 n6 (fun a ha => F a (by unfold f10 at ha; omega) (by unfold f10 at ha; omega)), n7, z_Gm_fr n8 (by omega) (Nat.le_refl _) (fun a h1 h2 => F a (by omega) h2)⟩)
      (by rw [kk 8 (by decide)]; exact z_JP_fr J.2.2.2.2.2.1 (fun i hi => kk (20 + i) (by omega)) (fun _ _ => rfl) (fun _ _ => rfl) rfl) J.2.2.2.2.2.2
    refine ⟨_, z + 8, h', h2, ?_, q2, q3, q4⟩
    rw [eC, if_pos m1, a1, Option.bind_some]
    try dsimp only
    rw [e7, Option.bind_some]
    exact q1
  · obtain ⟨h', q1, q2, h2, q3, q4⟩ := z_imgQ (σ := σ) hk W R hz m5 m6 m7 m3 m4 m1 inj J.2.1 J.2.2.1 J.2.2.2.1 (fun q hq _ => jI q hq) J.2.2.2.2.2.1 J.2.2.2.2.2.2
    refine ⟨_, z, h', h2, ?_, q2, q3, q4⟩
    rw [eC, if_neg (by rw [m1]; intro e; cases e)]
    exact q1
end IN

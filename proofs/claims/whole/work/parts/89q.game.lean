/-! ===== L3: a GAME is copied ===== -/
theorem z_cp10 {f : Nat → Int32} {t : g_S} {k : Nat} : u_cp 10 f 0 10 t k 0 10 = some (g_sa t k (va_cpy f (g_A t k) 0 0 10)) := by
  unfold u_cp
  rw [if_pos (by decide)]
  rfl
theorem z_gcopy {pl pq : Nat} {l g t q : g_S} {h : q_H} (G : g0 pl l h) (T : g10 (pl + 1) t h) (hl : g_P l 1 = some (pl + 1)) (G' : g0 pq g h) (T' : g10 (pq + 1) q h) (hg : g_P g 1 = some (pq + 1)) (D : pl + 8 ≤ pq ∨ pq + 8 ≤ pl) :
    ∃ h' l' t', m_X0_copyFrom h pl pq = some h' ∧ g0 pl l' h' ∧ g10 (pl + 1) t' h' ∧ g_P l' 0 = g_P g 0 ∧ g_P l' 1 = some (pl + 1) ∧ g_I l' 2 = g_I g 2 ∧ g_I l' 3 = g_I g 3 ∧ g_I l' 4 = g_I g 4 ∧ (∀ i, i < 10 → g_A l' 5 i = g_A g 5 i ∧ g_A l' 6 i = g_A g 6 i) ∧ z_teq t' q ∧ ∀ a, a < pl ∨ pl + 8 ≤ a → h' a = h a := by
  have o0 : ∀ {h1 h2 : q_H}, (∀ a, ¬ f0 pl a → h2 a = h1 a) → g0 pq g h1 → g0 pq g h2 := fun F G => fr0 G (fun a ha => F a (by unfold f0 at ha ⊢; omega))
  have o1 : ∀ {h1 h2 : q_H} {x : g_S}, (∀ a, ¬ f0 pl a → h2 a = h1 a) → g10 (pl + 1) x h1 → g10 (pl + 1) x h2 := fun F G => fr10 G (fun a ha => F a (by unfold f10 at ha; unfold f0; omega))
  have o2 : ∀ {h1 h2 : q_H} {x : g_S}, (∀ a, ¬ f0 pl a → h2 a = h1 a) → g10 (pq + 1) x h1 → g10 (pq + 1) x h2 := fun F G => fr10 G (fun a ha => F a (by unfold f10 at ha; unfold f0; omega))
  obtain ⟨h2, a1, a2, a3⟩ := pp0_0 (g_P g 0) G
  have Gq2 := o0 a3 G'
  have T2 := o1 a3 T
  have Tq2 := o2 a3 T'
  have hl2 : g_P (g_sp l 0 (g_P g 0)) 1 = some (pl + 1) := (va_up_of (f := g_P l) (a := 0) (b := 1) (v := g_P g 0) (by decide)).trans hl
  obtain ⟨h6, t', b1, b2, b3, b4⟩ := z_copy T2 Tq2 (by omega)
  have Gl6 : g0 pl (g_sp l 0 (g_P g 0)) h6 := fr0 a2 (fun a ha => b3 a (by unfold f0 at ha; unfold f10; omega))
  have Gq6 : g0 pq g h6 := fr0 Gq2 (fun a ha => b3 a (by unfold f0 at ha; unfold f10; omega))
  obtain ⟨h8, c1, c2, c3⟩ := pi0_2 (g_I g 2) Gl6
  have Gq8 := o0 c3 Gq6
  obtain ⟨h10, d1, d2, d3⟩ := pi0_3 (g_I g 3) c2
  have Gq10 := o0 d3 Gq8
  obtain ⟨h12, e1, e2, e3⟩ := pi0_4 (g_I g 4) d2
  have Gq12 := o0 e3 Gq10
  obtain ⟨h15, f1, f2, f3⟩ := cp0_5 e2 (cl0_5 Gq12) z_cp10
  have Gq15 := o0 f3 Gq12
  obtain ⟨h18, k1, k2, k3⟩ := cp0_6 f2 (cl0_6 Gq15) z_cp10
  refine ⟨h18, _, t', ?_, k2, o1 k3 (o1 f3 (o1 e3 (o1 d3 (o1 c3 b2)))), ?_, ?_, ?_, ?_, ?_, fun i hi => ⟨?_, ?_⟩, b4, fun a ha => ?_⟩
  · unfold m_X0_copyFrom
    rw [go0_0 G', Option.bind_some, a1, Option.bind_some, gp0_1 a2 hl2, Option.bind_some, gp0_1 Gq2 hg, Option.bind_some, ca10 T2, b1, Option.bind_some, gi0_2 Gq6, Option.bind_some, c1, Option.bind_some, gi0_3 Gq8, Option.bind_some, d1, Option.bind_some, gi0_4 Gq10, Option.bind_some, e1, Option.bind_some, gn0_5 Gq12, Option.bind_some, gn0_5 e2, Option.bind_some, f1, Option.bind_some, gn0_6 Gq15, Option.bind_some, gn0_6 f2, Option.bind_some, k1, Option.bind_some]
  · exact va_up_at (g_P l) 0 (g_P g 0)
  · exact hl2
  · show g_I (g_si (g_si (g_si (g_sp l 0 (g_P g 0)) 2 (g_I g 2)) 3 (g_I g 3)) 4 (g_I g 4)) 2 = _
    rw [z_si_In (by decide), z_si_In (by decide), z_si_I]
  · show g_I (g_si (g_si (g_si (g_sp l 0 (g_P g 0)) 2 (g_I g 2)) 3 (g_I g 3)) 4 (g_I g 4)) 3 = _
    rw [z_si_In (by decide), z_si_I]
  · show g_I (g_si (g_si (g_si (g_sp l 0 (g_P g 0)) 2 (g_I g 2)) 3 (g_I g 3)) 4 (g_I g 4)) 4 = _
    rw [z_si_I]
  · rw [z_sa_of (by decide), z_sa_at, pk_cpy_in (by omega) (by omega)]
    congr 1
    omega
  · rw [z_sa_at, pk_cpy_in (by omega) (by omega)]
    congr 1
    omega
  · have n0 : ¬ f0 pl a := by unfold f0; omega
    rw [k3 a n0, f3 a n0, e3 a n0, d3 a n0, c3 a n0, b3 a (by unfold f10; omega), a3 a n0]
theorem z_Gm_cp {b z c : Nat} {g g' t t' : g_S} {s : Nat → Int32} {f x : Int32} {h : q_H} (H : z_Gm b z c g t s f x h) (p0 : g_P g' 0 = g_P g 0) (i2 : g_I g' 2 = g_I g 2) (i3 : g_I g' 3 = g_I g 3) (i4 : g_I g' 4 = g_I g 4) (hA : ∀ i, i < 10 → g_A g' 5 i = g_A g 5 i ∧ g_A g' 6 i = g_A g 6 i) (ht : z_teq t' t) : z_Gm b z c g' t' s f x h := by
  obtain ⟨a1, a2, a3, a4, ⟨k, n1, n2, n3, n4⟩, a6⟩ := H
  refine ⟨i2.trans a1, i3.trans a2, a3, a4, ⟨k, n1, i4.trans n2, n3, fun i hi => ?_⟩, ?_⟩
  · rw [(hA i (by omega)).1, (hA i (by omega)).2]
    exact n4 i hi
  · rw [p0]
    rcases a6 with ⟨y1, y2, y3⟩ | ⟨po, o, n, x1, x2, x3, x4, x5, x6, x7, x8, x9⟩
    · exact Or.inl ⟨y1, y2, z_teq_t (by decide) ht y3⟩
    · exact Or.inr ⟨po, o, n, x1, x2, x3, x4, x5, x6, x7, z_teq_t x6.1 ht x8, x9⟩
theorem z_Gm_10 {b z c : Nat} {g t : g_S} {s : Nat → Int32} {f x : Int32} {h : q_H} (H : z_Gm b z c g t s f x h) : g_I t 1 = s 10 := by
  rcases H.2.2.2.2.2 with ⟨y1, y2, y3⟩ | ⟨po, o, n, x1, x2, x3, x4, x5, x6, x7, x8, x9⟩
  · exact y3.2.1
  · exact x8.2.1
/-! they lie apart -/
theorem z_ni {h : q_H} {a q : Nat} {x : Nat × List Value} {y : ClassId × vp_A} (e1 : h a = .inr x) (e2 : h q = .inl y) : a ≠ q := fun e => by
  rw [e, e2] at e1
  cases e1
theorem z_nc {h : q_H} {a q ci cj : Nat} {x y : List Value} (e1 : h a = .inr (ci, x)) (e2 : h q = .inr (cj, y)) (hc : ci ≠ cj) : a ≠ q := fun e => by
  rw [e, e2] at e1
  injection e1 with e1
  injection e1 with e1
  exact hc e1.symm
/-- a GAME's eight cells, and what else lies there -/
def z_blk (pg : Nat) (h : q_H) : Prop := ∃ g t, g0 pg g h ∧ g10 (pg + 1) t h
theorem z_bd4 {pg po : Nat} {o : g_S} {h : q_H} (B : z_blk pg h) (O : g4 po o h) : pg + 8 ≤ po ∨ po + 5 ≤ pg := by
  obtain ⟨g, t, ⟨g1, g2, g3⟩, ⟨t1, t2, t3, t4, t5⟩⟩ := B
  obtain ⟨o1, o2, o3, o4, o5⟩ := O
  have c1 := z_nc o1 g1 (by decide)
  have c2 := z_nc o1 t1 (by decide)
  have c3 := z_ni o1 t2
  have c4 := z_ni o1 t3
  have c5 := z_ni o1 t4
  have c6 := z_ni o1 t5
  have c7 := z_ni o1 g2
  have c8 := z_ni o1 g3
  have d1 := z_ni g1 o2
  have d2 := z_ni g1 o3
  have d3 := z_ni g1 o4
  have d4 := z_ni g1 o5
  omega
theorem z_bd6 {pg pr : Nat} {B : g_S} {h : q_H} (K : z_blk pg h) (O : g6 pr B h) : pg + 8 ≤ pr ∨ pr + 3 ≤ pg := by
  obtain ⟨g, t, ⟨g1, g2, g3⟩, ⟨t1, t2, t3, t4, t5⟩⟩ := K
  obtain ⟨o1, o2, o3⟩ := O
  have c1 := z_nc o1 g1 (by decide)
  have c2 := z_nc o1 t1 (by decide)
  have c3 := z_ni o1 t2
  have c4 := z_ni o1 t3
  have c5 := z_ni o1 t4
  have c6 := z_ni o1 t5
  have c7 := z_ni o1 g2
  have c8 := z_ni o1 g3
  have d1 := z_ni g1 o2
  have d2 := z_ni g1 o3
  omega
theorem z_bd0 {pg pq : Nat} {h : q_H} (K : z_blk pg h) (K' : z_blk pq h) (hne : pg ≠ pq) : pg + 8 ≤ pq ∨ pq + 8 ≤ pg := by
  obtain ⟨g, t, ⟨g1, g2, g3⟩, ⟨t1, t2, t3, t4, t5⟩⟩ := K
  obtain ⟨g', t', ⟨o1, o2, o3⟩, ⟨p1, p2, p3, p4, p5⟩⟩ := K'
  have c2 := z_nc o1 t1 (by decide)
  have c3 := z_ni o1 t2
  have c4 := z_ni o1 t3
  have c5 := z_ni o1 t4
  have c6 := z_ni o1 t5
  have c7 := z_ni o1 g2
  have c8 := z_ni o1 g3
  have d2 := z_nc g1 p1 (by decide)
  have d3 := z_ni g1 p2
  have d4 := z_ni g1 p3
  have d5 := z_ni g1 p4
  have d6 := z_ni g1 p5
  have d7 := z_ni g1 o2
  have d8 := z_ni g1 o3
  omega
section F2
variable {b z c : Nat} {h h' : q_H}
theorem z_JR_fr2 {k0 k5 : g_S} {σ σ' : r_S} (H : z_JR b z c k0 k5 σ h) (P : ∀ pr B, b + 175 ≤ pr → g6 pr B h → g6 pr B h') (h2 : r_I σ' 2 = r_I σ 2) (h3 : r_A σ' 3 = r_A σ 3) (h5 : r_A σ' 5 = r_A σ 5) (h6 : r_A σ' 6 = r_A σ 6) : z_JR b z c k0 k5 σ' h' := by
  obtain ⟨a1, a2, a3, a4, a5⟩ := H
  refine ⟨a1, a2, h2.trans a3, fun i hi => ?_, a5⟩
  obtain ⟨pr, B, x1, x2, x3, x4, x5⟩ := a4 i hi
  exact ⟨pr, B, x1, x2, x3, P pr B x2 x4, z_rl_ext x5 (fun i _ => by rw [h3]) (fun i _ => by rw [h5]) (by rw [h6])⟩
theorem z_Gm_fr2 {g t : g_S} {s : Nat → Int32} {f x : Int32} (H : z_Gm b z c g t s f x h) (P : ∀ po o, b + 175 ≤ po → g4 po o h → g4 po o h') : z_Gm b z c g t s f x h' := by
  obtain ⟨a1, a2, a3, a4, a5, a6⟩ := H
  refine ⟨a1, a2, a3, a4, a5, ?_⟩
  rcases a6 with h | ⟨po, o, n, x1, x2, x3, x4, x5⟩
  · exact Or.inl h
  · exact Or.inr ⟨po, o, n, x1, x2, x3, P po o x2 x4, x5⟩
end F2
/-! the reference's loops -/
theorem z_imgL {s : Nat → Int32} {k : Nat} (hk : k < 4) : ∀ (m x fu : Nat) (σ : r_S), x + m = 106 → m < fu → r_A σ 20 = s → ∃ w, t_X12_image_43 fu σ (nI k) (nI x) = some (s 10, r_sa σ 33 w) ∧ (∀ j, j < 106 * k + x ∨ 106 * k + 106 ≤ j → w j = r_A σ 33 j) ∧ ∀ j, x ≤ j → j < 106 → w (106 * k + j) = s j := by
  intro m
  induction m with
  | zero =>
    intro x fu σ hx hf hs
    obtain ⟨fu, rfl⟩ := Nat.exists_eq_succ_of_ne_zero (show fu ≠ 0 by omega)
    refine ⟨r_A σ 33, ?_, fun _ _ => rfl, fun j h1 h2 => by omega⟩
    rw [t_X12_image_43, if_pos (show (106 : Int32) ≤ nI x from nI_le (a := 106) (by omega) (by omega)), show t_ai 106 (r_A σ 20) 10 = some (r_A σ 20 10) from t_ai_in (j := 10) (by decide) (by decide), Option.bind_some, hs, z_rsa_eta]
  | succ m ih =>
    intro x fu σ hx hf hs
    obtain ⟨fu, rfl⟩ := Nat.exists_eq_succ_of_ne_zero (show fu ≠ 0 by omega)
    obtain ⟨w, e1, e2, e3⟩ := ih (x + 1) fu (r_sa σ 33 (upd (r_A σ 33) (106 * k + x) (s x))) (by omega) (by omega) (by rw [z_rAn (by decide)]; exact hs)
    rw [z_rA] at e2
    have ei : (106 : Int32) * nI k + nI x = nI (106 * k + x) := by rw [show (106 : Int32) = nI 106 from rfl, pk_mul, nI_add]
    refine ⟨w, ?_, fun j hj => ?_, fun j h1 h2 => ?_⟩
    · rw [t_X12_image_43, if_neg (show ¬ (106 : Int32) ≤ nI x from nI_ge (b := 106) (by omega) (by decide)), t_ai_in (by omega) (by decide), Option.bind_some, ei, t_si_in (by omega) (by decide), Option.bind_some, nI_1, hs, e1, z_rsa2]
    · rw [e2 j (by omega), pk_un (by omega)]
    · by_cases e : j = x
      · rw [e, e2 _ (by omega), pk_us]
      · exact e3 j (by omega) h2
theorem z_backL {w : Nat → Int32} {k : Nat} (hk : k < 4) : ∀ (m x fu : Nat) (σ : r_S), x + m = 106 → m < fu → r_A σ 33 = w → ∃ s, t_X12_back_50 fu σ (nI k) (nI x) = some (s 10, r_sa σ 20 s) ∧ (∀ j, j < x ∨ 106 ≤ j → s j = r_A σ 20 j) ∧ ∀ j, x ≤ j → j < 106 → s j = w (106 * k + j) := by
  intro m
  induction m with
  | zero =>
    intro x fu σ hx hf hs
    obtain ⟨fu, rfl⟩ := Nat.exists_eq_succ_of_ne_zero (show fu ≠ 0 by omega)
    refine ⟨r_A σ 20, ?_, fun _ _ => rfl, fun j h1 h2 => by omega⟩
    rw [t_X12_back_50, if_pos (show (106 : Int32) ≤ nI x from nI_le (a := 106) (by omega) (by omega)), show t_ai 106 (r_A σ 20) 10 = some (r_A σ 20 10) from t_ai_in (j := 10) (by decide) (by decide), Option.bind_some, z_rsa_eta]
  | succ m ih =>
    intro x fu σ hx hf hs
    obtain ⟨fu, rfl⟩ := Nat.exists_eq_succ_of_ne_zero (show fu ≠ 0 by omega)
    obtain ⟨s, e1, e2, e3⟩ := ih (x + 1) fu (r_sa σ 20 (upd (r_A σ 20) x (w (106 * k + x)))) (by omega) (by omega) (by rw [z_rAn (by decide)]; exact hs)
    rw [z_rA] at e2
    have ei : (106 : Int32) * nI k + nI x = nI (106 * k + x) := by rw [show (106 : Int32) = nI 106 from rfl, pk_mul, nI_add]
    refine ⟨s, ?_, fun j hj => ?_, fun j h1 h2 => ?_⟩
    · rw [t_X12_back_50, if_neg (show ¬ (106 : Int32) ≤ nI x from nI_ge (b := 106) (by omega) (by decide)), ei, t_ai_in (by omega) (by decide), Option.bind_some, t_si_in (by omega) (by decide), Option.bind_some, nI_1, hs, e1, z_rsa2]
    · rw [e2 j (by omega), pk_un (by omega)]
    · by_cases e : j = x
      · rw [e, e2 _ (by omega), pk_us]
      · exact e3 j (by omega) h2

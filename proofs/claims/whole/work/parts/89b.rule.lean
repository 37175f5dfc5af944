/-! ===== L3: a RULE's text is read to its end ===== -/
/-- what a RULE's read text leaves: any Rule of this code and these marks is RULE r -/
def z_fi (j : g_S) (σ : r_S) (r : Nat) : Prop := ∃ L c, L ≤ 12 ∧ c ≤ 400 ∧ g_I j 2 = nI c ∧ g_I j 4 = nI (2 * L + 1) ∧ ∀ B : g_S, g_N B 0 = c → g_N B 1 = 2 * L + 1 → (∀ i, i < c → g_A B 0 i = g_A j 1 i) → (∀ i, i < 2 * L + 1 → g_A B 1 i = g_A j 3 i) → z_rl B σ r
theorem z_fin {j : g_S} {σ σ' : r_S} {r L c mm : Nat} {K V a b : Nat → Nat} (C : z_cj j σ r c mm K V) (H : z_cc j σ r L c K a b) (hL : L ≤ 12) (h3 : r_A σ' 3 = r_A σ 3) (h5 : r_A σ' 5 = r_A σ 5) (h6 : r_A σ' 6 = r_A σ 6) : z_fi (g_si (g_sa j 3 (upd (g_A j 3) (2 * L) (nI c))) 4 (nI (2 * L + 1))) σ' r := by
  obtain ⟨c1, c2, c3, c4, c5, c6, c7, c8, c9⟩ := C
  obtain ⟨x1, x2, x3, x4⟩ := H
  refine ⟨L, c, hL, c3, (z_si_In (by decide)).trans c4, z_si_I _ _ _, fun B b0 b1 bA bM => ⟨K, V, a, b, L, c, hL, c3, b0, b1, by rw [h6]; exact x1, fun i hi => ?_, fun q hq => ?_⟩⟩
  · obtain ⟨y1, y2, y3⟩ := c9 i hi
    rw [bA i hi, h3]
    exact ⟨(show g_A (g_si (g_sa j 3 (upd (g_A j 3) (2 * L) (nI c))) 4 (nI (2 * L + 1))) 1 i = g_A j 1 i from congrFun (z_sa_of (by decide)) i).trans y1, y2, y3⟩
  · have mk : ∀ i, i < 2 * L → g_A B 1 i = g_A j 3 i := fun i hi => by rw [bM i (by omega), z_si_A, z_sa_at, pk_un (by omega)]
    have mL : g_A B 1 (2 * L) = nI c := by rw [bM _ (by omega), z_si_A, z_sa_at, pk_us]
    obtain ⟨y1, y2, y3, y4, y5, y6, y7, y8, y9⟩ := x4 q hq
    rw [h5]
    refine ⟨y1, y2, y3, (mk _ (by omega)).trans y4, (mk _ (by omega)).trans y5, ?_, y6, y7, y8, y9⟩
    by_cases e : q + 1 < L
    · rw [show 2 * q + 2 = 2 * (q + 1) by omega, mk _ (by omega)]
      exact (x4 (q + 1) e).2.2.2.1
    · have e' : q + 1 = L := by omega
      rw [show 2 * q + 2 = 2 * (q + 1) by omega, e', mL, x3]
section UL
variable {f : Nat → Int32} {N r : Nat}
theorem z_readUL {t : g_S} : ∀ (m L fu fu' : Nat) (j d : g_S) (σ : r_S) (k p i c mm : Nat) (K V a b : Nat → Nat), L + m = 12 → m + 1 < fu → m + 1 < fu' → z_y d σ f N k p i → z_cj j σ r c mm K V → c ≤ k → z_cc j σ r L c K a b → r_I σ 14 = nI L → ∃ e j' d' σ', t_X7_read_26 fu j d t 1 (nI L) = some (e, j', d') ∧ (t_X12_clauseHere σ).bind (fun x => t_X12_readsAll_35 fu' x.2 x.1) = some (if e = 0 then 1 else 0, σ') ∧ r_I σ' 9 = e ∧ r_I σ' 1 = 0 ∧ z_f5 r σ σ' ∧ g_P j' = g_P j ∧ g_P d' = g_P d ∧ (e = 0 → z_fi j' σ' r) := by
  intro m
  induction m with
  | zero =>
    intro L fu fu' j d σ k p i c mm K V a b hm hf hf' Y C hc H h14
    obtain ⟨fu, rfl⟩ : ∃ g, fu = g + 2 := ⟨fu - 2, by omega⟩
    obtain ⟨fu', rfl⟩ : ∃ g, fu' = g + 2 := ⟨fu' - 2, by omega⟩
    obtain ⟨rc, j1, d1, rr, σ1, c1, c2, c3, c4, c5, c6⟩ := z_clauseU Y C hc (by omega) H h14
    rcases c6 with ⟨-, -, h, -⟩ | ⟨rfl, rfl, e, x, D, h9, h4, hx⟩
    · omega
    · have b8 : g_I d1 8 = e ∧ e ≠ 0 := by
        obtain ⟨T, k, -, -, -, -, r5, r6⟩ := D
        exact ⟨r5, r6⟩
      obtain ⟨j2, m1, m2⟩ := z_mark_any h4 hx
      refine ⟨e, j2, d1, r_si σ1 1 0, ?_, ?_, (z_rsiIn (by decide)).trans h9, z_rsiI _ _ _, z_f5_trans c3 (z_f5_si _ (Or.inl rfl) _), m2.trans c4, c5, fun h => absurd h b8.2⟩
      · rw [t_X7_read_26, if_neg (by decide), if_neg (show ¬ (12 : Int32) < nI L from nI_nlt (a := 12) (by omega) (by decide)), c1, Option.bind_some]
        try dsimp only
        rw [if_pos rfl]
        unfold t_X7_read_58 t_X7_read_59
        rw [t_X7_read_26, if_pos rfl]
        unfold t_X7_read_66
        rw [m1, Option.bind_some]
        try dsimp only
        rw [b8.1]
      · rw [c2, Option.bind_some]
        try dsimp only
        rw [t_X12_readsAll_35, if_pos rfl]
        unfold t_X12_readsAll_66
        rw [if_pos rfl, z_88, h9]
  | succ m ih =>
    intro L fu fu' j d σ k p i c mm K V a b hm hf hf' Y C hc H h14
    obtain ⟨fu, rfl⟩ : ∃ g, fu = g + 2 := ⟨fu - 2, by omega⟩
    obtain ⟨fu', rfl⟩ : ∃ g, fu' = g + 2 := ⟨fu' - 2, by omega⟩
    obtain ⟨rc, j1, d1, rr, σ1, c1, c2, c3, c4, c5, c6⟩ := z_clauseU Y C hc (by omega) H h14
    have eC : t_X7_read_26 (fu + 2) j d t 1 (nI L) = if rc = 0 then t_X7_read_58 (t_X7_read_26 (fu + 1)) j1 d1 t (nI L) else (t_X3_goesOn d1).bind fun x => if x.1 = 0 then t_X7_read_58 (t_X7_read_26 (fu + 1)) j1 x.2 t (nI L) else t_X7_read_59 (t_X7_read_26 (fu + 1)) j1 x.2 t (nI L) 1 := by
      rw [t_X7_read_26, if_neg (by decide), if_neg (show ¬ (12 : Int32) < nI L from nI_nlt (a := 12) (by omega) (by decide)), c1, Option.bind_some]
    have e58 : ∀ (d : g_S), t_X7_read_58 (t_X7_read_26 (fu + 1)) j1 d t (nI L) = (t_X7_mark j1).bind fun j8 => some (g_I d 8, j8, d) := fun d => by
      unfold t_X7_read_58 t_X7_read_59
      rw [t_X7_read_26, if_pos rfl]
      rfl
    rw [eC, c2, Option.bind_some]
    try dsimp only
    rcases c6 with ⟨rfl, rfl, hl, s14, k1, p1, i1, c', m1, K1, V1, a1, b1, Y1, C1, hc1, H1⟩ | ⟨rfl, rfl, e, x, D, h9, h4, hx⟩
    · rw [if_neg (show ¬ (1 : Int32) = 0 by decide)]
      rcases z_goes Y1 with ⟨d2, k2, g1, g2, g3, g4, g7⟩ | ⟨d2, σ2, e, g1, g2, g3, g4, g5, g6⟩
      · have H2 : z_cc j1 (z_nx σ1 (p1 + 1)) r (L + 1) c' K1 a1 b1 := H1
        obtain ⟨e, j3, d3, σ3, x1, x2, x3, x4, x5, x6, x7, x8⟩ := ih (L + 1) (fu + 1) (fu' + 1) j1 d2 (z_nx σ1 (p1 + 1)) k2 _ _ c' m1 K1 V1 a1 b1 (by omega) (by omega) (by omega) g3 (z_cj_so C1 (z_so_nx _ _)) (by omega) H2 (by rw [z_nxI (by decide)]; exact s14)
        refine ⟨e, j3, d3, σ3, ?_, ?_, x3, x4, z_f5_trans c3 (z_f5_trans (z_f5_so (z_so_nx _ _)) x5), x6.trans c4, x7.trans (g4.trans c5), x8⟩
        · rw [g1, Option.bind_some, if_neg (show ¬ ((1 : Int32), d2).1 = 0 from (by decide : ¬ (1 : Int32) = 0))]
          unfold t_X7_read_59
          rw [nI_1]
          exact x1
        · rw [g2 (fu' + 1)]
          exact x2
      · have ej : t_X7_mark j1 = some (g_si (g_sa j1 3 (upd (g_A j1 3) (2 * (L + 1)) (nI c'))) 4 (nI (2 * (L + 1) + 1))) := by rw [z_mark H1.2.1 (by omega), C1.2.2.2.1]
        refine ⟨e, g_si (g_sa j1 3 (upd (g_A j1 3) (2 * (L + 1)) (nI c'))) 4 (nI (2 * (L + 1) + 1)), d2, r_si σ2 1 0, ?_, g2 (fu' + 1), (z_rsiIn (by decide)).trans g4, z_rsiI _ _ _, z_f5_trans c3 (z_f5_trans (z_f5_so g5) (z_f5_si _ (Or.inl rfl) _)), ?_, g6.trans c5, fun _ => ?_⟩
        · rw [g1, Option.bind_some, if_pos (show ((0 : Int32), d2).1 = 0 from rfl), e58, ej, Option.bind_some, g3]
        · exact c4
        · exact z_fin C1 H1 (by omega) (g5.1 3) (g5.1 5) (g5.1 6)
    · have b8 : g_I d1 8 = e ∧ e ≠ 0 := by
        obtain ⟨T, k, -, -, -, -, r5, r6⟩ := D
        exact ⟨r5, r6⟩
      obtain ⟨j2, m1, m2⟩ := z_mark_any h4 hx
      rw [if_pos rfl, e58, b8.1, m1, Option.bind_some]
      refine ⟨e, j2, d1, r_si σ1 1 0, rfl, ?_, (z_rsiIn (by decide)).trans h9, z_rsiI _ _ _, z_f5_trans c3 (z_f5_si _ (Or.inl rfl) _), m2.trans c4, c5, fun h => absurd h b8.2⟩
      rw [t_X12_readsAll_35, if_pos rfl]
      unfold t_X12_readsAll_66
      rw [if_pos rfl, z_88, h9]
theorem z_readsU {t j d : g_S} {σ : r_S} (H : z_td9 t f N) (R : z_rd σ f N) (hr : r < 6) (h11 : r_I σ 11 = nI r) (h6 : r_A σ 6 r = 0) :
    ∃ e j' d' σ', t_X7_read j d t = some (e, j', d') ∧ t_X12_readsAll σ = some (if e = 0 then 1 else 0, σ') ∧ r_I σ' 9 = e ∧ r_I σ' 1 = 0 ∧ z_f5 r σ σ' ∧ g_P j' = g_P j ∧ (e = 0 → z_fi j' σ' r) := by
  obtain ⟨d1, a1, a2, a3, a4⟩ := z_start3 (d := d) H
  obtain ⟨τ, hτ⟩ : ∃ τ, τ = r_si (r_si (r_si (r_si (r_sa σ 4 (upd (r_A σ 4) r 0)) 14 0) 8 0) 9 0) 12 0 := ⟨_, rfl⟩
  have t8 : r_I τ 8 = nI 0 := by rw [hτ, z_rsiIn (by decide), z_rsiIn (by decide), z_rsiI]; rfl
  have t9 : r_I τ 9 = 0 := by rw [hτ, z_rsiIn (by decide), z_rsiI]
  have t12 : r_I τ 12 = nI 0 := by rw [hτ, z_rsiI]; rfl
  have t14 : r_I τ 14 = nI 0 := by rw [hτ, z_rsiIn (by decide), z_rsiIn (by decide), z_rsiIn (by decide), z_rsiI]; rfl
  have tI : ∀ k, k ≠ 8 → k ≠ 9 → k ≠ 12 → k ≠ 14 → r_I τ k = r_I σ k := fun k h1 h2 h3 h4 => by
    rw [hτ, z_rsiIn h3, z_rsiIn h2, z_rsiIn h1, z_rsiIn h4]; rfl
  have tA : ∀ k, k ≠ 4 → r_A τ k = r_A σ k := fun k h => by
    rw [hτ]
    exact z_rAn h
  have tA4 : r_A τ 4 = upd (r_A σ 4) r 0 := by
    rw [hτ]
    exact z_rA _ _ _
  have F : z_f5 r σ τ := by
    have F0 : z_f5 r σ (r_sa σ 4 (upd (r_A σ 4) r 0)) := ⟨fun k _ h _ _ _ => z_rAn h, fun i _ => by rw [z_rAn (by decide)], fun i h => by rw [z_rA, pk_un h], fun i _ => by rw [z_rAn (by decide)], fun i _ => by rw [z_rAn (by decide)], fun _ _ _ _ _ _ _ _ _ => rfl, rfl, rfl⟩
    rw [hτ]
    exact z_f5_trans F0 (z_f5_trans (z_f5_si _ (by omega) _) (z_f5_trans (z_f5_si _ (by omega) _) (z_f5_trans (z_f5_si _ (by omega) _) (z_f5_si _ (by omega) _))))
  have Y : z_y d1 τ f N 0 (z_S (z_u f) N 0) 0 := ⟨⟨(tA 0 (by decide)).trans R.1, (tI 1 (by decide) (by decide) (by decide) (by decide)).trans R.2.1, R.2.2⟩, t8, by omega, rfl, a2, a3, t9⟩
  obtain ⟨j0, hj0⟩ : ∃ j0, j0 = g_si (g_si (g_si j 2 0) 4 0) 8 0 := ⟨_, rfl⟩
  obtain ⟨e, j', d', σ', x1, x2, x3, x4, x5, x6, x7, x8⟩ := z_readUL (r := r) (t := t) 12 0 q_fu q_fu j0 d1 τ 0 _ _ 0 0 (fun _ => 0) (fun _ => 0) (fun _ => 0) (fun _ => 0) (by omega) (by decide) (by decide) Y
    ⟨hr, (tI 11 (by decide) (by decide) (by decide) (by decide)).trans h11, by omega, by rw [hj0, z_si_In (by decide), z_si_In (by decide), z_si_I]; rfl, by rw [tA4, pk_us]; rfl, by omega, by rw [hj0, z_si_I]; rfl, t12, fun i hi => absurd hi (Nat.not_lt_zero _)⟩ (Nat.le_refl _)
    ⟨by rw [tA 6 (by decide)]; exact h6, by rw [hj0, z_si_In (by decide), z_si_I]; rfl, rfl, fun q hq => absurd hq (Nat.not_lt_zero _)⟩ t14
  refine ⟨e, j', d', σ', ?_, ?_, x3, x4, z_f5_trans F x5, ?_, x8⟩
  · unfold t_X7_read
    try dsimp only
    rw [a1, Option.bind_some, ← hj0]
    exact x1
  · unfold t_X12_readsAll
    try dsimp only
    rw [h11, t_si_in (by omega) (by decide), Option.bind_some, ← hτ]
    exact x2
  · rw [x6, hj0]; rfl
/-- rule(), typed: c RULES stand -/
theorem z_ruleT {t j d : g_S} {σ : r_S} {c : Nat} (H : z_td9 t f N) (R : z_rd σ f N) (hc : c < 6) (h2 : r_I σ 2 = nI c) :
    ∃ e j' d' σ', t_X7_read j d t = some (e, j', d') ∧ r_I σ' 1 = 0 ∧ g_P j' = g_P j ∧
      ((e ≠ 0 ∧ t_X12_rule σ = some ((-2 : Int32) - e, σ') ∧ z_f5 c (r_si σ 11 (nI c)) σ' ∧ r_I σ' 2 = nI c) ∨ (e = 0 ∧ t_X12_rule σ = some (nI c, σ') ∧ z_fi j' σ' c ∧ r_I σ' 2 = nI (c + 1) ∧ z_f5 c (r_si σ 11 (nI c)) (r_si σ' 2 (nI c)))) := by
  obtain ⟨σ1, hσ1⟩ : ∃ σ1, σ1 = r_sa (r_si σ 11 (nI c)) 6 (upd (r_A σ 6) c 0) := ⟨_, rfl⟩
  have i1 : ∀ k, k ≠ 11 → r_I σ1 k = r_I σ k := fun k h => by rw [hσ1]; exact z_rsiIn (σ := σ) h
  have i11 : r_I σ1 11 = nI c := by rw [hσ1]; exact z_rsiI σ 11 (nI c)
  have A0 : r_A σ1 0 = r_A σ 0 := by rw [hσ1]; exact z_rAn (by decide)
  have F1 : z_f5 c (r_si σ 11 (nI c)) σ1 := by rw [hσ1]; exact z_f5_6 (r_si σ 11 (nI c)) 0
  obtain ⟨e, j', d', σ2, x1, x2, x3, x4, x5, x6, x7⟩ := z_readsU (j := j) (d := d) H (show z_rd σ1 f N from ⟨A0.trans R.1, (i1 1 (by decide)).trans R.2.1, R.2.2⟩) hc i11 (by rw [hσ1, z_rA, pk_us])
  have k2 : r_I σ2 2 = nI c := (x5.2.2.2.2.2.1 2 (by decide) (by decide) (by decide) (by decide) (by decide) (by decide) (by decide) (by decide)).trans ((i1 2 (by decide)).trans h2)
  have eR : t_X12_rule σ = if e = 0 then some (nI c, r_si σ2 2 (nI (c + 1))) else some ((-2 : Int32) - e, σ2) := by
    unfold t_X12_rule
    try dsimp only
    rw [h2, if_neg (show ¬ nI c = 6 from fun e => by have := (nI_eq (b := 6) (by omega) (by decide)).mp e; omega), z_rsiI, t_si_in hc (by decide), Option.bind_some, show r_A (r_si σ 11 (nI c)) 6 = r_A σ 6 from rfl, ← hσ1, x2, Option.bind_some]
    try dsimp only
    by_cases he : e = 0
    · rw [if_pos he, if_neg (by decide), if_pos he, k2, nI_1, z_rsiI, show (1 : Int32) = nI 1 from rfl, pk_sub (by omega), Nat.add_sub_cancel]
    · rw [if_neg he, if_pos rfl, if_neg he, x3]
  by_cases he : e = 0
  · refine ⟨e, j', d', r_si σ2 2 (nI (c + 1)), x1, (z_rsiIn (by decide)).trans x4, x6, Or.inr ⟨he, by rw [eR, if_pos he], ?_, z_rsiI _ _ _, ?_⟩⟩
    · obtain ⟨L, q, y1, y2, y3, y4, y5⟩ := x7 he
      exact ⟨L, q, y1, y2, y3, y4, fun B b0 b1 b2 b3 => z_rl_ext (y5 B b0 b1 b2 b3) (fun _ _ => rfl) (fun _ _ => rfl) rfl⟩
    · have e2 : r_si (r_si σ2 2 (nI (c + 1))) 2 (nI c) = σ2 := by
        unfold r_si
        show (va_up (va_up σ2.1 2 (nI (c + 1))) 2 (nI c), σ2.2) = σ2
        rw [bx_uu, ← k2]
        show (va_up σ2.1 2 (σ2.1 2), σ2.2) = σ2
        rw [va_up_eta]
      rw [e2]
      exact z_f5_trans F1 x5
  · exact ⟨e, j', d', σ2, x1, x4, x6, Or.inl ⟨he, by rw [eR, if_neg he], z_f5_trans F1 x5, k2⟩⟩
end UL

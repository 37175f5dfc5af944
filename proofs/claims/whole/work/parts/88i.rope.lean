/-! ===== L3: the clauses of a ROPE's text ===== -/
def z_kq (σ σ' : r_S) : Prop := (∀ k, k ≠ 7 → r_A σ' k = r_A σ k) ∧ (∀ k, k ≠ 8 → k ≠ 9 → k ≠ 10 → r_I σ' k = r_I σ k) ∧ r_L σ' = r_L σ ∧ r_D σ' = r_D σ
theorem z_kq_so {σ σ' : r_S} (S : z_so σ σ') : z_kq σ σ' := ⟨fun k _ => S.1 k, S.2⟩
theorem z_kq_trans {σ σ1 σ2 : r_S} (A : z_kq σ σ1) (B : z_kq σ1 σ2) : z_kq σ σ2 := ⟨fun k h => (B.1 k h).trans (A.1 k h), fun k h1 h2 h3 => (B.2.1 k h1 h2 h3).trans (A.2.1 k h1 h2 h3), B.2.2.1.trans A.2.2.1, B.2.2.2.trans A.2.2.2⟩
theorem z_kq_sa (σ : r_S) (g : Nat → Int32) : z_kq σ (r_sa σ 7 g) := ⟨fun k h => z_rAn h, fun _ _ _ _ => rfl, rfl, rfl⟩
def z_oo (w o : g_S) (A : Nat → Int32) (n : Nat) : Prop := z_R A n ∧ z_o o A n ∧ g_I w 1 = A 4 ∧ (A 4 = 0 ∨ A 4 = 1)
section RP
variable {d w o : g_S} {σ : r_S} {f : Nat → Int32} {N k p i : Nat}
theorem z_yb_sa (Y : z_yb d σ f N k p) (g : Nat → Int32) : z_yb d (r_sa σ 7 g) f N k p := by
  obtain ⟨y1, y2, y3, y4, y5, y6⟩ := Y
  exact ⟨⟨(z_rAn (by decide)).trans y1.1, y1.2⟩, y2, y3, y4, y5, y6⟩
theorem z_cell (w : g_S) (Y : z_yb d σ f N k p) {c a b : Nat} (hc : c < 85) (ha : a < 2 ^ 31) (hb : b < 2 ^ 31) :
    (∃ v d' σ' k' p', a ≤ v ∧ v ≤ b ∧ t_X5_readNumber w d (nI a) (nI b) = some (nI v, d') ∧ t_X12_cellHere σ (nI c) (nI a) (nI b) = some (1, σ') ∧ z_yb d' σ' f N k' p' ∧ r_A σ' 7 = upd (r_A σ 7) c (nI v) ∧ z_kq σ σ' ∧ g_P d' = g_P d) ∨
    (∃ d' σ' e, t_X5_readNumber w d (nI a) (nI b) = some (0, d') ∧ t_X12_cellHere σ (nI c) (nI a) (nI b) = some (0, σ') ∧ z_dd d' e ∧ r_I σ' 9 = e ∧ z_kq σ σ' ∧ g_P d' = g_P d) := by
  rcases z_yb_num w Y ha hb with ⟨v, d', σ', k', p', a1, a2, a3, a4, a5, a6, a7, a8, a9⟩ | ⟨d', σ', e, a1, a2, a3, a4, a5, a6⟩
  · refine Or.inl ⟨v, d', r_sa σ' 7 (upd (r_A σ' 7) c (nI v)), k', p', a1, a2, a4, ?_, z_yb_sa a6 _, ?_, z_kq_trans (z_kq_so a8) (z_kq_sa σ' _), a9⟩
    · unfold t_X12_cellHere
      rw [a5, Option.bind_some]
      try dsimp only
      rw [if_neg (by decide), a7, t_si_in hc (by decide), Option.bind_some]
    · rw [z_rA, a8.1 7]
  · refine Or.inr ⟨d', σ', e, a1, ?_, a3, a4, z_kq_so a5, a6⟩
    unfold t_X12_cellHere
    rw [a2, Option.bind_some]
    exact if_pos rfl
/-- what comes of a clause -/
def z_oc (f : Nat → Int32) (N : Nat) (d : g_S) (σ : r_S) (rc rr : Int32) (w' d' o' : g_S) (σ' : r_S) : Prop := g_P d' = g_P d ∧ z_kq σ σ' ∧ ((rc = 1 ∧ rr = 1 ∧ (∃ k p i, z_y d' σ' f N k p i) ∧ ∃ n, z_oo w' o' (r_A σ' 7) n) ∨ (rc = 0 ∧ rr = 0 ∧ ∃ e, z_dd d' e ∧ r_I σ' 9 = e))
theorem z_dd8 {e : Int32} (D : z_dd d e) : ¬ g_I d 8 = 0 := by
  obtain ⟨T, k, -, -, -, -, r5, r6⟩ := D
  rw [r5]
  exact r6
theorem z_ropeC (Y : z_y d σ f N k p p) (hk : z_k1 f N p = 711) (hA : ∀ j, j < 85 → r_A σ 7 j = 0) (h2 : g_I o 2 = 0) (h3 : g_I o 3 = 0) (hw : g_I w 1 = 0) :
    ∃ rc d' o' rr σ', t_X5_readRope w d o = some (rc, d', o') ∧ t_X12_isRopeHere σ (nI p) = some (rr, σ') ∧ z_oc f N d σ rc rr w d' o' σ' := by
  obtain ⟨p1, p2⟩ := z_y_pass Y (j := 11) hk
  have eR : t_X12_isRopeHere σ (nI p) = (t_X12_cellHere (z_nx σ (z_nd f N p)) 1 1 60).bind fun x => if x.1 = 0 then some (0, x.2) else (t_X12_cellHere x.2 2 0 9).bind fun x => if x.1 = 0 then some (0, x.2) else (t_si 85 x.2 7 0 1).bind fun σ12 => some (1, σ12) := by
    unfold t_X12_isRopeHere
    rw [show (0 : Int32) = nI 0 from rfl, t_ai_in (by decide) (by decide), Option.bind_some, hA 0 (by decide), if_pos (by decide), p1, Option.bind_some]
    try rfl
  have S0 : z_kq σ (z_nx σ (z_nd f N p)) := z_kq_so (z_so_nx _ _)
  unfold t_X5_readRope
  rw [eR]
  rcases z_cell w p2 (c := 1) (a := 1) (b := 60) (by decide) (by decide) (by decide) with ⟨v1, d1, σ1, k1, q1, a1, a2, a3, a4, a5, a6, a7, a8⟩ | ⟨d1, σ1, e, a1, a2, a3, a4, a5, a6⟩
  · rw [show t_X5_readNumber w d 1 60 = some (nI v1, d1) from a3, Option.bind_some, show t_X12_cellHere (z_nx σ (z_nd f N p)) 1 1 60 = some (1, σ1) from a4, Option.bind_some, if_neg (show ¬ ((1 : Int32), σ1).1 = 0 from (by decide : ¬ (1 : Int32) = 0))]
    try dsimp only
    rcases z_cell w a5 (c := 2) (a := 0) (b := 9) (by decide) (by decide) (by decide) with ⟨v2, d2, σ2, k2, q2, b1, b2, b3, b4, b5, b6, b7, b8⟩ | ⟨d2, σ2, e, b1, b2, b3, b4, b5, b6⟩
    · obtain ⟨d3, n1, n2, n3⟩ := z_yb_next (z_yb_sa b5 (upd (r_A σ2 7) 0 1))
      rw [show t_X5_readNumber w d1 0 9 = some (nI v2, d2) from b3, Option.bind_some, show t_X12_cellHere σ1 2 0 9 = some (1, σ2) from b4, Option.bind_some, if_neg (show ¬ ((1 : Int32), σ2).1 = 0 from (by decide : ¬ (1 : Int32) = 0))]
      try dsimp only
      rw [n1, Option.bind_some, if_pos n2.2.2.2.2.2.1, show t_si 85 σ2 7 0 1 = some (r_sa σ2 7 (upd (r_A σ2 7) 0 1)) from t_si_in (j := 0) (by decide) (by decide), Option.bind_some]
      refine ⟨_, _, _, _, _, rfl, rfl, n3.trans (b8.trans a8), z_kq_trans S0 (z_kq_trans a7 (z_kq_trans b7 (z_kq_sa _ _))), Or.inl ⟨rfl, rfl, ⟨_, _, _, n2⟩, 0, ?_⟩⟩
      have eA : ∀ j, r_A (r_sa σ2 7 (upd (r_A σ2 7) 0 1)) 7 j = if j = 0 then 1 else if j = 2 then nI v2 else if j = 1 then nI v1 else r_A σ 7 j := fun j => by
        rw [z_rA, b6, a6, z_nxA]
        unfold upd
        rfl
      have eN : ∀ j, j ≠ 0 → j ≠ 1 → j ≠ 2 → j < 85 → r_A (r_sa σ2 7 (upd (r_A σ2 7) 0 1)) 7 j = 0 := fun j j0 j1 j2 j3 => by
        rw [eA, if_neg j0, if_neg j2, if_neg j1]
        exact hA j j3
      have e1 := (eA 1).trans ((if_neg (by decide)).trans ((if_neg (by decide)).trans (if_pos rfl)))
      have e2 := (eA 2).trans ((if_neg (by decide)).trans (if_pos rfl))
      have e4 := eN 4 (by decide) (by decide) (by decide) (by decide)
      have e84 := eN 84 (by decide) (by decide) (by decide) (by decide)
      refine ⟨⟨by decide, (eA 0).trans (if_pos rfl), eN 3 (by decide) (by decide) (by decide) (by decide), ⟨v1, a1, a2, e1⟩, ⟨v2, b2, e2⟩, ?_, fun p hp => absurd hp (by omega)⟩, ⟨?_, ?_, ?_, ?_, fun p hp => absurd hp (by omega)⟩, hw.trans e4.symm, Or.inl e4⟩
      · rw [e84]
        decide
      · rw [z_si_In (by decide), z_si_In (by decide)]; exact h3
      · rw [z_si_In (by decide), z_si_I]; exact e1.symm
      · rw [z_si_I]; exact e2.symm
      · rw [z_si_In (by decide), z_si_In (by decide), h2]; exact e84.symm
    · obtain ⟨d3, n1, n2, n3⟩ := z_dd_next b3
      rw [show t_X5_readNumber w d1 0 9 = some (0, d2) from b1, Option.bind_some, show t_X12_cellHere σ1 2 0 9 = some (0, σ2) from b2, Option.bind_some, if_pos (show ((0 : Int32), σ2).1 = 0 from rfl)]
      try dsimp only
      rw [n1, Option.bind_some, if_neg (z_dd8 n2)]
      exact ⟨_, _, _, _, _, rfl, rfl, n3.trans (b6.trans a8), z_kq_trans S0 (z_kq_trans a7 b5), Or.inr ⟨rfl, rfl, e, n2, b4⟩⟩
  · obtain ⟨d3, n1, n2, n3⟩ := z_dd_next a3
    rw [show t_X5_readNumber w d 1 60 = some (0, d1) from a1, Option.bind_some, show t_X12_cellHere (z_nx σ (z_nd f N p)) 1 1 60 = some (0, σ1) from a2, Option.bind_some, if_pos (show ((0 : Int32), σ1).1 = 0 from rfl)]
    try dsimp only
    rw [z_dd_num a3, Option.bind_some]
    try dsimp only
    rw [n1, Option.bind_some, if_neg (z_dd8 n2)]
    exact ⟨_, _, _, _, _, rfl, rfl, n3.trans a6, z_kq_trans S0 a5, Or.inr ⟨rfl, rfl, e, n2, a4⟩⟩
/-- one PULLER more -/
theorem z_oo_more {A : Nat → Int32} {n : Nat} (O : z_oo w o A n) (hn : n < 8) {v1 v2 v3 v4 : Nat} (b1 : v1 ≤ 1) (b2 : 1 ≤ v2 ∧ v2 ≤ 40) (b3 : v3 ≤ 60) (b4 : v4 ≤ 9) {B : Nat → Int32}
    (hB : ∀ j, B j = if j = 3 then nI (n + 1) else if j = 60 + n then nI v4 else if j = 76 + n then nI v3 else if j = 52 + n then nI v2 else if j = 68 + n then nI v1 else A j) :
    z_oo w (g_si (g_sa (g_sa (g_sa (g_sa o 4 (upd (g_A o 4) n (nI v1))) 5 (upd (g_A o 5) n (nI v2))) 6 (upd (g_A o 6) n (nI v3))) 7 (upd (g_A o 7) n (nI v4))) 3 (nI (n + 1))) B (n + 1) := by
  obtain ⟨⟨r1, r2, r3, r4, r5, r6, r7⟩, ⟨o1, o2, o3, o4, o5⟩, w1, w2⟩ := O
  have hl : ∀ j, j ≠ 3 → (j < 52 ∨ 83 < j) → B j = A j := fun j h1 h2 => by
    rw [hB, if_neg h1, if_neg (by omega), if_neg (by omega), if_neg (by omega), if_neg (by omega)]
  have h3 : B 3 = nI (n + 1) := (hB 3).trans (if_pos rfl)
  have hp1 : ∀ p, p < n → B (68 + p) = A (68 + p) ∧ B (52 + p) = A (52 + p) ∧ B (76 + p) = A (76 + p) ∧ B (60 + p) = A (60 + p) := fun p hp => by
    refine ⟨?_, ?_, ?_, ?_⟩ <;> (rw [hB, if_neg (by omega), if_neg (by omega), if_neg (by omega), if_neg (by omega), if_neg (by omega)])
  have n68 : B (68 + n) = nI v1 := by rw [hB, if_neg (by omega), if_neg (by omega), if_neg (by omega), if_neg (by omega), if_pos rfl]
  have n52 : B (52 + n) = nI v2 := by rw [hB, if_neg (by omega), if_neg (by omega), if_neg (by omega), if_pos rfl]
  have n76 : B (76 + n) = nI v3 := by rw [hB, if_neg (by omega), if_neg (by omega), if_pos rfl]
  have n60 : B (60 + n) = nI v4 := by rw [hB, if_neg (by omega), if_pos rfl]
  have c4 : B 4 = A 4 := hl 4 (by decide) (by omega)
  refine ⟨⟨by omega, ?_, h3, ?_, ?_, ?_, fun p hp => ?_⟩, ⟨?_, ?_, ?_, ?_, fun p hp => ?_⟩, ?_, ?_⟩
  · rw [hl 0 (by decide) (by omega)]; exact r2
  · rw [hl 1 (by decide) (by omega)]; exact r4
  · rw [hl 2 (by decide) (by omega)]; exact r5
  · rw [hl 84 (by decide) (by omega)]; exact r6
  · by_cases e : p < n
    · obtain ⟨x1, x2, x3, x4⟩ := hp1 p e
      rw [x1, x2, x3, x4]
      exact r7 p e
    · obtain rfl : p = n := by omega
      rw [n68, n52, n76, n60]
      exact ⟨⟨v1, b1, rfl⟩, ⟨v2, b2.1, b2.2, rfl⟩, ⟨v3, b3, rfl⟩, ⟨v4, b4, rfl⟩⟩
  · exact z_si_I _ _ _
  · rw [z_si_In (by decide), hl 1 (by decide) (by omega)]; exact o2
  · rw [z_si_In (by decide), hl 2 (by decide) (by omega)]; exact o3
  · rw [z_si_In (by decide), hl 84 (by decide) (by omega)]; exact o4
  · rw [z_si_A, z_sa_at, z_sa_of (show 6 ≠ 7 by decide), z_sa_at, z_sa_of (show 5 ≠ 7 by decide), z_sa_of (show 5 ≠ 6 by decide), z_sa_at, z_sa_of (show 4 ≠ 7 by decide), z_sa_of (show 4 ≠ 6 by decide), z_sa_of (show 4 ≠ 5 by decide), z_sa_at]
    by_cases e : p < n
    · obtain ⟨x1, x2, x3, x4⟩ := hp1 p e
      rw [x1, x2, x3, x4, pk_un (by omega), pk_un (by omega), pk_un (by omega), pk_un (by omega)]
      exact o5 p e
    · obtain rfl : p = n := by omega
      rw [n68, n52, n76, n60, pk_us, pk_us, pk_us, pk_us]
      exact ⟨rfl, rfl, rfl, rfl⟩
  · rw [c4]; exact w1
  · rw [c4]; exact w2
theorem z_pullC {n : Nat} (Y : z_y d σ f N k p p) (hk : z_k1 f N p = 700) (O : z_oo w o (r_A σ 7) n) (hn : n < 8) :
    ∃ rc d' o' rr σ', t_X5_readPuller w d o = some (rc, d', o') ∧ t_X12_isPullerHere σ (nI p) = some (rr, σ') ∧ z_oc f N d σ rc rr w d' o' σ' := by
  obtain ⟨p1, p2⟩ := z_y_pass Y (j := 0) hk
  have h3 : r_A σ 7 3 = nI n := O.1.2.2.1
  have o3 : g_I o 3 = nI n := O.2.1.1
  have eR : t_X12_isPullerHere σ (nI p) = (t_X12_cellHere (z_nx σ (z_nd f N p)) (nI (68 + n)) (nI 0) (nI 1)).bind fun x => if x.1 = 0 then some (0, x.2) else (t_X12_cellHere x.2 (nI (52 + n)) (nI 1) (nI 40)).bind fun x => if x.1 = 0 then some (0, x.2) else (t_X12_cellHere x.2 (nI (76 + n)) (nI 0) (nI 60)).bind fun x => if x.1 = 0 then some (0, x.2) else (t_X12_cellHere x.2 (nI (60 + n)) (nI 0) (nI 9)).bind fun x => if x.1 = 0 then some (0, x.2) else (t_ai 85 (r_A x.2 7) (nI 3)).bind fun v20 => (t_si 85 x.2 7 (nI 3) (v20 + 1)).bind fun σ21 => some (1, σ21) := by
    unfold t_X12_isPullerHere
    rw [show (3 : Int32) = nI 3 from rfl, t_ai_in (by decide) (by decide), Option.bind_some, h3, if_neg (show ¬ nI n = (8 : Int32) from fun e => by have := (nI_eq (b := 8) (by omega) (by decide)).mp e; omega), p1, Option.bind_some]
    try dsimp only
    rw [z_nxA, t_ai_in (by decide) (by decide), Option.bind_some, h3, z_k68, z_k52, z_k76, z_k60]
    rfl
  have S0 : z_kq σ (z_nx σ (z_nd f N p)) := z_kq_so (z_so_nx _ _)
  have eC : t_X5_readPuller w d o = (t_X5_readNumber w d (nI 0) (nI 1)).bind fun x => (u_si 8 o 4 (nI n) x.1).bind fun o2 => (t_X5_readNumber w x.2 (nI 1) (nI 40)).bind fun x => (u_si 8 o2 5 (nI n) x.1).bind fun o4 => (t_X5_readNumber w x.2 (nI 0) (nI 60)).bind fun x => (u_si 8 o4 6 (nI n) x.1).bind fun o6 => (t_X5_readNumber w x.2 (nI 0) (nI 9)).bind fun x => (u_si 8 o6 7 (nI n) x.1).bind fun o8 => (t_X3_next x.2).bind fun d10 => if g_I d10 8 = 0 then some (1, d10, g_si o8 3 (g_I o8 3 + 1)) else some (0, d10, g_si o8 3 (g_I o8 3 + 1)) := by
    unfold t_X5_readPuller
    rw [o3]
    rfl
  have i1 : ∀ (τ : r_S), ¬ ((1 : Int32), τ).1 = 0 := fun τ => (by decide : ¬ (1 : Int32) = 0)
  have i0 : ∀ (τ : r_S), ((0 : Int32), τ).1 = 0 := fun τ => rfl
  rw [eR, eC]
  rcases z_cell w p2 (c := 68 + n) (a := 0) (b := 1) (by omega) (by decide) (by decide) with ⟨v1, d1, σ1, k1, q1, a1, a2, a3, a4, a5, a6, a7, a8⟩ | ⟨d1, σ1, e, a1, a2, a3, a4, a5, a6⟩
  · rw [a3, Option.bind_some, a4, Option.bind_some, if_neg (i1 _)]
    try dsimp only
    rw [u_si_in hn (by decide), Option.bind_some]
    rcases z_cell w a5 (c := 52 + n) (a := 1) (b := 40) (by omega) (by decide) (by decide) with ⟨v2, d2, σ2, k2, q2, b1, b2, b3, b4, b5, b6, b7, b8⟩ | ⟨d2, σ2, e, b1, b2, b3, b4, b5, b6⟩
    · rw [b3, Option.bind_some, b4, Option.bind_some, if_neg (i1 _)]
      try dsimp only
      rw [u_si_in hn (by decide), Option.bind_some]
      rcases z_cell w b5 (c := 76 + n) (a := 0) (b := 60) (by omega) (by decide) (by decide) with ⟨v3, d3, σ3, k3, q3, c1, c2, c3, c4, c5, c6, c7, c8⟩ | ⟨d3, σ3, e, c1, c2, c3, c4, c5, c6⟩
      · rw [c3, Option.bind_some, c4, Option.bind_some, if_neg (i1 _)]
        try dsimp only
        rw [u_si_in hn (by decide), Option.bind_some]
        rcases z_cell w c5 (c := 60 + n) (a := 0) (b := 9) (by omega) (by decide) (by decide) with ⟨v4, d4, σ4, k4, q4, e1, e2, e3, e4, e5, e6, e7, e8⟩ | ⟨d4, σ4, e, e1, e2, e3, e4, e5, e6⟩
        · obtain ⟨d5, n1, n2, n3⟩ := z_yb_next (z_yb_sa e5 (upd (r_A σ4 7) 3 (nI (n + 1))))
          have h34 : r_A σ4 7 3 = nI n := by
            rw [e6, c6, b6, a6, z_nxA, pk_un (by omega), pk_un (by omega), pk_un (by omega), pk_un (by omega)]
            exact h3
          rw [e3, Option.bind_some, e4, Option.bind_some, if_neg (i1 _)]
          try dsimp only
          rw [u_si_in hn (by decide), Option.bind_some, n1, Option.bind_some, if_pos n2.2.2.2.2.2.1, t_ai_in (by decide) (by decide), Option.bind_some, h34, nI_1, t_si_in (by decide) (by decide), Option.bind_some]
          refine ⟨_, _, _, _, _, rfl, rfl, n3.trans (e8.trans (c8.trans (b8.trans a8))), z_kq_trans S0 (z_kq_trans a7 (z_kq_trans b7 (z_kq_trans c7 (z_kq_trans e7 (z_kq_sa _ _))))), Or.inl ⟨rfl, rfl, ⟨_, _, _, n2⟩, n + 1, ?_⟩⟩
          rw [z_sa_of (show 5 ≠ 4 by decide), z_sa_of (show 6 ≠ 5 by decide), z_sa_of (show 6 ≠ 4 by decide), z_sa_of (show 7 ≠ 6 by decide), z_sa_of (show 7 ≠ 5 by decide), z_sa_of (show 7 ≠ 4 by decide)]
          rw [show g_I (g_sa (g_sa (g_sa (g_sa o 4 (upd (g_A o 4) n (nI v1))) 5 (upd (g_A o 5) n (nI v2))) 6 (upd (g_A o 6) n (nI v3))) 7 (upd (g_A o 7) n (nI v4))) 3 + 1 = nI (n + 1) from by rw [← nI_1, ← o3]; rfl]
          refine z_oo_more O hn a2 ⟨b1, b2⟩ c2 e2 (fun j => ?_)
          rw [z_rA, e6, c6, b6, a6, z_nxA]
          unfold upd
          rfl
        · obtain ⟨d5, n1, n2, n3⟩ := z_dd_next e3
          rw [e1, Option.bind_some, e2, Option.bind_some, if_pos (i0 _)]
          try dsimp only
          rw [u_si_in hn (by decide), Option.bind_some, n1, Option.bind_some, if_neg (z_dd8 n2)]
          exact ⟨_, _, _, _, _, rfl, rfl, n3.trans (e6.trans (c8.trans (b8.trans a8))), z_kq_trans S0 (z_kq_trans a7 (z_kq_trans b7 (z_kq_trans c7 e5))), Or.inr ⟨rfl, rfl, e, n2, e4⟩⟩
      · obtain ⟨d5, n1, n2, n3⟩ := z_dd_next c3
        rw [c1, Option.bind_some, c2, Option.bind_some, if_pos (i0 _)]
        try dsimp only
        rw [u_si_in hn (by decide), Option.bind_some, z_dd_num c3, Option.bind_some]
        try dsimp only
        rw [u_si_in hn (by decide), Option.bind_some, n1, Option.bind_some, if_neg (z_dd8 n2)]
        exact ⟨_, _, _, _, _, rfl, rfl, n3.trans (c6.trans (b8.trans a8)), z_kq_trans S0 (z_kq_trans a7 (z_kq_trans b7 c5)), Or.inr ⟨rfl, rfl, e, n2, c4⟩⟩
    · obtain ⟨d5, n1, n2, n3⟩ := z_dd_next b3
      rw [b1, Option.bind_some, b2, Option.bind_some, if_pos (i0 _)]
      try dsimp only
      rw [u_si_in hn (by decide), Option.bind_some, z_dd_num b3, Option.bind_some]
      try dsimp only
      rw [u_si_in hn (by decide), Option.bind_some, z_dd_num b3, Option.bind_some]
      try dsimp only
      rw [u_si_in hn (by decide), Option.bind_some, n1, Option.bind_some, if_neg (z_dd8 n2)]
      exact ⟨_, _, _, _, _, rfl, rfl, n3.trans (b6.trans a8), z_kq_trans S0 (z_kq_trans a7 b5), Or.inr ⟨rfl, rfl, e, n2, b4⟩⟩
  · obtain ⟨d5, n1, n2, n3⟩ := z_dd_next a3
    rw [a1, Option.bind_some, a2, Option.bind_some, if_pos (i0 _)]
    try dsimp only
    rw [u_si_in hn (by decide), Option.bind_some, z_dd_num a3, Option.bind_some]
    try dsimp only
    rw [u_si_in hn (by decide), Option.bind_some, z_dd_num a3, Option.bind_some]
    try dsimp only
    rw [u_si_in hn (by decide), Option.bind_some, z_dd_num a3, Option.bind_some]
    try dsimp only
    rw [u_si_in hn (by decide), Option.bind_some, n1, Option.bind_some, if_neg (z_dd8 n2)]
    exact ⟨_, _, _, _, _, rfl, rfl, n3.trans a6, z_kq_trans S0 a5, Or.inr ⟨rfl, rfl, e, n2, a4⟩⟩
theorem z_rib1 (x y : Int32) : x - (y - 1) = (x - y) + 1 := by
  grind
theorem z_rg {v l : Nat} (hl : 1 ≤ l ∧ l ≤ 60) (hv : v ≤ 2 * l - 2) : -99 ≤ (nI v - (nI l - 1)).toInt ∧ (nI v - (nI l - 1)).toInt ≤ 99 := by
  rw [show (1 : Int32) = nI 1 from rfl, pk_sub hl.1, Int32.toInt_sub, nI_toInt (by omega), nI_toInt (by omega)]
  rw [Int.bmod_eq_of_le (by omega) (by omega)]
  omega
theorem z_ribC {n : Nat} (Y : z_y d σ f N k p p) (hk : z_k1 f N p = 707) (O : z_oo w o (r_A σ 7) n) (h4 : r_A σ 7 4 = 0) :
    ∃ rc w' d' o' rr σ', t_X5_readRibbon w d o = some (rc, w', d', o') ∧ g_P w' = g_P w ∧ t_X12_isRibbonHere σ (nI p) = some (rr, σ') ∧ z_oc f N d σ rc rr w' d' o' σ' := by
  obtain ⟨p1, p2⟩ := z_y_pass Y (j := 7) hk
  obtain ⟨⟨r1, r2, r3, ⟨l, l1, l2, r4⟩, r5, r6, r7⟩, ⟨o1, o2, o3, o4, o5⟩, w1, w2⟩ := O
  have e2l : (2 : Int32) * nI l - 2 = nI (2 * l - 2) := by
    rw [show (2 : Int32) * nI l = nI (2 * l) from pk_mul 2 l, show (2 : Int32) = nI 2 from rfl, pk_sub (by omega)]
  have eR : t_X12_isRibbonHere σ (nI p) = (t_X12_numberHere (z_nx σ (z_nd f N p)) (nI 0) (nI (2 * l - 2))).bind fun x => if x.1 = 0 then some (0, x.2) else (t_si 85 x.2 7 (nI 4) 1).bind fun σ11 => (t_ai 85 (r_A σ11 7) (nI 1)).bind fun v15 => (t_si 85 σ11 7 (nI 84) ((r_I σ11 10 - v15) + 1)).bind fun σ16 => some (1, σ16) := by
    unfold t_X12_isRibbonHere
    rw [show t_ai 85 (r_A σ 7) 4 = some (r_A σ 7 4) from t_ai_in (j := 4) (by decide) (by decide), Option.bind_some, h4, if_pos (by decide), p1, Option.bind_some, z_nxA, show t_ai 85 (r_A σ 7) 1 = some (r_A σ 7 1) from t_ai_in (j := 1) (by decide) (by decide), Option.bind_some, r4, e2l]
    rfl
  have S0 : z_kq σ (z_nx σ (z_nd f N p)) := z_kq_so (z_so_nx _ _)
  have eC : t_X5_readRibbon w d o = (t_X5_readNumber (g_si w 1 1) d (nI 0) (nI (2 * l - 2))).bind fun x => (t_X3_next x.2).bind fun d4 => if g_I d4 8 = 0 then some (1, g_si w 1 1, d4, g_si o 2 (x.1 - (nI l - 1))) else some (0, g_si w 1 1, d4, g_si o 2 (x.1 - (nI l - 1))) := by
    unfold t_X5_readRibbon
    try dsimp only
    rw [o2, r4, e2l]
    rfl
  rw [eR, eC]
  rcases z_yb_num (g_si w 1 1) p2 (a := 0) (b := 2 * l - 2) (by decide) (by omega) with ⟨v, d1, σ1, k1, q1, a1, a2, a3, a4, a5, a6, a7, a8, a9⟩ | ⟨d1, σ1, e, a1, a2, a3, a4, a5, a6⟩
  · have eA : r_A σ1 7 = r_A σ 7 := a8.1 7
    obtain ⟨d5, n1, n2, n3⟩ := z_yb_next (z_yb_sa (z_yb_sa a6 (upd (r_A σ1 7) 4 1)) (upd (upd (r_A σ1 7) 4 1) 84 (nI v - nI l + 1)))
    rw [a4, Option.bind_some, a5, Option.bind_some, if_neg (show ¬ ((1 : Int32), σ1).1 = 0 from (by decide : ¬ (1 : Int32) = 0))]
    try dsimp only
    rw [n1, Option.bind_some, if_pos n2.2.2.2.2.2.1, t_si_in (by decide) (by decide), Option.bind_some, z_rA, t_ai_in (by decide) (by decide), Option.bind_some, show r_I (r_sa σ1 7 (upd (r_A σ1 7) 4 1)) 10 = nI v from a7, pk_un (by decide), eA, r4, t_si_in (by decide) (by decide), Option.bind_some, z_rA]
    rw [eA] at n2
    refine ⟨_, _, _, _, _, _, rfl, rfl, rfl, n3.trans a9, z_kq_trans S0 (z_kq_trans (z_kq_so a8) (z_kq_trans (z_kq_sa _ _) (z_kq_sa _ _))), Or.inl ⟨rfl, rfl, ⟨_, _, _, n2⟩, n, ?_⟩⟩
    have hB : ∀ j, r_A (r_sa (r_sa σ1 7 (upd (r_A σ 7) 4 1)) 7 (upd (upd (r_A σ 7) 4 1) 84 (nI v - nI l + 1))) 7 j = if j = 84 then nI v - nI l + 1 else if j = 4 then 1 else r_A σ 7 j := fun j => by
      rw [z_rA]
      unfold upd
      rfl
    have hl : ∀ j, j ≠ 4 → j ≠ 84 → r_A (r_sa (r_sa σ1 7 (upd (r_A σ 7) 4 1)) 7 (upd (upd (r_A σ 7) 4 1) 84 (nI v - nI l + 1))) 7 j = r_A σ 7 j := fun j h1 h2 => by
      rw [hB, if_neg h2, if_neg h1]
    have h84 := (hB 84).trans (if_pos rfl)
    have h4' := (hB 4).trans ((if_neg (by decide)).trans (if_pos rfl))
    refine ⟨⟨r1, ?_, ?_, ⟨l, l1, l2, ?_⟩, ?_, ?_, fun p hp => ?_⟩, ⟨?_, ?_, ?_, ?_, fun p hp => ?_⟩, ?_, Or.inr h4'⟩
    · rw [hl 0 (by decide) (by decide)]; exact r2
    · rw [hl 3 (by decide) (by decide)]; exact r3
    · rw [hl 1 (by decide) (by decide)]; exact r4
    · rw [hl 2 (by decide) (by decide)]; exact r5
    · rw [h84, ← z_rib1]
      exact z_rg ⟨l1, l2⟩ a2
    · rw [hl (68 + p) (by omega) (by omega), hl (52 + p) (by omega) (by omega), hl (76 + p) (by omega) (by omega), hl (60 + p) (by omega) (by omega)]
      exact r7 p hp
    · rw [z_si_In (by decide)]; exact o1
    · rw [z_si_In (by decide), hl 1 (by decide) (by decide)]; exact o2
    · rw [z_si_In (by decide), hl 2 (by decide) (by decide)]; exact o3
    · rw [z_si_I, h84, z_rib1]
    · rw [hl (68 + p) (by omega) (by omega), hl (52 + p) (by omega) (by omega), hl (76 + p) (by omega) (by omega), hl (60 + p) (by omega) (by omega)]
      exact o5 p hp
    · rw [z_si_I, h4']
  · obtain ⟨d5, n1, n2, n3⟩ := z_dd_next a3
    rw [a1, Option.bind_some, a2, Option.bind_some, if_pos (show ((0 : Int32), σ1).1 = 0 from rfl)]
    try dsimp only
    rw [n1, Option.bind_some, if_neg (z_dd8 n2)]
    exact ⟨_, _, _, _, _, _, rfl, rfl, rfl, n3.trans a6, z_kq_trans S0 (z_kq_so a5), Or.inr ⟨rfl, rfl, e, n2, a4⟩⟩
end RP

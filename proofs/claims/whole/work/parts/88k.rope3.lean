/-! ===== L3: a ROPE's text is read to its end ===== -/
section RL
variable {f : Nat → Int32} {N : Nat}
theorem z_88 (σ : r_S) : t_X12_readsAll_88 σ = some (if r_I σ 9 = 0 then 1 else 0, r_si σ 1 0) := by
  unfold t_X12_readsAll_88
  try dsimp only
  rw [z_rsiIn (by decide)]
  by_cases c : r_I σ 9 = 0
  · rw [if_pos c, if_pos c]
  · rw [if_neg c, if_neg c]
/-- behind a clause: what goes on -/
theorem z_goes {d : g_S} {σ : r_S} {k p i : Nat} (Y : z_y d σ f N k p i) :
    (∃ d' k', t_X3_goesOn d = some (1, d') ∧ (∀ fu, t_X12_readsAll_35 (fu + 1) σ 1 = (t_X12_clauseHere (z_nx σ (p + 1))).bind fun x => t_X12_readsAll_35 fu x.2 x.1) ∧ z_y d' (z_nx σ (p + 1)) f N k' (z_S (z_u f) N (p + 1)) (p + 1) ∧ g_P d' = g_P d ∧ k ≤ k') ∨
    (∃ d' σ' e, t_X3_goesOn d = some (0, d') ∧ (∀ fu, t_X12_readsAll_35 (fu + 1) σ 1 = some (if e = 0 then 1 else 0, r_si σ' 1 0)) ∧ g_I d' 8 = e ∧ r_I σ' 9 = e ∧ z_so σ σ' ∧ g_P d' = g_P d) := by
  have es := z_y_see Y
  have Y0 := z_y_nx Y
  have es0 := z_y_see Y0
  have e00 : z_nx (z_nx σ p) p = z_nx σ p := z_nxx _ _ _
  rw [e00] at es0
  obtain ⟨k6, -, hp⟩ := z_rr_k Y.2.2.2.2.1
  have kl := z_k1_lt f N p
  have s59 := z_sign (f := f) (N := N) (p := p) (c := 59) (by decide) (by omega) (by decide)
  have sno := z_none (f := f) (N := N) (p := p)
  have e66 : ¬ z_k1 f N p = 59 → ∀ fu, t_X12_readsAll_35 (fu + 1) σ 1 = t_X12_readsAll_66 (z_nx σ p) 1 := fun c fu => by
    rw [t_X12_readsAll_35, if_neg (by decide), es, Option.bind_some]
    try dsimp only
    rw [if_neg (show ¬ (if p < N then nI (z_u f p) else (-1 : Int32)) = (59 : Int32) from fun e => c (s59.mp e))]
  by_cases c59 : z_k1 f N p = 59
  · have hpN : p < N := by
      by_cases c : p < N
      · exact c
      · have := (z_k1_end f N p).mpr c
        omega
    have hnd : z_nd f N p = p + 1 := by
      have hk : z_kd f N p = 59 := by unfold z_k1 at c59; rwa [if_pos hpN] at c59
      have hu := z_u_lt f p
      rcases z_kd_cases f N p with ⟨x, h⟩ | ⟨-, -, h⟩ | ⟨x, y, ⟨h0, -, -, h⟩ | ⟨z, h⟩⟩
      · omega
      · have := z_wi_lt (z_lw f N p)
        omega
      · omega
      · unfold z_nd
        rw [if_neg x, if_neg y, if_neg z]
    have Yb : z_yb d (z_nx σ (p + 1)) f N k p := by
      obtain ⟨y1, y2, y3, y4, y5, y6, y7⟩ := Y
      exact ⟨z_rd_nx y1 _, by rw [z_nx8, hnd], hpN, y5, y6, (z_nxI (by decide)).trans y7⟩
    obtain ⟨d', n1, n2, n3⟩ := z_yb_next Yb
    rw [hnd] at n2
    refine Or.inl ⟨d', k + 1, ?_, fun fu => ?_, n2, n3, Nat.le_succ k⟩
    · unfold t_X3_goesOn
      try dsimp only
      rw [k6, c59, if_neg (show ¬ nI 59 = (600 : Int32) by decide), if_pos (show nI 59 = (59 : Int32) from rfl), n1, Option.bind_some]
    · rw [t_X12_readsAll_35, if_neg (by decide), es, Option.bind_some]
      try dsimp only
      rw [if_pos (show (if p < N then nI (z_u f p) else (-1 : Int32)) = (59 : Int32) from s59.mpr c59), z_nx_si σ p _ (by rw [z_nx8, nI_1])]
  · have e1 := e66 c59
    by_cases c6 : z_k1 f N p = 600
    · refine Or.inr ⟨d, z_nx σ p, 0, ?_, fun fu => ?_, Y.2.2.2.2.2.1, Y0.2.2.2.2.2.2, z_so_nx _ _, rfl⟩
      · unfold t_X3_goesOn
        try dsimp only
        rw [k6, c6, if_pos (show nI 600 = (600 : Int32) from rfl)]
      · rw [e1 fu]
        unfold t_X12_readsAll_66
        rw [if_neg (by decide), es0, Option.bind_some]
        try dsimp only
        rw [if_pos (sno.mpr c6), z_88, if_pos Y0.2.2.2.2.2.2, if_pos rfl]
    · obtain ⟨d', σ', e, b1, b2, b3, b4, b5, b6⟩ := z_y_bad Y0 Y0.2.2.2.2.2.2 (z_so_refl _) (show 0 ≤ 7 by decide)
      have b8 : g_I d' 8 = e := by
        obtain ⟨T, k, -, -, -, -, r5, r6⟩ := b3
        exact r5
      refine Or.inr ⟨d', σ', e, ?_, fun fu => ?_, b8, b4, z_so_trans (z_so_nx _ _) b5, b6⟩
      · unfold t_X3_goesOn
        try dsimp only
        rw [k6, if_neg (show ¬ nI (z_k1 f N p) = (600 : Int32) from fun e => c6 ((nI_eq (b := 600) (by omega) (by decide)).mp e)), if_neg (show ¬ nI (z_k1 f N p) = (59 : Int32) from fun e => c59 ((nI_eq (b := 59) (by omega) (by decide)).mp e)), show t_X3_refuse d 0 = some (0, d') from b1]
        rfl
      · rw [e1 fu]
        unfold t_X12_readsAll_66
        rw [if_neg (by decide), es0, Option.bind_some]
        try dsimp only
        rw [if_neg (fun e => c6 (sno.mp e)), z_nx8, show t_X12_fails (z_nx σ p) 0 (nI p) = some (0, σ') from b2, Option.bind_some]
        try dsimp only
        rw [z_88, b4]
theorem z_readRL {t : g_S} : ∀ (m L fu fu' : Nat) (w d o : g_S) (σ : r_S) (k p i : Nat), L + m = 40 → m + 1 < fu → m + 1 < fu' → z_y d σ f N k p i → r_I σ 11 = 6 → r_I σ 14 = nI L → z_s0 L w o (r_A σ 7) → ∃ e w' d' o' σ', t_X5_read_16 fu w d t o 1 (nI L) = some (e, w', d', o') ∧ (t_X12_clauseHere σ).bind (fun x => t_X12_readsAll_35 fu' x.2 x.1) = some (if e = 0 then 1 else 0, σ') ∧ r_I σ' 9 = e ∧ r_I σ' 1 = 0 ∧ z_kr σ σ' ∧ (e = 0 → ∃ n, z_oo w' o' (r_A σ' 7) n) := by
  intro m
  induction m with
  | zero =>
    intro L fu fu' w d o σ k p i hm hf hf' Y h11 h14 St
    obtain ⟨fu, rfl⟩ : ∃ g, fu = g + 2 := ⟨fu - 2, by omega⟩
    obtain ⟨fu', rfl⟩ : ∃ g, fu' = g + 2 := ⟨fu' - 2, by omega⟩
    obtain ⟨rc, w', d', o', rr, σ', c1, cw, c2, c3, c4, c5⟩ := z_clauseR Y h11 h14 (by omega) St
    rcases c5 with ⟨-, -, h, -⟩ | ⟨rfl, rfl, e, D, h9⟩
    · omega
    · have b8 : g_I d' 8 = e ∧ e ≠ 0 := by
        obtain ⟨T, k, -, -, -, -, r5, r6⟩ := D
        exact ⟨r5, r6⟩
      refine ⟨e, w', d', o', r_si σ' 1 0, ?_, ?_, (z_rsiIn (by decide)).trans h9, z_rsiI _ _ _, z_kr_trans c4 (z_kr_si _ (Or.inl rfl) _), fun h => absurd h b8.2⟩
      · rw [t_X5_read_16, if_neg (by decide), if_neg (show ¬ (40 : Int32) < nI L from nI_nlt (a := 40) (by omega) (by decide)), c1, Option.bind_some]
        try dsimp only
        rw [if_pos rfl]
        unfold t_X5_read_49 t_X5_read_50
        rw [t_X5_read_16, if_pos rfl]
        unfold t_X5_read_57
        rw [b8.1]
      · rw [c2, Option.bind_some]
        try dsimp only
        rw [t_X12_readsAll_35, if_pos rfl]
        unfold t_X12_readsAll_66
        rw [if_pos rfl, z_88, h9]
  | succ m ih =>
    intro L fu fu' w d o σ k p i hm hf hf' Y h11 h14 St
    obtain ⟨fu, rfl⟩ : ∃ g, fu = g + 2 := ⟨fu - 2, by omega⟩
    obtain ⟨fu', rfl⟩ : ∃ g, fu' = g + 2 := ⟨fu' - 2, by omega⟩
    obtain ⟨rc, w', d', o', rr, σ', c1, cw, c2, c3, c4, c5⟩ := z_clauseR Y h11 h14 (by omega) St
    have eC : t_X5_read_16 (fu + 2) w d t o 1 (nI L) = if rc = 0 then t_X5_read_49 (t_X5_read_16 (fu + 1)) w' d' t o' (nI L) else (t_X3_goesOn d').bind fun x => if x.1 = 0 then t_X5_read_49 (t_X5_read_16 (fu + 1)) w' x.2 t o' (nI L) else t_X5_read_50 (t_X5_read_16 (fu + 1)) w' x.2 t o' (nI L) 1 := by
      rw [t_X5_read_16, if_neg (by decide), if_neg (show ¬ (40 : Int32) < nI L from nI_nlt (a := 40) (by omega) (by decide)), c1, Option.bind_some]
    have e49 : ∀ (d' : g_S), t_X5_read_49 (t_X5_read_16 (fu + 1)) w' d' t o' (nI L) = some (g_I d' 8, w', d', o') := fun d' => by
      unfold t_X5_read_49 t_X5_read_50
      rw [t_X5_read_16, if_pos rfl]
      rfl
    rw [eC, c2, Option.bind_some]
    try dsimp only
    rcases c5 with ⟨rfl, rfl, hl, s14, ⟨k1, p1, i1, Y1⟩, O⟩ | ⟨rfl, rfl, e, D, h9⟩
    · rw [if_neg (show ¬ (1 : Int32) = 0 by decide)]
      rcases z_goes Y1 with ⟨d2, k2, g1, g2, g3, g4⟩ | ⟨d2, σ2, e, g1, g2, g3, g4, g5, g6⟩
      · obtain ⟨e, w3, d3, o3, σ3, x1, x2, x3, x4, x5, x6⟩ := ih (L + 1) (fu + 1) (fu' + 1) w' d2 o' (z_nx σ' (p1 + 1)) k2 _ _ (by omega) (by omega) (by omega) g3 (by rw [z_nxI (by decide), c4.2.1 11 (by decide) (by decide) (by decide) (by decide) (by decide)]; exact h11) (by rw [z_nxI (by decide)]; exact s14) (Or.inr ⟨by omega, O⟩)
        refine ⟨e, w3, d3, o3, σ3, ?_, ?_, x3, x4, z_kr_trans c4 (z_kr_trans (z_kr_kq (z_kq_so (z_so_nx _ _))) x5), x6⟩
        · rw [g1, Option.bind_some, if_neg (show ¬ ((1 : Int32), d2).1 = 0 from (by decide : ¬ (1 : Int32) = 0))]
          unfold t_X5_read_50
          rw [nI_1]
          exact x1
        · rw [g2 (fu' + 1)]
          exact x2
      · refine ⟨e, w', d2, o', r_si σ2 1 0, ?_, g2 (fu' + 1), (z_rsiIn (by decide)).trans g4, z_rsiI _ _ _, z_kr_trans c4 (z_kr_trans (z_kr_kq (z_kq_so g5)) (z_kr_si _ (Or.inl rfl) _)), fun _ => ?_⟩
        · rw [g1, Option.bind_some, if_pos (show ((0 : Int32), d2).1 = 0 from rfl), e49, g3]
        · rw [show r_A (r_si σ2 1 0) 7 = r_A σ' 7 from g5.1 7]
          exact O
    · have b8 : g_I d' 8 = e ∧ e ≠ 0 := by
        obtain ⟨T, k, -, -, -, -, r5, r6⟩ := D
        exact ⟨r5, r6⟩
      rw [if_pos rfl, e49, b8.1]
      refine ⟨e, w', d', o', r_si σ' 1 0, rfl, ?_, (z_rsiIn (by decide)).trans h9, z_rsiI _ _ _, z_kr_trans c4 (z_kr_si _ (Or.inl rfl) _), fun h => absurd h b8.2⟩
      rw [t_X12_readsAll_35, if_pos rfl]
      unfold t_X12_readsAll_66
      rw [if_pos rfl, z_88, h9]
/-- what a read ROPE's text leaves -/
def z_k8 (σ σ' : r_S) : Prop := (∀ k, k ≠ 4 → k ≠ 7 → r_A σ' k = r_A σ k) ∧ (∀ j, j ≠ 6 → r_A σ' 4 j = r_A σ 4 j) ∧ (∀ k, k ≠ 1 → k ≠ 8 → k ≠ 9 → k ≠ 10 → k ≠ 12 → k ≠ 14 → r_I σ' k = r_I σ k) ∧ r_L σ' = r_L σ ∧ r_D σ' = r_D σ
theorem z_readsR {t w d o : g_S} {σ : r_S} (H : z_td9 t f N) (R : z_rd σ f N) (h11 : r_I σ 11 = 6) (hA : ∀ j, j < 85 → r_A σ 7 j = 0) (h2 : g_I o 2 = 0) (h3 : g_I o 3 = 0) :
    ∃ e w' d' o' σ', t_X5_read w d t o = some (e, w', d', o') ∧ t_X12_readsAll σ = some (if e = 0 then 1 else 0, σ') ∧ r_I σ' 9 = e ∧ r_I σ' 1 = 0 ∧ z_k8 σ σ' ∧ (e = 0 → ∃ n, z_oo w' o' (r_A σ' 7) n) := by
  obtain ⟨d1, a1, a2, a3, a4⟩ := z_start3 (d := d) H
  have hτ : ∃ τ, τ = r_si (r_si (r_si (r_si (r_sa σ 4 (upd (r_A σ 4) 6 0)) 14 0) 8 0) 9 0) 12 0 := ⟨_, rfl⟩
  obtain ⟨τ, hτ⟩ := hτ
  have t8 : r_I τ 8 = nI 0 := by rw [hτ, z_rsiIn (by decide), z_rsiIn (by decide), z_rsiI]; rfl
  have t9 : r_I τ 9 = 0 := by rw [hτ, z_rsiIn (by decide), z_rsiI]
  have t14 : r_I τ 14 = nI 0 := by rw [hτ, z_rsiIn (by decide), z_rsiIn (by decide), z_rsiIn (by decide), z_rsiI]; rfl
  have tI : ∀ k, k ≠ 8 → k ≠ 9 → k ≠ 12 → k ≠ 14 → r_I τ k = r_I σ k := fun k h1 h2 h3 h4 => by
    rw [hτ, z_rsiIn h3, z_rsiIn h2, z_rsiIn h1, z_rsiIn h4]; rfl
  have tA : ∀ k, k ≠ 4 → r_A τ k = r_A σ k := fun k h => by
    rw [hτ]
    exact z_rAn h
  have tA4 : r_A τ 4 = upd (r_A σ 4) 6 0 := by
    rw [hτ]
    exact z_rA _ _ _
  have tL : r_L τ = r_L σ ∧ r_D τ = r_D σ := by rw [hτ]; exact ⟨rfl, rfl⟩
  have Y : z_y d1 τ f N 0 (z_S (z_u f) N 0) 0 := ⟨⟨(tA 0 (by decide)).trans R.1, (tI 1 (by decide) (by decide) (by decide) (by decide)).trans R.2.1, R.2.2⟩, t8, by omega, rfl, a2, a3, t9⟩
  obtain ⟨e, w', d', o', σ', x1, x2, x3, x4, x5, x6⟩ := z_readRL (t := t) 40 0 q_fu q_fu (g_si w 1 0) d1 o τ 0 _ _ (by omega) (by decide) (by decide) Y ((tI 11 (by decide) (by decide) (by decide) (by decide)).trans h11) t14 (Or.inl ⟨rfl, fun j hj => by rw [tA 7 (by decide)]; exact hA j hj, h2, h3, z_si_I _ _ _⟩)
  refine ⟨e, w', d', o', σ', ?_, ?_, x3, x4, ⟨fun k h1 h2 => (x5.1 k h2).trans (tA k h1), fun j hj => ?_, fun k h1 h2 h3 h4 h5 h6 => (x5.2.1 k h1 h2 h3 h4 h6).trans (tI k h2 h3 h5 h6), x5.2.2.1.trans tL.1, x5.2.2.2.trans tL.2⟩, x6⟩
  · unfold t_X5_read
    try dsimp only
    rw [a1, Option.bind_some]
    exact x1
  · unfold t_X12_readsAll
    try dsimp only
    rw [h11, show t_si 7 σ 4 6 0 = some (r_sa σ 4 (upd (r_A σ 4) 6 0)) from t_si_in (j := 6) (by decide) (by decide), Option.bind_some, ← hτ]
    exact x2
  · rw [x5.1 4 (by decide), tA4, pk_un hj]
end RL

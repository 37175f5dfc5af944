/-! ===== L3: a ROPE's text is read ===== -/
def z_kr (σ σ' : r_S) : Prop := (∀ k, k ≠ 7 → r_A σ' k = r_A σ k) ∧ (∀ k, k ≠ 1 → k ≠ 8 → k ≠ 9 → k ≠ 10 → k ≠ 14 → r_I σ' k = r_I σ k) ∧ r_L σ' = r_L σ ∧ r_D σ' = r_D σ
theorem z_kr_trans {σ σ1 σ2 : r_S} (A : z_kr σ σ1) (B : z_kr σ1 σ2) : z_kr σ σ2 := ⟨fun k h => (B.1 k h).trans (A.1 k h), fun k h1 h2 h3 h4 h5 => (B.2.1 k h1 h2 h3 h4 h5).trans (A.2.1 k h1 h2 h3 h4 h5), B.2.2.1.trans A.2.2.1, B.2.2.2.trans A.2.2.2⟩
theorem z_kr_kq {σ σ' : r_S} (S : z_kq σ σ') : z_kr σ σ' := ⟨S.1, fun k _ h1 h2 h3 _ => S.2.1 k h1 h2 h3, S.2.2⟩
theorem z_kr_si (σ : r_S) {j : Nat} (h : j = 1 ∨ j = 14) (v : Int32) : z_kr σ (r_si σ j v) := ⟨fun _ _ => rfl, fun k h1 _ _ _ h5 => z_rsiIn (by omega), rfl, rfl⟩
def z_s0 (L : Nat) (w o : g_S) (A : Nat → Int32) : Prop := (L = 0 ∧ (∀ j, j < 85 → A j = 0) ∧ g_I o 2 = 0 ∧ g_I o 3 = 0 ∧ g_I w 1 = 0) ∨ (0 < L ∧ ∃ n, z_oo w o A n)
theorem z_fits (L : Nat) (hL : L ≤ 40) : m_X5_fits (nI L) = some (if 0 < L ∧ L < 40 then 1 else 0) := by
  unfold m_X5_fits
  by_cases c : 0 < L
  · rw [if_neg (show ¬ nI L ≤ (0 : Int32) from nI_ge (b := L) (a := 0) c (by omega))]
    by_cases c2 : L < 40
    · rw [if_neg (show ¬ (40 : Int32) ≤ nI L from nI_ge (b := 40) c2 (by decide)), if_pos ⟨c, c2⟩]
    · rw [if_pos (show (40 : Int32) ≤ nI L from nI_le (a := 40) (by omega) (by omega)), if_neg (fun e => c2 e.2)]
  · rw [if_pos (show nI L ≤ (0 : Int32) from nI_le (b := 0) (by omega) (by decide)), if_neg (fun e => c e.1)]
section RQ
variable {d w o : g_S} {σ : r_S} {f : Nat → Int32} {N k p i : Nat}
theorem z_y_14 (Y : z_y d σ f N k p i) (v : Int32) : z_y d (r_si σ 14 v) f N k p i := by
  obtain ⟨y1, y2, y3, y4, y5, y6, y7⟩ := Y
  exact ⟨⟨y1.1, (z_rsiIn (by decide)).trans y1.2.1, y1.2.2⟩, (z_rsiIn (by decide)).trans y2, y3, y4, y5, y6, (z_rsiIn (by decide)).trans y7⟩
theorem z_clauseR {L : Nat} (Y : z_y d σ f N k p i) (h11 : r_I σ 11 = 6) (h14 : r_I σ 14 = nI L) (hL : L ≤ 40) (St : z_s0 L w o (r_A σ 7)) :
    ∃ rc w' d' o' rr σ', t_X5_readClause w d o (nI L) = some (rc, w', d', o') ∧ g_P w' = g_P w ∧ t_X12_clauseHere σ = some (rr, σ') ∧ g_P d' = g_P d ∧ z_kr σ σ' ∧ ((rc = 1 ∧ rr = 1 ∧ L < 40 ∧ r_I σ' 14 = nI (L + 1) ∧ (∃ k p i, z_y d' σ' f N k p i) ∧ ∃ n, z_oo w' o' (r_A σ' 7) n) ∨ (rc = 0 ∧ rr = 0 ∧ ∃ e, z_dd d' e ∧ r_I σ' 9 = e)) := by
  have es := z_y_see Y
  have Y0 := z_y_nx Y
  have Y1 := z_y_14 Y0 (nI (L + 1))
  obtain ⟨k6, -, hp⟩ := z_rr_k Y.2.2.2.2.1
  have kl := z_k1_lt f N p
  have kr0 : z_kr σ (z_nx σ p) := z_kr_kq (z_kq_so (z_so_nx _ _))
  have kr1 : z_kr σ (r_si (z_nx σ p) 14 (nI (L + 1))) := z_kr_trans kr0 (z_kr_si _ (Or.inr rfl) _)
  generalize hτ0 : z_nx σ p = τ0 at es Y0 Y1 kr0 kr1
  have e0 : z_nx τ0 p = τ0 := z_nx_eta Y0.2.1
  have A0 : r_A τ0 7 = r_A σ 7 := by rw [← hτ0]; rfl
  have h140 : r_I τ0 14 = nI L := by rw [← hτ0, z_nxI (by decide)]; exact h14
  have h110 : r_I τ0 11 = 6 := by rw [← hτ0, z_nxI (by decide)]; exact h11
  have h80 : r_I τ0 8 = nI p := Y0.2.1
  generalize hτ : r_si τ0 14 (nI (L + 1)) = τ at Y1 kr1
  have e1 : z_nx τ p = τ := z_nx_eta Y1.2.1
  have A1 : r_A τ 7 = r_A σ 7 := by rw [← hτ]; exact A0
  have h141 : r_I τ 14 = nI (L + 1) := by rw [← hτ, z_rsiI]
  generalize hK : z_k1 f N p = K at *
  have c11 : (1919905893 : Int64) = lN (z_fd [114, 111, 112, 101]) := by decide +kernel
  have c0 : (123649632527730 : Int64) = lN (z_fd [112, 117, 108, 108, 101, 114]) := by decide +kernel
  have c7 : (125796947750766 : Int64) = lN (z_fd [114, 105, 98, 98, 111, 110]) := by decide +kernel
  have w11 : ∀ {τ' : r_S}, z_y d τ' f N k p p → t_X12_isWord τ' 1919905893 = some (if K = 711 then 1 else 0, τ') := fun {τ'} Y => by
    have := z_y_isW Y 11 (w := [114, 111, 112, 101]) rfl c11
    rw [hK, z_nx_eta Y.2.1] at this
    exact this
  have w0 : ∀ {τ' : r_S}, z_y d τ' f N k p p → t_X12_isWord τ' 123649632527730 = some (if K = 700 then 1 else 0, τ') := fun {τ'} Y => by
    have := z_y_isW Y 0 (w := [112, 117, 108, 108, 101, 114]) rfl c0
    rw [hK, z_nx_eta Y.2.1] at this
    exact this
  have w7 : ∀ {τ' : r_S}, z_y d τ' f N k p p → t_X12_isWord τ' 125796947750766 = some (if K = 707 then 1 else 0, τ') := fun {τ'} Y => by
    have := z_y_isW Y 7 (w := [114, 105, 98, 98, 111, 110]) rfl c7
    rw [hK, z_nx_eta Y.2.1] at this
    exact this
  have eW : t_X12_isRopeWord τ0 = some (if K = 711 ∨ K = 700 ∨ K = 707 then 1 else 0, τ0) := by
    unfold t_X12_isRopeWord
    rw [w11 Y0, Option.bind_some]
    try dsimp only
    by_cases k11 : K = 711
    · rw [if_pos k11, if_neg (by decide), if_pos (Or.inl k11)]
    · rw [if_neg k11, if_pos rfl, w0 Y0, Option.bind_some]
      try dsimp only
      by_cases k0 : K = 700
      · rw [if_pos k0, if_neg (by decide), if_pos (Or.inr (Or.inl k0))]
      · rw [if_neg k0, if_pos rfl, w7 Y0, Option.bind_some]
        try dsimp only
        by_cases k7 : K = 707
        · rw [if_pos k7, if_neg (by decide), if_pos (Or.inr (Or.inr k7))]
        · rw [if_neg k7, if_pos rfl, if_neg (by omega)]
  have eR : t_X12_clauseHere σ = if K = 711 ∨ K = 700 ∨ K = 707 then (if L = 40 then (t_X12_fails τ0 4 (nI p)).bind fun x => some (x.1, x.2) else (t_X12_ropeLineHere τ (nI p)).bind fun x => some (x.1, x.2)) else (t_X12_fails τ0 0 (nI p)).bind fun x => some (x.1, x.2) := by
    unfold t_X12_clauseHere
    rw [es, Option.bind_some]
    try dsimp only
    rw [h110, if_pos rfl, h80]
    unfold t_X12_clauseHere_24
    rw [if_neg (by decide), eW, Option.bind_some]
    try dsimp only
    by_cases kk : K = 711 ∨ K = 700 ∨ K = 707
    · rw [if_pos kk, if_neg (by decide), if_pos kk]
      unfold t_X12_clauseHere_56
      try dsimp only
      rw [if_neg (by decide), h140]
      unfold t_X12_clauseHere_71
      try dsimp only
      by_cases c40 : L = 40
      · rw [if_pos (show nI L = (40 : Int32) by rw [c40]; rfl), if_pos c40]
      · rw [if_neg (show ¬ nI L = (40 : Int32) from fun e => c40 ((nI_eq (b := 40) (by omega) (by decide)).mp e)), if_neg c40, if_neg (by decide), h140, nI_1, hτ]
    · rw [if_neg kk, if_pos rfl, if_neg kk]
      rfl
  have bad : ∀ {τ' : r_S} (a : Nat), a ≤ 7 → z_y d τ' f N k p p → z_kr σ τ' → ∃ d' σ' e, t_X3_refuse d (nI a) = some (0, d') ∧ t_X12_fails τ' (nI a) (nI p) = some (0, σ') ∧ z_dd d' e ∧ r_I σ' 9 = e ∧ z_kr σ σ' ∧ g_P d' = g_P d := fun {τ'} a ha Y kr => by
    obtain ⟨d', σ', e, b1, b2, b3, b4, b5, b6⟩ := z_y_bad Y Y.2.2.2.2.2.2 (z_so_refl _) ha
    exact ⟨d', σ', e, b1, b2, b3, b4, z_kr_trans kr (z_kr_kq (z_kq_so b5)), b6⟩
  by_cases kk : K = 711 ∨ K = 700 ∨ K = 707
  · rw [if_pos kk] at eR
    -- refused with 4
    have four : ∀ {τ' : r_S}, z_y d τ' f N k p p → z_kr σ τ' → t_X12_clauseHere σ = (t_X12_fails τ' 4 (nI p)).bind (fun x => some (x.1, x.2)) → (t_X5_readClause w d o (nI L) = (t_X3_refuse d 4).bind fun x => some (x.1, w, x.2, o)) → ∃ rc w' d' o' rr σ', t_X5_readClause w d o (nI L) = some (rc, w', d', o') ∧ g_P w' = g_P w ∧ t_X12_clauseHere σ = some (rr, σ') ∧ g_P d' = g_P d ∧ z_kr σ σ' ∧ ((rc = 1 ∧ rr = 1 ∧ L < 40 ∧ r_I σ' 14 = nI (L + 1) ∧ (∃ k p i, z_y d' σ' f N k p i) ∧ ∃ n, z_oo w' o' (r_A σ' 7) n) ∨ (rc = 0 ∧ rr = 0 ∧ ∃ e, z_dd d' e ∧ r_I σ' 9 = e)) := fun {τ'} Y kr e1 e2 => by
      obtain ⟨d', σ', e, b1, b2, b3, b4, b5, b6⟩ := bad 4 (by decide) Y kr
      refine ⟨0, w, d', o, 0, σ', ?_, rfl, ?_, b6, b5, Or.inr ⟨rfl, rfl, e, b3, b4⟩⟩
      · rw [e2, show t_X3_refuse d 4 = some (0, d') from b1]; rfl
      · rw [e1, show t_X12_fails τ' 4 (nI p) = some (0, σ') from b2]; rfl
    have good : ∀ {rc : Int32} {w' d' o' : g_S} {rr : Int32} {σ' : r_S}, L < 40 → t_X5_readClause w d o (nI L) = some (rc, w', d', o') → g_P w' = g_P w → t_X12_clauseHere σ = some (rr, σ') → z_oc f N d τ rc rr w' d' o' σ' → ∃ rc w' d' o' rr σ', t_X5_readClause w d o (nI L) = some (rc, w', d', o') ∧ g_P w' = g_P w ∧ t_X12_clauseHere σ = some (rr, σ') ∧ g_P d' = g_P d ∧ z_kr σ σ' ∧ ((rc = 1 ∧ rr = 1 ∧ L < 40 ∧ r_I σ' 14 = nI (L + 1) ∧ (∃ k p i, z_y d' σ' f N k p i) ∧ ∃ n, z_oo w' o' (r_A σ' 7) n) ∨ (rc = 0 ∧ rr = 0 ∧ ∃ e, z_dd d' e ∧ r_I σ' 9 = e)) := fun {rc w' d' o' rr σ'} hl g1 g2 g3 g4 => by
      obtain ⟨q1, q2, q3⟩ := g4
      refine ⟨rc, w', d', o', rr, σ', g1, g2, g3, q1, z_kr_trans kr1 (z_kr_kq q2), ?_⟩
      rcases q3 with ⟨x1, x2, x3, x4⟩ | x
      · exact Or.inl ⟨x1, x2, hl, (q2.2.1 14 (by decide) (by decide) (by decide)).trans h141, x3, x4⟩
      · exact Or.inr x
    have hfit := z_fits L hL
    -- the class's ways to refuse
    have r700 : K = 700 → ¬ (g_I o 3 < 8 ∧ 0 < L ∧ L < 40) → t_X5_readClause w d o (nI L) = (t_X3_refuse d 4).bind fun x => some (x.1, w, x.2, o) := fun hk h => by
      unfold t_X5_readClause
      try dsimp only
      rw [k6, hk, if_pos (show nI 700 = (700 : Int32) from rfl)]
      unfold t_X5_readClause_75
      by_cases c8 : g_I o 3 < 8
      · rw [if_pos c8, if_pos rfl, hfit, Option.bind_some, if_neg (fun e => h ⟨c8, e⟩), if_pos rfl]
        rfl
      · rw [if_neg c8, if_neg (by decide)]
        rfl
    have r707 : K = 707 → ¬ (g_I w 1 = 0 ∧ 0 < L ∧ L < 40) → t_X5_readClause w d o (nI L) = (t_X3_refuse d 4).bind fun x => some (x.1, w, x.2, o) := fun hk h => by
      unfold t_X5_readClause
      try dsimp only
      rw [k6, hk, if_neg (show ¬ nI 707 = (700 : Int32) by decide), if_pos (show nI 707 = (707 : Int32) from rfl)]
      by_cases c8 : g_I w 1 = 0
      · rw [if_pos c8, hfit, Option.bind_some, if_neg (fun e => h ⟨c8, e⟩), if_pos rfl]
        rfl
      · rw [if_neg c8]
        rfl
    have r711 : K = 711 → L ≠ 0 → t_X5_readClause w d o (nI L) = (t_X3_refuse d 4).bind fun x => some (x.1, w, x.2, o) := fun hk h => by
      unfold t_X5_readClause
      try dsimp only
      rw [k6, hk, if_neg (show ¬ nI 711 = (700 : Int32) by decide), if_neg (show ¬ nI 711 = (707 : Int32) by decide), if_pos (show nI 711 = (711 : Int32) from rfl), if_neg (nI_ne0 (by omega) (by omega))]
    by_cases c40 : L = 40
    · rw [if_pos c40] at eR
      refine four Y0 kr0 eR ?_
      rcases kk with h | h | h
      · exact r711 h (by omega)
      · exact r700 h (fun e => by omega)
      · exact r707 h (fun e => by omega)
    · rw [if_neg c40] at eR
      have ai0 : ∀ (τ' : r_S) (j : Nat), j < 85 → t_ai 85 (r_A τ' 7) (nI j) = some (r_A τ' 7 j) := fun τ' j hj => t_ai_in hj (by decide)
      rcases kk with h | h | h
      · -- rope
        have eL : t_X12_ropeLineHere τ (nI p) = (t_X12_isRopeHere τ (nI p)).bind fun x => some (x.1, x.2) := by
          unfold t_X12_ropeLineHere
          rw [w11 Y1, if_pos h, Option.bind_some]
          try dsimp only
          rw [if_neg (by decide)]
        rcases St with ⟨s1, s2, s3, s4, s5⟩ | ⟨s1, n, O⟩
        · obtain ⟨rc, d', o', rr, σ', g1, g2, g3⟩ := z_ropeC (w := w) (o := o) Y1 (hK.trans h) (by rw [A1]; exact s2) s3 s4 s5
          refine good (rc := rc) (w' := w) (d' := d') (o' := o') (rr := rr) (σ' := σ') (by omega) ?_ rfl ?_ g3
          · unfold t_X5_readClause
            try dsimp only
            rw [k6, h, if_neg (show ¬ nI 711 = (700 : Int32) by decide), if_neg (show ¬ nI 711 = (707 : Int32) by decide), if_pos (show nI 711 = (711 : Int32) from rfl), if_pos (by rw [s1]; rfl), g1]
            rfl
          · rw [eR, eL, g2]; rfl
        · refine four Y1 kr1 ?_ (r711 h (by omega))
          rw [eR, eL]
          unfold t_X12_isRopeHere
          rw [show t_ai 85 (r_A τ 7) 0 = some (r_A τ 7 0) from ai0 τ 0 (by decide), Option.bind_some, A1, O.1.2.1, if_neg (by decide)]
          cases t_X12_fails τ 4 (nI p) <;> rfl
      · -- puller
        have eL : t_X12_ropeLineHere τ (nI p) = if r_A τ 7 0 = 0 then (t_X12_fails τ 4 (nI p)).bind fun x => some (x.1, x.2) else (t_X12_isPullerHere τ (nI p)).bind fun x => some (x.1, x.2) := by
          unfold t_X12_ropeLineHere
          rw [w11 Y1, if_neg (by omega), Option.bind_some]
          try dsimp only
          rw [if_pos rfl, show t_ai 85 (r_A τ 7) 0 = some (r_A τ 7 0) from ai0 τ 0 (by decide), Option.bind_some]
          by_cases c : r_A τ 7 0 = 0
          · rw [if_pos c, if_pos c]
          · rw [if_neg c, if_neg c, w0 Y1, if_pos h, Option.bind_some]
            try dsimp only
            rw [if_neg (by decide)]
        rcases St with ⟨s1, s2, s3, s4, s5⟩ | ⟨s1, n, O⟩
        · refine four Y1 kr1 ?_ (r700 h (fun e => by omega))
          rw [eR, eL, if_pos (by rw [A1]; exact s2 0 (by decide))]
          cases t_X12_fails τ 4 (nI p) <;> rfl
        · have o3 : g_I o 3 = nI n := O.2.1.1
          rw [eL, if_neg (by rw [A1, O.1.2.1]; decide)] at eR
          by_cases c8 : n < 8
          · obtain ⟨rc, d', o', rr, σ', g1, g2, g3⟩ := z_pullC (w := w) (o := o) (n := n) Y1 (hK.trans h) (by rw [A1]; exact O) c8
            refine good (rc := rc) (w' := w) (d' := d') (o' := o') (rr := rr) (σ' := σ') (by omega) ?_ rfl ?_ g3
            · unfold t_X5_readClause
              try dsimp only
              rw [k6, h, if_pos (show nI 700 = (700 : Int32) from rfl), o3, if_pos (show nI n < (8 : Int32) from nI_lt (b := 8) c8 (by decide))]
              unfold t_X5_readClause_75
              rw [if_pos rfl, hfit, Option.bind_some, if_pos (show 0 < L ∧ L < 40 from ⟨s1, by omega⟩), if_neg (by decide), g1]
              rfl
            · rw [eR, g2]; rfl
          · have n8 : n = 8 := by have := O.1.1; omega
            refine four Y1 kr1 ?_ (r700 h (fun e => by
              have := e.1
              rw [o3, n8] at this
              exact absurd this (by decide)))
            rw [eR]
            unfold t_X12_isPullerHere
            rw [show t_ai 85 (r_A τ 7) 3 = some (r_A τ 7 3) from ai0 τ 3 (by decide), Option.bind_some, A1, O.1.2.2.1, n8, if_pos (by rfl)]
            cases t_X12_fails τ 4 (nI p) <;> rfl
      · -- ribbon
        have eL : t_X12_ropeLineHere τ (nI p) = if r_A τ 7 0 = 0 then (t_X12_fails τ 4 (nI p)).bind fun x => some (x.1, x.2) else (t_X12_isRibbonHere τ (nI p)).bind fun x => some (x.1, x.2) := by
          unfold t_X12_ropeLineHere
          rw [w11 Y1, if_neg (by omega), Option.bind_some]
          try dsimp only
          rw [if_pos rfl, show t_ai 85 (r_A τ 7) 0 = some (r_A τ 7 0) from ai0 τ 0 (by decide), Option.bind_some]
          by_cases c : r_A τ 7 0 = 0
          · rw [if_pos c, if_pos c]
          · rw [if_neg c, if_neg c, w0 Y1, if_neg (by omega), Option.bind_some]
            try dsimp only
            rw [if_pos rfl]
        rcases St with ⟨s1, s2, s3, s4, s5⟩ | ⟨s1, n, O⟩
        · refine four Y1 kr1 ?_ (r707 h (fun e => by omega))
          rw [eR, eL, if_pos (by rw [A1]; exact s2 0 (by decide))]
          cases t_X12_fails τ 4 (nI p) <;> rfl
        · have w1 : g_I w 1 = r_A σ 7 4 := O.2.2.1
          rw [eL, if_neg (by rw [A1, O.1.2.1]; decide)] at eR
          rcases O.2.2.2 with c4 | c4
          · obtain ⟨rc, w', d', o', rr, σ', g1, gw, g2, g3⟩ := z_ribC (w := w) (o := o) (n := n) Y1 (hK.trans h) (by rw [A1]; exact O) (by rw [A1]; exact c4)
            refine good (rc := rc) (w' := w') (d' := d') (o' := o') (rr := rr) (σ' := σ') (by omega) ?_ gw ?_ g3
            · unfold t_X5_readClause
              try dsimp only
              rw [k6, h, if_neg (show ¬ nI 707 = (700 : Int32) by decide), if_pos (show nI 707 = (707 : Int32) from rfl), w1, c4, if_pos rfl, hfit, Option.bind_some, if_pos (show 0 < L ∧ L < 40 from ⟨s1, by omega⟩), if_neg (by decide), g1]
              rfl
            · rw [eR, g2]; rfl
          · refine four Y1 kr1 ?_ (r707 h (fun e => by
              have := e.1
              rw [w1, c4] at this
              exact absurd this (by decide)))
            rw [eR]
            unfold t_X12_isRibbonHere
            rw [show t_ai 85 (r_A τ 7) 4 = some (r_A τ 7 4) from ai0 τ 4 (by decide), Option.bind_some, A1, c4, if_neg (by decide)]
            cases t_X12_fails τ 4 (nI p) <;> rfl
  · rw [if_neg kk] at eR
    obtain ⟨d', σ', e, b1, b2, b3, b4, b5, b6⟩ := bad 0 (by decide) Y0 kr0
    refine ⟨0, w, d', o, 0, σ', ?_, rfl, ?_, b6, b5, Or.inr ⟨rfl, rfl, e, b3, b4⟩⟩
    · unfold t_X5_readClause
      try dsimp only
      rw [k6, if_neg (show ¬ nI K = (700 : Int32) from fun e => by have := (nI_eq (b := 700) (by omega) (by decide)).mp e; omega), if_neg (show ¬ nI K = (707 : Int32) from fun e => by have := (nI_eq (b := 707) (by omega) (by decide)).mp e; omega), if_neg (show ¬ nI K = (711 : Int32) from fun e => by have := (nI_eq (b := 711) (by omega) (by decide)).mp e; omega), show t_X3_refuse d 0 = some (0, d') from b1]
      rfl
    · rw [eR, show t_X12_fails τ0 0 (nI p) = some (0, σ') from b2]; rfl
end RQ

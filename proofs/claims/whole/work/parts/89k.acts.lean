/-! ===== L3: heave, breath, set, undo ===== -/
section AC
variable {b z c n po : Nat} {o : g_S} {κ κ1 κ2 : Nat → g_S} {σ σ1 σ2 : r_S} {h h1 h2 : q_H}
theorem z_X_fr (X : z_X b n po c o κ σ h) (W1 : z_W b κ1 h1) (F : ∀ a, b + 152 ≤ a → h1 a = h a) (hk : ∀ k, k ≠ 8 → k < 20 → κ1 k = κ k) (hA : ∀ k, k ≠ 25 → r_A σ1 k = r_A σ k) (hI : ∀ k, k ≠ 26 → r_I σ1 k = r_I σ k) : z_X b n po c o κ1 σ1 h1 := by
  obtain ⟨x1, x2, x3, x4, x5, x6, x7, x8, x9, ⟨r1, r2, r3, r4, r5, r6, r7⟩, x11, x12⟩ := X
  refine ⟨W1, by rw [hk 6 (by decide) (by decide)]; exact x2, x3, fr4 x4 (fun a ha => F a (by unfold f4 at ha; omega)), ?_, ?_, ?_, ?_, ?_, ⟨r1, ?_, (hI 2 (by decide)).trans r3, fun i hi => ?_, ?_, ?_, ?_⟩, ?_, ?_⟩
  · rw [hA 20 (by decide)]; exact x5
  · rw [hA 20 (by decide)]; exact x6
  · rw [hA 20 (by decide)]; exact x7
  · rw [hA 20 (by decide), hk 7 (by decide) (by decide)]; exact x8
  · rw [hA 20 (by decide)]; exact x9
  · rw [hk 0 (by decide) (by decide)]; exact r2
  · obtain ⟨pr, B, y1, y2, y3, y4⟩ := r4 i hi
    exact ⟨pr, B, by rw [hk 5 (by decide) (by decide)]; exact y1, y2, fr6 y3 (fun a ha => F a (by unfold f6 at ha; omega)), z_rl_ext y4 (fun i _ => by rw [hA 3 (by decide)]) (fun i _ => by rw [hA 5 (by decide)]) (by rw [hA 6 (by decide)])⟩
  · rw [hk 5 (by decide) (by decide)]; exact r5
  · rw [hI 21 (by decide)]; exact r6
  · rw [hI 21 (by decide), hk 6 (by decide) (by decide)]; exact r7
  · rw [hk 5 (by decide) (by decide)]; exact x11
  · rw [hA 23 (by decide)]; exact x12
/-- behind an ACT -/
theorem z_actQ (R : z_ref b σ h) (J : z_J b z c κ σ h) (X : z_X b n po c o κ σ h) (hpz : po + 5 ≤ z) (F : ∀ a, b + 152 ≤ a → h2 a = h a) (W2 : z_W b κ2 h2) (hk : ∀ k, k ≠ 7 → k ≠ 8 → k ≠ 10 → k < 20 → κ2 k = κ k) (P : z_JP (κ2 8) (fun i => κ2 (20 + i)) (r_A σ 20) (r_A σ2 25) (r_I σ2 26)) (hA : ∀ k, k ≠ 20 → k ≠ 24 → k ≠ 25 → r_A σ2 k = r_A σ k) (hI : ∀ k, k ≠ 18 → k ≠ 26 → r_I σ2 k = r_I σ k) (h20 : ∀ j, j < 10 ∨ 52 ≤ j → r_A σ2 20 j = r_A σ 20 j) (hV : z_V (r_A σ2 20) n) (ht : z_t (κ2 7) (r_A σ2 20) n) (hb : nb (r_A σ2 20 10) 999) : (∃ fs, h2 (b + 152) = .inr (12, fs)) ∧ r_H (b + 152) σ h2 = h2 ∧ z_I b z (r_H (b + 152) σ2 h2) := by
  have R2 : z_ref b σ h2 := z_ref_q R (fun a h1 _ => F a h1)
  have F2 := z_Fh (z := z) F σ2
  obtain ⟨j1, j2, j3, j4, ⟨nc, j5⟩, j6⟩ := J.2.2.2.1
  have hn := X.2.2.2.2.2.1.1
  refine ⟨z_fs R2, z_rH R2, c, κ2, σ2, z_W_H W2 σ2, z_ref_H _ _ _, z_J_up J (Nat.le_refl _) F2 ?_ (hk 0 (by decide) (by decide) (by decide) (by decide)) (hk 5 (by decide) (by decide) (by decide) (by decide)) (hI 2 (by decide) (by decide)) (hA 3 (by decide) (by decide) (by decide)) (hA 5 (by decide) (by decide) (by decide)) (hA 6 (by decide) (by decide) (by decide)) ?_ (hk 9 (by decide) (by decide) (by decide) (by decide)) (hA 33 (by decide) (by decide) (by decide)) (hA 34 (by decide) (by decide) (by decide)) (hA 35 (by decide) (by decide) (by decide)) (hA 36 (by decide) (by decide) (by decide)) ?_ (hA 23 (by decide) (by decide) (by decide))⟩
  · rw [hk 1 (by decide) (by decide) (by decide) (by decide), hA 0 (by decide) (by decide) (by decide), hI 1 (by decide) (by decide)]
    exact J.2.1
  · rw [hk 6 (by decide) (by decide) (by decide) (by decide), hI 21 (by decide) (by decide), hI 22 (by decide) (by decide)]
    refine ⟨j1, j2, j3, j4, ⟨nc, z_ntx j5 (fun j h1 _ => h20 j (by omega))⟩, Or.inr ⟨po, o, n, X.2.1, X.2.2.1, hpz, ?_, z_ox hn (fun j hj => h20 j (by omega)) X.2.2.2.2.1, z_Rx (fun j hj => h20 j (by omega)) X.2.2.2.2.2.1, hV, ht, hb⟩⟩
    exact fr4 X.2.2.2.1 (fun a ha => F2 a (by have := X.2.2.1; unfold f4 at ha; omega) (by unfold f4 at ha; omega))
  · exact z_JP_fr P (fun _ _ => rfl) (fun j hj => h20 j (by omega)) (fun _ _ => rfl) rfl
end AC
section AD
variable {b : Nat}
theorem s_7 : q_st7 b (b + 152) (z_I b) := by
  intro z h I
  obtain ⟨c, κ, σ, W, R, J, V⟩ := z_view I
  have eH := z_no R
  have no : m_X11_heave h b = some (-1, h) → t_X12_heave σ = some (-1, σ) → ∃ (r : Int32) (h1 : q_H) (h2 : q_H), m_X11_heave h b = some (r, h1) ∧ (∃ fs, h1 (b + 152) = .inr (12, fs)) ∧ m_X12_heave h1 (b + 152) = some (r, h2) ∧ z_I b z h2 := fun e1 e2 => by
    have e3 := l_X12_heave (b + 152) h σ e2
    rw [eH] at e3
    exact ⟨_, h, h, e1, z_fs R, e3, I⟩
  rcases V with ⟨v1, v2, -⟩ | ⟨n, po, o, nc, X, hN, hpz⟩
  · refine no ?_ ?_
    · unfold m_X11_heave
      rw [Wm5 W, Option.bind_some, Wgo W, v1, Option.bind_some, if_pos rfl]
    · unfold t_X12_heave
      rw [z_isRope0 v2, Option.bind_some, if_pos rfl]
  · have hR := X.2.2.2.2.2.1
    have hn := hR.1
    have ht := X.2.2.2.2.2.2.2.1
    obtain ⟨k, hk9, hk⟩ := X.2.2.2.2.2.2.2.2.1
    have t10 : t_ai 106 (r_A σ 20) 10 = some (nI k) := by rw [show t_ai 106 (r_A σ 20) 10 = some (r_A σ 20 10) from t_ai_in (j := 10) (by decide) (by decide), hk]
    have i1 : g_I (κ 7) 1 = nI k := ht.2.1.trans hk
    by_cases c9 : k = 999
    · refine no ?_ ?_
      · unfold m_X11_heave
        rw [Wm5 W, Option.bind_some, Wgo W, X.2.1, Option.bind_some, if_neg (by intro e; cases e), Option.bind_some, Wgt W, Option.bind_some, gi10_1 (Ww7 W), Option.bind_some, i1, if_neg (show ¬ nI k < 999 from nI_nlt (b := 999) (by omega) (by omega))]
      · unfold t_X12_heave
        rw [z_isRope1 hR, Option.bind_some, if_neg (by decide), t10, Option.bind_some, if_pos (by rw [c9]; rfl)]
    obtain ⟨h1, κ1, σ1, a1, a2, W1, a4, a5, a6, a7, a8⟩ := z_act J X
    have X1 := z_X_fr X W1 a4 a5 a6 a7
    obtain ⟨ro, r1, r2⟩ := z_ruF (f := r_I σ1 21) X1 (z_q_refl W1) rfl rfl rfl X1.2.2.2.2.2.2.2.2.2.1.2.2.2.2.2.1
    obtain ⟨h3, κ3, b1, b2, b3, b4, b5, b6, b7⟩ := z_qtake (po := po) (ro := ro) (z_q_refl W1)
    have W3 := b2.1
    have G3 : g4 po o h3 := z_Xg4 X1 b2
    have ru3 : z_ru b (g_P (κ3 10) 1) (r_I σ1 21) σ1 h3 po := by
      rw [b5]
      exact z_ru_fr (r2 po (Or.inl rfl)) (fun a ha => b7 a (by unfold f1; omega)) rfl rfl rfl
    have ht3 : z_t (κ3 7) (r_A σ1 20) n := by rw [b3 7 (by decide)]; exact X1.2.2.2.2.2.2.2.1
    have pl3 : z_pl (κ3 10) σ1 := fun p hp => by
      rw [b6 p hp, X1.2.2.2.2.2.2.2.2.2.2.2 p hp]
      exact ⟨rfl, Or.inl rfl⟩
    obtain ⟨h5, y', t', σ5, c1, W5, c3, c4, c5, c6, c7, c8, c9', c10, c11, c12⟩ := z_HVn (m := 1) W3 G3 (Or.inl X.2.2.1) b4 ru3 X1.2.2.2.2.2.1 X1.2.2.2.2.2.2.1 X1.2.2.2.2.1 ht3 pl3 (by decide)
    have s20 : r_A σ1 20 = r_A σ 20 := a6 20 (by decide)
    have k7 : (va_up (va_up κ3 10 y') 7 t') 7 = t' := va_up_at _ _ _
    obtain ⟨q1, q2, q3⟩ := z_actQ (σ2 := σ5) R J X hpz (fun a ha => (c3 a (by unfold f1 f10; omega)).trans ((b2.2.2 a ha).trans (a4 a ha))) W5 (fun k h7 h8 h10 hk => ((va_up_of h7).trans (va_up_of h10)).trans ((b3 k h10).trans (a5 k h8 hk)))
      (by
        rw [va_up_of (by decide), va_up_of (by decide), b3 8 (by decide), c10.2.1 25 (by decide) (by decide), c10.1 26 (by decide), ← s20]
        exact z_JP_fr a8 (fun i hi => ((va_up_of (by omega)).trans (va_up_of (by omega))).trans (b3 (20 + i) (by omega))) (fun _ _ => rfl) (fun _ _ => rfl) rfl)
      (fun k h20 h24 h25 => (c10.2.1 k h20 h24).trans (a6 k h25)) (fun k h18 h26 => (c10.1 k h18).trans (a7 k h26)) (fun j hj => (c8 j (by omega)).trans (by rw [s20])) c7 (by rw [k7]; exact c6) ⟨k + 1, by omega, by rw [c9', s20, hk]; exact nI_add k 1⟩
    have f2 : t_X12_heave σ = some (r_A σ5 20 11 + 100, σ5) := by
      unfold t_X12_heave
      rw [z_isRope1 hR, Option.bind_some, if_neg (by decide), t10, Option.bind_some, if_neg (show ¬ nI k = 999 from fun e => c9 ((nI_eq (b := 999) (by omega) (by decide)).mp e)), a2, Option.bind_some, c5 rfl, Option.bind_some, z_ribbon (σ := σ5) (n := n) (z_Rx (fun j hj => (c8 j (by omega)).trans (by rw [s20])) hR), Option.bind_some]
    have f3 := l_X12_heave (b + 152) h5 σ f2
    rw [q2] at f3
    refine ⟨_, h5, _, ?_, q1, f3, q3⟩
    unfold m_X11_heave
    rw [Wm5 W, Option.bind_some, Wgo W, X.2.1, Option.bind_some, if_neg (by intro e; cases e), Option.bind_some, Wgt W, Option.bind_some, gi10_1 (Ww7 W), Option.bind_some, i1, if_pos (show nI k < 999 from nI_lt (b := 999) (by omega) (by decide)), Wm6 W, Option.bind_some, Option.bind_some, Wgt W, Option.bind_some, ca2 (Ww8 W), a1, Option.bind_some, Wm8 W1, Option.bind_some, Wm5 W1, Option.bind_some, Wgr W1 X1.2.1, Option.bind_some, Wm9 W1, Option.bind_some, Wca8 W1, z_ruleIF W1, X1.2.2.2.2.2.2.2.2.2.1.2.2.2.2.2.2, r1, Option.bind_some, ca1 (Ww10 W1), b1, Option.bind_some, Wm8 W3, Option.bind_some, Wm5 W3, Option.bind_some, Wgt W3, Option.bind_some, ca1 (Ww10 W3), show m_X1_heaveOn h3 (b + 124) (b + 14) 1 = some h5 from c1, Option.bind_some, Wm5 W5, Option.bind_some, Wgt W5, Option.bind_some, gi10_0 (Ww7 W5), Option.bind_some, k7, c6.1]
theorem s_10 : q_st10 b (b + 152) (z_I b) := by
  intro z h a1 a2 I
  obtain ⟨c, κ, σ, W, R, J, V⟩ := z_view I
  have eH := z_no R
  have no : m_X11_breath h b a1 a2 = some (-1, h) → t_X12_breath σ a1 a2 = some (-1, σ) → ∃ (r : Int32) (h1 : q_H) (h2 : q_H), m_X11_breath h b a1 a2 = some (r, h1) ∧ (∃ fs, h1 (b + 152) = .inr (12, fs)) ∧ m_X12_breath h1 (b + 152) a1 a2 = some (r, h2) ∧ z_I b z h2 := fun e1 e2 => by
    have e3 := l_X12_breath (b + 152) h σ a1 a2 e2
    rw [eH] at e3
    exact ⟨_, h, h, e1, z_fs R, e3, I⟩
  rcases V with ⟨v1, v2, -⟩ | ⟨n, po, o, nc, X, hN, hpz⟩
  · refine no ?_ ?_
    · unfold m_X11_breath
      rw [Wm5 W, Option.bind_some, z_has0 W v1, Option.bind_some, if_pos rfl]
    · unfold t_X12_breath
      rw [z_isPuller0 v2, Option.bind_some, if_pos rfl]
  · have hR := X.2.2.2.2.2.1
    have hn := hR.1
    have ht := X.2.2.2.2.2.2.2.1
    have hV := X.2.2.2.2.2.2.1
    rcases z_hasP X a1 with ⟨p, hp, rfl, i1, x1⟩ | ⟨i1, x1⟩
    rotate_left
    · refine no ?_ ?_
      · unfold m_X11_breath
        rw [Wm5 W, Option.bind_some, i1, Option.bind_some]
        exact if_pos rfl
      · unfold t_X12_breath
        rw [x1, Option.bind_some]
        exact if_pos rfl
    rcases z_rng a2 1 9 (L := 1) (H := 9) (L' := 1) (H' := 9) (by decide) (by decide) rfl rfl (by decide) (by decide) with ⟨m2, l2, u2, e2, i2, x2, y2, w2⟩ | ⟨i2, x2⟩
    rotate_left
    · refine no ?_ ?_
      · unfold m_X11_breath
        rw [Wm5 W, Option.bind_some, i1, Option.bind_some, if_neg (by decide)]
        rcases x2 with x2 | ⟨x2, y2, w2⟩
        · rw [if_pos x2]
        · rw [if_neg x2, if_neg w2]
      · unfold t_X12_breath
        rw [x1, Option.bind_some, if_neg (by decide), i2, Option.bind_some]
        exact if_pos rfl
    have hp8 : p < 8 := by omega
    obtain ⟨h1, κ1, σ1, a1, a2', W1, a4, a5, a6, a7, a8⟩ := z_act J X
    have X1 := z_X_fr X W1 a4 a5 a6 a7
    have s20 : r_A σ1 20 = r_A σ 20 := a6 20 (by decide)
    have k7 : κ1 7 = κ 7 := a5 7 (by decide) (by decide)
    obtain ⟨wd, hwd, ewd⟩ := (hV.2.1 p hp).2.1
    obtain ⟨v, hv⟩ : ∃ v, v = min 60 (wd + m2) := ⟨_, rfl⟩
    have ev : (if nI wd + a2 < (60 : Int32) then nI wd + a2 else (60 : Int32)) = nI v := by
      rw [e2, nI_add, hv]
      by_cases c : wd + m2 < 60
      · rw [if_pos (show nI (wd + m2) < 60 from nI_lt (b := 60) c (by decide)), Nat.min_eq_right (by omega)]
      · rw [if_neg (show ¬ nI (wd + m2) < 60 from nI_nlt (b := 60) (by omega) (by omega)), Nat.min_eq_left (by omega)]
        rfl
    have ew : m_X12_within (nI wd + a2) 0 60 = some (nI v) := by
      rw [e2, nI_add, hv]
      unfold m_X12_within
      rw [if_pos (show (0 : Int32) ≤ nI (wd + m2) from nI_le (a := 0) (by omega) (by omega))]
      by_cases c : wd + m2 ≤ 60
      · rw [if_pos (show nI (wd + m2) ≤ 60 from nI_le (b := 60) c (by decide)), Nat.min_eq_right (by omega)]
      · rw [if_neg (show ¬ nI (wd + m2) ≤ 60 from nI_ge (a := 60) (by omega) (by omega)), Nat.min_eq_left (by omega)]
        rfl
    have gA5 : g_A (κ 7) 5 p = nI wd := (ht.2.2.2 p hp).2.2.1.trans ewd
    obtain ⟨h5, p1, p2, p3⟩ := as10_5 (i := nI p) (x := nI v) (Ww7 W1) (u_si_in hp8 (by decide))
    rw [k7] at p2
    have W5 := W_7 W1 p2 p3
    have k77 : (va_up κ1 7 (g_sa (κ 7) 5 (upd (g_A (κ 7) 5) p (nI v)))) 7 = g_sa (κ 7) 5 (upd (g_A (κ 7) 5) p (nI v)) := va_up_at _ _ _
    have ne : ∀ j q, q < 8 → j = 12 + 5 * q ∨ j = 13 + 5 * q ∨ j = 15 + 5 * q ∨ j = 16 + 5 * q → upd (r_A σ 20) (14 + 5 * p) (nI v) j = r_A σ 20 j := fun j q hq hj => pk_un (by omega)
    obtain ⟨q1, q2, q3⟩ := z_actQ (σ2 := r_sa σ1 20 (upd (r_A σ 20) (14 + 5 * p) (nI v))) R J X hpz (fun a ha => (p3 a (by unfold f10; omega)).trans (a4 a ha)) W5 (fun k h7 h8 h10 hk => (va_up_of h7).trans (a5 k h8 hk))
      (by
        rw [va_up_of (by decide), z_rAn (by decide), ← s20]
        exact z_JP_fr a8 (fun i hi => va_up_of (by omega)) (fun _ _ => rfl) (fun _ _ => rfl) rfl)
      (fun k h20 _ h25 => (z_rAn h20).trans (a6 k h25)) (fun k _ h26 => a7 k h26) (fun j hj => by rw [z_rA, pk_un (by omega)])
      (by
        rw [z_rA]
        refine ⟨by rw [pk_un (by omega)]; exact hV.1, fun q hq => ?_, z_P_ext (fun q hq => ⟨ne _ q (by omega) (by omega), ne _ q (by omega) (by omega)⟩) hV.2.2⟩
        obtain ⟨w1, w2', w3⟩ := hV.2.1 q hq
        rw [ne (12 + 5 * q) q (by omega) (by omega), ne (16 + 5 * q) q (by omega) (by omega)]
        refine ⟨w1, ?_, w3⟩
        by_cases e : q = p
        · rw [e, pk_us]; exact ⟨v, by omega, rfl⟩
        · rw [pk_un (by omega)]; exact w2')
      (by
        rw [z_rA, k77]
        refine ⟨by rw [pk_un (by omega)]; exact ht.1, by rw [pk_un (by omega)]; exact ht.2.1, ?_, fun q hq => ?_⟩
        · refine ht.2.2.1.trans ?_
          rw [show z_m (z_up (r_A σ 20)) n = z_m (z_up (upd (r_A σ 20) (14 + 5 * p) (nI v))) n from z_m_ext (fun q hq => by unfold z_up; rw [ne (15 + 5 * q) q (by omega) (by omega)])]
        · obtain ⟨w1, w2', w3, w4⟩ := ht.2.2.2 q hq
          rw [ne (12 + 5 * q) q (by omega) (by omega), ne (13 + 5 * q) q (by omega) (by omega), ne (16 + 5 * q) q (by omega) (by omega), z_sa_of (by decide), z_sa_of (by decide), z_sa_at, z_sa_of (by decide)]
          refine ⟨w1, w2', ?_, w4⟩
          by_cases e : q = p
          · rw [e, pk_us, pk_us]
          · rw [pk_un e, pk_un (by omega)]; exact w3)
      (by rw [z_rA, pk_un (by omega)]; exact X.2.2.2.2.2.2.2.2.1)
    have e14 : ((12 : Int32) + (5 : Int32) * nI p) + 2 = nI (14 + 5 * p) := by
      rw [show (5 : Int32) = nI 5 from rfl, pk_mul, show (12 : Int32) = nI 12 from rfl, nI_add, z_nI2]
      congr 1
      omega
    have f2 : t_X12_breath σ (nI p) a2 = some (nI v, r_sa σ1 20 (upd (r_A σ 20) (14 + 5 * p) (nI v))) := by
      unfold t_X12_breath
      rw [x1, Option.bind_some, if_neg (by decide), i2, Option.bind_some, if_neg (by decide), a2', Option.bind_some, z_windOf hp8, Option.bind_some, s20, ewd, ew, Option.bind_some, e14, t_si_in (by omega) (by decide), Option.bind_some, s20, z_windOf hp8, Option.bind_some, z_rA, pk_us]
    have f3 := l_X12_breath (b + 152) h5 σ (nI p) a2 f2
    rw [q2] at f3
    refine ⟨_, h5, _, ?_, q1, f3, q3⟩
    unfold m_X11_breath
    rw [Wm5 W, Option.bind_some, i1, Option.bind_some, if_neg (by decide), if_neg x2, if_pos w2, Wm6 W, Option.bind_some, Option.bind_some, Wgt W, Option.bind_some, ca2 (Ww8 W), a1, Option.bind_some, Wm5 W1, Option.bind_some, Wgt W1, Option.bind_some, gn10_5 (Ww7 W1), Option.bind_some, Option.bind_some, Wgt W1, Option.bind_some, gn10_5 (Ww7 W1), Option.bind_some, ai10_5 (Ww7 W1), k7, t_ai_in hp8 (by decide), Option.bind_some, gA5, ev, p1, Option.bind_some, Wm5 W5, Option.bind_some, Wgt W5, Option.bind_some, gn10_5 (Ww7 W5), Option.bind_some, ai10_5 (Ww7 W5), t_ai_in hp8 (by decide), Option.bind_some, k77, z_sa_at, pk_us]
end AD

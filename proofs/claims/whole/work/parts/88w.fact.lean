/-! ===== L3: a FACT: what opens, and the comparison ===== -/
theorem z_dp_put (w : Nat → Nat) (n v : Nat) : z_dp (z_un w n v) (n + 1) = z_dp w n + (if v = 1 ∨ v = 4 then 1 else 0) := by
  rw [z_dp, z_un_at, z_dp_ext (w := w) n (fun i hi => z_un_lt hi)]
theorem z_bn_put (w : Nat → Nat) (n v : Nat) : z_bn (z_un w n v) (n + 1) = z_bn w n + (if v = 2 ∨ v = 3 then 1 else 0) := by
  rw [z_bn, z_un_at, z_bn_ext (w := w) n (fun i hi => z_un_lt hi)]
theorem z_hold {j : g_S} {n : Nat} (h6 : g_I j 6 = nI n) (hn : n < 40) (a : Int32) : t_X7_hold j a = some (g_si (g_sa j 5 (upd (g_A j 5) n a)) 6 (nI (n + 1))) := by
  unfold t_X7_hold
  try dsimp only
  rw [h6, if_neg (show ¬ Int32.ofNat 40 ≤ nI n from nI_ge (b := 40) hn (by decide)), u_si_in hn (by decide), Option.bind_some, show g_I (g_sa j 5 (upd (g_A j 5) n a)) 6 = nI n from h6, nI_1]
theorem z_w1_put {j : g_S} {w : Nat → Nat} {n v : Nat} (h5 : ∀ i, i < n → g_A j 5 i = nI (w i)) (h7 : g_I j 7 = nI (z_dp (z_un w n v) (n + 1))) : z_w1 (g_si (g_sa j 5 (upd (g_A j 5) n (nI v))) 6 (nI (n + 1))) (z_un w n v) (n + 1) := by
  refine ⟨z_si_I _ _ _, fun i hi => ?_, (z_si_In (by decide)).trans h7⟩
  rw [z_si_A, z_sa_at]
  by_cases e : i = n
  · rw [e, pk_us, z_un_at]
  · rw [pk_un e, z_un_lt (by omega)]
    exact h5 i (by omega)
theorem z_w2_put {σ : r_S} {w : Nat → Nat} {n v : Nat} (h5 : ∀ i, i < n → r_A σ 15 i = nI (z_wc (w i))) (h7 : r_I σ 13 = nI (z_dp (z_un w n v) (n + 1))) : z_w2 (r_si (r_sa σ 15 (upd (r_A σ 15) n (nI (z_wc v)))) 16 (nI (n + 1))) (z_un w n v) (n + 1) := by
  refine ⟨z_rsiI _ _ _, fun i hi => ?_, (z_rsiIn (by decide)).trans h7⟩
  rw [show r_A (r_si (r_sa σ 15 (upd (r_A σ 15) n (nI (z_wc v)))) 16 (nI (n + 1))) 15 = upd (r_A σ 15) n (nI (z_wc v)) from z_rA _ _ _]
  by_cases e : i = n
  · rw [e, pk_us, z_un_at]
  · rw [pk_un e, z_un_lt (by omega)]
    exact h5 i (by omega)
section FA
variable {f : Nat → Int32} {N r c0 : Nat}
/-- one that opens: v 1 for [, 4 for not -/
theorem z_open1 {j : g_S} {σ : r_S} {w : Nat → Nat} {n v c m : Nat} {K V : Nat → Nat} (C : z_cj j σ r c m K V) (A : z_w1 j w n) (B : z_w2 σ w n) (H : z_wv w n) (hd : z_dp w n < 10) (hv : v = 1 ∨ v = 4) :
    ∃ j' σ', t_X7_hold (g_si j 7 (g_I j 7 + 1)) (nI v) = some j' ∧ t_X12_opens σ (nI (z_wc v)) = some (1, σ') ∧ z_cj j' σ' r c m K V ∧ z_w1 j' (z_un w n v) (n + 1) ∧ z_w2 σ' (z_un w n v) (n + 1) ∧ z_wv (z_un w n v) (n + 1) ∧ z_f3 r σ σ' ∧ z_f4 j j' ∧ r_I σ' 8 = r_I σ 8 ∧ r_I σ' 9 = r_I σ 9 := by
  have h32 := z_w32 H (by omega)
  have eD : z_dp (z_un w n v) (n + 1) = z_dp w n + 1 := by rw [z_dp_put, if_pos hv]
  have e7 : g_I j 7 + 1 = nI (z_dp (z_un w n v) (n + 1)) := by rw [A.2.2, nI_1, eD]
  have e13 : r_I σ 13 + 1 = nI (z_dp (z_un w n v) (n + 1)) := by rw [B.2.2, nI_1, eD]
  obtain ⟨j1, hj1⟩ : ∃ j1, j1 = g_si j 7 (g_I j 7 + 1) := ⟨_, rfl⟩
  obtain ⟨σ1, hσ1⟩ : ∃ σ1, σ1 = r_si σ 13 (r_I σ 13 + 1) := ⟨_, rfl⟩
  have jI : ∀ k, k ≠ 7 → g_I j1 k = g_I j k := fun k h => by rw [hj1]; exact z_si_In h
  have sI : ∀ k, k ≠ 13 → r_I σ1 k = r_I σ k := fun k h => by rw [hσ1]; exact z_rsiIn h
  have jA : g_A j1 = g_A j := by rw [hj1]; rfl
  have sA : r_A σ1 = r_A σ := by rw [hσ1]; rfl
  have j7 : g_I j1 7 = nI (z_dp (z_un w n v) (n + 1)) := by rw [hj1, z_si_I, e7]
  have s13 : r_I σ1 13 = nI (z_dp (z_un w n v) (n + 1)) := by rw [hσ1, z_rsiI, e13]
  rw [← hj1]
  refine ⟨g_si (g_sa j1 5 (upd (g_A j1 5) n (nI v))) 6 (nI (n + 1)), r_si (r_sa σ1 15 (upd (r_A σ1 15) n (nI (z_wc v)))) 16 (nI (n + 1)), z_hold ((jI 6 (by decide)).trans A.1) (by omega) _, ?_, ?_, z_w1_put (fun i hi => by rw [jA]; exact A.2.1 i hi) j7, z_w2_put (fun i hi => by rw [sA]; exact B.2.1 i hi) s13, z_wv_put H (by omega) (by omega) (fun h => by omega), ?_, ?_, ?_, ?_⟩
  · unfold t_X12_opens
    try dsimp only
    rw [if_neg (show ¬ r_I σ 13 = 10 from fun e => by rw [B.2.2] at e; have := (nI_eq (b := 10) (by omega) (by decide)).mp e; omega), ← hσ1, sI 16 (by decide), B.1, t_si_in (by omega) (by decide), Option.bind_some]
    rw [show r_I (r_sa σ1 15 (upd (r_A σ1 15) n (nI (z_wc v)))) 16 = nI n from (sI 16 (by decide)).trans B.1, nI_1]
  · refine z_cj_w C ?_ ?_ ?_ ?_ ?_ ?_ ?_
    · exact (z_si_In (by decide)).trans (jI 2 (by decide))
    · exact (z_si_In (by decide)).trans (jI 8 (by decide))
    · rw [z_si_A, z_sa_of (by decide), jA]
    · exact (z_rsiIn (by decide)).trans (sI 11 (by decide))
    · exact (z_rsiIn (by decide)).trans (sI 12 (by decide))
    · exact (z_rAn (σ := σ1) (by decide)).trans (by rw [sA])
    · exact (z_rAn (σ := σ1) (by decide)).trans (by rw [sA])
  · rw [hσ1]
    exact z_f3_trans (z_f3_si σ (by omega) _) (z_f3_trans (z_f3_15 _ _) (z_f3_si _ (by omega) _))
  · rw [hj1]
    exact z_f4_trans (z_f4_si j (by omega) _) (z_f4_trans (z_f4_5 _ _) (z_f4_si _ (by omega) _))
  · exact (z_rsiIn (by decide)).trans (sI 8 (by decide))
  · exact (z_rsiIn (by decide)).trans (sI 9 (by decide))
theorem z_openS {c m : Nat} {K V : Nat → Nat} : ∀ (u x fu fu' n k p i : Nat) (w : Nat → Nat) (j d : g_S) (σ : r_S), z_dp w n + u = 10 → x ≤ z_dp w n → u < fu → u + 1 < fu' → z_y d σ f N k p i → z_cj j σ r c m K V → z_w1 j w n → z_w2 σ w n → z_wv w n → c + n ≤ k →
    ∃ j' d' σ', t_X7_openAll_2 fu j d (nI x) = some (j', d') ∧ z_f3 r σ σ' ∧ z_f4 j j' ∧ g_P d' = g_P d ∧
      ((t_X12_fact_2 fu' σ 1 = t_X12_compare σ' ∧ ∃ k' p' i' n' w', z_y d' σ' f N k' p' i' ∧ z_cj j' σ' r c m K V ∧ z_w1 j' w' n' ∧ z_w2 σ' w' n' ∧ z_wv w' n' ∧ z_dp w' n' ≤ 10 ∧ c + n' ≤ k' ∧ z_bn w' n' = z_bn w n) ∨
       (t_X12_fact_2 fu' σ 1 = some (0, σ') ∧ ∃ e n', z_dd d' e ∧ r_I σ' 9 = e ∧ g_I j' 2 = nI c ∧ g_I j' 6 = nI n' ∧ n' ≤ 40)) := by
  intro u
  induction u with
  | zero =>
    intro x fu fu' n k p i w j d σ hu hx hf hf' Y C A B H hc
    obtain ⟨fu, rfl⟩ := Nat.exists_eq_succ_of_ne_zero (show fu ≠ 0 by omega)
    obtain ⟨fu', rfl⟩ : ∃ g, fu' = g + 2 := ⟨fu' - 2, by omega⟩
    have es := z_y_see Y
    have Y0 := z_y_nx Y
    have w16 := z_y_isW Y0 16 (w := [110, 111, 116]) rfl (c := 7237492) (by decide +kernel)
    rw [z_nxx] at w16
    obtain ⟨k6, -, hp⟩ := z_rr_k Y.2.2.2.2.1
    have kl := z_k1_lt f N p
    have s91 := z_sign (f := f) (N := N) (p := p) (c := 91) (by decide) (by omega) (by decide)
    have h32 := z_w32 H (by omega)
    have d10 : z_dp w n = 10 := by omega
    obtain ⟨d', σ', e, b1, b2, b3, b4, b5, b6⟩ := z_y_bad Y Y0.2.2.2.2.2.2 (z_so_nx σ p) (a := 2) (by decide)
    have eo : ∀ q, t_X12_opens (z_nx σ p) q = some (0, σ') := fun q => by
      unfold t_X12_opens
      try dsimp only
      rw [if_pos (show r_I (z_nx σ p) 13 = 10 by rw [z_nxI (by decide), B.2.2, d10]; rfl), z_nx8, show t_X12_fails (z_nx σ p) 2 (nI p) = some (0, σ') from b2, Option.bind_some]
    have e42 : ∀ s, s ≠ 0 → t_X7_openAll_42 (t_X7_openAll_2 fu) j d (nI x) s = some (j, d') := fun s hs => by
      unfold t_X7_openAll_42
      rw [if_neg hs]
      try dsimp only
      rw [if_neg (show ¬ g_I j 7 < 10 by rw [A.2.2, d10]; decide), show t_X3_refuse d 2 = some (0, d') from b1, Option.bind_some]
    have eR : t_X12_fact_2 (fu' + 2) σ 1 = if z_k1 f N p = 716 then some (0, σ') else if z_k1 f N p = 91 then some (0, σ') else t_X12_compare (z_nx σ p) := by
      rw [t_X12_fact_2, if_neg (by decide), es, Option.bind_some]
      try dsimp only
      rw [w16, Option.bind_some]
      try dsimp only
      by_cases c16 : z_k1 f N p = 716
      · rw [if_pos c16, if_pos c16, if_neg (by decide), eo, Option.bind_some]
        exact if_pos rfl
      · rw [if_neg c16, if_neg c16, if_pos rfl]
        by_cases c91 : z_k1 f N p = 91
        · rw [if_pos (show (if p < N then nI (z_u f p) else (-1 : Int32)) = (91 : Int32) from s91.mpr c91), if_pos c91, eo, Option.bind_some]
          exact if_pos rfl
        · rw [if_neg (show ¬ (if p < N then nI (z_u f p) else (-1 : Int32)) = (91 : Int32) from fun e => c91 (s91.mp e)), if_neg c91]
          unfold t_X12_fact_72
          rw [t_X12_fact_2, if_pos rfl]
          cases t_X12_compare (z_nx σ p) with
          | none => rfl
          | some y => rfl
    have eC : t_X7_openAll_2 (fu + 1) j d (nI x) = if z_k1 f N p = 716 then some (j, d') else if z_k1 f N p = 91 then some (j, d') else some (j, d) := by
      rw [t_X7_openAll_2, if_neg (show ¬ (10 : Int32) < nI x from nI_nlt (a := 10) (by omega) (by decide))]
      try dsimp only
      rw [k6]
      by_cases c16 : z_k1 f N p = 716
      · rw [if_pos c16, c16, if_neg (show ¬ nI 716 = (91 : Int32) by decide), if_pos (show nI 716 = (716 : Int32) from rfl), e42 _ (by decide)]
      · rw [if_neg c16]
        by_cases c91 : z_k1 f N p = 91
        · rw [if_pos c91, c91, if_pos (show nI 91 = (91 : Int32) from rfl), e42 _ (by decide)]
        · rw [if_neg c91, if_neg (show ¬ nI (z_k1 f N p) = (91 : Int32) from fun e => c91 ((nI_eq (b := 91) (by omega) (by decide)).mp e)), if_neg (show ¬ nI (z_k1 f N p) = (716 : Int32) from fun e => c16 ((nI_eq (b := 716) (by omega) (by decide)).mp e))]
          exact if_pos rfl
    rw [eC, eR]
    have bad : ∃ j1 d1 σ1, some (j, d') = some (j1, d1) ∧ z_f3 r σ σ1 ∧ z_f4 j j1 ∧ g_P d1 = g_P d ∧ ((some ((0 : Int32), σ') = t_X12_compare σ1 ∧ ∃ k' p' i' n' w', z_y d1 σ1 f N k' p' i' ∧ z_cj j1 σ1 r c m K V ∧ z_w1 j1 w' n' ∧ z_w2 σ1 w' n' ∧ z_wv w' n' ∧ z_dp w' n' ≤ 10 ∧ c + n' ≤ k' ∧ z_bn w' n' = z_bn w n) ∨ (some ((0 : Int32), σ') = some (0, σ1) ∧ ∃ e n', z_dd d1 e ∧ r_I σ1 9 = e ∧ g_I j1 2 = nI c ∧ g_I j1 6 = nI n' ∧ n' ≤ 40)) :=
      ⟨j, d', σ', rfl, z_f3_1 (z_f1_so r b5), z_f4_refl _, b6, Or.inr ⟨rfl, e, n, b3, b4, C.2.2.2.1, A.1, by omega⟩⟩
    by_cases c16 : z_k1 f N p = 716
    · rw [if_pos c16, if_pos c16]
      exact bad
    · rw [if_neg c16, if_neg c16]
      by_cases c91 : z_k1 f N p = 91
      · rw [if_pos c91, if_pos c91]
        exact bad
      · rw [if_neg c91, if_neg c91]
        exact ⟨j, d, z_nx σ p, rfl, z_f3_1 (z_f1_so r (z_so_nx σ p)), z_f4_refl _, rfl, Or.inl ⟨rfl, k, p, p, n, w, Y0, z_cj_so C (z_so_nx σ p), A, z_w2_f1 B (z_f1_so r (z_so_nx σ p)), H, by omega, hc, rfl⟩⟩
  | succ u ih =>
    intro x fu fu' n k p i w j d σ hu hx hf hf' Y C A B H hc
    obtain ⟨fu, rfl⟩ := Nat.exists_eq_succ_of_ne_zero (show fu ≠ 0 by omega)
    obtain ⟨fu', rfl⟩ : ∃ g, fu' = g + 2 := ⟨fu' - 2, by omega⟩
    have es := z_y_see Y
    have Y0 := z_y_nx Y
    have w16 := z_y_isW Y0 16 (w := [110, 111, 116]) rfl (c := 7237492) (by decide +kernel)
    rw [z_nxx] at w16
    obtain ⟨k6, -, hp⟩ := z_rr_k Y.2.2.2.2.1
    have kl := z_k1_lt f N p
    have s91 := z_sign (f := f) (N := N) (p := p) (c := 91) (by decide) (by omega) (by decide)
    have h32 := z_w32 H (by omega)
    have C0 := z_cj_so C (z_so_nx σ p)
    have B0 := z_w2_f1 B (z_f1_so r (z_so_nx σ p))
    have e42 : ∀ v, (v = 1 ∨ v = 4) → t_X7_openAll_42 (t_X7_openAll_2 fu) j d (nI x) (nI v) = (t_X7_hold (g_si j 7 (g_I j 7 + 1)) (nI v)).bind fun j2 => (t_X3_next d).bind fun d3 => t_X7_openAll_2 fu j2 d3 (nI x + 1) := fun v hv => by
      unfold t_X7_openAll_42
      rw [if_neg (nI_ne0 (by omega) (by omega))]
      try dsimp only
      rw [if_pos (show g_I j 7 < 10 by rw [A.2.2]; exact nI_lt (b := 10) (by omega) (by decide))]
    by_cases c16 : z_k1 f N p = 716
    · obtain ⟨j1, σ1, a1, a2, a3, a4, a5, a6, a7, a8, a9, a10⟩ := z_open1 C0 A B0 H (by omega) (v := 4) (Or.inr rfl)
      have Y1 := z_y_f3 Y0 a7 a9 a10
      obtain ⟨q1, q2⟩ := z_y_pass Y1 (j := 16) c16
      obtain ⟨d2, n1, n2, n3⟩ := z_yb_next q2
      have eD : z_dp (z_un w n 4) (n + 1) = z_dp w n + 1 := by rw [z_dp_put, if_pos (Or.inr rfl)]
      obtain ⟨j', d', σ', x1, x2, x3, x4, x5⟩ := ih (x + 1) fu (fu' + 1) (n + 1) (k + 1) _ _ (z_un w n 4) j1 d2 (z_nx σ1 (z_nd f N p)) (by omega) (by omega) (by omega) (by omega) n2 (z_cj_so a3 (z_so_nx _ _)) a4 (z_w2_f1 a5 (z_f1_so r (z_so_nx _ _))) a6 (by omega)
      have eC : t_X7_openAll_2 (fu + 1) j d (nI x) = some (j', d') := by
        rw [t_X7_openAll_2, if_neg (show ¬ (10 : Int32) < nI x from nI_nlt (a := 10) (by omega) (by decide))]
        try dsimp only
        rw [k6, c16, if_neg (show ¬ nI 716 = (91 : Int32) by decide), if_pos (show nI 716 = (716 : Int32) from rfl)]
        refine (e42 4 (Or.inr rfl)).trans ?_
        rw [a1, Option.bind_some, n1, Option.bind_some, nI_1]
        exact x1
      have eR : t_X12_fact_2 (fu' + 2) σ 1 = t_X12_fact_2 (fu' + 1) (z_nx σ1 (z_nd f N p)) 1 := by
        rw [t_X12_fact_2, if_neg (by decide), es, Option.bind_some]
        try dsimp only
        rw [w16, Option.bind_some]
        try dsimp only
        rw [if_pos c16, if_neg (by decide), show t_X12_opens (z_nx σ p) 11 = some (1, σ1) from a2, Option.bind_some]
        try dsimp only
        rw [if_neg (by decide), q1, Option.bind_some]
        rfl
      rw [eC, eR]
      refine ⟨j', d', σ', rfl, z_f3_trans (z_f3_1 (z_f1_so r (z_so_nx σ p))) (z_f3_trans a7 (z_f3_trans (z_f3_1 (z_f1_so r (z_so_nx _ _))) x2)), z_f4_trans a8 x3, x4.trans n3, ?_⟩
      rcases x5 with ⟨y1, k', p', i', n', w', y2, y3, y4, y5, y6, y7, y8, y9⟩ | y
      · exact Or.inl ⟨y1, k', p', i', n', w', y2, y3, y4, y5, y6, y7, y8, by rw [y9, z_bn_put, if_neg (by omega)]; rfl⟩
      · exact Or.inr y
    · by_cases c91 : z_k1 f N p = 91
      · obtain ⟨j1, σ1, a1, a2, a3, a4, a5, a6, a7, a8, a9, a10⟩ := z_open1 C0 A B0 H (by omega) (v := 1) (Or.inl rfl)
        have Y1 := z_y_f3 Y0 a7 a9 a10
        obtain ⟨-, -, d2, n1, n2, n3⟩ := z_pass1 Y1 c91 (by omega)
        have eD : z_dp (z_un w n 1) (n + 1) = z_dp w n + 1 := by rw [z_dp_put, if_pos (Or.inl rfl)]
        obtain ⟨j', d', σ', x1, x2, x3, x4, x5⟩ := ih (x + 1) fu (fu' + 1) (n + 1) (k + 1) _ _ (z_un w n 1) j1 d2 (z_nx σ1 (p + 1)) (by omega) (by omega) (by omega) (by omega) n2 (z_cj_so a3 (z_so_nx _ _)) a4 (z_w2_f1 a5 (z_f1_so r (z_so_nx _ _))) a6 (by omega)
        have eC : t_X7_openAll_2 (fu + 1) j d (nI x) = some (j', d') := by
          rw [t_X7_openAll_2, if_neg (show ¬ (10 : Int32) < nI x from nI_nlt (a := 10) (by omega) (by decide))]
          try dsimp only
          rw [k6, c91, if_pos (show nI 91 = (91 : Int32) from rfl)]
          refine (e42 1 (Or.inl rfl)).trans ?_
          rw [a1, Option.bind_some, n1, Option.bind_some, nI_1]
          exact x1
        have eR : t_X12_fact_2 (fu' + 2) σ 1 = t_X12_fact_2 (fu' + 1) (z_nx σ1 (p + 1)) 1 := by
          rw [t_X12_fact_2, if_neg (by decide), es, Option.bind_some]
          try dsimp only
          rw [w16, Option.bind_some]
          try dsimp only
          rw [if_neg c16, if_pos rfl, if_pos (show (if p < N then nI (z_u f p) else (-1 : Int32)) = (91 : Int32) from s91.mpr c91), show t_X12_opens (z_nx σ p) 91 = some (1, σ1) from a2, Option.bind_some]
          try dsimp only
          rw [if_neg (by decide), a9, z_nx8, nI_1]
          rfl
        rw [eC, eR]
        refine ⟨j', d', σ', rfl, z_f3_trans (z_f3_1 (z_f1_so r (z_so_nx σ p))) (z_f3_trans a7 (z_f3_trans (z_f3_1 (z_f1_so r (z_so_nx _ _))) x2)), z_f4_trans a8 x3, x4.trans n3, ?_⟩
        rcases x5 with ⟨y1, k', p', i', n', w', y2, y3, y4, y5, y6, y7, y8, y9⟩ | y
        · exact Or.inl ⟨y1, k', p', i', n', w', y2, y3, y4, y5, y6, y7, y8, by rw [y9, z_bn_put, if_neg (by omega)]; rfl⟩
        · exact Or.inr y
      · refine ⟨j, d, z_nx σ p, ?_, z_f3_1 (z_f1_so r (z_so_nx σ p)), z_f4_refl _, rfl, Or.inl ⟨?_, k, p, p, n, w, Y0, C0, A, B0, H, by omega, hc, rfl⟩⟩
        · rw [t_X7_openAll_2, if_neg (show ¬ (10 : Int32) < nI x from nI_nlt (a := 10) (by omega) (by decide))]
          try dsimp only
          rw [k6, if_neg (show ¬ nI (z_k1 f N p) = (91 : Int32) from fun e => c91 ((nI_eq (b := 91) (by omega) (by decide)).mp e)), if_neg (show ¬ nI (z_k1 f N p) = (716 : Int32) from fun e => c16 ((nI_eq (b := 716) (by omega) (by decide)).mp e))]
          exact if_pos rfl
        · rw [t_X12_fact_2, if_neg (by decide), es, Option.bind_some]
          try dsimp only
          rw [w16, Option.bind_some]
          try dsimp only
          rw [if_neg c16, if_pos rfl, if_neg (show ¬ (if p < N then nI (z_u f p) else (-1 : Int32)) = (91 : Int32) from fun e => c91 (s91.mp e))]
          unfold t_X12_fact_72
          rw [t_X12_fact_2, if_pos rfl]
          cases t_X12_compare (z_nx σ p) with
          | none => rfl
          | some y => rfl
/-- both sides are behind a comparison, n signs wait -/
def z_tQ (j : g_S) (σ : r_S) (r c0 c m n : Nat) (K V w : Nat → Nat) : Prop := z_cj j σ r c m K V ∧ z_w1 j w n ∧ z_w2 σ w n ∧ z_wv w n ∧ z_dp w n ≤ 10 ∧ z_tt K c0 c (List.replicate (z_bn w n + 1) true) ∧ z_bn w n + 1 ≤ m
def z_tS (j d : g_S) (σ : r_S) (f : Nat → Int32) (N r c0 k p i c m n : Nat) (K V w : Nat → Nat) : Prop := z_y d σ f N k p i ∧ z_tQ j σ r c0 c m n K V w ∧ c + n ≤ k
theorem z_factS {n k p i c m : Nat} {K V w : Nat → Nat} {j d : g_S} {σ : r_S} (Y : z_y d σ f N k p i) (C : z_cj j σ r c m K V) (A : z_w1 j w n) (B : z_w2 σ w n) (H : z_wv w n) (hd : z_dp w n ≤ 10) (hc : c + n ≤ k) (T : z_tt K c0 c (List.replicate (z_bn w n) true)) (hl : z_bn w n ≤ m) :
    ∃ j' d' rr σ', (t_X7_openAll j d).bind (fun x => t_X7_readComparison x.1 x.2) = some (j', d') ∧ t_X12_fact σ = some (rr, σ') ∧ z_f3 r σ σ' ∧ z_f4 j j' ∧ g_P d' = g_P d ∧
      ((rr = 1 ∧ ∃ k' p' i' c' m' n' K' V' w', z_tS j' d' σ' f N r c0 k' p' i' c' m' n' K' V' w' ∧ c < c' ∧ m < m' ∧ ∀ q, q < c → K' q = K q ∧ V' q = V q) ∨
       (rr = 0 ∧ ∃ e c' n', z_dd d' e ∧ r_I σ' 9 = e ∧ g_I j' 2 = nI c' ∧ c' ≤ 400 ∧ g_I j' 6 = nI n' ∧ n' ≤ 40)) := by
  obtain ⟨j1, d1, σ1, x1, x2, x3, x4, x5⟩ := z_openS (10 - z_dp w n) 0 q_fu q_fu n k p i w j d σ (by omega) (by omega) (by show _ < 5000; omega) (by show _ < 5000; omega) Y C A B H hc
  have eO : t_X7_openAll j d = some (j1, d1) := x1
  rw [eO, Option.bind_some]
  rcases x5 with ⟨y1, k1, p1, i1, n1, w1, y2, y3, y4, y5, y6, y7, y8, y9⟩ | ⟨y1, e, n1, D, y3, y4, y5, y6⟩
  · have eF : t_X12_fact σ = t_X12_compare σ1 := y1
    rw [eF]
    obtain ⟨j2, d2, rr, σ2, b1, b2, b3, b4, b5, b6⟩ := z_cmpS (w := n1) (S0 := List.replicate (z_bn w1 n1) true) y2 y3 y8 (by rw [y9]; exact T) (by rw [List.length_replicate, y9]; exact hl)
    refine ⟨j2, d2, rr, σ2, b1, b2, z_f3_trans x2 (z_f3_1 b3), z_f4_trans x3 (z_f4_2 b4), b5.trans x4, ?_⟩
    rcases b6 with ⟨rfl, k2, p2, i2, c2, m2, K2, V2, g1, g2, g3, g4, g5, g6, g7, g8⟩ | ⟨rfl, e, c2, g1, g2, g3, g4⟩
    · refine Or.inl ⟨rfl, k2, p2, i2, c2, m2, n1, K2, V2, w1, ⟨g1, ⟨g2, z_w1_f2 y4 b4, z_w2_f1 y5 b3, y6, y7, g4, ?_⟩, g3⟩, g6, g7, g8⟩
      rw [List.length_cons, List.length_replicate] at g5
      exact g5
    · exact Or.inr ⟨rfl, e, c2, n1, g1, g2, g3, g4, (b4.1 6 (by decide) (by decide)).trans y4.1, by have := z_w32 y6 y7; omega⟩
  · have eF : t_X12_fact σ = some (0, σ1) := y1
    refine ⟨j1, d1, 0, σ1, ?_, eF, x2, x3, x4, Or.inr ⟨rfl, e, c, n1, D, y3, y4, C.2.2.1, y5, y6⟩⟩
    unfold t_X7_readComparison
    try dsimp only
    rw [if_neg (z_dd8 D)]
end FA

/-! ===== L3: a CLAUSE of a RULE, both sides ===== -/
def z_f5 (r : Nat) (σ σ' : r_S) : Prop := (∀ k, k ≠ 3 → k ≠ 4 → k ≠ 5 → k ≠ 6 → k ≠ 15 → r_A σ' k = r_A σ k) ∧ (∀ i, i < 400 * r ∨ 400 * r + 400 ≤ i → r_A σ' 3 i = r_A σ 3 i) ∧ (∀ i, i ≠ r → r_A σ' 4 i = r_A σ 4 i) ∧ (∀ i, i < 48 * r ∨ 48 * r + 48 ≤ i → r_A σ' 5 i = r_A σ 5 i) ∧ (∀ i, i ≠ r → r_A σ' 6 i = r_A σ 6 i) ∧ (∀ k, k ≠ 1 → k ≠ 8 → k ≠ 9 → k ≠ 10 → k ≠ 12 → k ≠ 13 → k ≠ 14 → k ≠ 16 → r_I σ' k = r_I σ k) ∧ r_L σ' = r_L σ ∧ r_D σ' = r_D σ
theorem z_f5_3 {r : Nat} {σ σ' : r_S} (A : z_f3 r σ σ') : z_f5 r σ σ' := ⟨fun k h1 h2 _ _ h3 => A.1 k h1 h2 h3, A.2.1, A.2.2.1, fun i _ => by rw [A.1 5 (by decide) (by decide) (by decide)], fun i _ => by rw [A.1 6 (by decide) (by decide) (by decide)], fun k _ h1 h2 h3 h4 h5 _ h6 => A.2.2.2.1 k h1 h2 h3 h4 h5 h6, A.2.2.2.2⟩
theorem z_f5_trans {r : Nat} {σ σ1 σ2 : r_S} (A : z_f5 r σ σ1) (B : z_f5 r σ1 σ2) : z_f5 r σ σ2 := ⟨fun k h1 h2 h3 h4 h5 => (B.1 k h1 h2 h3 h4 h5).trans (A.1 k h1 h2 h3 h4 h5), fun i h => (B.2.1 i h).trans (A.2.1 i h), fun i h => (B.2.2.1 i h).trans (A.2.2.1 i h), fun i h => (B.2.2.2.1 i h).trans (A.2.2.2.1 i h), fun i h => (B.2.2.2.2.1 i h).trans (A.2.2.2.2.1 i h), fun k h0 h1 h2 h3 h4 h5 h6 h7 => (B.2.2.2.2.2.1 k h0 h1 h2 h3 h4 h5 h6 h7).trans (A.2.2.2.2.2.1 k h0 h1 h2 h3 h4 h5 h6 h7), B.2.2.2.2.2.2.1.trans A.2.2.2.2.2.2.1, B.2.2.2.2.2.2.2.trans A.2.2.2.2.2.2.2⟩
theorem z_f5_so {r : Nat} {σ σ' : r_S} (S : z_so σ σ') : z_f5 r σ σ' := z_f5_3 (z_f3_1 (z_f1_so r S))
theorem z_f5_si {r : Nat} (σ : r_S) {k : Nat} (h : k = 1 ∨ k = 8 ∨ k = 9 ∨ k = 10 ∨ k = 12 ∨ k = 13 ∨ k = 14 ∨ k = 16) (v : Int32) : z_f5 r σ (r_si σ k v) := ⟨fun _ _ _ _ _ _ => rfl, fun _ _ => rfl, fun _ _ => rfl, fun _ _ => rfl, fun _ _ => rfl, fun q h0 h1 h2 h3 h4 h5 h6 h7 => z_rsiIn (by omega), rfl, rfl⟩
theorem z_f5_5 {r : Nat} (σ : r_S) {i : Nat} (h1 : 48 * r ≤ i) (h2 : i < 48 * r + 48) (v : Int32) : z_f5 r σ (r_sa σ 5 (upd (r_A σ 5) i v)) := ⟨fun k _ _ h _ _ => z_rAn h, fun i _ => by rw [z_rAn (by decide)], fun i _ => by rw [z_rAn (by decide)], fun q hq => by rw [z_rA, pk_un (by omega)], fun i _ => by rw [z_rAn (by decide)], fun _ _ _ _ _ _ _ _ _ => rfl, rfl, rfl⟩
theorem z_f5_6 {r : Nat} (σ : r_S) (v : Int32) : z_f5 r σ (r_sa σ 6 (upd (r_A σ 6) r v)) := ⟨fun k _ _ _ h _ => z_rAn h, fun i _ => by rw [z_rAn (by decide)], fun i _ => by rw [z_rAn (by decide)], fun i _ => by rw [z_rAn (by decide)], fun i h => by rw [z_rA, pk_un h], fun _ _ _ _ _ _ _ _ _ => rfl, rfl, rfl⟩
theorem z_y_gen {f : Nat → Int32} {N : Nat} {d : g_S} {σ σ' : r_S} {k p i : Nat} (Y : z_y d σ f N k p i) (h0 : r_A σ' 0 = r_A σ 0) (h1 : r_I σ' 1 = r_I σ 1) (h8 : r_I σ' 8 = r_I σ 8) (h9 : r_I σ' 9 = r_I σ 9) : z_y d σ' f N k p i := by
  obtain ⟨y1, y2, y3, y4, y5, y6, y7⟩ := Y
  exact ⟨⟨h0.trans y1.1, h1.trans y1.2.1, y1.2.2⟩, h8.trans y2, y3, y4, y5, y6, h9.trans y7⟩
theorem z_mark {j : g_S} {x : Nat} (h4 : g_I j 4 = nI x) (hx : x < 25) : t_X7_mark j = some (g_si (g_sa j 3 (upd (g_A j 3) x (g_I j 2))) 4 (nI (x + 1))) := by
  unfold t_X7_mark
  try dsimp only
  rw [h4, if_neg (show ¬ Int32.ofNat 25 ≤ nI x from nI_ge (b := 25) hx (by decide)), u_si_in hx (by decide), Option.bind_some, show g_I (g_sa j 3 (upd (g_A j 3) x (g_I j 2))) 4 = nI x from h4, nI_1]
theorem z_mark_any {j : g_S} {x : Nat} (h4 : g_I j 4 = nI x) (hx : x ≤ 25) : ∃ j', t_X7_mark j = some j' ∧ g_P j' = g_P j := by
  by_cases c : x < 25
  · exact ⟨_, z_mark h4 c, rfl⟩
  · refine ⟨j, ?_, rfl⟩
    unfold t_X7_mark
    try dsimp only
    rw [h4, if_pos (show Int32.ofNat 25 ≤ nI x from nI_le (a := 25) (by omega) (by omega))]
/-- the CLAUSES of RULE r so far: L of them, the code is c long -/
def z_cc (j : g_S) (σ : r_S) (r L c : Nat) (K a m : Nat → Nat) : Prop := r_A σ 6 r = nI L ∧ g_I j 4 = nI (2 * L) ∧ a L = c ∧ ∀ q, q < L → a q ≤ m q ∧ m q ≤ a (q + 1) ∧ a (q + 1) ≤ c ∧ g_A j 3 (2 * q) = nI (a q) ∧ g_A j 3 (2 * q + 1) = nI (m q) ∧ r_A σ 5 (48 * r + 4 * q) = nI (a q) ∧ r_A σ 5 (48 * r + 4 * q + 1) = nI (m q) ∧ z_ty K (m q - a q) (a q) [] = some [false] ∧
    ((m q = a (q + 1) ∧ r_A σ 5 (48 * r + 4 * q + 2) = -1) ∨ (m q < a (q + 1) ∧ r_A σ 5 (48 * r + 4 * q + 2) = nI (m q) ∧ r_A σ 5 (48 * r + 4 * q + 3) = nI (a (q + 1)) ∧ z_ty K (a (q + 1) - m q) (m q) [] = some [true]))
/-- one more of them -/
theorem z_cc_put {j j' : g_S} {σ σ' : r_S} {r L c c1 c2 : Nat} {K K' a m : Nat → Nat} (H : z_cc j σ r L c K a m) (hK : ∀ q, q < c → K' q = K q) (h6 : r_A σ' 6 r = nI (L + 1)) (h4 : g_I j' 4 = nI (2 * L + 2)) (h3 : ∀ q, q < 2 * L → g_A j' 3 q = g_A j 3 q) (h30 : g_A j' 3 (2 * L) = nI c) (h31 : g_A j' 3 (2 * L + 1) = nI c1) (h5 : ∀ q, q < 4 * L → r_A σ' 5 (48 * r + q) = r_A σ 5 (48 * r + q)) (h50 : r_A σ' 5 (48 * r + 4 * L) = nI c) (h51 : r_A σ' 5 (48 * r + 4 * L + 1) = nI c1) (l1 : c ≤ c1) (l2 : c1 ≤ c2) (T1 : z_ty K' (c1 - c) c [] = some [false])
    (T2 : (c1 = c2 ∧ r_A σ' 5 (48 * r + 4 * L + 2) = -1) ∨ (c1 < c2 ∧ r_A σ' 5 (48 * r + 4 * L + 2) = nI c1 ∧ r_A σ' 5 (48 * r + 4 * L + 3) = nI c2 ∧ z_ty K' (c2 - c1) c1 [] = some [true])) : z_cc j' σ' r (L + 1) c2 K' (z_un a (L + 1) c2) (z_un m L c1) := by
  obtain ⟨x1, x2, x3, x4⟩ := H
  refine ⟨h6, h4, z_un_at _ _ _, fun q hq => ?_⟩
  by_cases e : q = L
  · subst e
    rw [z_un_at, z_un_at, z_un_lt (show q < q + 1 by omega), x3]
    exact ⟨l1, l2, Nat.le_refl _, h30, h31, h50, h51, T1, T2⟩
  · have hq' : q < L := by omega
    rw [z_un_lt (show q < L + 1 by omega), z_un_lt hq', z_un_lt (show q + 1 < L + 1 by omega)]
    obtain ⟨y1, y2, y3, y4, y5, y6, y7, y8, y9⟩ := x4 q hq'
    have h5' : ∀ s, s < 4 → r_A σ' 5 (48 * r + 4 * q + s) = r_A σ 5 (48 * r + 4 * q + s) := fun s hs => by
      rw [show 48 * r + 4 * q + s = 48 * r + (4 * q + s) by omega]
      exact h5 _ (by omega)
    refine ⟨y1, y2, by omega, (h3 _ (by omega)).trans y4, (h3 _ (by omega)).trans y5, (h5' 0 (by decide)).trans y6, (h5' 1 (by decide)).trans y7, ?_, ?_⟩
    · rw [z_ty_ext (K := K) _ _ _ (fun s h1 h2 => hK s (by omega))]
      exact y8
    · rcases y9 with ⟨z1, z2⟩ | ⟨z1, z2, z3, z4⟩
      · exact Or.inl ⟨z1, (h5' 2 (by decide)).trans z2⟩
      · refine Or.inr ⟨z1, (h5' 2 (by decide)).trans z2, (h5' 3 (by decide)).trans z3, ?_⟩
        rw [z_ty_ext (K := K) _ _ _ (fun s h1 h2 => hK s (by omega))]
        exact z4
theorem z_110 {σ : r_S} {r L c B : Nat} (hr : r < 6) (hB : B + 3 < 288) (h11 : r_I σ 11 = nI r) (h4 : r_A σ 4 r = nI c) (h6 : r_A σ 6 r = nI L) : t_X12_isPullHere_110 σ (nI B) = some (1, r_sa (r_sa σ 5 (upd (r_A σ 5) (B + 3) (nI c))) 6 (upd (r_A σ 6) r (nI (L + 1)))) := by
  unfold t_X12_isPullHere_110
  try dsimp only
  rw [h11, t_ai_in (by omega) (by decide), Option.bind_some, h4, z_nI3, t_si_in hB (by decide), Option.bind_some]
  rw [show r_I (r_sa σ 5 (upd (r_A σ 5) (B + 3) (nI c))) 11 = nI r from h11, z_rAn (by decide), t_ai_in hr (by decide), Option.bind_some, h6, nI_1, t_si_in hr (by decide), Option.bind_some, z_rAn (by decide)]
section CA
variable {f : Nat → Int32} {N r : Nat}
theorem z_clauseU {L k p i c mm : Nat} {K V a m : Nat → Nat} {j d : g_S} {σ : r_S} (Y : z_y d σ f N k p i) (C : z_cj j σ r c mm K V) (hc : c ≤ k) (hL : L ≤ 12) (H : z_cc j σ r L c K a m) (h14 : r_I σ 14 = nI L) :
    ∃ rc j' d' rr σ', t_X7_readClause j d (nI L) = some (rc, j', d') ∧ t_X12_clauseHere σ = some (rr, σ') ∧ z_f5 r σ σ' ∧ g_P j' = g_P j ∧ g_P d' = g_P d ∧
      ((rc = 1 ∧ rr = 1 ∧ L < 12 ∧ r_I σ' 14 = nI (L + 1) ∧ ∃ k' p' i' c' m' K' V' a' b', z_y d' σ' f N k' p' i' ∧ z_cj j' σ' r c' m' K' V' ∧ c' ≤ k' ∧ z_cc j' σ' r (L + 1) c' K' a' b') ∨
       (rc = 0 ∧ rr = 0 ∧ ∃ e x, z_dd d' e ∧ r_I σ' 9 = e ∧ g_I j' 4 = nI x ∧ x ≤ 25)) := by
  have es := z_y_see Y
  have Y0 := z_y_nx Y
  have w12 := z_y_isW Y0 12 (w := [112, 117, 108, 108]) rfl (c := 1886743660) (by decide +kernel)
  rw [z_nxx] at w12
  obtain ⟨k6, -, hp⟩ := z_rr_k Y.2.2.2.2.1
  have kl := z_k1_lt f N p
  have hr := C.1
  have h11 : r_I σ 11 = nI r := C.2.1
  have eR : t_X12_clauseHere σ = if z_k1 f N p = 712 then t_X12_clauseHere_56 (z_nx σ p) (nI p) 0 else t_X12_clauseHere_49 (z_nx σ p) (nI p) := by
    unfold t_X12_clauseHere
    rw [es, Option.bind_some]
    try dsimp only
    rw [z_nx8, z_nxI (by decide), h11, if_neg (show ¬ nI r = 6 from fun e => by have := (nI_eq (b := 6) (by omega) (by decide)).mp e; omega)]
    unfold t_X12_clauseHere_24
    rw [if_pos rfl, w12, Option.bind_some]
    try dsimp only
    by_cases c12 : z_k1 f N p = 712
    · rw [if_pos c12, if_neg (by decide), if_pos c12]
    · rw [if_neg c12, if_pos rfl, if_neg c12]
  by_cases c12 : z_k1 f N p = 712
  rotate_left
  · obtain ⟨d', σ', e, b1, b2, b3, b4, b5, b6⟩ := z_y_bad Y Y0.2.2.2.2.2.2 (z_so_nx σ p) (a := 0) (by decide)
    refine ⟨0, j, d', 0, σ', ?_, ?_, z_f5_so b5, rfl, b6, Or.inr ⟨rfl, rfl, e, 2 * L, b3, b4, H.2.1, by omega⟩⟩
    · unfold t_X7_readClause
      try dsimp only
      rw [k6, if_neg (show ¬ nI (z_k1 f N p) = (712 : Int32) from fun e => c12 ((nI_eq (b := 712) (by omega) (by decide)).mp e)), show t_X3_refuse d 0 = some (0, d') from b1, Option.bind_some]
    · rw [eR, if_neg c12]
      unfold t_X12_clauseHere_49
      rw [show t_X12_fails (z_nx σ p) 0 (nI p) = some (0, σ') from b2, Option.bind_some]
  rw [if_pos c12] at eR
  by_cases c12' : L = 12
  · obtain ⟨d', σ', e, b1, b2, b3, b4, b5, b6⟩ := z_y_bad Y Y0.2.2.2.2.2.2 (z_so_nx σ p) (a := 4) (by decide)
    refine ⟨0, j, d', 0, σ', ?_, ?_, z_f5_so b5, rfl, b6, Or.inr ⟨rfl, rfl, e, 2 * L, b3, b4, H.2.1, by omega⟩⟩
    · unfold t_X7_readClause
      try dsimp only
      rw [k6, if_pos (show nI (z_k1 f N p) = (712 : Int32) by rw [c12]; rfl), if_neg (show ¬ nI L < 12 from nI_nlt (b := 12) (by omega) (by omega)), show t_X3_refuse d 4 = some (0, d') from b1, Option.bind_some]
    · rw [eR]
      unfold t_X12_clauseHere_56
      try dsimp only
      rw [if_pos rfl, z_nxI (by decide), h14]
      unfold t_X12_clauseHere_71
      rw [if_pos (show nI L = 12 by rw [c12']; rfl), show t_X12_fails (z_nx σ p) 4 (nI p) = some (0, σ') from b2, Option.bind_some]
  have hL12 : L < 12 := by omega
  obtain ⟨B, hB⟩ : ∃ B, B = 48 * r + 4 * L := ⟨_, rfl⟩
  have hB3 : B + 3 < 288 := by omega
  -- pull is passed
  obtain ⟨σb, hσb⟩ : ∃ σb, σb = r_si (z_nx σ p) 14 (nI (L + 1)) := ⟨_, rfl⟩
  have Yb : z_y d σb f N k p p := by
    rw [hσb]
    exact z_y_gen Y0 rfl (z_rsiIn (by decide)) (z_rsiIn (by decide)) (z_rsiIn (by decide))
  obtain ⟨p1, p2⟩ := z_y_pass Yb (j := 12) c12
  obtain ⟨d2, n1, n2, n3⟩ := z_yb_next p2
  obtain ⟨σc, hσc⟩ : ∃ σc, σc = z_nx σb (z_nd f N p) := ⟨_, rfl⟩
  rw [← hσc] at p1 p2 n2
  have cI : ∀ q, q ≠ 8 → q ≠ 14 → r_I σc q = r_I σ q := fun q h8 h14 => by
    rw [hσc, z_nxI h8, hσb, z_rsiIn h14, z_nxI h8]
  have cA : r_A σc = r_A σ := by rw [hσc, hσb]; rfl
  have c14 : r_I σc 14 = nI (L + 1) := by rw [hσc, z_nxI (by decide), hσb, z_rsiI]
  have Fc : z_f5 r σ σc := by
    rw [hσc, hσb]
    exact z_f5_trans (z_f5_so (z_so_nx σ p)) (z_f5_trans (z_f5_si _ (by omega) _) (z_f5_so (z_so_nx _ _)))
  obtain ⟨σd, hσd⟩ : ∃ σd, σd = r_sa σc 5 (upd (r_A σc 5) B (nI c)) := ⟨_, rfl⟩
  have dI : ∀ q, r_I σd q = r_I σc q := fun q => by rw [hσd]; rfl
  have dA : ∀ q, q ≠ 5 → r_A σd q = r_A σ q := fun q hq => by rw [hσd, z_rAn hq, cA]
  have Fd : z_f5 r σ σd := by
    rw [hσd]
    exact z_f5_trans Fc (z_f5_5 _ (by omega) (by omega) _)
  obtain ⟨j1, hj1⟩ : ∃ j1, j1 = g_si (g_sa j 3 (upd (g_A j 3) (2 * L) (nI c))) 4 (nI (2 * L + 1)) := ⟨_, rfl⟩
  have ej1 : t_X7_mark j = some j1 := by rw [z_mark H.2.1 (by omega), hj1, C.2.2.2.1]
  have Yd : z_y d2 σd f N (k + 1) _ _ := z_y_gen n2 (by rw [hσd, z_rAn (by decide)]) (dI 1) (dI 8) (dI 9)
  have Cd : z_cj j1 σd r c mm K V := by
    rw [hj1]
    exact z_cj_w C (z_si_In (by decide)) (z_si_In (by decide)) (z_sa_of (by decide)) ((dI 11).trans (cI 11 (by decide) (by decide))) ((dI 12).trans (cI 12 (by decide) (by decide))) (dA 3 (by decide)) (dA 4 (by decide))
  obtain ⟨j3, d4, rr, σe, s1, s2, s3, s4, s5, s6⟩ := z_sumS (w := 0) (c0 := c) (S0 := []) Yd Cd (by omega) ⟨Nat.le_refl _, by rw [Nat.sub_self]; rfl⟩ (Nat.zero_le _)
  have j34 : g_I j3 4 = nI (2 * L + 1) := by rw [s4.1 4 (by decide) (by decide), hj1, z_si_I]
  have j33 : g_A j3 3 = upd (g_A j 3) (2 * L) (nI c) := by rw [s4.2.1 3 (by decide), hj1, z_si_A, z_sa_at]
  have j3P : g_P j3 = g_P j := by rw [s4.2.2, hj1]; rfl
  obtain ⟨j5, hj5⟩ : ∃ j5, j5 = g_si (g_sa j3 3 (upd (g_A j3 3) (2 * L + 1) (g_I j3 2))) 4 (nI (2 * L + 2)) := ⟨_, rfl⟩
  have ej5 : t_X7_mark j3 = some j5 := by rw [z_mark j34 (by omega), hj5]
  have j54 : g_I j5 4 = nI (2 * L + 2) := by rw [hj5, z_si_I]
  have j53 : g_A j5 3 = upd (upd (g_A j 3) (2 * L) (nI c)) (2 * L + 1) (g_I j3 2) := by rw [hj5, z_si_A, z_sa_at, j33]
  have j5P : g_P j5 = g_P j := by rw [hj5]; exact j3P
  have eC : t_X7_readClause j d (nI L) = if g_I d4 8 = 0 then (if g_I d4 6 = 713 then (t_X3_next d4).bind fun d6 => (t_X7_readTest j5 d6).bind fun y => t_X7_readClause_90 y.1 y.2 else t_X7_readClause_90 j5 d4) else t_X7_readClause_90 j5 d4 := by
    unfold t_X7_readClause
    try dsimp only
    rw [k6, if_pos (show nI (z_k1 f N p) = (712 : Int32) by rw [c12]; rfl), if_pos (show nI L < 12 from nI_lt (b := 12) (by omega) (by decide)), ej1, Option.bind_some, n1, Option.bind_some, s1, Option.bind_some]
    try dsimp only
    rw [ej5, Option.bind_some]
  have eP : t_X12_clauseHere σ = (t_X12_isPullHere σb).bind fun y => some (y.1, y.2) := by
    rw [eR]
    unfold t_X12_clauseHere_56
    try dsimp only
    rw [if_pos rfl, z_nxI (by decide), h14]
    unfold t_X12_clauseHere_71
    rw [if_neg (show ¬ nI L = 12 from fun e => by have := (nI_eq (b := 12) (by omega) (by decide)).mp e; omega), if_pos rfl, z_nxI (by decide), h14, nI_1, ← hσb]
  have e48 : (48 : Int32) * nI r + 4 * nI L = nI B := by rw [z_ix48, hB]
  have eQ : t_X12_isPullHere σb = if rr = 0 then some (0, σe) else (t_ai 7 (r_A σe 4) (r_I σe 11)).bind fun v18 => (t_si 288 σe 5 (nI (B + 1)) v18).bind fun σ19 => (t_si 288 σ19 5 (nI (B + 2)) (-1)).bind fun σ21 => (t_X12_takesWord σ21 26982).bind fun y => if y.1 = 0 then t_X12_isPullHere_110 y.2 (nI B) else (t_ai 7 (r_A y.2 4) (r_I y.2 11)).bind fun v28 => (t_si 288 y.2 5 (nI (B + 2)) v28).bind fun σ29 => (t_X12_tested σ29).bind fun z => if z.1 = 0 then some (0, z.2) else t_X12_isPullHere_110 z.2 (nI B) := by
    unfold t_X12_isPullHere
    rw [p1, Option.bind_some]
    try dsimp only
    rw [cI 11 (by decide) (by decide), h11, cA, t_ai_in hr (by decide), Option.bind_some, H.1, t_ai_in (by omega) (by decide), Option.bind_some, C.2.2.2.2.1, e48, nI_1, z_nI2, t_si_in (by omega) (by decide), Option.bind_some, ← hσd, s2, Option.bind_some]
  rw [eC, eP, eQ]
  have e90 : ∀ {j d : g_S} {e : Int32}, z_dd d e → t_X7_readClause_90 j d = some (0, j, d) := fun {j d e} D => by
    unfold t_X7_readClause_90
    try dsimp only
    rw [if_neg (z_dd8 D)]
  rcases s6 with ⟨rfl, k3, p3, i3, c1, m1, K1, V1, Y3, C3, b3, T3, b5, b6, b8, b7⟩ | ⟨rfl, e, c', D, b2, b3, b4⟩
  rotate_left
  · refine ⟨0, j5, d4, 0, σe, ?_, by rw [if_pos rfl]; rfl, z_f5_trans Fd (z_f5_3 (z_f3_1 s3)), j5P, s5.trans n3, Or.inr ⟨rfl, rfl, e, 2 * L + 2, D, b2, j54, by omega⟩⟩
    rw [if_neg (z_dd8 D), e90 D]
  -- the SUM is good
  rw [if_neg (show ¬ (1 : Int32) = 0 by decide)]
  have i8 : g_I d4 8 = 0 := Y3.2.2.2.2.2.1
  rw [if_pos i8]
  have e11 : r_I σe 11 = nI r := C3.2.1
  have e4 : r_A σe 4 r = nI c1 := C3.2.2.2.2.1
  have j32 : g_I j3 2 = nI c1 := C3.2.2.2.1
  rw [j32] at j53
  have eA5 : r_A σe 5 = upd (r_A σ 5) B (nI c) := by rw [s3.1 5 (by decide) (by decide), hσd, z_rA, cA]
  have eA6 : r_A σe 6 = r_A σ 6 := by rw [s3.1 6 (by decide) (by decide), dA 6 (by decide)]
  have e14 : r_I σe 14 = nI (L + 1) := by rw [s3.2.2.2.1 14 (by decide) (by decide) (by decide) (by decide), dI, c14]
  obtain ⟨σg, hσg⟩ : ∃ σg, σg = r_sa σe 5 (upd (upd (r_A σe 5) (B + 1) (nI c1)) (B + 2) (-1)) := ⟨_, rfl⟩
  have gI : ∀ q, r_I σg q = r_I σe q := fun q => by rw [hσg]; rfl
  have gA : ∀ q, q ≠ 5 → r_A σg q = r_A σe q := fun q hq => by rw [hσg, z_rAn hq]
  have gA5 : r_A σg 5 = upd (upd (upd (r_A σ 5) B (nI c)) (B + 1) (nI c1)) (B + 2) (-1) := by rw [hσg, z_rA, eA5]
  have Fg : z_f5 r σ σg := by
    refine z_f5_trans Fd (z_f5_trans (z_f5_3 (z_f3_1 s3)) ?_)
    have q1 := z_f5_5 (r := r) σe (i := B + 1) (by omega) (by omega) (nI c1)
    have q2 := z_f5_5 (r := r) (r_sa σe 5 (upd (r_A σe 5) (B + 1) (nI c1))) (i := B + 2) (by omega) (by omega) (-1)
    rw [z_rA, z_rsa2, ← hσg] at q2
    exact z_f5_trans q1 q2
  have Yg : z_y d4 σg f N k3 p3 i3 := z_y_gen Y3 (gA 0 (by decide)) (gI 1) (gI 8) (gI 9)
  have Yg0 := z_y_nx Yg
  have w13 := z_y_isW Yg 13 (w := [105, 102]) rfl (c := 26982) (by decide +kernel)
  rw [e11, t_ai_in (by omega) (by decide), Option.bind_some, e4, t_si_in (by omega) (by decide), Option.bind_some, t_si_in (by omega) (by decide), Option.bind_some, z_rA, z_rsa2, ← hσg]
  obtain ⟨k6', -, hp'⟩ := z_rr_k Y3.2.2.2.2.1
  have kl' := z_k1_lt f N p3
  rw [k6']
  unfold t_X12_takesWord
  rw [w13, Option.bind_some]
  have Cg : z_cj j5 σg r c1 m1 K1 V1 := by
    rw [hj5]
    exact z_cj_w C3 (z_si_In (by decide)) (z_si_In (by decide)) (z_sa_of (by decide)) (gI 11) (gI 12) (gA 3 (by decide)) (gA 4 (by decide))
  have T3' : z_ty K1 (c1 - c) c [] = some [false] := T3.2
  by_cases c13 : z_k1 f N p3 = 713
  · obtain ⟨q1, q2⟩ := z_y_pass Yg0 (j := 13) c13
    rw [z_nxx] at q1 q2
    obtain ⟨d6, m1', m2', m3'⟩ := z_yb_next q2
    obtain ⟨σh, hσh⟩ : ∃ σh, σh = z_nx σg (z_nd f N p3) := ⟨_, rfl⟩
    rw [← hσh] at q1 q2 m2'
    have hI : ∀ q, q ≠ 8 → r_I σh q = r_I σg q := fun q hq => by rw [hσh, z_nxI hq]
    have hA : r_A σh = r_A σg := by rw [hσh]; rfl
    obtain ⟨σi, hσi⟩ : ∃ σi, σi = r_sa σh 5 (upd (r_A σh 5) (B + 2) (nI c1)) := ⟨_, rfl⟩
    have iI : ∀ q, r_I σi q = r_I σh q := fun q => by rw [hσi]; rfl
    have iA : ∀ q, q ≠ 5 → r_A σi q = r_A σe q := fun q hq => by rw [hσi, z_rAn hq, hA, gA q hq]
    have iA5 : r_A σi 5 = upd (r_A σg 5) (B + 2) (nI c1) := by rw [hσi, z_rA, hA]
    have Fi : z_f5 r σ σi := by
      rw [hσi, hσh]
      exact z_f5_trans Fg (z_f5_trans (z_f5_so (z_so_nx σg _)) (z_f5_5 _ (by omega) (by omega) _))
    have Ci : z_cj j5 σi r c1 m1 K1 V1 := z_cj_w Cg rfl rfl rfl ((iI 11).trans (hI 11 (by decide))) ((iI 12).trans (hI 12 (by decide))) ((iA 3 (by decide)).trans (gA 3 (by decide)).symm) ((iA 4 (by decide)).trans (gA 4 (by decide)).symm)
    obtain ⟨j7, d8, rr, σk, t1, t2, t3, t4, t5, t6⟩ := z_testS (z_y_gen m2' (by rw [iA 0 (by decide), hA, gA 0 (by decide)]) (iI 1) (iI 8) (iI 9)) Ci (by omega)
    have j7P : g_P j7 = g_P j := t4.2.2.trans j5P
    have j74 : g_I j7 4 = nI (2 * L + 2) := (t4.1 4 (by decide) (by decide) (by decide) (by decide)).trans j54
    have eCC : (if nI (z_k1 f N p3) = (713 : Int32) then (t_X3_next d4).bind fun d6 => (t_X7_readTest j5 d6).bind fun y => t_X7_readClause_90 y.1 y.2 else t_X7_readClause_90 j5 d4) = t_X7_readClause_90 j7 d8 := by
      rw [if_pos (show nI (z_k1 f N p3) = (713 : Int32) by rw [c13]; rfl), m1', Option.bind_some, t1, Option.bind_some]
    have eRR : (if (if z_k1 f N p3 = 700 + 13 then (1 : Int32) else 0) = 0 then some ((0 : Int32), z_nx σg p3) else (t_X12_passWord (z_nx σg p3)).bind fun s => some ((1 : Int32), s)) = some (1, σh) := by
      rw [if_pos (show z_k1 f N p3 = 700 + 13 from c13), if_neg (by decide), q1, Option.bind_some]
    rw [eCC]
    try dsimp only
    rw [eRR, Option.bind_some]
    try dsimp only
    rw [if_neg (show ¬ (1 : Int32) = 0 by decide), hI 11 (by decide), gI, e11, hA, gA 4 (by decide), t_ai_in (by omega) (by decide), Option.bind_some, e4, t_si_in (by omega) (by decide), Option.bind_some, ← hσi, t2, Option.bind_some]
    try dsimp only
    rcases t6 with ⟨rfl, k5, p5, i5, c2, m2, K2, V2, Y5, C5, u3, T5, u5, u6⟩ | ⟨rfl, e, c', D, u2, u3, u4⟩
    · have k11 : r_I σk 11 = nI r := C5.2.1
      have k4 : r_A σk 4 r = nI c2 := C5.2.2.2.2.1
      have kA5 : r_A σk 5 = r_A σi 5 := t3.1 5 (by decide) (by decide) (by decide)
      have kA6 : r_A σk 6 = r_A σ 6 := by rw [t3.1 6 (by decide) (by decide) (by decide), iA 6 (by decide), eA6]
      rw [if_neg (show ¬ (1 : Int32) = 0 by decide), z_110 hr hB3 k11 k4 (by rw [kA6]; exact H.1), Option.bind_some]
      have Fk : z_f5 r σ σk := z_f5_trans Fi (z_f5_3 t3)
      refine ⟨1, j7, d8, 1, _, ?_, rfl, z_f5_trans Fk (z_f5_trans (z_f5_5 _ (i := B + 3) (by omega) (by omega) (nI c2)) ?_), j7P, t5.trans (m3'.trans (s5.trans n3)), Or.inl ⟨rfl, rfl, hL12, ?_, k5, p5, i5, c2, m2, K2, V2, z_un a (L + 1) c2, z_un m L c1, z_y_gen Y5 ?_ rfl rfl rfl, z_cj_w C5 rfl rfl rfl rfl rfl ?_ ?_, u3, ?_⟩⟩
      · unfold t_X7_readClause_90
        try dsimp only
        rw [if_pos Y5.2.2.2.2.2.1]
      · have := z_f5_6 (r := r) (r_sa σk 5 (upd (r_A σk 5) (B + 3) (nI c2))) (nI (L + 1))
        rw [show r_A (r_sa σk 5 (upd (r_A σk 5) (B + 3) (nI c2))) 6 = r_A σk 6 from z_rAn (by decide)] at this
        exact this
      · exact (t3.2.2.2.1 14 (by decide) (by decide) (by decide) (by decide) (by decide) (by decide)).trans ((iI 14).trans ((hI 14 (by decide)).trans ((gI 14).trans e14)))
      · exact (z_rAn (by decide)).trans (z_rAn (by decide))
      · exact (z_rAn (by decide)).trans (z_rAn (by decide))
      · exact (z_rAn (by decide)).trans (z_rAn (by decide))
      · have A5 : r_A (r_sa (r_sa σk 5 (upd (r_A σk 5) (B + 3) (nI c2))) 6 (upd (r_A σk 6) r (nI (L + 1)))) 5 = upd (upd (upd (upd (upd (r_A σ 5) B (nI c)) (B + 1) (nI c1)) (B + 2) (-1)) (B + 2) (nI c1)) (B + 3) (nI c2) := by
          rw [z_rAn (by decide), z_rA, kA5, iA5, gA5]
        have J3 : g_A j7 3 = upd (upd (g_A j 3) (2 * L) (nI c)) (2 * L + 1) (nI c1) := (t4.2.1 3 (by decide) (by decide)).trans j53
        refine z_cc_put (c1 := c1) (c2 := c2) H (fun q hq => (u6 q (by omega)).1.trans (b7 q hq).1) (by rw [z_rA, pk_us]) j74 (fun q hq => by rw [J3, pk_un (by omega), pk_un (by omega)]) (by rw [J3, pk_un (by omega), pk_us]) (by rw [J3, pk_us]) (fun q hq => by rw [A5, pk_un (by omega), pk_un (by omega), pk_un (by omega), pk_un (by omega), pk_un (by omega)]) (by rw [A5, ← hB, pk_un (by omega), pk_un (by omega), pk_un (by omega), pk_un (by omega), pk_us]) (by rw [A5, ← hB, pk_un (by omega), pk_un (by omega), pk_un (by omega), pk_us]) (by omega) (by omega) ?_ (Or.inr ⟨u5, by rw [A5, ← hB, pk_un (by omega), pk_us], by rw [A5, ← hB, pk_us], T5⟩)
        rw [z_ty_ext (K := K1) _ _ _ (fun s h1 h2 => (u6 s (by omega)).1)]
        exact T3'
    · rw [if_pos rfl]
      refine ⟨0, j7, d8, 0, σk, e90 D, rfl, z_f5_trans Fi (z_f5_3 t3), j7P, t5.trans (m3'.trans (s5.trans n3)), Or.inr ⟨rfl, rfl, e, 2 * L + 2, D, u2, j74, by omega⟩⟩
  · have eCC : (if nI (z_k1 f N p3) = (713 : Int32) then (t_X3_next d4).bind fun d6 => (t_X7_readTest j5 d6).bind fun y => t_X7_readClause_90 y.1 y.2 else t_X7_readClause_90 j5 d4) = t_X7_readClause_90 j5 d4 := by
      rw [if_neg (show ¬ nI (z_k1 f N p3) = (713 : Int32) from fun e => c13 ((nI_eq (b := 713) (by omega) (by decide)).mp e))]
    have eRR : (if (if z_k1 f N p3 = 700 + 13 then (1 : Int32) else 0) = 0 then some ((0 : Int32), z_nx σg p3) else (t_X12_passWord (z_nx σg p3)).bind fun s => some ((1 : Int32), s)) = some (0, z_nx σg p3) := by
      rw [if_neg (show ¬ z_k1 f N p3 = 700 + 13 from c13), if_pos rfl]
    rw [eCC]
    try dsimp only
    rw [eRR, Option.bind_some]
    try dsimp only
    have k11 : r_I (z_nx σg p3) 11 = nI r := (z_nxI (by decide)).trans ((gI 11).trans e11)
    have k4 : r_A (z_nx σg p3) 4 r = nI c1 := by rw [z_nxA, gA 4 (by decide)]; exact e4
    have kA6 : r_A (z_nx σg p3) 6 = r_A σ 6 := by rw [z_nxA, gA 6 (by decide), eA6]
    rw [if_pos rfl, z_110 hr hB3 k11 k4 (by rw [kA6]; exact H.1), Option.bind_some]
    refine ⟨1, j5, d4, 1, _, ?_, rfl, z_f5_trans Fg (z_f5_trans (z_f5_so (z_so_nx σg p3)) (z_f5_trans (z_f5_5 _ (i := B + 3) (by omega) (by omega) (nI c1)) ?_)), j5P, s5.trans n3, Or.inl ⟨rfl, rfl, hL12, ?_, k3, p3, p3, c1, m1, K1, V1, z_un a (L + 1) c1, z_un m L c1, z_y_gen Yg0 ?_ rfl rfl rfl, z_cj_w (z_cj_so Cg (z_so_nx σg p3)) rfl rfl rfl rfl rfl ?_ ?_, by omega, ?_⟩⟩
    · unfold t_X7_readClause_90
      try dsimp only
      rw [if_pos i8]
    · have := z_f5_6 (r := r) (r_sa (z_nx σg p3) 5 (upd (r_A (z_nx σg p3) 5) (B + 3) (nI c1))) (nI (L + 1))
      rw [show r_A (r_sa (z_nx σg p3) 5 (upd (r_A (z_nx σg p3) 5) (B + 3) (nI c1))) 6 = r_A (z_nx σg p3) 6 from z_rAn (by decide)] at this
      exact this
    · exact (z_nxI (σ := σg) (i := p3) (by decide)).trans ((gI 14).trans e14)
    · exact (z_rAn (by decide)).trans (z_rAn (by decide))
    · exact (z_rAn (by decide)).trans (z_rAn (by decide))
    · exact (z_rAn (by decide)).trans (z_rAn (by decide))
    · have A5 : r_A (r_sa (r_sa (z_nx σg p3) 5 (upd (r_A (z_nx σg p3) 5) (B + 3) (nI c1))) 6 (upd (r_A (z_nx σg p3) 6) r (nI (L + 1)))) 5 = upd (upd (upd (upd (r_A σ 5) B (nI c)) (B + 1) (nI c1)) (B + 2) (-1)) (B + 3) (nI c1) := by
        rw [z_rAn (by decide), z_rA, z_nxA, gA5]
      exact z_cc_put (c1 := c1) (c2 := c1) H (fun q hq => (b7 q hq).1) (by rw [z_rA, pk_us]) j54 (fun q hq => by rw [j53, pk_un (by omega), pk_un (by omega)]) (by rw [j53, pk_un (by omega), pk_us]) (by rw [j53, pk_us]) (fun q hq => by rw [A5, pk_un (by omega), pk_un (by omega), pk_un (by omega), pk_un (by omega)]) (by rw [A5, ← hB, pk_un (by omega), pk_un (by omega), pk_un (by omega), pk_us]) (by rw [A5, ← hB, pk_un (by omega), pk_un (by omega), pk_us]) (by omega) (by omega) T3' (Or.inl ⟨rfl, by rw [A5, ← hB, pk_un (by omega), pk_us]⟩)
end CA

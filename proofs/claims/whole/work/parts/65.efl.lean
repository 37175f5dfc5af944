/-! ===== L3: the EFFORTS of a HEAVE, all PULLERS ===== -/
def z_yf (y y' : g_S) (p : Nat) (x : Int32) : Prop := g_A y' 3 = upd (g_A y 3) p x ∧ g_A y' 2 = g_A y 2 ∧ g_A y' 4 = g_A y 4 ∧ g_P y' = g_P y
theorem z_sa_at (y : g_S) (k : Nat) (f : Nat → Int32) : g_A (g_sa y k f) k = f := by
  show va_up y.2.1 k f k = f
  exact va_up_at _ _ _
theorem z_sa_of {y : g_S} {k j : Nat} {f : Nat → Int32} (h : j ≠ k) : g_A (g_sa y k f) j = g_A y j := by
  show va_up y.2.1 k f j = y.2.1 j
  exact va_up_of h
theorem z_yf_sa (y : g_S) (p : Nat) (x : Int32) : z_yf y (g_sa y 3 (upd (g_A y 3) p x)) p x := ⟨z_sa_at _ _ _, z_sa_of (by decide), z_sa_of (by decide), rfl⟩
theorem z_ef_small : ∀ j, j < 4 → z_ef (nI j).toInt64 = j := by decide +kernel
theorem z_pl_no : ∀ j, j < 4 → ¬ lg_cmp (nI j).toInt64 (-1) = 0 := by decide +kernel
/-- an EFFORT of PULLER q that is made: 3 at most, no more than WIND -/
def z_ee (s : Nat → Int32) (q : Nat) (x : Int32) : Prop := ∃ e w, e ≤ 3 ∧ e ≤ w ∧ w ≤ 60 ∧ s (14 + 5 * q) = nI w ∧ x = nI e
theorem z_loopG {σ : r_S} {n : Nat} (hn : n ≤ 8) (h3 : r_A σ 20 3 = nI n) (F : Nat → g_S → Int32 → Option g_S) (I : g_S → Prop) (hx : ∀ fu y, I y → F (fu + 1) y (nI n) = some y) (hs : ∀ p, p < n → ∀ y L v f fu, I y → ∃ y' L' v' x, z_ee (r_A σ 20) p x ∧ F (fu + 1) y (nI p) = F fu y' (nI (p + 1)) ∧ z_yf y y' p x ∧ I y' ∧ t_X12_effortOf (z_w σ L v f) (nI p) = some (x, z_w σ L' v' f)) :
    ∀ (m k : Nat) (y : g_S) (L : Nat → Nat → Int64) (v : Int32) (f : Nat → Int32) (fu fu' : Nat), k + m = n → m < fu → m < fu' → I y → (∀ q, q < k → g_A y 3 q = f q ∧ z_ee (r_A σ 20) q (f q)) →
      ∃ y' L' v' f', F fu y (nI k) = some y' ∧ t_X12_passes_23 fu' (z_w σ L v f) 0 (nI k) = t_X12_passes_52 q_fu (z_w σ L' v' f') 0 0 ∧ (∀ q, q < n → g_A y' 3 q = f' q ∧ z_ee (r_A σ 20) q (f' q)) ∧ I y' := by
  intro m
  induction m with
  | zero =>
    intro k y L v f fu fu' hk hf hf' hI hq
    obtain ⟨fu, rfl⟩ := Nat.exists_eq_succ_of_ne_zero (show fu ≠ 0 by omega)
    obtain ⟨fu', rfl⟩ := Nat.exists_eq_succ_of_ne_zero (show fu' ≠ 0 by omega)
    obtain rfl : k = n := hk
    refine ⟨y, L, v, f, hx fu y hI, ?_, hq, hI⟩
    rw [t_X12_passes_23, z_wA (by decide), z_a3, Option.bind_some, h3, if_pos (nI_le (Nat.le_refl _) (by omega))]
  | succ m ih =>
    intro k y L v f fu fu' hk hf hf' hI hq
    obtain ⟨fu, rfl⟩ := Nat.exists_eq_succ_of_ne_zero (show fu ≠ 0 by omega)
    obtain ⟨fu', rfl⟩ := Nat.exists_eq_succ_of_ne_zero (show fu' ≠ 0 by omega)
    obtain ⟨y1, L1, v1, x, c1, c2, c3, c4, c5⟩ := hs k (by omega) y L v f fu hI
    obtain ⟨y', L', v', f', e1, e2, e3, e4⟩ := ih (k + 1) y1 L1 v1 (upd f k x) fu fu' (by omega) (by omega) (by omega) c4 (fun q hqk => by
      rw [c3.1]
      by_cases e : q = k
      · rw [e, pk_us, pk_us]
        exact ⟨rfl, c1⟩
      · rw [pk_un e, pk_un e]
        exact hq q (by omega))
    refine ⟨y', L', v', f', c2.trans e1, ?_, e3, e4⟩
    rw [t_X12_passes_23, z_wA (by decide), z_a3, Option.bind_some, h3, if_neg (nI_ge (show k < n by omega) (by omega)), c5, Option.bind_some]
    dsimp only
    rw [z_set24 (by omega), Option.bind_some, nI_1]
    exact e2
theorem z_132N {k48 : g_S → g_S → g_S → Int32 → Option g_S} {y o t : g_S} {p : Nat} {x : Int64} (hp : p < 8) : t_X1N_chooseEfforts_132 k48 y o t (nI p) x = k48 (g_sa y 3 (upd (g_A y 3) p (z_cl (g_A t 5 p) x))) o t (nI (p + 1)) := by
  unfold t_X1N_chooseEfforts_132
  rw [t_ai_in hp (by decide), Option.bind_some, u_si_in hp (by decide), Option.bind_some, nI_1]
  rfl
theorem z_stepN {σ : r_S} {y o t : g_S} {n p : Nat} (hn : n ≤ 8) (hp : p < n) (h3 : r_A σ 20 3 = nI n) (ho : z_o o (r_A σ 20) n) (ht : z_t t (r_A σ 20) n) (hside : nb (r_A σ 20 (12 + 5 * p)) 1) (hwd : nb (r_A σ 20 (14 + 5 * p)) 60) (hy2 : g_A y 2 p = r_A σ 23 p) (hpl : r_A σ 23 p = -1 ∨ ∃ j, j ≤ 3 ∧ r_A σ 23 p = nI j) (hfo : r_I σ 21 = -1) (hYP : g_P y 1 = none) (L : Nat → Nat → Int64) (v : Int32) (f : Nat → Int32) (fu : Nat) :
    ∃ y' L' v' x, z_ee (r_A σ 20) p x ∧ t_X1N_chooseEfforts_48 (fu + 1) y o t (nI p) = t_X1N_chooseEfforts_48 fu y' o t (nI (p + 1)) ∧ z_yf y y' p x ∧ t_X12_effortOf (z_w σ L v f) (nI p) = some (x, z_w σ L' v' f) := by
  obtain ⟨w, hw, ew⟩ := hwd
  have e5 : g_A t 5 p = nI w := (ht.2.2.2 p hp).2.2.1.trans ew
  have E : ∀ (y : g_S) (x : Int64), t_X1N_chooseEfforts_132 (t_X1N_chooseEfforts_48 fu) y o t (nI p) x = t_X1N_chooseEfforts_48 fu (g_sa y 3 (upd (g_A y 3) p (nI (min (z_ef x) w)))) o t (nI (p + 1)) := by
    intro y x
    rw [z_132N (by omega), e5, z_cl_eq hw]
  have hee : ∀ x : Int64, z_ee (r_A σ 20) p (nI (min (z_ef x) w)) := fun x => ⟨min (z_ef x) w, w, by have := z_ef_le x; omega, by omega, hw, ew, rfl⟩
  have hA : r_A (z_w σ L v f) 20 = r_A σ 20 := z_wA (by decide)
  have hP : r_A (z_w σ L v f) 23 = r_A σ 23 := z_wA (by decide)
  have hF : r_I (z_w σ L v f) 21 = r_I σ 21 := z_wI (by decide)
  have ew' : r_A (z_w σ L v f) 20 (14 + 5 * p) = nI w := by rw [hA]; exact ew
  have h3' : r_A (z_w σ L v f) 20 3 = nI n := by rw [hA]; exact h3
  obtain ⟨XeA, heA⟩ : ∃ X, t_X1N_chooseEfforts_48 (fu + 1) y o t (nI p) = X := ⟨_, rfl⟩
  have eA := heA
  rw [t_X1N_chooseEfforts_48] at eA
  dsimp only at eA
  rw [ho.1, if_neg (nI_ge hp (by omega)), t_ai_in (by omega) (by decide), Option.bind_some, hy2, z_stands hn ht.2.2.1 hp, Option.bind_some] at eA
  replace eA := heA.trans eA.symm
  by_cases hup : z_up (r_A σ 20) p = true
  · rw [if_pos hup, if_neg (by decide)] at eA
    rcases hpl with hpl | ⟨j, hj, hpl⟩
    · rw [hpl, if_pos (by decide)] at eA
      refine ⟨_, L, v, _, hee 2, ?_, z_yf_sa _ _ _, ?_⟩
      · rw [eA, hYP, if_pos rfl]
        exact E y 2
      · rw [z_effR2 hn hp h3' (by rw [hA]; exact hup) (by rw [hP]; exact hpl) (by rw [hF]; exact hfo) hw ew', show z_ef 2 = 2 by decide]
    · refine ⟨_, L, v, _, hee (nI j).toInt64, ?_, z_yf_sa _ _ _, ?_⟩
      · rw [eA, hpl, if_neg (z_pl_no j (by omega)), t_X1N_chooseEfforts_102, if_neg (z_pl_no j (by omega))]
        exact E y _
      · rw [z_effR1 hn hp h3' (by rw [hA]; exact hup) hj (by rw [hP]; exact hpl) hw ew', z_ef_small j (by omega)]
  · rw [if_neg hup, if_pos rfl] at eA
    refine ⟨_, L, v, _, hee 0, eA.trans (E y 0), z_yf_sa _ _ _, ?_⟩
    rw [z_effR0 hn hp h3' (by rw [hA]; exact hup), show z_ef 0 = 0 by decide, Nat.zero_min]
    rfl
theorem z_132 {k48 : g_S → g_S → g_S → g_S → Int32 → Option g_S} {y o b t : g_S} {p : Nat} {x : Int64} (hp : p < 8) : t_X1_chooseEfforts_132 k48 y o b t (nI p) x = k48 (g_sa y 3 (upd (g_A y 3) p (z_cl (g_A t 5 p) x))) o b t (nI (p + 1)) := by
  unfold t_X1_chooseEfforts_132
  rw [t_ai_in hp (by decide), Option.bind_some, u_si_in hp (by decide), Option.bind_some, nI_1]
  rfl
theorem z_step {σ : r_S} {y o b t : g_S} {n p r : Nat} (hn : n ≤ 8) (hp : p < n) (h3 : r_A σ 20 3 = nI n) (ho : z_o o (r_A σ 20) n) (ht : z_t t (r_A σ 20) n) (hside : nb (r_A σ 20 (12 + 5 * p)) 1) (hwd : nb (r_A σ 20 (14 + 5 * p)) 60) (hy2 : g_A y 2 p = r_A σ 23 p) (hpl : r_A σ 23 p = -1 ∨ ∃ j, j ≤ 3 ∧ r_A σ 23 p = nI j) (hr : r < 6) (hfo : r_I σ 21 = nI r) (hYP : ¬ g_P y 1 = none) (hrl : z_rl b σ r) (hy4 : ∀ c, c < 2 → g_A y 4 c = nI (z_c (fun q => z_up (r_A σ 20) q && z_on (r_A σ 20) (nI c) q) n)) (L : Nat → Nat → Int64) (v : Int32) (f : Nat → Int32) (fu : Nat) :
    ∃ y' L' v' x, z_ee (r_A σ 20) p x ∧ t_X1_chooseEfforts_48 (fu + 1) y o b t (nI p) = t_X1_chooseEfforts_48 fu y' o b t (nI (p + 1)) ∧ z_yf y y' p x ∧ t_X12_effortOf (z_w σ L v f) (nI p) = some (x, z_w σ L' v' f) := by
  obtain ⟨w, hw, ew⟩ := hwd
  have e5 : g_A t 5 p = nI w := (ht.2.2.2 p hp).2.2.1.trans ew
  have E : ∀ (y : g_S) (x : Int64), t_X1_chooseEfforts_132 (t_X1_chooseEfforts_48 fu) y o b t (nI p) x = t_X1_chooseEfforts_48 fu (g_sa y 3 (upd (g_A y 3) p (nI (min (z_ef x) w)))) o b t (nI (p + 1)) := by
    intro y x
    rw [z_132 (by omega), e5, z_cl_eq hw]
  have hee : ∀ x : Int64, z_ee (r_A σ 20) p (nI (min (z_ef x) w)) := fun x => ⟨min (z_ef x) w, w, by have := z_ef_le x; omega, by omega, hw, ew, rfl⟩
  have hA : r_A (z_w σ L v f) 20 = r_A σ 20 := z_wA (by decide)
  have hP : r_A (z_w σ L v f) 23 = r_A σ 23 := z_wA (by decide)
  have hF : r_I (z_w σ L v f) 21 = r_I σ 21 := z_wI (by decide)
  have ew' : r_A (z_w σ L v f) 20 (14 + 5 * p) = nI w := by rw [hA]; exact ew
  have h3' : r_A (z_w σ L v f) 20 3 = nI n := by rw [hA]; exact h3
  obtain ⟨XeA, heA⟩ : ∃ X, t_X1_chooseEfforts_48 (fu + 1) y o b t (nI p) = X := ⟨_, rfl⟩
  have eA := heA
  rw [t_X1_chooseEfforts_48] at eA
  dsimp only at eA
  rw [ho.1, if_neg (nI_ge hp (by omega)), t_ai_in (by omega) (by decide), Option.bind_some, hy2, z_stands hn ht.2.2.1 hp, Option.bind_some] at eA
  replace eA := heA.trans eA.symm
  by_cases hup : z_up (r_A σ 20) p = true
  · rw [if_pos hup, if_neg (by decide)] at eA
    rcases hpl with hpl | ⟨j, hj, hpl⟩
    · rw [hpl, if_pos (by decide)] at eA
      have eT := z_tell (y := y) (m := nI (z_c (fun q => z_up (r_A σ 20) q && z_on (r_A σ 20) (r_A σ 20 (12 + 5 * p)) q) n)) hn hp ho ht hside (fun c hc ec => by rw [ec]; exact hy4 c hc)
      have eS := z_sumOf (L := L) (v := v) (f := f) hn hp h3 hup
      obtain ⟨x, f6, g, v', q1, q2⟩ := z_says (b := b) (w := g_row (g_sl y 5 (z_wf (g_L y 5) (nI p).toInt64 (r_A σ 20 (12 + 5 * p)).toInt64 (r_A σ 20 (52 + p)).toInt64 (r_A σ 20 (14 + 5 * p)).toInt64 (r_A σ 20 (60 + p)).toInt64 (r_A σ 20 (13 + 5 * p)).toInt64 (nI (z_c (fun q => z_up (r_A σ 20) q && z_on (r_A σ 20) (r_A σ 20 (12 + 5 * p)) q) n) - 1).toInt64 (if r_A σ 20 (12 + 5 * p) = 1 then r_A σ 20 11 else 0 - r_A σ 20 11).toInt64 (r_A σ 20 1).toInt64 (r_A σ 20 (16 + 5 * p)).toInt64 (r_A σ 20 10).toInt64)) 5 11) (k := g_row (g_sl y 5 (z_wf (g_L y 5) (nI p).toInt64 (r_A σ 20 (12 + 5 * p)).toInt64 (r_A σ 20 (52 + p)).toInt64 (r_A σ 20 (14 + 5 * p)).toInt64 (r_A σ 20 (60 + p)).toInt64 (r_A σ 20 (13 + 5 * p)).toInt64 (nI (z_c (fun q => z_up (r_A σ 20) q && z_on (r_A σ 20) (r_A σ 20 (12 + 5 * p)) q) n) - 1).toInt64 (if r_A σ 20 (12 + 5 * p) = 1 then r_A σ 20 11 else 0 - r_A σ 20 11).toInt64 (r_A σ 20 1).toInt64 (r_A σ 20 (16 + 5 * p)).toInt64 (r_A σ 20 10).toInt64)) 6 64) (σ := z_w σ (va_up L 19 (z_wf (L 19) (nI p).toInt64 (r_A σ 20 (12 + 5 * p)).toInt64 (r_A σ 20 (52 + p)).toInt64 (r_A σ 20 (14 + 5 * p)).toInt64 (r_A σ 20 (60 + p)).toInt64 (r_A σ 20 (13 + 5 * p)).toInt64 (nI (z_c (fun q => z_up (r_A σ 20) q && z_on (r_A σ 20) (r_A σ 20 (12 + 5 * p)) q) n) - 1).toInt64 (if r_A σ 20 (12 + 5 * p) = 1 then r_A σ 20 11 else 0 - r_A σ 20 11).toInt64 (r_A σ 20 1).toInt64 (r_A σ 20 (16 + 5 * p)).toInt64 (r_A σ 20 10).toInt64)) v f) (z_rl_ext hrl (fun i hi => by rw [z_wA (by decide)]) (fun i hi => by rw [z_wA (by decide)]) (by rw [z_wA (by decide)])) hr rfl rfl (fun j hj => by
        show va_up y.2.2.1 5 _ 5 j = va_up L 19 _ 19 j
        rw [va_up_at, va_up_at]
        exact z_wf_eq _ _ _ _ _ _ _ _ _ _ _ _ _ j hj)
      rw [hfo, q2, z_sc_w] at eS
      have eA' : t_X1_chooseEfforts_48 (fu + 1) y o b t (nI p) = t_X1_chooseEfforts_132 (t_X1_chooseEfforts_48 fu) (g_sl (g_sl y 5 (z_wf (g_L y 5) (nI p).toInt64 (r_A σ 20 (12 + 5 * p)).toInt64 (r_A σ 20 (52 + p)).toInt64 (r_A σ 20 (14 + 5 * p)).toInt64 (r_A σ 20 (60 + p)).toInt64 (r_A σ 20 (13 + 5 * p)).toInt64 (nI (z_c (fun q => z_up (r_A σ 20) q && z_on (r_A σ 20) (r_A σ 20 (12 + 5 * p)) q) n) - 1).toInt64 (if r_A σ 20 (12 + 5 * p) = 1 then r_A σ 20 11 else 0 - r_A σ 20 11).toInt64 (r_A σ 20 1).toInt64 (r_A σ 20 (16 + 5 * p)).toInt64 (r_A σ 20 10).toInt64)) 6 (g_L (g_sl (g_row (g_sl y 5 (z_wf (g_L y 5) (nI p).toInt64 (r_A σ 20 (12 + 5 * p)).toInt64 (r_A σ 20 (52 + p)).toInt64 (r_A σ 20 (14 + 5 * p)).toInt64 (r_A σ 20 (60 + p)).toInt64 (r_A σ 20 (13 + 5 * p)).toInt64 (nI (z_c (fun q => z_up (r_A σ 20) q && z_on (r_A σ 20) (r_A σ 20 (12 + 5 * p)) q) n) - 1).toInt64 (if r_A σ 20 (12 + 5 * p) = 1 then r_A σ 20 11 else 0 - r_A σ 20 11).toInt64 (r_A σ 20 1).toInt64 (r_A σ 20 (16 + 5 * p)).toInt64 (r_A σ 20 10).toInt64)) 6 64) 0 f6) 0)) o b t (nI p) x := by
        rw [eA, if_neg hYP, t_X1_chooseEfforts_102, if_pos (by decide), eT, Option.bind_some, q1, Option.bind_some]
      exact ⟨_, _, v', _, hee x, eA'.trans (E _ x), ⟨z_sa_at _ _ _, z_sa_of (by decide), z_sa_of (by decide), rfl⟩, z_effR3 hn hp h3' (by rw [hA]; exact hup) (by rw [hP]; exact hpl) hr (by rw [hF]; exact hfo) hw ew' eS (by rw [z_wA (by decide), hA])⟩
    · refine ⟨_, L, v, _, hee (nI j).toInt64, ?_, z_yf_sa _ _ _, ?_⟩
      · rw [eA, hpl, if_neg (z_pl_no j (by omega)), t_X1_chooseEfforts_102, if_neg (z_pl_no j (by omega))]
        exact E y _
      · rw [z_effR1 hn hp h3' (by rw [hA]; exact hup) hj (by rw [hP]; exact hpl) hw ew', z_ef_small j (by omega)]
  · rw [if_neg hup, if_pos rfl] at eA
    refine ⟨_, L, v, _, hee 0, eA.trans (E y 0), z_yf_sa _ _ _, ?_⟩
    rw [z_effR0 hn hp h3' (by rw [hA]; exact hup), show z_ef 0 = 0 by decide, Nat.zero_min]
    rfl

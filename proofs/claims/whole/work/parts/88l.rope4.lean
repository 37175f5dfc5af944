/-! ===== L3: rope(), the reference's, and what the class's reading gives ===== -/
theorem z_rsa_eta (σ : r_S) (k : Nat) : r_sa σ k (r_A σ k) = σ := by
  unfold r_sa
  show (σ.1, va_up σ.2.1 k (σ.2.1 k), σ.2.2) = σ
  rw [va_up_eta]
theorem z_rsa2 (σ : r_S) (k : Nat) (f g : Nat → Int32) : r_sa (r_sa σ k f) k g = r_sa σ k g := by
  unfold r_sa
  show (σ.1, va_up (va_up σ.2.1 k f) k g, σ.2.2) = _
  rw [bx_uu]
theorem z_rope8 : ∀ (m x fu : Nat) (σ : r_S), x + m = 85 → m < fu → ∃ g, t_X12_rope_8 fu σ (nI x) = (t_X12_readsAll (r_sa σ 7 g)).bind (fun y => if y.1 = 0 then some ((-2 : Int32) - r_I y.2 9, y.2) else t_X12_rope_44 q_fu y.2 0) ∧ (∀ j, j < x → g j = r_A σ 7 j) ∧ ∀ j, x ≤ j → j < 85 → g j = 0 := by
  intro m
  induction m with
  | zero =>
    intro x fu σ hx hf
    obtain ⟨fu, rfl⟩ := Nat.exists_eq_succ_of_ne_zero (show fu ≠ 0 by omega)
    refine ⟨r_A σ 7, ?_, fun _ _ => rfl, fun j h1 h2 => by omega⟩
    rw [t_X12_rope_8, if_pos (show (85 : Int32) ≤ nI x from nI_le (a := 85) (by omega) (by omega)), z_rsa_eta]
  | succ m ih =>
    intro x fu σ hx hf
    obtain ⟨fu, rfl⟩ := Nat.exists_eq_succ_of_ne_zero (show fu ≠ 0 by omega)
    obtain ⟨g, e1, e2, e3⟩ := ih (x + 1) fu (r_sa σ 7 (upd (r_A σ 7) x 0)) (by omega) (by omega)
    refine ⟨g, ?_, fun j hj => ?_, fun j h1 h2 => ?_⟩
    · rw [t_X12_rope_8, if_neg (show ¬ (85 : Int32) ≤ nI x from nI_ge (b := 85) (by omega) (by decide)), t_si_in (by omega) (by decide), Option.bind_some, nI_1, e1, z_rsa2]
    · rw [e2 j (by omega), z_rA, pk_un (by omega)]
    · by_cases c : j = x
      · rw [c, e2 x (by omega), z_rA, pk_us]
      · exact e3 j (by omega) h2
theorem z_rope44 : ∀ (m x fu : Nat) (σ : r_S), x + m = 106 → m < fu → ∃ s, t_X12_rope_44 fu σ (nI x) = (t_X12_begins (r_sa σ 20 s)).bind (fun σ9 => (t_ai 106 (r_A (r_si σ9 26 0) 20) 3).bind fun v => some (v, r_si σ9 26 0)) ∧ (∀ j, j < x → s j = r_A σ 20 j) ∧ ∀ j, x ≤ j → j < 106 → s j = if j < 85 then r_A σ 7 j else 0 := by
  intro m
  induction m with
  | zero =>
    intro x fu σ hx hf
    obtain ⟨fu, rfl⟩ := Nat.exists_eq_succ_of_ne_zero (show fu ≠ 0 by omega)
    refine ⟨r_A σ 20, ?_, fun _ _ => rfl, fun j h1 h2 => by omega⟩
    rw [t_X12_rope_44, if_pos (show (106 : Int32) ≤ nI x from nI_le (a := 106) (by omega) (by omega)), z_rsa_eta]
  | succ m ih =>
    intro x fu σ hx hf
    obtain ⟨fu, rfl⟩ := Nat.exists_eq_succ_of_ne_zero (show fu ≠ 0 by omega)
    obtain ⟨s, e1, e2, e3⟩ := ih (x + 1) fu (r_sa σ 20 (upd (r_A σ 20) x (if x < 85 then r_A σ 7 x else 0))) (by omega) (by omega)
    refine ⟨s, ?_, fun j hj => ?_, fun j h1 h2 => ?_⟩
    · rw [t_X12_rope_44, if_neg (show ¬ (106 : Int32) ≤ nI x from nI_ge (b := 106) (by omega) (by decide))]
      by_cases c : x < 85
      · rw [if_pos c] at e1
        rw [if_neg (show ¬ (85 : Int32) ≤ nI x from nI_ge (b := 85) (by omega) (by decide)), t_ai_in c (by decide), Option.bind_some]
        unfold t_X12_rope_71
        rw [t_si_in (by omega) (by decide), Option.bind_some, nI_1, e1, z_rsa2]
      · rw [if_neg c] at e1
        rw [if_pos (show (85 : Int32) ≤ nI x from nI_le (a := 85) (by omega) (by omega))]
        unfold t_X12_rope_71
        rw [t_si_in (by omega) (by decide), Option.bind_some, nI_1, e1, z_rsa2]
    · rw [e2 j (by omega), z_rA, pk_un (by omega)]
    · by_cases c : j = x
      · rw [c, e2 x (by omega), z_rA, pk_us]
      · rw [e3 j (by omega) h2, z_rAn (by decide)]
/-- what rope() leaves of the reference -/
def z_kA (σ σ' : r_S) : Prop := (∀ k, k ≠ 4 → k ≠ 7 → k ≠ 20 → r_A σ' k = r_A σ k) ∧ (∀ j, j ≠ 6 → r_A σ' 4 j = r_A σ 4 j) ∧ (∀ k, k ≠ 1 → k ≠ 8 → k ≠ 9 → k ≠ 10 → k ≠ 11 → k ≠ 12 → k ≠ 14 → k ≠ 26 → r_I σ' k = r_I σ k) ∧ r_L σ' = r_L σ ∧ r_D σ' = r_D σ
theorem z_Rx {s s' : Nat → Int32} {n : Nat} (h : ∀ j, j < 4 ∨ (52 ≤ j ∧ j < 85) → s' j = s j) (H : z_R s n) : z_R s' n := by
  obtain ⟨r1, r2, r3, r4, r5, r6, r7⟩ := H
  refine ⟨r1, ?_, ?_, ?_, ?_, ?_, fun p hp => ?_⟩
  · rw [h 0 (by omega)]; exact r2
  · rw [h 3 (by omega)]; exact r3
  · rw [h 1 (by omega)]; exact r4
  · rw [h 2 (by omega)]; exact r5
  · rw [h 84 (by omega)]; exact r6
  · rw [h (68 + p) (by omega), h (52 + p) (by omega), h (76 + p) (by omega), h (60 + p) (by omega)]
    exact r7 p hp
theorem z_ox {o : g_S} {s s' : Nat → Int32} {n : Nat} (hn : n ≤ 8) (h : ∀ j, j < 4 ∨ (52 ≤ j ∧ j < 85) → s' j = s j) (H : z_o o s n) : z_o o s' n := by
  obtain ⟨r1, r2, r3, r4, r5⟩ := H
  refine ⟨r1, ?_, ?_, ?_, fun p hp => ?_⟩
  · rw [h 1 (by omega)]; exact r2
  · rw [h 2 (by omega)]; exact r3
  · rw [h 84 (by omega)]; exact r4
  · rw [h (68 + p) (by omega), h (52 + p) (by omega), h (76 + p) (by omega), h (60 + p) (by omega)]
    exact r5 p hp
theorem z_ropeT {t w d o : g_S} {σ : r_S} {f : Nat → Int32} {N : Nat} (H : z_td9 t f N) (R : z_rd σ f N) (h2 : g_I o 2 = 0) (h3 : g_I o 3 = 0) :
    ∃ e w' d' o' σ', t_X5_read w d t o = some (e, w', d', o') ∧ r_I σ' 1 = 0 ∧ z_kA σ σ' ∧
      ((e ≠ 0 ∧ t_X12_rope σ = some ((-2 : Int32) - e, σ') ∧ r_A σ' 20 = r_A σ 20 ∧ r_I σ' 26 = r_I σ 26) ∨
       (e = 0 ∧ ∃ n, t_X12_rope σ = some (nI n, σ') ∧ g_I o' 3 = nI n ∧ z_R (r_A σ' 20) n ∧ z_V (r_A σ' 20) n ∧ z_o o' (r_A σ' 20) n ∧ r_A σ' 20 10 = 0 ∧ (∀ j, 85 ≤ j → j < 106 → r_A σ' 20 j = 0) ∧ r_I σ' 26 = 0 ∧ ∀ t, ∃ t', t_X10_begin t o' = some t' ∧ z_t t' (r_A σ' 20) n)) := by
  obtain ⟨g, e1, -, e3⟩ := z_rope8 85 0 q_fu (r_si σ 11 6) (by omega) (by decide)
  have i11 : ∀ k, k ≠ 11 → r_I (r_sa (r_si σ 11 6) 7 g) k = r_I σ k := fun k h => (show r_I (r_sa (r_si σ 11 6) 7 g) k = r_I (r_si σ 11 6) k from rfl).trans (z_rsiIn h)
  have R1 : z_rd (r_sa (r_si σ 11 6) 7 g) f N := ⟨(z_rAn (by decide)).trans R.1, (i11 1 (by decide)).trans R.2.1, R.2.2⟩
  obtain ⟨e, w', d', o', σ1, x1, x2, x3, x4, x5, x6⟩ := z_readsR (w := w) (d := d) (o := o) H R1 ((show r_I (r_sa (r_si σ 11 6) 7 g) 11 = r_I (r_si σ 11 6) 11 from rfl).trans (z_rsiI _ _ _)) (fun j hj => by rw [z_rA]; exact e3 j (by omega) hj) h2 h3
  have eR : t_X12_rope σ = if e = 0 then t_X12_rope_44 q_fu σ1 0 else some ((-2 : Int32) - e, σ1) := by
    unfold t_X12_rope
    refine e1.trans ?_
    rw [x2, Option.bind_some]
    by_cases c : e = 0
    · rw [if_pos c, if_pos c]
      exact if_neg (show ¬ ((1 : Int32)) = 0 by decide)
    · rw [if_neg c, if_neg c, ← x3]
      exact if_pos rfl
  have kA : ∀ k, k ≠ 4 → k ≠ 7 → r_A σ1 k = r_A σ k := fun k h1 h2 => (x5.1 k h1 h2).trans (z_rAn h2)
  have kA4 : ∀ j, j ≠ 6 → r_A σ1 4 j = r_A σ 4 j := fun j hj => (x5.2.1 j hj).trans (by rw [z_rAn (by decide)]; rfl)
  have kI : ∀ k, k ≠ 1 → k ≠ 8 → k ≠ 9 → k ≠ 10 → k ≠ 11 → k ≠ 12 → k ≠ 14 → r_I σ1 k = r_I σ k := fun k h1 h2 h3 h4 h5 h6 h7 => (x5.2.2.1 k h1 h2 h3 h4 h6 h7).trans (i11 k h5)
  by_cases c : e = 0
  · obtain ⟨n, O1, O2, O3, O4⟩ := x6 c
    obtain ⟨s, b1, -, b3⟩ := z_rope44 106 0 q_fu σ1 (by omega) (by decide)
    obtain ⟨s', c1, c2⟩ := z_begins (r_sa σ1 20 s)
    rw [z_rA] at c2
    rw [z_rsa2] at c1
    have hs : ∀ j, j < 4 ∨ (52 ≤ j ∧ j < 85) → s j = r_A σ1 7 j := fun j hj => by rw [b3 j (by omega) (by omega), if_pos (by omega)]
    have hs' : ∀ j, j < 4 ∨ (52 ≤ j ∧ j < 85) → s' j = s j := fun j hj => c2.2.2.2 j (by omega)
    have Rs := z_Rx hs O1
    have os := z_ox O1.1 hs O2
    refine ⟨e, w', d', o', r_si (r_sa σ1 20 s') 26 0, x1, ?_, ⟨fun k k1 k2 k3 => ?_, fun j hj => ?_, fun k k1 k2 k3 k4 k5 k6 k7 k8 => ?_, x5.2.2.2.1, x5.2.2.2.2⟩, Or.inr ⟨c, n, ?_, O2.1, ?_, ?_, ?_, ?_, fun j j1 j2 => ?_, z_rsiI _ _ _, fun t => ?_⟩⟩
    · rw [z_rsiIn (by decide)]; exact x4
    · exact (z_rAn (σ := σ1) k3).trans (kA k k1 k2)
    · exact (congrFun (z_rAn (σ := σ1) (j := 4) (k := 20) (by decide)) j).trans (kA4 j hj)
    · rw [z_rsiIn k8]; exact kI k k1 k2 k3 k4 k5 k6 k7
    · rw [eR, if_pos c]
      refine b1.trans ?_
      rw [c1, Option.bind_some, show t_ai 106 (r_A (r_si (r_sa σ1 20 s') 26 0) 20) 3 = some (r_A (r_si (r_sa σ1 20 s') 26 0) 20 3) from t_ai_in (j := 3) (by decide) (by decide), Option.bind_some]
      rw [show r_A (r_si (r_sa σ1 20 s') 26 0) 20 = s' from z_rA _ _ _, hs' 3 (by omega), hs 3 (by omega), O1.2.2.1]
    · rw [show r_A (r_si (r_sa σ1 20 s') 26 0) 20 = s' from z_rA _ _ _]
      exact z_Rx hs' Rs
    · rw [show r_A (r_si (r_sa σ1 20 s') 26 0) 20 = s' from z_rA _ _ _]
      exact z_bg_V Rs c2
    · rw [show r_A (r_si (r_sa σ1 20 s') 26 0) 20 = s' from z_rA _ _ _]
      exact z_ox O1.1 hs' os
    · rw [show r_A (r_si (r_sa σ1 20 s') 26 0) 20 = s' from z_rA _ _ _]
      exact c2.1
    · rw [show r_A (r_si (r_sa σ1 20 s') 26 0) 20 = s' from z_rA _ _ _, c2.2.2.2 j (by omega), b3 j (by omega) j2, if_neg (by omega)]
    · rw [show r_A (r_si (r_sa σ1 20 s') 26 0) 20 = s' from z_rA _ _ _]
      exact z_begin Rs os c2
  · exact ⟨e, w', d', o', σ1, x1, x4, ⟨fun k k1 k2 _ => kA k k1 k2, kA4, fun k k1 k2 k3 k4 k5 k6 k7 _ => kI k k1 k2 k3 k4 k5 k6 k7, x5.2.2.2.1, x5.2.2.2.2⟩, Or.inl ⟨c, by rw [eR, if_neg c], kA 20 (by decide) (by decide), kI 26 (by decide) (by decide) (by decide) (by decide) (by decide) (by decide) (by decide)⟩⟩

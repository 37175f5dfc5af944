/-! ===== L3: EFFORTS ===== -/
def z_cl (w : Int32) (x : Int64) : Int32 := ((if (if x < ((if w < (3 : Int32) then w else (3 : Int32))).toInt64 then x else ((if w < (3 : Int32) then w else (3 : Int32))).toInt64) < (0 : Int64) then (0 : Int64) else (if x < ((if w < (3 : Int32) then w else (3 : Int32))).toInt64 then x else ((if w < (3 : Int32) then w else (3 : Int32))).toInt64))).toInt32
/-- x as an EFFORT, 0 to 3 -/
def z_ef (x : Int64) : Nat := if x.toInt < 0 then 0 else min x.toInt.toNat 3
theorem z_ef_le (x : Int64) : z_ef x ≤ 3 := by
  unfold z_ef
  split <;> omega
theorem z_lN_of {x : Int64} {j : Nat} (hj : j < 2 ^ 31) (h : x.toInt = j) : x = lN j := Int64.toInt_inj.mp (h.trans (lN_toInt hj).symm)
theorem z_cl_eq {w : Nat} (hw : w ≤ 60) (x : Int64) : z_cl (nI w) x = nI (min (z_ef x) w) := by
  have hm : (if nI w < (3 : Int32) then nI w else (3 : Int32)) = nI (min w 3) := by
    by_cases h : w < 3
    · rw [if_pos (show nI w < (3 : Int32) from nI_lt (b := 3) h (by decide)), Nat.min_eq_left (by omega)]
    · rw [if_neg (show ¬ nI w < (3 : Int32) from nI_nlt (b := 3) (by omega) (by omega)), Nat.min_eq_right (by omega)]
      rfl
  unfold z_cl
  rw [hm, nI_l (show min w 3 < 2 ^ 31 by omega)]
  have hz : (0 : Int64).toInt = 0 := by decide
  have hl : (lN (min w 3)).toInt = ((min w 3 : Nat) : Int) := lN_toInt (by omega)
  unfold z_ef
  by_cases h0 : x.toInt < 0
  · rw [if_pos (show x < lN (min w 3) by rw [Int64.lt_iff_toInt_lt, hl]; omega), if_pos (show x < (0 : Int64) by rw [Int64.lt_iff_toInt_lt, hz]; exact h0), if_pos h0, Nat.min_eq_left (by omega)]
    rfl
  · rw [if_neg h0]
    by_cases h1 : x.toInt < ((min w 3 : Nat) : Int)
    · rw [if_pos (show x < lN (min w 3) by rw [Int64.lt_iff_toInt_lt, hl]; exact h1), if_neg (show ¬ x < (0 : Int64) by rw [Int64.lt_iff_toInt_lt, hz]; exact h0)]
      have hx : x = lN x.toInt.toNat := z_lN_of (by omega) (by omega)
      have hx2 : x.toInt32 = nI x.toInt.toNat := by
        conv => lhs; rw [hx]
        exact lN_i _
      rw [hx2]
      congr 1
      omega
    · rw [if_neg (show ¬ x < lN (min w 3) by rw [Int64.lt_iff_toInt_lt, hl]; exact h1), if_neg (show ¬ lN (min w 3) < (0 : Int64) by rw [Int64.lt_iff_toInt_lt, hz, hl]; omega), lN_i]
      congr 1
      omega
theorem z_lg_ge {x y : Int64} : 0 ≤ lg_cmp x y ↔ y.toInt ≤ x.toInt := by
  unfold lg_cmp
  by_cases h : x > y
  · rw [if_pos h]
    have := Int64.lt_iff_toInt_lt.mp h
    exact ⟨fun _ => by omega, fun _ => by decide⟩
  · rw [if_neg h]
    have h' : ¬ y.toInt < x.toInt := fun e => h (Int64.lt_iff_toInt_lt.mpr e)
    by_cases h2 : x = y
    · rw [if_pos h2, h2]
      exact ⟨fun _ => Int.le_refl _, fun _ => by decide⟩
    · rw [if_neg h2]
      have h3 : x.toInt ≠ y.toInt := fun e => h2 (Int64.toInt_inj.mp e)
      exact ⟨fun e => absurd e (by decide), fun e => by omega⟩
theorem z_lg_le {x y : Int64} : lg_cmp x y ≤ 0 ↔ x.toInt ≤ y.toInt := by
  unfold lg_cmp
  by_cases h : x > y
  · rw [if_pos h]
    have := Int64.lt_iff_toInt_lt.mp h
    exact ⟨fun e => absurd e (by decide), fun e => by omega⟩
  · rw [if_neg h]
    have h' : ¬ y.toInt < x.toInt := fun e => h (Int64.lt_iff_toInt_lt.mpr e)
    refine ⟨fun _ => by omega, fun _ => ?_⟩
    by_cases h2 : x = y
    · rw [if_pos h2]; decide
    · rw [if_neg h2]; decide
/-! the reference: scratch rows -/
def z_w (σ : r_S) (L : Nat → Nat → Int64) (v : Int32) (f : Nat → Int32) : r_S := (va_up σ.1 18 v, va_up σ.2.1 24 f, L, σ.2.2.2)
theorem z_w_eta (σ : r_S) : z_w σ σ.2.2.1 (r_I σ 18) (r_A σ 24) = σ := by
  unfold z_w r_I r_A
  rw [va_up_eta, va_up_eta]
section W
variable {σ : r_S} {L : Nat → Nat → Int64} {v : Int32} {f : Nat → Int32} {p n : Nat}
theorem z_wA {k : Nat} (h : k ≠ 24) : r_A (z_w σ L v f) k = r_A σ k := by
  show va_up σ.2.1 24 f k = σ.2.1 k
  exact va_up_of h
theorem z_wI {k : Nat} (h : k ≠ 18) : r_I (z_w σ L v f) k = r_I σ k := by
  show va_up σ.1 18 v k = σ.1 k
  exact va_up_of h
theorem z_w24 : r_A (z_w σ L v f) 24 = f := by
  show va_up σ.2.1 24 f 24 = f
  exact va_up_at _ _ _
theorem z_sc_w {g : Nat → Int64} {v' : Int32} : z_sc (z_w σ L v f) g v' = z_w σ (va_up L 17 g) v' f := by
  unfold z_sc r_si r_sl z_w
  simp only [bx_uu]
theorem z_ts {g : Nat → Int64} {j : Nat} {x : Int64} (hj : j < 11) : t_sl 11 (z_w σ (va_up L 19 g) v f) 19 (nI j) x = some (z_w σ (va_up L 19 (vp_updL g j x)) v f) := by
  unfold t_sl
  rw [if_pos (show q_in (nI j) 11 from vp_in_nI hj (by decide)), nI_clamp (by omega)]
  unfold r_sl r_L z_w
  simp only [bx_uu, va_up_at]
theorem z_tsJ {g : Nat → Int64} {J : Int32} {j : Nat} {x : Int64} (e : J = nI j) (hj : j < 11) : t_sl 11 (z_w σ (va_up L 19 g) v f) 19 J x = some (z_w σ (va_up L 19 (vp_updL g j x)) v f) := by
  rw [e]
  exact z_ts hj
theorem z_set24 {j : Nat} {x : Int32} (hj : j < 8) : t_si 8 (z_w σ L v f) 24 (nI j) x = some (z_w σ L v (upd f j x)) := by
  rw [t_si_in hj (by decide), z_w24]
  unfold r_sa z_w
  simp only [bx_uu]
end W
def z_wf (g : Nat → Int64) (x0 x1 x2 x3 x4 x5 x6 x7 x8 x9 x10 : Int64) : Nat → Int64 := vp_updL (vp_updL (vp_updL (vp_updL (vp_updL (vp_updL (vp_updL (vp_updL (vp_updL (vp_updL (vp_updL g 0 x0) 1 x1) 2 x2) 3 x3) 4 x4) 5 x5) 6 x6) 7 x7) 8 x8) 9 x9) 10 x10
theorem z_wf_eq (g g' : Nat → Int64) (x0 x1 x2 x3 x4 x5 x6 x7 x8 x9 x10 : Int64) : ∀ j, j < 11 → z_wf g x0 x1 x2 x3 x4 x5 x6 x7 x8 x9 x10 j = z_wf g' x0 x1 x2 x3 x4 x5 x6 x7 x8 x9 x10 j
  | 0, _ => rfl
  | 1, _ => rfl
  | 2, _ => rfl
  | 3, _ => rfl
  | 4, _ => rfl
  | 5, _ => rfl
  | 6, _ => rfl
  | 7, _ => rfl
  | 8, _ => rfl
  | 9, _ => rfl
  | 10, _ => rfl
  | k + 11, h => absurd h (by omega)
theorem z_us {y : g_S} {g : Nat → Int64} {j : Nat} {x : Int64} (hj : j < 11) : u_sl 11 (g_sl y 5 g) 5 (nI j) x = some (g_sl y 5 (vp_updL g j x)) := by
  unfold u_sl
  rw [if_pos (show q_in (nI j) 11 from vp_in_nI hj (by decide)), nI_clamp (by omega)]
  unfold g_sl g_L
  simp only [bx_uu, va_up_at]
theorem z_usJ {y : g_S} {g : Nat → Int64} {J : Int32} {j : Nat} {x : Int64} (e : J = nI j) (hj : j < 11) : u_sl 11 (g_sl y 5 g) 5 J x = some (g_sl y 5 (vp_updL g j x)) := by
  rw [e]
  exact z_us hj
theorem z_y5_eta (y : g_S) : g_sl y 5 (g_L y 5) = y := by
  unfold g_sl g_L
  simp only [va_up_eta]
/-- how the tug is told on both sides -/
def nb (v : Int32) (b : Nat) : Prop := ∃ j, j ≤ b ∧ v = nI j
def z_o (o : g_S) (s : Nat → Int32) (n : Nat) : Prop := g_I o 3 = nI n ∧ g_I o 0 = s 1 ∧ g_I o 1 = s 2 ∧ g_I o 2 = s 84 ∧ ∀ p, p < n → g_A o 4 p = s (68 + p) ∧ g_A o 5 p = s (52 + p) ∧ g_A o 6 p = s (76 + p) ∧ g_A o 7 p = s (60 + p)
def z_t (t : g_S) (s : Nat → Int32) (n : Nat) : Prop := g_I t 0 = s 11 ∧ g_I t 1 = s 10 ∧ g_I t 2 = nI (z_m (z_up s) n) ∧ ∀ p, p < n → g_A t 3 p = s (12 + 5 * p) ∧ g_A t 4 p = s (13 + 5 * p) ∧ g_A t 5 p = s (14 + 5 * p) ∧ g_A t 6 p = s (16 + 5 * p)
/-- the words of a PULLER who stands: the reference's -/
theorem z_sumOf {σ : r_S} {L : Nat → Nat → Int64} {v : Int32} {f : Nat → Int32} {p n : Nat} (hn : n ≤ 8) (hp : p < n) (h3 : r_A σ 20 3 = nI n) (hup : z_up (r_A σ 20) p = true) :
    t_X12_sumOf (z_w σ L v f) (nI p) = (t_X12_summedBy (z_w σ (va_up L 19 (z_wf (L 19) (nI p).toInt64 (r_A σ 20 (12 + 5 * p)).toInt64 (r_A σ 20 (52 + p)).toInt64 (r_A σ 20 (14 + 5 * p)).toInt64 (r_A σ 20 (60 + p)).toInt64 (r_A σ 20 (13 + 5 * p)).toInt64 (nI (z_c (fun q => z_up (r_A σ 20) q && z_on (r_A σ 20) (r_A σ 20 (12 + 5 * p)) q) n) - 1).toInt64 (if r_A σ 20 (12 + 5 * p) = 1 then r_A σ 20 11 else 0 - r_A σ 20 11).toInt64 (r_A σ 20 1).toInt64 (r_A σ 20 (16 + 5 * p)).toInt64 (r_A σ 20 10).toInt64)) v f) (r_I σ 21)) := by
  have eL : z_w σ L v f = z_w σ (va_up L 19 (L 19)) v f := by rw [va_up_eta]
  have hA : ∀ (L : Nat → Nat → Int64), r_A (z_w σ L v f) 20 = r_A σ 20 := fun L => z_wA (by decide)
  have a52 : ∀ (g : Nat → Int32), t_ai 106 g (52 + nI p) = some (g (52 + p)) := fun g => by rw [z_k52, t_ai_in (by omega) (by decide)]
  have a60 : ∀ (g : Nat → Int32), t_ai 106 g (60 + nI p) = some (g (60 + p)) := fun g => by rw [z_k60, t_ai_in (by omega) (by decide)]
  have hp8 : p < 8 := by omega
  have hmask : nI (z_m (z_up (r_A σ 20)) n) &&& nI (z_m (z_on (r_A σ 20) (r_A σ 20 (12 + 5 * p))) n) &&& (((1 : Int32) <<< (nI p &&& 31)) ^^^ (-1)) = nI (z_m (fun q => (z_up (r_A σ 20) q && z_on (r_A σ 20) (r_A σ 20 (12 + 5 * p)) q) && (q != p)) n) := by
    rw [z_and, z_m_and, z_non _ hn hp8]
  have hcnt := z_c_less (fun q => z_up (r_A σ 20) q && z_on (r_A σ 20) (r_A σ 20 (12 + 5 * p)) q) (p := p) (by rw [hup]; exact decide_eq_true rfl) hp
  have tw : ∀ (L : Nat → Nat → Int64), t_X12_towards (z_w σ L v f) (nI p) = some (if r_A σ 20 (12 + 5 * p) = 1 then r_A σ 20 11 else 0 - r_A σ 20 11) := fun L => by
    unfold t_X12_towards
    rw [z_sideOf hp8, Option.bind_some, z_a11, hA]
    split <;> rfl
  unfold t_X12_sumOf
  rw [eL]
  rw [z_tsJ (J := 0) (j := 0) rfl (by decide), Option.bind_some, z_sideOf hp8, Option.bind_some, hA]
  rw [z_tsJ (J := 1) (j := 1) rfl (by decide), Option.bind_some, a52, Option.bind_some, hA]
  rw [z_tsJ (J := 2) (j := 2) rfl (by decide), Option.bind_some, z_windOf hp8, Option.bind_some, hA]
  rw [z_tsJ (J := 3) (j := 3) rfl (by decide), Option.bind_some, a60, Option.bind_some, hA]
  rw [z_tsJ (J := 4) (j := 4) rfl (by decide), Option.bind_some, z_placeOf hp8, Option.bind_some, hA]
  rw [z_tsJ (J := 5) (j := 5) rfl (by decide), Option.bind_some, z_upOnes hn (by rw [hA]; exact h3), Option.bind_some, z_sideOf hp8, Option.bind_some, z_onesOn hn (by rw [hA]; exact h3), Option.bind_some, hA, hmask, z_bits _ (z_m_256 _ hn), Option.bind_some, z_pcm _ hn]
  rw [z_tsJ (J := 6) (j := 6) rfl (by decide), Option.bind_some, tw, Option.bind_some]
  rw [z_tsJ (J := 7) (j := 7) rfl (by decide), Option.bind_some, z_a1, Option.bind_some, hA]
  rw [z_tsJ (J := 8) (j := 8) rfl (by decide), Option.bind_some, z_workOf hp8, Option.bind_some, hA]
  rw [z_tsJ (J := 9) (j := 9) rfl (by decide), Option.bind_some, z_a10, Option.bind_some, hA]
  rw [z_tsJ (J := 10) (j := 10) rfl (by decide), Option.bind_some]
  try dsimp only
  rw [z_wI (by decide), ← hcnt, nI_pred]
  unfold z_wf
  cases t_X12_summedBy _ (r_I σ 21) <;> rfl
/-- the words of a PULLER who stands: the class's -/
theorem z_tell {y o t : g_S} {s : Nat → Int32} {p n : Nat} (hn : n ≤ 8) (hp : p < n) (ho : z_o o s n) (ht : z_t t s n) (hside : nb (s (12 + 5 * p)) 1) {m : Int32} (hm : ∀ c, c < 2 → s (12 + 5 * p) = nI c → g_A y 4 c = m) :
    t_X1_tellWords y o t (nI p) = some (g_sl y 5 (z_wf (g_L y 5) (nI p).toInt64 (s (12 + 5 * p)).toInt64 (s (52 + p)).toInt64 (s (14 + 5 * p)).toInt64 (s (60 + p)).toInt64 (s (13 + 5 * p)).toInt64 (m - 1).toInt64 (if s (12 + 5 * p) = 1 then s 11 else 0 - s 11).toInt64 (s 1).toInt64 (s (16 + 5 * p)).toInt64 (s 10).toInt64)) := by
  obtain ⟨o3, o0, o1, o2, oA⟩ := ho
  obtain ⟨t0, t1, t2, tA⟩ := ht
  obtain ⟨q4, q5, q6, q7⟩ := oA p hp
  obtain ⟨w3, w4, w5, w6⟩ := tA p hp
  obtain ⟨c, hc, ec⟩ := hside
  have hp8 : p < 8 := by omega
  have tw : t_X10_towards t (s (12 + 5 * p)) = some (if s (12 + 5 * p) = 1 then s 11 else 0 - s 11) := by
    unfold t_X10_towards
    dsimp only
    rw [t0, ec]
    rcases (show c = 0 ∨ c = 1 by omega) with rfl | rfl
    · rw [if_pos (by decide), if_neg (by decide)]
    · rw [if_neg (by decide), if_pos (by decide)]
  have e4 : t_ai 2 (g_A y 4) (s (12 + 5 * p)) = some m := by
    rw [ec, t_ai_in (by omega) (by decide), hm c (by omega) ec]
  unfold t_X1_tellWords
  rw [t_ai_in hp8 (by decide), Option.bind_some, w3]
  conv => lhs; arg 1; rw [← z_y5_eta y]
  rw [z_usJ (J := 0) (j := 0) rfl (by decide), Option.bind_some, z_usJ (J := 1) (j := 1) rfl (by decide), Option.bind_some, t_ai_in hp8 (by decide), Option.bind_some, q5]
  rw [z_usJ (J := 2) (j := 2) rfl (by decide), Option.bind_some, t_ai_in hp8 (by decide), Option.bind_some, w5]
  rw [z_usJ (J := 3) (j := 3) rfl (by decide), Option.bind_some, t_ai_in hp8 (by decide), Option.bind_some, q7]
  rw [z_usJ (J := 4) (j := 4) rfl (by decide), Option.bind_some, t_ai_in hp8 (by decide), Option.bind_some, w4]
  rw [z_usJ (J := 5) (j := 5) rfl (by decide), Option.bind_some]
  rw [show ∀ g : Nat → Int64, g_A (g_sl y 5 g) 4 = g_A y 4 from fun _ => rfl, e4, Option.bind_some]
  rw [z_usJ (J := 6) (j := 6) rfl (by decide), Option.bind_some, tw, Option.bind_some]
  rw [z_usJ (J := 7) (j := 7) rfl (by decide), Option.bind_some]
  try dsimp only
  rw [z_usJ (J := 8) (j := 8) rfl (by decide), Option.bind_some, t_ai_in hp8 (by decide), Option.bind_some, w6]
  rw [z_usJ (J := 9) (j := 9) rfl (by decide), Option.bind_some]
  try dsimp only
  rw [z_usJ (J := 10) (j := 10) rfl (by decide), Option.bind_some, o0, t1]
  rfl
/-- what EFFORT the reference takes -/
theorem z_eff77 {σ : r_S} {p j w : Nat} (hp : p < 8) (hw : w ≤ 60) (hj : j ≤ 3) (h : r_A σ 20 (14 + 5 * p) = nI w) : t_X12_effortOf_77 σ (nI p) (nI j) = some (nI (min j w), σ) := by
  unfold t_X12_effortOf_77
  rw [z_windOf hp, Option.bind_some, h]
  by_cases c : w ≤ j
  · rw [if_pos (nI_le c (by omega)), Option.bind_some, Nat.min_eq_right c]
  · rw [if_neg (nI_ge (show j < w by omega) (by omega)), Nat.min_eq_left (by omega)]
/-- EFFORTS that are laid down: the same ones on both sides -/
def z_pl (y : g_S) (σ : r_S) : Prop := ∀ p, p < 8 → g_A y 2 p = r_A σ 23 p ∧ (r_A σ 23 p = -1 ∨ ∃ j, j ≤ 3 ∧ r_A σ 23 p = nI j)
theorem z_effR0 {σ : r_S} {p n : Nat} (hn : n ≤ 8) (hp : p < n) (h3 : r_A σ 20 3 = nI n) (hup : ¬ z_up (r_A σ 20) p = true) : t_X12_effortOf σ (nI p) = some (0, σ) := by
  unfold t_X12_effortOf
  rw [z_isUp hn h3 hp, if_neg (fun e => hup (decide_eq_true e)), Option.bind_some, if_pos rfl]
theorem z_effR1 {σ : r_S} {p n j w : Nat} (hn : n ≤ 8) (hp : p < n) (h3 : r_A σ 20 3 = nI n) (hup : z_up (r_A σ 20) p = true) (hj : j ≤ 3) (hpl : r_A σ 23 p = nI j) (hw : w ≤ 60) (h : r_A σ 20 (14 + 5 * p) = nI w) : t_X12_effortOf σ (nI p) = some (nI (min j w), σ) := by
  unfold t_X12_effortOf
  rw [z_isUp hn h3 hp, if_pos (of_decide_eq_true hup), Option.bind_some, if_neg (by decide), t_ai_in (by omega) (by decide), Option.bind_some, hpl, if_neg (nI_pos (by omega)), Option.bind_some]
  unfold t_X12_effortOf_29
  rw [t_ai_in (by omega) (by decide), Option.bind_some, hpl, if_pos (nI_pos' (by omega))]
  exact z_eff77 (by omega) hw hj h
theorem z_effR2 {σ : r_S} {p n w : Nat} (hn : n ≤ 8) (hp : p < n) (h3 : r_A σ 20 3 = nI n) (hup : z_up (r_A σ 20) p = true) (hpl : r_A σ 23 p = -1) (hfo : r_I σ 21 = -1) (hw : w ≤ 60) (h : r_A σ 20 (14 + 5 * p) = nI w) : t_X12_effortOf σ (nI p) = some (nI (min 2 w), σ) := by
  unfold t_X12_effortOf
  rw [z_isUp hn h3 hp, if_pos (of_decide_eq_true hup), Option.bind_some, if_neg (by decide), t_ai_in (by omega) (by decide), Option.bind_some, hpl, if_pos (by decide)]
  unfold t_X12_effortOf_29
  try dsimp only
  rw [t_ai_in (by omega) (by decide), Option.bind_some, hpl, if_neg (by decide), hfo, if_pos (by decide)]
  exact z_eff77 (j := 2) (by omega) hw (by decide) h
theorem z_effR3 {σ σ' : r_S} {p n w r : Nat} {x : Int64} (hn : n ≤ 8) (hp : p < n) (h3 : r_A σ 20 3 = nI n) (hup : z_up (r_A σ 20) p = true) (hpl : r_A σ 23 p = -1) (hr : r < 6) (hfo : r_I σ 21 = nI r) (hw : w ≤ 60) (h : r_A σ 20 (14 + 5 * p) = nI w) (hs : t_X12_sumOf σ (nI p) = some (x, σ')) (hA : r_A σ' 20 = r_A σ 20) : t_X12_effortOf σ (nI p) = some (nI (min (z_ef x) w), σ') := by
  unfold t_X12_effortOf
  rw [z_isUp hn h3 hp, if_pos (of_decide_eq_true hup), Option.bind_some, if_neg (by decide), t_ai_in (by omega) (by decide), Option.bind_some, hpl, if_pos (by decide)]
  unfold t_X12_effortOf_29
  try dsimp only
  rw [t_ai_in (by omega) (by decide), Option.bind_some, hpl, if_neg (by decide), hfo, if_neg (nI_pos (by omega)), hs, Option.bind_some]
  try dsimp only
  have h' : r_A σ' 20 (14 + 5 * p) = nI w := by rw [hA]; exact h
  have hz : (0 : Int64).toInt = 0 := by decide
  have ht : (3 : Int64).toInt = 3 := by decide
  unfold z_ef
  by_cases c0 : x.toInt < 0
  · rw [if_neg (fun e => by have := z_lg_ge.mp e; omega), if_pos c0]
    exact z_eff77 (j := 0) (by omega) hw (by decide) h'
  · rw [if_pos (z_lg_ge.mpr (by omega)), if_neg c0]
    by_cases c1 : x.toInt ≤ 3
    · rw [if_pos (z_lg_le.mpr (by omega))]
      have hx : x = lN x.toInt.toNat := z_lN_of (by omega) (by omega)
      have hx2 : x.toInt32 = nI (min x.toInt.toNat 3) := by
        rw [Nat.min_eq_left (by omega)]
        conv => lhs; rw [hx]
        exact lN_i _
      rw [hx2]
      exact z_eff77 (by omega) hw (by omega) h'
    · rw [if_neg (fun e => by have := z_lg_le.mp e; omega), Nat.min_eq_right (a := x.toInt.toNat) (b := 3) (by omega)]
      exact z_eff77 (j := 3) (by omega) hw (by decide) h'

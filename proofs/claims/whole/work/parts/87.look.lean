/-! ===== L3: LOOK ===== -/
def z_mx (f : Nat → Nat) : Nat → Nat
  | 0 => 0
  | k + 1 => max (z_mx f k) (f k)
theorem z_mx_ext {f g : Nat → Nat} : ∀ {k : Nat}, (∀ j, j < k → f j = g j) → z_mx f k = z_mx g k
  | 0, _ => rfl
  | k + 1, h => by rw [z_mx, z_mx, z_mx_ext (fun j hj => h j (by omega)), h k (by omega)]
theorem z_mx_le {f : Nat → Nat} {B : Nat} : ∀ {k : Nat}, (∀ j, j < k → f j ≤ B) → z_mx f k ≤ B
  | 0, _ => Nat.zero_le _
  | k + 1, h => by
    have h1 := z_mx_le (f := f) (fun j hj => h j (show j < k + 1 by omega)) (k := k)
    have h2 := h k (by omega)
    rw [z_mx]
    omega
theorem z_mx_ge {f : Nat → Nat} : ∀ {k j : Nat}, j < k → f j ≤ z_mx f k
  | 0, j, h => absurd h (Nat.not_lt_zero _)
  | k + 1, j, h => by
    rw [z_mx]
    by_cases e : j = k
    · rw [e]; omega
    · have := z_mx_ge (f := f) (k := k) (j := j) (by omega)
      omega
/-- the tracks are those of the ones that fit, in their order: counts and greatest ones are the same -/
theorem z_trk_c {fit : Nat → Bool} {tr rb : Nat → Int32} (v : Int32) : ∀ {k : Nat}, (∀ j, j < k → fit j = true → tr (z_c fit j) = rb j) → z_c (fun t => decide (v = tr t)) (z_c fit k) = z_c (fun j => fit j && decide (v = rb j)) k
  | 0, _ => rfl
  | k + 1, h => by
    have ih := z_trk_c (fit := fit) (tr := tr) (rb := rb) v (k := k) (fun j hj => h j (by omega))
    rw [show z_c (fun j => fit j && decide (v = rb j)) (k + 1) = z_c (fun j => fit j && decide (v = rb j)) k + (if (fit k && decide (v = rb k)) = true then 1 else 0) from rfl, show z_c fit (k + 1) = z_c fit k + (if fit k = true then 1 else 0) from rfl, ← ih]
    by_cases c : fit k = true
    · rw [if_pos c, z_c, h k (by omega) c, c]
      simp
    · rw [if_neg c, Bool.eq_false_iff.mpr c]
      simp
theorem z_trk_m {fit : Nat → Bool} {tr rb : Nat → Int32} (g : Int32 → Nat) : ∀ {k : Nat}, (∀ j, j < k → fit j = true → tr (z_c fit j) = rb j) → z_mx (fun t => g (tr t)) (z_c fit k) = z_mx (fun j => if fit j then g (rb j) else 0) k
  | 0, _ => rfl
  | k + 1, h => by
    have ih := z_trk_m (fit := fit) (tr := tr) (rb := rb) g (k := k) (fun j hj => h j (by omega))
    rw [show z_mx (fun j => if fit j then g (rb j) else 0) (k + 1) = max (z_mx (fun j => if fit j then g (rb j) else 0) k) (if fit k then g (rb k) else 0) from rfl, show z_c fit (k + 1) = z_c fit k + (if fit k = true then 1 else 0) from rfl, ← ih]
    by_cases c : fit k = true
    · rw [if_pos c, if_pos c, z_mx, h k (by omega) c]
    · rw [if_neg c, if_neg c, Nat.add_zero, Nat.max_zero]
/-! the class -/
section MA
variable {b : Nat} {κ : Nat → g_S} {h : q_H}
theorem z_trk (W : z_W b κ h) {t k : Nat} (ht : t < 7) (hk : k < 61) : ((q_ar h (b + 142) 7 (nI t)).bind fun o => o) = some (b + 143 + t) ∧ q_ai h (b + 143 + t) 1 (nI k) = some (g_A (κ 14) t k) := by
  refine ⟨?_, z_qai (by decide) hk (Ww14 W t ht)⟩
  have har : q_ar h (b + 142) 7 (nI t) = some (some (b + 143 + t)) := by
    unfold q_ar
    rw [Wwk W]
    refine (if_pos ⟨rfl, (show q_in (nI t) 7 from vp_in_nI ht (by decide))⟩).trans ?_
    rw [nI_clamp (by omega)]
    show some (if t < 7 then some (b + 143 + t) else none) = _
    rw [if_pos ht]
  rw [har]
  rfl
theorem z_maI (W : z_W b κ h) {k F t : Nat} (hk : k < 61) (hF : F ≤ 7) (ht : t < F) (most : Int32) (kC : q_H → Nat → Int32 → Int32 → Int32 → Int32 → Option Int32) : ∀ (m u fu : Nat), u + m = F → m < fu → m_X8_mostAlike_17 kC fu h (b + 130) (nI k) (nI F) most (nI t) (nI (z_c (fun x => decide (g_A (κ 14) t k = g_A (κ 14) x k)) u)) (nI u) = kC h (b + 130) (nI k) (nI F) (if most < nI (z_c (fun x => decide (g_A (κ 14) t k = g_A (κ 14) x k)) F) then nI (z_c (fun x => decide (g_A (κ 14) t k = g_A (κ 14) x k)) F) else most) (nI (t + 1)) := by
  intro m
  induction m with
  | zero =>
    intro u fu hu hf
    obtain ⟨fu, rfl⟩ := Nat.exists_eq_succ_of_ne_zero (show fu ≠ 0 by omega)
    obtain rfl : u = F := hu
    rw [m_X8_mostAlike_17, if_pos (nI_le (Nat.le_refl _) (by omega)), nI_1]
  | succ m ih =>
    intro u fu hu hf
    obtain ⟨fu, rfl⟩ := Nat.exists_eq_succ_of_ne_zero (show fu ≠ 0 by omega)
    obtain ⟨a1, a2⟩ := z_trk W (show t < 7 by omega) hk
    obtain ⟨b1, b2⟩ := z_trk W (show u < 7 by omega) hk
    have ih := ih (u + 1) fu (by omega) (by omega)
    rw [z_c] at ih
    rw [m_X8_mostAlike_17, if_neg (nI_ge (show u < F by omega) (by omega)), We6 W, Option.bind_some, a1, Option.bind_some, a2, Option.bind_some, Option.bind_some, b1, Option.bind_some, b2, Option.bind_some, m_X8_mostAlike_51, m_X8_mostAlike_51, nI_1, nI_1, Int32.add_zero]
    by_cases cc : g_A (κ 14) t k = g_A (κ 14) u k
    · rw [if_pos cc]
      rw [if_pos (decide_eq_true cc)] at ih
      exact ih
    · rw [if_neg cc]
      rw [if_neg (fun e => cc (of_decide_eq_true e))] at ih
      exact ih
theorem z_maxI {a c : Nat} (ha : a < 2 ^ 31) (hc : c < 2 ^ 31) : (if nI a < nI c then nI c else nI a) = nI (max a c) := by
  by_cases e : a < c
  · rw [if_pos (nI_lt e hc), Nat.max_eq_right (by omega)]
  · rw [if_neg (nI_nlt (by omega) ha), Nat.max_eq_left (by omega)]
theorem z_maO (W : z_W b κ h) {k F : Nat} (hk : k < 61) (hF : F ≤ 7) : ∀ (m t fu : Nat), t + m = F → m < fu → m_X8_mostAlike_5 fu h (b + 130) (nI k) (nI F) (nI (z_mx (fun t => z_c (fun x => decide (g_A (κ 14) t k = g_A (κ 14) x k)) F) t)) (nI t) = some (nI (z_mx (fun t => z_c (fun x => decide (g_A (κ 14) t k = g_A (κ 14) x k)) F) F)) := by
  intro m
  induction m with
  | zero =>
    intro t fu ht hf
    obtain ⟨fu, rfl⟩ := Nat.exists_eq_succ_of_ne_zero (show fu ≠ 0 by omega)
    obtain rfl : t = F := ht
    rw [m_X8_mostAlike_5, if_pos (nI_le (Nat.le_refl _) (by omega))]
  | succ m ih =>
    intro t fu ht hf
    obtain ⟨fu, rfl⟩ := Nat.exists_eq_succ_of_ne_zero (show fu ≠ 0 by omega)
    have hb1 : z_mx (fun t => z_c (fun x => decide (g_A (κ 14) t k = g_A (κ 14) x k)) F) t ≤ F := z_mx_le (fun j _ => z_c_le _ F)
    have hb2 := z_c_le (fun x => decide (g_A (κ 14) t k = g_A (κ 14) x k)) F
    rw [m_X8_mostAlike_5, if_neg (nI_ge (show t < F by omega) (by omega))]
    refine (z_maI W hk hF (show t < F by omega) _ (m_X8_mostAlike_5 fu) F 0 q_fu (by omega) (by show F < 5000; omega)).trans ?_
    rw [z_maxI (by omega) (by omega)]
    exact ih (t + 1) fu (by omega) (by omega)
theorem z_most (W : z_W b κ h) {k F : Nat} (hk : k < 61) (hF : F ≤ 7) : m_X8_mostAlike h (b + 130) (nI k) (nI F) = some (nI (z_mx (fun t => z_c (fun x => decide (g_A (κ 14) t k = g_A (κ 14) x k)) F) F)) :=
  z_maO W hk hF F 0 q_fu (by omega) (by show F < 5000; omega)
end MA
/-! the reference -/
section AA
variable {σ : r_S} {c : Nat}
def z_fb (σ : r_S) (j : Nat) : Bool := decide (¬ r_A σ 30 j = 0)
theorem z_aaI (hc6 : c ≤ 6) (hc : r_I σ 2 = nI c) {k a : Nat} (hk : k < 61) (ha : a ≤ c) (hfa : z_fb σ a = true) (most : Int32) (kR : r_S → Int32 → Int32 → Int32 → Option Int32) : ∀ (m u fu : Nat), u + m = c + 1 → m < fu → t_X12_alikeAt_18 kR fu σ (nI k) most (nI a) (nI (z_c (fun j => z_fb σ j && decide (r_A σ 31 (61 * a + k) = r_A σ 31 (61 * j + k))) u)) (nI u) = t_X12_alikeAt_88 kR σ (nI k) most (nI a) (nI (z_c (fun j => z_fb σ j && decide (r_A σ 31 (61 * a + k) = r_A σ 31 (61 * j + k))) (c + 1))) := by
  have hfa' : ¬ r_A σ 30 a = 0 := of_decide_eq_true hfa
  intro m
  induction m with
  | zero =>
    intro u fu hu hf
    obtain ⟨fu, rfl⟩ := Nat.exists_eq_succ_of_ne_zero (show fu ≠ 0 by omega)
    obtain rfl : u = c + 1 := hu
    rw [t_X12_alikeAt_18]
    try dsimp only
    rw [hc, if_pos (nI_lt (show c < c + 1 by omega) (by omega))]
  | succ m ih =>
    intro u fu hu hf
    obtain ⟨fu, rfl⟩ := Nat.exists_eq_succ_of_ne_zero (show fu ≠ 0 by omega)
    have ih := ih (u + 1) fu (by omega) (by omega)
    rw [z_c] at ih
    rw [t_X12_alikeAt_18]
    try dsimp only
    rw [hc, if_neg (nI_nlt (show u ≤ c by omega) (by omega)), t_ai_in (by omega) (by decide), Option.bind_some, if_neg hfa', t_ai_in (by omega) (by decide), Option.bind_some, z_ix61, t_ai_in (by omega) (by decide), Option.bind_some, z_ix61, t_ai_in (by omega) (by decide), Option.bind_some, t_X12_alikeAt_78, t_X12_alikeAt_79, t_X12_alikeAt_79, nI_1, nI_1, Int32.add_zero]
    by_cases c1 : r_A σ 30 u = 0
    · rw [if_pos c1]
      rw [if_neg (by unfold z_fb; simp [c1])] at ih
      exact ih
    · rw [if_neg c1]
      by_cases c2 : r_A σ 31 (61 * a + k) = r_A σ 31 (61 * u + k)
      · rw [if_pos c2]
        rw [if_pos (by unfold z_fb; simp [c1, c2])] at ih
        exact ih
      · rw [if_neg c2]
        rw [if_neg (by unfold z_fb; simp [c2])] at ih
        exact ih
theorem z_aaO (hc6 : c ≤ 6) (hc : r_I σ 2 = nI c) {k : Nat} (hk : k < 61) : ∀ (m a fu : Nat), a + m = c + 1 → m < fu → t_X12_alikeAt_4 fu σ (nI k) (nI (z_mx (fun a => if z_fb σ a then z_c (fun j => z_fb σ j && decide (r_A σ 31 (61 * a + k) = r_A σ 31 (61 * j + k))) (c + 1) else 0) a)) (nI a) = some (nI (z_mx (fun a => if z_fb σ a then z_c (fun j => z_fb σ j && decide (r_A σ 31 (61 * a + k) = r_A σ 31 (61 * j + k))) (c + 1) else 0) (c + 1))) := by
  have hle : ∀ a, (if z_fb σ a then z_c (fun j => z_fb σ j && decide (r_A σ 31 (61 * a + k) = r_A σ 31 (61 * j + k))) (c + 1) else 0) ≤ c + 1 := fun a => by
    split
    · exact z_c_le _ _
    · omega
  intro m
  induction m with
  | zero =>
    intro a fu ha hf
    obtain ⟨fu, rfl⟩ := Nat.exists_eq_succ_of_ne_zero (show fu ≠ 0 by omega)
    obtain rfl : a = c + 1 := ha
    rw [t_X12_alikeAt_4]
    try dsimp only
    rw [hc, if_pos (nI_lt (show c < c + 1 by omega) (by omega))]
  | succ m ih =>
    intro a fu ha hf
    obtain ⟨fu, rfl⟩ := Nat.exists_eq_succ_of_ne_zero (show fu ≠ 0 by omega)
    have ih := ih (a + 1) fu (by omega) (by omega)
    rw [show z_mx (fun a => if z_fb σ a then z_c (fun j => z_fb σ j && decide (r_A σ 31 (61 * a + k) = r_A σ 31 (61 * j + k))) (c + 1) else 0) (a + 1) = max (z_mx (fun a => if z_fb σ a then z_c (fun j => z_fb σ j && decide (r_A σ 31 (61 * a + k) = r_A σ 31 (61 * j + k))) (c + 1) else 0) a) (if z_fb σ a then z_c (fun j => z_fb σ j && decide (r_A σ 31 (61 * a + k) = r_A σ 31 (61 * j + k))) (c + 1) else 0) from rfl] at ih
    have hb1 : z_mx (fun a => if z_fb σ a then z_c (fun j => z_fb σ j && decide (r_A σ 31 (61 * a + k) = r_A σ 31 (61 * j + k))) (c + 1) else 0) a ≤ c + 1 := z_mx_le (fun j _ => hle j)
    have e88 : ∀ q : Nat, q ≤ c + 1 → t_X12_alikeAt_88 (t_X12_alikeAt_4 fu) σ (nI k) (nI (z_mx (fun a => if z_fb σ a then z_c (fun j => z_fb σ j && decide (r_A σ 31 (61 * a + k) = r_A σ 31 (61 * j + k))) (c + 1) else 0) a)) (nI a) (nI q) = t_X12_alikeAt_4 fu σ (nI k) (nI (max (z_mx (fun a => if z_fb σ a then z_c (fun j => z_fb σ j && decide (r_A σ 31 (61 * a + k) = r_A σ 31 (61 * j + k))) (c + 1) else 0) a) q)) (nI (a + 1)) := fun q hq => by
      unfold t_X12_alikeAt_88
      rw [t_X12_alikeAt_100, t_X12_alikeAt_100, nI_1]
      by_cases cc : q ≤ z_mx (fun a => if z_fb σ a then z_c (fun j => z_fb σ j && decide (r_A σ 31 (61 * a + k) = r_A σ 31 (61 * j + k))) (c + 1) else 0) a
      · rw [if_pos (nI_le cc (by omega)), Nat.max_eq_left cc]
      · rw [if_neg (nI_ge (by omega) (by omega)), Nat.max_eq_right (by omega)]
    rw [t_X12_alikeAt_4]
    try dsimp only
    rw [hc, if_neg (nI_nlt (show a ≤ c by omega) (by omega))]
    by_cases cf : z_fb σ a = true
    · have h := z_aaI hc6 hc hk (show a ≤ c by omega) cf (nI (z_mx (fun a => if z_fb σ a then z_c (fun j => z_fb σ j && decide (r_A σ 31 (61 * a + k) = r_A σ 31 (61 * j + k))) (c + 1) else 0) a)) (t_X12_alikeAt_4 fu) (c + 1) 0 q_fu (by omega) (by show c + 1 < 5000; omega)
      refine h.trans ?_
      rw [e88 _ (z_c_le _ _)]
      rw [if_pos cf] at ih
      exact ih
    · have ca : r_A σ 30 a = 0 := by
        apply Classical.byContradiction
        intro e
        exact cf (decide_eq_true e)
      rw [show q_fu = 4999 + 1 from rfl, t_X12_alikeAt_18]
      try dsimp only
      rw [hc, if_neg (show ¬ nI c < (0 : Int32) from nI_pos (by omega)), t_ai_in (by omega) (by decide), Option.bind_some, if_pos ca]
      rw [if_neg cf] at ih
      exact (e88 0 (by omega)).trans ih
theorem z_alikeAt (hc6 : c ≤ 6) (hc : r_I σ 2 = nI c) {k : Nat} (hk : k < 61) : t_X12_alikeAt σ (nI k) = some (nI (z_mx (fun a => if z_fb σ a then z_c (fun j => z_fb σ j && decide (r_A σ 31 (61 * a + k) = r_A σ 31 (61 * j + k))) (c + 1) else 0) (c + 1))) :=
  z_aaO hc6 hc hk (c + 1) 0 q_fu (by omega) (by show c + 1 < 5000; omega)
end AA

/-! ===== L3: all as the text told it, on both sides ===== -/
theorem z_updd (s : Nat → Int32) (j : Nat) (a c : Int32) : upd (upd s j a) j c = upd s j c := by
  funext q
  by_cases e : q = j
  · rw [e, pk_us, pk_us]
  · rw [pk_un e, pk_un e, pk_un e]
theorem z_c_mono (P : Nat → Bool) {p : Nat} : ∀ {n : Nat}, p ≤ n → z_c P p ≤ z_c P n
  | 0, h => by rw [show p = 0 by omega]; exact Nat.le_refl _
  | n + 1, h => by
    by_cases e : p = n + 1
    · rw [e]; exact Nat.le_refl _
    · have := z_c_mono P (p := p) (n := n) (by omega)
      rw [z_c]
      omega
theorem z_c_hit (P : Nat → Bool) : ∀ {n j : Nat}, j < z_c P n → ∃ p, p < n ∧ P p = true ∧ z_c P p = j
  | 0, j, h => absurd h (Nat.not_lt_zero _)
  | n + 1, j, h => by
    rw [z_c] at h
    by_cases c : j < z_c P n
    · obtain ⟨p, a, b, d⟩ := z_c_hit P c
      exact ⟨p, by omega, b, d⟩
    · by_cases hp : P n = true
      · rw [if_pos hp] at h
        exact ⟨n, by omega, hp, by omega⟩
      · rw [if_neg hp] at h
        omega
theorem z_c_step {P : Nat → Bool} {p q : Nat} (hp : P p = true) (h : p < q) : z_c P p < z_c P q := by
  have h1 := z_c_mono P (p := p + 1) (n := q) h
  rw [z_c, if_pos hp] at h1
  omega
/-! the reference -/
theorem z_bgI {k24 : r_S → Int32 → Option r_S} {σ : r_S} {S : Nat → Int32} {p : Nat} (hp : p < 8) : ∀ (m k fu : Nat), k + m = p → m < fu → t_X12_begins_63 k24 fu (r_sa σ 20 (upd S (13 + 5 * p) (nI (z_c (fun q => decide (S (68 + q) = S (68 + p))) k)))) (nI p) (nI (12 + 5 * p)) (nI k) = k24 (r_sa σ 20 (upd (upd (upd (upd S (13 + 5 * p) (nI (z_c (fun q => decide (S (68 + q) = S (68 + p))) p))) (14 + 5 * p) (S (76 + p))) (15 + 5 * p) 1) (16 + 5 * p) 0)) (nI (p + 1)) := by
  have i1 : nI (12 + 5 * p) + 1 = nI (13 + 5 * p) := by rw [nI_1, show 12 + 5 * p + 1 = 13 + 5 * p by omega]
  have i2 : nI (12 + 5 * p) + 2 = nI (14 + 5 * p) := by rw [z_nI2, show 12 + 5 * p + 2 = 14 + 5 * p by omega]
  have i3 : nI (12 + 5 * p) + 3 = nI (15 + 5 * p) := by rw [z_nI3, show 12 + 5 * p + 3 = 15 + 5 * p by omega]
  have i4 : nI (12 + 5 * p) + 4 = nI (16 + 5 * p) := by rw [show (4 : Int32) = nI 4 from rfl, nI_add, show 12 + 5 * p + 4 = 16 + 5 * p by omega]
  intro m
  induction m with
  | zero =>
    intro k fu hk hf
    obtain ⟨fu, rfl⟩ := Nat.exists_eq_succ_of_ne_zero (show fu ≠ 0 by omega)
    obtain rfl : k = p := hk
    rw [t_X12_begins_63, if_pos (nI_le (Nat.le_refl _) (by omega)), z_k76, z_rA, t_ai_in (by omega) (by decide), Option.bind_some, i2, z_s20 (by omega), Option.bind_some, i3, z_s20 (by omega), Option.bind_some, i4, z_s20 (by omega), Option.bind_some, nI_1, pk_un (by omega)]
  | succ m ih =>
    intro k fu hk hf
    obtain ⟨fu, rfl⟩ := Nat.exists_eq_succ_of_ne_zero (show fu ≠ 0 by omega)
    have h := ih (k + 1) fu (by omega) (by omega)
    rw [z_c] at h
    rw [t_X12_begins_63, if_neg (nI_ge (show k < p by omega) (by omega)), i1, z_rA, t_ai_in (by omega) (by decide), Option.bind_some, z_k68, t_ai_in (by omega) (by decide), Option.bind_some, z_k68, t_ai_in (by omega) (by decide), Option.bind_some, pk_us, pk_un (by omega), pk_un (by omega), t_X12_begins_103, t_X12_begins_103, z_s20 (by omega), Option.bind_some, z_s20 (by omega), Option.bind_some, z_updd, z_updd, nI_1, nI_1, Int32.add_zero]
    by_cases c : S (68 + k) = S (68 + p)
    · rw [if_pos c]
      rw [if_pos (decide_eq_true c)] at h
      exact h
    · rw [if_neg c]
      rw [if_neg (fun e => c (of_decide_eq_true e))] at h
      exact h
theorem z_bgO {σ : r_S} : ∀ (m p fu : Nat) (S : Nat → Int32), p + m = 8 → m < fu → ∃ s', t_X12_begins_24 fu (r_sa σ 20 S) (nI p) = some (r_sa σ 20 s') ∧ (∀ q, p ≤ q → q < 8 → s' (12 + 5 * q) = S (68 + q) ∧ s' (13 + 5 * q) = nI (z_c (fun r => decide (S (68 + r) = S (68 + q))) q) ∧ s' (14 + 5 * q) = S (76 + q) ∧ s' (15 + 5 * q) = 1 ∧ s' (16 + 5 * q) = 0) ∧ (∀ j, j < 12 + 5 * p ∨ 52 ≤ j → s' j = S j) := by
  intro m
  induction m with
  | zero =>
    intro p fu S hp hf
    obtain ⟨fu, rfl⟩ := Nat.exists_eq_succ_of_ne_zero (show fu ≠ 0 by omega)
    refine ⟨S, ?_, fun q h1 h2 => by omega, fun j _ => rfl⟩
    rw [t_X12_begins_24, if_pos (show (8 : Int32) ≤ nI p from nI_le (a := 8) (by omega) (by omega))]
  | succ m ih =>
    intro p fu S hp hf
    obtain ⟨fu, rfl⟩ := Nat.exists_eq_succ_of_ne_zero (show fu ≠ 0 by omega)
    have hI := z_bgI (k24 := t_X12_begins_24 fu) (σ := σ) (S := upd S (12 + 5 * p) (S (68 + p))) (p := p) (by omega) p 0 q_fu (by omega) (by show p < 5000; omega)
    have r68 : ∀ q, q < 8 → upd S (12 + 5 * p) (S (68 + p)) (68 + q) = S (68 + q) := fun q hq => pk_un (by omega)
    have hc : z_c (fun q => decide (upd S (12 + 5 * p) (S (68 + p)) (68 + q) = upd S (12 + 5 * p) (S (68 + p)) (68 + p))) p = z_c (fun q => decide (S (68 + q) = S (68 + p))) p := z_c_ext (fun q hq => by rw [r68 q (by omega), r68 p (by omega)])
    rw [hc, pk_un (show 76 + p ≠ 12 + 5 * p by omega)] at hI
    obtain ⟨s', e1, e2, e3⟩ := ih (p + 1) fu (upd (upd (upd (upd (upd S (12 + 5 * p) (S (68 + p))) (13 + 5 * p) (nI (z_c (fun q => decide (S (68 + q) = S (68 + p))) p))) (14 + 5 * p) (S (76 + p))) (15 + 5 * p) 1) (16 + 5 * p) 0) (by omega) (by omega)
    have hi : ∀ j, 68 ≤ j → upd (upd (upd (upd (upd S (12 + 5 * p) (S (68 + p))) (13 + 5 * p) (nI (z_c (fun q => decide (S (68 + q) = S (68 + p))) p))) (14 + 5 * p) (S (76 + p))) (15 + 5 * p) 1) (16 + 5 * p) 0 j = S j := fun j hj => by
      rw [pk_un (by omega), pk_un (by omega), pk_un (by omega), pk_un (by omega), pk_un (by omega)]
    refine ⟨s', ?_, fun q h1 h2 => ?_, fun j hj => ?_⟩
    · rw [t_X12_begins_24, if_neg (show ¬ (8 : Int32) ≤ nI p from nI_ge (b := 8) (by omega) (by decide)), z_k68, z_rA, t_ai_in (by omega) (by decide), Option.bind_some, z_i0, z_s20 (by omega), Option.bind_some, nI_1, z_s20 (by omega), Option.bind_some, show 12 + 5 * p + 1 = 13 + 5 * p by omega]
      exact hI.trans e1
    · by_cases e : q = p
      · subst e
        rw [e3 (12 + 5 * q) (by omega), e3 (13 + 5 * q) (by omega), e3 (14 + 5 * q) (by omega), e3 (15 + 5 * q) (by omega), e3 (16 + 5 * q) (by omega)]
        refine ⟨?_, ?_, ?_, ?_, pk_us⟩
        · rw [pk_un (by omega), pk_un (by omega), pk_un (by omega), pk_un (by omega), pk_us]
        · rw [pk_un (by omega), pk_un (by omega), pk_un (by omega), pk_us]
        · rw [pk_un (by omega), pk_un (by omega), pk_us]
        · rw [pk_un (by omega), pk_us]
      · obtain ⟨a1, a2, a3, a4, a5⟩ := e2 q (by omega) h2
        refine ⟨by rw [a1, hi _ (by omega)], ?_, by rw [a3, hi _ (by omega)], a4, a5⟩
        rw [a2, z_c_ext (fun r hr => by rw [hi (68 + r) (by omega), hi (68 + q) (by omega)])]
    · rw [e3 j (by omega), pk_un (by omega), pk_un (by omega), pk_un (by omega), pk_un (by omega), pk_un (by omega)]
/-- what is said at the begin -/
def z_bg (s s' : Nat → Int32) : Prop := s' 10 = 0 ∧ s' 11 = s 84 ∧ (∀ q, q < 8 → s' (12 + 5 * q) = s (68 + q) ∧ s' (13 + 5 * q) = nI (z_c (fun r => decide (s (68 + r) = s (68 + q))) q) ∧ s' (14 + 5 * q) = s (76 + q) ∧ s' (15 + 5 * q) = 1 ∧ s' (16 + 5 * q) = 0) ∧ (∀ j, j < 10 ∨ 52 ≤ j → s' j = s j)
theorem z_begins (σ : r_S) : ∃ s', t_X12_begins σ = some (r_sa σ 20 s') ∧ z_bg (r_A σ 20) s' := by
  obtain ⟨s', e1, e2, e3⟩ := z_bgO (σ := σ) 8 0 q_fu (upd (upd (r_A σ 20) 10 0) 11 (r_A σ 20 84)) (by omega) (by show 8 < 5000; omega)
  have hi : ∀ j, j ≠ 10 → j ≠ 11 → upd (upd (r_A σ 20) 10 0) 11 (r_A σ 20 84) j = r_A σ 20 j := fun j h1 h2 => by rw [pk_un h2, pk_un h1]
  refine ⟨s', ?_, ?_, ?_, fun q hq => ?_, fun j hj => ?_⟩
  · unfold t_X12_begins
    rw [show (10 : Int32) = nI 10 from rfl, t_si_in (by decide) (by decide), Option.bind_some, z_a84, Option.bind_some, z_s20J (J := 11) (j := 11) rfl (by decide), Option.bind_some, z_rA, pk_un (by decide)]
    exact e1
  · rw [e3 10 (by omega), pk_un (by decide), pk_us]
  · rw [e3 11 (by omega), pk_us]
  · obtain ⟨a1, a2, a3, a4, a5⟩ := e2 q (by omega) hq
    refine ⟨by rw [a1, hi _ (by omega) (by omega)], ?_, by rw [a3, hi _ (by omega) (by omega)], a4, a5⟩
    rw [a2, z_c_ext (fun r hr => by rw [hi (68 + r) (by omega) (by omega), hi (68 + q) (by omega) (by omega)])]
  · rw [e3 j (by omega), hi j (by omega) (by omega)]
theorem z_bg_V {s s' : Nat → Int32} {n : Nat} (hR : z_R s n) (hb : z_bg s s') : z_V s' n := by
  obtain ⟨hn, -, -, -, -, h84, hRp⟩ := hR
  obtain ⟨b1, b2, b3, b4⟩ := hb
  refine ⟨by rw [b2]; exact h84, fun p hp => ?_, ?_⟩
  · obtain ⟨a1, a2, a3, a4, a5⟩ := b3 p (by omega)
    rw [a1, a3, a5]
    exact ⟨(hRp p hp).1, (hRp p hp).2.2.1, 0, by omega, rfl⟩
  · have hc : ∀ c, z_c (z_on s' c) n = z_c (fun q => decide (s (68 + q) = c)) n := fun c => z_c_ext (fun p hp => by unfold z_on; rw [(b3 p (by omega)).1])
    have hpl : ∀ p c, p < n → s (68 + p) = c → s' (13 + 5 * p) = nI (z_c (fun q => decide (s (68 + q) = c)) p) := fun p c hp e => by rw [(b3 p (by omega)).2.1, e]
    refine ⟨fun p hp c hcc e => ?_, fun c hcc j hj => ?_, fun p q hp hq e1 e2 => ?_⟩
    · rw [(b3 p (by omega)).1] at e
      refine ⟨z_c (fun q => decide (s (68 + q) = nI c)) p, ?_, hpl p _ hp e⟩
      rw [hc]
      exact z_c_step (P := fun q => decide (s (68 + q) = nI c)) (decide_eq_true e) hp
    · rw [hc] at hj
      obtain ⟨p, a, b, d⟩ := z_c_hit _ hj
      have e := of_decide_eq_true b
      exact ⟨p, a, by rw [(b3 p (by omega)).1]; exact e, by rw [hpl p _ a e, d]⟩
    · rw [(b3 p (by omega)).1, (b3 q (by omega)).1] at e1
      rw [hpl p _ hp rfl, hpl q _ hq e1.symm] at e2
      have hl1 := z_c_le (fun r => decide (s (68 + r) = s (68 + p))) p
      have hl2 := z_c_le (fun r => decide (s (68 + r) = s (68 + p))) q
      have e3 := (nI_eq (by omega) (by omega)).mp e2
      rcases Nat.lt_trichotomy p q with h | h | h
      · have := z_c_step (P := fun r => decide (s (68 + r) = s (68 + p))) (decide_eq_true rfl) h
        omega
      · exact h
      · have := z_c_step (P := fun r => decide (s (68 + r) = s (68 + p))) (p := q) (decide_eq_true e1.symm) h
        omega
/-! the class -/
theorem z_bcL {o : g_S} {s : Nat → Int32} {n : Nat} (hn : n ≤ 8) (ho : z_o o s n) (hs : ∀ p, p < n → nb (s (68 + p)) 1) : ∀ (m k fu : Nat) (t : g_S), k + m = n → m < fu → ∃ t', t_X10_begin_25 fu t o (nI (z_c (fun q => decide (s (68 + q) = 1)) k)) (nI k) = some t' ∧ g_I t' = g_I t ∧ (∀ q, k ≤ q → q < n → g_A t' 3 q = s (68 + q) ∧ g_A t' 4 q = nI (z_c (fun r => decide (s (68 + r) = s (68 + q))) q) ∧ g_A t' 5 q = s (76 + q) ∧ g_A t' 6 q = 0) ∧ (∀ q, q < k → g_A t' 3 q = g_A t 3 q ∧ g_A t' 4 q = g_A t 4 q ∧ g_A t' 5 q = g_A t 5 q ∧ g_A t' 6 q = g_A t 6 q) := by
  obtain ⟨o3, -, -, -, oA⟩ := ho
  intro m
  induction m with
  | zero =>
    intro k fu t hk hf
    obtain ⟨fu, rfl⟩ := Nat.exists_eq_succ_of_ne_zero (show fu ≠ 0 by omega)
    obtain rfl : k = n := hk
    refine ⟨t, ?_, rfl, fun q h1 h2 => by omega, fun q _ => ⟨rfl, rfl, rfl, rfl⟩⟩
    rw [t_X10_begin_25]
    try dsimp only
    rw [o3, if_pos (nI_le (Nat.le_refl _) (by omega))]
  | succ m ih =>
    intro k fu t hk hf
    obtain ⟨fu, rfl⟩ := Nat.exists_eq_succ_of_ne_zero (show fu ≠ 0 by omega)
    obtain ⟨c, hc, ec⟩ := hs k (by omega)
    have hle := z_c_le (fun q => decide (s (68 + q) = 1)) k
    -- the place
    have hplace : (if s (68 + k) = 0 then nI k - nI (z_c (fun q => decide (s (68 + q) = 1)) k) else nI (z_c (fun q => decide (s (68 + q) = 1)) k)) = nI (z_c (fun r => decide (s (68 + r) = s (68 + k))) k) := by
      rcases (show c = 0 ∨ c = 1 by omega) with rfl | rfl
      · rw [ec, if_pos (by decide), pk_sub hle]
        congr 1
        have e1 := z_c_split (fun _ => true) (fun q => decide (s (68 + q) = 1)) k
        have e2 : z_c (fun _ => true) k = k := by
          clear hk hf ec hle e1
          induction k with
          | zero => rfl
          | succ k ihk => rw [z_c, ihk]; rfl
        have e3 : z_c (fun q => true && !decide (s (68 + q) = 1)) k = z_c (fun r => decide (s (68 + r) = nI 0)) k := z_c_ext (fun q hq => by
          obtain ⟨d, hd, ed⟩ := hs q (by omega)
          rw [ed]
          rcases (show d = 0 ∨ d = 1 by omega) with rfl | rfl <;> decide)
        have e4 : z_c (fun q => true && decide (s (68 + q) = 1)) k = z_c (fun q => decide (s (68 + q) = 1)) k := z_c_ext (fun q hq => by simp)
        rw [e3, e4, e2] at e1
        omega
      · rw [ec, if_neg (by decide)]
        rfl
    have hnext : nI (z_c (fun q => decide (s (68 + q) = 1)) k) + s (68 + k) = nI (z_c (fun q => decide (s (68 + q) = 1)) (k + 1)) := by
      rw [z_c, ec, nI_add]
      congr 1
      rcases (show c = 0 ∨ c = 1 by omega) with rfl | rfl
      · rw [if_neg (by decide)]
      · rw [if_pos (by decide)]
    have key : ∃ t1, t_X10_begin_25 (fu + 1) t o (nI (z_c (fun q => decide (s (68 + q) = 1)) k)) (nI k) = t_X10_begin_25 fu t1 o (nI (z_c (fun q => decide (s (68 + q) = 1)) (k + 1))) (nI (k + 1)) ∧ g_I t1 = g_I t ∧ (∀ q, q ≠ k → g_A t1 3 q = g_A t 3 q ∧ g_A t1 4 q = g_A t 4 q ∧ g_A t1 5 q = g_A t 5 q ∧ g_A t1 6 q = g_A t 6 q) ∧ g_A t1 3 k = s (68 + k) ∧ g_A t1 4 k = nI (z_c (fun r => decide (s (68 + r) = s (68 + k))) k) ∧ g_A t1 5 k = s (76 + k) ∧ g_A t1 6 k = 0 := by
      have e66 : ∀ v, t_X10_begin_66 (t_X10_begin_25 fu) (g_sa t 3 (upd (g_A t 3) k (s (68 + k)))) o (nI (z_c (fun q => decide (s (68 + q) = 1)) k)) (nI k) v (nI k) = t_X10_begin_25 fu (g_sa (g_sa (g_sa (g_sa t 3 (upd (g_A t 3) k (s (68 + k)))) 4 (upd (g_A t 4) k v)) 5 (upd (g_A t 5) k (s (76 + k)))) 6 (upd (g_A t 6) k 0)) o (nI (z_c (fun q => decide (s (68 + q) = 1)) (k + 1))) (nI (k + 1)) := by
        intro v
        unfold t_X10_begin_66
        rw [u_si_in (by omega) (by decide), Option.bind_some, z_sa_of (show 4 ≠ 3 by decide), z_sa_of (show 3 ≠ 4 by decide), z_sa_at, t_ai_in (by omega) (by decide), Option.bind_some, pk_us, t_ai_in (by omega) (by decide), Option.bind_some, (oA k (by omega)).2.2.1, u_si_in (by omega) (by decide), Option.bind_some, z_sa_of (show 5 ≠ 4 by decide), z_sa_of (show 5 ≠ 3 by decide), u_si_in (by omega) (by decide), Option.bind_some, z_sa_of (show 6 ≠ 5 by decide), z_sa_of (show 6 ≠ 4 by decide), z_sa_of (show 6 ≠ 3 by decide), hnext, nI_1]
      refine ⟨g_sa (g_sa (g_sa (g_sa t 3 (upd (g_A t 3) k (s (68 + k)))) 4 (upd (g_A t 4) k (nI (z_c (fun r => decide (s (68 + r) = s (68 + k))) k)))) 5 (upd (g_A t 5) k (s (76 + k)))) 6 (upd (g_A t 6) k 0), ?_, rfl, fun q hq => ?_, ?_, ?_, ?_, ?_⟩
      · rw [t_X10_begin_25]
        try dsimp only
        rw [o3, if_neg (nI_ge (show k < n by omega) (by omega)), t_ai_in (by omega) (by decide), Option.bind_some, (oA k (by omega)).1, u_si_in (by omega) (by decide), Option.bind_some, z_sa_at, t_ai_in (by omega) (by decide), Option.bind_some, pk_us, e66, e66, ← hplace]
        split <;> rfl
      · rw [z_sa_of (show 3 ≠ 6 by decide), z_sa_of (show 3 ≠ 5 by decide), z_sa_of (show 3 ≠ 4 by decide), z_sa_at, z_sa_of (show 4 ≠ 6 by decide), z_sa_of (show 4 ≠ 5 by decide), z_sa_at, z_sa_of (show 5 ≠ 6 by decide), z_sa_at, z_sa_at, pk_un hq, pk_un hq, pk_un hq, pk_un hq]
        exact ⟨rfl, rfl, rfl, rfl⟩
      · rw [z_sa_of (show 3 ≠ 6 by decide), z_sa_of (show 3 ≠ 5 by decide), z_sa_of (show 3 ≠ 4 by decide), z_sa_at, pk_us]
      · rw [z_sa_of (show 4 ≠ 6 by decide), z_sa_of (show 4 ≠ 5 by decide), z_sa_at, pk_us]
      · rw [z_sa_of (show 5 ≠ 6 by decide), z_sa_at, pk_us]
      · rw [z_sa_at, pk_us]
    obtain ⟨t1, k1, k2, k3, k4, k5, k6, k7⟩ := key
    obtain ⟨t', e1, e2, e3, e4⟩ := ih (k + 1) fu t1 (by omega) (by omega)
    refine ⟨t', k1.trans e1, e2.trans k2, fun q h1 h2 => ?_, fun q hq => ?_⟩
    · by_cases e : q = k
      · subst e
        obtain ⟨a1, a2, a3, a4⟩ := e4 q (by omega)
        rw [a1, a2, a3, a4]
        exact ⟨k4, k5, k6, k7⟩
      · exact e3 q (by omega) h2
    · obtain ⟨a1, a2, a3, a4⟩ := e4 q (by omega)
      rw [a1, a2, a3, a4]
      exact k3 q (by omega)
theorem z_begin {o t : g_S} {s s' : Nat → Int32} {n : Nat} (hR : z_R s n) (ho : z_o o s n) (hb : z_bg s s') : ∃ t', t_X10_begin t o = some t' ∧ z_t t' s' n := by
  have hn := hR.1
  obtain ⟨b1, b2, b3, b4⟩ := hb
  obtain ⟨t', e1, e2, e3, -⟩ := z_bcL hn ho (fun p hp => (hR.2.2.2.2.2.2 p hp).1) n 0 q_fu (g_si (g_si (g_si t 0 (g_I o 2)) 1 0) 2 (nI (2 ^ n - 1))) (by omega) (by show n < 5000; omega)
  refine ⟨t', ?_, ?_, ?_, ?_, fun p hp => ?_⟩
  · unfold t_X10_begin
    try dsimp only
    rw [z_everyone hn ho.1, Option.bind_some]
    exact e1
  · rw [e2, z_si_In (by decide), z_si_In (by decide), z_si_I, b2]; exact ho.2.2.2.1
  · rw [e2, z_si_In (by decide), z_si_I, b1]
  · rw [e2, z_si_I, ← z_m_all n]
    congr 1
    refine z_m_ext (fun p hp => ?_)
    unfold z_up
    rw [(b3 p (by omega)).2.2.2.1]
    rfl
  · obtain ⟨a1, a2, a3, a4, a5⟩ := b3 p (by omega)
    obtain ⟨c1, c2, c3, c4⟩ := e3 p (by omega) hp
    rw [a1, a2, a3, a5, c1, c2, c3, c4]
    exact ⟨rfl, rfl, rfl, rfl⟩

/-! ===== L3, the TAPE: both sides write the same bytes ===== -/
theorem t_ai_in {n j : Nat} {f : Nat → Int32} (h : j < n) (hn : n < 2 ^ 31) : t_ai n f (nI j) = some (f j) := by
  unfold t_ai
  rw [if_pos (show q_in (nI j) n from vp_in_nI h hn), nI_clamp (by omega)]
theorem u_si_in {n j k : Nat} {s : g_S} {x : Int32} (h : j < n) (hn : n < 2 ^ 31) : u_si n s k (nI j) x = some (g_sa s k (upd (g_A s k) j x)) := by
  unfold u_si
  rw [if_pos (show q_in (nI j) n from vp_in_nI h hn), nI_clamp (by omega)]
theorem t_si_in {n j k : Nat} {s : r_S} {x : Int32} (h : j < n) (hn : n < 2 ^ 31) : t_si n s k (nI j) x = some (r_sa s k (upd (r_A s k) j x)) := by
  unfold t_si
  rw [if_pos (show q_in (nI j) n from vp_in_nI h hn), nI_clamp (by omega)]
/-- the byte of v at a shift -/
def y_by (v sh : Int32) : Int32 := vp_nar .byte ((v >>> (sh &&& 31)).toInt8.toInt32)
def y_four (f : Nat → Int32) (n : Nat) (v : Int32) : Nat → Int32 := upd (upd (upd (upd f n (y_by v 24)) (n + 1) (y_by v 16)) (n + 2) (y_by v 8)) (n + 3) (y_by v 0)
theorem r_four_step {k n : Nat} {s : r_S} {v sh : Int32} (hs : ¬ sh < 0) (hn : n < 400) (hI : r_I s 1 = nI n) : t_X12_four_3 (k + 1) s v sh = t_X12_four_3 k (r_si (r_sa s 0 (upd (r_A s 0) n (y_by v sh))) 1 (nI (n + 1))) v (sh + (-8)) := by
  rw [t_X12_four_3]
  rw [if_neg hs]
  simp only [hI]
  rw [t_si_in hn (by decide)]
  show t_X12_four_3 k (r_si (r_sa s 0 (upd (r_A s 0) n (y_by v sh))) 1 (r_I s 1 + 1)) v (sh + (-8)) = _
  rw [hI, nI_1]
theorem r_four {n : Nat} {s : r_S} {v : Int32} (hn : n + 4 ≤ 400) (hI : r_I s 1 = nI n) : t_X12_four s v = some (r_si (r_sa s 0 (y_four (r_A s 0) n v)) 1 (nI (n + 4))) := by
  show t_X12_four_3 (4995 + 1 + 1 + 1 + 1 + 1) s v 24 = _
  rw [r_four_step (by decide) (by omega) hI]
  rw [r_four_step (n := n + 1) (by decide) (by omega) rfl]
  rw [r_four_step (n := n + 2) (by decide) (by omega) rfl]
  rw [r_four_step (n := n + 3) (by decide) (by omega) rfl]
  rw [t_X12_four_3]
  rw [if_pos (by decide)]
  have e : ∀ (s : r_S) (f g : Nat → Int32) (a b : Int32), r_si (r_sa (r_si (r_sa s 0 f) 1 a) 0 g) 1 b = r_si (r_sa s 0 g) 1 b := by
    intro s f g a b
    unfold r_si r_sa
    simp only [bx_uu]
  rw [e, e, e]
  rfl
theorem g_four_step {k n : Nat} {s : g_S} {v sh : Int32} (hs : ¬ sh < 0) (hn : n < 400) (hI : g_I s 1 = nI n) : t_X9_append_3 (k + 1) s v sh = t_X9_append_3 k (g_si (g_sa s 0 (upd (g_A s 0) n (y_by v sh))) 1 (nI (n + 1))) v (sh + (-8)) := by
  rw [t_X9_append_3]
  rw [if_neg hs]
  simp only [hI]
  rw [if_neg (show ¬ (400 : Int32) ≤ nI n from nI_ge (b := 400) hn (by decide))]
  rw [u_si_in hn (by decide)]
  show t_X9_append_3 k (g_si (g_sa s 0 (upd (g_A s 0) n (y_by v sh))) 1 (g_I s 1 + 1)) v (sh + (-8)) = _
  rw [hI, nI_1]
theorem g_four {n : Nat} {s : g_S} {v : Int32} (hn : n + 4 ≤ 400) (hI : g_I s 1 = nI n) : t_X9_append s v = some (g_si (g_sa s 0 (y_four (g_A s 0) n v)) 1 (nI (n + 4))) := by
  show t_X9_append_3 (4995 + 1 + 1 + 1 + 1 + 1) s v 24 = _
  rw [g_four_step (by decide) (by omega) hI]
  rw [g_four_step (n := n + 1) (by decide) (by omega) rfl]
  rw [g_four_step (n := n + 2) (by decide) (by omega) rfl]
  rw [g_four_step (n := n + 3) (by decide) (by omega) rfl]
  rw [t_X9_append_3]
  rw [if_pos (by decide)]
  have e : ∀ (s : g_S) (f g : Nat → Int32) (a b : Int32), g_si (g_sa (g_si (g_sa s 0 f) 1 a) 0 g) 1 b = g_si (g_sa s 0 g) 1 b := by
    intro s f g a b
    unfold g_si g_sa
    simp only [bx_uu]
  rw [e, e, e]
  rfl
/-- the TAPE on both sides -/
def y_tape (d : g_S) (s : r_S) (n : Nat) : Prop := n ≤ 400 ∧ g_I d 1 = nI n ∧ r_I s 1 = nI n ∧ g_A d 0 = r_A s 0
def y_feed (f : Nat → Int32) (n : Nat) (a b c d e : Int32) : Nat → Int32 := y_four (y_four (y_four (y_four (y_four f n a) (n + 4) b) (n + 8) c) (n + 12) d) (n + 16) e
theorem r_feed {n : Nat} {s : r_S} (hI : r_I s 1 = nI n) (hn : n ≤ 400) (a b c d e : Int32) : t_X12_feed s a b c d e = if n + 20 ≤ 400 then some (nI (n + 20), r_si (r_sa s 0 (y_feed (r_A s 0) n a b c d e)) 1 (nI (n + 20))) else some (-1, s) := by
  unfold t_X12_feed
  simp only [hI]
  have e20 : nI n + 20 = nI (n + 20) := nI_add n 20
  rw [e20]
  by_cases h : n + 20 ≤ 400
  · rw [if_pos h, if_pos (show nI (n + 20) ≤ (400 : Int32) from nI_le (b := 400) h (by decide))]
    rw [r_four (n := n) (by omega) hI]
    rw [Option.bind_some, r_four (n := n + 4) (by omega) rfl]
    rw [Option.bind_some, r_four (n := n + 8) (by omega) rfl]
    rw [Option.bind_some, r_four (n := n + 12) (by omega) rfl]
    rw [Option.bind_some, r_four (n := n + 16) (by omega) rfl]
    have e : ∀ (s : r_S) (f g : Nat → Int32) (a b : Int32), r_si (r_sa (r_si (r_sa s 0 f) 1 a) 0 g) 1 b = r_si (r_sa s 0 g) 1 b := by
      intro s f g a b
      unfold r_si r_sa
      simp only [bx_uu]
    rw [Option.bind_some, e, e, e, e]
    rfl
  · rw [if_neg h, if_neg (show ¬ nI (n + 20) ≤ (400 : Int32) from nI_ge (a := 400) (b := n + 20) (by omega) (by omega))]
theorem g_feed {n : Nat} {m t : g_S} (hI : g_I t 1 = nI n) (hn : n ≤ 400) (a b c d e : Int32) : t_X11_feed m t a b c d e = if n + 20 ≤ 400 then some (nI (n + 20), g_si (g_sa t 0 (y_feed (g_A t 0) n a b c d e)) 1 (nI (n + 20))) else some (-1, t) := by
  unfold t_X11_feed t_X9_hasRoomFor
  simp only [hI]
  have e20 : nI n + 20 = nI (n + 20) := nI_add n 20
  rw [e20]
  by_cases h : n + 20 ≤ 400
  · rw [if_pos h, if_neg (show ¬ (400 : Int32) < nI (n + 20) from nI_nlt (b := n + 20) (a := 400) h (by decide))]
    rw [Option.bind_some, if_neg (by decide)]
    rw [g_four (n := n) (by omega) hI]
    rw [Option.bind_some, g_four (n := n + 4) (by omega) rfl]
    rw [Option.bind_some, g_four (n := n + 8) (by omega) rfl]
    rw [Option.bind_some, g_four (n := n + 12) (by omega) rfl]
    rw [Option.bind_some, g_four (n := n + 16) (by omega) rfl]
    have e : ∀ (s : g_S) (f g : Nat → Int32) (a b : Int32), g_si (g_sa (g_si (g_sa s 0 f) 1 a) 0 g) 1 b = g_si (g_sa s 0 g) 1 b := by
      intro s f g a b
      unfold g_si g_sa
      simp only [bx_uu]
    rw [Option.bind_some, e, e, e, e]
    rfl
  · rw [if_neg h, if_pos (show (400 : Int32) < nI (n + 20) from nI_lt (a := 400) (b := n + 20) (by omega) (by omega))]
    rfl
/-- feed: both answer alike, and the TAPES stay alike; nothing else of the reference changes -/
theorem y_feed_ok {d : g_S} {s : r_S} {n : Nat} (T : y_tape d s n) (m : g_S) (a1 a2 a3 a4 a5 : Int32) : ∃ r d' s' n', t_X11_feed m d a1 a2 a3 a4 a5 = some (r, d') ∧ t_X12_feed s a1 a2 a3 a4 a5 = some (r, s') ∧ y_tape d' s' n' ∧ (s' = s ∨ ∃ f v, s' = r_si (r_sa s 0 f) 1 v) := by
  obtain ⟨h1, h2, h3, h4⟩ := T
  rw [g_feed h2 h1, r_feed h3 h1]
  by_cases h : n + 20 ≤ 400
  · rw [if_pos h, if_pos h]
    exact ⟨_, _, _, n + 20, rfl, rfl, ⟨h, rfl, rfl, by show y_feed (g_A d 0) n a1 a2 a3 a4 a5 = y_feed (r_A s 0) n a1 a2 a3 a4 a5; rw [h4]⟩, Or.inr ⟨_, _, rfl⟩⟩
  · rw [if_neg h, if_neg h]
    exact ⟨_, _, _, n, rfl, rfl, ⟨h1, h2, h3, h4⟩, Or.inl rfl⟩
theorem y_end_ok {d : g_S} {s : r_S} {n : Nat} (T : y_tape d s n) (m : g_S) (a1 : Int32) : ∃ r d' s' n', t_X11_end m d a1 = some (r, d') ∧ t_X12_end s a1 = some (r, s') ∧ y_tape d' s' n' ∧ (s' = s ∨ ∃ v, s' = r_si s 1 v) := by
  obtain ⟨h1, h2, h3, h4⟩ := T
  unfold t_X11_end t_X12_end
  simp only [h2, h3]
  by_cases c1 : a1 < 0
  · rw [if_pos c1, if_pos c1]
    exact ⟨_, _, _, n, rfl, rfl, ⟨h1, h2, h3, h4⟩, Or.inl rfl⟩
  · rw [if_neg c1, if_neg c1]
    by_cases c2 : a1 ≤ nI n
    · rw [if_pos c2, if_pos c2]
      obtain ⟨j, hj, rfl⟩ := nI_of c1
      have hjn : j ≤ n := (nI_leI hj (by omega)).mp c2
      exact ⟨_, _, _, j, rfl, rfl, ⟨by omega, rfl, rfl, h4⟩, Or.inr ⟨_, rfl⟩⟩
    · rw [if_neg c2, if_neg c2]
      exact ⟨_, _, _, n, rfl, rfl, ⟨h1, h2, h3, h4⟩, Or.inl rfl⟩
theorem y_seed_ok {l : g_S} {s : r_S} (h : g_I l 3 = r_I s 22) (m : g_S) (a1 : Int32) : ∃ r l' s', t_X11_seed m l a1 = some (r, l') ∧ t_X12_seed s a1 = some (r, s') ∧ g_I l' 3 = r_I s' 22 ∧ ((l' = l ∧ s' = s) ∨ (l' = g_si l 3 a1 ∧ s' = r_si s 22 a1)) := by
  unfold t_X11_seed t_X12_seed
  simp only [h]
  by_cases c : 0 ≤ a1
  · rw [if_pos c, if_pos c]
    exact ⟨_, _, _, rfl, rfl, rfl, Or.inr ⟨rfl, rfl⟩⟩
  · rw [if_neg c, if_neg c]
    exact ⟨_, _, _, rfl, rfl, h, Or.inl ⟨rfl, rfl⟩⟩

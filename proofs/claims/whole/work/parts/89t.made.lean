/-! ===== L3: the class's constructor ===== -/
def z_p0 (p : Nat) : g_S := (fun _ => 0, fun _ _ => 0, fun _ _ => 0, fun k => if k = 0 then some p else none, fun _ => 0)
theorem z_newTape (z : Nat) (h : q_H) : ∃ h', m_X9_init (z + 1) (va_up h z (.inr (9, [.null, .int 0]))) z = some (z + 2, h') ∧ g9 z z_o0 h' ∧ ∀ a, a < z → h' a = h a := by
  have n1 : z ≠ z + 1 := by omega
  unfold m_X9_init
  try dsimp only
  rw [z_pfc _ _ _ _ _ _ ((va_up_of n1).trans (va_up_at _ _ _)) (by simp only [List.length_set, List.length_cons, List.length_nil]; decide), Option.bind_some]
  rw [z_pfc _ _ _ _ _ _ (va_up_at _ _ _) (by simp only [List.length_set, List.length_cons, List.length_nil]; decide), Option.bind_some]
  refine ⟨_, rfl, ⟨?_, ?_⟩, fun a ha => ?_⟩
  · rw [va_up_at]
    rfl
  · rw [va_up_of (by omega), va_up_of (by omega), va_up_at]
    rfl
  · rw [va_up_of (by omega), va_up_of (by omega), va_up_of (by omega), va_up_of (by omega)]
theorem z_newReader (z p : Nat) (h : q_H) : ∃ h', m_X3_init (z + 1) (va_up h z (.inr (3, [.null, .null, .null, .null, .int 0, .int 0, .int 0, .int 0, .int 0]))) z p = some (z + 4, h') ∧ g3 z (z_p0 p) h' ∧ ∀ a, a < z → h' a = h a := by
  have n1 : z ≠ z + 1 := by omega
  have n2 : z ≠ z + 1 + 1 := by omega
  have n3 : z ≠ z + 1 + 1 + 1 := by omega
  unfold m_X3_init
  try dsimp only
  rw [z_pfc _ _ _ _ _ _ (va_up_at _ _ _) (by simp only [List.length_set, List.length_cons, List.length_nil]; decide), Option.bind_some]
  rw [z_pfc _ _ _ _ _ _ ((va_up_of n1).trans (va_up_at _ _ _)) (by simp only [List.length_set, List.length_cons, List.length_nil]; decide), Option.bind_some]
  rw [z_pfc _ _ _ _ _ _ ((va_up_of n2).trans (va_up_at _ _ _)) (by simp only [List.length_set, List.length_cons, List.length_nil]; decide), Option.bind_some]
  rw [z_pfc _ _ _ _ _ _ ((va_up_of n3).trans (va_up_at _ _ _)) (by simp only [List.length_set, List.length_cons, List.length_nil]; decide), Option.bind_some]
  refine ⟨_, rfl, ⟨?_, ?_, ?_, ?_⟩, fun a ha => ?_⟩
  · rw [va_up_at]
    rfl
  · rw [va_up_of (by omega), va_up_of (by omega), va_up_of (by omega), va_up_of (by omega), va_up_of (by omega), va_up_at]
    rfl
  · rw [va_up_of (by omega), va_up_of (by omega), va_up_of (by omega), show z + 2 = z + 1 + 1 from rfl, va_up_at]
    rfl
  · rw [va_up_of (by omega), show z + 3 = z + 1 + 1 + 1 from rfl, va_up_at]
    rfl
  · rw [va_up_of (by omega), va_up_of (by omega), va_up_of (by omega), va_up_of (by omega), va_up_of (by omega), va_up_of (by omega), va_up_of (by omega), va_up_of (by omega)]
theorem z_newRR (z p : Nat) (h : q_H) : ∃ h', m_X5_init (va_up h z (.inr (5, [.null, .int 0]))) z p = some h' ∧ g5 z (z_p0 p) h' ∧ ∀ a, a < z → h' a = h a := by
  unfold m_X5_init
  rw [z_pfc _ _ _ _ _ _ (va_up_at _ _ _) (by simp only [List.length_cons, List.length_nil]; decide), Option.bind_some]
  refine ⟨_, rfl, ?_, fun a ha => ?_⟩
  · unfold g5
    rw [va_up_at]
    rfl
  · rw [va_up_of (by omega), va_up_of (by omega)]
theorem z_newUR (z p : Nat) (h : q_H) : ∃ h', m_X7_init (z + 1) (va_up h z (.inr (7, [.null, .null, .int 0, .null, .int 0, .null, .int 0, .int 0, .int 0]))) z p = some (z + 4, h') ∧ g7 z (z_p0 p) h' ∧ ∀ a, a < z → h' a = h a := by
  have n1 : z ≠ z + 1 := by omega
  have n2 : z ≠ z + 1 + 1 := by omega
  have n3 : z ≠ z + 1 + 1 + 1 := by omega
  unfold m_X7_init
  try dsimp only
  rw [z_pfc _ _ _ _ _ _ (va_up_at _ _ _) (by simp only [List.length_set, List.length_cons, List.length_nil]; decide), Option.bind_some]
  rw [z_pfc _ _ _ _ _ _ ((va_up_of n1).trans (va_up_at _ _ _)) (by simp only [List.length_set, List.length_cons, List.length_nil]; decide), Option.bind_some]
  rw [z_pfc _ _ _ _ _ _ ((va_up_of n2).trans (va_up_at _ _ _)) (by simp only [List.length_set, List.length_cons, List.length_nil]; decide), Option.bind_some]
  rw [z_pfc _ _ _ _ _ _ ((va_up_of n3).trans (va_up_at _ _ _)) (by simp only [List.length_set, List.length_cons, List.length_nil]; decide), Option.bind_some]
  refine ⟨_, rfl, ⟨?_, ?_, ?_, ?_⟩, fun a ha => ?_⟩
  · rw [va_up_at]
    rfl
  · rw [va_up_of (by omega), va_up_of (by omega), va_up_of (by omega), va_up_of (by omega), va_up_of (by omega), va_up_at]
    rfl
  · rw [va_up_of (by omega), va_up_of (by omega), va_up_of (by omega), show z + 2 = z + 1 + 1 from rfl, va_up_at]
    rfl
  · rw [va_up_of (by omega), show z + 3 = z + 1 + 1 + 1 from rfl, va_up_at]
    rfl
  · rw [va_up_of (by omega), va_up_of (by omega), va_up_of (by omega), va_up_of (by omega), va_up_of (by omega), va_up_of (by omega), va_up_of (by omega), va_up_of (by omega)]
theorem z_newHeaver (z : Nat) (h : q_H) : ∃ h', m_X1_init (z + 1) (va_up h z (.inr (1, [.null, .null, .null, .null, .null, .null, .null]))) z = some (z + 6, h') ∧ g1 z z_o0 h' ∧ ∀ a, a < z → h' a = h a := by
  have n1 : z ≠ z + 1 := by omega
  have n2 : z ≠ z + 1 + 1 := by omega
  have n3 : z ≠ z + 1 + 1 + 1 := by omega
  have n4 : z ≠ z + 1 + 1 + 1 + 1 := by omega
  have n5 : z ≠ z + 1 + 1 + 1 + 1 + 1 := by omega
  unfold m_X1_init
  try dsimp only
  rw [z_pfc _ _ _ _ _ _ ((va_up_of n1).trans (va_up_at _ _ _)) (by simp only [List.length_set, List.length_cons, List.length_nil]; decide), Option.bind_some]
  rw [z_pfc _ _ _ _ _ _ ((va_up_of n2).trans (va_up_at _ _ _)) (by simp only [List.length_set, List.length_cons, List.length_nil]; decide), Option.bind_some]
  rw [z_pfc _ _ _ _ _ _ ((va_up_of n3).trans (va_up_at _ _ _)) (by simp only [List.length_set, List.length_cons, List.length_nil]; decide), Option.bind_some]
  rw [z_pfc _ _ _ _ _ _ ((va_up_of n4).trans (va_up_at _ _ _)) (by simp only [List.length_set, List.length_cons, List.length_nil]; decide), Option.bind_some]
  rw [z_pfc _ _ _ _ _ _ ((va_up_of n5).trans (va_up_at _ _ _)) (by simp only [List.length_set, List.length_cons, List.length_nil]; decide), Option.bind_some]
  refine ⟨_, rfl, ⟨?_, ?_, ?_, ?_, ?_, ?_⟩, fun a ha => ?_⟩
  · rw [va_up_at]
    rfl
  · rw [va_up_of (by omega), va_up_of (by omega), va_up_of (by omega), va_up_of (by omega), va_up_of (by omega), va_up_of (by omega), va_up_of (by omega), va_up_of (by omega), va_up_of (by omega), va_up_at]
    rfl
  · rw [va_up_of (by omega), va_up_of (by omega), va_up_of (by omega), va_up_of (by omega), va_up_of (by omega), va_up_of (by omega), va_up_of (by omega), show z + 2 = z + 1 + 1 from rfl, va_up_at]
    rfl
  · rw [va_up_of (by omega), va_up_of (by omega), va_up_of (by omega), va_up_of (by omega), va_up_of (by omega), show z + 3 = z + 1 + 1 + 1 from rfl, va_up_at]
    rfl
  · rw [va_up_of (by omega), va_up_of (by omega), va_up_of (by omega), show z + 4 = z + 1 + 1 + 1 + 1 from rfl, va_up_at]
    rfl
  · rw [va_up_of (by omega), show z + 5 = z + 1 + 1 + 1 + 1 + 1 from rfl, va_up_at]
    rfl
  · rw [va_up_of (by omega), va_up_of (by omega), va_up_of (by omega), va_up_of (by omega), va_up_of (by omega), va_up_of (by omega), va_up_of (by omega), va_up_of (by omega), va_up_of (by omega), va_up_of (by omega), va_up_of (by omega)]
/-- the ring, tug by tug -/
def z_ri (a0 : Nat) : Nat → Nat → Nat → q_H → Option (Nat × q_H)
  | 0, _, p, h => some (p, h)
  | m + 1, i, p, h => (q_gn h a0 2 0).bind fun v => (m_X10_init (p + 1) (va_up h p (.inr (10, [.int 0, .int 0, .int 0, .null, .null, .null, .null]))) p).bind fun x => (q_sr x.2 v 6 10 (nI i) p).bind fun h7 => z_ri a0 m (i + 1) x.1 h7
theorem z_ri_eq (z : Nat) (h : q_H) (a0 : Nat) : m_X2_init z h a0 = (q_pf (va_up h z (.inl (6, 20, .inr (.inr (.inr (.inr (fun _ => none))))))) a0 2 0 (.ref z)).bind fun h2 => z_ri a0 20 0 (z + 1) h2 := rfl
theorem z_riL {a0 zr : Nat} : ∀ (m i p : Nat) (h : q_H) (f : Nat → Option Nat), i + m = 20 → h a0 = .inr (2, [.ref zr, .int 0, .int 0]) → h zr = .inl (6, 20, .inr (.inr (.inr (.inr f)))) → a0 < p → zr < p → a0 ≠ zr → ∃ h' f', z_ri a0 m i p h = some (p + 5 * m, h') ∧ h' a0 = .inr (2, [.ref zr, .int 0, .int 0]) ∧ h' zr = .inl (6, 20, .inr (.inr (.inr (.inr f')))) ∧ (∀ j, j < i ∨ 20 ≤ j → f' j = f j) ∧ (∀ j, i ≤ j → j < 20 → f' j = some (p + 5 * (j - i))) ∧ (∀ j, j < m → g10 (p + 5 * j) z_o0 h') ∧ ∀ a, a < p → a ≠ zr → h' a = h a := by
  intro m
  induction m with
  | zero =>
    intro i p h f hi e1 e2 l1 l2 ne
    exact ⟨h, f, rfl, e1, e2, fun _ _ => rfl, fun j h1 h2 => by omega, fun j hj => absurd hj (Nat.not_lt_zero _), fun _ _ _ => rfl⟩
  | succ m ih =>
    intro i p h f hi e1 e2 l1 l2 ne
    obtain ⟨h6, a1, a2, a3, a4⟩ := z_newTug p h
    obtain ⟨h7, hh7⟩ : ∃ h7, h7 = va_up h6 zr (.inl (6, 20, .inr (.inr (.inr (.inr (va_up f i (some p))))))) := ⟨_, rfl⟩
    have e7 : q_sr h6 zr 6 10 (nI i) p = some h7 := by
      unfold q_sr
      rw [a3 zr l2, e2]
      refine (if_pos ⟨rfl, show q_in (nI i) 20 from vp_in_nI (by omega) (by decide)⟩).trans ?_
      rw [a2.1]
      refine (if_pos rfl).trans ?_
      rw [nI_clamp (by omega), hh7]
    have F7 : ∀ a, a ≠ zr → h7 a = h6 a := fun a ha => by rw [hh7]; exact va_up_of ha
    obtain ⟨h', f', x1, x2, x3, x4, x5, x6, x7⟩ := ih (i + 1) (p + 5) h7 (va_up f i (some p)) (by omega) ((F7 a0 ne).trans ((a3 a0 l1).trans e1)) (by rw [hh7, va_up_at]) (by omega) (by omega) ne
    refine ⟨h', f', ?_, x2, x3, fun j hj => ?_, fun j h1 h2 => ?_, fun j hj => ?_, fun a ha hne => ?_⟩
    · rw [z_ri, show q_gn h a0 2 0 = some zr from by unfold q_gn q_fd; rw [e1]; rfl, Option.bind_some, a1, Option.bind_some]
      try dsimp only
      rw [e7, Option.bind_some, x1]
      congr 2
      omega
    · rw [x4 j (by omega), va_up_of (by omega)]
    · by_cases e : j = i
      · rw [e, x4 i (by omega), va_up_at, Nat.sub_self]
        rfl
      · rw [x5 j (by omega) h2]
        congr 1
        omega
    · by_cases e : j = 0
      · subst e
        refine fr10 a2 (fun a ha => ?_)
        unfold f10 at ha
        rw [x7 a (by omega) (by omega), F7 a (by omega)]
      · have := x6 (j - 1) (by omega)
        rw [show p + 5 + 5 * (j - 1) = p + 5 * j by omega] at this
        exact this
    · rw [x7 a (by omega) hne, F7 a hne, a3 a ha]
theorem z_newPast (z : Nat) (h : q_H) : ∃ h', m_X2_init (z + 1) (va_up h z (.inr (2, [.null, .int 0, .int 0]))) z = some (z + 102, h') ∧ g2 z (z_p0 (z + 1)) h' ∧ h' (z + 1) = .inl (6, 20, .inr (.inr (.inr (.inr (fun i => if i < 20 then some (z + 2 + 5 * i) else none))))) ∧ (∀ i, i < 20 → g10 (z + 2 + 5 * i) z_o0 h') ∧ ∀ a, a < z → h' a = h a := by
  have n1 : z ≠ z + 1 := by omega
  obtain ⟨h2, hh2⟩ : ∃ h2, h2 = va_up (va_up (va_up h z (.inr (2, [.null, .int 0, .int 0]))) (z + 1) (.inl (6, 20, .inr (.inr (.inr (.inr (fun _ => none))))))) z (.inr (2, [.ref (z + 1), .int 0, .int 0])) := ⟨_, rfl⟩
  have e2 : q_pf (va_up (va_up h z (.inr (2, [.null, .int 0, .int 0]))) (z + 1) (.inl (6, 20, .inr (.inr (.inr (.inr (fun _ => none))))))) z 2 0 (.ref (z + 1)) = some h2 := by
    rw [z_pfc _ _ _ _ _ _ ((va_up_of n1).trans (va_up_at _ _ _)) (by simp only [List.length_cons, List.length_nil]; decide), hh2]
    rfl
  obtain ⟨h', f', x1, x2, x3, x4, x5, x6, x7⟩ := z_riL (a0 := z) (zr := z + 1) 20 0 (z + 2) h2 (fun _ => none) rfl (by rw [hh2, va_up_at]) (by rw [hh2, va_up_of (by omega), va_up_at]) (by omega) (by omega) n1
  refine ⟨h', ?_, x2, ?_, fun i hi => x6 i hi, fun a ha => ?_⟩
  · rw [z_ri_eq, e2, Option.bind_some]
    exact x1
  · have ef : f' = fun i => if i < 20 then some (z + 2 + 5 * i) else none := by
      funext i
      by_cases c : i < 20
      · rw [if_pos c, x5 i (Nat.zero_le _) c, Nat.sub_zero]
      · rw [if_neg c, x4 i (by omega)]
    rw [x3, ef]
  · rw [x7 a (by omega) (by omega), hh2, va_up_of (by omega), va_up_of (by omega), va_up_of (by omega)]

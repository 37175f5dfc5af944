/-! ===== L3: the Seer; the class as it is made ===== -/
theorem z_newSeer (z p1 p2 p3 : Nat) (h : q_H) : ∃ h', m_X8_init (z + 1) (va_up h z (.inr (8, [.null, .null, .null, .null, .null, .null, .null, .null, .null]))) z p1 p2 p3 = some (z + 22, h') ∧ h' z = .inr (8, [.ref p1, .ref p2, .ref p3, .ref (z + 1), .ref (z + 6), .ref (z + 11), .ref (z + 12), .ref (z + 20), .ref (z + 21)]) ∧ g10 (z + 1) z_o0 h' ∧ g4 (z + 6) z_o0 h' ∧ h' (z + 11) = .inl (2, 61, .inr (.inl (fun _ => 0))) ∧ h' (z + 12) = .inl (7, 7, .inr (.inr (.inr (.inr (fun i => if i < 7 then some (z + 13 + i) else none))))) ∧ (∀ i, i < 7 → h' (z + 13 + i) = .inl (1, 61, .inl (fun _ => 0))) ∧ h' (z + 20) = .inl (1, 16, .inl (fun _ => 0)) ∧ h' (z + 21) = .inl (1, 16, .inl (fun _ => 0)) ∧ ∀ a, a < z → h' a = h a := by
  -- the three that are given
  obtain ⟨h3, hh3⟩ : ∃ h3, h3 = va_up h z (.inr (8, [.ref p1, .ref p2, .ref p3, .null, .null, .null, .null, .null, .null])) := ⟨_, rfl⟩
  have s1 : q_pf (va_up h z (.inr (8, [.null, .null, .null, .null, .null, .null, .null, .null, .null]))) z 8 0 (.ref p1) = some (va_up h z (.inr (8, [.ref p1, .null, .null, .null, .null, .null, .null, .null, .null]))) := by
    rw [z_pfc _ _ _ _ _ _ (va_up_at _ _ _) (by simp only [List.length_cons, List.length_nil]; decide), bx_uu]
    rfl
  have s2 : q_pf (va_up h z (.inr (8, [.ref p1, .null, .null, .null, .null, .null, .null, .null, .null]))) z 8 1 (.ref p2) = some (va_up h z (.inr (8, [.ref p1, .ref p2, .null, .null, .null, .null, .null, .null, .null]))) := by
    rw [z_pfc _ _ _ _ _ _ (va_up_at _ _ _) (by simp only [List.length_cons, List.length_nil]; decide), bx_uu]
    rfl
  have s3 : q_pf (va_up h z (.inr (8, [.ref p1, .ref p2, .null, .null, .null, .null, .null, .null, .null]))) z 8 2 (.ref p3) = some h3 := by
    rw [z_pfc _ _ _ _ _ _ (va_up_at _ _ _) (by simp only [List.length_cons, List.length_nil]; decide), bx_uu, hh3]
    rfl
  have e3 : h3 z = .inr (8, [.ref p1, .ref p2, .ref p3, .null, .null, .null, .null, .null, .null]) := by rw [hh3, va_up_at]
  have F3 : ∀ a, a < z → h3 a = h a := fun a ha => by rw [hh3, va_up_of (by omega)]
  -- the trial
  obtain ⟨h6, a1, a2, a3, -⟩ := z_newTug (z + 1) h3
  have a1 : m_X10_init (z + 1 + 1) (va_up h3 (z + 1) (.inr (10, [.int 0, .int 0, .int 0, .null, .null, .null, .null]))) (z + 1) = some (z + 6, h6) := a1
  have e6 : h6 z = .inr (8, [.ref p1, .ref p2, .ref p3, .null, .null, .null, .null, .null, .null]) := (a3 z (by omega)).trans e3
  obtain ⟨h7, hh7⟩ : ∃ h7, h7 = va_up h6 z (.inr (8, [.ref p1, .ref p2, .ref p3, .ref (z + 1), .null, .null, .null, .null, .null])) := ⟨_, rfl⟩
  have s7 : q_pf h6 z 8 3 (.ref (z + 1)) = some h7 := by
    rw [z_pfc _ _ _ _ _ _ e6 (by simp only [List.length_cons, List.length_nil]; decide), hh7]
    rfl
  have e7 : h7 z = .inr (8, [.ref p1, .ref p2, .ref p3, .ref (z + 1), .null, .null, .null, .null, .null]) := by rw [hh7, va_up_at]
  have F7 : ∀ a, a ≠ z → h7 a = h6 a := fun a ha => by rw [hh7, va_up_of ha]
  -- the ROPE that is tried
  obtain ⟨h10, b1, b2, b3⟩ := z_newRope (z + 6) h7
  have b1 : m_X4_init (z + 6 + 1) (va_up h7 (z + 6) (.inr (4, [.int 0, .int 0, .int 0, .int 0, .null, .null, .null, .null]))) (z + 6) = some (z + 11, h10) := b1
  have e10 : h10 z = .inr (8, [.ref p1, .ref p2, .ref p3, .ref (z + 1), .null, .null, .null, .null, .null]) := (b3 z (by omega)).trans e7
  obtain ⟨h11, hh11⟩ : ∃ h11, h11 = va_up h10 z (.inr (8, [.ref p1, .ref p2, .ref p3, .ref (z + 1), .ref (z + 6), .null, .null, .null, .null])) := ⟨_, rfl⟩
  have s11 : q_pf h10 z 8 4 (.ref (z + 6)) = some h11 := by
    rw [z_pfc _ _ _ _ _ _ e10 (by simp only [List.length_cons, List.length_nil]; decide), hh11]
    rfl
  have F11 : ∀ a, a ≠ z → h11 a = h10 a := fun a ha => by rw [hh11, va_up_of ha]
  -- the rest
  obtain ⟨h13, hh13⟩ : ∃ h13, h13 = va_up (va_up h11 (z + 11) (.inl (2, 61, .inr (.inl (fun _ => 0))))) z (.inr (8, [.ref p1, .ref p2, .ref p3, .ref (z + 1), .ref (z + 6), .ref (z + 11), .null, .null, .null])) := ⟨_, rfl⟩
  have n11 : z ≠ z + 11 := by omega
  have s13 : q_pf (va_up h11 (z + 11) (.inl (2, 61, .inr (.inl (fun _ => 0))))) z 8 5 (.ref (z + 11)) = some h13 := by
    rw [z_pfc _ _ _ _ _ _ ((va_up_of n11).trans (by rw [hh11, va_up_at])) (by simp only [List.length_cons, List.length_nil]; decide), hh13]
    rfl
  have m14 : ∀ a, a ≠ z + 12 → ¬ (z + 12 < a ∧ a ≤ z + 12 + 7) → q_mh h13 (z + 12) 7 61 a = h13 a := fun a h1 h2 => by
    unfold q_mh
    rw [if_neg h1, if_neg h2]
  obtain ⟨h15, hh15⟩ : ∃ h15, h15 = va_up (q_mh h13 (z + 12) 7 61) z (.inr (8, [.ref p1, .ref p2, .ref p3, .ref (z + 1), .ref (z + 6), .ref (z + 11), .ref (z + 12), .null, .null])) := ⟨_, rfl⟩
  have s15 : q_pf (q_mh h13 (z + 12) 7 61) z 8 6 (.ref (z + 12)) = some h15 := by
    rw [z_pfc _ _ _ _ _ _ ((m14 z (by omega) (by omega)).trans (by rw [hh13, va_up_at])) (by simp only [List.length_cons, List.length_nil]; decide), hh15]
    rfl
  obtain ⟨h17, hh17⟩ : ∃ h17, h17 = va_up (va_up h15 (z + 20) (.inl (1, 16, .inl (fun _ => 0)))) z (.inr (8, [.ref p1, .ref p2, .ref p3, .ref (z + 1), .ref (z + 6), .ref (z + 11), .ref (z + 12), .ref (z + 20), .null])) := ⟨_, rfl⟩
  have n20 : z ≠ z + 20 := by omega
  have s17 : q_pf (va_up h15 (z + 20) (.inl (1, 16, .inl (fun _ => 0)))) z 8 7 (.ref (z + 20)) = some h17 := by
    rw [z_pfc _ _ _ _ _ _ ((va_up_of n20).trans (by rw [hh15, va_up_at])) (by simp only [List.length_cons, List.length_nil]; decide), hh17]
    rfl
  obtain ⟨h19, hh19⟩ : ∃ h19, h19 = va_up (va_up h17 (z + 21) (.inl (1, 16, .inl (fun _ => 0)))) z (.inr (8, [.ref p1, .ref p2, .ref p3, .ref (z + 1), .ref (z + 6), .ref (z + 11), .ref (z + 12), .ref (z + 20), .ref (z + 21)])) := ⟨_, rfl⟩
  have n21 : z ≠ z + 21 := by omega
  have s19 : q_pf (va_up h17 (z + 21) (.inl (1, 16, .inl (fun _ => 0)))) z 8 8 (.ref (z + 21)) = some h19 := by
    rw [z_pfc _ _ _ _ _ _ ((va_up_of n21).trans (by rw [hh17, va_up_at])) (by simp only [List.length_cons, List.length_nil]; decide), hh19]
    rfl
  have G : ∀ a, a ≠ z → a ≠ z + 20 → a ≠ z + 21 → h19 a = q_mh h13 (z + 12) 7 61 a := fun a c1 c2 c3 => by
    rw [hh19, va_up_of c1, va_up_of c3, hh17, va_up_of c1, va_up_of c2, hh15, va_up_of c1]
  have G2 : ∀ a, a ≠ z → a < z + 12 → h19 a = h13 a := fun a c1 c2 => (G a c1 (by omega) (by omega)).trans (m14 a (by omega) (by omega))
  have G3 : ∀ a, a ≠ z → a < z + 11 → h19 a = h10 a := fun a c1 c2 => by
    rw [G2 a c1 (by omega), hh13, va_up_of c1, va_up_of (by omega), F11 a c1]
  refine ⟨h19, ?_, by rw [hh19, va_up_at], fr10 a2 (fun a ha => ?_), fr4 b2 (fun a ha => ?_), ?_, ?_, fun i hi => ?_, ?_, ?_, fun a ha => ?_⟩
  · unfold m_X8_init
    rw [s1, Option.bind_some, s2, Option.bind_some, s3, Option.bind_some]
    try dsimp only
    rw [a1, Option.bind_some]
    try dsimp only
    rw [s7, Option.bind_some, b1, Option.bind_some]
    try dsimp only
    rw [s11, Option.bind_some, s13, Option.bind_some, show z + 11 + 1 = z + 12 from rfl, s15, Option.bind_some, show z + 12 + 1 + 7 = z + 20 from rfl, s17, Option.bind_some, show z + 20 + 1 = z + 21 from rfl, s19, Option.bind_some]
  · unfold f10 at ha
    rw [G3 a (by omega) (by omega), b3 a (by omega), F7 a (by omega)]
  · unfold f4 at ha
    rw [G3 a (by omega) (by omega)]
  · rw [G2 (z + 11) (by omega) (by omega), hh13, va_up_of (by omega), va_up_at]
  · rw [G (z + 12) (by omega) (by omega) (by omega)]
    unfold q_mh
    rw [if_pos rfl]
  · rw [G (z + 13 + i) (by omega) (by omega) (by omega)]
    unfold q_mh
    rw [if_neg (by omega), if_pos (by omega)]
  · rw [hh19, va_up_of (by omega), va_up_of (by omega), hh17, va_up_of (by omega), va_up_at]
  · rw [hh19, va_up_of (by omega), va_up_at]
  · rw [G3 a (by omega) (by omega), b3 a (by omega), F7 a (by omega), a3 a (by omega), F3 a ha]
/-- all groups of a new object -/
def z_k0 (b : Nat) : Nat → g_S := fun k => if k = 0 then (fun _ => 0, fun _ _ => 0, fun _ _ => 0, fun j => if j = 0 then some (b + 1) else if j = 1 then some (b + 7) else if j = 2 then some (b + 8) else if j = 3 then some (b + 12) else if j = 5 then some (b + 13) else if j = 6 then some (b + 21) else if j = 7 then some (b + 123) else if j = 8 then some (b + 124) else some (b + 130), fun _ => 0) else if k = 2 then z_p0 (b + 1) else if k = 3 then z_p0 (b + 3) else if k = 4 then z_p0 (b + 3) else if k = 6 then z_g0 (b + 13) else if k = 8 then z_p0 (b + 22) else z_o0
theorem z_newX (b : Nat) : ∃ h', m_X11_init (b + 1) (va_up (fun _ => q_no) b (.inr (11, [.null, .null, .null, .null, .int 0, .null, .null, .null, .null, .null]))) b = some (b + 152, h') ∧ z_W b (z_k0 b) h' := by
  obtain ⟨h0, hh0⟩ : ∃ h0 : q_H, h0 = va_up (fun _ => q_no) b (.inr (11, [.null, .null, .null, .null, .int 0, .null, .null, .null, .null, .null])) := ⟨_, rfl⟩
  have E0 : h0 b = .inr (11, [.null, .null, .null, .null, .int 0, .null, .null, .null, .null, .null]) := by rw [hh0, va_up_at]
  rw [← hh0]
  have gn : ∀ (h : q_H) (l : List Value) (k q : Nat), h b = .inr (11, l) → l[k]? = some (.ref q) → q_gn h b 11 k = some q := fun h l k q e1 e2 => by
    unfold q_gn q_fd
    rw [e1]
    show ((if 11 = 11 then l[k]? else none).bind q_vn) = some q
    rw [if_pos rfl, e2]
    rfl
  -- Tape
  obtain ⟨hA, A1, A2, A3⟩ := z_newTape (b + 1) h0
  have A1 : m_X9_init (b + 1 + 1) (va_up h0 (b + 1) (.inr (9, [.null, .int 0]))) (b + 1) = some (b + 3, hA) := A1
  obtain ⟨hA', dA⟩ : ∃ hA', hA' = va_up hA b (.inr (11, [.ref (b + 1), .null, .null, .null, .int 0, .null, .null, .null, .null, .null])) := ⟨_, rfl⟩
  have SA : q_pf hA b 11 0 (.ref (b + 1)) = some hA' := by
    rw [z_pfc _ _ _ _ _ _ ((A3 b (by omega)).trans E0) (by simp only [List.length_cons, List.length_nil]; decide), dA]
    rfl
  have EA : hA' b = .inr (11, [.ref (b + 1), .null, .null, .null, .int 0, .null, .null, .null, .null, .null]) := by rw [dA, va_up_at]
  have FA : ∀ a, a ≠ b → hA' a = hA a := fun a ha => by rw [dA, va_up_of ha]
  -- Reader
  obtain ⟨hB, B1, B2, B3⟩ := z_newReader (b + 3) (b + 1) hA'
  have B1 : m_X3_init (b + 3 + 1) (va_up hA' (b + 3) (.inr (3, [.null, .null, .null, .null, .int 0, .int 0, .int 0, .int 0, .int 0]))) (b + 3) (b + 1) = some (b + 7, hB) := B1
  have GB : q_gn (va_up hA' (b + 3) (.inr (3, [.null, .null, .null, .null, .int 0, .int 0, .int 0, .int 0, .int 0]))) b 11 0 = some (b + 1) := gn _ _ _ _ ((va_up_of (by omega)).trans EA) rfl
  -- RopeReader
  obtain ⟨hC, C1, C2, C3⟩ := z_newRR (b + 7) (b + 3) hB
  obtain ⟨hC', dC⟩ : ∃ hC', hC' = va_up hC b (.inr (11, [.ref (b + 1), .ref (b + 7), .null, .null, .int 0, .null, .null, .null, .null, .null])) := ⟨_, rfl⟩
  have SC : q_pf hC b 11 1 (.ref (b + 7)) = some hC' := by
    rw [z_pfc _ _ _ _ _ _ ((C3 b (by omega)).trans ((B3 b (by omega)).trans EA)) (by simp only [List.length_cons, List.length_nil]; decide), dC]
    rfl
  have EC : hC' b = .inr (11, [.ref (b + 1), .ref (b + 7), .null, .null, .int 0, .null, .null, .null, .null, .null]) := by rw [dC, va_up_at]
  have FC : ∀ a, a ≠ b → hC' a = hC a := fun a ha => by rw [dC, va_up_of ha]
  -- RuleReader
  obtain ⟨hD, D1, D2, D3⟩ := z_newUR (b + 8) (b + 3) hC'
  have D1 : m_X7_init (b + 7 + 1 + 1) (va_up hC' (b + 7 + 1) (.inr (7, [.null, .null, .int 0, .null, .int 0, .null, .int 0, .int 0, .int 0]))) (b + 7 + 1) (b + 3) = some (b + 12, hD) := D1
  obtain ⟨hD', dD⟩ : ∃ hD', hD' = va_up hD b (.inr (11, [.ref (b + 1), .ref (b + 7), .ref (b + 8), .null, .int 0, .null, .null, .null, .null, .null])) := ⟨_, rfl⟩
  have SD : q_pf hD b 11 2 (.ref (b + 7 + 1)) = some hD' := by
    rw [z_pfc _ _ _ _ _ _ ((D3 b (by omega)).trans EC) (by simp only [List.length_cons, List.length_nil]; decide), dD]
    rfl
  have ED : hD' b = .inr (11, [.ref (b + 1), .ref (b + 7), .ref (b + 8), .null, .int 0, .null, .null, .null, .null, .null]) := by rw [dD, va_up_at]
  have FD : ∀ a, a ≠ b → hD' a = hD a := fun a ha => by rw [dD, va_up_of ha]
  -- rules
  obtain ⟨hE, dE⟩ : ∃ hE, hE = va_up hD' (b + 12) (.inl (5, 6, .inr (.inr (.inr (.inr (fun _ => none)))))) := ⟨_, rfl⟩
  obtain ⟨hE', dE'⟩ : ∃ hE', hE' = va_up hE b (.inr (11, [.ref (b + 1), .ref (b + 7), .ref (b + 8), .ref (b + 12), .int 0, .null, .null, .null, .null, .null])) := ⟨_, rfl⟩
  have SE : q_pf hE b 11 3 (.ref (b + 12)) = some hE' := by
    rw [z_pfc _ _ _ _ _ _ (by rw [dE, va_up_of (by omega)]; exact ED) (by simp only [List.length_cons, List.length_nil]; decide), dE']
    rfl
  have SE2 : q_pf hE' b 11 4 (.int 0) = some hE' := by
    rw [z_pfc _ _ _ _ _ _ (by rw [dE', va_up_at]) (by simp only [List.length_cons, List.length_nil]; decide), dE', bx_uu]
    rfl
  have EE : hE' b = .inr (11, [.ref (b + 1), .ref (b + 7), .ref (b + 8), .ref (b + 12), .int 0, .null, .null, .null, .null, .null]) := by rw [dE', va_up_at]
  have FE : ∀ a, a ≠ b → hE' a = hE a := fun a ha => by rw [dE', va_up_of ha]
  -- Game
  obtain ⟨hG, G1, G2, G2', G3, -⟩ := z_newGame (b + 13) hE'
  have G1 : m_X0_init (b + 12 + 1 + 1) (va_up hE' (b + 12 + 1) (.inr (0, [.null, .null, .int 0, .int 0, .int 0, .null, .null]))) (b + 12 + 1) = some (b + 21, hG) := G1
  obtain ⟨hG', dG⟩ : ∃ hG', hG' = va_up hG b (.inr (11, [.ref (b + 1), .ref (b + 7), .ref (b + 8), .ref (b + 12), .int 0, .ref (b + 13), .null, .null, .null, .null])) := ⟨_, rfl⟩
  have SG : q_pf hG b 11 5 (.ref (b + 12 + 1)) = some hG' := by
    rw [z_pfc _ _ _ _ _ _ ((G3 b (by omega)).trans EE) (by simp only [List.length_cons, List.length_nil]; decide), dG]
    rfl
  have EG : hG' b = .inr (11, [.ref (b + 1), .ref (b + 7), .ref (b + 8), .ref (b + 12), .int 0, .ref (b + 13), .null, .null, .null, .null]) := by rw [dG, va_up_at]
  have FG : ∀ a, a ≠ b → hG' a = hG a := fun a ha => by rw [dG, va_up_of ha]
  -- Past
  obtain ⟨hP, P1, P2, P3, P4, P5⟩ := z_newPast (b + 21) hG'
  have P1 : m_X2_init (b + 21 + 1) (va_up hG' (b + 21) (.inr (2, [.null, .int 0, .int 0]))) (b + 21) = some (b + 123, hP) := P1
  obtain ⟨hP', dP⟩ : ∃ hP', hP' = va_up hP b (.inr (11, [.ref (b + 1), .ref (b + 7), .ref (b + 8), .ref (b + 12), .int 0, .ref (b + 13), .ref (b + 21), .null, .null, .null])) := ⟨_, rfl⟩
  have SP : q_pf hP b 11 6 (.ref (b + 21)) = some hP' := by
    rw [z_pfc _ _ _ _ _ _ ((P5 b (by omega)).trans EG) (by simp only [List.length_cons, List.length_nil]; decide), dP]
    rfl
  have EP : hP' b = .inr (11, [.ref (b + 1), .ref (b + 7), .ref (b + 8), .ref (b + 12), .int 0, .ref (b + 13), .ref (b + 21), .null, .null, .null]) := by rw [dP, va_up_at]
  have FP : ∀ a, a ≠ b → hP' a = hP a := fun a ha => by rw [dP, va_up_of ha]
  -- images
  obtain ⟨hI, dI⟩ : ∃ hI, hI = va_up hP' (b + 123) (.inl (4, 4, .inr (.inr (.inr (.inr (fun _ => none)))))) := ⟨_, rfl⟩
  obtain ⟨hI', dI'⟩ : ∃ hI', hI' = va_up hI b (.inr (11, [.ref (b + 1), .ref (b + 7), .ref (b + 8), .ref (b + 12), .int 0, .ref (b + 13), .ref (b + 21), .ref (b + 123), .null, .null])) := ⟨_, rfl⟩
  have SI : q_pf hI b 11 7 (.ref (b + 123)) = some hI' := by
    rw [z_pfc _ _ _ _ _ _ (by rw [dI, va_up_of (by omega)]; exact EP) (by simp only [List.length_cons, List.length_nil]; decide), dI']
    rfl
  have EI : hI' b = .inr (11, [.ref (b + 1), .ref (b + 7), .ref (b + 8), .ref (b + 12), .int 0, .ref (b + 13), .ref (b + 21), .ref (b + 123), .null, .null]) := by rw [dI', va_up_at]
  have FI : ∀ a, a ≠ b → hI' a = hI a := fun a ha => by rw [dI', va_up_of ha]
  -- Heaver
  obtain ⟨hV, V1, V2, V3⟩ := z_newHeaver (b + 124) hI'
  have V1 : m_X1_init (b + 123 + 1 + 1) (va_up hI' (b + 123 + 1) (.inr (1, [.null, .null, .null, .null, .null, .null, .null]))) (b + 123 + 1) = some (b + 130, hV) := V1
  obtain ⟨hV', dV⟩ : ∃ hV', hV' = va_up hV b (.inr (11, [.ref (b + 1), .ref (b + 7), .ref (b + 8), .ref (b + 12), .int 0, .ref (b + 13), .ref (b + 21), .ref (b + 123), .ref (b + 124), .null])) := ⟨_, rfl⟩
  have SV : q_pf hV b 11 8 (.ref (b + 123 + 1)) = some hV' := by
    rw [z_pfc _ _ _ _ _ _ ((V3 b (by omega)).trans EI) (by simp only [List.length_cons, List.length_nil]; decide), dV]
    rfl
  have EV : hV' b = .inr (11, [.ref (b + 1), .ref (b + 7), .ref (b + 8), .ref (b + 12), .int 0, .ref (b + 13), .ref (b + 21), .ref (b + 123), .ref (b + 124), .null]) := by rw [dV, va_up_at]
  have FV : ∀ a, a ≠ b → hV' a = hV a := fun a ha => by rw [dV, va_up_of ha]
  -- Seer
  obtain ⟨hS, S1, S2, S3, S4, S5, S6, S7, S8, S9, S10⟩ := z_newSeer (b + 130) (b + 13) (b + 12) (b + 124) hV'
  have S1 : m_X8_init (b + 130 + 1) (va_up hV' (b + 130) (.inr (8, [.null, .null, .null, .null, .null, .null, .null, .null, .null]))) (b + 130) (b + 13) (b + 12) (b + 124) = some (b + 152, hS) := S1
  have gV : ∀ k q, ([.ref (b + 1), .ref (b + 7), .ref (b + 8), .ref (b + 12), .int 0, .ref (b + 13), .ref (b + 21), .ref (b + 123), .ref (b + 124), .null] : List Value)[k]? = some (.ref q) → q_gn (va_up hV' (b + 130) (.inr (8, [.null, .null, .null, .null, .null, .null, .null, .null, .null]))) b 11 k = some q := fun k q e => gn _ _ _ _ ((va_up_of (by omega)).trans EV) e
  obtain ⟨hZ, dZ⟩ : ∃ hZ, hZ = va_up hS b (.inr (11, [.ref (b + 1), .ref (b + 7), .ref (b + 8), .ref (b + 12), .int 0, .ref (b + 13), .ref (b + 21), .ref (b + 123), .ref (b + 124), .ref (b + 130)])) := ⟨_, rfl⟩
  have SZ : q_pf hS b 11 9 (.ref (b + 130)) = some hZ := by
    rw [z_pfc _ _ _ _ _ _ ((S10 b (by omega)).trans EV) (by simp only [List.length_cons, List.length_nil]; decide), dZ]
    rfl
  have FZ : ∀ a, a ≠ b → hZ a = hS a := fun a ha => by rw [dZ, va_up_of ha]
  -- what stays
  have T9 : ∀ a, a ≠ b → a < b + 130 → hZ a = hV a := fun a c1 c2 => (FZ a c1).trans ((S10 a c2).trans (FV a c1))
  have T8 : ∀ a, a ≠ b → a < b + 124 → hZ a = hI a := fun a c1 c2 => (T9 a c1 (by omega)).trans ((V3 a c2).trans (FI a c1))
  have T7 : ∀ a, a ≠ b → a < b + 123 → hZ a = hP a := fun a c1 c2 => (T8 a c1 (by omega)).trans (by rw [dI, va_up_of (by omega)]; exact FP a c1)
  have T6 : ∀ a, a ≠ b → a < b + 21 → hZ a = hG a := fun a c1 c2 => (T7 a c1 (by omega)).trans ((P5 a c2).trans (FG a c1))
  have T5 : ∀ a, a ≠ b → a < b + 13 → hZ a = hE a := fun a c1 c2 => (T6 a c1 (by omega)).trans ((G3 a c2).trans (FE a c1))
  have T4 : ∀ a, a ≠ b → a < b + 12 → hZ a = hD a := fun a c1 c2 => (T5 a c1 (by omega)).trans (by rw [dE, va_up_of (by omega)]; exact FD a c1)
  have T3 : ∀ a, a ≠ b → a < b + 8 → hZ a = hC a := fun a c1 c2 => (T4 a c1 (by omega)).trans ((D3 a c2).trans (FC a c1))
  have T2 : ∀ a, a ≠ b → a < b + 7 → hZ a = hB a := fun a c1 c2 => (T3 a c1 (by omega)).trans (C3 a c2)
  have T1 : ∀ a, a ≠ b → a < b + 3 → hZ a = hA a := fun a c1 c2 => (T2 a c1 (by omega)).trans ((B3 a c2).trans (FA a c1))
  refine ⟨hZ, ?_, ⟨rfl, rfl, rfl, rfl, rfl, rfl, rfl, rfl, rfl, rfl, rfl, rfl, rfl, rfl⟩, ?_, fr9 A2 (fun a ha => T1 a (by unfold f9 at ha; omega) (by unfold f9 at ha; omega)), fr3 B2 (fun a ha => T2 a (by unfold f3 at ha; omega) (by unfold f3 at ha; omega)), fr5 C2 (fun a ha => T3 a (by unfold f5 at ha; omega) (by unfold f5 at ha; omega)), fr7 D2 (fun a ha => T4 a (by unfold f7 at ha; omega) (by unfold f7 at ha; omega)), ?_, fr0 G2 (fun a ha => T6 a (by unfold f0 at ha; omega) (by unfold f0 at ha; omega)), fr10 G2' (fun a ha => T6 a (by unfold f10 at ha; omega) (by unfold f10 at ha; omega)), fr2 P2 (fun a ha => T7 a (by unfold f2 at ha; omega) (by unfold f2 at ha; omega)), ?_, fun i hi => ?_, ?_, fr1 V2 (fun a ha => T9 a (by unfold f1 at ha; omega) (by unfold f1 at ha; omega)), ?_, fr10 S3 (fun a ha => FZ a (by unfold f10 at ha; omega)), fr4 S4 (fun a ha => FZ a (by unfold f4 at ha; omega)), ?_, ?_, fun i hi => ?_, ?_, ?_⟩
  · unfold m_X11_init
    try dsimp only
    rw [A1, Option.bind_some]
    try dsimp only
    rw [SA, Option.bind_some, GB, Option.bind_some, B1, Option.bind_some]
    try dsimp only
    rw [C1, Option.bind_some, SC, Option.bind_some, D1, Option.bind_some]
    try dsimp only
    rw [SD, Option.bind_some, ← dE, SE, Option.bind_some, SE2, Option.bind_some, G1, Option.bind_some]
    try dsimp only
    rw [SG, Option.bind_some, P1, Option.bind_some]
    try dsimp only
    rw [SP, Option.bind_some, ← dI, SI, Option.bind_some, V1, Option.bind_some]
    try dsimp only
    rw [SV, Option.bind_some, gV 5 (b + 13) rfl, Option.bind_some, gV 3 (b + 12) rfl, Option.bind_some, gV 8 (b + 124) rfl, Option.bind_some, S1, Option.bind_some]
    try dsimp only
    rw [SZ, Option.bind_some]
  · unfold g11
    rw [dZ, va_up_at]
    rfl
  · rw [T5 (b + 12) (by omega) (by omega), dE, va_up_at]
    rfl
  · rw [T7 (b + 22) (by omega) (by omega)]
    exact P3
  · have e20 : z_k0 b (20 + i) = z_o0 := by
      unfold z_k0
      rw [if_neg (by omega), if_neg (by omega), if_neg (by omega), if_neg (by omega), if_neg (by omega), if_neg (by omega)]
    rw [e20]
    exact fr10 (P4 i hi) (fun a ha => T7 a (by unfold f10 at ha; omega) (by unfold f10 at ha; omega))
  · rw [T8 (b + 123) (by omega) (by omega), dI, va_up_at]
    rfl
  · rw [FZ (b + 130) (by omega)]
    exact S2
  · rw [FZ (b + 141) (by omega)]
    exact S5
  · rw [FZ (b + 142) (by omega)]
    exact S6
  · rw [FZ (b + 143 + i) (by omega)]
    exact S7 i hi
  · rw [FZ (b + 150) (by omega)]
    exact S8
  · rw [FZ (b + 151) (by omega)]
    exact S9

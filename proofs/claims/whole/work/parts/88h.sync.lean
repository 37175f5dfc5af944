/-! ===== L3: the two READERS in step ===== -/
def z_so (σ σ' : r_S) : Prop := (∀ k, r_A σ' k = r_A σ k) ∧ (∀ k, k ≠ 8 → k ≠ 9 → k ≠ 10 → r_I σ' k = r_I σ k) ∧ r_L σ' = r_L σ ∧ r_D σ' = r_D σ
theorem z_so_refl (σ : r_S) : z_so σ σ := ⟨fun _ => rfl, fun _ _ _ _ => rfl, rfl, rfl⟩
theorem z_so_trans {σ σ1 σ2 : r_S} (A : z_so σ σ1) (B : z_so σ1 σ2) : z_so σ σ2 := ⟨fun k => (B.1 k).trans (A.1 k), fun k h1 h2 h3 => (B.2.1 k h1 h2 h3).trans (A.2.1 k h1 h2 h3), B.2.2.1.trans A.2.2.1, B.2.2.2.trans A.2.2.2⟩
theorem z_so_si (σ : r_S) {j : Nat} (h : j = 8 ∨ j = 9 ∨ j = 10) (v : Int32) : z_so σ (r_si σ j v) := ⟨fun _ => rfl, fun k h1 h2 h3 => z_rsiIn (by omega), rfl, rfl⟩
theorem z_so_nx (σ : r_S) (i : Nat) : z_so σ (z_nx σ i) := z_so_si σ (Or.inl rfl) _
theorem z_nx_eta {σ : r_S} {i : Nat} (h : r_I σ 8 = nI i) : z_nx σ i = σ := by
  unfold z_nx r_si
  rw [← h]
  show (va_up σ.1 8 (σ.1 8), σ.2) = σ
  rw [va_up_eta]
section SY
variable {d : g_S} {σ : r_S} {f : Nat → Int32} {N k p i : Nat}
/-- both sides look at the token that begins at p -/
def z_y (d : g_S) (σ : r_S) (f : Nat → Int32) (N k p i : Nat) : Prop := z_rd σ f N ∧ r_I σ 8 = nI i ∧ i ≤ N ∧ z_S (z_u f) N i = p ∧ z_rr d f N k p ∧ g_I d 8 = 0 ∧ r_I σ 9 = 0
/-- the class looks at the token that begins at p, the reference is behind it -/
def z_yb (d : g_S) (σ : r_S) (f : Nat → Int32) (N k p : Nat) : Prop := z_rd σ f N ∧ r_I σ 8 = nI (z_nd f N p) ∧ p < N ∧ z_rr d f N k p ∧ g_I d 8 = 0 ∧ r_I σ 9 = 0
def z_dd (d : g_S) (e : Int32) : Prop := ∃ T k, g_I d 4 = nI T ∧ T ≤ 401 ∧ g_I d 5 = nI k ∧ k < T ∧ g_I d 8 = e ∧ e ≠ 0
theorem z_rd_so {σ' : r_S} (H : z_rd σ f N) (S : z_so σ σ') : z_rd σ' f N := ⟨(S.1 0).trans H.1, (S.2.1 1 (by decide) (by decide) (by decide)).trans H.2.1, H.2.2⟩
theorem z_ftc (p a : Nat) : ((1 : Int32) + (8 : Int32) * nI p) + nI a = nI (1 + 8 * p + a) := by
  rw [show (8 : Int32) = nI 8 from rfl, pk_mul, show (1 : Int32) = nI 1 from rfl, nI_add, nI_add]
theorem z_rr_dd (R : z_rr d f N k p) {e : Int32} (he : e ≠ 0) : z_dd (g_si d 8 e) e := by
  obtain ⟨T, mm, r1, r2, r3, r4, -⟩ := R
  exact ⟨T, k, (z_si_In (by decide)).trans r1, r2, (z_si_In (by decide)).trans r3, r4, z_si_I _ _ _, he⟩
theorem z_refuse (R : z_rr d f N k p) (h8 : g_I d 8 = 0) (a : Nat) : t_X3_refuse d (nI a) = some (0, g_si d 8 (nI (1 + 8 * p + a))) := by
  obtain ⟨-, e3, -⟩ := z_rr_k R
  obtain ⟨T, mm, r1, r2, r3, r4, -⟩ := R
  unfold t_X3_refuse
  try dsimp only
  rw [if_pos h8, r3, t_ai_in (by omega) (by decide), Option.bind_some, e3, z_ftc]
theorem z_fails (h9 : r_I σ 9 = 0) (a p : Nat) : t_X12_fails σ (nI a) (nI p) = some (0, r_si σ 9 (nI (1 + 8 * p + a))) := by
  unfold t_X12_fails
  try dsimp only
  rw [if_pos h9, z_ftc]
theorem z_dd_next {e : Int32} (D : z_dd d e) : ∃ d', t_X3_next d = some d' ∧ z_dd d' e ∧ g_P d' = g_P d := by
  obtain ⟨T, k, r1, r2, r3, r4, r5, r6⟩ := D
  have n23 : ∀ (d : g_S) (k : Nat), g_I d 4 = nI T → g_I d 5 = nI k → k < T → g_I d 8 = e → ∃ d', t_X3_next_23 d = some d' ∧ z_dd d' e ∧ g_P d' = g_P d := fun d k r1 r3 r4 r5 => by
    refine ⟨g_si (g_si d 6 (g_A d 1 k)) 7 (g_A d 2 k), ?_, ⟨T, k, ?_, r2, ?_, r4, ?_, r6⟩, rfl⟩
    · unfold t_X3_next_23
      try dsimp only
      rw [r3, t_ai_in (by omega) (by decide), Option.bind_some, z_si_In (by decide), r3, z_si_A, t_ai_in (by omega) (by decide), Option.bind_some]
    · rw [z_si_In (by decide), z_si_In (by decide)]; exact r1
    · rw [z_si_In (by decide), z_si_In (by decide)]; exact r3
    · rw [z_si_In (by decide), z_si_In (by decide)]; exact r5
  unfold t_X3_next
  try dsimp only
  rw [r3, r1, nI_1]
  by_cases c : T ≤ k + 1
  · rw [if_pos (nI_le c (by omega))]
    exact n23 d k r1 r3 r4 r5
  · rw [if_neg (nI_ge (by omega) (by omega))]
    exact n23 (g_si d 5 (nI (k + 1))) (k + 1) ((z_si_In (by decide)).trans r1) (z_si_I _ _ _) (by omega) ((z_si_In (by decide)).trans r5)
theorem z_dd_num {e : Int32} (D : z_dd d e) (w : g_S) (a b : Int32) : t_X5_readNumber w d a b = some (0, d) := by
  obtain ⟨T, k, -, -, -, -, r5, r6⟩ := D
  unfold t_X5_readNumber
  try dsimp only
  rw [if_neg (by rw [r5]; exact r6)]
theorem z_y_nx (Y : z_y d σ f N k p i) : z_y d (z_nx σ p) f N k p p := by
  obtain ⟨y1, y2, y3, y4, y5, y6, y7⟩ := Y
  have hp := (z_rr_k y5).2.2
  exact ⟨z_rd_nx y1 p, z_nx8 _ _, hp, by rw [← y4, z_S_S _ y3], y5, y6, (z_nxI (by decide)).trans y7⟩
theorem z_y_see (Y : z_y d σ f N k p i) : t_X12_see σ = some (if p < N then nI (z_u f p) else -1, z_nx σ p) := by
  obtain ⟨y1, y2, y3, y4, y5, y6, y7⟩ := Y
  have := z_see y1 y3
  rw [z_nx_eta y2, y4] at this
  exact this
theorem z_y_isW (Y : z_y d σ f N k p i) (j : Nat) {w : List Nat} (hj : z_wds[j]? = some w) {c : Int64} (hc : c = lN (z_fd w)) : t_X12_isWord σ c = some (if z_k1 f N p = 700 + j then 1 else 0, z_nx σ p) := by
  obtain ⟨y1, y2, y3, y4, y5, y6, y7⟩ := Y
  have := z_isW y1 y3 j hj hc
  rw [z_nx_eta y2, y4] at this
  exact this
theorem z_y_pass (Y : z_y d σ f N k p p) {j : Nat} (hj : z_k1 f N p = 700 + j) : t_X12_passWord σ = some (z_nx σ (z_nd f N p)) ∧ z_yb d (z_nx σ (z_nd f N p)) f N k p := by
  obtain ⟨y1, y2, y3, y4, y5, y6, y7⟩ := Y
  have hp : p < N := by
    have := z_k1_end f N p
    by_cases c : p < N
    · exact c
    · have := this.mpr c
      omega
  have hu := z_u_lt f p
  have hk : z_kd f N p = 700 + j := by unfold z_k1 at hj; rwa [if_pos hp] at hj
  have hnd : z_nd f N p = z_E (z_lt (z_u f)) N p := by
    rcases z_kd_cases f N p with ⟨-, h⟩ | ⟨a, b, h⟩ | ⟨-, -, ⟨h0, -, -, h⟩ | ⟨-, h⟩⟩
    · omega
    · unfold z_nd
      rw [if_neg a, if_pos b]
    · omega
    · omega
  have := z_passWord y1 y3
  rw [z_nx_eta y2] at this
  rw [hnd]
  exact ⟨this, z_rd_nx y1 _, by rw [z_nx8, hnd], hp, y5, y6, (z_nxI (by decide)).trans y7⟩
theorem z_yb_next (Y : z_yb d σ f N k p) : ∃ d', t_X3_next d = some d' ∧ z_y d' σ f N (k + 1) (z_S (z_u f) N (z_nd f N p)) (z_nd f N p) ∧ g_P d' = g_P d := by
  obtain ⟨y1, y2, y3, y4, y5, y6⟩ := Y
  obtain ⟨d', a1, a2, a3, a4⟩ := z_next y4 y3
  exact ⟨d', a1, ⟨y1, y2, (z_nd_gt f y3).2, rfl, a2, a3.trans y5, y6⟩, a4⟩
theorem z_y_bad (Y : z_y d σ f N k p i) {σ1 : r_S} (h9 : r_I σ1 9 = 0) (S : z_so σ σ1) {a : Nat} (ha : a ≤ 7) : ∃ d' σ' e, t_X3_refuse d (nI a) = some (0, d') ∧ t_X12_fails σ1 (nI a) (nI p) = some (0, σ') ∧ z_dd d' e ∧ r_I σ' 9 = e ∧ z_so σ σ' ∧ g_P d' = g_P d := by
  obtain ⟨y1, y2, y3, y4, y5, y6, y7⟩ := Y
  have hN := y1.2.2.1
  have hp := (z_rr_k y5).2.2
  exact ⟨_, _, nI (1 + 8 * p + a), z_refuse y5 y6 a, z_fails h9 a p, z_rr_dd y5 (nI_ne0 (by omega) (by omega)), z_rsiI _ _ _, z_so_trans S (z_so_si _ (Or.inr (Or.inl rfl)) _), rfl⟩
theorem z_y_num (Y : z_y d σ f N k p i) {a b : Nat} (ha : a < 2 ^ 31) (hb : b < 2 ^ 31) :
    (∃ v σ', a ≤ v ∧ v ≤ b ∧ v < 100000 ∧ t_X3_isNumber d (nI a) (nI b) = some (1, d) ∧ g_I d 7 = nI v ∧ t_X12_numberHere σ (nI a) (nI b) = some (1, σ') ∧ z_yb d σ' f N k p ∧ r_I σ' 10 = nI v ∧ z_so σ σ') ∨
    (∃ d' σ' e, t_X3_isNumber d (nI a) (nI b) = some (0, d') ∧ t_X12_numberHere σ (nI a) (nI b) = some (0, σ') ∧ z_dd d' e ∧ r_I σ' 9 = e ∧ z_so σ σ' ∧ g_P d' = g_P d) := by
  have es := z_y_see Y
  have Y' := z_y_nx Y
  have Y0 := Y
  obtain ⟨y1, y2, y3, y4, y5, y6, y7⟩ := Y
  have hN := y1.2.2.1
  obtain ⟨k6, k3, hp⟩ := z_rr_k y5
  have kl := z_k1_lt f N p
  have hge := z_E_ge (z_dg (z_u f)) N p
  have hEl := z_E_le (z_dg (z_u f)) hp
  have hv := z_val5 (u := z_u f) (a := p) (m := min (z_E (z_dg (z_u f)) N p - p) 5) (by omega) (fun j hj => (of_decide_eq_true (z_E_in (N := N) (P := z_dg (z_u f)) (i := p) (j := p + j) (by omega) (by omega))).2)
  have eR : t_X12_numberHere σ (nI a) (nI b) = if p < N ∧ z_dg (z_u f) p = true then t_X12_numberHere_34 q_fu (z_nx σ p) (nI a) (nI b) (nI p) 0 else (t_X12_fails (z_nx σ p) 0 (nI p)).bind fun x => some (x.1, x.2) := by
    unfold t_X12_numberHere
    rw [es, Option.bind_some]
    try dsimp only
    rw [z_nx8, z_isDigit y1 hp, Option.bind_some]
    by_cases c : p < N ∧ z_dg (z_u f) p = true
    · rw [if_pos c, if_pos c, if_neg (by decide)]
    · rw [if_neg c, if_neg c, if_pos rfl]
  by_cases c : p < N ∧ z_dg (z_u f) p = true
  · rw [if_pos c] at eR
    have e34 := z_numRL y1 hp ha hb (z_E (z_dg (z_u f)) N p - p) 0 q_fu (by omega) (by show _ < 5000; omega)
    have hk : z_k1 f N p = 601 := by
      unfold z_k1 z_kd
      rw [if_pos c.1, if_pos c.2]
    have hnd : z_nd f N p = z_E (z_dg (z_u f)) N p := by
      unfold z_nd
      rw [if_pos c.2]
    have h7 : g_I d 7 = z_nm f N p := (z_rr_at y5 c.1).2.1
    unfold z_nm at h7
    rw [if_pos c.2] at h7
    by_cases g : z_E (z_dg (z_u f)) N p - p ≤ 5 ∧ a ≤ z_val (z_u f) p (min (z_E (z_dg (z_u f)) N p - p) 5) ∧ z_val (z_u f) p (min (z_E (z_dg (z_u f)) N p - p) 5) ≤ b
    · rw [if_pos g] at e34
      have em : min (z_E (z_dg (z_u f)) N p - p) 5 = z_E (z_dg (z_u f)) N p - p := by omega
      rw [if_pos g.1, ← em] at h7
      refine Or.inl ⟨z_val (z_u f) p (min (z_E (z_dg (z_u f)) N p - p) 5), _, g.2.1, g.2.2, hv, ?_, h7, eR.trans e34, ⟨?_, ?_, c.1, y5, y6, ?_⟩, z_rsiI _ _ _, z_so_trans (z_so_nx σ _) (z_so_si _ (Or.inr (Or.inr rfl)) _)⟩
      · unfold t_X3_isNumber
        try dsimp only
        rw [k6, hk, if_pos (show nI 601 = (601 : Int32) from rfl), h7, if_neg (nI_nlt g.2.1 (by omega)), if_pos (nI_le g.2.2 hb)]
      · exact z_rd_so y1 (z_so_trans (z_so_nx σ _) (z_so_si _ (Or.inr (Or.inr rfl)) _))
      · rw [z_rsiIn (by decide), z_nx8, hnd]
      · rw [z_rsiIn (by decide), z_nxI (by decide)]; exact y7
    · rw [if_neg g] at e34
      have h9 : r_I (r_si (z_nx σ (z_E (z_dg (z_u f)) N p)) 10 (nI (z_val (z_u f) p (min (z_E (z_dg (z_u f)) N p - p) 5)))) 9 = 0 := by
        rw [z_rsiIn (by decide), z_nxI (by decide)]; exact y7
      obtain ⟨d', σ', e, b1, b2, b3, b4, b5, b6⟩ := z_y_bad Y0 h9 (z_so_trans (z_so_nx σ _) (z_so_si _ (Or.inr (Or.inr rfl)) _)) (show 1 ≤ 7 by decide)
      refine Or.inr ⟨d', σ', e, ?_, ?_, b3, b4, b5, b6⟩
      · have e32 : t_X3_isNumber_32 d = some (0, d') := by
          unfold t_X3_isNumber_32
          rw [show (1 : Int32) = nI 1 from rfl, b1, Option.bind_some]
          exact if_pos rfl
        unfold t_X3_isNumber
        try dsimp only
        rw [k6, hk, if_pos (show nI 601 = (601 : Int32) from rfl), h7]
        by_cases g1 : z_E (z_dg (z_u f)) N p - p ≤ 5
        · have em : min (z_E (z_dg (z_u f)) N p - p) 5 = z_E (z_dg (z_u f)) N p - p := by omega
          rw [em] at g hv
          rw [if_pos g1]
          by_cases g2 : a ≤ z_val (z_u f) p (z_E (z_dg (z_u f)) N p - p)
          · rw [if_neg (nI_nlt g2 (by omega)), if_neg (nI_ge (by omega) (by omega)), e32]
          · rw [if_pos (nI_lt (by omega) (by omega)), e32]
        · rw [if_neg g1, if_pos (by rw [Int32.lt_iff_toInt_lt, nI_toInt ha, show (-1 : Int32).toInt = -1 by decide]; omega), e32]
      · rw [eR]
        refine e34.trans ?_
        unfold t_X12_numberHere_117
        rw [show (1 : Int32) = nI 1 from rfl, b2, Option.bind_some]
        exact if_pos rfl
  · rw [if_neg c] at eR
    obtain ⟨d', σ', e, b1, b2, b3, b4, b5, b6⟩ := z_y_bad Y0 (σ1 := z_nx σ p) ((z_nxI (by decide)).trans y7) (z_so_nx σ p) (show 0 ≤ 7 by decide)
    refine Or.inr ⟨d', σ', e, ?_, ?_, b3, b4, b5, b6⟩
    · unfold t_X3_isNumber
      try dsimp only
      have hk : z_k1 f N p ≠ 601 := by
        unfold z_k1
        by_cases cp : p < N
        · rw [if_pos cp]
          have hu := z_u_lt f p
          rcases z_kd_cases f N p with ⟨x, h⟩ | ⟨-, -, h⟩ | ⟨-, -, ⟨h0, -, -, h⟩ | ⟨-, h⟩⟩
          · exact absurd ⟨cp, x⟩ c
          · have := z_wi_lt (z_lw f N p)
            omega
          · omega
          · omega
        · rw [if_neg cp]
          decide
      rw [k6, if_neg (show ¬ nI (z_k1 f N p) = (601 : Int32) from fun e => hk ((nI_eq (b := 601) (by omega) (by decide)).mp e)), show (0 : Int32) = nI 0 from rfl, b1, Option.bind_some]
      rfl
    · rw [eR, show (0 : Int32) = nI 0 from rfl, b2, Option.bind_some]
      rfl
/-- the class's next number -/
theorem z_yb_num (w : g_S) (Y : z_yb d σ f N k p) {a b : Nat} (ha : a < 2 ^ 31) (hb : b < 2 ^ 31) :
    (∃ v d' σ' k' p', a ≤ v ∧ v ≤ b ∧ v < 100000 ∧ t_X5_readNumber w d (nI a) (nI b) = some (nI v, d') ∧ t_X12_numberHere σ (nI a) (nI b) = some (1, σ') ∧ z_yb d' σ' f N k' p' ∧ r_I σ' 10 = nI v ∧ z_so σ σ' ∧ g_P d' = g_P d) ∨
    (∃ d' σ' e, t_X5_readNumber w d (nI a) (nI b) = some (0, d') ∧ t_X12_numberHere σ (nI a) (nI b) = some (0, σ') ∧ z_dd d' e ∧ r_I σ' 9 = e ∧ z_so σ σ' ∧ g_P d' = g_P d) := by
  have h8 := Y.2.2.2.2.1
  obtain ⟨d1, n1, n2, n3⟩ := z_yb_next Y
  have eC : t_X5_readNumber w d (nI a) (nI b) = (t_X3_isNumber d1 (nI a) (nI b)).bind fun x => if x.1 = 0 then some (0, x.2) else some (g_I x.2 7, x.2) := by
    unfold t_X5_readNumber
    try dsimp only
    rw [if_pos h8, n1, Option.bind_some]
  rcases z_y_num n2 ha hb with ⟨v, σ', a1, a2, a3, a4, a5, a6, a7, a8, a9⟩ | ⟨d', σ', e, a1, a2, a3, a4, a5, a6⟩
  · refine Or.inl ⟨v, d1, σ', _, _, a1, a2, a3, ?_, a6, a7, a8, a9, n3⟩
    rw [eC, a4, Option.bind_some, if_neg (show ¬ ((1 : Int32), d1).1 = 0 from (by decide : ¬ (1 : Int32) = 0)), a5]
  · refine Or.inr ⟨d', σ', e, ?_, a2, a3, a4, a5, a6.trans n3⟩
    rw [eC, a1, Option.bind_some, if_pos rfl]
end SY

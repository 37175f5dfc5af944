/-! ===== L3: feed, end, force, seed, note, count ===== -/
theorem z_by1 (v sh : Int32) : -128 ≤ (y_by v sh).toInt ∧ (y_by v sh).toInt ≤ 127 := by
  have e : y_by v sh = ((v >>> (sh &&& 31)).toInt8.toInt32).toInt8.toInt32 := rfl
  rw [e, Int8.toInt_toInt32]
  have h1 := Int8.toInt_lt ((v >>> (sh &&& 31)).toInt8.toInt32).toInt8
  have h2 := Int8.le_toInt ((v >>> (sh &&& 31)).toInt8.toInt32).toInt8
  omega
def z_bA (f : Nat → Int32) : Prop := ∀ i, -128 ≤ (f i).toInt ∧ (f i).toInt ≤ 127
theorem z_bA_u {f : Nat → Int32} (H : z_bA f) (n : Nat) (v sh : Int32) : z_bA (upd f n (y_by v sh)) := fun i => by
  by_cases e : i = n
  · rw [e, pk_us]; exact z_by1 v sh
  · rw [pk_un e]; exact H i
theorem z_bA_4 {f : Nat → Int32} (H : z_bA f) (n : Nat) (v : Int32) : z_bA (y_four f n v) := z_bA_u (z_bA_u (z_bA_u (z_bA_u H _ _ _) _ _ _) _ _ _) _ _ _
theorem z_bA_f {f : Nat → Int32} (H : z_bA f) (n : Nat) (a b c d e : Int32) : z_bA (y_feed f n a b c d e) := z_bA_4 (z_bA_4 (z_bA_4 (z_bA_4 (z_bA_4 H _ _) _ _) _ _) _ _) _ _
section PL
variable {b z z' c : Nat} {κ κ' : Nat → g_S} {σ σ' : r_S} {h h' : q_H}
/-- what holds once more, with another TAPE, another GAME now, another past -/
theorem z_J_up (J : z_J b z c κ σ h) (hz : z ≤ z') (F : ∀ a, b + 175 ≤ a → a < z → h' a = h a) (T : z_JT (κ' 1) (r_A σ' 0) (r_I σ' 1)) (k0 : κ' 0 = κ 0) (k5 : κ' 5 = κ 5) (r2 : r_I σ' 2 = r_I σ 2) (r3 : r_A σ' 3 = r_A σ 3) (r5 : r_A σ' 5 = r_A σ 5) (r6 : r_A σ' 6 = r_A σ 6)
    (G : z_Gm b z' c (κ' 6) (κ' 7) (r_A σ' 20) (r_I σ' 21) (r_I σ' 22) h') (k9 : κ' 9 = κ 9) (r33 : r_A σ' 33 = r_A σ 33) (r34 : r_A σ' 34 = r_A σ 34) (r35 : r_A σ' 35 = r_A σ 35) (r36 : r_A σ' 36 = r_A σ 36) (P : z_JP (κ' 8) (fun i => κ' (20 + i)) (r_A σ' 20) (r_A σ' 25) (r_I σ' 26)) (r23 : r_A σ' 23 = r_A σ 23) : z_J b z' c κ' σ' h' := by
  obtain ⟨j1, j2, j3, j4, j5, j6, j7⟩ := J
  refine ⟨by omega, T, ?_, G, ?_, P, by rw [r23]; exact j7⟩
  · rw [k0, k5]; exact z_JR_fr j3 hz F r2 r3 r5 r6
  · rw [k9]; exact z_JI_fr j5 hz (Nat.le_refl _) F r33 r34 r35 r36
theorem z_Fh (F : ∀ a, b + 152 ≤ a → h' a = h a) (σ : r_S) : ∀ a, b + 175 ≤ a → a < z → r_H (b + 152) σ h' a = h a := fun a h1 _ => (z_H_o (by omega)).trans (F a (by omega))
end PL
section PM
variable {b : Nat}
/-- feed and end: another TAPE -/
theorem z_tapeQ {z c : Nat} {κ : Nat → g_S} {σ σ' : r_S} {h h1 : q_H} {d' : g_S} {n' : Nat} (W : z_W b κ h) (R : z_ref b σ h) (J : z_J b z c κ σ h) (G : g9 (b + 1) d' h1) (F : ∀ a, ¬ f9 (b + 1) a → h1 a = h a) (T : y_tape d' σ' n') (hb : z_bA (r_A σ' 0)) (hA : ∀ k, k ≠ 0 → r_A σ' k = r_A σ k) (hI : ∀ k, k ≠ 1 → r_I σ' k = r_I σ k) : (∃ fs, h1 (b + 152) = .inr (12, fs)) ∧ r_H (b + 152) σ h1 = h1 ∧ z_I b z (r_H (b + 152) σ' h1) := by
  have W1 := W_1 W G F
  have R1 : z_ref b σ h1 := z_ref_q R (fun a h1 _ => F a (by unfold f9; omega))
  have F1 := z_Fh (z := z) (b := b) (h := h) (h' := h1) (fun a ha => F a (by unfold f9; omega)) σ'
  refine ⟨z_fs R1, z_rH R1, c, va_up κ 1 d', σ', z_W_H W1 σ', z_ref_H _ _ _, z_J_up J (Nat.le_refl _) F1 ?_ (va_up_of (by decide)) (va_up_of (by decide)) (hI 2 (by decide)) (hA 3 (by decide)) (hA 5 (by decide)) (hA 6 (by decide)) ?_ (va_up_of (by decide)) (hA 33 (by decide)) (hA 34 (by decide)) (hA 35 (by decide)) (hA 36 (by decide)) ?_ (hA 23 (by decide))⟩
  · rw [va_up_at]
    exact ⟨n', T.1, T.2.1, T.2.2.1, T.2.2.2, hb⟩
  · rw [va_up_of (by decide), va_up_of (by decide), hA 20 (by decide), hI 21 (by decide), hI 22 (by decide)]
    exact z_Gm_fr J.2.2.2.1 (Nat.le_refl _) (Nat.le_refl _) F1
  · rw [va_up_of (by decide), hA 20 (by decide), hA 25 (by decide), hI 26 (by decide)]
    exact z_JP_fr J.2.2.2.2.2.1 (fun i _ => va_up_of (by omega)) (fun _ _ => rfl) (fun _ _ => rfl) rfl
theorem s_0 : q_st0 b (b + 152) (z_I b) := by
  intro z h a1 a2 a3 a4 a5 I
  obtain ⟨c, κ, σ, W, R, J⟩ := I
  obtain ⟨n, t1, t2, t3, t4, t5⟩ := J.2.1
  have T : y_tape (κ 1) σ n := ⟨t1, t2, t3, t4⟩
  obtain ⟨r, d', s', n', e1, e2, e3, e4⟩ := y_feed_ok T (κ 0) a1 a2 a3 a4 a5
  obtain ⟨⟨r', h1⟩, f1, f2, f3, f4⟩ := l_X11_feed h b (b + 1) (κ 0) (κ 1) a1 a2 a3 a4 a5 e1 (Ww0 W) (Ww1 W) (Wp0_0 W) (fun a h1 h2 => by unfold f11 at h1; unfold f9 at h2; omega)
  have f2 : r' = r := f2
  subst f2
  have f3 : g9 (b + 1) d' h1 := f3
  have f4 : ∀ a, ¬ f9 (b + 1) a → h1 a = h a := f4
  have hb : z_bA (r_A s' 0) := by
    rw [r_feed t3 t1] at e2
    split at e2
    · injection e2 with e2
      injection e2 with e5 e6
      rw [← e6, show r_A (r_si (r_sa σ 0 (y_feed (r_A σ 0) n a1 a2 a3 a4 a5)) 1 (nI (n + 20))) 0 = y_feed (r_A σ 0) n a1 a2 a3 a4 a5 from z_rA _ _ _]
      exact z_bA_f t5 _ _ _ _ _ _
    · injection e2 with e2
      injection e2 with e5 e6
      rw [← e6]
      exact t5
  obtain ⟨k1, k2, k3⟩ := z_tapeQ W R J f3 f4 e3 hb (fun k hk => by
    rcases e4 with rfl | ⟨f, v, rfl⟩
    · rfl
    · exact z_rAn hk) (fun k hk => by
    rcases e4 with rfl | ⟨f, v, rfl⟩
    · rfl
    · exact z_rsiIn hk)
  have g1 := l_X12_feed (b + 152) h1 σ a1 a2 a3 a4 a5 e2
  rw [k2] at g1
  exact ⟨_, h1, _, f1, k1, g1, k3⟩
theorem s_1 : q_st1 b (b + 152) (z_I b) := by
  intro z h a1 I
  obtain ⟨c, κ, σ, W, R, J⟩ := I
  obtain ⟨n, t1, t2, t3, t4, t5⟩ := J.2.1
  have T : y_tape (κ 1) σ n := ⟨t1, t2, t3, t4⟩
  obtain ⟨r, d', s', n', e1, e2, e3, e4⟩ := y_end_ok T (κ 0) a1
  obtain ⟨⟨r', h1⟩, f1, f2, f3, f4⟩ := l_X11_end h b (b + 1) (κ 0) (κ 1) a1 e1 (Ww0 W) (Ww1 W) (Wp0_0 W) (fun a h1 h2 => by unfold f11 at h1; unfold f9 at h2; omega)
  have f2 : r' = r := f2
  subst f2
  have f3 : g9 (b + 1) d' h1 := f3
  have f4 : ∀ a, ¬ f9 (b + 1) a → h1 a = h a := f4
  have hb : z_bA (r_A s' 0) := by
    rcases e4 with rfl | ⟨v, rfl⟩
    · exact t5
    · exact t5
  obtain ⟨k1, k2, k3⟩ := z_tapeQ W R J f3 f4 e3 hb (fun k hk => by
    rcases e4 with rfl | ⟨v, rfl⟩
    · rfl
    · rfl) (fun k hk => by
    rcases e4 with rfl | ⟨v, rfl⟩
    · rfl
    · exact z_rsiIn hk)
  have g1 := l_X12_end (b + 152) h1 σ a1 e2
  rw [k2] at g1
  exact ⟨_, h1, _, f1, k1, g1, k3⟩
/-- another GAME's head now, all else as it was -/
theorem z_gameQ {z c : Nat} {κ : Nat → g_S} {σ σ' : r_S} {h h1 : q_H} {l' : g_S} (W : z_W b κ h) (R : z_ref b σ h) (J : z_J b z c κ σ h) (G : g0 (b + 13) l' h1) (e1 : g_P l' 1 = g_P (κ 6) 1) (F : ∀ a, ¬ f0 (b + 13) a → h1 a = h a) (hA : ∀ k, k ≠ 20 → r_A σ' k = r_A σ k) (hI : ∀ k, k ≠ 21 → k ≠ 22 → r_I σ' k = r_I σ k) (h20 : ∀ j, j < 85 ∨ 106 ≤ j → r_A σ' 20 j = r_A σ 20 j) (Gm : z_Gm b z c l' (κ 7) (r_A σ' 20) (r_I σ' 21) (r_I σ' 22) h) : (∃ fs, h1 (b + 152) = .inr (12, fs)) ∧ r_H (b + 152) σ h1 = h1 ∧ z_I b z (r_H (b + 152) σ' h1) := by
  have W1 := W_6 W G e1 F
  have R1 : z_ref b σ h1 := z_ref_q R (fun a h1 _ => F a (by unfold f0; omega))
  have F1 := z_Fh (z := z) (b := b) (h := h) (h' := h1) (fun a ha => F a (by unfold f0; omega)) σ'
  refine ⟨z_fs R1, z_rH R1, c, va_up κ 6 l', σ', z_W_H W1 σ', z_ref_H _ _ _, z_J_up J (Nat.le_refl _) F1 ?_ (va_up_of (by decide)) (va_up_of (by decide)) (hI 2 (by decide) (by decide)) (hA 3 (by decide)) (hA 5 (by decide)) (hA 6 (by decide)) ?_ (va_up_of (by decide)) (hA 33 (by decide)) (hA 34 (by decide)) (hA 35 (by decide)) (hA 36 (by decide)) ?_ (hA 23 (by decide))⟩
  · rw [va_up_of (by decide), hA 0 (by decide), hI 1 (by decide) (by decide)]
    exact J.2.1
  · rw [va_up_at, va_up_of (by decide)]
    exact z_Gm_fr Gm (Nat.le_refl _) (Nat.le_refl _) F1
  · rw [va_up_of (by decide), hA 25 (by decide), hI 26 (by decide) (by decide)]
    obtain ⟨u, x, u1, u2, u3, u4, u5, u6⟩ := J.2.2.2.2.2.1
    refine ⟨u, x, u1, u2, u3, u4, u5, fun h0 => ?_⟩
    obtain ⟨n, y1, y2⟩ := u6 h0
    have hn := y1.1
    refine ⟨n, z_Rx (fun j hj => h20 j (by omega)) y1, fun i hi => ?_⟩
    have e : ∀ j, 10 ≤ j → j < 52 → z_ws (r_A σ' 20) (r_A σ 25) i j = z_ws (r_A σ 20) (r_A σ 25) i j := fun j h1 h2 => by
      unfold z_ws
      rw [if_pos ⟨h1, h2⟩, if_pos ⟨h1, h2⟩]
    obtain ⟨z1, z2, z3⟩ := y2 i hi
    refine ⟨?_, z_Vx hn (fun j h1 h2 => e j (by omega) h2) z2, by rw [e 10 (by omega) (by omega)]; exact z3⟩
    show z_t (va_up κ 6 l' (20 + (x + 20 - u + i) % 20)) _ n
    rw [va_up_of (by omega)]
    exact z_tx hn e z1
theorem s_4 : q_st4 b (b + 152) (z_I b) := by
  intro z h a1 I
  obtain ⟨c, κ, σ, W, R, J⟩ := I
  obtain ⟨r1, r2, r3, r4, r5⟩ := J.2.2.1
  obtain ⟨j1, j2, j3, j4, j5, j6⟩ := J.2.2.2.1
  have main : ∃ r l' σ', t_X11_force (κ 0) (κ 6) a1 = some (r, l') ∧ t_X12_force σ a1 = some (r, σ') ∧ ((l' = κ 6 ∧ σ' = σ) ∨ (l' = g_si (κ 6) 2 a1 ∧ σ' = r_si σ 21 a1 ∧ (a1 = -1 ∨ ∃ i, i < c ∧ a1 = nI i))) := by
    unfold t_X11_force t_X12_force t_X12_isRule t_X12_force_16
    try dsimp only
    rw [r2, r3, j1]
    by_cases c1 : a1 = -1
    · rw [if_pos c1, if_neg (by rw [c1]; decide), if_pos (by rw [c1, Int32.lt_iff_toInt_lt, nI_toInt (by omega), show (-1 : Int32).toInt = -1 by decide]; omega)]
      exact ⟨_, _, _, rfl, rfl, Or.inr ⟨rfl, rfl, Or.inl c1⟩⟩
    · rw [if_neg c1]
      by_cases c2 : a1 < 0
      · rw [if_pos c2, Option.bind_some, if_pos rfl, if_pos (by
          rw [Int32.lt_iff_toInt_lt, show (-1 : Int32).toInt = -1 by decide]
          rw [Int32.lt_iff_toInt_lt, show (0 : Int32).toInt = 0 by decide] at c2
          have : a1.toInt ≠ -1 := fun e => c1 (Int32.toInt_inj.mp (by rw [e]; decide))
          omega)]
        exact ⟨_, _, _, rfl, rfl, Or.inl ⟨rfl, rfl⟩⟩
      · obtain ⟨k, hk, rfl⟩ := nI_of c2
        rw [if_neg c2, if_neg (by rw [Int32.lt_iff_toInt_lt, nI_toInt hk, show (-1 : Int32).toInt = -1 by decide]; omega)]
        by_cases c3 : k < c
        · rw [if_pos (nI_lt c3 (by omega)), if_neg (nI_ge c3 (by omega)), Option.bind_some, if_neg (by decide)]
          exact ⟨_, _, _, rfl, rfl, Or.inr ⟨rfl, rfl, Or.inr ⟨k, c3, rfl⟩⟩⟩
        · rw [if_neg (nI_nlt (by omega) hk), if_pos (nI_le (by omega) hk), Option.bind_some, if_pos rfl]
          exact ⟨_, _, _, rfl, rfl, Or.inl ⟨rfl, rfl⟩⟩
  obtain ⟨r, l', σ', e1, e2, e3⟩ := main
  obtain ⟨⟨r', h1⟩, f1, f2, f3, f4, f5⟩ := l_X11_force h b (b + 13) (κ 0) (κ 6) a1 e1 (Ww0 W) (Ww6 W) (Wp0_5 W) (fun a h1 h2 => by unfold f11 at h1; unfold f0 at h2; omega)
  have f2 : r' = r := f2
  subst f2
  have f3 : g0 (b + 13) l' h1 := f3
  have f5 : ∀ a, ¬ f0 (b + 13) a → h1 a = h a := f5
  obtain ⟨k1, k2, k3⟩ := z_gameQ (σ' := σ') W R J f3 (by rw [f4]) f5 (fun k hk => by
      rcases e3 with ⟨-, rfl⟩ | ⟨-, rfl, -⟩
      · rfl
      · rfl) (fun k hk _ => by
      rcases e3 with ⟨-, rfl⟩ | ⟨-, rfl, -⟩
      · rfl
      · exact z_rsiIn hk) (fun j _ => by
      rcases e3 with ⟨-, rfl⟩ | ⟨-, rfl, -⟩
      · rfl
      · rfl) (by
      rcases e3 with ⟨rfl, rfl⟩ | ⟨rfl, rfl, ha⟩
      · exact J.2.2.2.1
      · refine ⟨by rw [z_si_I, z_rsiI], by rw [z_si_In (by decide), z_rsiIn (by decide)]; exact j2, by rw [z_rsiIn (by decide)]; exact j3, by rw [z_rsiI]; exact ha, ?_, j6⟩
        obtain ⟨k, n1, n2, n3, n4⟩ := j5
        exact ⟨k, n1, (z_si_In (by decide)).trans n2, n3, n4⟩)
  have g1 := l_X12_force (b + 152) h1 σ a1 e2
  rw [k2] at g1
  exact ⟨_, h1, _, f1, k1, g1, k3⟩
theorem s_31 : q_st31 b (b + 152) (z_I b) := by
  intro z h a1 I
  obtain ⟨c, κ, σ, W, R, J⟩ := I
  obtain ⟨j1, j2, j3, j4, j5, j6⟩ := J.2.2.2.1
  have main : ∃ r l' σ', t_X11_seed (κ 0) (κ 6) a1 = some (r, l') ∧ t_X12_seed σ a1 = some (r, σ') ∧ ((l' = κ 6 ∧ σ' = σ) ∨ (l' = g_si (κ 6) 3 a1 ∧ σ' = r_si σ 22 a1 ∧ ¬ a1 < 0)) := by
    unfold t_X11_seed t_X12_seed
    try dsimp only
    rw [j2]
    by_cases c1 : 0 ≤ a1
    · rw [if_pos c1, if_pos c1]
      exact ⟨_, _, _, rfl, rfl, Or.inr ⟨rfl, rfl, Int32.not_lt.mpr c1⟩⟩
    · rw [if_neg c1, if_neg c1]
      exact ⟨_, _, _, rfl, rfl, Or.inl ⟨rfl, rfl⟩⟩
  obtain ⟨r, l', σ', e1, e2, e3⟩ := main
  obtain ⟨⟨r', h1⟩, f1, f2, f3, f4, f5⟩ := l_X11_seed h b (b + 13) (κ 0) (κ 6) a1 e1 (Ww0 W) (Ww6 W) (Wp0_5 W) (fun a h1 h2 => by unfold f11 at h1; unfold f0 at h2; omega)
  have f2 : r' = r := f2
  subst f2
  have f3 : g0 (b + 13) l' h1 := f3
  have f5 : ∀ a, ¬ f0 (b + 13) a → h1 a = h a := f5
  obtain ⟨k1, k2, k3⟩ := z_gameQ (σ' := σ') W R J f3 (by rw [f4]) f5 (fun k hk => by
      rcases e3 with ⟨-, rfl⟩ | ⟨-, rfl, -⟩
      · rfl
      · rfl) (fun k _ hk => by
      rcases e3 with ⟨-, rfl⟩ | ⟨-, rfl, -⟩
      · rfl
      · exact z_rsiIn hk) (fun j _ => by
      rcases e3 with ⟨-, rfl⟩ | ⟨-, rfl, -⟩
      · rfl
      · rfl) (by
      rcases e3 with ⟨rfl, rfl⟩ | ⟨rfl, rfl, ha⟩
      · exact J.2.2.2.1
      · refine ⟨by rw [z_si_In (by decide), z_rsiIn (by decide)]; exact j1, by rw [z_si_I, z_rsiI], by rw [z_rsiI]; exact ha, by rw [z_rsiIn (by decide)]; exact j4, ?_, j6⟩
        obtain ⟨k, n1, n2, n3, n4⟩ := j5
        exact ⟨k, n1, (z_si_In (by decide)).trans n2, n3, n4⟩)
  have g1 := l_X12_seed (b + 152) h1 σ a1 e2
  rw [k2] at g1
  exact ⟨_, h1, _, f1, k1, g1, k3⟩
end PM

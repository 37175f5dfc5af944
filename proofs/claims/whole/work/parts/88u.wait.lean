/-! ===== L3: what waits in a TEST ===== -/
def z_wc (k : Nat) : Nat := if k = 1 then 91 else z_cv k
def z_dp (w : Nat → Nat) : Nat → Nat
  | 0 => 0
  | n + 1 => z_dp w n + (if w n = 1 ∨ w n = 4 then 1 else 0)
def z_d1 (w : Nat → Nat) : Nat → Nat
  | 0 => 0
  | n + 1 => z_d1 w n + (if w n = 1 then 1 else 0)
def z_bn (w : Nat → Nat) : Nat → Nat
  | 0 => 0
  | n + 1 => z_bn w n + (if w n = 2 ∨ w n = 3 then 1 else 0)
def z_se (w : Nat → Nat) (c : Nat) : Nat → Nat
  | 0 => 0
  | n + 1 => if c ≤ w n then z_se w c n else n + 1
def z_wv (w : Nat → Nat) (n : Nat) : Prop := (∀ i, i < n → 1 ≤ w i ∧ w i ≤ 4) ∧ (∀ i, i < n → w i = 2 ∨ w i = 3 → i = 0 ∨ w (i - 1) < w i)
def z_tp (w : Nat → Nat) (n : Nat) : Nat := if n = 0 then 0 else if w (n - 1) = 1 then 0 else if w (n - 1) = 2 then 1 else 2
theorem z_tp_le (w : Nat → Nat) (n : Nat) : z_tp w n ≤ 2 := by
  unfold z_tp
  repeat' split
  all_goals decide
theorem z_d1_le (w : Nat → Nat) : ∀ n, z_d1 w n ≤ z_dp w n
  | 0 => Nat.le_refl _
  | n + 1 => by
    have := z_d1_le w n
    unfold z_d1 z_dp
    by_cases h : w n = 1
    · rw [if_pos h, if_pos (Or.inl h)]; omega
    · rw [if_neg h]; omega
theorem z_wv_le {w : Nat → Nat} {n m : Nat} (h : m ≤ n) (H : z_wv w n) : z_wv w m := ⟨fun i hi => H.1 i (by omega), fun i hi => H.2 i (by omega)⟩
theorem z_wb {w : Nat → Nat} : ∀ n, z_wv w n → n ≤ z_dp w n + 2 * z_d1 w n + z_tp w n
  | 0, _ => Nat.zero_le _
  | n + 1, H => by
    have ih := z_wb n (z_wv_le (Nat.le_succ n) H)
    have h2 := z_tp_le w n
    obtain ⟨a1, a2⟩ := H.1 n (Nat.lt_succ_self n)
    have e : z_tp w (n + 1) = if w n = 1 then 0 else if w n = 2 then 1 else 2 := by
      unfold z_tp
      rw [if_neg (Nat.succ_ne_zero n)]
      rfl
    rw [e]
    unfold z_dp z_d1
    by_cases c1 : w n = 1
    · rw [if_pos (Or.inl c1), if_pos c1, if_pos c1]; omega
    · by_cases c4 : w n = 4
      · rw [if_pos (Or.inr c4), if_neg c1, if_neg c1, if_neg (by omega)]; omega
      · have hb := H.2 n (Nat.lt_succ_self n) (by omega)
        have ht : z_tp w n = 0 ∨ (z_tp w n ≤ 1 ∧ w n = 3) := by
          unfold z_tp
          rcases hb with rfl | hb
          · exact Or.inl rfl
          · by_cases n0 : n = 0
            · rw [if_pos n0]; exact Or.inl rfl
            · have := (H.1 (n - 1) (by omega)).1
              rw [if_neg n0]
              by_cases d1 : w (n - 1) = 1
              · rw [if_pos d1]; exact Or.inl rfl
              · rw [if_neg d1]
                have d2 : w (n - 1) = 2 := by omega
                rw [if_pos d2]
                exact Or.inr ⟨Nat.le_refl _, by omega⟩
        rw [if_neg (by omega), if_neg c1, if_neg c1]
        by_cases c2 : w n = 2
        · rw [if_pos c2]; omega
        · rw [if_neg c2]; omega
theorem z_w32 {w : Nat → Nat} {n : Nat} (H : z_wv w n) (h : z_dp w n ≤ 10) : n ≤ 32 := by
  have a := z_wb n H
  have b := z_d1_le w n
  have c := z_tp_le w n
  omega
theorem z_se_le (w : Nat → Nat) (c : Nat) : ∀ n, z_se w c n ≤ n
  | 0 => Nat.le_refl _
  | n + 1 => by
    have := z_se_le w c n
    unfold z_se
    split
    · omega
    · omega
theorem z_se_top (w : Nat → Nat) (c : Nat) : ∀ n, z_se w c n = 0 ∨ w (z_se w c n - 1) < c
  | 0 => Or.inl rfl
  | n + 1 => by
    have := z_se_top w c n
    unfold z_se
    split
    · exact this
    · next h => exact Or.inr (by rw [Nat.add_sub_cancel]; omega)
theorem z_dp_le {w : Nat → Nat} {m : Nat} : ∀ n, m ≤ n → z_dp w m ≤ z_dp w n
  | 0, h => by
    have : m = 0 := by omega
    rw [this]; exact Nat.le_refl _
  | n + 1, h => by
    by_cases e : m = n + 1
    · rw [e]; exact Nat.le_refl _
    · have := z_dp_le (w := w) n (show m ≤ n by omega)
      rw [show z_dp w (n + 1) = z_dp w n + (if w n = 1 ∨ w n = 4 then 1 else 0) from rfl]
      omega
theorem z_dp_ext {w w' : Nat → Nat} : ∀ n, (∀ i, i < n → w' i = w i) → z_dp w' n = z_dp w n
  | 0, _ => rfl
  | n + 1, h => by
    rw [z_dp, z_dp, z_dp_ext n (fun i hi => h i (by omega)), h n (by omega)]
theorem z_bn_ext {w w' : Nat → Nat} : ∀ n, (∀ i, i < n → w' i = w i) → z_bn w' n = z_bn w n
  | 0, _ => rfl
  | n + 1, h => by
    rw [z_bn, z_bn, z_bn_ext n (fun i hi => h i (by omega)), h n (by omega)]
theorem z_un_lt {w : Nat → Nat} {n v i : Nat} (h : i < n) : z_un w n v i = w i := if_neg (by omega)
theorem z_un_at (w : Nat → Nat) (n v : Nat) : z_un w n v n = v := if_pos rfl
/-- a sign that comes to wait -/
theorem z_wv_put {w : Nat → Nat} {n v : Nat} (H : z_wv w n) (h1 : 1 ≤ v) (h4 : v ≤ 4) (h : v = 2 ∨ v = 3 → n = 0 ∨ w (n - 1) < v) : z_wv (z_un w n v) (n + 1) := by
  refine ⟨fun i hi => ?_, fun i hi hv => ?_⟩
  · by_cases e : i = n
    · rw [e, z_un_at]; exact ⟨h1, h4⟩
    · rw [z_un_lt (by omega)]; exact H.1 i (by omega)
  · by_cases e : i = n
    · rw [e, z_un_at] at hv ⊢
      rcases h hv with h | h
      · exact Or.inl h
      · by_cases n0 : n = 0
        · exact Or.inl n0
        · rw [z_un_lt (by omega)]
          exact Or.inr h
    · rw [z_un_lt (by omega)] at hv ⊢
      rw [z_un_lt (by omega)]
      exact H.2 i (by omega) hv
/-! the two sides -/
def z_w1 (j : g_S) (w : Nat → Nat) (n : Nat) : Prop := g_I j 6 = nI n ∧ (∀ i, i < n → g_A j 5 i = nI (w i)) ∧ g_I j 7 = nI (z_dp w n)
def z_w2 (σ : r_S) (w : Nat → Nat) (n : Nat) : Prop := r_I σ 16 = nI n ∧ (∀ i, i < n → r_A σ 15 i = nI (z_wc (w i))) ∧ r_I σ 13 = nI (z_dp w n)
def z_f3 (r : Nat) (σ σ' : r_S) : Prop := (∀ k, k ≠ 3 → k ≠ 4 → k ≠ 15 → r_A σ' k = r_A σ k) ∧ (∀ i, i < 400 * r ∨ 400 * r + 400 ≤ i → r_A σ' 3 i = r_A σ 3 i) ∧ (∀ i, i ≠ r → r_A σ' 4 i = r_A σ 4 i) ∧ (∀ k, k ≠ 8 → k ≠ 9 → k ≠ 10 → k ≠ 12 → k ≠ 13 → k ≠ 16 → r_I σ' k = r_I σ k) ∧ r_L σ' = r_L σ ∧ r_D σ' = r_D σ
def z_f4 (j j' : g_S) : Prop := (∀ k, k ≠ 2 → k ≠ 6 → k ≠ 7 → k ≠ 8 → g_I j' k = g_I j k) ∧ (∀ k, k ≠ 1 → k ≠ 5 → g_A j' k = g_A j k) ∧ g_P j' = g_P j
theorem z_f3_1 {r : Nat} {σ σ' : r_S} (A : z_f1 r σ σ') : z_f3 r σ σ' := ⟨fun k h1 h2 _ => A.1 k h1 h2, A.2.1, A.2.2.1, fun k h1 h2 h3 h4 _ _ => A.2.2.2.1 k h1 h2 h3 h4, A.2.2.2.2⟩
theorem z_f4_2 {j j' : g_S} (A : z_f2 j j') : z_f4 j j' := ⟨fun k h1 _ _ h2 => A.1 k h1 h2, fun k h _ => A.2.1 k h, A.2.2⟩
theorem z_f3_trans {r : Nat} {σ σ1 σ2 : r_S} (A : z_f3 r σ σ1) (B : z_f3 r σ1 σ2) : z_f3 r σ σ2 := ⟨fun k h1 h2 h3 => (B.1 k h1 h2 h3).trans (A.1 k h1 h2 h3), fun i h => (B.2.1 i h).trans (A.2.1 i h), fun i h => (B.2.2.1 i h).trans (A.2.2.1 i h), fun k h1 h2 h3 h4 h5 h6 => (B.2.2.2.1 k h1 h2 h3 h4 h5 h6).trans (A.2.2.2.1 k h1 h2 h3 h4 h5 h6), B.2.2.2.2.1.trans A.2.2.2.2.1, B.2.2.2.2.2.trans A.2.2.2.2.2⟩
theorem z_f4_trans {j j1 j2 : g_S} (A : z_f4 j j1) (B : z_f4 j1 j2) : z_f4 j j2 := ⟨fun k h1 h2 h3 h4 => (B.1 k h1 h2 h3 h4).trans (A.1 k h1 h2 h3 h4), fun k h h' => (B.2.1 k h h').trans (A.2.1 k h h'), B.2.2.trans A.2.2⟩
theorem z_f3_refl (r : Nat) (σ : r_S) : z_f3 r σ σ := z_f3_1 (z_f1_refl r σ)
theorem z_f4_refl (j : g_S) : z_f4 j j := z_f4_2 (z_f2_refl j)
theorem z_f3_si {r : Nat} (σ : r_S) {k : Nat} (h : k = 8 ∨ k = 9 ∨ k = 10 ∨ k = 12 ∨ k = 13 ∨ k = 16) (v : Int32) : z_f3 r σ (r_si σ k v) := ⟨fun _ _ _ _ => rfl, fun _ _ => rfl, fun _ _ => rfl, fun q h1 h2 h3 h4 h5 h6 => z_rsiIn (by omega), rfl, rfl⟩
theorem z_f4_si (j : g_S) {k : Nat} (h : k = 2 ∨ k = 6 ∨ k = 7 ∨ k = 8) (v : Int32) : z_f4 j (g_si j k v) := ⟨fun q h1 h2 h3 h4 => z_si_In (by omega), fun _ _ _ => rfl, rfl⟩
theorem z_f3_15 {r : Nat} (σ : r_S) (f : Nat → Int32) : z_f3 r σ (r_sa σ 15 f) := ⟨fun k _ _ h => z_rAn h, fun i _ => by rw [z_rAn (by decide)], fun i _ => by rw [z_rAn (by decide)], fun _ _ _ _ _ _ _ => rfl, rfl, rfl⟩
theorem z_f4_5 (j : g_S) (f : Nat → Int32) : z_f4 j (g_sa j 5 f) := ⟨fun _ _ _ _ _ => rfl, fun k _ h => z_sa_of h, rfl⟩
theorem z_w1_f2 {j j' : g_S} {w : Nat → Nat} {n : Nat} (H : z_w1 j w n) (F : z_f2 j j') : z_w1 j' w n := ⟨(F.1 6 (by decide) (by decide)).trans H.1, fun i hi => by rw [F.2.1 5 (by decide)]; exact H.2.1 i hi, (F.1 7 (by decide) (by decide)).trans H.2.2⟩
theorem z_w2_f1 {σ σ' : r_S} {r : Nat} {w : Nat → Nat} {n : Nat} (H : z_w2 σ w n) (F : z_f1 r σ σ') : z_w2 σ' w n := ⟨(F.2.2.2.1 16 (by decide) (by decide) (by decide) (by decide)).trans H.1, fun i hi => by rw [F.1 15 (by decide) (by decide)]; exact H.2.1 i hi, (F.2.2.2.1 13 (by decide) (by decide) (by decide) (by decide)).trans H.2.2⟩
theorem z_y_f3 {f : Nat → Int32} {N r : Nat} {d : g_S} {σ σ' : r_S} {k p i : Nat} (Y : z_y d σ f N k p i) (F : z_f3 r σ σ') (h8 : r_I σ' 8 = r_I σ 8) (h9 : r_I σ' 9 = r_I σ 9) : z_y d σ' f N k p i := by
  obtain ⟨y1, y2, y3, y4, y5, y6, y7⟩ := Y
  exact ⟨⟨(F.1 0 (by decide) (by decide) (by decide)).trans y1.1, (F.2.2.2.1 1 (by decide) (by decide) (by decide) (by decide) (by decide) (by decide)).trans y1.2.1, y1.2.2⟩, h8.trans y2, y3, y4, y5, y6, h9.trans y7⟩
theorem z_cj_w {j j' : g_S} {σ σ' : r_S} {r c m : Nat} {K V : Nat → Nat} (C : z_cj j σ r c m K V) (a2 : g_I j' 2 = g_I j 2) (a8 : g_I j' 8 = g_I j 8) (a1 : g_A j' 1 = g_A j 1) (b11 : r_I σ' 11 = r_I σ 11) (b12 : r_I σ' 12 = r_I σ 12) (b3 : r_A σ' 3 = r_A σ 3) (b4 : r_A σ' 4 = r_A σ 4) : z_cj j' σ' r c m K V := by
  obtain ⟨c1, c2, c3, c4, c5, c6, c7, c8, c9⟩ := C
  exact ⟨c1, b11.trans c2, c3, a2.trans c4, by rw [b4]; exact c5, c6, a8.trans c7, b12.trans c8, fun i hi => by rw [a1, b3]; exact c9 i hi⟩

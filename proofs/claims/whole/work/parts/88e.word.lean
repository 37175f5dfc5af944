/-! ===== L3: WORDS ===== -/
def z_ls (u : Nat → Nat) : Nat → Nat → List Nat
  | _, 0 => []
  | a, m + 1 => u a :: z_ls u (a + 1) m
def z_wds : List (List Nat) := [[112, 117, 108, 108, 101, 114], [115, 105, 100, 101], [115, 116, 114, 111, 110, 103], [119, 105, 110, 100], [98, 111, 111, 116, 115], [112, 108, 97, 99, 101], [109, 97, 116, 101, 115], [114, 105, 98, 98, 111, 110], [108, 105, 110, 101], [119, 111, 114, 107, 101, 100], [104, 101, 97, 118, 101], [114, 111, 112, 101], [112, 117, 108, 108], [105, 102], [97, 110, 100], [111, 114], [110, 111, 116]]
def z_wi : List (List Nat) → List Nat → Nat → Nat
  | [], _, _ => 602
  | w :: ws, l, j => if l = w then j else z_wi ws l (j + 1)
theorem z_wi_inv : ∀ (ws : List (List Nat)) (l : List Nat) (b : Nat), z_wi ws l b = 602 ∨ ∃ j, z_wi ws l b = b + j ∧ ws[j]? = some l
  | [], _, _ => Or.inl rfl
  | w :: ws, l, b => by
    rw [z_wi]
    by_cases c : l = w
    · rw [if_pos c]
      exact Or.inr ⟨0, rfl, by rw [c]; rfl⟩
    · rw [if_neg c]
      rcases z_wi_inv ws l (b + 1) with h | ⟨j, h1, h2⟩
      · exact Or.inl h
      · exact Or.inr ⟨j + 1, by omega, h2⟩
theorem z_wi_at : ∀ j, j < 17 → ∀ w ∈ z_wds[j]?, z_wi z_wds w 700 = 700 + j := by decide +kernel
theorem z_wi_iff {l w : List Nat} {j : Nat} (hj : z_wds[j]? = some w) : z_wi z_wds l 700 = 700 + j ↔ l = w := by
  have hj17 : j < 17 := by
    have := List.getElem?_eq_some_iff.mp hj
    obtain ⟨h, -⟩ := this
    exact h
  constructor
  · intro h
    rcases z_wi_inv z_wds l 700 with e | ⟨i, e1, e2⟩
    · omega
    · have : i = j := by omega
      rw [this, hj] at e2
      exact (Option.some.inj e2).symm
  · intro h
    rw [h]
    exact z_wi_at j hj17 w hj
theorem z_wi_lt (l : List Nat) : z_wi z_wds l 700 = 602 ∨ (700 ≤ z_wi z_wds l 700 ∧ z_wi z_wds l 700 < 717) := by
  rcases z_wi_inv z_wds l 700 with e | ⟨i, e1, e2⟩
  · exact Or.inl e
  · obtain ⟨h, -⟩ := List.getElem?_eq_some_iff.mp e2
    have : i < 17 := h
    omega
/-! the class: the text of all words, letter by letter -/
def z_pt (u : Nat → Nat) (E : Nat) : List Nat → Nat → Nat
  | [], x => x
  | c :: cs, x => if x < E ∧ u x = c then z_pt u E cs (x + 1) else z_pt u E cs 401
theorem z_pt_401 (u : Nat → Nat) {E : Nat} (hE : E ≤ 400) : ∀ cs, z_pt u E cs 401 = 401
  | [] => rfl
  | c :: cs => by rw [z_pt, if_neg (by omega)]; exact z_pt_401 u hE cs
theorem z_pt_iff (u : Nat → Nat) {E : Nat} (hE : E ≤ 400) : ∀ (cs : List Nat) (x : Nat), x ≤ E → (z_pt u E cs x = E ↔ z_ls u x (E - x) = cs)
  | [], x, h => by
    rw [z_pt]
    constructor
    · intro e; rw [show E - x = 0 by omega]; rfl
    · intro e
      cases hd : E - x with
      | zero => omega
      | succ d => rw [hd, z_ls] at e; cases e
  | c :: cs, x, h => by
    rw [z_pt]
    by_cases hx : x < E
    · rw [show E - x = (E - (x + 1)) + 1 by omega, z_ls]
      by_cases hc : u x = c
      · rw [if_pos ⟨hx, hc⟩, z_pt_iff u hE cs (x + 1) (by omega), hc]
        constructor
        · intro e; rw [e]
        · intro e; exact (List.cons.inj e).2
      · rw [if_neg (fun e => hc e.2), z_pt_401 u hE]
        constructor
        · intro e; omega
        · intro e; exact absurd (List.cons.inj e).1 hc
    · rw [if_neg (fun e => hx e.1), z_pt_401 u hE, show E - x = 0 by omega, z_ls]
      constructor
      · intro e; omega
      · intro e; cases e
def z_flat : List (List Nat) → List Int32
  | [] => []
  | w :: ws => w.map nI ++ (32 :: z_flat ws)
theorem z_txt : q_txt = z_flat z_wds := by decide +kernel
/-- the class's Reader: its Tape is f, of N bytes -/
def z_td9 (t : g_S) (f : Nat → Int32) (N : Nat) : Prop := g_A t 0 = f ∧ g_I t 1 = nI N ∧ z_by f N
section CW
variable {d t : g_S} {f : Nat → Int32} {N : Nat}
theorem z_byteAt (H : z_td9 t f N) {i : Nat} (hi : i ≤ 400) : t_X9_byteAt t (nI i) = some (if i < N then nI (z_u f i) else -1) := by
  obtain ⟨h0, h1, hb⟩ := H
  have hN := hb.1
  unfold t_X9_byteAt
  dsimp only
  rw [if_neg (nI_pos (by omega)), h1, h0]
  by_cases c : i < N
  · rw [if_pos (nI_lt c (by omega)), t_ai_in (by omega) (by decide), Option.bind_some, z_u255, if_pos c]
  · rw [if_neg (nI_nlt (by omega) (by omega)), if_neg c]
theorem z_qch {a : Nat} {c : Int32} {rest : List Int32} (h : q_txt.drop a = c :: rest) : a < 91 ∧ q_ch (nI a) = some c ∧ q_txt.drop (a + 1) = rest := by
  have hl : a < q_txt.length := by
    apply Classical.byContradiction
    intro e
    rw [List.drop_eq_nil_of_le (by omega)] at h
    cases h
  have hl91 : q_txt.length = 91 := by decide +kernel
  have hd := List.drop_eq_getElem_cons hl
  rw [h] at hd
  obtain ⟨e1, e2⟩ := List.cons.inj hd
  refine ⟨by omega, ?_, e2.symm⟩
  unfold q_ch
  rw [if_pos (show q_in (nI a) 91 from vp_in_nI (by omega) (by decide)), nI_clamp (by omega), List.getD_eq_getElem?_getD, List.getElem?_eq_getElem hl, e1]
  rfl
theorem z_wordCI (H : z_td9 t f N) {p E j : Nat} (hE : E ≤ N) : ∀ (cs : List Nat) (a x fu : Nat) (rest : List Int32), q_txt.drop a = cs.map nI ++ (32 :: rest) → (∀ c ∈ cs, c ≠ 32 ∧ c < 256) → x ≤ 401 → t_X3_wordIn_10 (fu + cs.length) d t (nI p) (nI E) (nI j) (nI x) (nI a) = t_X3_wordIn_10 fu d t (nI p) (nI E) (nI j) (nI (z_pt (z_u f) E cs x)) (nI (a + cs.length)) ∧ q_txt.drop (a + cs.length) = 32 :: rest := by
  have hN := H.2.2.1
  intro cs
  induction cs with
  | nil => intro a x fu rest h _ _; exact ⟨rfl, h⟩
  | cons c cs ih =>
    intro a x fu rest h hc hx
    obtain ⟨h1, h2, h3⟩ := z_qch h
    obtain ⟨c1, c2⟩ := hc c (List.mem_cons_self)
    have step : t_X3_wordIn_10 (fu + (c :: cs).length) d t (nI p) (nI E) (nI j) (nI x) (nI a) = t_X3_wordIn_10 (fu + cs.length) d t (nI p) (nI E) (nI j) (nI (if x < E ∧ z_u f x = c then x + 1 else 401)) (nI (a + 1)) := by
      rw [List.length_cons, ← Nat.add_assoc, t_X3_wordIn_10, if_neg (show ¬ (91 : Int32) ≤ nI a from nI_ge (b := 91) h1 (by decide)), h2, Option.bind_some, if_neg (show ¬ nI c = (32 : Int32) from fun e => c1 ((nI_eq (b := 32) (by omega) (by decide)).mp e))]
      by_cases hx1 : x < E
      · rw [if_neg (nI_ge hx1 (by omega)), z_byteAt H (by omega), Option.bind_some, if_pos (show x < N by omega)]
        have hu := z_u_lt f x
        by_cases hx2 : z_u f x = c
        · rw [if_pos (show nI (z_u f x) = nI c by rw [hx2]), t_X3_wordIn_66, t_X3_wordIn_85, nI_1, nI_1, if_pos ⟨hx1, hx2⟩]
        · rw [if_neg (fun e => hx2 ((nI_eq (by omega) (by omega)).mp e)), t_X3_wordIn_63, t_X3_wordIn_66, t_X3_wordIn_85, nI_1, if_neg (fun e => hx2 e.2)]
          rfl
      · rw [if_pos (nI_le (by omega) (by omega)), t_X3_wordIn_63, t_X3_wordIn_66, t_X3_wordIn_85, nI_1, if_neg (fun e => hx1 e.1)]
        rfl
    obtain ⟨i1, i2⟩ := ih (a + 1) (if x < E ∧ z_u f x = c then x + 1 else 401) fu rest h3 (fun c' hc' => hc c' (List.mem_cons_of_mem _ hc')) (by split <;> omega)
    rw [List.length_cons, show a + (cs.length + 1) = a + 1 + cs.length by omega]
    refine ⟨?_, i2⟩
    rw [List.length_cons] at step
    rw [step, i1, z_pt]
    by_cases hh : x < E ∧ z_u f x = c
    · rw [if_pos hh, if_pos hh]
    · rw [if_neg hh, if_neg hh]
theorem z_wordCO (H : z_td9 t f N) {p E : Nat} (hp : p ≤ E) (hE : E ≤ N) : ∀ (ws : List (List Nat)) (a j fu : Nat), q_txt.drop a = z_flat ws → a ≤ 91 → (∀ w ∈ ws, ∀ c ∈ w, c ≠ 32 ∧ c < 256) → 91 < fu + a → j + ws.length ≤ 717 → t_X3_wordIn_10 fu d t (nI p) (nI E) (nI j) (nI p) (nI a) = some (nI (z_wi ws (z_ls (z_u f) p (E - p)) j)) := by
  have hN := H.2.2.1
  have hl91 : q_txt.length = 91 := by decide +kernel
  intro ws
  induction ws with
  | nil =>
    intro a j fu h ha hc hf hj
    have : ¬ a < 91 := fun e => by
      have hd := List.drop_eq_getElem_cons (show a < q_txt.length by omega)
      rw [h, z_flat] at hd
      cases hd
    obtain ⟨fu, rfl⟩ := Nat.exists_eq_succ_of_ne_zero (show fu ≠ 0 by omega)
    rw [t_X3_wordIn_10, if_pos (show (91 : Int32) ≤ nI a from nI_le (a := 91) (by omega) (by omega))]
    rfl
  | cons w ws ih =>
    intro a j fu h ha hc hf hj
    rw [z_flat] at h
    have hlen : a + w.length < 91 := by
      have e := congrArg List.length h
      rw [List.length_drop, List.length_append, List.length_map, List.length_cons, hl91] at e
      omega
    obtain ⟨fu2, rfl⟩ : ∃ fu2, fu = (fu2 + 1) + w.length := ⟨fu - w.length - 1, by omega⟩
    obtain ⟨i1, i2⟩ := z_wordCI (d := d) (p := p) (j := j) H hE w a p (fu2 + 1) (z_flat ws) h (hc w (List.mem_cons_self)) (by omega)
    obtain ⟨h1, h2, h3⟩ := z_qch i2
    have iff := z_pt_iff (z_u f) (show E ≤ 400 by omega) w p hp
    have hpt : z_pt (z_u f) E w p ≤ 401 := by
      have : ∀ (cs : List Nat) x, x ≤ 401 → z_pt (z_u f) E cs x ≤ 401 := by
        intro cs
        induction cs with
        | nil => intro x hx; exact hx
        | cons c cs ihc =>
          intro x hx
          rw [z_pt]
          split
          · exact ihc _ (by omega)
          · exact ihc _ (by omega)
      exact this w p (by omega)
    rw [i1, t_X3_wordIn_10, if_neg (show ¬ (91 : Int32) ≤ nI (a + w.length) from nI_ge (b := 91) h1 (by decide)), h2, Option.bind_some, if_pos rfl, z_wi]
    by_cases cm : z_ls (z_u f) p (E - p) = w
    · rw [if_pos (show nI (z_pt (z_u f) E w p) = nI E by rw [iff.mpr cm]), if_pos cm]
    · rw [if_neg (fun e => cm (iff.mp ((nI_eq (by omega) (by omega)).mp e))), if_neg cm, t_X3_wordIn_85, nI_1, nI_1]
      exact ih (a + w.length + 1) (j + 1) fu2 h3 (by omega) (fun w' hw' => hc w' (List.mem_cons_of_mem _ hw')) (by omega) (by rw [List.length_cons] at hj; omega)
theorem z_wordIn (H : z_td9 t f N) {p E : Nat} (hp : p ≤ E) (hE : E ≤ N) : t_X3_wordIn d t (nI p) (nI E) = some (nI (z_wi z_wds (z_ls (z_u f) p (E - p)) 700)) := by
  exact z_wordCO H hp hE z_wds 0 700 q_fu z_txt (by omega) (by decide +kernel) (by show 91 < 5000 + 0; omega) (by decide)
theorem z_behindL (H : z_td9 t f N) {lo hi : Nat} (hlo : lo < 256) (hhi : hi < 256) {P : Nat → Bool} (hP : ∀ i, P i = decide (lo ≤ z_u f i ∧ z_u f i ≤ hi)) : ∀ (m i fu : Nat), i + m = N → m < fu → t_X3_behind_3 fu d t (nI lo) (nI hi) (nI i) = some (nI (z_E P N i)) := by
  have hN := H.2.2.1
  intro m
  induction m with
  | zero =>
    intro i fu hi' hf
    obtain ⟨fu, rfl⟩ := Nat.exists_eq_succ_of_ne_zero (show fu ≠ 0 by omega)
    rw [t_X3_behind_3]
    try dsimp only
    rw [H.2.1, if_pos (nI_le (by omega) (by omega)), z_E_stop (by omega)]
  | succ m ih =>
    intro i fu hi' hf
    obtain ⟨fu, rfl⟩ := Nat.exists_eq_succ_of_ne_zero (show fu ≠ 0 by omega)
    have hu := z_u_lt f i
    rw [t_X3_behind_3]
    try dsimp only
    rw [H.2.1, if_neg (nI_ge (show i < N by omega) (by omega)), z_byteAt H (by omega), Option.bind_some, if_pos (show i < N by omega)]
    by_cases c1 : z_u f i < lo
    · rw [if_pos (nI_lt c1 (by omega)), z_E_stop (fun h => by rw [hP] at h; have := of_decide_eq_true h.2; omega)]
    · rw [if_neg (nI_nlt (by omega) (by omega))]
      by_cases c2 : z_u f i ≤ hi
      · rw [if_pos (nI_le c2 (by omega)), nI_1, z_E_step (by omega) (by rw [hP]; exact decide_eq_true ⟨by omega, c2⟩)]
        exact ih (i + 1) fu (by omega) (by omega)
      · rw [if_neg (nI_ge (by omega) (by omega)), z_E_stop (fun h => by rw [hP] at h; have := of_decide_eq_true h.2; omega)]
end CW
/-! the reference -/
def z_fd : List Nat → Nat
  | [] => 0
  | c :: cs => c * 256 ^ cs.length + z_fd cs
theorem z_fd_lt : ∀ (l : List Nat), (∀ c ∈ l, c < 256) → z_fd l < 256 ^ l.length
  | [], _ => by decide
  | c :: cs, h => by
    have h1 := z_fd_lt cs (fun x hx => h x (List.mem_cons_of_mem _ hx))
    have h2 := h c (List.mem_cons_self)
    rw [z_fd, List.length_cons, Nat.pow_succ]
    have h3 : c * 256 ^ cs.length ≤ 255 * 256 ^ cs.length := Nat.mul_le_mul_right _ (by omega)
    omega
theorem z_fd_len {l1 l2 : List Nat} (h1 : ∀ c ∈ l1, c < 256) (h2 : ∀ c ∈ l2, 1 ≤ c ∧ c < 256) (h : z_fd l1 = z_fd l2) : l2.length ≤ l1.length := by
  apply Classical.byContradiction
  intro e
  cases l2 with
  | nil => simp at e
  | cons c cs =>
    have a1 := z_fd_lt l1 h1
    have a2 := (h2 c (List.mem_cons_self)).1
    rw [z_fd] at h
    rw [List.length_cons] at e
    have a3 : 256 ^ l1.length ≤ 256 ^ cs.length := Nat.pow_le_pow_right (by decide) (by omega)
    have a4 : 1 * 256 ^ cs.length ≤ c * 256 ^ cs.length := Nat.mul_le_mul_right _ a2
    omega
theorem z_fd_inj : ∀ {l1 l2 : List Nat}, l1.length = l2.length → (∀ c ∈ l1, c < 256) → (∀ c ∈ l2, c < 256) → z_fd l1 = z_fd l2 → l1 = l2
  | [], [], _, _, _, _ => rfl
  | [], _ :: _, h, _, _, _ => by simp at h
  | _ :: _, [], h, _, _, _ => by simp at h
  | c :: cs, d :: ds, hl, h1, h2, h => by
    have hl' : cs.length = ds.length := by simpa using hl
    have a1 := z_fd_lt cs (fun x hx => h1 x (List.mem_cons_of_mem _ hx))
    have a2 := z_fd_lt ds (fun x hx => h2 x (List.mem_cons_of_mem _ hx))
    rw [z_fd, z_fd, hl'] at h
    rw [hl'] at a1
    have hcd : c = d := by
      rcases Nat.lt_trichotomy c d with e | e | e
      · have : (c + 1) * 256 ^ ds.length ≤ d * 256 ^ ds.length := Nat.mul_le_mul_right _ e
        rw [Nat.add_mul] at this
        omega
      · exact e
      · have : (d + 1) * 256 ^ ds.length ≤ c * 256 ^ ds.length := Nat.mul_le_mul_right _ e
        rw [Nat.add_mul] at this
        omega
    subst hcd
    rw [z_fd_inj hl' (fun x hx => h1 x (List.mem_cons_of_mem _ hx)) (fun x hx => h2 x (List.mem_cons_of_mem _ hx)) (by omega)]
theorem z_ls_len (u : Nat → Nat) : ∀ (m a : Nat), (z_ls u a m).length = m
  | 0, _ => rfl
  | m + 1, a => by rw [z_ls, List.length_cons, z_ls_len u m (a + 1)]
theorem z_ls_mem {u : Nat → Nat} : ∀ {m a x : Nat}, x ∈ z_ls u a m → ∃ i, a ≤ i ∧ i < a + m ∧ x = u i
  | 0, _, _, h => by rw [z_ls] at h; cases h
  | m + 1, a, x, h => by
    rw [z_ls] at h
    rcases List.mem_cons.mp h with e | e
    · exact ⟨a, by omega, by omega, e⟩
    · obtain ⟨i, h1, h2, h3⟩ := z_ls_mem e
      exact ⟨i, by omega, by omega, h3⟩
theorem z_ls_snoc (u : Nat → Nat) : ∀ (m a : Nat), z_fd (z_ls u a (m + 1)) = z_fd (z_ls u a m) * 256 + u (a + m)
  | 0, a => by simp [z_ls, z_fd]
  | m + 1, a => by
    show z_fd (u a :: z_ls u (a + 1) (m + 1)) = z_fd (u a :: z_ls u (a + 1) m) * 256 + u (a + (m + 1))
    have ih := z_ls_snoc u m (a + 1)
    have e1 : z_fd (u a :: z_ls u (a + 1) (m + 1)) = u a * 256 ^ (m + 1) + z_fd (z_ls u (a + 1) (m + 1)) := by rw [z_fd, z_ls_len]
    have e2 : z_fd (u a :: z_ls u (a + 1) m) = u a * 256 ^ m + z_fd (z_ls u (a + 1) m) := by rw [z_fd, z_ls_len]
    rw [e1, e2, ih, Nat.pow_succ, Nat.add_mul, ← Nat.mul_assoc, show a + 1 + m = a + (m + 1) by omega]
    omega
section RW
variable {σ : r_S} {f : Nat → Int32} {N : Nat}
theorem z_isWL (H : z_rd σ f N) {p : Nat} (hp : p ≤ N) (w : Int64) : ∀ (m k fu : Nat) (v : Int64), p + k + m = N → m < fu → p + k ≤ z_E (z_lt (z_u f)) N p → (k ≤ 8 → v = lN (z_fd (z_ls (z_u f) p k))) → t_X12_isWord_10 fu (z_nx σ p) w v (nI k) = some (if p < z_E (z_lt (z_u f)) N p ∧ z_E (z_lt (z_u f)) N p - p < 8 ∧ lN (z_fd (z_ls (z_u f) p (z_E (z_lt (z_u f)) N p - p))) = w then 1 else 0, z_nx σ p) := by
  have hN := H.2.2.1
  -- the run ends here
  have fin : ∀ (k fu : Nat) (v : Int64), p + k = z_E (z_lt (z_u f)) N p → p + k ≤ N → (k ≤ 8 → v = lN (z_fd (z_ls (z_u f) p k))) → ¬ (p + k < N ∧ z_lt (z_u f) (p + k) = true) → t_X12_isWord_10 (fu + 1) (z_nx σ p) w v (nI k) = some (if p < z_E (z_lt (z_u f)) N p ∧ z_E (z_lt (z_u f)) N p - p < 8 ∧ lN (z_fd (z_ls (z_u f) p (z_E (z_lt (z_u f)) N p - p))) = w then 1 else 0, z_nx σ p) := by
    intro k fu v hk hkN hv hs
    rw [t_X12_isWord_10]
    try dsimp only
    rw [z_nx8, nI_add, z_isLetter H hkN, Option.bind_some, if_neg hs, if_pos rfl, ← hk, Nat.add_sub_cancel_left]
    by_cases c0 : k = 0
    · rw [c0, if_pos (by decide), if_neg (by omega)]
    · rw [if_neg (show ¬ nI k ≤ (0 : Int32) from nI_ge (a := 0) (by omega) (by omega))]
      by_cases c8 : k < 8
      · rw [if_neg (show ¬ (8 : Int32) ≤ nI k from nI_ge (b := 8) c8 (by decide)), hv (by omega)]
        by_cases cw : lN (z_fd (z_ls (z_u f) p k)) = w
        · rw [if_pos (z_lg.mpr cw), if_pos ⟨by omega, c8, cw⟩]
        · rw [if_neg (fun e => cw (z_lg.mp e)), if_neg (fun e => cw e.2.2)]
      · rw [if_pos (show (8 : Int32) ≤ nI k from nI_le (a := 8) (by omega) (by omega)), if_neg (fun e => c8 e.2.1)]
  intro m
  induction m with
  | zero =>
    intro k fu v hk hf hE hv
    obtain ⟨fu, rfl⟩ := Nat.exists_eq_succ_of_ne_zero (show fu ≠ 0 by omega)
    have := z_E_le (z_lt (z_u f)) hp
    exact fin k fu v (by omega) (by omega) hv (by omega)
  | succ m ih =>
    intro k fu v hk hf hE hv
    obtain ⟨fu, rfl⟩ := Nat.exists_eq_succ_of_ne_zero (show fu ≠ 0 by omega)
    by_cases c : p + k < z_E (z_lt (z_u f)) N p
    · have hl : z_lt (z_u f) (p + k) = true := z_E_in (by omega) c
      have hlr := of_decide_eq_true hl
      have hb : f (p + k) = nI (z_u f (p + k)) := by
        rcases z_byte H.2.2 (show p + k < N by omega) with ⟨a, b⟩ | ⟨a, b⟩
        · exact b
        · omega
      rw [t_X12_isWord_10]
      try dsimp only
      rw [z_nx8, nI_add, z_isLetter H (by omega), Option.bind_some, if_pos (show p + k < N ∧ z_lt (z_u f) (p + k) = true from ⟨by omega, hl⟩), if_neg (by decide)]
      by_cases c8 : k < 8
      · rw [if_neg (show ¬ (8 : Int32) ≤ nI k from nI_ge (b := 8) c8 (by decide)), z_nxA, H.1, t_ai_in (by omega) (by decide), Option.bind_some, t_X12_isWord_50, nI_1, hb, nI_l (by omega), hv (by omega), z_lsh (k := 8) (by decide) (by decide), z_lor (k := 8) (by omega)]
        refine ih (k + 1) fu _ (by omega) (by omega) (by omega) (fun _ => ?_)
        rw [z_ls_snoc]
      · rw [if_pos (show (8 : Int32) ≤ nI k from nI_le (a := 8) (by omega) (by omega)), t_X12_isWord_50, nI_1]
        exact ih (k + 1) fu v (by omega) (by omega) (by omega) (fun e => by omega)
    · have hEe : p + k = z_E (z_lt (z_u f)) N p := by omega
      refine fin k fu v hEe (by omega) hv (fun e => ?_)
      have := z_E_end (P := z_lt (z_u f)) (N := N) (i := p) (by omega)
      rw [← hEe, e.2] at this
      cases this
/-- the letters of the word that begins at p -/
def z_lw (f : Nat → Int32) (N p : Nat) : List Nat := z_ls (z_u f) p (z_E (z_lt (z_u f)) N p - p)
theorem z_S_S (u : Nat → Nat) {N i : Nat} (hi : i ≤ N) : z_S u N (z_S u N i) = z_S u N i := by
  rw [z_S_E]
  refine z_E_stop (fun h => ?_)
  have h1 := h.1
  rw [z_S_E] at h1 h
  have := z_E_end h1
  rw [h.2] at this
  cases this
theorem z_isWord (H : z_rd σ f N) {i : Nat} (hi : i ≤ N) {wd : List Nat} (h1 : 1 ≤ wd.length) (h7 : wd.length < 8) (hw : ∀ c ∈ wd, 1 ≤ c ∧ c < 256) : t_X12_isWord (z_nx σ i) (lN (z_fd wd)) = some (if z_lw f N (z_S (z_u f) N i) = wd then 1 else 0, z_nx σ (z_S (z_u f) N i)) := by
  have hN := H.2.2.1
  have hS : z_S (z_u f) N i ≤ N := by rw [z_S_E]; exact z_E_le _ hi
  have hge := z_E_ge (z_lt (z_u f)) N (z_S (z_u f) N i)
  unfold t_X12_isWord
  rw [z_see H hi, Option.bind_some]
  try dsimp only
  refine (z_isWL H hS (lN (z_fd wd)) (N - z_S (z_u f) N i) 0 q_fu 0 (by omega) (by show _ < 5000; omega) (by omega) (fun _ => rfl)).trans ?_
  congr 3
  unfold z_lw
  have hlb : ∀ c ∈ z_ls (z_u f) (z_S (z_u f) N i) (z_E (z_lt (z_u f)) N (z_S (z_u f) N i) - z_S (z_u f) N i), 1 ≤ c ∧ c < 256 := fun c hc => by
    obtain ⟨j, j1, j2, j3⟩ := z_ls_mem hc
    have hl : z_lt (z_u f) j = true := z_E_in (N := N) j1 (by omega)
    have := of_decide_eq_true hl
    rw [j3]
    omega
  have hlen := z_ls_len (z_u f) (z_E (z_lt (z_u f)) N (z_S (z_u f) N i) - z_S (z_u f) N i) (z_S (z_u f) N i)
  apply propext
  constructor
  · intro ⟨a1, a2, a3⟩
    have p1 := z_fd_lt _ (fun c hc => (hlb c hc).2)
    have p2 := z_fd_lt wd (fun c hc => (hw c hc).2)
    have q1 : 256 ^ (z_ls (z_u f) (z_S (z_u f) N i) (z_E (z_lt (z_u f)) N (z_S (z_u f) N i) - z_S (z_u f) N i)).length ≤ 256 ^ 7 := Nat.pow_le_pow_right (by decide) (by omega)
    have q2 : 256 ^ wd.length ≤ 256 ^ 7 := Nat.pow_le_pow_right (by decide) (by omega)
    have e := z_linj (by omega) (by omega) a3
    have l1 := z_fd_len (fun c hc => (hlb c hc).2) hw e
    have l2 := z_fd_len (fun c hc => (hw c hc).2) hlb e.symm
    exact z_fd_inj (by omega) (fun c hc => (hlb c hc).2) (fun c hc => (hw c hc).2) e
  · intro e
    rw [e] at hlen
    exact ⟨by omega, by omega, by rw [e]⟩
end RW

/-! ===== the judgement q_V: the machine over a heap of cells told by their addresses ===== -/
abbrev q_H : Type := Nat → va_E
def q_no : va_E := .inr (99, [])
def q_cn (tc : Nat → ClassId) (x : va_E) : va_E := match x with
  | .inl a => .inl (tc a.1, a.2)
  | .inr o => .inr o
def q_tys (tc : Nat → ClassId) : List (ClassId × FieldType) := [(tc 0, .byte), (tc 1, .int), (tc 2, .long), (tc 3, .boolean), (tc 4, .object "TugRope$Game"), (tc 5, .object "TugRope$Rule"), (tc 6, .object "TugRope$Tug"), (tc 7, .array .int)]
def q_W (base sz : Nat) (tc : Nat → ClassId) (h : q_H) : va_W := va_pl (List.range' base (sz - base)) (fun a => q_cn tc (h a))
def q_R (base sz : Nat) (D : va_G) (tc : Nat → ClassId) (h : q_H) (H : Heap) : Prop := H.size = sz ∧ base ≤ sz ∧ va_P D vwCl (q_W base sz tc h) H ∧ ∀ a, h a ≠ q_no → base ≤ a ∧ a < sz
def q_A (base : Nat) : Nat → Prop := fun q => base ≤ q
theorem q_W_at {base sz : Nat} {tc : Nat → ClassId} {h : q_H} {k : Nat} {q : Nat × va_E} (hk : (q_W base sz tc h)[k]? = some q) : q.1 = base + k ∧ k < sz - base := by
  unfold q_W va_pl at hk
  rw [List.getElem?_map] at hk
  by_cases hl : k < sz - base
  · rw [List.getElem?_range' hl] at hk
    simp at hk
    exact ⟨by rw [← hk], hl⟩
  · rw [List.getElem?_eq_none (by simpa using Nat.le_of_not_lt hl)] at hk
    cases hk
theorem q_D {base sz : Nat} {tc : Nat → ClassId} {h : q_H} : va_D (q_A base) (q_W base sz tc h) := by
  refine ⟨fun i j p q hi hj e => ?_, fun k q hk => ?_⟩
  · have h1 := (q_W_at hi).1
    have h2 := (q_W_at hj).1
    omega
  · have h1 := (q_W_at hk).1
    show base ≤ q.1
    omega
theorem q_mem {base sz a : Nat} (ha : base ≤ a ∧ a < sz) : a ∈ List.range' base (sz - base) := by
  rw [List.mem_range'_1]
  omega
theorem q_at {base sz : Nat} {D : va_G} {tc : Nat → ClassId} {h : q_H} {H : Heap} {a : Nat} (hR : q_R base sz D tc h H) (hn : h a ≠ q_no) : ∃ k : Nat, (q_W base sz tc h)[k]? = some (a, q_cn tc (h a)) :=
  va_pl_get (X := []) (f := fun a => q_cn tc (h a)) (q_mem (hR.2.2.2 a hn))
theorem q_cn_up (tc : Nat → ClassId) (h : q_H) (a : Nat) (x : va_E) : va_up (fun b => q_cn tc (h b)) a (q_cn tc x) = fun b => q_cn tc (va_up h a x b) := by
  funext b
  by_cases hb : b = a
  · simp [va_up, hb]
  · simp [va_up, hb]
theorem q_R.upd {base sz : Nat} {D : va_G} {tc : Nat → ClassId} {h : q_H} {H H1 : Heap} {a k : Nat} {x : va_E} (hR : q_R base sz D tc h H) (hn : h a ≠ q_no) (hk : (q_W base sz tc h)[k]? = some (a, q_cn tc (h a)))
    (hat : va_at D vwCl (a, q_cn tc x) H1) (hz : H1.size = H.size) (ho : ∀ q : Nat, q ≠ a → H1[q]? = H[q]?) : q_R base sz D tc (va_up h a x) H1 := by
  obtain ⟨h1, h2, h3, h4⟩ := hR
  refine ⟨hz.trans h1, h2, ?_, fun b hb => ?_⟩
  · have e := va_pl_set (X := []) (f := fun a => q_cn tc (h a)) (e := q_cn tc x) q_D (q_mem (h4 a hn)) hk
    have e2 : (q_W base sz tc h).set k (a, q_cn tc x) = q_W base sz tc (va_up h a x) := by
      refine Eq.trans e ?_
      unfold q_W
      rw [q_cn_up]
      rfl
    rw [← e2]
    exact h3.set q_D hk hat ho
  · by_cases e : b = a
    · rw [e]; exact h4 a hn
    · refine h4 b ?_
      simp only [va_up, if_neg e] at hb
      exact hb
/-- the machine, its code, the claim's room; the goal; where our cells begin, how many locals, the numbers of classes -/
abbrev q_G : Type := (Program × Launch × Env × Room × State × MethodId × Array Value × List Frame × Method × Code) × (State → Prop) × Nat × Nat × va_G × (Nat → ClassId)
def q_AOA (U : State) : Prop := (Cond.arrayOver (.array .int)).before #[] U = true
theorem q_AOA.moved {u U : State} (hvm : u.vm.Alike U.vm) (h : q_AOA u) : q_AOA U := by
  unfold q_AOA Cond.before Cond.holds at h ⊢
  simp only [Cond.value, beq_iff_eq] at h ⊢
  cases hc : u.vm.findClass (FieldType.array .int).toString with
  | none => simp [hc] at h
  | some comp =>
    have f1 : U.vm.findClass (FieldType.array .int).toString = some comp := by rw [hvm.findClass]; exact hc
    rw [hc, Option.bind_some] at h
    rw [f1, Option.bind_some]
    obtain ⟨c, hi, hr⟩ := Option.bind_eq_some_iff.mp h
    obtain ⟨k, hk, hb⟩ := Option.map_eq_some_iff.mp hr
    obtain ⟨k', hk', he⟩ := hvm.2.2 _ _ hk
    refine Option.bind_eq_some_iff.mpr ⟨c, ?_, Option.map_eq_some_iff.mpr ⟨k', hk', ?_⟩⟩
    · have e := va_idx_bare U.vm comp
      have e2 := va_idx_bare u.vm comp
      first | rw [hvm.bare_eq] at e2 | rw [← hvm.bare_eq] at e2
      exact e.symm.trans (e2.trans hi)
    · rw [he]
      rw [hvm.findClass]
      exact hb
/-- what the statics and constants are: Rope.ROWS_OF (at tc 100), the reader's words (a String at tc 101, its bytes at tc 102), the classes of rows -/
def q_rows (j : Nat) : Int32 := ([1, 1, 2, 6, 24, 120, 720, 5040] : List Int32).getD j 0
def q_txt : List Int32 := [112, 117, 108, 108, 101, 114, 32, 115, 105, 100, 101, 32, 115, 116, 114, 111, 110, 103, 32, 119, 105, 110, 100, 32, 98, 111, 111, 116, 115, 32, 112, 108, 97, 99, 101, 32, 109, 97, 116, 101, 115, 32, 114, 105, 98, 98, 111, 110, 32, 108, 105, 110, 101, 32, 119, 111, 114, 107, 101, 100, 32, 104, 101, 97, 118, 101, 32, 114, 111, 112, 101, 32, 112, 117, 108, 108, 32, 105, 102, 32, 97, 110, 100, 32, 111, 114, 32, 110, 111, 116, 32]
def q_S (base : Nat) (tc : Nat → ClassId) (U : State) : Prop :=
  va_Z "TugRope$Rope" "ROWS_OF" "[I" (.ref (tc 100)) (q_A base) U U.heap ∧ va_T .int (tc 100) 8 (fun j => .int (q_rows j)) (q_A base) U U.heap ∧ va_AO "TugRope$Game" U ∧ va_AO "TugRope$Rule" U ∧ va_AO "TugRope$Tug" U ∧
  vk_R "TugRope$Reader" 71 "puller side strong wind boots place mates ribbon line worked heave rope pull if and or not " (tc 101) U ∧ vk_S 1 [91] [q_txt] (fun _ => tc 101) (fun _ => tc 102) (q_A base) U U.heap ∧ va_Z "java/lang/String" "COMPACT_STRINGS" "Z" (.int 1) (q_A base) U U.heap ∧ q_AOA U ∧ va_Nw (.castable "[I" "java/lang/Cloneable") U ∧ va_Zq "jdk/internal/util/Preconditions" "SIOOBE_FORMATTER" "Ljava/util/function/BiFunction;" (q_A base) U U.heap
def q_C (Γ : q_G) (cc : ByteArray) (own : String) : Prop := match Γ with
  | ((p, _, _, _, s, m, args, _, _, c), _, base, nL, D, tc) => p.tables.exec = Jvm.exec ∧ c.code = cc ∧ c.maxLocals = nL ∧ s.vm.findClass own = some m.cls ∧ (∀ w ∈ q_T, w.before args s = true) ∧ va_K D vwCl (q_tys tc) s ∧ base ≤ s.heap.size ∧ q_S base tc s
def q_V (Γ : q_G) (sz cells slots : Nat) (h : q_H) (lv : List (Nat × Value)) (st : List Value) (pc : Nat) : Prop := match Γ with
  | ((p, l, e, R, s, m, args, below, meth, c), Q, base, nL, D, tc) => ∀ (H : Heap) (locs : List Loc) (ls : Array Slot), q_R base sz D tc h H → va_S (q_A base) s.heap H locs → lv_has ls nL lv → W p l e R s m args below meth c H locs cells slots Q (F0 m pc ls st)
/-! ===== reads and writes of the heap of cells ===== -/
def q_fd (h : q_H) (a ci k : Nat) : Option Value := match h a with
  | .inr o => if o.1 = ci then o.2[k]? else none
  | .inl _ => none
def q_vi (v : Value) : Option Int32 := match v with
  | .int x => some x
  | _ => none
def q_vl (v : Value) : Option Int64 := match v with
  | .long x => some x
  | _ => none
def q_vn (v : Value) : Option Nat := match v with
  | .ref x => some x
  | _ => none
def q_vo (v : Value) : Option (Option Nat) := match v with
  | .ref x => some (some x)
  | .null => some none
  | _ => none
def q_gi (h : q_H) (a ci k : Nat) : Option Int32 := (q_fd h a ci k).bind q_vi
def q_gl (h : q_H) (a ci k : Nat) : Option Int64 := (q_fd h a ci k).bind q_vl
def q_gn (h : q_H) (a ci k : Nat) : Option Nat := (q_fd h a ci k).bind q_vn
def q_go (h : q_H) (a ci k : Nat) : Option (Option Nat) := (q_fd h a ci k).bind q_vo
/-- a field is written: the object is of that class and has that field -/
def q_pf (h : q_H) (a ci k : Nat) (v : Value) : Option q_H := match h a with
  | .inr o => if o.1 = ci ∧ k < o.2.length then some (va_up h a (.inr (ci, o.2.set k v))) else none
  | .inl _ => none
/-- the place is in the row -/
abbrev q_in (i : Int32) (n : Nat) : Prop := ¬ (i < 0 ∨ n ≤ i.toNatClampNeg)
def q_ai (h : q_H) (a t : Nat) (i : Int32) : Option Int32 := match h a with
  | .inl (u, n, .inl f) => if u = t ∧ q_in i n then some (f i.toNatClampNeg) else none
  | _ => none
def q_al (h : q_H) (a : Nat) (i : Int32) : Option Int64 := match h a with
  | .inl (u, n, .inr (.inl f)) => if u = 2 ∧ q_in i n then some (f i.toNatClampNeg) else none
  | _ => none
def q_ar (h : q_H) (a t : Nat) (i : Int32) : Option (Option Nat) := match h a with
  | .inl (u, n, .inr (.inr (.inr (.inr f)))) => if u = t ∧ q_in i n then some (f i.toNatClampNeg) else none
  | _ => none
def q_si (h : q_H) (a t : Nat) (i x : Int32) : Option q_H := match h a with
  | .inl (u, n, .inl f) => if u = t ∧ q_in i n then some (va_up h a (.inl (t, n, .inl (upd f i.toNatClampNeg x)))) else none
  | _ => none
def q_sl (h : q_H) (a : Nat) (i : Int32) (x : Int64) : Option q_H := match h a with
  | .inl (u, n, .inr (.inl f)) => if u = 2 ∧ q_in i n then some (va_up h a (.inl (2, n, .inr (.inl (vp_updL f i.toNatClampNeg x))))) else none
  | _ => none
/-- a row of references takes one that isn't null, of the class of number ci -/
def q_sr (h : q_H) (a t ci : Nat) (i : Int32) (v : Nat) : Option q_H := match h a with
  | .inl (u, n, .inr (.inr (.inr (.inr f)))) => if u = t ∧ q_in i n then (match h v with
    | .inr o => if o.1 = ci then some (va_up h a (.inl (t, n, .inr (.inr (.inr (.inr (va_up f i.toNatClampNeg (some v)))))))) else none
    | .inl _ => none) else none
  | _ => none
def q_ln (h : q_H) (a : Nat) : Option Int32 := match h a with
  | .inl (u, n, _) => if u < 8 then some (Int32.ofNat n) else none
  | .inr _ => none
theorem q_b {α β : Type} {o : Option α} {f : α → Option β} {r : β} (h : o.bind f = some r) : ∃ v, o = some v ∧ f v = some r := Option.bind_eq_some_iff.mp h
theorem q_fd_spec {h : q_H} {a ci k : Nat} {v : Value} (e : q_fd h a ci k = some v) : ∃ fs, h a = .inr (ci, fs) ∧ fs[k]? = some v := by
  unfold q_fd at e
  split at e
  · next o ho =>
    split at e
    · next hc => exact ⟨o.2, by rw [ho, ← hc], e⟩
    · cases e
  · cases e
theorem q_gi_spec {h : q_H} {a ci k : Nat} {v : Int32} (e : q_gi h a ci k = some v) : q_fd h a ci k = some (.int v) := by
  obtain ⟨w, h1, h2⟩ := q_b e
  cases w <;> simp [q_vi] at h2
  rw [h1, h2]
theorem q_gl_spec {h : q_H} {a ci k : Nat} {v : Int64} (e : q_gl h a ci k = some v) : q_fd h a ci k = some (.long v) := by
  obtain ⟨w, h1, h2⟩ := q_b e
  cases w <;> simp [q_vl] at h2
  rw [h1, h2]
theorem q_gn_spec {h : q_H} {a ci k : Nat} {v : Nat} (e : q_gn h a ci k = some v) : q_fd h a ci k = some (.ref v) := by
  obtain ⟨w, h1, h2⟩ := q_b e
  cases w <;> simp [q_vn] at h2
  rw [h1, h2]
theorem q_go_spec {h : q_H} {a ci k : Nat} {v : Option Nat} (e : q_go h a ci k = some v) : q_fd h a ci k = some (va_rf v) := by
  obtain ⟨w, h1, h2⟩ := q_b e
  cases w <;> simp [q_vo] at h2 <;> (rw [h1, ← h2]; rfl)
theorem q_pf_spec {h h1 : q_H} {a ci k : Nat} {v : Value} (e : q_pf h a ci k v = some h1) : ∃ fs, h a = .inr (ci, fs) ∧ k < fs.length ∧ h1 = va_up h a (.inr (ci, fs.set k v)) := by
  unfold q_pf at e
  split at e
  · next o ho =>
    split at e
    · next hc =>
      cases e
      exact ⟨o.2, by rw [ho, ← hc.1], hc.2, rfl⟩
    · cases e
  · cases e
theorem q_ai_spec {h : q_H} {a t : Nat} {i v : Int32} (e : q_ai h a t i = some v) : ∃ n f, h a = .inl (t, n, .inl f) ∧ q_in i n ∧ v = f i.toNatClampNeg := by
  unfold q_ai at e
  split at e
  · next u n f ho =>
    split at e
    · next hc =>
      cases e
      exact ⟨n, f, by rw [ho, hc.1], hc.2, rfl⟩
    · cases e
  · cases e
theorem q_al_spec {h : q_H} {a : Nat} {i : Int32} {v : Int64} (e : q_al h a i = some v) : ∃ n f, h a = .inl (2, n, .inr (.inl f)) ∧ q_in i n ∧ v = f i.toNatClampNeg := by
  unfold q_al at e
  split at e
  · next u n f ho =>
    split at e
    · next hc =>
      cases e
      exact ⟨n, f, by rw [ho, hc.1], hc.2, rfl⟩
    · cases e
  · cases e
theorem q_ar_spec {h : q_H} {a t : Nat} {i : Int32} {v : Option Nat} (e : q_ar h a t i = some v) : ∃ n f, h a = .inl (t, n, .inr (.inr (.inr (.inr f)))) ∧ q_in i n ∧ v = f i.toNatClampNeg := by
  unfold q_ar at e
  split at e
  · next u n f ho =>
    split at e
    · next hc =>
      cases e
      exact ⟨n, f, by rw [ho, hc.1], hc.2, rfl⟩
    · cases e
  · cases e
theorem q_si_spec {h h1 : q_H} {a t : Nat} {i x : Int32} (e : q_si h a t i x = some h1) : ∃ n f, h a = .inl (t, n, .inl f) ∧ q_in i n ∧ h1 = va_up h a (.inl (t, n, .inl (upd f i.toNatClampNeg x))) := by
  unfold q_si at e
  split at e
  · next u n f ho =>
    split at e
    · next hc =>
      cases e
      exact ⟨n, f, by rw [ho, hc.1], hc.2, rfl⟩
    · cases e
  · cases e
theorem q_sl_spec {h h1 : q_H} {a : Nat} {i : Int32} {x : Int64} (e : q_sl h a i x = some h1) : ∃ n f, h a = .inl (2, n, .inr (.inl f)) ∧ q_in i n ∧ h1 = va_up h a (.inl (2, n, .inr (.inl (vp_updL f i.toNatClampNeg x)))) := by
  unfold q_sl at e
  split at e
  · next u n f ho =>
    split at e
    · next hc =>
      cases e
      exact ⟨n, f, by rw [ho, hc.1], hc.2, rfl⟩
    · cases e
  · cases e
theorem q_sr_spec {h h1 : q_H} {a t ci : Nat} {i : Int32} {v : Nat} (e : q_sr h a t ci i v = some h1) : ∃ n f vs, h a = .inl (t, n, .inr (.inr (.inr (.inr f)))) ∧ q_in i n ∧ h v = .inr (ci, vs) ∧ h1 = va_up h a (.inl (t, n, .inr (.inr (.inr (.inr (va_up f i.toNatClampNeg (some v))))))) := by
  unfold q_sr at e
  split at e
  · next u n f ho =>
    split at e
    · next hc =>
      split at e
      · next o hv =>
        split at e
        · next hci =>
          cases e
          exact ⟨n, f, o.2, by rw [ho, hc.1], hc.2, by rw [hv, ← hci], rfl⟩
        · cases e
      · cases e
    · cases e
  · cases e
theorem q_ln_spec {h : q_H} {a : Nat} {v : Int32} (e : q_ln h a = some v) : ∃ u n x, h a = .inl (u, n, x) ∧ u < 8 ∧ Int32.ofNat n = v := by
  unfold q_ln at e
  split at e
  · next u n x ho =>
    split at e
    · next hc =>
      cases e
      exact ⟨u, n, x, ho, hc, rfl⟩
    · cases e
  · cases e
theorem q_arr_ne {x : ClassId × vp_A} : (Sum.inl x : va_E) ≠ q_no := fun h => by unfold q_no at h; cases h
theorem q_obj_ne {ci : Nat} {fs : List Value} (h : ci < 13) : (Sum.inr (ci, fs) : va_E) ≠ q_no := fun e => by
  unfold q_no at e
  simp at e
  omega

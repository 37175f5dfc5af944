/-! ===== contracts over the heap of cells; calls; ends ===== -/
def q_P (base sz : Nat) (D : va_G) (tc : Nat → ClassId) (h : q_H) (U : State) : Prop := q_R base sz D tc h U.heap ∧ va_K D vwCl (q_tys tc) U ∧ q_S base tc U
def q_nar (ret : Option FieldType) (rv : Option Value) : Prop := ∀ (rt : FieldType) (x : Int32), ret = some rt → rv = some (.int x) → narrow rt (.int x) = .int x
def q_Q (base sz : Nat) (D : va_G) (tc : Nat → ClassId) (h : q_H) (ret : Option FieldType) (rv : Option Value) : Array Value → State → Outcome → State → Prop := fun _ st oc t => oc = .returned rv ∧ q_nar ret rv ∧ q_P base sz D tc h t ∧ va_F (q_A base) st t
/-- y, called with av over the heap h, returns rv over the heap h' -/
def q_M (l : Launch) (y : MethodName) (cc : ByteArray) (maxL : Nat) (ret : Option FieldType) (fr lo mc ms base : Nat) (D : va_G) (tc : Nat → ClassId) (av : List Value) (sz : Nat) (h : q_H) (rv : Option Value) (sz' : Nat) (h' : q_H) : Prop :=
  Met l y (Cond.code y cc maxL ret :: q_T) { frames := fr, cells := mc, slots := ms, locals := lo } (va_Pc av (q_P base sz D tc h)) (q_Q base sz' D tc h' ret rv) mc ms (q_A base)
/-- the end of a method: its return instruction may be run here -/
def q_K (Γ : q_G) (cc : ByteArray) (i : Instr) (sz : Nat) (h : q_H) (cells slots : Nat) (vs : List Value) : Prop := match Γ with
  | ((p, l, e, R, s, m, args, below, meth, c), Q, base, _, D, tc) => ∀ (pc : Nat) (H : Heap) (locs : List Loc) (ls : Array Slot), decode cc pc = .ok (i, 1) → q_R base sz D tc h H → va_S (q_A base) s.heap H locs → W p l e R s m args below meth c H locs cells slots Q (F0 m pc ls vs)
theorem q_ret {Γ : q_G} {cc : ByteArray} {i : Instr} {sz cells slots : Nat} {h : q_H} {vs : List Value} {lv : List (Nat × Value)} {pc : Nat} (K : q_K Γ cc i sz h cells slots vs) (hd : decode cc pc = .ok (i, 1)) : q_V Γ sz cells slots h lv vs pc := by
  obtain ⟨⟨p, l, ev, R, s, m, args, below, meth, c⟩, Q, base, nL, D, tc⟩ := Γ
  intro H locs ls hR hS hl
  exact K pc H locs ls hd hR hS
theorem q_S.moved {base : Nat} {tc : Nat → ClassId} {s U : State} (hW : s.WarmedH U.vm) (h : q_S base tc s) (hk : ∀ q : Nat, q < base → U.heap[q]? = s.heap[q]?) : q_S base tc U := by
  have hq : ∀ a : Nat, a < s.heap.size → ¬ q_A base a → U.heap[a]? = s.heap[a]? := fun a _ h2 => hk a (Nat.not_le.mp h2)
  obtain ⟨h1, h2, h3, h4, h5, h6, h7, h8, h9, h10, h11⟩ := h
  exact ⟨(h1.moved hW.alike).kept hq, (h2.moved hW.alike).kept hq, h3.moved hW.alike, h4.moved hW.alike, h5.moved hW.alike, h6.warm hW, (h7.moved hW.alike).kept hq, (h8.moved hW.alike).kept hq, h9.moved hW.alike, h10.warmC hW, (h11.moved hW.alike).kept hq⟩
theorem q_S.call {base : Nat} {tc : Nat → ClassId} {U : State} (g : JFrame) (mk : MethodId) (a : Array Value) (h : q_S base tc U) : q_S base tc (U.calling g mk a) := h.moved (U := U.calling g mk a) (State.WarmedH.refl U) (fun _ _ => rfl)
theorem q_P.blind {base sz : Nat} {D : va_G} {tc : Nat → ClassId} {h : q_H} {av : List Value} : FrameBlind (va_Pc av (q_P base sz D tc h)) := by
  intro a U g mk q
  obtain ⟨q0, q1, q2, q3⟩ := q
  exact ⟨q0, q1, va_K.moved (u := U) (U := U.calling g mk a) (Vm.Alike.refl U.vm) q2, q3.call g mk a⟩
/-- the room of a method's walk, and its locals -/
def q_Rm (Γ : q_G) (nl fr lo mc ms : Nat) : Prop := Γ.2.2.2.1 = nl ∧ Γ.1.2.2.2.1 = { frames := fr, cells := mc, slots := ms, locals := lo }
section QC
variable {p : Program} {l : Launch} {e : Env} {R : Room} {s : State} {m : MethodId} {args : Array Value} {below : List Frame} {meth : Method} {c : Code} {H : Heap} {locs : List Loc} {cells slots : Nat} {Q : State → Prop}
theorem q_run {mc ms base sz' pc : Nat} {D : va_G} {tc : Nat → ClassId} {h' : q_H} {ret : Option FieldType} {rv : Option Value} {a : Array Value} {ls : Array Slot} {st0 rest : List Value}
    (hr : va_Run p l e R s m args below meth c H locs cells slots mc ms (F0 m pc ls st0) rest (q_Q base sz' D tc h' ret rv a) (q_A base)) (hS : va_S (q_A base) s.heap H locs)
    (kk : ∀ (H1 : Heap) (locs1 : List Loc), q_nar ret rv → q_R base sz' D tc h' H1 → va_S (q_A base) s.heap H1 locs1 → W p l e R s m args below meth c H1 locs1 (cells + mc) (slots + ms) Q (F0 m (pc + 3) ls (rv.toList ++ rest))) : W p l e R s m args below meth c H locs cells slots Q (F0 m pc ls st0) := by
  intro T hT X
  obtain ⟨v, st₀, t, T', L, h0, X', hL, e1, e2, ⟨hv, hn, hp, hz, hk⟩, st⟩ := hr T hT X
  cases hv
  rw [h0] at hz hk
  obtain ⟨t2, a1, b1⟩ := kk T'.heap (locs ++ L) hn (by rw [e1]; exact hp.1)
    ⟨Nat.le_trans hS.1 (by rw [e1]; exact hz), fun q h1 h2 => by rw [e1, hk q (Nat.lt_of_lt_of_le h1 hS.1) h2]; exact hS.2.1 q h1 h2, fun q hq => by
      rcases List.mem_append.mp hq with h | h
      · exact hS.2.2 q h
      · exact hL q h⟩ T' rfl X'
  exact ⟨t2, st t2 a1, b1⟩
end QC
/-- a method of ours that is called: its words are in the table; n parameters -/
def q_Y (y : MethodName) (cc : ByteArray) (maxL : Nat) (ret : Option FieldType) (n : Nat) : Prop := Cond.code y cc maxL ret ∈ q_T ∧ Cond.initialized y.cls ∈ q_T ∧ (y.cls ≠ "java/lang/invoke/MethodHandle" ∧ y.cls ≠ "java/lang/invoke/VarHandle" ∧ (parseMethodDescriptor y.desc).map (fun d => d.parameters.length) = some n)
/-- .. by its receiver's class, of number ci -/
def q_Yv (y : MethodName) (ci : Nat) : Prop := Cond.instanceMethod y ∈ q_T ∧ Cond.selects y.cls y y ∈ q_T ∧ ∃ (T : u_T) (N : Nat), vwCl[ci]? = some (y.cls, T, N) ∧ ci < 13
/-- what is called is an object of that class -/
def q_ca {α : Type} (ci : Nat) (h : q_H) (b : Nat) (o : Option α) : Option α := match h b with
  | .inr x => if x.1 = ci then o else none
  | .inl _ => none
theorem q_ca_spec {α : Type} {ci b : Nat} {h : q_H} {o : Option α} {r : α} (e : q_ca ci h b o = some r) : (∃ fs, h b = .inr (ci, fs)) ∧ o = some r := by
  unfold q_ca at e
  split at e
  · next x hx =>
    split at e
    · next hc => exact ⟨⟨x.2, by rw [hx, ← hc]⟩, e⟩
    · cases e
  · cases e
section QD
variable {Γ : q_G} {cc : ByteArray} {own : String} {sz sz' cells slots : Nat} {h h' : q_H} {lv : List (Nat × Value)} {rest st0 As : List Value} {pc b ci idx nl fr lo mc ms fr' lo' mc' ms' n maxL : Nat} {y : MethodName} {cY : ByteArray} {ret : Option FieldType} {rv : Option Value}
theorem q_cB {R : Room} {s : State} {args : Array Value} (hts : ∀ w ∈ q_T, w.before args s = true) (Y : q_Y y cY maxL ret n) (hl : Cond.methodLink own idx y ∈ q_T) (hR : R = { frames := fr, cells := mc, slots := ms, locals := lo }) (hf : fr' + 1 ≤ fr ∧ 8 + (maxL + 11) + lo' ≤ lo) :
    CallB R s args own idx y cY maxL ret (Cond.code y cY maxL ret :: q_T) { frames := fr', cells := mc', slots := ms', locals := lo' } mc' ms' n := by
  refine callB_of n hts (fun w hw => ?_) rfl rfl rfl (hts _ Y.2.1) (hts _ hl) Y.2.2 (by rw [hR]; exact hf)
  rcases List.mem_cons.mp hw with h | h
  · rw [h]; exact ⟨Y.1, q_good _ Y.1⟩
  · exact ⟨h, q_good _ h⟩
theorem q_pre {base : Nat} {D : va_G} {tc : Nat → ClassId} {s : State} {H : Heap} {locs : List Loc} (hK : va_K D vwCl (q_tys tc) s) (hbs : base ≤ s.heap.size) (hS0 : q_S base tc s) (hR : q_R base sz D tc h H) (hS : va_S (q_A base) s.heap H locs) : ∀ U : State, U.heap = H → s.WarmedH U.vm → q_P base sz D tc h U := by
  intro U hU hW
  refine ⟨by rw [hU]; exact hR, va_K.moved hW.alike hK, hS0.moved hW (fun q hq => ?_)⟩
  rw [hU]
  exact hS.2.1 q (Nat.lt_of_lt_of_le hq hbs) (Nat.not_le.mpr hq)
theorem q_callv (C : q_C Γ cc own) (Rm : q_Rm Γ nl fr lo mc ms) (Y : q_Y y cY maxL ret n) (Yv : q_Yv y ci) (hl : Cond.methodLink own idx y ∈ q_T) (hf : fr' + 1 ≤ fr ∧ 8 + (maxL + 11) + lo' ≤ lo) (hc : cells + mc' ≤ mc ∧ slots + ms' ≤ ms)
    (hM : q_M Γ.1.2.1 y cY maxL ret fr' lo' mc' ms' Γ.2.2.1 Γ.2.2.2.2.1 Γ.2.2.2.2.2 (.ref b :: As) sz h rv sz' h') (hb : ∃ fs, h b = .inr (ci, fs)) (hn : As.length = n) (hst : st0 = As.reverse ++ .ref b :: rest) (hw : (rest.map fun v => v.category).sum ≤ 8) (hd : decode cc pc = .ok (.invokevirtual idx, 3))
    (kk : q_nar ret rv → q_V Γ sz' (cells + mc') (slots + ms') h' lv (rv.toList ++ rest) (pc + 3)) : q_V Γ sz cells slots h lv st0 pc := by
  obtain ⟨⟨p, l, ev, R, s, m, args, below, meth, c⟩, Q, base, nL, D, tc⟩ := Γ
  obtain ⟨hx, hcb, hml, hown, hts, hK, hbs, hS0⟩ := C
  obtain ⟨-, hRm⟩ := Rm
  obtain ⟨y1, y2, T, N, y3, y4⟩ := Yv
  obtain ⟨fs, hb⟩ := hb
  dsimp only at hRm hM
  intro H locs ls hR hS hl'
  obtain ⟨q0, hq⟩ := q_at hR (by rw [hb]; exact q_obj_ne y4)
  rw [hb] at hq
  subst hst
  exact q_run (va_runV (As := As) (rest := rest) ⟨hx, hcb, hml, hown, hts⟩ hM ⟨q_cB hts Y hl hRm hf, hts _ y1, hts _ y2⟩ ⟨q_P.blind, va_recv hK hR.2.2.1 y3 hq, fun U hU hW => ⟨rfl, q_pre hK hbs hS0 hR hS U hU hW⟩⟩ rfl hn hl'.1 rfl (lv_room hw) hd (by rw [hRm]; exact hc)) hS (fun H1 locs1 hnar hR1 hS1 => kk hnar H1 locs1 ls hR1 hS1 hl')
theorem q_calls (C : q_C Γ cc own) (Rm : q_Rm Γ nl fr lo mc ms) (Y : q_Y y cY maxL ret n) (Ys : Cond.static y ∈ q_T) (hl : Cond.methodLink own idx y ∈ q_T) (hf : fr' + 1 ≤ fr ∧ 8 + (maxL + 11) + lo' ≤ lo) (hc : cells + mc' ≤ mc ∧ slots + ms' ≤ ms)
    (hM : q_M Γ.1.2.1 y cY maxL ret fr' lo' mc' ms' Γ.2.2.1 Γ.2.2.2.2.1 Γ.2.2.2.2.2 As sz h rv sz' h') (hn : As.length = n) (hst : st0 = As.reverse ++ rest) (hw : (rest.map fun v => v.category).sum ≤ 8) (hd : decode cc pc = .ok (.invokestatic idx, 3))
    (kk : q_nar ret rv → q_V Γ sz' (cells + mc') (slots + ms') h' lv (rv.toList ++ rest) (pc + 3)) : q_V Γ sz cells slots h lv st0 pc := by
  obtain ⟨⟨p, l, ev, R, s, m, args, below, meth, c⟩, Q, base, nL, D, tc⟩ := Γ
  obtain ⟨hx, hcb, hml, hown, hts, hK, hbs, hS0⟩ := C
  obtain ⟨-, hRm⟩ := Rm
  dsimp only at hRm hM
  intro H locs ls hR hS hl'
  subst hst
  exact q_run (va_runS (As := As) (rest := rest) ⟨hx, hcb, hml, hown, hts⟩ hM ⟨q_cB hts Y hl hRm hf, hts _ Ys⟩ ⟨q_P.blind, fun U hU hW => ⟨rfl, q_pre hK hbs hS0 hR hS U hU hW⟩⟩ rfl hn hl'.1 rfl (lv_room hw) hd (by rw [hRm]; exact hc)) hS (fun H1 locs1 hnar hR1 hS1 => kk hnar H1 locs1 ls hR1 hS1 hl')
theorem q_calln (C : q_C Γ cc own) (Rm : q_Rm Γ nl fr lo mc ms) (Y : q_Y y cY maxL none n) (Yi : y.name = "<init>" ∧ Cond.instanceMethod y ∈ q_T) (hl : Cond.methodLink own idx y ∈ q_T) (hf : fr' + 1 ≤ fr ∧ 8 + (maxL + 11) + lo' ≤ lo) (hc : cells + mc' ≤ mc ∧ slots + ms' ≤ ms)
    (hM : q_M Γ.1.2.1 y cY maxL none fr' lo' mc' ms' Γ.2.2.1 Γ.2.2.2.2.1 Γ.2.2.2.2.2 (.ref b :: As) sz h none sz' h') (hn : As.length = n) (hst : st0 = As.reverse ++ .ref b :: rest) (hw : (rest.map fun v => v.category).sum ≤ 8) (hd : decode cc pc = .ok (.invokespecial idx, 3))
    (kk : q_V Γ sz' (cells + mc') (slots + ms') h' lv rest (pc + 3)) : q_V Γ sz cells slots h lv st0 pc := by
  obtain ⟨⟨p, l, ev, R, s, m, args, below, meth, c⟩, Q, base, nL, D, tc⟩ := Γ
  obtain ⟨hx, hcb, hml, hown, hts, hK, hbs, hS0⟩ := C
  obtain ⟨-, hRm⟩ := Rm
  dsimp only at hRm hM
  intro H locs ls hR hS hl'
  subst hst
  exact q_run (va_runI (As := As) (rest := rest) ⟨hx, hcb, hml, hown, hts⟩ hM ⟨q_cB hts Y hl hRm hf, Yi.1, hts _ Yi.2⟩ ⟨q_P.blind, fun U hU hW => ⟨rfl, q_pre hK hbs hS0 hR hS U hU hW⟩⟩ rfl hn hl'.1 rfl (lv_room hw) hd (by rw [hRm]; exact hc)) hS (fun H1 locs1 hnar hR1 hS1 => kk H1 locs1 ls hR1 hS1 hl')
theorem q_widen {k n : Nat} (h1 : cells ≤ k) (h2 : slots ≤ n) (kk : q_V Γ sz k n h lv rest pc) : q_V Γ sz cells slots h lv rest pc := by
  obtain ⟨⟨p, l, ev, R, s, m, args, below, meth, c⟩, Q, base, nL, D, tc⟩ := Γ
  intro H locs ls hR hS hl'
  exact W.widen h1 h2 (kk H locs ls hR hS hl')
end QD
/-! ===== a method from its entry ===== -/
section QE
variable {l : Launch} {y : MethodName} {cc : ByteArray} {maxL : Nat} {ret : Option FieldType} {fr lo mc ms base : Nat} {D : va_G} {tc : Nat → ClassId} {av : List Value} {sz sz' : Nat} {h h' : q_H} {rv : Option Value}
/-- what a method's body starts from -/
def q_B (Γ : q_G) (l : Launch) (y : MethodName) (cc : ByteArray) (maxL : Nat) (fr lo mc ms base : Nat) (D : va_G) (tc : Nat → ClassId) : Prop := q_C Γ cc y.cls ∧ q_Rm Γ maxL fr lo mc ms ∧ Γ.1.2.1 = l ∧ Γ.2.2.1 = base ∧ Γ.2.2.2.2.1 = D ∧ Γ.2.2.2.2.2 = tc ∧ Γ.1.2.2.2.2.2.2.2.2.1.name = y.name
theorem q_start {i : Instr} {vs : List Value} (hy : plainName y.cls = true) (hlen : (lg_sl av).length ≤ maxL)
    (hend : ∀ (p : Program) (ev : Env) (R : Room) (s : State) (m : MethodId) (args : Array Value) (below : List Frame) (meth : Method) (c : Code) (H : Heap) (locs : List Loc) (pc : Nat) (ls : Array Slot), p.tables.exec = Jvm.exec → c.code = cc → meth.sig.returnType = ret → meth.locks = false → q_nar ret rv → (∀ t : State, t.heap = H → s.WarmedH t.vm → q_Q base sz' D tc h' ret rv args s (.returned rv) t) → (∀ q ∈ locs, q_A base q.base) → decode cc pc = .ok (i, 1) →
      W p l ev R s m args below meth c H locs mc ms (MQ below (q_Q base sz' D tc h' ret rv) args s mc ms (q_A base)) (F0 m pc ls vs))
    (body : ∀ Γ : q_G, q_B Γ l y cc maxL fr lo mc ms base D tc → (q_nar ret rv → q_K Γ cc i sz' h' mc ms vs) → q_V Γ sz 0 0 h (lv_args 0 av) [] 0) : q_M l y cc maxL ret fr lo mc ms base D tc av sz h rv sz' h' := by
  refine Met.ofW (cc := cc) (maxL := maxL) (ret := ret) hy rfl ?_
  intro p ev s m args below meth c s₁ B hml hv
  obtain ⟨rfl, hR, hK, hS0⟩ := hv
  have hts0 := atoms_spec (ws := Cond.code y cc maxL ret :: q_T) B.pre
  have hts : ∀ w ∈ q_T, w.before av.toArray s = true := fun w hw => hts0 w (List.mem_cons_of_mem _ hw)
  have hown : s.vm.findClass y.cls = some m.cls := findClass_of_methodNamed B.named
  have hbs : base ≤ s.heap.size := by rw [hR.1]; exact hR.2.1
  have hl := lv_entry av (n := maxL) hlen
  rw [lg_entry_eq]
  generalize (lg_sl av ++ List.replicate (maxL - (lg_sl av).length) Slot.unset).toArray = ls at hl ⊢
  refine body ((p, l, ev, _, s, m, av.toArray, below, meth, c), _, base, maxL, D, tc) ⟨⟨B.exec, B.bytes, hml, hown, hts, hK, hbs, hS0⟩, ⟨rfl, rfl⟩, rfl, rfl, rfl, rfl, (name_of_methodNamed B.named B.method).1⟩ ?_ s.heap [] ls hR va_S.rf hl
  intro hnar pc H locs ls hd hR1 hS1
  refine hend p ev _ s m av.toArray below meth c H locs pc ls B.exec B.bytes B.returns B.notSynchronized hnar (fun t ht hW => ⟨rfl, hnar, q_pre hK hbs hS0 hR1 hS1 t ht hW, hS1.F ht⟩) hS1.2.2 hd
theorem q_starti {r : Int32} {rt : FieldType} (hy : plainName y.cls = true) (hlen : (lg_sl av).length ≤ maxL)
    (body : ∀ Γ : q_G, q_B Γ l y cc maxL fr lo mc ms base D tc → (narrow rt (.int r) = .int r → q_K Γ cc .ireturn sz' h' mc ms [.int r]) → q_V Γ sz 0 0 h (lv_args 0 av) [] 0) : q_M l y cc maxL (some rt) fr lo mc ms base D tc av sz h (some (.int r)) sz' h' :=
  q_start hy hlen (fun p ev R s m args below meth c H locs pc ls hx hb hr hlk hn hq hf hd => W.zret (hlocks := hlk) hx hb hr (hn rt r rfl rfl) hq hf hd) (fun Γ B K => body Γ B (fun hnar => K (fun rt' x e1 e2 => by cases e1; cases e2; exact hnar)))
theorem q_startl {r : Int64} (hy : plainName y.cls = true) (hlen : (lg_sl av).length ≤ maxL)
    (body : ∀ Γ : q_G, q_B Γ l y cc maxL fr lo mc ms base D tc → q_K Γ cc .lreturn sz' h' mc ms [.long r] → q_V Γ sz 0 0 h (lv_args 0 av) [] 0) : q_M l y cc maxL (some .long) fr lo mc ms base D tc av sz h (some (.long r)) sz' h' :=
  q_start hy hlen (fun p ev R s m args below meth c H locs pc ls hx hb hr hlk hn hq hf hd => W.lret (hlocks := hlk) hx hb hr hq hf hd) (fun Γ B K => body Γ B (K (fun rt' x e1 e2 => by cases e2)))
theorem q_startv (hy : plainName y.cls = true) (hlen : (lg_sl av).length ≤ maxL)
    (body : ∀ Γ : q_G, q_B Γ l y cc maxL fr lo mc ms base D tc → q_K Γ cc .return_ sz' h' mc ms [] → q_V Γ sz 0 0 h (lv_args 0 av) [] 0) : q_M l y cc maxL none fr lo mc ms base D tc av sz h none sz' h' :=
  q_start hy hlen (fun p ev R s m args below meth c H locs pc ls hx hb hr hlk hn hq hf hd => W.vret (hlocks := hlk) hx hb hr hq hf hd) (fun Γ B K => body Γ B (K (fun rt' x e1 e2 => by cases e1)))
theorem q_starta {r : Option Nat} {rt : FieldType} (hrt : (∃ n, rt = .object n) ∨ ∃ t, rt = .array t) (hy : plainName y.cls = true) (hlen : (lg_sl av).length ≤ maxL)
    (body : ∀ Γ : q_G, q_B Γ l y cc maxL fr lo mc ms base D tc → q_K Γ cc .areturn sz' h' mc ms [va_rf r] → q_V Γ sz 0 0 h (lv_args 0 av) [] 0) : q_M l y cc maxL (some rt) fr lo mc ms base D tc av sz h (some (va_rf r)) sz' h' :=
  q_start hy hlen (fun p ev R s m args below meth c H locs pc ls hx hb hr hlk hn hq hf hd => W.aret (hlocks := hlk) hx hb hr hrt (by cases r with | none => exact Or.inl rfl | some a => exact Or.inr ⟨a, rfl⟩) hq hf hd) (fun Γ B K => body Γ B (K (fun rt' x e1 e2 => by cases r <;> cases e2)))
end QE
/-! ===== calls as the models write them ===== -/
section QF
variable {Γ : q_G} {cc : ByteArray} {own : String} {sz cells slots : Nat} {h : q_H} {lv : List (Nat × Value)} {rest st0 As : List Value} {pc b ci idx nl fr lo mc ms fr' lo' n maxL : Nat} {y : MethodName} {cY : ByteArray} {α : Type} {ρ : α}
theorem q_viS (C : q_C Γ cc own) (Rm : q_Rm Γ nl fr lo mc ms) {rt : FieldType} (Y : q_Y y cY maxL (some rt) n) (Yv : q_Yv y ci) (hl : Cond.methodLink own idx y ∈ q_T) (hf : fr' + 1 ≤ fr ∧ 8 + (maxL + 11) + lo' ≤ lo) (hc : cells + 0 ≤ mc ∧ slots + 0 ≤ ms) {o : Option (Int32 × q_H)} {f : Int32 × q_H → Option α} (hm : (q_ca ci h b o).bind f = some ρ)
    (hM : ∀ (r : Int32) (h1 : q_H), o = some (r, h1) → q_M Γ.1.2.1 y cY maxL (some rt) fr' lo' 0 0 Γ.2.2.1 Γ.2.2.2.2.1 Γ.2.2.2.2.2 (.ref b :: As) sz h (some (.int r)) sz h1) (hn : As.length = n) (hst : st0 = As.reverse ++ .ref b :: rest) (hw : (rest.map fun v => v.category).sum ≤ 8) (hd : decode cc pc = .ok (.invokevirtual idx, 3))
    (kk : ∀ (r : Int32) (h1 : q_H), f (r, h1) = some ρ → narrow rt (.int r) = .int r → q_V Γ sz cells slots h1 lv (.int r :: rest) (pc + 3)) : q_V Γ sz cells slots h lv st0 pc := by
  obtain ⟨⟨r, h1⟩, e, hm⟩ := q_b hm
  obtain ⟨hb, e⟩ := q_ca_spec e
  exact q_callv C Rm Y Yv hl hf hc (hM r h1 e) hb hn hst hw hd (fun hz => kk r h1 hm (hz rt r rfl rfl))
theorem q_viP (C : q_C Γ cc own) (Rm : q_Rm Γ nl fr lo mc ms) {rt : FieldType} (Y : q_Y y cY maxL (some rt) n) (Yv : q_Yv y ci) (hl : Cond.methodLink own idx y ∈ q_T) (hf : fr' + 1 ≤ fr ∧ 8 + (maxL + 11) + lo' ≤ lo) (hc : cells + 0 ≤ mc ∧ slots + 0 ≤ ms) {o : Option Int32} {f : Int32 → Option α} (hm : (q_ca ci h b o).bind f = some ρ)
    (hM : ∀ (r : Int32), o = some r → q_M Γ.1.2.1 y cY maxL (some rt) fr' lo' 0 0 Γ.2.2.1 Γ.2.2.2.2.1 Γ.2.2.2.2.2 (.ref b :: As) sz h (some (.int r)) sz h) (hn : As.length = n) (hst : st0 = As.reverse ++ .ref b :: rest) (hw : (rest.map fun v => v.category).sum ≤ 8) (hd : decode cc pc = .ok (.invokevirtual idx, 3))
    (kk : ∀ (r : Int32), f r = some ρ → narrow rt (.int r) = .int r → q_V Γ sz cells slots h lv (.int r :: rest) (pc + 3)) : q_V Γ sz cells slots h lv st0 pc := by
  obtain ⟨r, e, hm⟩ := q_b hm
  obtain ⟨hb, e⟩ := q_ca_spec e
  exact q_callv C Rm Y Yv hl hf hc (hM r e) hb hn hst hw hd (fun hz => kk r hm (hz rt r rfl rfl))
theorem q_vlS (C : q_C Γ cc own) (Rm : q_Rm Γ nl fr lo mc ms) (Y : q_Y y cY maxL (some .long) n) (Yv : q_Yv y ci) (hl : Cond.methodLink own idx y ∈ q_T) (hf : fr' + 1 ≤ fr ∧ 8 + (maxL + 11) + lo' ≤ lo) (hc : cells + 0 ≤ mc ∧ slots + 0 ≤ ms) {o : Option (Int64 × q_H)} {f : Int64 × q_H → Option α} (hm : (q_ca ci h b o).bind f = some ρ)
    (hM : ∀ (r : Int64) (h1 : q_H), o = some (r, h1) → q_M Γ.1.2.1 y cY maxL (some .long) fr' lo' 0 0 Γ.2.2.1 Γ.2.2.2.2.1 Γ.2.2.2.2.2 (.ref b :: As) sz h (some (.long r)) sz h1) (hn : As.length = n) (hst : st0 = As.reverse ++ .ref b :: rest) (hw : (rest.map fun v => v.category).sum ≤ 8) (hd : decode cc pc = .ok (.invokevirtual idx, 3))
    (kk : ∀ (r : Int64) (h1 : q_H), f (r, h1) = some ρ → q_V Γ sz cells slots h1 lv (.long r :: rest) (pc + 3)) : q_V Γ sz cells slots h lv st0 pc := by
  obtain ⟨⟨r, h1⟩, e, hm⟩ := q_b hm
  obtain ⟨hb, e⟩ := q_ca_spec e
  exact q_callv C Rm Y Yv hl hf hc (hM r h1 e) hb hn hst hw hd (fun hz => kk r h1 hm)
theorem q_vlP (C : q_C Γ cc own) (Rm : q_Rm Γ nl fr lo mc ms) (Y : q_Y y cY maxL (some .long) n) (Yv : q_Yv y ci) (hl : Cond.methodLink own idx y ∈ q_T) (hf : fr' + 1 ≤ fr ∧ 8 + (maxL + 11) + lo' ≤ lo) (hc : cells + 0 ≤ mc ∧ slots + 0 ≤ ms) {o : Option Int64} {f : Int64 → Option α} (hm : (q_ca ci h b o).bind f = some ρ)
    (hM : ∀ (r : Int64), o = some r → q_M Γ.1.2.1 y cY maxL (some .long) fr' lo' 0 0 Γ.2.2.1 Γ.2.2.2.2.1 Γ.2.2.2.2.2 (.ref b :: As) sz h (some (.long r)) sz h) (hn : As.length = n) (hst : st0 = As.reverse ++ .ref b :: rest) (hw : (rest.map fun v => v.category).sum ≤ 8) (hd : decode cc pc = .ok (.invokevirtual idx, 3))
    (kk : ∀ (r : Int64), f r = some ρ → q_V Γ sz cells slots h lv (.long r :: rest) (pc + 3)) : q_V Γ sz cells slots h lv st0 pc := by
  obtain ⟨r, e, hm⟩ := q_b hm
  obtain ⟨hb, e⟩ := q_ca_spec e
  exact q_callv C Rm Y Yv hl hf hc (hM r e) hb hn hst hw hd (fun hz => kk r hm)
theorem q_vvS (C : q_C Γ cc own) (Rm : q_Rm Γ nl fr lo mc ms) (Y : q_Y y cY maxL none n) (Yv : q_Yv y ci) (hl : Cond.methodLink own idx y ∈ q_T) (hf : fr' + 1 ≤ fr ∧ 8 + (maxL + 11) + lo' ≤ lo) (hc : cells + 0 ≤ mc ∧ slots + 0 ≤ ms) {o : Option q_H} {f : q_H → Option α} (hm : (q_ca ci h b o).bind f = some ρ)
    (hM : ∀ (h1 : q_H), o = some h1 → q_M Γ.1.2.1 y cY maxL none fr' lo' 0 0 Γ.2.2.1 Γ.2.2.2.2.1 Γ.2.2.2.2.2 (.ref b :: As) sz h none sz h1) (hn : As.length = n) (hst : st0 = As.reverse ++ .ref b :: rest) (hw : (rest.map fun v => v.category).sum ≤ 8) (hd : decode cc pc = .ok (.invokevirtual idx, 3))
    (kk : ∀ (h1 : q_H), f h1 = some ρ → q_V Γ sz cells slots h1 lv rest (pc + 3)) : q_V Γ sz cells slots h lv st0 pc := by
  obtain ⟨h1, e, hm⟩ := q_b hm
  obtain ⟨hb, e⟩ := q_ca_spec e
  exact q_callv C Rm Y Yv hl hf hc (hM h1 e) hb hn hst hw hd (fun hz => kk h1 hm)
theorem q_viT (C : q_C Γ cc own) (Rm : q_Rm Γ nl fr lo mc ms) {rt : FieldType} (Y : q_Y y cY maxL (some rt) n) (Yv : q_Yv y ci) (hl : Cond.methodLink own idx y ∈ q_T) (hf : fr' + 1 ≤ fr ∧ 8 + (maxL + 11) + lo' ≤ lo) (hc : cells + 0 ≤ mc ∧ slots + 0 ≤ ms) {v : Int32} {f : Int32 → Option α} (hm : (q_ca ci h b (some v)).bind f = some ρ)
    (hM : q_M Γ.1.2.1 y cY maxL (some rt) fr' lo' 0 0 Γ.2.2.1 Γ.2.2.2.2.1 Γ.2.2.2.2.2 (.ref b :: As) sz h (some (.int v)) sz h) (hn : As.length = n) (hst : st0 = As.reverse ++ .ref b :: rest) (hw : (rest.map fun v => v.category).sum ≤ 8) (hd : decode cc pc = .ok (.invokevirtual idx, 3))
    (kk : ∀ (r : Int32), f r = some ρ → narrow rt (.int r) = .int r → q_V Γ sz cells slots h lv (.int r :: rest) (pc + 3)) : q_V Γ sz cells slots h lv st0 pc :=
  q_viP C Rm Y Yv hl hf hc hm (fun r e => by cases e; exact hM) hn hst hw hd kk
theorem q_siP (C : q_C Γ cc own) (Rm : q_Rm Γ nl fr lo mc ms) {rt : FieldType} (Y : q_Y y cY maxL (some rt) n) (Ys : Cond.static y ∈ q_T) (hl : Cond.methodLink own idx y ∈ q_T) (hf : fr' + 1 ≤ fr ∧ 8 + (maxL + 11) + lo' ≤ lo) (hc : cells + 0 ≤ mc ∧ slots + 0 ≤ ms) {o : Option Int32} {f : Int32 → Option α} (hm : o.bind f = some ρ)
    (hM : ∀ (r : Int32), o = some r → q_M Γ.1.2.1 y cY maxL (some rt) fr' lo' 0 0 Γ.2.2.1 Γ.2.2.2.2.1 Γ.2.2.2.2.2 As sz h (some (.int r)) sz h) (hn : As.length = n) (hst : st0 = As.reverse ++ rest) (hw : (rest.map fun v => v.category).sum ≤ 8) (hd : decode cc pc = .ok (.invokestatic idx, 3))
    (kk : ∀ (r : Int32), f r = some ρ → narrow rt (.int r) = .int r → q_V Γ sz cells slots h lv (.int r :: rest) (pc + 3)) : q_V Γ sz cells slots h lv st0 pc := by
  obtain ⟨r, e, hm⟩ := q_b hm
  exact q_calls C Rm Y Ys hl hf hc (hM r e) hn hst hw hd (fun hz => kk r hm (hz rt r rfl rfl))
theorem q_siT (C : q_C Γ cc own) (Rm : q_Rm Γ nl fr lo mc ms) {rt : FieldType} (Y : q_Y y cY maxL (some rt) n) (Ys : Cond.static y ∈ q_T) (hl : Cond.methodLink own idx y ∈ q_T) (hf : fr' + 1 ≤ fr ∧ 8 + (maxL + 11) + lo' ≤ lo) (hc : cells + 0 ≤ mc ∧ slots + 0 ≤ ms) {v : Int32}
    (hM : q_M Γ.1.2.1 y cY maxL (some rt) fr' lo' 0 0 Γ.2.2.1 Γ.2.2.2.2.1 Γ.2.2.2.2.2 As sz h (some (.int v)) sz h) (hn : As.length = n) (hst : st0 = As.reverse ++ rest) (hw : (rest.map fun v => v.category).sum ≤ 8) (hd : decode cc pc = .ok (.invokestatic idx, 3))
    (kk : narrow rt (.int v) = .int v → q_V Γ sz cells slots h lv (.int v :: rest) (pc + 3)) : q_V Γ sz cells slots h lv st0 pc :=
  q_calls C Rm Y Ys hl hf hc hM hn hst hw hd (fun hz => kk (hz rt v rfl rfl))
theorem q_slP (C : q_C Γ cc own) (Rm : q_Rm Γ nl fr lo mc ms) (Y : q_Y y cY maxL (some .long) n) (Ys : Cond.static y ∈ q_T) (hl : Cond.methodLink own idx y ∈ q_T) (hf : fr' + 1 ≤ fr ∧ 8 + (maxL + 11) + lo' ≤ lo) (hc : cells + 0 ≤ mc ∧ slots + 0 ≤ ms) {o : Option Int64} {f : Int64 → Option α} (hm : o.bind f = some ρ)
    (hM : ∀ (r : Int64), o = some r → q_M Γ.1.2.1 y cY maxL (some .long) fr' lo' 0 0 Γ.2.2.1 Γ.2.2.2.2.1 Γ.2.2.2.2.2 As sz h (some (.long r)) sz h) (hn : As.length = n) (hst : st0 = As.reverse ++ rest) (hw : (rest.map fun v => v.category).sum ≤ 8) (hd : decode cc pc = .ok (.invokestatic idx, 3))
    (kk : ∀ (r : Int64), f r = some ρ → q_V Γ sz cells slots h lv (.long r :: rest) (pc + 3)) : q_V Γ sz cells slots h lv st0 pc := by
  obtain ⟨r, e, hm⟩ := q_b hm
  exact q_calls C Rm Y Ys hl hf hc (hM r e) hn hst hw hd (fun hz => kk r hm)
theorem q_slT (C : q_C Γ cc own) (Rm : q_Rm Γ nl fr lo mc ms) (Y : q_Y y cY maxL (some .long) n) (Ys : Cond.static y ∈ q_T) (hl : Cond.methodLink own idx y ∈ q_T) (hf : fr' + 1 ≤ fr ∧ 8 + (maxL + 11) + lo' ≤ lo) (hc : cells + 0 ≤ mc ∧ slots + 0 ≤ ms) {v : Int64}
    (hM : q_M Γ.1.2.1 y cY maxL (some .long) fr' lo' 0 0 Γ.2.2.1 Γ.2.2.2.2.1 Γ.2.2.2.2.2 As sz h (some (.long v)) sz h) (hn : As.length = n) (hst : st0 = As.reverse ++ rest) (hw : (rest.map fun v => v.category).sum ≤ 8) (hd : decode cc pc = .ok (.invokestatic idx, 3))
    (kk : q_V Γ sz cells slots h lv (.long v :: rest) (pc + 3)) : q_V Γ sz cells slots h lv st0 pc :=
  q_calls C Rm Y Ys hl hf hc hM hn hst hw hd (fun _ => kk)
/-! switches -/
theorem q_tsIn (C : q_C Γ cc own) {dflt lo hi : Int} {offs : Array Int} {len : Nat} {x : Int32} (off : Int) (tgt : Nat) (hd : decode cc pc = .ok (.tableswitch dflt lo hi offs, len)) (h1 : ¬ x.toInt < lo) (h2 : ¬ hi < x.toInt) (ho : offs[(x.toInt - lo).toNat]? = some off) (ht : (pc : Int) + off = (tgt : Int)) (k : q_V Γ sz cells slots h lv rest tgt) : q_V Γ sz cells slots h lv (.int x :: rest) pc := by
  obtain ⟨⟨p, l, ev, R, s, m, args, below, meth, c⟩, Q, base, nL, D, tc⟩ := Γ
  obtain ⟨hx, hcb, hml, hown, hts, hK, hbs, hS0⟩ := C
  intro H locs ls hR hS hl'
  exact lv_tableIn hx hcb hd h1 h2 ho ht (k H locs ls hR hS hl')
theorem q_tsOut (C : q_C Γ cc own) {dflt lo hi : Int} {offs : Array Int} {len : Nat} {x : Int32} (tgt : Nat) (hd : decode cc pc = .ok (.tableswitch dflt lo hi offs, len)) (h1 : x.toInt < lo ∨ hi < x.toInt) (ht : (pc : Int) + dflt = (tgt : Int)) (k : q_V Γ sz cells slots h lv rest tgt) : q_V Γ sz cells slots h lv (.int x :: rest) pc := by
  obtain ⟨⟨p, l, ev, R, s, m, args, below, meth, c⟩, Q, base, nL, D, tc⟩ := Γ
  obtain ⟨hx, hcb, hml, hown, hts, hK, hbs, hS0⟩ := C
  intro H locs ls hR hS hl'
  exact lv_tableOut hx hcb hd h1 ht (k H locs ls hR hS hl')
theorem q_ls (C : q_C Γ cc own) {dflt : Int} {ps : Array (Int × Int)} {len : Nat} {x : Int32} (off : Int) (tgt : Nat) (hd : decode cc pc = .ok (.lookupswitch dflt ps, len)) (hp : (ps.toList.zip (ps.toList.drop 1)).all (fun (a, next) => a.1 < next.1) = true) (ho : Op.lookupswitch.offset ps.toList dflt x.toInt = off) (ht : (pc : Int) + off = (tgt : Int)) (k : q_V Γ sz cells slots h lv rest tgt) : q_V Γ sz cells slots h lv (.int x :: rest) pc := by
  obtain ⟨⟨p, l, ev, R, s, m, args, below, meth, c⟩, Q, base, nL, D, tc⟩ := Γ
  obtain ⟨hx, hcb, hml, hown, hts, hK, hbs, hS0⟩ := C
  intro H locs ls hR hS hl'
  exact lv_lookup hx hcb hd hp ho ht (k H locs ls hR hS hl')
end QF
/-- how often a loop may go round -/
def q_fu : Nat := 5000
/-- a truth value -/
def q_zc (x : Int32) : Option Int32 := if x = 0 ∨ x = 1 then some x else none
theorem q_zc_spec {x r : Int32} (e : q_zc x = some r) : r = x ∧ narrow .boolean (.int x) = .int x := by
  unfold q_zc at e
  split at e
  · next hc =>
    cases e
    refine ⟨rfl, ?_⟩
    rcases hc with rfl | rfl <;> decide
  · cases e
theorem q_z0 : narrow .boolean (.int 0) = .int 0 := by decide
theorem q_z1 : narrow .boolean (.int 1) = .int 1 := by decide
theorem q_zi (x : Int32) : narrow .int (.int x) = .int x := rfl

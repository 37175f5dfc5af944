/-! ===== L3: a RULE's text: signs that are written, and VALUES ===== -/
def z_un (K : Nat → Nat) (c v : Nat) : Nat → Nat := fun i => if i = c then v else K i
/-- the class's code j and the reference's signs of RULE r: c of them, m VALUES made -/
def z_cj (j : g_S) (σ : r_S) (r c m : Nat) (K V : Nat → Nat) : Prop := r < 6 ∧ r_I σ 11 = nI r ∧ c ≤ 400 ∧ g_I j 2 = nI c ∧ r_A σ 4 r = nI c ∧ m ≤ 60 ∧ g_I j 8 = nI m ∧ r_I σ 12 = nI m ∧ ∀ i, i < c → g_A j 1 i = nI (K i + 32 * V i) ∧ z_ok (K i) (V i) ∧ r_A σ 3 (400 * r + i) = nI (z_cv (K i) + 16 * V i)
def z_f1 (r : Nat) (σ σ' : r_S) : Prop := (∀ k, k ≠ 3 → k ≠ 4 → r_A σ' k = r_A σ k) ∧ (∀ i, i < 400 * r ∨ 400 * r + 400 ≤ i → r_A σ' 3 i = r_A σ 3 i) ∧ (∀ i, i ≠ r → r_A σ' 4 i = r_A σ 4 i) ∧ (∀ k, k ≠ 8 → k ≠ 9 → k ≠ 10 → k ≠ 12 → r_I σ' k = r_I σ k) ∧ r_L σ' = r_L σ ∧ r_D σ' = r_D σ
def z_f2 (j j' : g_S) : Prop := (∀ k, k ≠ 2 → k ≠ 8 → g_I j' k = g_I j k) ∧ (∀ k, k ≠ 1 → g_A j' k = g_A j k) ∧ g_P j' = g_P j
theorem z_f1_refl (r : Nat) (σ : r_S) : z_f1 r σ σ := ⟨fun _ _ _ => rfl, fun _ _ => rfl, fun _ _ => rfl, fun _ _ _ _ _ => rfl, rfl, rfl⟩
theorem z_f2_refl (j : g_S) : z_f2 j j := ⟨fun _ _ _ => rfl, fun _ _ => rfl, rfl⟩
theorem z_f1_trans {r : Nat} {σ σ1 σ2 : r_S} (A : z_f1 r σ σ1) (B : z_f1 r σ1 σ2) : z_f1 r σ σ2 := ⟨fun k h1 h2 => (B.1 k h1 h2).trans (A.1 k h1 h2), fun i h => (B.2.1 i h).trans (A.2.1 i h), fun i h => (B.2.2.1 i h).trans (A.2.2.1 i h), fun k h1 h2 h3 h4 => (B.2.2.2.1 k h1 h2 h3 h4).trans (A.2.2.2.1 k h1 h2 h3 h4), B.2.2.2.2.1.trans A.2.2.2.2.1, B.2.2.2.2.2.trans A.2.2.2.2.2⟩
theorem z_f2_trans {j j1 j2 : g_S} (A : z_f2 j j1) (B : z_f2 j1 j2) : z_f2 j j2 := ⟨fun k h1 h2 => (B.1 k h1 h2).trans (A.1 k h1 h2), fun k h => (B.2.1 k h).trans (A.2.1 k h), B.2.2.trans A.2.2⟩
theorem z_f1_so (r : Nat) {σ σ' : r_S} (S : z_so σ σ') : z_f1 r σ σ' := ⟨fun k _ _ => S.1 k, fun i _ => by rw [S.1 3], fun i _ => by rw [S.1 4], fun k h1 h2 h3 _ => S.2.1 k h1 h2 h3, S.2.2.1, S.2.2.2⟩
theorem z_cj_so {j : g_S} {σ σ' : r_S} {r c m : Nat} {K V : Nat → Nat} (C : z_cj j σ r c m K V) (S : z_so σ σ') : z_cj j σ' r c m K V := by
  obtain ⟨c1, c2, c3, c4, c5, c6, c7, c8, c9⟩ := C
  exact ⟨c1, (S.2.1 11 (by decide) (by decide) (by decide)).trans c2, c3, c4, by rw [S.1 4]; exact c5, c6, c7, (S.2.1 12 (by decide) (by decide) (by decide)).trans c8, fun i hi => by rw [S.1 3]; exact c9 i hi⟩
theorem z_put {j : g_S} {σ : r_S} {r c m k v : Nat} {K V : Nat → Nat} (C : z_cj j σ r c m K V) (hc : c < 400) (hk : z_ok k v) : ∃ j' σ', t_X7_write j (nI k) (nI v) = some j' ∧ t_X12_puts σ (nI (z_cv k)) (nI v) = some σ' ∧ z_cj j' σ' r (c + 1) m (z_un K c k) (z_un V c v) ∧ z_f1 r σ σ' ∧ z_f2 j j' ∧ (∀ q, r_I σ' q = r_I σ q) ∧ g_I j' 8 = g_I j 8 := by
  obtain ⟨c1, c2, c3, c4, c5, c6, c7, c8, c9⟩ := C
  have eA : (400 : Int32) * nI r + nI c = nI (400 * r + c) := by rw [show (400 : Int32) = nI 400 from rfl, pk_mul, nI_add]
  refine ⟨g_si (g_sa j 1 (upd (g_A j 1) c (nI (k + 32 * v)))) 2 (nI (c + 1)), r_sa (r_sa σ 3 (upd (r_A σ 3) (400 * r + c) (nI (z_cv k + 16 * v)))) 4 (upd (r_A σ 4) r (nI (c + 1))), ?_, ?_, ⟨c1, c2, by omega, z_si_I _ _ _, by rw [z_rA, pk_us], c6, (z_si_In (by decide)).trans c7, c8, fun i hi => ?_⟩, ⟨fun k h1 h2 => (z_rAn h2).trans (z_rAn h1), fun i hi => ?_, fun i hi => ?_, fun _ _ _ _ _ => rfl, rfl, rfl⟩, ⟨fun k h1 h2 => z_si_In h1, fun k h => ?_, rfl⟩, fun q => rfl, z_si_In (by decide)⟩
  · unfold t_X7_write
    try dsimp only
    rw [c4, if_neg (show ¬ Int32.ofNat 400 ≤ nI c from nI_ge (b := 400) hc (by decide)), u_si_in hc (by decide), Option.bind_some, show (32 : Int32) = nI 32 from rfl, pk_mul, nI_add, show g_I (g_sa j 1 (upd (g_A j 1) c (nI (k + 32 * v)))) 2 = nI c from c4, nI_1]
  · unfold t_X12_puts
    try dsimp only
    rw [c2, t_ai_in (by omega) (by decide), Option.bind_some, c5, eA, t_si_in (by omega) (by decide), Option.bind_some]
    rw [show r_I (r_sa σ 3 (upd (r_A σ 3) (400 * r + c) (nI (z_cv k) + 16 * nI v))) 11 = nI r from c2, z_rAn (by decide), t_ai_in (by omega) (by decide), Option.bind_some, c5, nI_1, t_si_in (by omega) (by decide), Option.bind_some, z_rAn (by decide), show (16 : Int32) = nI 16 from rfl, pk_mul, nI_add]
  · rw [z_si_A, z_sa_at, z_rAn (by decide), z_rA]
    unfold z_un
    by_cases e : i = c
    · rw [e, pk_us, pk_us, if_pos rfl, if_pos rfl]
      exact ⟨rfl, hk, rfl⟩
    · rw [pk_un e, pk_un (by omega), if_neg e, if_neg e]
      exact c9 i (by omega)
  · rw [z_rAn (by decide), z_rA, pk_un (by omega)]
  · rw [z_rA, pk_un hi]
  · rw [z_si_A, z_sa_of h]
theorem z_rr_lt {d : g_S} {f : Nat → Int32} {N k p : Nat} (R : z_rr d f N k p) (hp : p < N) : k < 400 := by
  obtain ⟨d', -, ⟨T, mm, r1, r2, r3, r4, -⟩, -⟩ := z_next R hp
  omega
theorem z_wordH {d : g_S} {σ : r_S} {f : Nat → Int32} {N k p i : Nat} (Y : z_y d σ f N k p i) : t_X12_wordHere σ = some (if 700 ≤ z_k1 f N p ∧ z_k1 f N p < 711 then nI (z_k1 f N p - 700) else -1, z_nx σ p) := by
  have Y0 := z_y_nx Y
  have en : z_nx (z_nx σ p) p = z_nx σ p := z_nxx _ _ _
  have w0 := z_y_isW Y 0 (w := [112, 117, 108, 108, 101, 114]) rfl (c := 123649632527730) (by decide +kernel)
  have w1 := z_y_isW Y0 1 (w := [115, 105, 100, 101]) rfl (c := 1936286821) (by decide +kernel)
  have w2 := z_y_isW Y0 2 (w := [115, 116, 114, 111, 110, 103]) rfl (c := 126943973305959) (by decide +kernel)
  have w3 := z_y_isW Y0 3 (w := [119, 105, 110, 100]) rfl (c := 2003398244) (by decide +kernel)
  have w4 := z_y_isW Y0 4 (w := [98, 111, 111, 116, 115]) rfl (c := 422776370291) (by decide +kernel)
  have w5 := z_y_isW Y0 5 (w := [112, 108, 97, 99, 101]) rfl (c := 482854658917) (by decide +kernel)
  have w6 := z_y_isW Y0 6 (w := [109, 97, 116, 101, 115]) rfl (c := 469786453363) (by decide +kernel)
  have w7 := z_y_isW Y0 7 (w := [114, 105, 98, 98, 111, 110]) rfl (c := 125796947750766) (by decide +kernel)
  have w8 := z_y_isW Y0 8 (w := [108, 105, 110, 101]) rfl (c := 1818848869) (by decide +kernel)
  have w9 := z_y_isW Y0 9 (w := [119, 111, 114, 107, 101, 100]) rfl (c := 131320544716132) (by decide +kernel)
  have w10 := z_y_isW Y0 10 (w := [104, 101, 97, 118, 101]) rfl (c := 448377484901) (by decide +kernel)
  rw [en] at w1 w2 w3 w4 w5 w6 w7 w8 w9 w10
  generalize z_k1 f N p = K at *
  unfold t_X12_wordHere
  have st : ∀ (j : Nat) (A B : Option (Int32 × r_S)), (K = 700 + j → B = some (if 700 ≤ K ∧ K < 711 then nI (K - 700) else -1, z_nx σ p)) → (K ≠ 700 + j → A = some (if 700 ≤ K ∧ K < 711 then nI (K - 700) else -1, z_nx σ p)) → (if (if K = 700 + j then (1 : Int32) else 0) = 0 then A else B) = some (if 700 ≤ K ∧ K < 711 then nI (K - 700) else -1, z_nx σ p) := fun j A B hB hA => by
    by_cases c : K = 700 + j
    · rw [if_pos c, if_neg (by decide)]
      exact hB c
    · rw [if_neg c, if_pos rfl]
      exact hA c
  have gd : ∀ (j : Nat), j < 11 → K = 700 + j → some (nI j, z_nx σ p) = some (if 700 ≤ K ∧ K < 711 then nI (K - 700) else -1, z_nx σ p) := fun j hj e => by
    rw [if_pos (by omega), e, show 700 + j - 700 = j by omega]
  rw [w0, Option.bind_some]
  refine st 0 _ _ (gd 0 (by decide)) (fun n0 => ?_)
  rw [w1, Option.bind_some]
  refine st 1 _ _ (gd 1 (by decide)) (fun n1 => ?_)
  rw [w2, Option.bind_some]
  refine st 2 _ _ (gd 2 (by decide)) (fun n2 => ?_)
  rw [w3, Option.bind_some]
  refine st 3 _ _ (gd 3 (by decide)) (fun n3 => ?_)
  rw [w4, Option.bind_some]
  refine st 4 _ _ (gd 4 (by decide)) (fun n4 => ?_)
  rw [w5, Option.bind_some]
  refine st 5 _ _ (gd 5 (by decide)) (fun n5 => ?_)
  rw [w6, Option.bind_some]
  refine st 6 _ _ (gd 6 (by decide)) (fun n6 => ?_)
  rw [w7, Option.bind_some]
  refine st 7 _ _ (gd 7 (by decide)) (fun n7 => ?_)
  rw [w8, Option.bind_some]
  refine st 8 _ _ (gd 8 (by decide)) (fun n8 => ?_)
  rw [w9, Option.bind_some]
  refine st 9 _ _ (gd 9 (by decide)) (fun n9 => ?_)
  rw [w10, Option.bind_some]
  refine st 10 _ _ (gd 10 (by decide)) (fun n10 => ?_)
  rw [if_neg (by omega)]

/-! the words that stay good over calls, each by its place in the Statement's lists -/
def q_T : List Cond := lw_tbl.filter goodWord
theorem q_T_in : ∀ w ∈ q_T, w ∈ lw_tbl := fun w h => (List.mem_filter.mp h).1
theorem q_good : ∀ w ∈ q_T, (w.onTables && w.keeps) = true ∨ ∃ ty, w = .arrayClass ty := fun w hw => good_of_word (List.mem_filter.mp hw).2
theorem q_m {w : Cond} (h : w ∈ tables_1) (hg : goodWord w = true) : w ∈ q_T := List.mem_filter.mpr ⟨List.mem_append_right _ h, hg⟩
theorem q_m1 (i : Nat) {w : Cond} (h : tables_1_1[i]? = some w) (hg : goodWord w = true) : w ∈ q_T := q_m (List.mem_append_left _ (List.mem_of_getElem? h)) hg
theorem q_m2 (i : Nat) {w : Cond} (h : tables_1_2[i]? = some w) (hg : goodWord w = true) : w ∈ q_T := q_m (List.mem_append_right _ (List.mem_append_left _ (List.mem_of_getElem? h))) hg
theorem q_m3 (i : Nat) {w : Cond} (h : tables_1_3[i]? = some w) (hg : goodWord w = true) : w ∈ q_T := q_m (List.mem_append_right _ (List.mem_append_right _ (List.mem_append_left _ (List.mem_of_getElem? h)))) hg
theorem q_m4 (i : Nat) {w : Cond} (h : tables_1_4[i]? = some w) (hg : goodWord w = true) : w ∈ q_T := q_m (List.mem_append_right _ (List.mem_append_right _ (List.mem_append_right _ (List.mem_append_left _ (List.mem_of_getElem? h))))) hg
theorem q_m5 (i : Nat) {w : Cond} (h : tables_1_5[i]? = some w) (hg : goodWord w = true) : w ∈ q_T := q_m (List.mem_append_right _ (List.mem_append_right _ (List.mem_append_right _ (List.mem_append_right _ (List.mem_append_left _ (List.mem_of_getElem? h)))))) hg
theorem q_m6 (i : Nat) {w : Cond} (h : tables_1_6[i]? = some w) (hg : goodWord w = true) : w ∈ q_T := q_m (List.mem_append_right _ (List.mem_append_right _ (List.mem_append_right _ (List.mem_append_right _ (List.mem_append_right _ (List.mem_append_left _ (List.mem_of_getElem? h))))))) hg
theorem q_m7 (i : Nat) {w : Cond} (h : tables_1_7[i]? = some w) (hg : goodWord w = true) : w ∈ q_T := q_m (List.mem_append_right _ (List.mem_append_right _ (List.mem_append_right _ (List.mem_append_right _ (List.mem_append_right _ (List.mem_append_right _ (List.mem_append_left _ (List.mem_of_getElem? h)))))))) hg
theorem q_m8 (i : Nat) {w : Cond} (h : tables_1_8[i]? = some w) (hg : goodWord w = true) : w ∈ q_T := q_m (List.mem_append_right _ (List.mem_append_right _ (List.mem_append_right _ (List.mem_append_right _ (List.mem_append_right _ (List.mem_append_right _ (List.mem_append_right _ (List.mem_of_getElem? h)))))))) hg
theorem q_p (i : Nat) {q : MethodName × Nat} (h : lw_privs[i]? = some q) : Cond.selects q.1.cls q.1 q.1 ∈ q_T := List.mem_filter.mpr ⟨List.mem_append_left _ (List.mem_map.mpr ⟨q, List.mem_of_getElem? h, rfl⟩), rfl⟩
theorem q_try1 : Cond.initialized "TugRope" ∈ q_T := q_m1 1 rfl rfl

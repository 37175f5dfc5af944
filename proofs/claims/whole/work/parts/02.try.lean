theorem q_goodw : (lw_tbl.all goodWord) = true := by decide +kernel
theorem q_good : ∀ w ∈ lw_tbl, (w.onTables && w.keeps) = true ∨ ∃ ty, w = .arrayClass ty := fun w hw => good_of_word (List.all_eq_true.mp q_goodw w hw)

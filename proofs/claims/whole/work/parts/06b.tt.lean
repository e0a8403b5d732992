def rx_TT : List Cond := lw_tbl.filter goodWord
theorem rx_TT_good {w : Cond} (h : w ∈ rx_TT) : (w.onTables && w.keeps) = true ∨ ∃ ty, w = .arrayClass ty := good_of_word (List.mem_filter.mp h).2

theorem c_text : p_both (fX8_text 0) (fX9_text 96) := sorry

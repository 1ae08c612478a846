theorem whole_Ag : Ag Inv := ⟨a_letter, a_form, a_acts, a_drop, a_change, a_turn, a_of, a_taken, a_coefficient, a_value, a_lifted, a_fault, a_least, a_failing, a_lowest, a_share, a_proof, a_walls, a_wallsLeast, a_made, a_sum, a_product, a_lift, a_negative, a_on, a_spelled, a_lots, a_list, a_put, a_look, a_lays, a_judge, a_undo, a_image, a_back, a_count⟩
theorem whole_Inv0 : Inv hC0 hM0 := Inv0

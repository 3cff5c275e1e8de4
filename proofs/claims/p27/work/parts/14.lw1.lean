section SNL1
def sm_L_type : sy_S := sy_hI (sy_aR (sy_rL 0) (sy_aI (sy_iL 1) (sy_aI (sy_iL 2) (sy_aI (sy_iL 3) (sy_aI (sy_iL 4) sy_aN))))) (sy_cv 5 4 sf_X5_type) 3
theorem os_L_type : sy_OH (RL, cL_type, some .int, 8, 6, none) 9 [10, 15, 20] sm_L_type := oh_int rfl sy_lk_ok rfl (oa_ref (oa_load_n dL_type_0 rfl) (oa_int (oi_load_n dL_type_1 rfl) (oa_int (oi_load_n dL_type_2 rfl) (oa_int (oi_load_n dL_type_3 rfl) (oa_int (oi_load dL_type_4) oa_nil))))) km_X5_type cv_L_10 (by decide) dL_type_6 (by decide) (by decide) (fun E h1 h2 => by
    rcases (show E = 1 ∨ E = 2 ∨ E = 3 by omega) with rfl | rfl | rfl
    · exact ⟨10, rfl, 12, 14, Or.inr ⟨5, dL_type_10, rfl, by decide⟩, Or.inl ⟨18, _, dL_type_12, li_18, rfl, rfl⟩, ⟨dL_type_14, Or.inl rfl⟩⟩
    · exact ⟨15, rfl, 17, 19, Or.inr ⟨5, dL_type_15, rfl, by decide⟩, Or.inl ⟨21, _, dL_type_17, li_21, rfl, rfl⟩, ⟨dL_type_19, Or.inl rfl⟩⟩
    · exact ⟨20, rfl, 22, 24, Or.inr ⟨5, dL_type_20, rfl, by decide⟩, Or.inl ⟨24, _, dL_type_22, li_24, rfl, rfl⟩, ⟨dL_type_24, Or.inl rfl⟩⟩
    ) dL_type_9
def sf_L_type : List Value → sy_MM (Option Value) := sy_mthN 6 (sy_bd sm_L_type)
theorem km_L_type : sy_KN (.codeWith yL_type cL_type 6 (some .int) (sy_hh 9 [10, 15, 20])) yL_type none 8 1 sf_L_type := sy_knh (by decide +kernel) os_L_type
def sm_L_tie : sy_S := sy_hV (sy_aR (sy_rL 0) (sy_aI (sy_iL 1) (sy_aI (sy_iL 2) (sy_aI (sy_iL 3) (sy_aI (sy_iL 4) sy_aN))))) (sy_cv 5 4 sf_X5_tie) 3
theorem os_L_tie : sy_OH (RL, cL_tie, some .int, 8, 6, none) 10 [11, 16, 21] sm_L_tie := oh_void rfl sy_lk_ok rfl (oa_ref (oa_load_n dL_tie_0 rfl) (oa_int (oi_load_n dL_tie_1 rfl) (oa_int (oi_load_n dL_tie_2 rfl) (oa_int (oi_load_n dL_tie_3 rfl) (oa_int (oi_load dL_tie_4) oa_nil))))) km_X5_tie cv_L_25 (by decide) dL_tie_6 (by decide) (by decide) (fun E h1 h2 => by
    rcases (show E = 1 ∨ E = 2 ∨ E = 3 by omega) with rfl | rfl | rfl
    · exact ⟨11, rfl, 13, 15, Or.inr ⟨5, dL_tie_11, rfl, by decide⟩, Or.inl ⟨18, _, dL_tie_13, li_18, rfl, rfl⟩, ⟨dL_tie_15, Or.inl rfl⟩⟩
    · exact ⟨16, rfl, 18, 20, Or.inr ⟨5, dL_tie_16, rfl, by decide⟩, Or.inl ⟨21, _, dL_tie_18, li_21, rfl, rfl⟩, ⟨dL_tie_20, Or.inl rfl⟩⟩
    · exact ⟨21, rfl, 23, 25, Or.inr ⟨5, dL_tie_21, rfl, by decide⟩, Or.inl ⟨24, _, dL_tie_23, li_24, rfl, rfl⟩, ⟨dL_tie_25, Or.inl rfl⟩⟩
    ) dL_tie_9 dL_tie_10
def sf_L_tie : List Value → sy_MM (Option Value) := sy_mthN 6 (sy_bd sm_L_tie)
theorem km_L_tie : sy_KN (.codeWith yL_tie cL_tie 6 (some .int) (sy_hh 10 [11, 16, 21])) yL_tie none 8 1 sf_L_tie := sy_knh (by decide +kernel) os_L_tie
def sm_L_open : sy_S := sy_hV (sy_aR (sy_rL 0) (sy_aI (sy_iL 1) (sy_aI (sy_iL 2) (sy_aI (sy_iL 3) sy_aN)))) (sy_cv 5 3 sf_X5_open) 2
theorem os_L_open : sy_OH (RL, cL_open, some .int, 8, 5, none) 8 [9, 14] sm_L_open := oh_void rfl sy_lk_ok rfl (oa_ref (oa_load_n dL_open_0 rfl) (oa_int (oi_load_n dL_open_1 rfl) (oa_int (oi_load_n dL_open_2 rfl) (oa_int (oi_load_n dL_open_3 rfl) oa_nil)))) km_X5_open cv_L_29 (by decide) dL_open_4 (by decide) (by decide) (fun E h1 h2 => by
    rcases (show E = 1 ∨ E = 2 by omega) with rfl | rfl
    · exact ⟨9, rfl, 11, 13, Or.inr ⟨4, dL_open_9, rfl, by decide⟩, Or.inl ⟨18, _, dL_open_11, li_18, rfl, rfl⟩, ⟨dL_open_13, Or.inl rfl⟩⟩
    · exact ⟨14, rfl, 16, 18, Or.inr ⟨4, dL_open_14, rfl, by decide⟩, Or.inl ⟨21, _, dL_open_16, li_21, rfl, rfl⟩, ⟨dL_open_18, Or.inl rfl⟩⟩
    ) dL_open_7 dL_open_8
def sf_L_open : List Value → sy_MM (Option Value) := sy_mthN 5 (sy_bd sm_L_open)
theorem km_L_open : sy_KN (.codeWith yL_open cL_open 5 (some .int) (sy_hh 8 [9, 14])) yL_open none 8 1 sf_L_open := sy_knh (by decide +kernel) os_L_open
def sm_L_argument : sy_S := sy_hI (sy_aR (sy_rL 0) (sy_aI (sy_iL 1) (sy_aI (sy_iL 2) sy_aN))) (sy_cv 5 2 sf_X5_argument) 3
theorem os_L_argument : sy_OH (RL, cL_argument, some .int, 8, 4, none) 6 [7, 11, 15] sm_L_argument := oh_int rfl sy_lk_ok rfl (oa_ref (oa_load_n dL_argument_0 rfl) (oa_int (oi_load_n dL_argument_1 rfl) (oa_int (oi_load_n dL_argument_2 rfl) oa_nil))) km_X5_argument cv_L_33 (by decide) dL_argument_3 (by decide) (by decide) (fun E h1 h2 => by
    rcases (show E = 1 ∨ E = 2 ∨ E = 3 by omega) with rfl | rfl | rfl
    · exact ⟨7, rfl, 8, 10, Or.inl ⟨3, dL_argument_7, rfl, by decide⟩, Or.inl ⟨18, _, dL_argument_8, li_18, rfl, rfl⟩, ⟨dL_argument_10, Or.inl rfl⟩⟩
    · exact ⟨11, rfl, 12, 14, Or.inl ⟨3, dL_argument_11, rfl, by decide⟩, Or.inl ⟨21, _, dL_argument_12, li_21, rfl, rfl⟩, ⟨dL_argument_14, Or.inl rfl⟩⟩
    · exact ⟨15, rfl, 16, 18, Or.inl ⟨3, dL_argument_15, rfl, by decide⟩, Or.inl ⟨24, _, dL_argument_16, li_24, rfl, rfl⟩, ⟨dL_argument_18, Or.inl rfl⟩⟩
    ) dL_argument_6
def sf_L_argument : List Value → sy_MM (Option Value) := sy_mthN 4 (sy_bd sm_L_argument)
theorem km_L_argument : sy_KN (.codeWith yL_argument cL_argument 4 (some .int) (sy_hh 6 [7, 11, 15])) yL_argument none 8 1 sf_L_argument := sy_knh (by decide +kernel) os_L_argument
def sm_L_condition : sy_S := sy_hI (sy_aR (sy_rL 0) (sy_aI (sy_iL 1) (sy_aI (sy_iL 2) (sy_aI (sy_iL 3) (sy_aI (sy_iL 4) sy_aN))))) (sy_cv 5 4 sf_X5_condition) 3
theorem os_L_condition : sy_OH (RL, cL_condition, some .int, 8, 6, none) 9 [10, 15, 20] sm_L_condition := oh_int rfl sy_lk_ok rfl (oa_ref (oa_load_n dL_condition_0 rfl) (oa_int (oi_load_n dL_condition_1 rfl) (oa_int (oi_load_n dL_condition_2 rfl) (oa_int (oi_load_n dL_condition_3 rfl) (oa_int (oi_load dL_condition_4) oa_nil))))) km_X5_condition cv_L_37 (by decide) dL_condition_6 (by decide) (by decide) (fun E h1 h2 => by
    rcases (show E = 1 ∨ E = 2 ∨ E = 3 by omega) with rfl | rfl | rfl
    · exact ⟨10, rfl, 12, 14, Or.inr ⟨5, dL_condition_10, rfl, by decide⟩, Or.inl ⟨18, _, dL_condition_12, li_18, rfl, rfl⟩, ⟨dL_condition_14, Or.inl rfl⟩⟩
    · exact ⟨15, rfl, 17, 19, Or.inr ⟨5, dL_condition_15, rfl, by decide⟩, Or.inl ⟨21, _, dL_condition_17, li_21, rfl, rfl⟩, ⟨dL_condition_19, Or.inl rfl⟩⟩
    · exact ⟨20, rfl, 22, 24, Or.inr ⟨5, dL_condition_20, rfl, by decide⟩, Or.inl ⟨24, _, dL_condition_22, li_24, rfl, rfl⟩, ⟨dL_condition_24, Or.inl rfl⟩⟩
    ) dL_condition_9
def sf_L_condition : List Value → sy_MM (Option Value) := sy_mthN 6 (sy_bd sm_L_condition)
theorem km_L_condition : sy_KN (.codeWith yL_condition cL_condition 6 (some .int) (sy_hh 9 [10, 15, 20])) yL_condition none 8 1 sf_L_condition := sy_knh (by decide +kernel) os_L_condition
def sm_L_put : sy_S := sy_hI (sy_aR (sy_rL 0) (sy_aI (sy_iL 1) (sy_aI (sy_iL 2) (sy_aI (sy_iL 3) sy_aN)))) (sy_cv 5 3 sf_X5_put) 2
theorem os_L_put : sy_OH (RL, cL_put, some .int, 8, 5, none) 7 [8, 13] sm_L_put := oh_int rfl sy_lk_ok rfl (oa_ref (oa_load_n dL_put_0 rfl) (oa_int (oi_load_n dL_put_1 rfl) (oa_int (oi_load_n dL_put_2 rfl) (oa_int (oi_load_n dL_put_3 rfl) oa_nil)))) km_X5_put cv_L_41 (by decide) dL_put_4 (by decide) (by decide) (fun E h1 h2 => by
    rcases (show E = 1 ∨ E = 2 by omega) with rfl | rfl
    · exact ⟨8, rfl, 10, 12, Or.inr ⟨4, dL_put_8, rfl, by decide⟩, Or.inl ⟨18, _, dL_put_10, li_18, rfl, rfl⟩, ⟨dL_put_12, Or.inl rfl⟩⟩
    · exact ⟨13, rfl, 15, 17, Or.inr ⟨4, dL_put_13, rfl, by decide⟩, Or.inl ⟨21, _, dL_put_15, li_21, rfl, rfl⟩, ⟨dL_put_17, Or.inl rfl⟩⟩
    ) dL_put_7
def sf_L_put : List Value → sy_MM (Option Value) := sy_mthN 5 (sy_bd sm_L_put)
theorem km_L_put : sy_KN (.codeWith yL_put cL_put 5 (some .int) (sy_hh 7 [8, 13])) yL_put none 8 1 sf_L_put := sy_knh (by decide +kernel) os_L_put
def sm_L_area : sy_S := sy_hI (sy_aR (sy_rL 0) (sy_aI (sy_iL 1) (sy_aI (sy_iL 2) sy_aN))) (sy_cv 5 2 sf_X5_area) 1
theorem os_L_area : sy_OH (RL, cL_area, some .int, 8, 4, none) 6 [7] sm_L_area := oh_int rfl sy_lk_ok rfl (oa_ref (oa_load_n dL_area_0 rfl) (oa_int (oi_load_n dL_area_1 rfl) (oa_int (oi_load_n dL_area_2 rfl) oa_nil))) km_X5_area cv_L_45 (by decide) dL_area_3 (by decide) (by decide) (fun E h1 h2 => by
    rcases (show E = 1 by omega) with rfl
    · exact ⟨7, rfl, 8, 10, Or.inl ⟨3, dL_area_7, rfl, by decide⟩, Or.inl ⟨18, _, dL_area_8, li_18, rfl, rfl⟩, ⟨dL_area_10, Or.inl rfl⟩⟩
    ) dL_area_6
def sf_L_area : List Value → sy_MM (Option Value) := sy_mthN 4 (sy_bd sm_L_area)
theorem km_L_area : sy_KN (.codeWith yL_area cL_area 4 (some .int) (sy_hh 6 [7])) yL_area none 8 1 sf_L_area := sy_knh (by decide +kernel) os_L_area
def sm_L_get : sy_S := sy_hI (sy_aR (sy_rL 0) (sy_aI (sy_iL 1) (sy_aI (sy_iL 2) (sy_aI (sy_iL 3) sy_aN)))) (sy_cv 5 3 sf_X5_get) 2
theorem os_L_get : sy_OH (RL, cL_get, some .int, 9, 5, none) 7 [8, 13] sm_L_get := oh_int rfl sy_lk_ok rfl (oa_ref (oa_load_n dL_get_0 rfl) (oa_int (oi_load_n dL_get_1 rfl) (oa_int (oi_load_n dL_get_2 rfl) (oa_int (oi_load_n dL_get_3 rfl) oa_nil)))) km_X5_get cv_L_48 (by decide) dL_get_4 (by decide) (by decide) (fun E h1 h2 => by
    rcases (show E = 1 ∨ E = 2 by omega) with rfl | rfl
    · exact ⟨8, rfl, 10, 12, Or.inr ⟨4, dL_get_8, rfl, by decide⟩, Or.inl ⟨18, _, dL_get_10, li_18, rfl, rfl⟩, ⟨dL_get_12, Or.inl rfl⟩⟩
    · exact ⟨13, rfl, 15, 17, Or.inr ⟨4, dL_get_13, rfl, by decide⟩, Or.inl ⟨21, _, dL_get_15, li_21, rfl, rfl⟩, ⟨dL_get_17, Or.inl rfl⟩⟩
    ) dL_get_7
def sf_L_get : List Value → sy_MM (Option Value) := sy_mthN 5 (sy_bd sm_L_get)
theorem km_L_get : sy_KN (.codeWith yL_get cL_get 5 (some .int) (sy_hh 7 [8, 13])) yL_get none 9 1 sf_L_get := sy_knh (by decide +kernel) os_L_get
def sm_L_insert : sy_S := sy_hI (sy_aR (sy_rL 0) (sy_aI (sy_iL 1) sy_aN)) (sy_cv 5 1 sf_X5_insert) 1
theorem os_L_insert : sy_OH (RL, cL_insert, some .int, 9, 3, none) 5 [6] sm_L_insert := oh_int rfl sy_lk_ok rfl (oa_ref (oa_load_n dL_insert_0 rfl) (oa_int (oi_load_n dL_insert_1 rfl) oa_nil)) km_X5_insert cv_L_52 (by decide) dL_insert_2 (by decide) (by decide) (fun E h1 h2 => by
    rcases (show E = 1 by omega) with rfl
    · exact ⟨6, rfl, 7, 9, Or.inl ⟨2, dL_insert_6, rfl, by decide⟩, Or.inl ⟨18, _, dL_insert_7, li_18, rfl, rfl⟩, ⟨dL_insert_9, Or.inl rfl⟩⟩
    ) dL_insert_5
def sf_L_insert : List Value → sy_MM (Option Value) := sy_mthN 3 (sy_bd sm_L_insert)
theorem km_L_insert : sy_KN (.codeWith yL_insert cL_insert 3 (some .int) (sy_hh 5 [6])) yL_insert none 9 1 sf_L_insert := sy_knh (by decide +kernel) os_L_insert
def sm_L_replace : sy_S := sy_hI (sy_aR (sy_rL 0) (sy_aI (sy_iL 1) sy_aN)) (sy_cv 5 1 sf_X5_replace) 1
theorem os_L_replace : sy_OH (RL, cL_replace, some .int, 9, 3, none) 5 [6] sm_L_replace := oh_int rfl sy_lk_ok rfl (oa_ref (oa_load_n dL_replace_0 rfl) (oa_int (oi_load_n dL_replace_1 rfl) oa_nil)) km_X5_replace cv_L_56 (by decide) dL_replace_2 (by decide) (by decide) (fun E h1 h2 => by
    rcases (show E = 1 by omega) with rfl
    · exact ⟨6, rfl, 7, 9, Or.inl ⟨2, dL_replace_6, rfl, by decide⟩, Or.inl ⟨18, _, dL_replace_7, li_18, rfl, rfl⟩, ⟨dL_replace_9, Or.inl rfl⟩⟩
    ) dL_replace_5
def sf_L_replace : List Value → sy_MM (Option Value) := sy_mthN 3 (sy_bd sm_L_replace)
theorem km_L_replace : sy_KN (.codeWith yL_replace cL_replace 3 (some .int) (sy_hh 5 [6])) yL_replace none 9 1 sf_L_replace := sy_knh (by decide +kernel) os_L_replace
def sm_L_delete : sy_S := sy_hI (sy_aR (sy_rL 0) (sy_aI (sy_iL 1) sy_aN)) (sy_cv 5 1 sf_X5_delete) 1
theorem os_L_delete : sy_OH (RL, cL_delete, some .int, 8, 3, none) 5 [6] sm_L_delete := oh_int rfl sy_lk_ok rfl (oa_ref (oa_load_n dL_delete_0 rfl) (oa_int (oi_load_n dL_delete_1 rfl) oa_nil)) km_X5_delete cv_L_59 (by decide) dL_delete_2 (by decide) (by decide) (fun E h1 h2 => by
    rcases (show E = 1 by omega) with rfl
    · exact ⟨6, rfl, 7, 9, Or.inl ⟨2, dL_delete_6, rfl, by decide⟩, Or.inl ⟨18, _, dL_delete_7, li_18, rfl, rfl⟩, ⟨dL_delete_9, Or.inl rfl⟩⟩
    ) dL_delete_5
def sf_L_delete : List Value → sy_MM (Option Value) := sy_mthN 3 (sy_bd sm_L_delete)
theorem km_L_delete : sy_KN (.codeWith yL_delete cL_delete 3 (some .int) (sy_hh 5 [6])) yL_delete none 8 1 sf_L_delete := sy_knh (by decide +kernel) os_L_delete
def sm_L_count : sy_S := sy_hI (sy_aR (sy_rL 0) (sy_aI (sy_iL 1) sy_aN)) (sy_cv 5 1 sf_X5_count) 1
theorem os_L_count : sy_OH (RL, cL_count, some .int, 8, 3, none) 5 [6] sm_L_count := oh_int rfl sy_lk_ok rfl (oa_ref (oa_load_n dL_count_0 rfl) (oa_int (oi_load_n dL_count_1 rfl) oa_nil)) km_X5_count cv_L_62 (by decide) dL_count_2 (by decide) (by decide) (fun E h1 h2 => by
    rcases (show E = 1 by omega) with rfl
    · exact ⟨6, rfl, 7, 9, Or.inl ⟨2, dL_count_6, rfl, by decide⟩, Or.inl ⟨18, _, dL_count_7, li_18, rfl, rfl⟩, ⟨dL_count_9, Or.inl rfl⟩⟩
    ) dL_count_5
def sf_L_count : List Value → sy_MM (Option Value) := sy_mthN 3 (sy_bd sm_L_count)
theorem km_L_count : sy_KN (.codeWith yL_count cL_count 3 (some .int) (sy_hh 5 [6])) yL_count none 8 1 sf_L_count := sy_knh (by decide +kernel) os_L_count
def sm_L_rowAt : sy_S := sy_hI (sy_aR (sy_rL 0) (sy_aI (sy_iL 1) (sy_aI (sy_iL 2) sy_aN))) (sy_cv 5 2 sf_X5_rowAt) 1
theorem os_L_rowAt : sy_OH (RL, cL_rowAt, some .int, 8, 4, none) 6 [7] sm_L_rowAt := oh_int rfl sy_lk_ok rfl (oa_ref (oa_load_n dL_rowAt_0 rfl) (oa_int (oi_load_n dL_rowAt_1 rfl) (oa_int (oi_load_n dL_rowAt_2 rfl) oa_nil))) km_X5_rowAt cv_L_65 (by decide) dL_rowAt_3 (by decide) (by decide) (fun E h1 h2 => by
    rcases (show E = 1 by omega) with rfl
    · exact ⟨7, rfl, 8, 10, Or.inl ⟨3, dL_rowAt_7, rfl, by decide⟩, Or.inl ⟨18, _, dL_rowAt_8, li_18, rfl, rfl⟩, ⟨dL_rowAt_10, Or.inl rfl⟩⟩
    ) dL_rowAt_6
def sf_L_rowAt : List Value → sy_MM (Option Value) := sy_mthN 4 (sy_bd sm_L_rowAt)
theorem km_L_rowAt : sy_KN (.codeWith yL_rowAt cL_rowAt 4 (some .int) (sy_hh 6 [7])) yL_rowAt none 8 1 sf_L_rowAt := sy_knh (by decide +kernel) os_L_rowAt
def sm_L_rowAnew : sy_S := sy_hI (sy_aR (sy_rL 0) (sy_aI (sy_iL 1) (sy_aI (sy_iL 2) sy_aN))) (sy_cv 5 2 sf_X5_rowAnew) 1
theorem os_L_rowAnew : sy_OH (RL, cL_rowAnew, some .int, 8, 4, none) 6 [7] sm_L_rowAnew := oh_int rfl sy_lk_ok rfl (oa_ref (oa_load_n dL_rowAnew_0 rfl) (oa_int (oi_load_n dL_rowAnew_1 rfl) (oa_int (oi_load_n dL_rowAnew_2 rfl) oa_nil))) km_X5_rowAnew cv_L_68 (by decide) dL_rowAnew_3 (by decide) (by decide) (fun E h1 h2 => by
    rcases (show E = 1 by omega) with rfl
    · exact ⟨7, rfl, 8, 10, Or.inl ⟨3, dL_rowAnew_7, rfl, by decide⟩, Or.inl ⟨18, _, dL_rowAnew_8, li_18, rfl, rfl⟩, ⟨dL_rowAnew_10, Or.inl rfl⟩⟩
    ) dL_rowAnew_6
def sf_L_rowAnew : List Value → sy_MM (Option Value) := sy_mthN 4 (sy_bd sm_L_rowAnew)
theorem km_L_rowAnew : sy_KN (.codeWith yL_rowAnew cL_rowAnew 4 (some .int) (sy_hh 6 [7])) yL_rowAnew none 8 1 sf_L_rowAnew := sy_knh (by decide +kernel) os_L_rowAnew
def sm_L_fieldAt : sy_S := sy_hI (sy_aR (sy_rL 0) (sy_aI (sy_iL 1) (sy_aI (sy_iL 2) (sy_aI (sy_iL 3) sy_aN)))) (sy_cv 5 3 sf_X5_fieldAt) 1
theorem os_L_fieldAt : sy_OH (RL, cL_fieldAt, some .int, 8, 5, none) 7 [8] sm_L_fieldAt := oh_int rfl sy_lk_ok rfl (oa_ref (oa_load_n dL_fieldAt_0 rfl) (oa_int (oi_load_n dL_fieldAt_1 rfl) (oa_int (oi_load_n dL_fieldAt_2 rfl) (oa_int (oi_load_n dL_fieldAt_3 rfl) oa_nil)))) km_X5_fieldAt cv_L_71 (by decide) dL_fieldAt_4 (by decide) (by decide) (fun E h1 h2 => by
    rcases (show E = 1 by omega) with rfl
    · exact ⟨8, rfl, 10, 12, Or.inr ⟨4, dL_fieldAt_8, rfl, by decide⟩, Or.inl ⟨18, _, dL_fieldAt_10, li_18, rfl, rfl⟩, ⟨dL_fieldAt_12, Or.inl rfl⟩⟩
    ) dL_fieldAt_7
def sf_L_fieldAt : List Value → sy_MM (Option Value) := sy_mthN 5 (sy_bd sm_L_fieldAt)
theorem km_L_fieldAt : sy_KN (.codeWith yL_fieldAt cL_fieldAt 5 (some .int) (sy_hh 7 [8])) yL_fieldAt none 8 1 sf_L_fieldAt := sy_knh (by decide +kernel) os_L_fieldAt
def sm_L_place : sy_S := sy_hI (sy_aR (sy_rL 0) (sy_aI (sy_iL 1) sy_aN)) (sy_cv 5 1 sf_X5_at) 1
theorem os_L_place : sy_OH (RL, cL_place, some .int, 8, 3, none) 5 [6] sm_L_place := oh_int rfl sy_lk_ok rfl (oa_ref (oa_load_n dL_place_0 rfl) (oa_int (oi_load_n dL_place_1 rfl) oa_nil)) km_X5_at cv_L_74 (by decide) dL_place_2 (by decide) (by decide) (fun E h1 h2 => by
    rcases (show E = 1 by omega) with rfl
    · exact ⟨6, rfl, 7, 9, Or.inl ⟨2, dL_place_6, rfl, by decide⟩, Or.inl ⟨18, _, dL_place_7, li_18, rfl, rfl⟩, ⟨dL_place_9, Or.inl rfl⟩⟩
    ) dL_place_5
def sf_L_place : List Value → sy_MM (Option Value) := sy_mthN 3 (sy_bd sm_L_place)
theorem km_L_place : sy_KN (.codeWith yL_place cL_place 3 (some .int) (sy_hh 5 [6])) yL_place none 8 1 sf_L_place := sy_knh (by decide +kernel) os_L_place
def sm_L_ahead : sy_S := sy_hI (sy_aR (sy_rL 0) (sy_aI (sy_iL 1) sy_aN)) (sy_cv 5 1 sf_X5_ahead) 1
theorem os_L_ahead : sy_OH (RL, cL_ahead, some .int, 8, 3, none) 5 [6] sm_L_ahead := oh_int rfl sy_lk_ok rfl (oa_ref (oa_load_n dL_ahead_0 rfl) (oa_int (oi_load_n dL_ahead_1 rfl) oa_nil)) km_X5_ahead cv_L_77 (by decide) dL_ahead_2 (by decide) (by decide) (fun E h1 h2 => by
    rcases (show E = 1 by omega) with rfl
    · exact ⟨6, rfl, 7, 9, Or.inl ⟨2, dL_ahead_6, rfl, by decide⟩, Or.inl ⟨18, _, dL_ahead_7, li_18, rfl, rfl⟩, ⟨dL_ahead_9, Or.inl rfl⟩⟩
    ) dL_ahead_5
def sf_L_ahead : List Value → sy_MM (Option Value) := sy_mthN 3 (sy_bd sm_L_ahead)
theorem km_L_ahead : sy_KN (.codeWith yL_ahead cL_ahead 3 (some .int) (sy_hh 5 [6])) yL_ahead none 8 1 sf_L_ahead := sy_knh (by decide +kernel) os_L_ahead
def sm_L_parent : sy_S := sy_hI (sy_aR (sy_rL 0) (sy_aI (sy_iL 1) sy_aN)) (sy_cv 5 1 sf_X5_parent) 1
theorem os_L_parent : sy_OH (RL, cL_parent, some .int, 8, 3, none) 5 [6] sm_L_parent := oh_int rfl sy_lk_ok rfl (oa_ref (oa_load_n dL_parent_0 rfl) (oa_int (oi_load_n dL_parent_1 rfl) oa_nil)) km_X5_parent cv_L_80 (by decide) dL_parent_2 (by decide) (by decide) (fun E h1 h2 => by
    rcases (show E = 1 by omega) with rfl
    · exact ⟨6, rfl, 7, 9, Or.inl ⟨2, dL_parent_6, rfl, by decide⟩, Or.inl ⟨18, _, dL_parent_7, li_18, rfl, rfl⟩, ⟨dL_parent_9, Or.inl rfl⟩⟩
    ) dL_parent_5
def sf_L_parent : List Value → sy_MM (Option Value) := sy_mthN 3 (sy_bd sm_L_parent)
theorem km_L_parent : sy_KN (.codeWith yL_parent cL_parent 3 (some .int) (sy_hh 5 [6])) yL_parent none 8 1 sf_L_parent := sy_knh (by decide +kernel) os_L_parent
def sm_L_holds : sy_S := sy_hI (sy_aR (sy_rL 0) (sy_aI (sy_iL 1) sy_aN)) (sy_cv 5 1 sf_X5_holds) 1
theorem os_L_holds : sy_OH (RL, cL_holds, some .int, 8, 3, none) 5 [6] sm_L_holds := oh_int rfl sy_lk_ok rfl (oa_ref (oa_load_n dL_holds_0 rfl) (oa_int (oi_load_n dL_holds_1 rfl) oa_nil)) km_X5_holds cv_L_83 (by decide) dL_holds_2 (by decide) (by decide) (fun E h1 h2 => by
    rcases (show E = 1 by omega) with rfl
    · exact ⟨6, rfl, 7, 9, Or.inl ⟨2, dL_holds_6, rfl, by decide⟩, Or.inl ⟨18, _, dL_holds_7, li_18, rfl, rfl⟩, ⟨dL_holds_9, Or.inl rfl⟩⟩
    ) dL_holds_5
def sf_L_holds : List Value → sy_MM (Option Value) := sy_mthN 3 (sy_bd sm_L_holds)
theorem km_L_holds : sy_KN (.codeWith yL_holds cL_holds 3 (some .int) (sy_hh 5 [6])) yL_holds none 8 1 sf_L_holds := sy_knh (by decide +kernel) os_L_holds
def sm_L_second : sy_S := sy_hI (sy_aR (sy_rL 0) (sy_aI (sy_iL 1) sy_aN)) (sy_cv 5 1 sf_X5_second) 1
theorem os_L_second : sy_OH (RL, cL_second, some .int, 8, 3, none) 5 [6] sm_L_second := oh_int rfl sy_lk_ok rfl (oa_ref (oa_load_n dL_second_0 rfl) (oa_int (oi_load_n dL_second_1 rfl) oa_nil)) km_X5_second cv_L_86 (by decide) dL_second_2 (by decide) (by decide) (fun E h1 h2 => by
    rcases (show E = 1 by omega) with rfl
    · exact ⟨6, rfl, 7, 9, Or.inl ⟨2, dL_second_6, rfl, by decide⟩, Or.inl ⟨18, _, dL_second_7, li_18, rfl, rfl⟩, ⟨dL_second_9, Or.inl rfl⟩⟩
    ) dL_second_5
def sf_L_second : List Value → sy_MM (Option Value) := sy_mthN 3 (sy_bd sm_L_second)
theorem km_L_second : sy_KN (.codeWith yL_second cL_second 3 (some .int) (sy_hh 5 [6])) yL_second none 8 1 sf_L_second := sy_knh (by decide +kernel) os_L_second
def sm_L_tied : sy_S := sy_hI (sy_aR (sy_rL 0) (sy_aI (sy_iL 1) sy_aN)) (sy_cv 5 1 sf_X5_tied) 1
theorem os_L_tied : sy_OH (RL, cL_tied, some .int, 8, 3, none) 5 [6] sm_L_tied := oh_int rfl sy_lk_ok rfl (oa_ref (oa_load_n dL_tied_0 rfl) (oa_int (oi_load_n dL_tied_1 rfl) oa_nil)) km_X5_tied cv_L_89 (by decide) dL_tied_2 (by decide) (by decide) (fun E h1 h2 => by
    rcases (show E = 1 by omega) with rfl
    · exact ⟨6, rfl, 7, 9, Or.inl ⟨2, dL_tied_6, rfl, by decide⟩, Or.inl ⟨18, _, dL_tied_7, li_18, rfl, rfl⟩, ⟨dL_tied_9, Or.inl rfl⟩⟩
    ) dL_tied_5
def sf_L_tied : List Value → sy_MM (Option Value) := sy_mthN 3 (sy_bd sm_L_tied)
theorem km_L_tied : sy_KN (.codeWith yL_tied cL_tied 3 (some .int) (sy_hh 5 [6])) yL_tied none 8 1 sf_L_tied := sy_knh (by decide +kernel) os_L_tied
def sm_L_keys : sy_S := sy_hL (sy_aR (sy_rL 0) (sy_aI (sy_iL 1) sy_aN)) (sy_cv 5 1 sf_X5_keys) 1
theorem os_L_keys : sy_OH (RL, cL_keys, some .long, 8, 3, none) 5 [6] sm_L_keys := oh_long rfl sy_lk_ok rfl (oa_ref (oa_load_n dL_keys_0 rfl) (oa_int (oi_load_n dL_keys_1 rfl) oa_nil)) km_X5_keys cv_L_92 (by decide) dL_keys_2 (by decide) (by decide) (fun E h1 h2 => by
    rcases (show E = 1 by omega) with rfl
    · exact ⟨6, rfl, 7, 10, Or.inl ⟨2, dL_keys_6, rfl, by decide⟩, Or.inr ⟨96, _, dL_keys_7, ll_96, rfl, rfl⟩, ⟨dL_keys_10, rfl⟩⟩
    ) dL_keys_5
def sf_L_keys : List Value → sy_MM (Option Value) := sy_mthN 3 (sy_bd sm_L_keys)
theorem km_L_keys : sy_KN (.codeWith yL_keys cL_keys 3 (some .long) (sy_hh 5 [6])) yL_keys none 8 1 sf_L_keys := sy_knh (by decide +kernel) os_L_keys
end SNL1

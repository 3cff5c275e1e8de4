section SYI1
/-- SegmentYard.isIn -/
def sm_X5_isIn : sy_S := (sy_eZ (sy_iC (sy_cA (sy_cge (sy_iL 0) (sy_iK 0)) (sy_clt (sy_iL 0) (sy_iL 1)))))
set_option maxRecDepth 100000 in
set_option maxHeartbeats 4000000 in
theorem os_X5_isIn : sy_OS (RX5, cX5_isIn, (some .boolean), 1, 2) 0 0 sm_X5_isIn := (os_retZ (oi_ofC (tgt := 14) (oc_and (oc_ge0F (tgt := 13) (oi_load_n dX5_isIn_0 rfl) dX5_isIn_1 rfl) (oc_ltF (tgt := 13) (oi_load_n dX5_isIn_4 rfl) (oi_load_n dX5_isIn_5 rfl) dX5_isIn_6 rfl)) dX5_isIn_9 dX5_isIn_10 rfl dX5_isIn_13 rfl) dX5_isIn_14 rfl)
def sf_X5_isIn : List Value → sy_MM (Option Value) := sy_mth 2 (sy_bd sm_X5_isIn)
theorem km_X5_isIn : sy_KM yX5_isIn cX5_isIn 2 (some .boolean) 1 sf_X5_isIn := sy_km (by decide +kernel) (by decide) os_X5_isIn
/-- SegmentYard$Schema.isType -/
def sm_X2_isType : sy_S := (sy_eZ (sy_iC (sy_cA (sy_cge (sy_iL 1) (sy_iK 0)) (sy_clt (sy_iL 1) (sy_iF 2 0 (sy_rL 0))))))
set_option maxRecDepth 100000 in
set_option maxHeartbeats 4000000 in
theorem os_X2_isType : sy_OS (RX2, cX2_isType, (some .boolean), 1, 2) 0 0 sm_X2_isType := (os_retZ (oi_ofC (tgt := 17) (oc_and (oc_ge0F (tgt := 16) (oi_load_n dX2_isType_0 rfl) dX2_isType_1 rfl) (oc_ltF (tgt := 16) (oi_load_n dX2_isType_4 rfl) (oi_get (oa_load_n dX2_isType_5 rfl) fi_X2_9 dX2_isType_6) dX2_isType_9 rfl)) dX2_isType_12 dX2_isType_13 rfl dX2_isType_16 rfl) dX2_isType_17 rfl)
def sf_X2_isType : List Value → sy_MM (Option Value) := sy_mth 2 (sy_bd sm_X2_isType)
theorem km_X2_isType : sy_KM yX2_isType cX2_isType 2 (some .boolean) 1 sf_X2_isType := sy_km (by decide +kernel) (by decide) os_X2_isType
/-- SegmentYard.needIndex -/
def sm_X5_needIndex : sy_S := (sy_sQ (sy_sI (sy_cN (sy_cI (sy_iL 0))) (sy_eT 1) sy_sN) sy_eV)
set_option maxRecDepth 100000 in
set_option maxHeartbeats 4000000 in
theorem os_X5_needIndex : sy_OS (RX5, cX5_needIndex, none, 6, 1) 0 0 sm_X5_needIndex := (os_seq (os_if (oc_not (oc_nzT (tgt := 14) (oi_load_n dX5_needIndex_0 rfl) dX5_needIndex_1 rfl)) (os_thr rfl (by decide) ⟨by decide, by decide, (sy_in 328 (by decide +kernel) (by decide +kernel)), (sy_in 103 (by decide +kernel) (by decide +kernel)), th_X5_199_1, th_X5_199_2, th_X5_199_3, by decide +kernel, dX5_needIndex_4, dX5_needIndex_7, dX5_needIndex_8, dX5_needIndex_10, dX5_needIndex_13⟩) os_skip) (os_retV dX5_needIndex_14 rfl))
def sf_X5_needIndex : List Value → sy_MM (Option Value) := sy_mth 1 (sy_bd sm_X5_needIndex)
theorem km_X5_needIndex : sy_KM yX5_needIndex cX5_needIndex 1 none 6 sf_X5_needIndex := sy_km (by decide +kernel) (by decide) os_X5_needIndex
/-- SegmentYard$Schema.databaseOf -/
def sm_X2_databaseOf : sy_S := (sy_eI (sy_iQ (sy_cI (sy_iM (sy_cv 2 1 sf_X2_isType) (sy_aR (sy_rL 0) (sy_aI (sy_iL 1) sy_aN)))) (sy_iA 0 (sy_rF 2 1 (sy_rL 0)) (sy_iL 1)) (sy_iK (-1))))
set_option maxRecDepth 100000 in
set_option maxHeartbeats 4000000 in
theorem os_X2_databaseOf : sy_OS (RX2, cX2_databaseOf, (some .int), 2, 2) 0 0 sm_X2_databaseOf := (os_retI (oi_cond (oc_nzF (tgt := 17) (oi_call (oa_ref (oa_load_n dX2_databaseOf_0 rfl) (oa_int (oi_load_n dX2_databaseOf_1 rfl) oa_nil)) (ok_v km_X2_isType cv_X2_44 dX2_databaseOf_2 (by decide) (by decide))) dX2_databaseOf_5 rfl) (oi_goto (tgt := 18) (oi_iald (or_get (oa_load_n dX2_databaseOf_8 rfl) fi_X2_15 dX2_databaseOf_9) (oi_load_n dX2_databaseOf_12 rfl) dX2_databaseOf_13) dX2_databaseOf_14 rfl) (oi_const dX2_databaseOf_17 sy_kc_m1)) dX2_databaseOf_18 rfl)
def sf_X2_databaseOf : List Value → sy_MM (Option Value) := sy_mth 2 (sy_bd sm_X2_databaseOf)
theorem km_X2_databaseOf : sy_KM yX2_databaseOf cX2_databaseOf 2 (some .int) 2 sf_X2_databaseOf := sy_km (by decide +kernel) (by decide) os_X2_databaseOf
/-- SegmentYard.needRange -/
def sm_X5_needRange : sy_S := (sy_sQ (sy_sI (sy_cN (sy_cI (sy_iL 0))) (sy_eT 2) sy_sN) sy_eV)
set_option maxRecDepth 100000 in
set_option maxHeartbeats 4000000 in
theorem os_X5_needRange : sy_OS (RX5, cX5_needRange, none, 6, 1) 0 0 sm_X5_needRange := (os_seq (os_if (oc_not (oc_nzT (tgt := 14) (oi_load_n dX5_needRange_0 rfl) dX5_needRange_1 rfl)) (os_thr rfl (by decide) ⟨by decide, by decide, (sy_in 404 (by decide +kernel) (by decide +kernel)), (sy_in 104 (by decide +kernel) (by decide +kernel)), th_X5_206_1, th_X5_206_2, th_X5_206_3, by decide +kernel, dX5_needRange_4, dX5_needRange_7, dX5_needRange_8, dX5_needRange_10, dX5_needRange_13⟩) os_skip) (os_retV dX5_needRange_14 rfl))
def sf_X5_needRange : List Value → sy_MM (Option Value) := sy_mth 1 (sy_bd sm_X5_needRange)
theorem km_X5_needRange : sy_KM yX5_needRange cX5_needRange 1 none 6 sf_X5_needRange := sy_km (by decide +kernel) (by decide) os_X5_needRange
/-- SegmentYard$Store.countOf -/
def sm_X3_countOf : sy_S := (sy_eI (sy_iQ (sy_cA (sy_cge (sy_iL 1) (sy_iK 0)) (sy_clt (sy_iL 1) (sy_iK 3))) (sy_iA 0 (sy_rF 3 6 (sy_rL 0)) (sy_iL 1)) (sy_iK 0)))
set_option maxRecDepth 100000 in
set_option maxHeartbeats 4000000 in
theorem os_X3_countOf : sy_OS (RX3, cX3_countOf, (some .int), 1, 2) 0 0 sm_X3_countOf := (os_retI (oi_cond (oc_and (oc_ge0F (tgt := 18) (oi_load_n dX3_countOf_0 rfl) dX3_countOf_1 rfl) (oc_ltF (tgt := 18) (oi_load_n dX3_countOf_4 rfl) (oi_const dX3_countOf_5 sy_kc_3) dX3_countOf_6 rfl)) (oi_goto (tgt := 19) (oi_iald (or_get (oa_load_n dX3_countOf_9 rfl) fi_X3_27 dX3_countOf_10) (oi_load_n dX3_countOf_13 rfl) dX3_countOf_14) dX3_countOf_15 rfl) (oi_const dX3_countOf_18 sy_kc_0)) dX3_countOf_19 rfl)
def sf_X3_countOf : List Value → sy_MM (Option Value) := sy_mth 2 (sy_bd sm_X3_countOf)
theorem km_X3_countOf : sy_KM yX3_countOf cX3_countOf 2 (some .int) 1 sf_X3_countOf := sy_km (by decide +kernel) (by decide) os_X3_countOf
/-- SegmentYard.needState -/
def sm_X5_needState : sy_S := (sy_sQ (sy_sI (sy_cN (sy_cI (sy_iL 0))) (sy_eT 3) sy_sN) sy_eV)
set_option maxRecDepth 100000 in
set_option maxHeartbeats 4000000 in
theorem os_X5_needState : sy_OS (RX5, cX5_needState, none, 6, 1) 0 0 sm_X5_needState := (os_seq (os_if (oc_not (oc_nzT (tgt := 14) (oi_load_n dX5_needState_0 rfl) dX5_needState_1 rfl)) (os_thr rfl (by decide) ⟨by decide, by decide, (sy_in 427 (by decide +kernel) (by decide +kernel)), (sy_in 105 (by decide +kernel) (by decide +kernel)), th_X5_211_1, th_X5_211_2, th_X5_211_3, by decide +kernel, dX5_needState_4, dX5_needState_7, dX5_needState_8, dX5_needState_10, dX5_needState_13⟩) os_skip) (os_retV dX5_needState_14 rfl))
def sf_X5_needState : List Value → sy_MM (Option Value) := sy_mth 1 (sy_bd sm_X5_needState)
theorem km_X5_needState : sy_KM yX5_needState cX5_needState 1 none 6 sf_X5_needState := sy_km (by decide +kernel) (by decide) os_X5_needState
/-- SegmentYard$Schema.isRootType -/
def sm_X2_isRootType : sy_S := (sy_eZ (sy_iC (sy_cA (sy_cI (sy_iM (sy_cv 2 1 sf_X2_isType) (sy_aR (sy_rL 0) (sy_aI (sy_iL 1) sy_aN)))) (sy_ceq (sy_iA 0 (sy_rF 2 2 (sy_rL 0)) (sy_iL 1)) (sy_iK (-1))))))
set_option maxRecDepth 100000 in
set_option maxHeartbeats 4000000 in
theorem os_X2_isRootType : sy_OS (RX2, cX2_isRootType, (some .boolean), 2, 2) 0 0 sm_X2_isRootType := (os_retZ (oi_ofC (tgt := 23) (oc_and (oc_nzF (tgt := 22) (oi_call (oa_ref (oa_load_n dX2_isRootType_0 rfl) (oa_int (oi_load_n dX2_isRootType_1 rfl) oa_nil)) (ok_v km_X2_isType cv_X2_44 dX2_isRootType_2 (by decide) (by decide))) dX2_isRootType_5 rfl) (oc_eqF (tgt := 22) (oi_iald (or_get (oa_load_n dX2_isRootType_8 rfl) fi_X2_19 dX2_isRootType_9) (oi_load_n dX2_isRootType_12 rfl) dX2_isRootType_13) (oi_const dX2_isRootType_14 sy_kc_m1) dX2_isRootType_15 rfl)) dX2_isRootType_18 dX2_isRootType_19 rfl dX2_isRootType_22 rfl) dX2_isRootType_23 rfl)
def sf_X2_isRootType : List Value → sy_MM (Option Value) := sy_mth 2 (sy_bd sm_X2_isRootType)
theorem km_X2_isRootType : sy_KM yX2_isRootType cX2_isRootType 2 (some .boolean) 2 sf_X2_isRootType := sy_km (by decide +kernel) (by decide) os_X2_isRootType
/-- SegmentYard$Schema.hasRootType -/
def sm_X2_hasRootType : sy_S := (sy_sQ (sy_sB 2 (sy_sQ (sy_sSI 2 (sy_iK 0)) (sy_wh (sy_clt (sy_iL 2) (sy_iF 2 0 (sy_rL 0))) (sy_sQ (sy_sI (sy_cA (sy_cI (sy_iM (sy_cv 2 1 sf_X2_isRootType) (sy_aR (sy_rL 0) (sy_aI (sy_iL 2) sy_aN)))) (sy_ceq (sy_iM (sy_cv 2 1 sf_X2_databaseOf) (sy_aR (sy_rL 0) (sy_aI (sy_iL 2) sy_aN))) (sy_iL 1))) (sy_eZ (sy_iK 1)) sy_sN) (sy_sIn 2 1)) 1000))) (sy_eZ (sy_iK 0)))
set_option maxRecDepth 100000 in
set_option maxHeartbeats 4000000 in
theorem os_X2_hasRootType : sy_OS (RX2, cX2_hasRootType, (some .boolean), 3, 3) 0 0 sm_X2_hasRootType := (os_seq (os_block (os_seq (os_istore_n (oi_const dX2_hasRootType_0 sy_kc_0) dX2_hasRootType_1 rfl (by decide)) (os_while (oc_ltF (tgt := 35) (oi_load_n dX2_hasRootType_2 rfl) (oi_get (oa_load_n dX2_hasRootType_3 rfl) fi_X2_9 dX2_hasRootType_4) dX2_hasRootType_7 rfl) (os_goto (tgt := 2) (os_seq (os_if (oc_and (oc_nzF (tgt := 29) (oi_call (oa_ref (oa_load_n dX2_hasRootType_10 rfl) (oa_int (oi_load_n dX2_hasRootType_11 rfl) oa_nil)) (ok_v km_X2_isRootType cv_X2_51 dX2_hasRootType_12 (by decide) (by decide))) dX2_hasRootType_15 rfl) (oc_eqF (tgt := 29) (oi_call (oa_ref (oa_load_n dX2_hasRootType_18 rfl) (oa_int (oi_load_n dX2_hasRootType_19 rfl) oa_nil)) (ok_v km_X2_databaseOf cv_X2_54 dX2_hasRootType_20 (by decide) (by decide))) (oi_load_n dX2_hasRootType_23 rfl) dX2_hasRootType_24 rfl)) (os_retZ (oi_const dX2_hasRootType_27 sy_kc_1) dX2_hasRootType_28 rfl) os_skip) (os_iinc dX2_hasRootType_29 sy_kc_1 (by decide))) dX2_hasRootType_32 rfl)))) (os_retZ (oi_const dX2_hasRootType_35 sy_kc_0) dX2_hasRootType_36 rfl))
def sf_X2_hasRootType : List Value → sy_MM (Option Value) := sy_mth 2 (sy_bd sm_X2_hasRootType)
theorem km_X2_hasRootType : sy_KM yX2_hasRootType cX2_hasRootType 3 (some .boolean) 3 sf_X2_hasRootType := sy_km (by decide +kernel) (by decide) os_X2_hasRootType
/-- SegmentYard$Schema.levelOf -/
def sm_X2_levelOf : sy_S := (sy_eI (sy_iQ (sy_cI (sy_iM (sy_cv 2 1 sf_X2_isType) (sy_aR (sy_rL 0) (sy_aI (sy_iL 1) sy_aN)))) (sy_iA 0 (sy_rF 2 3 (sy_rL 0)) (sy_iL 1)) (sy_iK 0)))
set_option maxRecDepth 100000 in
set_option maxHeartbeats 4000000 in
theorem os_X2_levelOf : sy_OS (RX2, cX2_levelOf, (some .int), 2, 2) 0 0 sm_X2_levelOf := (os_retI (oi_cond (oc_nzF (tgt := 17) (oi_call (oa_ref (oa_load_n dX2_levelOf_0 rfl) (oa_int (oi_load_n dX2_levelOf_1 rfl) oa_nil)) (ok_v km_X2_isType cv_X2_44 dX2_levelOf_2 (by decide) (by decide))) dX2_levelOf_5 rfl) (oi_goto (tgt := 18) (oi_iald (or_get (oa_load_n dX2_levelOf_8 rfl) fi_X2_22 dX2_levelOf_9) (oi_load_n dX2_levelOf_12 rfl) dX2_levelOf_13) dX2_levelOf_14 rfl) (oi_const dX2_levelOf_17 sy_kc_0)) dX2_levelOf_18 rfl)
def sf_X2_levelOf : List Value → sy_MM (Option Value) := sy_mth 2 (sy_bd sm_X2_levelOf)
theorem km_X2_levelOf : sy_KM yX2_levelOf cX2_levelOf 2 (some .int) 2 sf_X2_levelOf := sy_km (by decide +kernel) (by decide) os_X2_levelOf
/-- SegmentYard$Schema.levelBelow -/
def sm_X2_levelBelow : sy_S := (sy_eI (sy_iAdd (sy_iM (sy_cv 2 1 sf_X2_levelOf) (sy_aR (sy_rL 0) (sy_aI (sy_iL 1) sy_aN))) (sy_iK 1)))
set_option maxRecDepth 100000 in
set_option maxHeartbeats 4000000 in
theorem os_X2_levelBelow : sy_OS (RX2, cX2_levelBelow, (some .int), 3, 2) 0 0 sm_X2_levelBelow := (os_retI (oi_iadd (oi_call (oa_ref (oa_load_n dX2_levelBelow_0 rfl) (oa_int (oi_load_n dX2_levelBelow_1 rfl) oa_nil)) (ok_v km_X2_levelOf cv_X2_48 dX2_levelBelow_2 (by decide) (by decide))) (oi_const dX2_levelBelow_5 sy_kc_1) dX2_levelBelow_6) dX2_levelBelow_7 rfl)
def sf_X2_levelBelow : List Value → sy_MM (Option Value) := sy_mth 2 (sy_bd sm_X2_levelBelow)
theorem km_X2_levelBelow : sy_KM yX2_levelBelow cX2_levelBelow 2 (some .int) 3 sf_X2_levelBelow := sy_km (by decide +kernel) (by decide) os_X2_levelBelow
/-- SegmentYard$Schema.size -/
def sm_X2_size : sy_S := (sy_eI (sy_iF 2 0 (sy_rL 0)))
set_option maxRecDepth 100000 in
set_option maxHeartbeats 4000000 in
theorem os_X2_size : sy_OS (RX2, cX2_size, (some .int), 1, 1) 0 0 sm_X2_size := (os_retI (oi_get (oa_load_n dX2_size_0 rfl) fi_X2_9 dX2_size_1) dX2_size_4 rfl)
def sf_X2_size : List Value → sy_MM (Option Value) := sy_mth 1 (sy_bd sm_X2_size)
theorem km_X2_size : sy_KM yX2_size cX2_size 1 (some .int) 1 sf_X2_size := sy_km (by decide +kernel) (by decide) os_X2_size
end SYI1

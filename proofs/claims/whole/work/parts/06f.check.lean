/-! the law's rows together -/
theorem am_lrows : am_rows RL false (some .boolean) code kc_L_law kp_L_law = true := by
  refine am_rows_split _ _ _ _ 40 _ _ (by simpa only [List.drop_drop, List.drop_zero] using am_l0) ?_
  refine am_rows_split _ _ _ _ 40 _ _ (by simpa only [List.drop_drop, List.drop_zero] using am_l1) ?_
  simp only [List.drop_drop]
  refine am_rows_split _ _ _ _ 40 _ _ (by simpa only [List.drop_drop, List.drop_zero] using am_l2) ?_
  simp only [List.drop_drop]
  refine am_rows_split _ _ _ _ 40 _ _ (by simpa only [List.drop_drop, List.drop_zero] using am_l3) ?_
  simp only [List.drop_drop]
  refine am_rows_split _ _ _ _ 40 _ _ (by simpa only [List.drop_drop, List.drop_zero] using am_l4) ?_
  simp only [List.drop_drop]
  refine am_rows_split _ _ _ _ 40 _ _ (by simpa only [List.drop_drop, List.drop_zero] using am_l5) ?_
  simp only [List.drop_drop]
  refine am_rows_split _ _ _ _ 40 _ _ (by simpa only [List.drop_drop, List.drop_zero] using am_l6) ?_
  simp only [List.drop_drop]
  refine am_rows_split _ _ _ _ 40 _ _ (by simpa only [List.drop_drop, List.drop_zero] using am_l7) ?_
  simp only [List.drop_drop]
  refine am_rows_split _ _ _ _ 40 _ _ (by simpa only [List.drop_drop, List.drop_zero] using am_l8) ?_
  simp only [List.drop_drop]
  refine am_rows_split _ _ _ _ 40 _ _ (by simpa only [List.drop_drop, List.drop_zero] using am_l9) ?_
  simp only [List.drop_drop]
  refine am_rows_split _ _ _ _ 40 _ _ (by simpa only [List.drop_drop, List.drop_zero] using am_l10) ?_
  simp only [List.drop_drop]
  refine am_rows_split _ _ _ _ 40 _ _ (by simpa only [List.drop_drop, List.drop_zero] using am_l11) ?_
  simp only [List.drop_drop]
  refine am_rows_split _ _ _ _ 40 _ _ (by simpa only [List.drop_drop, List.drop_zero] using am_l12) ?_
  simp only [List.drop_drop]
  refine am_rows_split _ _ _ _ 40 _ _ (by simpa only [List.drop_drop, List.drop_zero] using am_l13) ?_
  simp only [List.drop_drop]
  refine am_rows_split _ _ _ _ 40 _ _ (by simpa only [List.drop_drop, List.drop_zero] using am_l14) ?_
  simp only [List.drop_drop]
  refine am_rows_split _ _ _ _ 40 _ _ (by simpa only [List.drop_drop, List.drop_zero] using am_l15) ?_
  simp only [List.drop_drop]
  refine am_rows_split _ _ _ _ 40 _ _ (by simpa only [List.drop_drop, List.drop_zero] using am_l16) ?_
  simp only [List.drop_drop]
  refine am_rows_split _ _ _ _ 40 _ _ (by simpa only [List.drop_drop, List.drop_zero] using am_l17) ?_
  simp only [List.drop_drop]
  refine am_rows_split _ _ _ _ 40 _ _ (by simpa only [List.drop_drop, List.drop_zero] using am_l18) ?_
  simp only [List.drop_drop]
  refine am_rows_split _ _ _ _ 40 _ _ (by simpa only [List.drop_drop, List.drop_zero] using am_l19) ?_
  simp only [List.drop_drop]
  refine am_rows_split _ _ _ _ 40 _ _ (by simpa only [List.drop_drop, List.drop_zero] using am_l20) ?_
  simp only [List.drop_drop]
  refine am_rows_split _ _ _ _ 40 _ _ (by simpa only [List.drop_drop, List.drop_zero] using am_l21) ?_
  simp only [List.drop_drop]
  refine am_rows_split _ _ _ _ 40 _ _ (by simpa only [List.drop_drop, List.drop_zero] using am_l22) ?_
  simp only [List.drop_drop]
  refine am_rows_split _ _ _ _ 40 _ _ (by simpa only [List.drop_drop, List.drop_zero] using am_l23) ?_
  simp only [List.drop_drop]
  refine am_rows_split _ _ _ _ 40 _ _ (by simpa only [List.drop_drop, List.drop_zero] using am_l24) ?_
  simp only [List.drop_drop]
  refine am_rows_split _ _ _ _ 40 _ _ (by simpa only [List.drop_drop, List.drop_zero] using am_l25) ?_
  simp only [List.drop_drop]
  refine am_rows_split _ _ _ _ 40 _ _ (by simpa only [List.drop_drop, List.drop_zero] using am_l26) ?_
  simp only [List.drop_drop]
  decide +kernel

set_option maxRecDepth 100000 in
theorem k220_42 : ((r220.getD 42 (0, [])).2.all fun q => xrow1 xcl xfts lw_tbl "TwinEntry" xsT xmi 220 220 q.1 q.2) = true := by decide +kernel
set_option maxRecDepth 100000 in
theorem k220_43 : ((r220.getD 43 (0, [])).2.all fun q => xrow1 xcl xfts lw_tbl "TwinEntry" xsT xmi 220 220 q.1 q.2) = true := by decide +kernel
set_option maxRecDepth 100000 in
theorem k220_44 : ((r220.getD 44 (0, [])).2.all fun q => xrow1 xcl xfts lw_tbl "TwinEntry" xsT xmi 220 220 q.1 q.2) = true := by decide +kernel
set_option maxRecDepth 100000 in
theorem k220_45 : ((r220.getD 45 (0, [])).2.all fun q => xrow1 xcl xfts lw_tbl "TwinEntry" xsT xmi 220 220 q.1 q.2) = true := by decide +kernel
theorem k220 : xchk xcl xfts lw_tbl "TwinEntry" xsT xmi 220 220 r220 = true := by
  show r220.all _ = true
  rw [show r220 = [r220.getD 0 (0, []), r220.getD 1 (0, []), r220.getD 2 (0, []), r220.getD 3 (0, []), r220.getD 4 (0, []), r220.getD 5 (0, []), r220.getD 6 (0, []), r220.getD 7 (0, []), r220.getD 8 (0, []), r220.getD 9 (0, []), r220.getD 10 (0, []), r220.getD 11 (0, []), r220.getD 12 (0, []), r220.getD 13 (0, []), r220.getD 14 (0, []), r220.getD 15 (0, []), r220.getD 16 (0, []), r220.getD 17 (0, []), r220.getD 18 (0, []), r220.getD 19 (0, []), r220.getD 20 (0, []), r220.getD 21 (0, []), r220.getD 22 (0, []), r220.getD 23 (0, []), r220.getD 24 (0, []), r220.getD 25 (0, []), r220.getD 26 (0, []), r220.getD 27 (0, []), r220.getD 28 (0, []), r220.getD 29 (0, []), r220.getD 30 (0, []), r220.getD 31 (0, []), r220.getD 32 (0, []), r220.getD 33 (0, []), r220.getD 34 (0, []), r220.getD 35 (0, []), r220.getD 36 (0, []), r220.getD 37 (0, []), r220.getD 38 (0, []), r220.getD 39 (0, []), r220.getD 40 (0, []), r220.getD 41 (0, []), r220.getD 42 (0, []), r220.getD 43 (0, []), r220.getD 44 (0, []), r220.getD 45 (0, [])] from rfl]
  simp only [List.all_cons, List.all_nil, Bool.and_eq_true, Bool.and_true]
  exact ⟨k220_0, k220_1, k220_2, k220_3, k220_4, k220_5, k220_6, k220_7, k220_8, k220_9, k220_10, k220_11, k220_12, k220_13, k220_14, k220_15, k220_16, k220_17, k220_18, k220_19, k220_20, k220_21, k220_22, k220_23, k220_24, k220_25, k220_26, k220_27, k220_28, k220_29, k220_30, k220_31, k220_32, k220_33, k220_34, k220_35, k220_36, k220_37, k220_38, k220_39, k220_40, k220_41, k220_42, k220_43, k220_44, k220_45⟩

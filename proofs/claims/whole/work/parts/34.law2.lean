set_option maxRecDepth 100000 in
theorem k220_12 : ((r220.getD 12 (0, [])).2.all fun q => xrow1 xcl xfts lw_tbl "TwinEntry" xsT xmi 220 220 q.1 q.2) = true := by decide +kernel
set_option maxRecDepth 100000 in
theorem k220_13 : ((r220.getD 13 (0, [])).2.all fun q => xrow1 xcl xfts lw_tbl "TwinEntry" xsT xmi 220 220 q.1 q.2) = true := by decide +kernel
set_option maxRecDepth 100000 in
theorem k220_14 : ((r220.getD 14 (0, [])).2.all fun q => xrow1 xcl xfts lw_tbl "TwinEntry" xsT xmi 220 220 q.1 q.2) = true := by decide +kernel
set_option maxRecDepth 100000 in
theorem k220_15 : ((r220.getD 15 (0, [])).2.all fun q => xrow1 xcl xfts lw_tbl "TwinEntry" xsT xmi 220 220 q.1 q.2) = true := by decide +kernel
set_option maxRecDepth 100000 in
theorem k220_16 : ((r220.getD 16 (0, [])).2.all fun q => xrow1 xcl xfts lw_tbl "TwinEntry" xsT xmi 220 220 q.1 q.2) = true := by decide +kernel
set_option maxRecDepth 100000 in
theorem k220_17 : ((r220.getD 17 (0, [])).2.all fun q => xrow1 xcl xfts lw_tbl "TwinEntry" xsT xmi 220 220 q.1 q.2) = true := by decide +kernel

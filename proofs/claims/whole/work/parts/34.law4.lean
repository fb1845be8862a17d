set_option maxRecDepth 100000 in
theorem k220_24 : ((r220.getD 24 (0, [])).2.all fun q => xrow1 xcl xfts lw_tbl "TwinEntry" xsT xmi 220 220 q.1 q.2) = true := by decide +kernel
set_option maxRecDepth 100000 in
theorem k220_25 : ((r220.getD 25 (0, [])).2.all fun q => xrow1 xcl xfts lw_tbl "TwinEntry" xsT xmi 220 220 q.1 q.2) = true := by decide +kernel
set_option maxRecDepth 100000 in
theorem k220_26 : ((r220.getD 26 (0, [])).2.all fun q => xrow1 xcl xfts lw_tbl "TwinEntry" xsT xmi 220 220 q.1 q.2) = true := by decide +kernel
set_option maxRecDepth 100000 in
theorem k220_27 : ((r220.getD 27 (0, [])).2.all fun q => xrow1 xcl xfts lw_tbl "TwinEntry" xsT xmi 220 220 q.1 q.2) = true := by decide +kernel
set_option maxRecDepth 100000 in
theorem k220_28 : ((r220.getD 28 (0, [])).2.all fun q => xrow1 xcl xfts lw_tbl "TwinEntry" xsT xmi 220 220 q.1 q.2) = true := by decide +kernel
set_option maxRecDepth 100000 in
theorem k220_29 : ((r220.getD 29 (0, [])).2.all fun q => xrow1 xcl xfts lw_tbl "TwinEntry" xsT xmi 220 220 q.1 q.2) = true := by decide +kernel

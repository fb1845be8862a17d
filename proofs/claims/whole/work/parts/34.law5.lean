set_option maxRecDepth 100000 in
theorem k220_30 : ((r220.getD 30 (0, [])).2.all fun q => xrow1 xcl xfts lw_tbl "TwinEntry" xsT xmi 220 220 q.1 q.2) = true := by decide +kernel
set_option maxRecDepth 100000 in
theorem k220_31 : ((r220.getD 31 (0, [])).2.all fun q => xrow1 xcl xfts lw_tbl "TwinEntry" xsT xmi 220 220 q.1 q.2) = true := by decide +kernel
set_option maxRecDepth 100000 in
theorem k220_32 : ((r220.getD 32 (0, [])).2.all fun q => xrow1 xcl xfts lw_tbl "TwinEntry" xsT xmi 220 220 q.1 q.2) = true := by decide +kernel
set_option maxRecDepth 100000 in
theorem k220_33 : ((r220.getD 33 (0, [])).2.all fun q => xrow1 xcl xfts lw_tbl "TwinEntry" xsT xmi 220 220 q.1 q.2) = true := by decide +kernel
set_option maxRecDepth 100000 in
theorem k220_34 : ((r220.getD 34 (0, [])).2.all fun q => xrow1 xcl xfts lw_tbl "TwinEntry" xsT xmi 220 220 q.1 q.2) = true := by decide +kernel
set_option maxRecDepth 100000 in
theorem k220_35 : ((r220.getD 35 (0, [])).2.all fun q => xrow1 xcl xfts lw_tbl "TwinEntry" xsT xmi 220 220 q.1 q.2) = true := by decide +kernel

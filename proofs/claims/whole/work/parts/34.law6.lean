set_option maxRecDepth 100000 in
theorem k220_36 : ((r220.getD 36 (0, [])).2.all fun q => xrow1 xcl xfts lw_tbl "TwinEntry" xsT xmi 220 220 q.1 q.2) = true := by decide +kernel
set_option maxRecDepth 100000 in
theorem k220_37 : ((r220.getD 37 (0, [])).2.all fun q => xrow1 xcl xfts lw_tbl "TwinEntry" xsT xmi 220 220 q.1 q.2) = true := by decide +kernel
set_option maxRecDepth 100000 in
theorem k220_38 : ((r220.getD 38 (0, [])).2.all fun q => xrow1 xcl xfts lw_tbl "TwinEntry" xsT xmi 220 220 q.1 q.2) = true := by decide +kernel
set_option maxRecDepth 100000 in
theorem k220_39 : ((r220.getD 39 (0, [])).2.all fun q => xrow1 xcl xfts lw_tbl "TwinEntry" xsT xmi 220 220 q.1 q.2) = true := by decide +kernel
set_option maxRecDepth 100000 in
theorem k220_40 : ((r220.getD 40 (0, [])).2.all fun q => xrow1 xcl xfts lw_tbl "TwinEntry" xsT xmi 220 220 q.1 q.2) = true := by decide +kernel
set_option maxRecDepth 100000 in
theorem k220_41 : ((r220.getD 41 (0, [])).2.all fun q => xrow1 xcl xfts lw_tbl "TwinEntry" xsT xmi 220 220 q.1 q.2) = true := by decide +kernel

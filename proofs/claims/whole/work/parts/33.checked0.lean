set_option maxRecDepth 100000 in
theorem k0 : xchk xcl xfts lw_tbl "TwinEntry" xsT xmi 208 0 r0 = true := by decide +kernel
set_option maxRecDepth 100000 in
theorem k1 : xchk xcl xfts lw_tbl "TwinEntry" xsT xmi 208 1 r1 = true := by decide +kernel
set_option maxRecDepth 100000 in
theorem k2 : xchk xcl xfts lw_tbl "TwinEntry" xsT xmi 208 2 r2 = true := by decide +kernel
set_option maxRecDepth 100000 in
theorem k3 : xchk xcl xfts lw_tbl "TwinEntry" xsT xmi 208 3 r3 = true := by decide +kernel
set_option maxRecDepth 100000 in
theorem k4 : xchk xcl xfts lw_tbl "TwinEntry" xsT xmi 208 4 r4 = true := by decide +kernel
set_option maxRecDepth 100000 in
theorem k5 : xchk xcl xfts lw_tbl "TwinEntry" xsT xmi 208 5 r5 = true := by decide +kernel
set_option maxRecDepth 100000 in
theorem k6 : xchk xcl xfts lw_tbl "TwinEntry" xsT xmi 208 6 r6 = true := by decide +kernel
set_option maxRecDepth 100000 in
theorem k7 : xchk xcl xfts lw_tbl "TwinEntry" xsT xmi 208 7 r7 = true := by decide +kernel
set_option maxRecDepth 100000 in
theorem k8 : xchk xcl xfts lw_tbl "TwinEntry" xsT xmi 208 8 r8 = true := by decide +kernel
set_option maxRecDepth 100000 in
theorem k9 : xchk xcl xfts lw_tbl "TwinEntry" xsT xmi 208 9 r9 = true := by decide +kernel
set_option maxRecDepth 100000 in
theorem k10 : xchk xcl xfts lw_tbl "TwinEntry" xsT xmi 208 10 r10 = true := by decide +kernel
set_option maxRecDepth 100000 in
theorem k11 : xchk xcl xfts lw_tbl "TwinEntry" xsT xmi 208 11 r11 = true := by decide +kernel
set_option maxRecDepth 100000 in
theorem k12 : xchk xcl xfts lw_tbl "TwinEntry" xsT xmi 208 12 r12 = true := by decide +kernel
set_option maxRecDepth 100000 in
theorem k13 : xchk xcl xfts lw_tbl "TwinEntry" xsT xmi 208 13 r13 = true := by decide +kernel
set_option maxRecDepth 100000 in
theorem k14 : xchk xcl xfts lw_tbl "TwinEntry" xsT xmi 208 14 r14 = true := by decide +kernel
set_option maxRecDepth 100000 in
theorem k15 : xchk xcl xfts lw_tbl "TwinEntry" xsT xmi 208 15 r15 = true := by decide +kernel
set_option maxRecDepth 100000 in
theorem k16 : xchk xcl xfts lw_tbl "TwinEntry" xsT xmi 208 16 r16 = true := by decide +kernel
set_option maxRecDepth 100000 in
theorem k17 : xchk xcl xfts lw_tbl "TwinEntry" xsT xmi 208 17 r17 = true := by decide +kernel
set_option maxRecDepth 100000 in
theorem k18 : xchk xcl xfts lw_tbl "TwinEntry" xsT xmi 208 18 r18 = true := by decide +kernel
set_option maxRecDepth 100000 in
theorem k19 : xchk xcl xfts lw_tbl "TwinEntry" xsT xmi 208 19 r19 = true := by decide +kernel
set_option maxRecDepth 100000 in
theorem k20 : xchk xcl xfts lw_tbl "TwinEntry" xsT xmi 208 20 r20 = true := by decide +kernel
set_option maxRecDepth 100000 in
theorem k21 : xchk xcl xfts lw_tbl "TwinEntry" xsT xmi 208 21 r21 = true := by decide +kernel
set_option maxRecDepth 100000 in
theorem k22 : xchk xcl xfts lw_tbl "TwinEntry" xsT xmi 208 22 r22 = true := by decide +kernel
set_option maxRecDepth 100000 in
theorem k23 : xchk xcl xfts lw_tbl "TwinEntry" xsT xmi 208 23 r23 = true := by decide +kernel
set_option maxRecDepth 100000 in
theorem k24 : xchk xcl xfts lw_tbl "TwinEntry" xsT xmi 208 24 r24 = true := by decide +kernel
set_option maxRecDepth 100000 in
theorem k25 : xchk xcl xfts lw_tbl "TwinEntry" xsT xmi 208 25 r25 = true := by decide +kernel
set_option maxRecDepth 100000 in
theorem k26 : xchk xcl xfts lw_tbl "TwinEntry" xsT xmi 208 26 r26 = true := by decide +kernel
set_option maxRecDepth 100000 in
theorem k27 : xchk xcl xfts lw_tbl "TwinEntry" xsT xmi 208 27 r27 = true := by decide +kernel
set_option maxRecDepth 100000 in
theorem k28 : xchk xcl xfts lw_tbl "TwinEntry" xsT xmi 208 28 r28 = true := by decide +kernel
set_option maxRecDepth 100000 in
theorem k29 : xchk xcl xfts lw_tbl "TwinEntry" xsT xmi 208 29 r29 = true := by decide +kernel
set_option maxRecDepth 100000 in
theorem k30 : xchk xcl xfts lw_tbl "TwinEntry" xsT xmi 208 30 r30 = true := by decide +kernel
set_option maxRecDepth 100000 in
theorem k31 : xchk xcl xfts lw_tbl "TwinEntry" xsT xmi 208 31 r31 = true := by decide +kernel
set_option maxRecDepth 100000 in
theorem k32 : xchk xcl xfts lw_tbl "TwinEntry" xsT xmi 208 32 r32 = true := by decide +kernel
set_option maxRecDepth 100000 in
theorem k33 : xchk xcl xfts lw_tbl "TwinEntry" xsT xmi 208 33 r33 = true := by decide +kernel
set_option maxRecDepth 100000 in
theorem k34 : xchk xcl xfts lw_tbl "TwinEntry" xsT xmi 208 34 r34 = true := by decide +kernel
set_option maxRecDepth 100000 in
theorem k35 : xchk xcl xfts lw_tbl "TwinEntry" xsT xmi 208 35 r35 = true := by decide +kernel
set_option maxRecDepth 100000 in
theorem k36 : xchk xcl xfts lw_tbl "TwinEntry" xsT xmi 208 36 r36 = true := by decide +kernel
set_option maxRecDepth 100000 in
theorem k37 : xchk xcl xfts lw_tbl "TwinEntry" xsT xmi 208 37 r37 = true := by decide +kernel
set_option maxRecDepth 100000 in
theorem k38 : xchk xcl xfts lw_tbl "TwinEntry" xsT xmi 208 38 r38 = true := by decide +kernel
set_option maxRecDepth 100000 in
theorem k39 : xchk xcl xfts lw_tbl "TwinEntry" xsT xmi 208 39 r39 = true := by decide +kernel
set_option maxRecDepth 100000 in
theorem k40 : xchk xcl xfts lw_tbl "TwinEntry" xsT xmi 208 40 r40 = true := by decide +kernel
set_option maxRecDepth 100000 in
theorem k41 : xchk xcl xfts lw_tbl "TwinEntry" xsT xmi 208 41 r41 = true := by decide +kernel
set_option maxRecDepth 100000 in
theorem k42 : xchk xcl xfts lw_tbl "TwinEntry" xsT xmi 208 42 r42 = true := by decide +kernel
set_option maxRecDepth 100000 in
theorem k43 : xchk xcl xfts lw_tbl "TwinEntry" xsT xmi 208 43 r43 = true := by decide +kernel
set_option maxRecDepth 100000 in
theorem k44 : xchk xcl xfts lw_tbl "TwinEntry" xsT xmi 208 44 r44 = true := by decide +kernel
set_option maxRecDepth 100000 in
theorem k45 : xchk xcl xfts lw_tbl "TwinEntry" xsT xmi 208 45 r45 = true := by decide +kernel
set_option maxRecDepth 100000 in
theorem k46 : xchk xcl xfts lw_tbl "TwinEntry" xsT xmi 208 46 r46 = true := by decide +kernel
set_option maxRecDepth 100000 in
theorem k47 : xchk xcl xfts lw_tbl "TwinEntry" xsT xmi 208 47 r47 = true := by decide +kernel
set_option maxRecDepth 100000 in
theorem k48 : xchk xcl xfts lw_tbl "TwinEntry" xsT xmi 208 48 r48 = true := by decide +kernel
set_option maxRecDepth 100000 in
theorem k49 : xchk xcl xfts lw_tbl "TwinEntry" xsT xmi 208 49 r49 = true := by decide +kernel
set_option maxRecDepth 100000 in
theorem k50 : xchk xcl xfts lw_tbl "TwinEntry" xsT xmi 208 50 r50 = true := by decide +kernel
set_option maxRecDepth 100000 in
theorem k51 : xchk xcl xfts lw_tbl "TwinEntry" xsT xmi 208 51 r51 = true := by decide +kernel
set_option maxRecDepth 100000 in
theorem k52 : xchk xcl xfts lw_tbl "TwinEntry" xsT xmi 208 52 r52 = true := by decide +kernel
set_option maxRecDepth 100000 in
theorem k53 : xchk xcl xfts lw_tbl "TwinEntry" xsT xmi 208 53 r53 = true := by decide +kernel
set_option maxRecDepth 100000 in
theorem k54 : xchk xcl xfts lw_tbl "TwinEntry" xsT xmi 208 54 r54 = true := by decide +kernel
set_option maxRecDepth 100000 in
theorem k55 : xchk xcl xfts lw_tbl "TwinEntry" xsT xmi 208 55 r55 = true := by decide +kernel

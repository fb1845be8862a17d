set_option maxRecDepth 100000 in
theorem k56 : xchk xcl xfts lw_tbl "TwinEntry" xsT xmi 208 56 r56 = true := by decide +kernel
set_option maxRecDepth 100000 in
theorem k57 : xchk xcl xfts lw_tbl "TwinEntry" xsT xmi 208 57 r57 = true := by decide +kernel
set_option maxRecDepth 100000 in
theorem k58 : xchk xcl xfts lw_tbl "TwinEntry" xsT xmi 208 58 r58 = true := by decide +kernel
set_option maxRecDepth 100000 in
theorem k59 : xchk xcl xfts lw_tbl "TwinEntry" xsT xmi 208 59 r59 = true := by decide +kernel
set_option maxRecDepth 100000 in
theorem k60 : xchk xcl xfts lw_tbl "TwinEntry" xsT xmi 208 60 r60 = true := by decide +kernel
set_option maxRecDepth 100000 in
theorem k61 : xchk xcl xfts lw_tbl "TwinEntry" xsT xmi 208 61 r61 = true := by decide +kernel
set_option maxRecDepth 100000 in
theorem k62 : xchk xcl xfts lw_tbl "TwinEntry" xsT xmi 208 62 r62 = true := by decide +kernel
set_option maxRecDepth 100000 in
theorem k63 : xchk xcl xfts lw_tbl "TwinEntry" xsT xmi 208 63 r63 = true := by decide +kernel
set_option maxRecDepth 100000 in
theorem k64 : xchk xcl xfts lw_tbl "TwinEntry" xsT xmi 208 64 r64 = true := by decide +kernel
set_option maxRecDepth 100000 in
theorem k65 : xchk xcl xfts lw_tbl "TwinEntry" xsT xmi 208 65 r65 = true := by decide +kernel
set_option maxRecDepth 100000 in
theorem k66 : xchk xcl xfts lw_tbl "TwinEntry" xsT xmi 208 66 r66 = true := by decide +kernel
set_option maxRecDepth 100000 in
theorem k67 : xchk xcl xfts lw_tbl "TwinEntry" xsT xmi 208 67 r67 = true := by decide +kernel
set_option maxRecDepth 100000 in
theorem k68 : xchk xcl xfts lw_tbl "TwinEntry" xsT xmi 208 68 r68 = true := by decide +kernel
set_option maxRecDepth 100000 in
theorem k69 : xchk xcl xfts lw_tbl "TwinEntry" xsT xmi 208 69 r69 = true := by decide +kernel
set_option maxRecDepth 100000 in
theorem k70 : xchk xcl xfts lw_tbl "TwinEntry" xsT xmi 208 70 r70 = true := by decide +kernel
set_option maxRecDepth 100000 in
theorem k71 : xchk xcl xfts lw_tbl "TwinEntry" xsT xmi 208 71 r71 = true := by decide +kernel
set_option maxRecDepth 100000 in
theorem k72 : xchk xcl xfts lw_tbl "TwinEntry" xsT xmi 208 72 r72 = true := by decide +kernel
set_option maxRecDepth 100000 in
theorem k73 : xchk xcl xfts lw_tbl "TwinEntry" xsT xmi 208 73 r73 = true := by decide +kernel
set_option maxRecDepth 100000 in
theorem k74 : xchk xcl xfts lw_tbl "TwinEntry" xsT xmi 208 74 r74 = true := by decide +kernel
set_option maxRecDepth 100000 in
theorem k75 : xchk xcl xfts lw_tbl "TwinEntry" xsT xmi 208 75 r75 = true := by decide +kernel
set_option maxRecDepth 100000 in
theorem k76 : xchk xcl xfts lw_tbl "TwinEntry" xsT xmi 208 76 r76 = true := by decide +kernel
set_option maxRecDepth 100000 in
theorem k77 : xchk xcl xfts lw_tbl "TwinEntry" xsT xmi 208 77 r77 = true := by decide +kernel
set_option maxRecDepth 100000 in
theorem k78 : xchk xcl xfts lw_tbl "TwinEntry" xsT xmi 208 78 r78 = true := by decide +kernel
set_option maxRecDepth 100000 in
theorem k79 : xchk xcl xfts lw_tbl "TwinEntry" xsT xmi 208 79 r79 = true := by decide +kernel
set_option maxRecDepth 100000 in
theorem k80 : xchk xcl xfts lw_tbl "TwinEntry" xsT xmi 208 80 r80 = true := by decide +kernel
set_option maxRecDepth 100000 in
theorem k81 : xchk xcl xfts lw_tbl "TwinEntry" xsT xmi 208 81 r81 = true := by decide +kernel
set_option maxRecDepth 100000 in
theorem k82 : xchk xcl xfts lw_tbl "TwinEntry" xsT xmi 208 82 r82 = true := by decide +kernel
set_option maxRecDepth 100000 in
theorem k83 : xchk xcl xfts lw_tbl "TwinEntry" xsT xmi 208 83 r83 = true := by decide +kernel
set_option maxRecDepth 100000 in
theorem k84 : xchk xcl xfts lw_tbl "TwinEntry" xsT xmi 208 84 r84 = true := by decide +kernel
set_option maxRecDepth 100000 in
theorem k85 : xchk xcl xfts lw_tbl "TwinEntry" xsT xmi 208 85 r85 = true := by decide +kernel
set_option maxRecDepth 100000 in
theorem k86 : xchk xcl xfts lw_tbl "TwinEntry" xsT xmi 208 86 r86 = true := by decide +kernel
set_option maxRecDepth 100000 in
theorem k87 : xchk xcl xfts lw_tbl "TwinEntry" xsT xmi 208 87 r87 = true := by decide +kernel
set_option maxRecDepth 100000 in
theorem k88 : xchk xcl xfts lw_tbl "TwinEntry" xsT xmi 208 88 r88 = true := by decide +kernel
set_option maxRecDepth 100000 in
theorem k89 : xchk xcl xfts lw_tbl "TwinEntry" xsT xmi 208 89 r89 = true := by decide +kernel
set_option maxRecDepth 100000 in
theorem k90 : xchk xcl xfts lw_tbl "TwinEntry" xsT xmi 208 90 r90 = true := by decide +kernel
set_option maxRecDepth 100000 in
theorem k91 : xchk xcl xfts lw_tbl "TwinEntry" xsT xmi 208 91 r91 = true := by decide +kernel
set_option maxRecDepth 100000 in
theorem k92 : xchk xcl xfts lw_tbl "TwinEntry" xsT xmi 208 92 r92 = true := by decide +kernel
set_option maxRecDepth 100000 in
theorem k93 : xchk xcl xfts lw_tbl "TwinEntry" xsT xmi 208 93 r93 = true := by decide +kernel
set_option maxRecDepth 100000 in
theorem k94 : xchk xcl xfts lw_tbl "TwinEntry" xsT xmi 208 94 r94 = true := by decide +kernel
set_option maxRecDepth 100000 in
theorem k95 : xchk xcl xfts lw_tbl "TwinEntry" xsT xmi 208 95 r95 = true := by decide +kernel
set_option maxRecDepth 100000 in
theorem k96 : xchk xcl xfts lw_tbl "TwinEntry" xsT xmi 208 96 r96 = true := by decide +kernel
set_option maxRecDepth 100000 in
theorem k97 : xchk xcl xfts lw_tbl "TwinEntry" xsT xmi 208 97 r97 = true := by decide +kernel
set_option maxRecDepth 100000 in
theorem k98 : xchk xcl xfts lw_tbl "TwinEntry" xsT xmi 208 98 r98 = true := by decide +kernel
set_option maxRecDepth 100000 in
theorem k99 : xchk xcl xfts lw_tbl "TwinEntry" xsT xmi 208 99 r99 = true := by decide +kernel
set_option maxRecDepth 100000 in
theorem k100 : xchk xcl xfts lw_tbl "TwinEntry" xsT xmi 208 100 r100 = true := by decide +kernel
set_option maxRecDepth 100000 in
theorem k101 : xchk xcl xfts lw_tbl "TwinEntry" xsT xmi 208 101 r101 = true := by decide +kernel
set_option maxRecDepth 100000 in
theorem k102 : xchk xcl xfts lw_tbl "TwinEntry" xsT xmi 208 102 r102 = true := by decide +kernel
set_option maxRecDepth 100000 in
theorem k103 : xchk xcl xfts lw_tbl "TwinEntry" xsT xmi 208 103 r103 = true := by decide +kernel
set_option maxRecDepth 100000 in
theorem k104 : xchk xcl xfts lw_tbl "TwinEntry" xsT xmi 208 104 r104 = true := by decide +kernel
set_option maxRecDepth 100000 in
theorem k105 : xchk xcl xfts lw_tbl "TwinEntry" xsT xmi 208 105 r105 = true := by decide +kernel
set_option maxRecDepth 100000 in
theorem k106 : xchk xcl xfts lw_tbl "TwinEntry" xsT xmi 208 106 r106 = true := by decide +kernel
set_option maxRecDepth 100000 in
theorem k107 : xchk xcl xfts lw_tbl "TwinEntry" xsT xmi 208 107 r107 = true := by decide +kernel
set_option maxRecDepth 100000 in
theorem k108 : xchk xcl xfts lw_tbl "TwinEntry" xsT xmi 208 108 r108 = true := by decide +kernel
set_option maxRecDepth 100000 in
theorem k109 : xchk xcl xfts lw_tbl "TwinEntry" xsT xmi 208 109 r109 = true := by decide +kernel
set_option maxRecDepth 100000 in
theorem k110 : xchk xcl xfts lw_tbl "TwinEntry" xsT xmi 208 110 r110 = true := by decide +kernel
set_option maxRecDepth 100000 in
theorem k111 : xchk xcl xfts lw_tbl "TwinEntry" xsT xmi 208 111 r111 = true := by decide +kernel

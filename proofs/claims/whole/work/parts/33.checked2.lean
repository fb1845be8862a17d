set_option maxRecDepth 100000 in
theorem k112 : xchk xcl xfts lw_tbl "TwinEntry" xsT xmi 208 112 r112 = true := by decide +kernel
set_option maxRecDepth 100000 in
theorem k113 : xchk xcl xfts lw_tbl "TwinEntry" xsT xmi 208 113 r113 = true := by decide +kernel
set_option maxRecDepth 100000 in
theorem k114 : xchk xcl xfts lw_tbl "TwinEntry" xsT xmi 208 114 r114 = true := by decide +kernel
set_option maxRecDepth 100000 in
theorem k115 : xchk xcl xfts lw_tbl "TwinEntry" xsT xmi 208 115 r115 = true := by decide +kernel
set_option maxRecDepth 100000 in
theorem k116 : xchk xcl xfts lw_tbl "TwinEntry" xsT xmi 208 116 r116 = true := by decide +kernel
set_option maxRecDepth 100000 in
theorem k117 : xchk xcl xfts lw_tbl "TwinEntry" xsT xmi 208 117 r117 = true := by decide +kernel
set_option maxRecDepth 100000 in
theorem k118 : xchk xcl xfts lw_tbl "TwinEntry" xsT xmi 208 118 r118 = true := by decide +kernel
set_option maxRecDepth 100000 in
theorem k119 : xchk xcl xfts lw_tbl "TwinEntry" xsT xmi 208 119 r119 = true := by decide +kernel
set_option maxRecDepth 100000 in
theorem k120 : xchk xcl xfts lw_tbl "TwinEntry" xsT xmi 208 120 r120 = true := by decide +kernel
set_option maxRecDepth 100000 in
theorem k121 : xchk xcl xfts lw_tbl "TwinEntry" xsT xmi 208 121 r121 = true := by decide +kernel
set_option maxRecDepth 100000 in
theorem k122 : xchk xcl xfts lw_tbl "TwinEntry" xsT xmi 208 122 r122 = true := by decide +kernel
set_option maxRecDepth 100000 in
theorem k123 : xchk xcl xfts lw_tbl "TwinEntry" xsT xmi 208 123 r123 = true := by decide +kernel
set_option maxRecDepth 100000 in
theorem k124 : xchk xcl xfts lw_tbl "TwinEntry" xsT xmi 208 124 r124 = true := by decide +kernel
set_option maxRecDepth 100000 in
theorem k125 : xchk xcl xfts lw_tbl "TwinEntry" xsT xmi 208 125 r125 = true := by decide +kernel
set_option maxRecDepth 100000 in
theorem k126 : xchk xcl xfts lw_tbl "TwinEntry" xsT xmi 208 126 r126 = true := by decide +kernel
set_option maxRecDepth 100000 in
theorem k127 : xchk xcl xfts lw_tbl "TwinEntry" xsT xmi 208 127 r127 = true := by decide +kernel
set_option maxRecDepth 100000 in
theorem k128 : xchk xcl xfts lw_tbl "TwinEntry" xsT xmi 208 128 r128 = true := by decide +kernel
set_option maxRecDepth 100000 in
theorem k129 : xchk xcl xfts lw_tbl "TwinEntry" xsT xmi 208 129 r129 = true := by decide +kernel
set_option maxRecDepth 100000 in
theorem k130 : xchk xcl xfts lw_tbl "TwinEntry" xsT xmi 208 130 r130 = true := by decide +kernel
set_option maxRecDepth 100000 in
theorem k131 : xchk xcl xfts lw_tbl "TwinEntry" xsT xmi 208 131 r131 = true := by decide +kernel
set_option maxRecDepth 100000 in
theorem k132 : xchk xcl xfts lw_tbl "TwinEntry" xsT xmi 208 132 r132 = true := by decide +kernel
set_option maxRecDepth 100000 in
theorem k133 : xchk xcl xfts lw_tbl "TwinEntry" xsT xmi 208 133 r133 = true := by decide +kernel
set_option maxRecDepth 100000 in
theorem k134 : xchk xcl xfts lw_tbl "TwinEntry" xsT xmi 208 134 r134 = true := by decide +kernel
set_option maxRecDepth 100000 in
theorem k135 : xchk xcl xfts lw_tbl "TwinEntry" xsT xmi 208 135 r135 = true := by decide +kernel
set_option maxRecDepth 100000 in
theorem k136 : xchk xcl xfts lw_tbl "TwinEntry" xsT xmi 208 136 r136 = true := by decide +kernel
set_option maxRecDepth 100000 in
theorem k137 : xchk xcl xfts lw_tbl "TwinEntry" xsT xmi 208 137 r137 = true := by decide +kernel
set_option maxRecDepth 100000 in
theorem k138 : xchk xcl xfts lw_tbl "TwinEntry" xsT xmi 208 138 r138 = true := by decide +kernel
set_option maxRecDepth 100000 in
theorem k139 : xchk xcl xfts lw_tbl "TwinEntry" xsT xmi 208 139 r139 = true := by decide +kernel
set_option maxRecDepth 100000 in
theorem k140 : xchk xcl xfts lw_tbl "TwinEntry" xsT xmi 208 140 r140 = true := by decide +kernel
set_option maxRecDepth 100000 in
theorem k141 : xchk xcl xfts lw_tbl "TwinEntry" xsT xmi 208 141 r141 = true := by decide +kernel
set_option maxRecDepth 100000 in
theorem k142 : xchk xcl xfts lw_tbl "TwinEntry" xsT xmi 208 142 r142 = true := by decide +kernel
set_option maxRecDepth 100000 in
theorem k143 : xchk xcl xfts lw_tbl "TwinEntry" xsT xmi 208 143 r143 = true := by decide +kernel
set_option maxRecDepth 100000 in
theorem k144 : xchk xcl xfts lw_tbl "TwinEntry" xsT xmi 208 144 r144 = true := by decide +kernel
set_option maxRecDepth 100000 in
theorem k145 : xchk xcl xfts lw_tbl "TwinEntry" xsT xmi 208 145 r145 = true := by decide +kernel
set_option maxRecDepth 100000 in
theorem k146 : xchk xcl xfts lw_tbl "TwinEntry" xsT xmi 208 146 r146 = true := by decide +kernel
set_option maxRecDepth 100000 in
theorem k147 : xchk xcl xfts lw_tbl "TwinEntry" xsT xmi 208 147 r147 = true := by decide +kernel
set_option maxRecDepth 100000 in
theorem k148 : xchk xcl xfts lw_tbl "TwinEntry" xsT xmi 208 148 r148 = true := by decide +kernel
set_option maxRecDepth 100000 in
theorem k149 : xchk xcl xfts lw_tbl "TwinEntry" xsT xmi 208 149 r149 = true := by decide +kernel
set_option maxRecDepth 100000 in
theorem k150 : xchk xcl xfts lw_tbl "TwinEntry" xsT xmi 208 150 r150 = true := by decide +kernel
set_option maxRecDepth 100000 in
theorem k151 : xchk xcl xfts lw_tbl "TwinEntry" xsT xmi 208 151 r151 = true := by decide +kernel
set_option maxRecDepth 100000 in
theorem k152 : xchk xcl xfts lw_tbl "TwinEntry" xsT xmi 208 152 r152 = true := by decide +kernel
set_option maxRecDepth 100000 in
theorem k153 : xchk xcl xfts lw_tbl "TwinEntry" xsT xmi 208 153 r153 = true := by decide +kernel
set_option maxRecDepth 100000 in
theorem k154 : xchk xcl xfts lw_tbl "TwinEntry" xsT xmi 208 154 r154 = true := by decide +kernel
set_option maxRecDepth 100000 in
theorem k155 : xchk xcl xfts lw_tbl "TwinEntry" xsT xmi 208 155 r155 = true := by decide +kernel
set_option maxRecDepth 100000 in
theorem k156 : xchk xcl xfts lw_tbl "TwinEntry" xsT xmi 208 156 r156 = true := by decide +kernel
set_option maxRecDepth 100000 in
theorem k157 : xchk xcl xfts lw_tbl "TwinEntry" xsT xmi 208 157 r157 = true := by decide +kernel
set_option maxRecDepth 100000 in
theorem k158 : xchk xcl xfts lw_tbl "TwinEntry" xsT xmi 208 158 r158 = true := by decide +kernel
set_option maxRecDepth 100000 in
theorem k159 : xchk xcl xfts lw_tbl "TwinEntry" xsT xmi 208 159 r159 = true := by decide +kernel
set_option maxRecDepth 100000 in
theorem k160 : xchk xcl xfts lw_tbl "TwinEntry" xsT xmi 208 160 r160 = true := by decide +kernel
set_option maxRecDepth 100000 in
theorem k161 : xchk xcl xfts lw_tbl "TwinEntry" xsT xmi 208 161 r161 = true := by decide +kernel
set_option maxRecDepth 100000 in
theorem k162 : xchk xcl xfts lw_tbl "TwinEntry" xsT xmi 208 162 r162 = true := by decide +kernel
set_option maxRecDepth 100000 in
theorem k163 : xchk xcl xfts lw_tbl "TwinEntry" xsT xmi 208 163 r163 = true := by decide +kernel
set_option maxRecDepth 100000 in
theorem k164 : xchk xcl xfts lw_tbl "TwinEntry" xsT xmi 208 164 r164 = true := by decide +kernel
set_option maxRecDepth 100000 in
theorem k165 : xchk xcl xfts lw_tbl "TwinEntry" xsT xmi 208 165 r165 = true := by decide +kernel
set_option maxRecDepth 100000 in
theorem k166 : xchk xcl xfts lw_tbl "TwinEntry" xsT xmi 208 166 r166 = true := by decide +kernel
set_option maxRecDepth 100000 in
theorem k167 : xchk xcl xfts lw_tbl "TwinEntry" xsT xmi 208 167 r167 = true := by decide +kernel

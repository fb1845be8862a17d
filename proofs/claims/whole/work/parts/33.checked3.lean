set_option maxRecDepth 100000 in
theorem k168 : xchk xcl xfts lw_tbl "TwinEntry" xsT xmi 208 168 r168 = true := by decide +kernel
set_option maxRecDepth 100000 in
theorem k169 : xchk xcl xfts lw_tbl "TwinEntry" xsT xmi 208 169 r169 = true := by decide +kernel
set_option maxRecDepth 100000 in
theorem k170 : xchk xcl xfts lw_tbl "TwinEntry" xsT xmi 208 170 r170 = true := by decide +kernel
set_option maxRecDepth 100000 in
theorem k171 : xchk xcl xfts lw_tbl "TwinEntry" xsT xmi 208 171 r171 = true := by decide +kernel
set_option maxRecDepth 100000 in
theorem k172 : xchk xcl xfts lw_tbl "TwinEntry" xsT xmi 208 172 r172 = true := by decide +kernel
set_option maxRecDepth 100000 in
theorem k173 : xchk xcl xfts lw_tbl "TwinEntry" xsT xmi 208 173 r173 = true := by decide +kernel
set_option maxRecDepth 100000 in
theorem k174 : xchk xcl xfts lw_tbl "TwinEntry" xsT xmi 208 174 r174 = true := by decide +kernel
set_option maxRecDepth 100000 in
theorem k175 : xchk xcl xfts lw_tbl "TwinEntry" xsT xmi 208 175 r175 = true := by decide +kernel
set_option maxRecDepth 100000 in
theorem k176 : xchk xcl xfts lw_tbl "TwinEntry" xsT xmi 208 176 r176 = true := by decide +kernel
set_option maxRecDepth 100000 in
theorem k177 : xchk xcl xfts lw_tbl "TwinEntry" xsT xmi 208 177 r177 = true := by decide +kernel
set_option maxRecDepth 100000 in
theorem k178 : xchk xcl xfts lw_tbl "TwinEntry" xsT xmi 208 178 r178 = true := by decide +kernel
set_option maxRecDepth 100000 in
theorem k179 : xchk xcl xfts lw_tbl "TwinEntry" xsT xmi 208 179 r179 = true := by decide +kernel
set_option maxRecDepth 100000 in
theorem k180 : xchk xcl xfts lw_tbl "TwinEntry" xsT xmi 208 180 r180 = true := by decide +kernel
set_option maxRecDepth 100000 in
theorem k181 : xchk xcl xfts lw_tbl "TwinEntry" xsT xmi 208 181 r181 = true := by decide +kernel
set_option maxRecDepth 100000 in
theorem k182 : xchk xcl xfts lw_tbl "TwinEntry" xsT xmi 208 182 r182 = true := by decide +kernel
set_option maxRecDepth 100000 in
theorem k183 : xchk xcl xfts lw_tbl "TwinEntry" xsT xmi 208 183 r183 = true := by decide +kernel
set_option maxRecDepth 100000 in
theorem k184 : xchk xcl xfts lw_tbl "TwinEntry" xsT xmi 208 184 r184 = true := by decide +kernel
set_option maxRecDepth 100000 in
theorem k185 : xchk xcl xfts lw_tbl "TwinEntry" xsT xmi 208 185 r185 = true := by decide +kernel
set_option maxRecDepth 100000 in
theorem k186 : xchk xcl xfts lw_tbl "TwinEntry" xsT xmi 208 186 r186 = true := by decide +kernel
set_option maxRecDepth 100000 in
theorem k187 : xchk xcl xfts lw_tbl "TwinEntry" xsT xmi 208 187 r187 = true := by decide +kernel
set_option maxRecDepth 100000 in
theorem k188 : xchk xcl xfts lw_tbl "TwinEntry" xsT xmi 208 188 r188 = true := by decide +kernel
set_option maxRecDepth 100000 in
theorem k189 : xchk xcl xfts lw_tbl "TwinEntry" xsT xmi 208 189 r189 = true := by decide +kernel
set_option maxRecDepth 100000 in
theorem k190 : xchk xcl xfts lw_tbl "TwinEntry" xsT xmi 208 190 r190 = true := by decide +kernel
set_option maxRecDepth 100000 in
theorem k191 : xchk xcl xfts lw_tbl "TwinEntry" xsT xmi 208 191 r191 = true := by decide +kernel
set_option maxRecDepth 100000 in
theorem k192 : xchk xcl xfts lw_tbl "TwinEntry" xsT xmi 208 192 r192 = true := by decide +kernel
set_option maxRecDepth 100000 in
theorem k193 : xchk xcl xfts lw_tbl "TwinEntry" xsT xmi 208 193 r193 = true := by decide +kernel
set_option maxRecDepth 100000 in
theorem k194 : xchk xcl xfts lw_tbl "TwinEntry" xsT xmi 208 194 r194 = true := by decide +kernel
set_option maxRecDepth 100000 in
theorem k195 : xchk xcl xfts lw_tbl "TwinEntry" xsT xmi 208 195 r195 = true := by decide +kernel
set_option maxRecDepth 100000 in
theorem k196 : xchk xcl xfts lw_tbl "TwinEntry" xsT xmi 208 196 r196 = true := by decide +kernel
set_option maxRecDepth 100000 in
theorem k197 : xchk xcl xfts lw_tbl "TwinEntry" xsT xmi 208 197 r197 = true := by decide +kernel
set_option maxRecDepth 100000 in
theorem k198 : xchk xcl xfts lw_tbl "TwinEntry" xsT xmi 208 198 r198 = true := by decide +kernel
set_option maxRecDepth 100000 in
theorem k199 : xchk xcl xfts lw_tbl "TwinEntry" xsT xmi 208 199 r199 = true := by decide +kernel
set_option maxRecDepth 100000 in
theorem k200 : xchk xcl xfts lw_tbl "TwinEntry" xsT xmi 208 200 r200 = true := by decide +kernel
set_option maxRecDepth 100000 in
theorem k201 : xchk xcl xfts lw_tbl "TwinEntry" xsT xmi 208 201 r201 = true := by decide +kernel
set_option maxRecDepth 100000 in
theorem k202 : xchk xcl xfts lw_tbl "TwinEntry" xsT xmi 208 202 r202 = true := by decide +kernel
set_option maxRecDepth 100000 in
theorem k203 : xchk xcl xfts lw_tbl "TwinEntry" xsT xmi 208 203 r203 = true := by decide +kernel
set_option maxRecDepth 100000 in
theorem k204 : xchk xcl xfts lw_tbl "TwinEntry" xsT xmi 208 204 r204 = true := by decide +kernel
set_option maxRecDepth 100000 in
theorem k205 : xchk xcl xfts lw_tbl "TwinEntry" xsT xmi 208 205 r205 = true := by decide +kernel
set_option maxRecDepth 100000 in
theorem k206 : xchk xcl xfts lw_tbl "TwinEntry" xsT xmi 208 206 r206 = true := by decide +kernel
set_option maxRecDepth 100000 in
theorem k207 : xchk xcl xfts lw_tbl "TwinEntry" xsT xmi 208 207 r207 = true := by decide +kernel
set_option maxRecDepth 100000 in
theorem k208 : xchk xcl xfts lw_tbl "TwinEntry" xsT xmi 208 208 r208 = true := by decide +kernel
set_option maxRecDepth 100000 in
theorem k209 : xchk xcl xfts lw_tbl "TwinEntry" xsT xmi 208 209 r209 = true := by decide +kernel
set_option maxRecDepth 100000 in
theorem k210 : xchk xcl xfts lw_tbl "TwinEntry" xsT xmi 208 210 r210 = true := by decide +kernel
set_option maxRecDepth 100000 in
theorem k211 : xchk xcl xfts lw_tbl "TwinEntry" xsT xmi 208 211 r211 = true := by decide +kernel
set_option maxRecDepth 100000 in
theorem k212 : xchk xcl xfts lw_tbl "TwinEntry" xsT xmi 208 212 r212 = true := by decide +kernel
set_option maxRecDepth 100000 in
theorem k213 : xchk xcl xfts lw_tbl "TwinEntry" xsT xmi 208 213 r213 = true := by decide +kernel
set_option maxRecDepth 100000 in
theorem k214 : xchk xcl xfts lw_tbl "TwinEntry" xsT xmi 208 214 r214 = true := by decide +kernel
set_option maxRecDepth 100000 in
theorem k215 : xchk xcl xfts lw_tbl "TwinEntry" xsT xmi 208 215 r215 = true := by decide +kernel
set_option maxRecDepth 100000 in
theorem k216 : xchk xcl xfts lw_tbl "TwinEntry" xsT xmi 208 216 r216 = true := by decide +kernel
set_option maxRecDepth 100000 in
theorem k217 : xchk xcl xfts lw_tbl "TwinEntry" xsT xmi 208 217 r217 = true := by decide +kernel
set_option maxRecDepth 100000 in
theorem k218 : xchk xcl xfts lw_tbl "TwinEntry" xsT xmi 208 218 r218 = true := by decide +kernel
set_option maxRecDepth 100000 in
theorem k219 : xchk xcl xfts lw_tbl "TwinEntry" xsT xmi 208 219 r219 = true := by decide +kernel

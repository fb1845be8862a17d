/-! CLOSED FACTS OF ALL METHODS -/
theorem xfind2_all {r : List (Nat × List (Nat × xT))} {f : Nat × xT → Bool} {pc : Nat} {q : xT} (h : (r.all fun c => c.2.all f) = true) (hq : xfind2 r pc = some q) : f (pc, q) = true := by
  obtain ⟨c, g1, g2⟩ := xfind2_mem hq
  exact List.all_eq_true.mp (List.all_eq_true.mp h c g1) (pc, q) g2
def xrs : List (List (Nat × List (Nat × xT))) := [r0, r1, r2, r3, r4, r5, r6, r7, r8, r9, r10, r11, r12, r13, r14, r15, r16, r17, r18, r19, r20, r21, r22, r23, r24, r25, r26, r27, r28, r29, r30, r31, r32, r33, r34, r35, r36, r37, r38, r39, r40, r41, r42, r43, r44, r45, r46, r47, r48, r49, r50, r51, r52, r53, r54, r55, r56, r57, r58, r59, r60, r61, r62, r63, r64, r65, r66, r67, r68, r69, r70, r71, r72, r73, r74, r75, r76, r77, r78, r79, r80, r81, r82, r83, r84, r85, r86, r87, r88, r89, r90, r91, r92, r93, r94, r95, r96, r97, r98, r99, r100, r101, r102, r103, r104, r105, r106, r107, r108, r109, r110, r111, r112, r113, r114, r115, r116, r117, r118, r119, r120, r121, r122, r123, r124, r125, r126, r127, r128, r129, r130, r131, r132, r133, r134, r135, r136, r137, r138, r139, r140, r141, r142, r143, r144, r145, r146, r147, r148, r149, r150, r151, r152, r153, r154, r155, r156, r157, r158, r159, r160, r161, r162, r163, r164, r165, r166, r167, r168, r169, r170, r171, r172, r173, r174, r175, r176, r177, r178, r179, r180, r181, r182, r183, r184, r185, r186, r187, r188, r189, r190, r191, r192, r193, r194, r195, r196, r197, r198, r199, r200, r201, r202, r203, r204, r205, r206, r207, r208, r209, r210, r211, r212, r213, r214, r215, r216, r217, r218, r219]
def xhhs : List (List (Nat × Nat × Nat × Nat)) := [[(0, 5, 8, 13), (0, 5, 11, 15)], [(0, 9, 12, 13)], [(0, 9, 12, 15)], [(0, 9, 12, 13), (0, 9, 15, 28), (0, 9, 18, 15)], [(0, 8, 11, 15)], [(0, 8, 11, 37)], [(0, 9, 12, 37)], [(0, 6, 9, 15)], [(0, 6, 9, 13), (0, 6, 13, 37)], [(0, 9, 12, 37)], [(0, 9, 12, 37)], [(0, 15, 18, 13)]]
def xhh (y : Nat) : List (Nat × Nat × Nat × Nat) := xhhs.getD (y - 208) []
set_option maxRecDepth 100000 in
theorem xks_0 : ∀ y, 0 ≤ y → y < 44 → xchk xcl xfts lw_tbl "TwinEntry" xsT xmi 208 y (xrs.getD y []) = true :=
  (xrun (xrun (xrun (xrun (xrun (xrun (xrun (xrun (xrun (xrun (xrun (xrun (xrun (xrun (xrun (xrun (xrun (xrun (xrun (xrun (xrun (xrun (xrun (xrun (xrun (xrun (xrun (xrun (xrun (xrun (xrun (xrun (xrun (xrun (xrun (xrun (xrun (xrun (xrun (xrun (xrun (xrun (xrun (xrun (xrun0 (P := fun y => xchk xcl xfts lw_tbl "TwinEntry" xsT xmi 208 y (xrs.getD y []) = true) (a := 0)) k0) k1) k2) k3) k4) k5) k6) k7) k8) k9) k10) k11) k12) k13) k14) k15) k16) k17) k18) k19) k20) k21) k22) k23) k24) k25) k26) k27) k28) k29) k30) k31) k32) k33) k34) k35) k36) k37) k38) k39) k40) k41) k42) k43)
set_option maxRecDepth 100000 in
theorem xks_1 : ∀ y, 44 ≤ y → y < 88 → xchk xcl xfts lw_tbl "TwinEntry" xsT xmi 208 y (xrs.getD y []) = true :=
  (xrun (xrun (xrun (xrun (xrun (xrun (xrun (xrun (xrun (xrun (xrun (xrun (xrun (xrun (xrun (xrun (xrun (xrun (xrun (xrun (xrun (xrun (xrun (xrun (xrun (xrun (xrun (xrun (xrun (xrun (xrun (xrun (xrun (xrun (xrun (xrun (xrun (xrun (xrun (xrun (xrun (xrun (xrun (xrun (xrun0 (P := fun y => xchk xcl xfts lw_tbl "TwinEntry" xsT xmi 208 y (xrs.getD y []) = true) (a := 44)) k44) k45) k46) k47) k48) k49) k50) k51) k52) k53) k54) k55) k56) k57) k58) k59) k60) k61) k62) k63) k64) k65) k66) k67) k68) k69) k70) k71) k72) k73) k74) k75) k76) k77) k78) k79) k80) k81) k82) k83) k84) k85) k86) k87)
set_option maxRecDepth 100000 in
theorem xks_2 : ∀ y, 88 ≤ y → y < 132 → xchk xcl xfts lw_tbl "TwinEntry" xsT xmi 208 y (xrs.getD y []) = true :=
  (xrun (xrun (xrun (xrun (xrun (xrun (xrun (xrun (xrun (xrun (xrun (xrun (xrun (xrun (xrun (xrun (xrun (xrun (xrun (xrun (xrun (xrun (xrun (xrun (xrun (xrun (xrun (xrun (xrun (xrun (xrun (xrun (xrun (xrun (xrun (xrun (xrun (xrun (xrun (xrun (xrun (xrun (xrun (xrun (xrun0 (P := fun y => xchk xcl xfts lw_tbl "TwinEntry" xsT xmi 208 y (xrs.getD y []) = true) (a := 88)) k88) k89) k90) k91) k92) k93) k94) k95) k96) k97) k98) k99) k100) k101) k102) k103) k104) k105) k106) k107) k108) k109) k110) k111) k112) k113) k114) k115) k116) k117) k118) k119) k120) k121) k122) k123) k124) k125) k126) k127) k128) k129) k130) k131)
set_option maxRecDepth 100000 in
theorem xks_3 : ∀ y, 132 ≤ y → y < 176 → xchk xcl xfts lw_tbl "TwinEntry" xsT xmi 208 y (xrs.getD y []) = true :=
  (xrun (xrun (xrun (xrun (xrun (xrun (xrun (xrun (xrun (xrun (xrun (xrun (xrun (xrun (xrun (xrun (xrun (xrun (xrun (xrun (xrun (xrun (xrun (xrun (xrun (xrun (xrun (xrun (xrun (xrun (xrun (xrun (xrun (xrun (xrun (xrun (xrun (xrun (xrun (xrun (xrun (xrun (xrun (xrun (xrun0 (P := fun y => xchk xcl xfts lw_tbl "TwinEntry" xsT xmi 208 y (xrs.getD y []) = true) (a := 132)) k132) k133) k134) k135) k136) k137) k138) k139) k140) k141) k142) k143) k144) k145) k146) k147) k148) k149) k150) k151) k152) k153) k154) k155) k156) k157) k158) k159) k160) k161) k162) k163) k164) k165) k166) k167) k168) k169) k170) k171) k172) k173) k174) k175)
set_option maxRecDepth 100000 in
theorem xks_4 : ∀ y, 176 ≤ y → y < 220 → xchk xcl xfts lw_tbl "TwinEntry" xsT xmi 208 y (xrs.getD y []) = true :=
  (xrun (xrun (xrun (xrun (xrun (xrun (xrun (xrun (xrun (xrun (xrun (xrun (xrun (xrun (xrun (xrun (xrun (xrun (xrun (xrun (xrun (xrun (xrun (xrun (xrun (xrun (xrun (xrun (xrun (xrun (xrun (xrun (xrun (xrun (xrun (xrun (xrun (xrun (xrun (xrun (xrun (xrun (xrun (xrun (xrun0 (P := fun y => xchk xcl xfts lw_tbl "TwinEntry" xsT xmi 208 y (xrs.getD y []) = true) (a := 176)) k176) k177) k178) k179) k180) k181) k182) k183) k184) k185) k186) k187) k188) k189) k190) k191) k192) k193) k194) k195) k196) k197) k198) k199) k200) k201) k202) k203) k204) k205) k206) k207) k208) k209) k210) k211) k212) k213) k214) k215) k216) k217) k218) k219)
set_option maxRecDepth 100000 in
theorem xtts_0 : ∀ y, 0 ≤ y → y < 44 → ∃ hd, xtt y = (xfind2 (xrs.getD y []), hd, (xmi y).2.2.1) :=
  (xrun (xrun (xrun (xrun (xrun (xrun (xrun (xrun (xrun (xrun (xrun (xrun (xrun (xrun (xrun (xrun (xrun (xrun (xrun (xrun (xrun (xrun (xrun (xrun (xrun (xrun (xrun (xrun (xrun (xrun (xrun (xrun (xrun (xrun (xrun (xrun (xrun (xrun (xrun (xrun (xrun (xrun (xrun (xrun (xrun0 (P := fun y => ∃ hd, xtt y = (xfind2 (xrs.getD y []), hd, (xmi y).2.2.1)) (a := 0)) ⟨_, rfl⟩) ⟨_, rfl⟩) ⟨_, rfl⟩) ⟨_, rfl⟩) ⟨_, rfl⟩) ⟨_, rfl⟩) ⟨_, rfl⟩) ⟨_, rfl⟩) ⟨_, rfl⟩) ⟨_, rfl⟩) ⟨_, rfl⟩) ⟨_, rfl⟩) ⟨_, rfl⟩) ⟨_, rfl⟩) ⟨_, rfl⟩) ⟨_, rfl⟩) ⟨_, rfl⟩) ⟨_, rfl⟩) ⟨_, rfl⟩) ⟨_, rfl⟩) ⟨_, rfl⟩) ⟨_, rfl⟩) ⟨_, rfl⟩) ⟨_, rfl⟩) ⟨_, rfl⟩) ⟨_, rfl⟩) ⟨_, rfl⟩) ⟨_, rfl⟩) ⟨_, rfl⟩) ⟨_, rfl⟩) ⟨_, rfl⟩) ⟨_, rfl⟩) ⟨_, rfl⟩) ⟨_, rfl⟩) ⟨_, rfl⟩) ⟨_, rfl⟩) ⟨_, rfl⟩) ⟨_, rfl⟩) ⟨_, rfl⟩) ⟨_, rfl⟩) ⟨_, rfl⟩) ⟨_, rfl⟩) ⟨_, rfl⟩) ⟨_, rfl⟩)
set_option maxRecDepth 100000 in
theorem xtts_1 : ∀ y, 44 ≤ y → y < 88 → ∃ hd, xtt y = (xfind2 (xrs.getD y []), hd, (xmi y).2.2.1) :=
  (xrun (xrun (xrun (xrun (xrun (xrun (xrun (xrun (xrun (xrun (xrun (xrun (xrun (xrun (xrun (xrun (xrun (xrun (xrun (xrun (xrun (xrun (xrun (xrun (xrun (xrun (xrun (xrun (xrun (xrun (xrun (xrun (xrun (xrun (xrun (xrun (xrun (xrun (xrun (xrun (xrun (xrun (xrun (xrun (xrun0 (P := fun y => ∃ hd, xtt y = (xfind2 (xrs.getD y []), hd, (xmi y).2.2.1)) (a := 44)) ⟨_, rfl⟩) ⟨_, rfl⟩) ⟨_, rfl⟩) ⟨_, rfl⟩) ⟨_, rfl⟩) ⟨_, rfl⟩) ⟨_, rfl⟩) ⟨_, rfl⟩) ⟨_, rfl⟩) ⟨_, rfl⟩) ⟨_, rfl⟩) ⟨_, rfl⟩) ⟨_, rfl⟩) ⟨_, rfl⟩) ⟨_, rfl⟩) ⟨_, rfl⟩) ⟨_, rfl⟩) ⟨_, rfl⟩) ⟨_, rfl⟩) ⟨_, rfl⟩) ⟨_, rfl⟩) ⟨_, rfl⟩) ⟨_, rfl⟩) ⟨_, rfl⟩) ⟨_, rfl⟩) ⟨_, rfl⟩) ⟨_, rfl⟩) ⟨_, rfl⟩) ⟨_, rfl⟩) ⟨_, rfl⟩) ⟨_, rfl⟩) ⟨_, rfl⟩) ⟨_, rfl⟩) ⟨_, rfl⟩) ⟨_, rfl⟩) ⟨_, rfl⟩) ⟨_, rfl⟩) ⟨_, rfl⟩) ⟨_, rfl⟩) ⟨_, rfl⟩) ⟨_, rfl⟩) ⟨_, rfl⟩) ⟨_, rfl⟩) ⟨_, rfl⟩)
set_option maxRecDepth 100000 in
theorem xtts_2 : ∀ y, 88 ≤ y → y < 132 → ∃ hd, xtt y = (xfind2 (xrs.getD y []), hd, (xmi y).2.2.1) :=
  (xrun (xrun (xrun (xrun (xrun (xrun (xrun (xrun (xrun (xrun (xrun (xrun (xrun (xrun (xrun (xrun (xrun (xrun (xrun (xrun (xrun (xrun (xrun (xrun (xrun (xrun (xrun (xrun (xrun (xrun (xrun (xrun (xrun (xrun (xrun (xrun (xrun (xrun (xrun (xrun (xrun (xrun (xrun (xrun (xrun0 (P := fun y => ∃ hd, xtt y = (xfind2 (xrs.getD y []), hd, (xmi y).2.2.1)) (a := 88)) ⟨_, rfl⟩) ⟨_, rfl⟩) ⟨_, rfl⟩) ⟨_, rfl⟩) ⟨_, rfl⟩) ⟨_, rfl⟩) ⟨_, rfl⟩) ⟨_, rfl⟩) ⟨_, rfl⟩) ⟨_, rfl⟩) ⟨_, rfl⟩) ⟨_, rfl⟩) ⟨_, rfl⟩) ⟨_, rfl⟩) ⟨_, rfl⟩) ⟨_, rfl⟩) ⟨_, rfl⟩) ⟨_, rfl⟩) ⟨_, rfl⟩) ⟨_, rfl⟩) ⟨_, rfl⟩) ⟨_, rfl⟩) ⟨_, rfl⟩) ⟨_, rfl⟩) ⟨_, rfl⟩) ⟨_, rfl⟩) ⟨_, rfl⟩) ⟨_, rfl⟩) ⟨_, rfl⟩) ⟨_, rfl⟩) ⟨_, rfl⟩) ⟨_, rfl⟩) ⟨_, rfl⟩) ⟨_, rfl⟩) ⟨_, rfl⟩) ⟨_, rfl⟩) ⟨_, rfl⟩) ⟨_, rfl⟩) ⟨_, rfl⟩) ⟨_, rfl⟩) ⟨_, rfl⟩) ⟨_, rfl⟩) ⟨_, rfl⟩) ⟨_, rfl⟩)
set_option maxRecDepth 100000 in
theorem xtts_3 : ∀ y, 132 ≤ y → y < 176 → ∃ hd, xtt y = (xfind2 (xrs.getD y []), hd, (xmi y).2.2.1) :=
  (xrun (xrun (xrun (xrun (xrun (xrun (xrun (xrun (xrun (xrun (xrun (xrun (xrun (xrun (xrun (xrun (xrun (xrun (xrun (xrun (xrun (xrun (xrun (xrun (xrun (xrun (xrun (xrun (xrun (xrun (xrun (xrun (xrun (xrun (xrun (xrun (xrun (xrun (xrun (xrun (xrun (xrun (xrun (xrun (xrun0 (P := fun y => ∃ hd, xtt y = (xfind2 (xrs.getD y []), hd, (xmi y).2.2.1)) (a := 132)) ⟨_, rfl⟩) ⟨_, rfl⟩) ⟨_, rfl⟩) ⟨_, rfl⟩) ⟨_, rfl⟩) ⟨_, rfl⟩) ⟨_, rfl⟩) ⟨_, rfl⟩) ⟨_, rfl⟩) ⟨_, rfl⟩) ⟨_, rfl⟩) ⟨_, rfl⟩) ⟨_, rfl⟩) ⟨_, rfl⟩) ⟨_, rfl⟩) ⟨_, rfl⟩) ⟨_, rfl⟩) ⟨_, rfl⟩) ⟨_, rfl⟩) ⟨_, rfl⟩) ⟨_, rfl⟩) ⟨_, rfl⟩) ⟨_, rfl⟩) ⟨_, rfl⟩) ⟨_, rfl⟩) ⟨_, rfl⟩) ⟨_, rfl⟩) ⟨_, rfl⟩) ⟨_, rfl⟩) ⟨_, rfl⟩) ⟨_, rfl⟩) ⟨_, rfl⟩) ⟨_, rfl⟩) ⟨_, rfl⟩) ⟨_, rfl⟩) ⟨_, rfl⟩) ⟨_, rfl⟩) ⟨_, rfl⟩) ⟨_, rfl⟩) ⟨_, rfl⟩) ⟨_, rfl⟩) ⟨_, rfl⟩) ⟨_, rfl⟩) ⟨_, rfl⟩)
set_option maxRecDepth 100000 in
theorem xtts_4 : ∀ y, 176 ≤ y → y < 220 → ∃ hd, xtt y = (xfind2 (xrs.getD y []), hd, (xmi y).2.2.1) :=
  (xrun (xrun (xrun (xrun (xrun (xrun (xrun (xrun (xrun (xrun (xrun (xrun (xrun (xrun (xrun (xrun (xrun (xrun (xrun (xrun (xrun (xrun (xrun (xrun (xrun (xrun (xrun (xrun (xrun (xrun (xrun (xrun (xrun (xrun (xrun (xrun (xrun (xrun (xrun (xrun (xrun (xrun (xrun (xrun (xrun0 (P := fun y => ∃ hd, xtt y = (xfind2 (xrs.getD y []), hd, (xmi y).2.2.1)) (a := 176)) ⟨_, rfl⟩) ⟨_, rfl⟩) ⟨_, rfl⟩) ⟨_, rfl⟩) ⟨_, rfl⟩) ⟨_, rfl⟩) ⟨_, rfl⟩) ⟨_, rfl⟩) ⟨_, rfl⟩) ⟨_, rfl⟩) ⟨_, rfl⟩) ⟨_, rfl⟩) ⟨_, rfl⟩) ⟨_, rfl⟩) ⟨_, rfl⟩) ⟨_, rfl⟩) ⟨_, rfl⟩) ⟨_, rfl⟩) ⟨_, rfl⟩) ⟨_, rfl⟩) ⟨_, rfl⟩) ⟨_, rfl⟩) ⟨_, rfl⟩) ⟨_, rfl⟩) ⟨_, rfl⟩) ⟨_, rfl⟩) ⟨_, rfl⟩) ⟨_, rfl⟩) ⟨_, rfl⟩) ⟨_, rfl⟩) ⟨_, rfl⟩) ⟨_, rfl⟩) ⟨_, rfl⟩) ⟨_, rfl⟩) ⟨_, rfl⟩) ⟨_, rfl⟩) ⟨_, rfl⟩) ⟨_, rfl⟩) ⟨_, rfl⟩) ⟨_, rfl⟩) ⟨_, rfl⟩) ⟨_, rfl⟩) ⟨_, rfl⟩) ⟨_, rfl⟩)
theorem xks_all {y : Nat} (h : y < 220) : xchk xcl xfts lw_tbl "TwinEntry" xsT xmi 208 y (xrs.getD y []) = true := by
  have : y < 44 ∨ (44 ≤ y ∧ y < 88) ∨ (88 ≤ y ∧ y < 132) ∨ (132 ≤ y ∧ y < 176) ∨ (176 ≤ y ∧ y < 220) := by omega
  rcases this with g | g | g | g | g
  · exact xks_0 y (Nat.zero_le _) g
  · exact xks_1 y g.1 g.2
  · exact xks_2 y g.1 g.2
  · exact xks_3 y g.1 g.2
  · exact xks_4 y g.1 g.2
theorem xtt_all {y : Nat} (h : y < 220) : ∃ hd, xtt y = (xfind2 (xrs.getD y []), hd, (xmi y).2.2.1) := by
  have : y < 44 ∨ (44 ≤ y ∧ y < 88) ∨ (88 ≤ y ∧ y < 132) ∨ (132 ≤ y ∧ y < 176) ∨ (176 ≤ y ∧ y < 220) := by omega
  rcases this with g | g | g | g | g
  · exact xtts_0 y (Nat.zero_le _) g
  · exact xtts_1 y g.1 g.2
  · exact xtts_2 y g.1 g.2
  · exact xtts_3 y g.1 g.2
  · exact xtts_4 y g.1 g.2
theorem xrows_all {y : Nat} (h : y < 220) : xRows xcl xfts lw_tbl "TwinEntry" xsT xmi 208 y (xtt y) := by
  obtain ⟨hd, e⟩ := xtt_all h
  rw [e]
  exact xchk_rows (xks_all h)
theorem xml_all {y : Nat} (h : y < 220) : (xtt y).2.2 = (xmi y).2.2.1 := by
  obtain ⟨hd, e⟩ := xtt_all h
  rw [e]
set_option maxRecDepth 100000 in
theorem xnoh_b : ((List.range 208).all fun y => (xtt y).2.1.isEmpty) = true := by decide +kernel
theorem xnoh_all {y : Nat} (h : y < 208) : (xtt y).2.1 = [] := List.isEmpty_iff.mp (List.all_eq_true.mp xnoh_b y (List.mem_range.mpr h))
/-- the makers of what is thrown, by the number of their entry -/
def xth4 : List (Nat × Nat) := [(2000, 57), (2001, 60), (2002, 108), (2003, 152)]
set_option maxRecDepth 100000 in
theorem xth4_0 : xthB lw_tbl "TwinEntry" (xen 0) 57 xnms = true := by decide +kernel
set_option maxRecDepth 100000 in
theorem xth4_1 : xthB lw_tbl "TwinEntry" (xen 1) 60 xnms = true := by decide +kernel
set_option maxRecDepth 100000 in
theorem xth4_2 : xthB lw_tbl "TwinEntry" (xen 2) 108 xnms = true := by decide +kernel
set_option maxRecDepth 100000 in
theorem xth4_3 : xthB lw_tbl "TwinEntry" (xen 3) 152 xnms = true := by decide +kernel
theorem xth4_all {a ic : Nat} (h : (a, ic) ∈ xth4) : xthB lw_tbl "TwinEntry" (xen (a - 2000)) ic xnms = true := by
  simp only [xth4, List.mem_cons, Prod.mk.injEq, List.not_mem_nil, or_false] at h
  rcases h with ⟨rfl, rfl⟩ | ⟨rfl, rfl⟩ | ⟨rfl, rfl⟩ | ⟨rfl, rfl⟩
  · exact xth4_0
  · exact xth4_1
  · exact xth4_2
  · exact xth4_3
def xthp : List (Nat × Nat × Nat) := [(652, 116, 0), (716, 117, 0), (1002, 119, 0), (1086, 120, 0)]
def xthq (me : xMi) (pc : Nat) (q : xT) : Bool := match q.1 with
  | .new ik => decide (2000 ≤ q.2.2.1) && (decide (q.2.2.2.1 = 6) && (match decode me.2.1 (pc + 4) with
    | .ok (.invokespecial ic, 3) => decide (decode me.2.1 (pc + 3) = .ok (.dup, 1)) && (decide (decode me.2.1 (pc + 7) = .ok (.athrow, 1)) && ((decide (me.1.cls = "TwinEntry") && decide ((q.2.2.1, ic) ∈ xth4)) && (decide (q.2.1 = 3) && (xhas lw_tbl (xcp q.2.2.2.2) (.classLink me.1.cls ik (xen (q.2.2.1 - 2000))) && (decide (lw_tbl[(xthp.getD (q.2.2.1 - 2000) (0, 0, 0)).1]? = some (Cond.instantiable (xen (q.2.2.1 - 2000)) 6)) && decide (lw_tbl[(xthp.getD (q.2.2.1 - 2000) (0, 0, 0)).2.1]? = some (Cond.initialized (xen (q.2.2.1 - 2000)))))))))
    | _ => false))
  | _ => true
set_option maxRecDepth 1000000 in
theorem xthq_of {me : xMi} {pc : Nat} {q : xT} (h : xthq me pc q = true) : xthr lw_tbl me pc q = true := by
  obtain ⟨i, len, a, b, v⟩ := q
  unfold xthq at h
  unfold xthr
  dsimp only at h ⊢
  cases i with
  | new ik =>
    simp only [Bool.and_eq_true, decide_eq_true_eq] at h ⊢
    obtain ⟨h1, h2, h3⟩ := h
    refine ⟨h1, h2, ?_⟩
    split at h3
    · rename_i ic d4
      rw [d4]
      simp only [Bool.and_eq_true, decide_eq_true_eq] at h3 ⊢
      obtain ⟨g1, g2, ⟨g3, g4⟩, g5, g6, g7, g8⟩ := h3
      exact ⟨g1, g2, g3 ▸ xth4_all g4, g5, g6, List.mem_of_getElem? g7, List.mem_of_getElem? g8⟩
    · cases h3
  | _ => rfl
/-- a throwing row, by a program's check -/
def xthc (y : Nat) (q : Nat × xT) : Bool := !(Nat.ble 2000 q.2.2.2.1 && xnewi q.2.1) || (xthq (xmi y) q.1 q.2 && (Nat.ble 6 (xmi y).2.2.2.2.1 && Nat.ble 83 (xmi y).2.2.2.2.2.1))
set_option maxRecDepth 100000 in
theorem xthc_0 : ((List.range' 0 52).all fun y => (xrs.getD y []).all fun c => c.2.all (xthc y)) = true := by decide +kernel
set_option maxRecDepth 100000 in
theorem xthc_1 : ((List.range' 52 52).all fun y => (xrs.getD y []).all fun c => c.2.all (xthc y)) = true := by decide +kernel
set_option maxRecDepth 100000 in
theorem xthc_2 : ((List.range' 104 52).all fun y => (xrs.getD y []).all fun c => c.2.all (xthc y)) = true := by decide +kernel
set_option maxRecDepth 100000 in
theorem xthc_3 : ((List.range' 156 52).all fun y => (xrs.getD y []).all fun c => c.2.all (xthc y)) = true := by decide +kernel
theorem xthc_all {y : Nat} (h : y < 208) : ((xrs.getD y []).all fun c => c.2.all (xthc y)) = true := by
  have key : ∀ a, ((List.range' a 52).all fun y => (xrs.getD y []).all fun c => c.2.all (xthc y)) = true → a ≤ y → y < a + 52 → ((xrs.getD y []).all fun c => c.2.all (xthc y)) = true := fun a hm h1 h2 => List.all_eq_true.mp hm y (List.mem_range'_1.mpr ⟨h1, h2⟩)
  have : y < 52 ∨ (52 ≤ y ∧ y < 104) ∨ (104 ≤ y ∧ y < 156) ∨ (156 ≤ y ∧ y < 208) := by omega
  rcases this with g | g | g | g
  · exact key 0 xthc_0 (Nat.zero_le _) g
  · exact key 52 xthc_1 g.1 g.2
  · exact key 104 xthc_2 g.1 g.2
  · exact key 156 xthc_3 g.1 g.2
theorem xthr_all {y : Nat} (h : y < 208) {pc : Nat} {q : xT} (hq : (xtt y).1 pc = some q) (h1 : 2000 ≤ q.2.2.1) (h2 : ∃ idx, q.1 = .new idx) : xthr lw_tbl (xmi y) pc q = true ∧ 6 ≤ (xmi y).2.2.2.2.1 ∧ 83 ≤ (xmi y).2.2.2.2.2.1 := by
  obtain ⟨hd, e⟩ := xtt_all (y := y) (by omega)
  rw [e] at hq
  have g := xfind2_all (xthc_all h) hq
  obtain ⟨idx, hi⟩ := h2
  have g1 : xnewi q.1 = true := by rw [hi]; rfl
  have g2 : Nat.ble 2000 q.2.2.1 = true := Nat.ble_eq_true_of_le h1
  unfold xthc at g
  dsimp only at g
  rw [g1, g2] at g
  simp only [Bool.and_self, Bool.not_true, Bool.false_or, Bool.and_eq_true] at g
  exact ⟨xthq_of g.1, Nat.le_of_ble_eq_true g.2.1, Nat.le_of_ble_eq_true g.2.2⟩
/-- calls of the methods that catch, by a program's check -/
def xplV (y : Nat) (q : Nat × xT) : Bool := match q.2.1 with
  | .invokevirtual idx => xhas lw_tbl (xcp q.2.2.2.2.2) (.methodLink (xmi y).1.cls idx (xmi q.2.2.2.1).1)
  | .invokestatic _ => false
  | .invokespecial _ => false
  | _ => true
set_option maxRecDepth 100000 in
theorem xplV_b : ((List.range' 208 12).all fun y => (xrs.getD y []).all fun c => c.2.all (xplV y)) = true := by decide +kernel
theorem xplV_all {y : Nat} (h1 : 208 ≤ y) (h2 : y < 220) {pc : Nat} {q : xT} (hq : (xtt y).1 pc = some q) : xplV y (pc, q) = true := by
  obtain ⟨hd, e⟩ := xtt_all h2
  rw [e] at hq
  exact xfind2_all (List.all_eq_true.mp xplV_b y (List.mem_range'_1.mpr ⟨h1, by omega⟩)) hq
set_option maxRecDepth 100000 in
theorem xhdB_b : ((List.range' 208 12).all fun y => xhdB lw_tbl (xmi y) (xhh y) (xtt y).2.1) = true := by decide +kernel
theorem xhdB_all {y : Nat} (h1 : 208 ≤ y) (h2 : y < 220) : xhdB lw_tbl (xmi y) (xhh y) (xtt y).2.1 = true := List.all_eq_true.mp xhdB_b y (List.mem_range'_1.mpr ⟨h1, by omega⟩)
def xhwp : List (Nat × Nat × Nat) := [(644, 99, 643), (745, 99, 744), (923, 99, 922), (995, 99, 994), (1022, 99, 1021), (1079, 99, 1078), (1102, 99, 1101), (1109, 99, 1108), (1116, 99, 1115), (1123, 99, 1122), (1130, 99, 1129), (1137, 99, 1136)]
def xMokWB (it : xMi) (hh : List (Nat × Nat × Nat × Nat)) (q : Nat × Nat × Nat) : Bool := decide (lw_tbl[q.1]? = some (Cond.codeWith it.1 it.2.1 it.2.2.1 it.2.2.2.1 hh)) && (decide (lw_tbl[q.2.1]? = some (Cond.initialized it.1.cls)) && (decide (it.1.cls ≠ "java/lang/invoke/MethodHandle" ∧ it.1.cls ≠ "java/lang/invoke/VarHandle") && (decide ((parseMethodDescriptor it.1.desc).map (fun d => d.parameters.length) = some it.2.2.2.2.2.2.2) && (decide (lw_tbl[q.2.2]? = some (Cond.static it.1)) && plainName it.1.cls))))
set_option maxRecDepth 100000 in
theorem xMokW_b : ((List.range' 208 12).all fun y => xMokWB (xmi y) (xhh y) (xhwp.getD (y - 208) (0, 0, 0))) = true := by decide +kernel
theorem xMokW_all {y : Nat} (h1 : 208 ≤ y) (h2 : y < 220) : xMokW lw_tbl (xmi y) (xhh y) ∧ plainName (xmi y).1.cls = true := by
  have h := List.all_eq_true.mp xMokW_b y (List.mem_range'_1.mpr ⟨h1, by omega⟩)
  simp only [xMokWB, Bool.and_eq_true, decide_eq_true_eq] at h
  exact ⟨⟨List.mem_of_getElem? h.1, List.mem_of_getElem? h.2.1, h.2.2.1, h.2.2.2.1, List.mem_of_getElem? h.2.2.2.2.1⟩, h.2.2.2.2.2⟩
def xcsp : List Nat := [653, 717, 1003, 1087]
set_option maxRecDepth 100000 in
theorem xcast_b : ((List.range 4).all fun k => decide (lw_tbl[xcsp.getD k 0]? = some (Cond.castable (xen k) (xen k)))) = true := by decide +kernel
theorem xcast_all : ∀ k, k < 4 → Cond.castable (xen k) (xen k) ∈ lw_tbl := fun k hk => List.mem_of_getElem? (decide_eq_true_eq.mp (List.all_eq_true.mp xcast_b k (List.mem_range.mpr hk)))
def xplL (q : Nat × xT) : Bool := match q.2.1 with
  | .invokestatic idx => Nat.blt q.2.2.2.1 208 || xhas lw_tbl (xcp q.2.2.2.2.2) (.methodLink (xmi 220).1.cls idx (xmi q.2.2.2.1).1)
  | .invokevirtual _ => Nat.blt q.2.2.2.1 208
  | .invokespecial _ => Nat.blt q.2.2.2.1 208
  | _ => true
set_option maxRecDepth 100000 in
theorem xplL_b : (r220.all fun c => c.2.all xplL) = true := by decide +kernel
theorem xrows_law : xRows xcl xfts lw_tbl "TwinEntry" xsT xmi 220 220 p220 := xchk_rows k220

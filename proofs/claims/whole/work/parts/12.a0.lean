def flMk : List Nat := [0, 0, 0, 1, 1, 1, 1, 0, 1, 1, 1, 1, 1, 1, 0, 0, 0, 1, 1, 1, 0, 0, 0, 0, 0, 0, 0, 1, 1, 1, 1, 1, 1, 1, 1, 1, 0, 0, 0, 0, 0, 1, 1, 1, 0, 0, 0, 0, 0, 1, 1, 1, 1, 1, 1, 1, 1, 1]
set_option maxRecDepth 100000 in
noncomputable def f_X12_init (G : Mem) (O : MemO)  : Option (Mem × MemO) := bnd (up2 G 0 1 24) (fun G1 => bnd (zr 0 G1 1) (fun G2 => bnd (up2 G2 1 (0 : Int32).toNatClampNeg 3) (fun G4 => bnd (up2 G4 1 (1 : Int32).toNatClampNeg 3) (fun G5 => bnd (up2 G5 1 (2 : Int32).toNatClampNeg 3) (fun G6 => bnd (up2 G6 1 (3 : Int32).toNatClampNeg 3) (fun G7 => bnd (up2 G7 1 (4 : Int32).toNatClampNeg 3) (fun G8 => bnd (up2 G8 1 (5 : Int32).toNatClampNeg 3) (fun G9 => bnd (up2 G9 1 (6 : Int32).toNatClampNeg 3) (fun G10 => bnd (up2 G10 1 (7 : Int32).toNatClampNeg 3) (fun G11 => bnd (up2 G11 1 (8 : Int32).toNatClampNeg 3) (fun G12 => bnd (up2 G12 1 (9 : Int32).toNatClampNeg 3) (fun G13 => bnd (up2 G13 1 (10 : Int32).toNatClampNeg 3) (fun G14 => bnd (up2 G14 1 (11 : Int32).toNatClampNeg 3) (fun G15 => bnd (up2 G15 1 (12 : Int32).toNatClampNeg 3) (fun G16 => bnd (up2 G16 1 (13 : Int32).toNatClampNeg 3) (fun G17 => bnd (up2 G17 1 (14 : Int32).toNatClampNeg 3) (fun G18 => bnd (up2 G18 1 (15 : Int32).toNatClampNeg 3) (fun G19 => bnd (up2 G19 1 (16 : Int32).toNatClampNeg 3) (fun G20 => bnd (up2 G20 1 (17 : Int32).toNatClampNeg 3) (fun G21 => bnd (up2 G21 1 (18 : Int32).toNatClampNeg 3) (fun G22 => bnd (up2 G22 1 (19 : Int32).toNatClampNeg 3) (fun G23 => bnd (up2 G23 1 (20 : Int32).toNatClampNeg 3) (fun G24 => bnd (up2 G24 1 (21 : Int32).toNatClampNeg 3) (fun G25 => bnd (up2 G25 1 (22 : Int32).toNatClampNeg 3) (fun G26 => bnd (up2 G26 1 (23 : Int32).toNatClampNeg 3) (fun G27 => bnd (up2 G27 1 (24 : Int32).toNatClampNeg 3) (fun G28 => bnd (up2 G28 1 (25 : Int32).toNatClampNeg 3) (fun G29 => bnd (up2 G29 1 (26 : Int32).toNatClampNeg 3) (fun G30 => bnd (up2 G30 1 (27 : Int32).toNatClampNeg 3) (fun G31 => bnd (up2 G31 1 (28 : Int32).toNatClampNeg 3) (fun G32 => bnd (up2 G32 1 (29 : Int32).toNatClampNeg 3) (fun G33 => bnd (up2 G33 1 (30 : Int32).toNatClampNeg 3) (fun G34 => bnd (up2 G34 1 (31 : Int32).toNatClampNeg 3) (fun G35 => bnd (up2 G35 1 (32 : Int32).toNatClampNeg 3) (fun G36 => bnd (up2 G36 1 (33 : Int32).toNatClampNeg 3) (fun G37 => bnd (up2 G37 1 (34 : Int32).toNatClampNeg 3) (fun G38 => bnd (up2 G38 1 (35 : Int32).toNatClampNeg 3) (fun G39 => bnd (up2 G39 1 (36 : Int32).toNatClampNeg 3) (fun G40 => bnd (up2 G40 1 (37 : Int32).toNatClampNeg 3) (fun G41 => bnd (up2 G41 1 (38 : Int32).toNatClampNeg 3) (fun G42 => bnd (up2 G42 1 (39 : Int32).toNatClampNeg 3) (fun G43 => bnd (up2 G43 1 (40 : Int32).toNatClampNeg 3) (fun G44 => bnd (up2 G44 1 (41 : Int32).toNatClampNeg 3) (fun G45 => bnd (up2 G45 1 (42 : Int32).toNatClampNeg 3) (fun G46 => bnd (up2 G46 1 (43 : Int32).toNatClampNeg 3) (fun G47 => bnd (up2 G47 1 (44 : Int32).toNatClampNeg 3) (fun G48 => bnd (up2 G48 1 (45 : Int32).toNatClampNeg 3) (fun G49 => bnd (up2 G49 1 (46 : Int32).toNatClampNeg 3) (fun G50 => bnd (up2 G50 1 (47 : Int32).toNatClampNeg 3) (fun G51 => bnd (up2 O 0 3 (some 1)) (fun O52 => bnd (zr 0 G51 2) (fun G53 => bnd (up2 O52 0 4 (some 2)) (fun O55 => bnd (zr 0 G53 3) (fun G56 => bnd (up2 O55 0 5 (some 3)) (fun O58 => bnd (zr 0 G56 4) (fun G59 => bnd (up2 O58 0 6 (some 4)) (fun O61 => bnd (zr 0 G59 5) (fun G62 => bnd (up2 O61 0 8 (some 5)) (fun O64 => bnd (zr 0 G62 6) (fun G65 => bnd (up2 O64 0 9 (some 6)) (fun O67 => bnd (zr 0 G65 7) (fun G68 => bnd (up2 O67 0 10 (some 7)) (fun O70 => bnd (zr 0 G68 8) (fun G71 => bnd (up2 O70 0 11 (some 8)) (fun O73 => bnd (zr 0 G71 9) (fun G74 => bnd (up2 O73 0 12 (some 9)) (fun O76 => bnd (zr 0 G74 10) (fun G77 => bnd (up2 O76 0 13 (some 10)) (fun O79 => bnd (up2 G77 0 15 1) (fun G80 => bnd (zr 0 G80 11) (fun G81 => bnd (up2 O79 0 17 (some 11)) (fun O83 => bnd (zr 0 G81 12) (fun G84 => bnd (up2 O83 0 18 (some 12)) (fun O86 => bnd (zr 0 G84 13) (fun G87 => bnd (up2 O86 0 19 (some 13)) (fun O89 => bnd (zr 0 G87 14) (fun G90 => bnd (up2 O89 0 27 (some 14)) (fun O92 => bnd (zr 0 G90 15) (fun G93 => bnd (up2 O92 0 28 (some 15)) (fun O95 => bnd (zr 0 G93 16) (fun G96 => bnd (up2 G96 16 (0 : Int32).toNatClampNeg 104) (fun G98 => bnd (up2 G98 16 (1 : Int32).toNatClampNeg 101) (fun G99 => bnd (up2 G99 16 (2 : Int32).toNatClampNeg 108) (fun G100 => bnd (up2 G100 16 (3 : Int32).toNatClampNeg 100) (fun G101 => bnd (up2 G101 16 (4 : Int32).toNatClampNeg 32) (fun G102 => bnd (up2 G102 16 (5 : Int32).toNatClampNeg 108) (fun G103 => bnd (up2 G103 16 (6 : Int32).toNatClampNeg 111) (fun G104 => bnd (up2 G104 16 (7 : Int32).toNatClampNeg 117) (fun G105 => bnd (up2 G105 16 (8 : Int32).toNatClampNeg 100) (fun G106 => bnd (up2 G106 16 (9 : Int32).toNatClampNeg 32) (fun G107 => bnd (up2 G107 16 (10 : Int32).toNatClampNeg 115) (fun G108 => bnd (up2 G108 16 (11 : Int32).toNatClampNeg 116) (fun G109 => bnd (up2 G109 16 (12 : Int32).toNatClampNeg 101) (fun G110 => bnd (up2 G110 16 (13 : Int32).toNatClampNeg 112) (fun G111 => bnd (up2 G111 16 (14 : Int32).toNatClampNeg 32) (fun G112 => bnd (up2 G112 16 (15 : Int32).toNatClampNeg 115) (fun G113 => bnd (up2 G113 16 (16 : Int32).toNatClampNeg 105) (fun G114 => bnd (up2 G114 16 (17 : Int32).toNatClampNeg 110) (fun G115 => bnd (up2 G115 16 (18 : Int32).toNatClampNeg 103) (fun G116 => bnd (up2 G116 16 (19 : Int32).toNatClampNeg 105) (fun G117 => bnd (up2 G117 16 (20 : Int32).toNatClampNeg 110) (fun G118 => bnd (up2 G118 16 (21 : Int32).toNatClampNeg 103) (fun G119 => bnd (up2 G119 16 (22 : Int32).toNatClampNeg 32) (fun G120 => bnd (up2 G120 16 (23 : Int32).toNatClampNeg 98) (fun G121 => bnd (up2 G121 16 (24 : Int32).toNatClampNeg 101) (fun G122 => bnd (up2 G122 16 (25 : Int32).toNatClampNeg 115) (fun G123 => bnd (up2 G123 16 (26 : Int32).toNatClampNeg 105) (fun G124 => bnd (up2 G124 16 (27 : Int32).toNatClampNeg 100) (fun G125 => bnd (up2 G125 16 (28 : Int32).toNatClampNeg 101) (fun G126 => bnd (up2 G126 16 (29 : Int32).toNatClampNeg 32) (fun G127 => bnd (up2 G127 16 (30 : Int32).toNatClampNeg 116) (fun G128 => bnd (up2 G128 16 (31 : Int32).toNatClampNeg 105) (fun G129 => bnd (up2 G129 16 (32 : Int32).toNatClampNeg 114) (fun G130 => bnd (up2 G130 16 (33 : Int32).toNatClampNeg 101) (fun G131 => bnd (up2 G131 16 (34 : Int32).toNatClampNeg 100) (fun G132 => bnd (up2 G132 16 (35 : Int32).toNatClampNeg 32) (fun G133 => bnd (up2 G133 16 (36 : Int32).toNatClampNeg 109) (fun G134 => bnd (up2 G134 16 (37 : Int32).toNatClampNeg 117) (fun G135 => bnd (up2 G135 16 (38 : Int32).toNatClampNeg 115) (fun G136 => bnd (up2 G136 16 (39 : Int32).toNatClampNeg 116) (fun G137 => bnd (up2 G137 16 (40 : Int32).toNatClampNeg 32) (fun G138 => bnd (up2 G138 16 (41 : Int32).toNatClampNeg 109) (fun G139 => bnd (up2 G139 16 (42 : Int32).toNatClampNeg 97) (fun G140 => bnd (up2 G140 16 (43 : Int32).toNatClampNeg 121) (fun G141 => bnd (up2 G141 16 (44 : Int32).toNatClampNeg 32) (fun G142 => bnd (up2 G142 16 (45 : Int32).toNatClampNeg 116) (fun G143 => bnd (up2 G143 16 (46 : Int32).toNatClampNeg 104) (fun G144 => bnd (up2 G144 16 (47 : Int32).toNatClampNeg 105) (fun G145 => bnd (up2 G145 16 (48 : Int32).toNatClampNeg 110) (fun G146 => bnd (up2 G146 16 (49 : Int32).toNatClampNeg 32) (fun G147 => bnd (up2 G147 16 (50 : Int32).toNatClampNeg 111) (fun G148 => bnd (up2 G148 16 (51 : Int32).toNatClampNeg 114) (fun G149 => bnd (up2 G149 16 (52 : Int32).toNatClampNeg 32) (fun G150 => bnd (up2 G150 16 (53 : Int32).toNatClampNeg 97) (fun G151 => bnd (up2 G151 16 (54 : Int32).toNatClampNeg 110) (fun G152 => bnd (up2 G152 16 (55 : Int32).toNatClampNeg 100) (fun G153 => bnd (up2 G153 16 (56 : Int32).toNatClampNeg 32) (fun G154 => bnd (up2 G154 16 (57 : Int32).toNatClampNeg 110) (fun G155 => bnd (up2 G155 16 (58 : Int32).toNatClampNeg 111) (fun G156 => bnd (up2 G156 16 (59 : Int32).toNatClampNeg 116) (fun G157 => bnd (up2 G157 16 (60 : Int32).toNatClampNeg 32) (fun G158 => bnd (up2 O95 0 29 (some 16)) (fun O159 => bnd (zr 0 G158 17) (fun G160 => bnd (up2 G160 17 (0 : Int32).toNatClampNeg 0) (fun G162 => bnd (up2 G162 17 (1 : Int32).toNatClampNeg 1) (fun G163 => bnd (up2 G163 17 (2 : Int32).toNatClampNeg 2) (fun G164 => bnd (up2 G164 17 (3 : Int32).toNatClampNeg 3) (fun G165 => bnd (up2 G165 17 (4 : Int32).toNatClampNeg 4) (fun G166 => bnd (up2 G166 17 (5 : Int32).toNatClampNeg 5) (fun G167 => bnd (up2 G167 17 (6 : Int32).toNatClampNeg 10) (fun G168 => bnd (up2 G168 17 (7 : Int32).toNatClampNeg 11) (fun G169 => bnd (up2 G169 17 (8 : Int32).toNatClampNeg 12) (fun G170 => bnd (up2 G170 17 (9 : Int32).toNatClampNeg 13) (fun G171 => bnd (up2 G171 17 (10 : Int32).toNatClampNeg 14) (fun G172 => bnd (up2 G172 17 (11 : Int32).toNatClampNeg 15) (fun G173 => bnd (up2 O159 0 30 (some 17)) (fun O174 => bnd (zr 0 G173 18) (fun G175 => bnd (up2 O174 0 31 (some 18)) (fun O177 => bnd (zr 0 G175 19) (fun G178 => bnd (up2 O177 0 32 (some 19)) (fun O180 => bnd (zr 0 G178 20) (fun G181 => bnd (up2 O180 0 33 (some 20)) (fun O183 => bnd (zr 0 G181 21) (fun G184 => bnd (up2 O183 0 34 (some 21)) (fun O186 => bnd (zr 0 G184 22) (fun G187 => bnd (up2 O186 0 35 (some 22)) (fun O189 => bnd (zr 0 G187 23) (fun G190 => bnd (up2 O189 0 41 (some 23)) (fun O192 => bnd (zr 0 G190 24) (fun G193 => bnd (up2 O192 0 42 (some 24)) (fun O195 => bnd (zr 0 G193 25) (fun G196 => bnd (up2 O195 0 43 (some 25)) (fun O198 => bnd (zr 0 G196 26) (fun G199 => bnd (up2 O198 0 49 (some 26)) (fun O201 => bnd (zr 0 G199 27) (fun G202 => bnd (up2 O201 0 50 (some 27)) (fun O204 => bnd (zr 0 G202 28) (fun G205 => bnd (up2 O204 0 51 (some 28)) (fun O207 => bnd (zr 0 G205 29) (fun G208 => bnd (up2 O207 0 52 (some 29)) (fun O210 => bnd (zr 0 G208 30) (fun G211 => bnd (up2 O210 0 53 (some 30)) (fun O213 => bnd (zr 0 G211 31) (fun G214 => bnd (up2 G214 31 (0 : Int32).toNatClampNeg (-1)) (fun G216 => bnd (up2 G216 31 (1 : Int32).toNatClampNeg (-1)) (fun G217 => bnd (up2 G217 31 (2 : Int32).toNatClampNeg (-1)) (fun G218 => bnd (up2 G218 31 (3 : Int32).toNatClampNeg (-1)) (fun G219 => bnd (up2 O213 0 54 (some 31)) (fun O220 => bnd (zr 0 G219 32) (fun G221 => bnd (up2 O220 0 55 (some 32)) (fun O223 => bnd (zr 0 G221 33) (fun G224 => bnd (up2 O223 0 56 (some 33)) (fun O226 => bnd (zr 0 G224 34) (fun G227 => bnd (up2 O226 0 57 (some 34)) (fun O229 => some (G227, O229))))))))))))))))))))))))))))))))))))))))))))))))))))))))))))))))))))))))))))))))))))))))))))))))))))))))))))))))))))))))))))))))))))))))))))))))))))))))))))))))))))))))))))))))))))))))))))))))))))
theorem kyX12_init : Ky yX12_init cX12_init 1 none 0 := ⟨u4_187, u1_15, by decide, by decide, by decide, by decide +kernel⟩
set_option maxHeartbeats 4000000 in
set_option maxRecDepth 100000 in
theorem c_X12_init (l : Launch) (D : va_G) (K : List Nat) (sh : Nat → Ent) (ad : Nat → Nat) (cy : Nat → ClassId) (X : va_W) (B : State → Prop) (sz : Nat) (hclA : Bcl (AZ K ad X sz) B) (hCl : Cl K sh) (hm_0 : 0 ∈ K) (hsh0 : sh 0 = (0, 12, flMk)) (hsh1 : sh 1 = (1, 48, [])) (hsh2 : sh 2 = (1, 48, [])) (hsh3 : sh 3 = (1, 48, [])) (hsh4 : sh 4 = (1, 4, [])) (hsh5 : sh 5 = (1, 10, [])) (hsh6 : sh 6 = (1, 10, [])) (hsh7 : sh 7 = (1, 10, [])) (hsh8 : sh 8 = (1, 10, [])) (hsh9 : sh 9 = (1, 10, [])) (hsh10 : sh 10 = (2, 160, [])) (hsh11 : sh 11 = (1, 1190, [])) (hsh12 : sh 12 = (1, 1190, [])) (hsh13 : sh 13 = (1, 21, [])) (hsh14 : sh 14 = (1, 170, [])) (hsh15 : sh 15 = (1, 6, [])) (hsh16 : sh 16 = (1, 61, [])) (hsh17 : sh 17 = (1, 12, [])) (hsh18 : sh 18 = (1, 10, [])) (hsh19 : sh 19 = (1, 10, [])) (hsh20 : sh 20 = (1, 10, [])) (hsh21 : sh 21 = (3, 10, [])) (hsh22 : sh 22 = (3, 10, [])) (hsh23 : sh 23 = (1, 4, [])) (hsh24 : sh 24 = (1, 2000, [])) (hsh25 : sh 25 = (1, 2000, [])) (hsh26 : sh 26 = (1, 48, [])) (hsh27 : sh 27 = (1, 48, [])) (hsh28 : sh 28 = (1, 48, [])) (hsh29 : sh 29 = (1, 4, [])) (hsh30 : sh 30 = (1, 10, [])) (hsh31 : sh 31 = (1, 4, [])) (hsh32 : sh 32 = (1, 4, [])) (hsh33 : sh 33 = (1, 160, [])) (hsh34 : sh 34 = (1, 40, [])) (hn1 : 1 ∉ K) (hn2 : 2 ∉ K) (hn3 : 3 ∉ K) (hn4 : 4 ∉ K) (hn5 : 5 ∉ K) (hn6 : 6 ∉ K) (hn7 : 7 ∉ K) (hn8 : 8 ∉ K) (hn9 : 9 ∉ K) (hn10 : 10 ∉ K) (hn11 : 11 ∉ K) (hn12 : 12 ∉ K) (hn13 : 13 ∉ K) (hn14 : 14 ∉ K) (hn15 : 15 ∉ K) (hn16 : 16 ∉ K) (hn17 : 17 ∉ K) (hn18 : 18 ∉ K) (hn19 : 19 ∉ K) (hn20 : 20 ∉ K) (hn21 : 21 ∉ K) (hn22 : 22 ∉ K) (hn23 : 23 ∉ K) (hn24 : 24 ∉ K) (hn25 : 25 ∉ K) (hn26 : 26 ∉ K) (hn27 : 27 ∉ K) (hn28 : 28 ∉ K) (hn29 : 29 ∉ K) (hn30 : 30 ∉ K) (hn31 : 31 ∉ K) (hn32 : 32 ∉ K) (hn33 : 33 ∉ K) (hn34 : 34 ∉ K)  (G : Mem) (L : MemL) (O : MemO)  {Gz : Mem} {Oz : MemO} (hOR : ORf K O) (hf : f_X12_init G O = some (Gz, Oz)) : Met l yX12_init (wsU yX12_init cX12_init 1 none) (rmX 1 34 7428) (va_Pc [.ref (ad 0)] (PZ sz D K sh ad cy X B G L O)) (QZ D K ad cy X (AZ K ad X sz) ((((((((((((((((((((((((((((((((((K ++ [1]) ++ [2]) ++ [3]) ++ [4]) ++ [5]) ++ [6]) ++ [7]) ++ [8]) ++ [9]) ++ [10]) ++ [11]) ++ [12]) ++ [13]) ++ [14]) ++ [15]) ++ [16]) ++ [17]) ++ [18]) ++ [19]) ++ [20]) ++ [21]) ++ [22]) ++ [23]) ++ [24]) ++ [25]) ++ [26]) ++ [27]) ++ [28]) ++ [29]) ++ [30]) ++ [31]) ++ [32]) ++ [33]) ++ [34]) (fun z => z = sh) Gz L Oz (fun _ => none)) 34 7428 (AZ K ad X sz) := by
  refine s_metZ (by decide) (Nat.le_of_ble_eq_true rfl) ?_
  intro p e s m args below meth c ls H locs A0 eA0 hA E hK hBs hnm hI hl
  rw [← eA0] at hclA
  rw [← eA0]
  have hsub : ∀ b ∈ K, b ∈ K := fun b hb => hb
  have had : ∀ b ∈ K, ad b = ad b := fun b hb => rfl
  have hl : lv_has ls 1 [(0, .ref (ad 0))] := hl
  have E : Cx p s m args meth c RX12 cX12_init 1 none := E
  obtain ⟨hx, hb, hr, hml, hown, hu, hlocks⟩ := id E
  rw [f_X12_init] at hf
  refine lv_aload_n hx hb dX12_init_0 rfl (lv_at hl 0 rfl) ?_
  refine s_objI (rest := []) E hl.1 u4_188 u1_29 u1_30 (by decide) (Nat.le_of_ble_eq_true rfl) dX12_init_1 ?_
  refine lv_aload_n hx hb dX12_init_4 rfl (lv_at hl 0 rfl) ?_
  refine lv_bipush (v := 24) hx hb dX12_init_5 (by decide) ?_
  obtain ⟨G1, eG1, hf⟩ := bnd_i hf
  refine s_put (ty := .int) hx hb hu inU12 tyX12_ok nmX12 hown hK hI (⟨hm_0, hsh0⟩ : 0 ∈ K ∧ _) rfl 1 (by decide) u4_189 (fun _ h => h) rfl rfl (tyX12_ok 1 (by decide)) rfl rfl eG1 dX12_init_7 (fun H locs hI => ?_)
  refine lv_aload_n hx hb dX12_init_10 rfl (lv_at hl 0 rfl) ?_
  refine lv_bipush (v := 48) hx hb dX12_init_11 (by decide) ?_
  obtain ⟨G2, eG2, hf⟩ := bnd_i hf
  refine s_newI E u1_80 hK hI hA 1 (fr_of hCl hOR hn1) hsh1 (by decide) (by decide) (by decide) ⟨by decide, by decide⟩ dX12_init_13 (fun q H hI => ?_)
  rw [← eG2] at hI
  obtain ⟨K3, eK3⟩ : ∃ z, z = K ++ [1] := ⟨_, rfl⟩
  obtain ⟨ad3, ea3⟩ : ∃ z, z = adU ad 1 q := ⟨_, rfl⟩
  rw [← eK3, ← ea3] at hI
  have hin3 : ∀ b ∈ K, b ∈ K3 := fun b hb => by rw [eK3]; exact List.mem_append_left _ hb
  have hk3 : 1 ∈ K3 := by rw [eK3]; exact List.mem_append_right _ (List.mem_singleton.mpr rfl)
  have hq3 : q = ad3 1 := by rw [ea3]; exact adU_k.symm
  have had3 : ∀ b ∈ K, ad3 b = ad b := fun b hb => by rw [ea3]; exact adU_in hb hn1
  have hr3_0 := had3 _ ((⟨hm_0, hsh0⟩ : 0 ∈ K ∧ _)).1
  have had : ∀ b ∈ K, ad3 b = ad b := fun b hb => (had3 b (hsub b hb)).trans (had b hb)
  have hsub : ∀ b ∈ K, b ∈ K3 := fun b hb => hin3 b (hsub b hb)
  have hcl : Bcl (AS K3 ad3 X) B := hclA.mono (AS_D hI.2.1)
  have hm_0 := hin3 _ hm_0
  have hn2 : 2 ∉ K3 := by rw [eK3]; exact nin_push hn2 (by decide)
  have hn3 : 3 ∉ K3 := by rw [eK3]; exact nin_push hn3 (by decide)
  have hn4 : 4 ∉ K3 := by rw [eK3]; exact nin_push hn4 (by decide)
  have hn5 : 5 ∉ K3 := by rw [eK3]; exact nin_push hn5 (by decide)
  have hn6 : 6 ∉ K3 := by rw [eK3]; exact nin_push hn6 (by decide)
  have hn7 : 7 ∉ K3 := by rw [eK3]; exact nin_push hn7 (by decide)
  have hn8 : 8 ∉ K3 := by rw [eK3]; exact nin_push hn8 (by decide)
  have hn9 : 9 ∉ K3 := by rw [eK3]; exact nin_push hn9 (by decide)
  have hn10 : 10 ∉ K3 := by rw [eK3]; exact nin_push hn10 (by decide)
  have hn11 : 11 ∉ K3 := by rw [eK3]; exact nin_push hn11 (by decide)
  have hn12 : 12 ∉ K3 := by rw [eK3]; exact nin_push hn12 (by decide)
  have hn13 : 13 ∉ K3 := by rw [eK3]; exact nin_push hn13 (by decide)
  have hn14 : 14 ∉ K3 := by rw [eK3]; exact nin_push hn14 (by decide)
  have hn15 : 15 ∉ K3 := by rw [eK3]; exact nin_push hn15 (by decide)
  have hn16 : 16 ∉ K3 := by rw [eK3]; exact nin_push hn16 (by decide)
  have hn17 : 17 ∉ K3 := by rw [eK3]; exact nin_push hn17 (by decide)
  have hn18 : 18 ∉ K3 := by rw [eK3]; exact nin_push hn18 (by decide)
  have hn19 : 19 ∉ K3 := by rw [eK3]; exact nin_push hn19 (by decide)
  have hn20 : 20 ∉ K3 := by rw [eK3]; exact nin_push hn20 (by decide)
  have hn21 : 21 ∉ K3 := by rw [eK3]; exact nin_push hn21 (by decide)
  have hn22 : 22 ∉ K3 := by rw [eK3]; exact nin_push hn22 (by decide)
  have hn23 : 23 ∉ K3 := by rw [eK3]; exact nin_push hn23 (by decide)
  have hn24 : 24 ∉ K3 := by rw [eK3]; exact nin_push hn24 (by decide)
  have hn25 : 25 ∉ K3 := by rw [eK3]; exact nin_push hn25 (by decide)
  have hn26 : 26 ∉ K3 := by rw [eK3]; exact nin_push hn26 (by decide)
  have hn27 : 27 ∉ K3 := by rw [eK3]; exact nin_push hn27 (by decide)
  have hn28 : 28 ∉ K3 := by rw [eK3]; exact nin_push hn28 (by decide)
  have hn29 : 29 ∉ K3 := by rw [eK3]; exact nin_push hn29 (by decide)
  have hn30 : 30 ∉ K3 := by rw [eK3]; exact nin_push hn30 (by decide)
  have hn31 : 31 ∉ K3 := by rw [eK3]; exact nin_push hn31 (by decide)
  have hn32 : 32 ∉ K3 := by rw [eK3]; exact nin_push hn32 (by decide)
  have hn33 : 33 ∉ K3 := by rw [eK3]; exact nin_push hn33 (by decide)
  have hn34 : 34 ∉ K3 := by rw [eK3]; exact nin_push hn34 (by decide)
  have hm_1 := hk3
  have hCl : Cl K3 sh := by rw [eK3]; exact hCl.push (by rw [hsh1]; decide)
  have hOR : ORf K3 O := hOR.mono hin3
  rw [← hr3_0] at hl
  rw [hq3, ← hr3_0]
  refine lv_dup hx hb dX12_init_15 rfl ?_
  refine lv_iconst (v := 0) hx hb dX12_init_16 (by decide) ?_
  refine lv_iconst (v := 3) hx hb dX12_init_17 (by decide) ?_
  obtain ⟨G4, eG4, hf⟩ := bnd_i hf
  refine s_ist hx hb hK hI (⟨hm_1, hsh1⟩ : 1 ∈ K3 ∧ _) (inB_i (by decide)) eG4 dX12_init_18 (fun H locs hI => ?_)
  refine lv_dup hx hb dX12_init_19 rfl ?_
  refine lv_iconst (v := 1) hx hb dX12_init_20 (by decide) ?_
  refine lv_iconst (v := 3) hx hb dX12_init_21 (by decide) ?_
  obtain ⟨G5, eG5, hf⟩ := bnd_i hf
  refine s_ist hx hb hK hI (⟨hm_1, hsh1⟩ : 1 ∈ K3 ∧ _) (inB_i (by decide)) eG5 dX12_init_22 (fun H locs hI => ?_)
  refine lv_dup hx hb dX12_init_23 rfl ?_
  refine lv_iconst (v := 2) hx hb dX12_init_24 (by decide) ?_
  refine lv_iconst (v := 3) hx hb dX12_init_25 (by decide) ?_
  obtain ⟨G6, eG6, hf⟩ := bnd_i hf
  refine s_ist hx hb hK hI (⟨hm_1, hsh1⟩ : 1 ∈ K3 ∧ _) (inB_i (by decide)) eG6 dX12_init_26 (fun H locs hI => ?_)
  refine lv_dup hx hb dX12_init_27 rfl ?_
  refine lv_iconst (v := 3) hx hb dX12_init_28 (by decide) ?_
  refine lv_iconst (v := 3) hx hb dX12_init_29 (by decide) ?_
  obtain ⟨G7, eG7, hf⟩ := bnd_i hf
  refine s_ist hx hb hK hI (⟨hm_1, hsh1⟩ : 1 ∈ K3 ∧ _) (inB_i (by decide)) eG7 dX12_init_30 (fun H locs hI => ?_)
  refine lv_dup hx hb dX12_init_31 rfl ?_
  refine lv_iconst (v := 4) hx hb dX12_init_32 (by decide) ?_
  refine lv_iconst (v := 3) hx hb dX12_init_33 (by decide) ?_
  obtain ⟨G8, eG8, hf⟩ := bnd_i hf
  refine s_ist hx hb hK hI (⟨hm_1, hsh1⟩ : 1 ∈ K3 ∧ _) (inB_i (by decide)) eG8 dX12_init_34 (fun H locs hI => ?_)
  refine lv_dup hx hb dX12_init_35 rfl ?_
  refine lv_iconst (v := 5) hx hb dX12_init_36 (by decide) ?_
  refine lv_iconst (v := 3) hx hb dX12_init_37 (by decide) ?_
  obtain ⟨G9, eG9, hf⟩ := bnd_i hf
  refine s_ist hx hb hK hI (⟨hm_1, hsh1⟩ : 1 ∈ K3 ∧ _) (inB_i (by decide)) eG9 dX12_init_38 (fun H locs hI => ?_)
  refine lv_dup hx hb dX12_init_39 rfl ?_
  refine lv_bipush (v := 6) hx hb dX12_init_40 (by decide) ?_
  refine lv_iconst (v := 3) hx hb dX12_init_42 (by decide) ?_
  obtain ⟨G10, eG10, hf⟩ := bnd_i hf
  refine s_ist hx hb hK hI (⟨hm_1, hsh1⟩ : 1 ∈ K3 ∧ _) (inB_i (by decide)) eG10 dX12_init_43 (fun H locs hI => ?_)
  refine lv_dup hx hb dX12_init_44 rfl ?_
  refine lv_bipush (v := 7) hx hb dX12_init_45 (by decide) ?_
  refine lv_iconst (v := 3) hx hb dX12_init_47 (by decide) ?_
  obtain ⟨G11, eG11, hf⟩ := bnd_i hf
  refine s_ist hx hb hK hI (⟨hm_1, hsh1⟩ : 1 ∈ K3 ∧ _) (inB_i (by decide)) eG11 dX12_init_48 (fun H locs hI => ?_)
  refine lv_dup hx hb dX12_init_49 rfl ?_
  refine lv_bipush (v := 8) hx hb dX12_init_50 (by decide) ?_
  refine lv_iconst (v := 3) hx hb dX12_init_52 (by decide) ?_
  obtain ⟨G12, eG12, hf⟩ := bnd_i hf
  refine s_ist hx hb hK hI (⟨hm_1, hsh1⟩ : 1 ∈ K3 ∧ _) (inB_i (by decide)) eG12 dX12_init_53 (fun H locs hI => ?_)
  refine lv_dup hx hb dX12_init_54 rfl ?_
  refine lv_bipush (v := 9) hx hb dX12_init_55 (by decide) ?_
  refine lv_iconst (v := 3) hx hb dX12_init_57 (by decide) ?_
  obtain ⟨G13, eG13, hf⟩ := bnd_i hf
  refine s_ist hx hb hK hI (⟨hm_1, hsh1⟩ : 1 ∈ K3 ∧ _) (inB_i (by decide)) eG13 dX12_init_58 (fun H locs hI => ?_)
  refine lv_dup hx hb dX12_init_59 rfl ?_
  refine lv_bipush (v := 10) hx hb dX12_init_60 (by decide) ?_
  refine lv_iconst (v := 3) hx hb dX12_init_62 (by decide) ?_
  obtain ⟨G14, eG14, hf⟩ := bnd_i hf
  refine s_ist hx hb hK hI (⟨hm_1, hsh1⟩ : 1 ∈ K3 ∧ _) (inB_i (by decide)) eG14 dX12_init_63 (fun H locs hI => ?_)
  refine lv_dup hx hb dX12_init_64 rfl ?_
  refine lv_bipush (v := 11) hx hb dX12_init_65 (by decide) ?_
  refine lv_iconst (v := 3) hx hb dX12_init_67 (by decide) ?_
  obtain ⟨G15, eG15, hf⟩ := bnd_i hf
  refine s_ist hx hb hK hI (⟨hm_1, hsh1⟩ : 1 ∈ K3 ∧ _) (inB_i (by decide)) eG15 dX12_init_68 (fun H locs hI => ?_)
  refine lv_dup hx hb dX12_init_69 rfl ?_
  refine lv_bipush (v := 12) hx hb dX12_init_70 (by decide) ?_
  refine lv_iconst (v := 3) hx hb dX12_init_72 (by decide) ?_
  obtain ⟨G16, eG16, hf⟩ := bnd_i hf
  refine s_ist hx hb hK hI (⟨hm_1, hsh1⟩ : 1 ∈ K3 ∧ _) (inB_i (by decide)) eG16 dX12_init_73 (fun H locs hI => ?_)
  refine lv_dup hx hb dX12_init_74 rfl ?_
  refine lv_bipush (v := 13) hx hb dX12_init_75 (by decide) ?_
  refine lv_iconst (v := 3) hx hb dX12_init_77 (by decide) ?_
  obtain ⟨G17, eG17, hf⟩ := bnd_i hf
  refine s_ist hx hb hK hI (⟨hm_1, hsh1⟩ : 1 ∈ K3 ∧ _) (inB_i (by decide)) eG17 dX12_init_78 (fun H locs hI => ?_)
  refine lv_dup hx hb dX12_init_79 rfl ?_
  refine lv_bipush (v := 14) hx hb dX12_init_80 (by decide) ?_
  refine lv_iconst (v := 3) hx hb dX12_init_82 (by decide) ?_
  obtain ⟨G18, eG18, hf⟩ := bnd_i hf
  refine s_ist hx hb hK hI (⟨hm_1, hsh1⟩ : 1 ∈ K3 ∧ _) (inB_i (by decide)) eG18 dX12_init_83 (fun H locs hI => ?_)
  refine lv_dup hx hb dX12_init_84 rfl ?_
  refine lv_bipush (v := 15) hx hb dX12_init_85 (by decide) ?_
  refine lv_iconst (v := 3) hx hb dX12_init_87 (by decide) ?_
  obtain ⟨G19, eG19, hf⟩ := bnd_i hf
  refine s_ist hx hb hK hI (⟨hm_1, hsh1⟩ : 1 ∈ K3 ∧ _) (inB_i (by decide)) eG19 dX12_init_88 (fun H locs hI => ?_)
  refine lv_dup hx hb dX12_init_89 rfl ?_
  refine lv_bipush (v := 16) hx hb dX12_init_90 (by decide) ?_
  refine lv_iconst (v := 3) hx hb dX12_init_92 (by decide) ?_
  obtain ⟨G20, eG20, hf⟩ := bnd_i hf
  refine s_ist hx hb hK hI (⟨hm_1, hsh1⟩ : 1 ∈ K3 ∧ _) (inB_i (by decide)) eG20 dX12_init_93 (fun H locs hI => ?_)
  refine lv_dup hx hb dX12_init_94 rfl ?_
  refine lv_bipush (v := 17) hx hb dX12_init_95 (by decide) ?_
  refine lv_iconst (v := 3) hx hb dX12_init_97 (by decide) ?_
  obtain ⟨G21, eG21, hf⟩ := bnd_i hf
  refine s_ist hx hb hK hI (⟨hm_1, hsh1⟩ : 1 ∈ K3 ∧ _) (inB_i (by decide)) eG21 dX12_init_98 (fun H locs hI => ?_)
  refine lv_dup hx hb dX12_init_99 rfl ?_
  refine lv_bipush (v := 18) hx hb dX12_init_100 (by decide) ?_
  refine lv_iconst (v := 3) hx hb dX12_init_102 (by decide) ?_
  obtain ⟨G22, eG22, hf⟩ := bnd_i hf
  refine s_ist hx hb hK hI (⟨hm_1, hsh1⟩ : 1 ∈ K3 ∧ _) (inB_i (by decide)) eG22 dX12_init_103 (fun H locs hI => ?_)
  refine lv_dup hx hb dX12_init_104 rfl ?_
  refine lv_bipush (v := 19) hx hb dX12_init_105 (by decide) ?_
  refine lv_iconst (v := 3) hx hb dX12_init_107 (by decide) ?_
  obtain ⟨G23, eG23, hf⟩ := bnd_i hf
  refine s_ist hx hb hK hI (⟨hm_1, hsh1⟩ : 1 ∈ K3 ∧ _) (inB_i (by decide)) eG23 dX12_init_108 (fun H locs hI => ?_)
  refine lv_dup hx hb dX12_init_109 rfl ?_
  refine lv_bipush (v := 20) hx hb dX12_init_110 (by decide) ?_
  refine lv_iconst (v := 3) hx hb dX12_init_112 (by decide) ?_
  obtain ⟨G24, eG24, hf⟩ := bnd_i hf
  refine s_ist hx hb hK hI (⟨hm_1, hsh1⟩ : 1 ∈ K3 ∧ _) (inB_i (by decide)) eG24 dX12_init_113 (fun H locs hI => ?_)
  refine lv_dup hx hb dX12_init_114 rfl ?_
  refine lv_bipush (v := 21) hx hb dX12_init_115 (by decide) ?_
  refine lv_iconst (v := 3) hx hb dX12_init_117 (by decide) ?_
  obtain ⟨G25, eG25, hf⟩ := bnd_i hf
  refine s_ist hx hb hK hI (⟨hm_1, hsh1⟩ : 1 ∈ K3 ∧ _) (inB_i (by decide)) eG25 dX12_init_118 (fun H locs hI => ?_)
  refine lv_dup hx hb dX12_init_119 rfl ?_
  refine lv_bipush (v := 22) hx hb dX12_init_120 (by decide) ?_
  refine lv_iconst (v := 3) hx hb dX12_init_122 (by decide) ?_
  obtain ⟨G26, eG26, hf⟩ := bnd_i hf
  refine s_ist hx hb hK hI (⟨hm_1, hsh1⟩ : 1 ∈ K3 ∧ _) (inB_i (by decide)) eG26 dX12_init_123 (fun H locs hI => ?_)
  refine lv_dup hx hb dX12_init_124 rfl ?_
  refine lv_bipush (v := 23) hx hb dX12_init_125 (by decide) ?_
  refine lv_iconst (v := 3) hx hb dX12_init_127 (by decide) ?_
  obtain ⟨G27, eG27, hf⟩ := bnd_i hf
  refine s_ist hx hb hK hI (⟨hm_1, hsh1⟩ : 1 ∈ K3 ∧ _) (inB_i (by decide)) eG27 dX12_init_128 (fun H locs hI => ?_)
  refine lv_dup hx hb dX12_init_129 rfl ?_
  refine lv_bipush (v := 24) hx hb dX12_init_130 (by decide) ?_
  refine lv_iconst (v := 3) hx hb dX12_init_132 (by decide) ?_
  obtain ⟨G28, eG28, hf⟩ := bnd_i hf
  refine s_ist hx hb hK hI (⟨hm_1, hsh1⟩ : 1 ∈ K3 ∧ _) (inB_i (by decide)) eG28 dX12_init_133 (fun H locs hI => ?_)
  refine lv_dup hx hb dX12_init_134 rfl ?_
  refine lv_bipush (v := 25) hx hb dX12_init_135 (by decide) ?_
  refine lv_iconst (v := 3) hx hb dX12_init_137 (by decide) ?_
  obtain ⟨G29, eG29, hf⟩ := bnd_i hf
  refine s_ist hx hb hK hI (⟨hm_1, hsh1⟩ : 1 ∈ K3 ∧ _) (inB_i (by decide)) eG29 dX12_init_138 (fun H locs hI => ?_)
  refine lv_dup hx hb dX12_init_139 rfl ?_
  refine lv_bipush (v := 26) hx hb dX12_init_140 (by decide) ?_
  refine lv_iconst (v := 3) hx hb dX12_init_142 (by decide) ?_
  obtain ⟨G30, eG30, hf⟩ := bnd_i hf
  refine s_ist hx hb hK hI (⟨hm_1, hsh1⟩ : 1 ∈ K3 ∧ _) (inB_i (by decide)) eG30 dX12_init_143 (fun H locs hI => ?_)
  refine lv_dup hx hb dX12_init_144 rfl ?_
  refine lv_bipush (v := 27) hx hb dX12_init_145 (by decide) ?_
  refine lv_iconst (v := 3) hx hb dX12_init_147 (by decide) ?_
  obtain ⟨G31, eG31, hf⟩ := bnd_i hf
  refine s_ist hx hb hK hI (⟨hm_1, hsh1⟩ : 1 ∈ K3 ∧ _) (inB_i (by decide)) eG31 dX12_init_148 (fun H locs hI => ?_)
  refine lv_dup hx hb dX12_init_149 rfl ?_
  refine lv_bipush (v := 28) hx hb dX12_init_150 (by decide) ?_
  refine lv_iconst (v := 3) hx hb dX12_init_152 (by decide) ?_
  obtain ⟨G32, eG32, hf⟩ := bnd_i hf
  refine s_ist hx hb hK hI (⟨hm_1, hsh1⟩ : 1 ∈ K3 ∧ _) (inB_i (by decide)) eG32 dX12_init_153 (fun H locs hI => ?_)
  refine lv_dup hx hb dX12_init_154 rfl ?_
  refine lv_bipush (v := 29) hx hb dX12_init_155 (by decide) ?_
  refine lv_iconst (v := 3) hx hb dX12_init_157 (by decide) ?_
  obtain ⟨G33, eG33, hf⟩ := bnd_i hf
  refine s_ist hx hb hK hI (⟨hm_1, hsh1⟩ : 1 ∈ K3 ∧ _) (inB_i (by decide)) eG33 dX12_init_158 (fun H locs hI => ?_)
  refine lv_dup hx hb dX12_init_159 rfl ?_
  refine lv_bipush (v := 30) hx hb dX12_init_160 (by decide) ?_
  refine lv_iconst (v := 3) hx hb dX12_init_162 (by decide) ?_
  obtain ⟨G34, eG34, hf⟩ := bnd_i hf
  refine s_ist hx hb hK hI (⟨hm_1, hsh1⟩ : 1 ∈ K3 ∧ _) (inB_i (by decide)) eG34 dX12_init_163 (fun H locs hI => ?_)
  refine lv_dup hx hb dX12_init_164 rfl ?_
  refine lv_bipush (v := 31) hx hb dX12_init_165 (by decide) ?_
  refine lv_iconst (v := 3) hx hb dX12_init_167 (by decide) ?_
  obtain ⟨G35, eG35, hf⟩ := bnd_i hf
  refine s_ist hx hb hK hI (⟨hm_1, hsh1⟩ : 1 ∈ K3 ∧ _) (inB_i (by decide)) eG35 dX12_init_168 (fun H locs hI => ?_)
  refine lv_dup hx hb dX12_init_169 rfl ?_
  refine lv_bipush (v := 32) hx hb dX12_init_170 (by decide) ?_
  refine lv_iconst (v := 3) hx hb dX12_init_172 (by decide) ?_
  obtain ⟨G36, eG36, hf⟩ := bnd_i hf
  refine s_ist hx hb hK hI (⟨hm_1, hsh1⟩ : 1 ∈ K3 ∧ _) (inB_i (by decide)) eG36 dX12_init_173 (fun H locs hI => ?_)
  refine lv_dup hx hb dX12_init_174 rfl ?_
  refine lv_bipush (v := 33) hx hb dX12_init_175 (by decide) ?_
  refine lv_iconst (v := 3) hx hb dX12_init_177 (by decide) ?_
  obtain ⟨G37, eG37, hf⟩ := bnd_i hf
  refine s_ist hx hb hK hI (⟨hm_1, hsh1⟩ : 1 ∈ K3 ∧ _) (inB_i (by decide)) eG37 dX12_init_178 (fun H locs hI => ?_)
  refine lv_dup hx hb dX12_init_179 rfl ?_
  refine lv_bipush (v := 34) hx hb dX12_init_180 (by decide) ?_
  refine lv_iconst (v := 3) hx hb dX12_init_182 (by decide) ?_
  obtain ⟨G38, eG38, hf⟩ := bnd_i hf
  refine s_ist hx hb hK hI (⟨hm_1, hsh1⟩ : 1 ∈ K3 ∧ _) (inB_i (by decide)) eG38 dX12_init_183 (fun H locs hI => ?_)
  refine lv_dup hx hb dX12_init_184 rfl ?_
  refine lv_bipush (v := 35) hx hb dX12_init_185 (by decide) ?_
  refine lv_iconst (v := 3) hx hb dX12_init_187 (by decide) ?_
  obtain ⟨G39, eG39, hf⟩ := bnd_i hf
  refine s_ist hx hb hK hI (⟨hm_1, hsh1⟩ : 1 ∈ K3 ∧ _) (inB_i (by decide)) eG39 dX12_init_188 (fun H locs hI => ?_)
  refine lv_dup hx hb dX12_init_189 rfl ?_
  refine lv_bipush (v := 36) hx hb dX12_init_190 (by decide) ?_
  refine lv_iconst (v := 3) hx hb dX12_init_192 (by decide) ?_
  obtain ⟨G40, eG40, hf⟩ := bnd_i hf
  refine s_ist hx hb hK hI (⟨hm_1, hsh1⟩ : 1 ∈ K3 ∧ _) (inB_i (by decide)) eG40 dX12_init_193 (fun H locs hI => ?_)
  refine lv_dup hx hb dX12_init_194 rfl ?_
  refine lv_bipush (v := 37) hx hb dX12_init_195 (by decide) ?_
  refine lv_iconst (v := 3) hx hb dX12_init_197 (by decide) ?_
  obtain ⟨G41, eG41, hf⟩ := bnd_i hf
  refine s_ist hx hb hK hI (⟨hm_1, hsh1⟩ : 1 ∈ K3 ∧ _) (inB_i (by decide)) eG41 dX12_init_198 (fun H locs hI => ?_)
  refine lv_dup hx hb dX12_init_199 rfl ?_
  refine lv_bipush (v := 38) hx hb dX12_init_200 (by decide) ?_
  refine lv_iconst (v := 3) hx hb dX12_init_202 (by decide) ?_
  obtain ⟨G42, eG42, hf⟩ := bnd_i hf
  refine s_ist hx hb hK hI (⟨hm_1, hsh1⟩ : 1 ∈ K3 ∧ _) (inB_i (by decide)) eG42 dX12_init_203 (fun H locs hI => ?_)
  refine lv_dup hx hb dX12_init_204 rfl ?_
  refine lv_bipush (v := 39) hx hb dX12_init_205 (by decide) ?_
  refine lv_iconst (v := 3) hx hb dX12_init_207 (by decide) ?_
  obtain ⟨G43, eG43, hf⟩ := bnd_i hf
  refine s_ist hx hb hK hI (⟨hm_1, hsh1⟩ : 1 ∈ K3 ∧ _) (inB_i (by decide)) eG43 dX12_init_208 (fun H locs hI => ?_)
  refine lv_dup hx hb dX12_init_209 rfl ?_
  refine lv_bipush (v := 40) hx hb dX12_init_210 (by decide) ?_
  refine lv_iconst (v := 3) hx hb dX12_init_212 (by decide) ?_
  obtain ⟨G44, eG44, hf⟩ := bnd_i hf
  refine s_ist hx hb hK hI (⟨hm_1, hsh1⟩ : 1 ∈ K3 ∧ _) (inB_i (by decide)) eG44 dX12_init_213 (fun H locs hI => ?_)
  refine lv_dup hx hb dX12_init_214 rfl ?_
  refine lv_bipush (v := 41) hx hb dX12_init_215 (by decide) ?_
  refine lv_iconst (v := 3) hx hb dX12_init_217 (by decide) ?_
  obtain ⟨G45, eG45, hf⟩ := bnd_i hf
  refine s_ist hx hb hK hI (⟨hm_1, hsh1⟩ : 1 ∈ K3 ∧ _) (inB_i (by decide)) eG45 dX12_init_218 (fun H locs hI => ?_)
  refine lv_dup hx hb dX12_init_219 rfl ?_
  refine lv_bipush (v := 42) hx hb dX12_init_220 (by decide) ?_
  refine lv_iconst (v := 3) hx hb dX12_init_222 (by decide) ?_
  obtain ⟨G46, eG46, hf⟩ := bnd_i hf
  refine s_ist hx hb hK hI (⟨hm_1, hsh1⟩ : 1 ∈ K3 ∧ _) (inB_i (by decide)) eG46 dX12_init_223 (fun H locs hI => ?_)
  refine lv_dup hx hb dX12_init_224 rfl ?_
  refine lv_bipush (v := 43) hx hb dX12_init_225 (by decide) ?_
  refine lv_iconst (v := 3) hx hb dX12_init_227 (by decide) ?_
  obtain ⟨G47, eG47, hf⟩ := bnd_i hf
  refine s_ist hx hb hK hI (⟨hm_1, hsh1⟩ : 1 ∈ K3 ∧ _) (inB_i (by decide)) eG47 dX12_init_228 (fun H locs hI => ?_)
  refine lv_dup hx hb dX12_init_229 rfl ?_
  refine lv_bipush (v := 44) hx hb dX12_init_230 (by decide) ?_
  refine lv_iconst (v := 3) hx hb dX12_init_232 (by decide) ?_
  obtain ⟨G48, eG48, hf⟩ := bnd_i hf
  refine s_ist hx hb hK hI (⟨hm_1, hsh1⟩ : 1 ∈ K3 ∧ _) (inB_i (by decide)) eG48 dX12_init_233 (fun H locs hI => ?_)
  refine lv_dup hx hb dX12_init_234 rfl ?_
  refine lv_bipush (v := 45) hx hb dX12_init_235 (by decide) ?_
  refine lv_iconst (v := 3) hx hb dX12_init_237 (by decide) ?_
  obtain ⟨G49, eG49, hf⟩ := bnd_i hf
  refine s_ist hx hb hK hI (⟨hm_1, hsh1⟩ : 1 ∈ K3 ∧ _) (inB_i (by decide)) eG49 dX12_init_238 (fun H locs hI => ?_)
  refine lv_dup hx hb dX12_init_239 rfl ?_
  refine lv_bipush (v := 46) hx hb dX12_init_240 (by decide) ?_
  refine lv_iconst (v := 3) hx hb dX12_init_242 (by decide) ?_
  obtain ⟨G50, eG50, hf⟩ := bnd_i hf
  refine s_ist hx hb hK hI (⟨hm_1, hsh1⟩ : 1 ∈ K3 ∧ _) (inB_i (by decide)) eG50 dX12_init_243 (fun H locs hI => ?_)
  refine lv_dup hx hb dX12_init_244 rfl ?_
  refine lv_bipush (v := 47) hx hb dX12_init_245 (by decide) ?_
  refine lv_iconst (v := 3) hx hb dX12_init_247 (by decide) ?_
  obtain ⟨G51, eG51, hf⟩ := bnd_i hf
  refine s_ist hx hb hK hI (⟨hm_1, hsh1⟩ : 1 ∈ K3 ∧ _) (inB_i (by decide)) eG51 dX12_init_248 (fun H locs hI => ?_)
  obtain ⟨O52, eO52, hf⟩ := bnd_i hf
  have hOR := hOR.up (k := 0) (j := 3) ((⟨hm_1, hsh1⟩ : 1 ∈ K3 ∧ _)).1
  rw [← eO52] at hOR
  refine s_putOF (ty := tyX12 3) E hnm inU12 tyX12_ok nmX12 hK hI (⟨hm_0, hsh0⟩ : 0 ∈ K3 ∧ _) rfl 3 (by decide) u4_191 (fun _ h => h) rfl rfl rfl (tyX12_ok 3 (by decide)) rfl rfl eO52 dX12_init_249 (fun H locs hI => ?_)
  refine lv_aload_n hx hb dX12_init_252 rfl (lv_at hl 0 rfl) ?_
  refine lv_bipush (v := 48) hx hb dX12_init_253 (by decide) ?_
  obtain ⟨G53, eG53, hf⟩ := bnd_i hf
  refine s_newI E u1_80 hK hI hA 2 (fr_of hCl hOR hn2) hsh2 (by decide) (by decide) (by decide) ⟨by decide, by decide⟩ dX12_init_255 (fun q H hI => ?_)
  rw [← eG53] at hI
  obtain ⟨K54, eK54⟩ : ∃ z, z = K3 ++ [2] := ⟨_, rfl⟩
  obtain ⟨ad54, ea54⟩ : ∃ z, z = adU ad3 2 q := ⟨_, rfl⟩
  rw [← eK54, ← ea54] at hI
  have hin54 : ∀ b ∈ K3, b ∈ K54 := fun b hb => by rw [eK54]; exact List.mem_append_left _ hb
  have hk54 : 2 ∈ K54 := by rw [eK54]; exact List.mem_append_right _ (List.mem_singleton.mpr rfl)
  have hq54 : q = ad54 2 := by rw [ea54]; exact adU_k.symm
  have had54 : ∀ b ∈ K3, ad54 b = ad3 b := fun b hb => by rw [ea54]; exact adU_in hb hn2
  have hr54_0 := had54 _ ((⟨hm_0, hsh0⟩ : 0 ∈ K3 ∧ _)).1
  have had : ∀ b ∈ K, ad54 b = ad b := fun b hb => (had54 b (hsub b hb)).trans (had b hb)
  have hsub : ∀ b ∈ K, b ∈ K54 := fun b hb => hin54 b (hsub b hb)
  have hcl : Bcl (AS K54 ad54 X) B := hclA.mono (AS_D hI.2.1)
  have hm_0 := hin54 _ hm_0
  have hm_1 := hin54 _ hm_1
  have hn3 : 3 ∉ K54 := by rw [eK54]; exact nin_push hn3 (by decide)
  have hn4 : 4 ∉ K54 := by rw [eK54]; exact nin_push hn4 (by decide)
  have hn5 : 5 ∉ K54 := by rw [eK54]; exact nin_push hn5 (by decide)
  have hn6 : 6 ∉ K54 := by rw [eK54]; exact nin_push hn6 (by decide)
  have hn7 : 7 ∉ K54 := by rw [eK54]; exact nin_push hn7 (by decide)
  have hn8 : 8 ∉ K54 := by rw [eK54]; exact nin_push hn8 (by decide)
  have hn9 : 9 ∉ K54 := by rw [eK54]; exact nin_push hn9 (by decide)
  have hn10 : 10 ∉ K54 := by rw [eK54]; exact nin_push hn10 (by decide)
  have hn11 : 11 ∉ K54 := by rw [eK54]; exact nin_push hn11 (by decide)
  have hn12 : 12 ∉ K54 := by rw [eK54]; exact nin_push hn12 (by decide)
  have hn13 : 13 ∉ K54 := by rw [eK54]; exact nin_push hn13 (by decide)
  have hn14 : 14 ∉ K54 := by rw [eK54]; exact nin_push hn14 (by decide)
  have hn15 : 15 ∉ K54 := by rw [eK54]; exact nin_push hn15 (by decide)
  have hn16 : 16 ∉ K54 := by rw [eK54]; exact nin_push hn16 (by decide)
  have hn17 : 17 ∉ K54 := by rw [eK54]; exact nin_push hn17 (by decide)
  have hn18 : 18 ∉ K54 := by rw [eK54]; exact nin_push hn18 (by decide)
  have hn19 : 19 ∉ K54 := by rw [eK54]; exact nin_push hn19 (by decide)
  have hn20 : 20 ∉ K54 := by rw [eK54]; exact nin_push hn20 (by decide)
  have hn21 : 21 ∉ K54 := by rw [eK54]; exact nin_push hn21 (by decide)
  have hn22 : 22 ∉ K54 := by rw [eK54]; exact nin_push hn22 (by decide)
  have hn23 : 23 ∉ K54 := by rw [eK54]; exact nin_push hn23 (by decide)
  have hn24 : 24 ∉ K54 := by rw [eK54]; exact nin_push hn24 (by decide)
  have hn25 : 25 ∉ K54 := by rw [eK54]; exact nin_push hn25 (by decide)
  have hn26 : 26 ∉ K54 := by rw [eK54]; exact nin_push hn26 (by decide)
  have hn27 : 27 ∉ K54 := by rw [eK54]; exact nin_push hn27 (by decide)
  have hn28 : 28 ∉ K54 := by rw [eK54]; exact nin_push hn28 (by decide)
  have hn29 : 29 ∉ K54 := by rw [eK54]; exact nin_push hn29 (by decide)
  have hn30 : 30 ∉ K54 := by rw [eK54]; exact nin_push hn30 (by decide)
  have hn31 : 31 ∉ K54 := by rw [eK54]; exact nin_push hn31 (by decide)
  have hn32 : 32 ∉ K54 := by rw [eK54]; exact nin_push hn32 (by decide)
  have hn33 : 33 ∉ K54 := by rw [eK54]; exact nin_push hn33 (by decide)
  have hn34 : 34 ∉ K54 := by rw [eK54]; exact nin_push hn34 (by decide)
  have hm_2 := hk54
  have hCl : Cl K54 sh := by rw [eK54]; exact hCl.push (by rw [hsh2]; decide)
  have hOR : ORf K54 O52 := hOR.mono hin54
  rw [← hr54_0] at hl
  rw [hq54, ← hr54_0]
  obtain ⟨O55, eO55, hf⟩ := bnd_i hf
  have hOR := hOR.up (k := 0) (j := 4) ((⟨hm_2, hsh2⟩ : 2 ∈ K54 ∧ _)).1
  rw [← eO55] at hOR
  refine s_putOF (ty := tyX12 4) E hnm inU12 tyX12_ok nmX12 hK hI (⟨hm_0, hsh0⟩ : 0 ∈ K54 ∧ _) rfl 4 (by decide) u4_192 (fun _ h => h) rfl rfl rfl (tyX12_ok 4 (by decide)) rfl rfl eO55 dX12_init_257 (fun H locs hI => ?_)
  refine lv_aload_n hx hb dX12_init_260 rfl (lv_at hl 0 rfl) ?_
  refine lv_bipush (v := 48) hx hb dX12_init_261 (by decide) ?_
  obtain ⟨G56, eG56, hf⟩ := bnd_i hf
  refine s_newI E u1_80 hK hI hA 3 (fr_of hCl hOR hn3) hsh3 (by decide) (by decide) (by decide) ⟨by decide, by decide⟩ dX12_init_263 (fun q H hI => ?_)
  rw [← eG56] at hI
  obtain ⟨K57, eK57⟩ : ∃ z, z = K54 ++ [3] := ⟨_, rfl⟩
  obtain ⟨ad57, ea57⟩ : ∃ z, z = adU ad54 3 q := ⟨_, rfl⟩
  rw [← eK57, ← ea57] at hI
  have hin57 : ∀ b ∈ K54, b ∈ K57 := fun b hb => by rw [eK57]; exact List.mem_append_left _ hb
  have hk57 : 3 ∈ K57 := by rw [eK57]; exact List.mem_append_right _ (List.mem_singleton.mpr rfl)
  have hq57 : q = ad57 3 := by rw [ea57]; exact adU_k.symm
  have had57 : ∀ b ∈ K54, ad57 b = ad54 b := fun b hb => by rw [ea57]; exact adU_in hb hn3
  have hr57_0 := had57 _ ((⟨hm_0, hsh0⟩ : 0 ∈ K54 ∧ _)).1
  have had : ∀ b ∈ K, ad57 b = ad b := fun b hb => (had57 b (hsub b hb)).trans (had b hb)
  have hsub : ∀ b ∈ K, b ∈ K57 := fun b hb => hin57 b (hsub b hb)
  have hcl : Bcl (AS K57 ad57 X) B := hclA.mono (AS_D hI.2.1)
  have hm_0 := hin57 _ hm_0
  have hm_1 := hin57 _ hm_1
  have hm_2 := hin57 _ hm_2
  have hn4 : 4 ∉ K57 := by rw [eK57]; exact nin_push hn4 (by decide)
  have hn5 : 5 ∉ K57 := by rw [eK57]; exact nin_push hn5 (by decide)
  have hn6 : 6 ∉ K57 := by rw [eK57]; exact nin_push hn6 (by decide)
  have hn7 : 7 ∉ K57 := by rw [eK57]; exact nin_push hn7 (by decide)
  have hn8 : 8 ∉ K57 := by rw [eK57]; exact nin_push hn8 (by decide)
  have hn9 : 9 ∉ K57 := by rw [eK57]; exact nin_push hn9 (by decide)
  have hn10 : 10 ∉ K57 := by rw [eK57]; exact nin_push hn10 (by decide)
  have hn11 : 11 ∉ K57 := by rw [eK57]; exact nin_push hn11 (by decide)
  have hn12 : 12 ∉ K57 := by rw [eK57]; exact nin_push hn12 (by decide)
  have hn13 : 13 ∉ K57 := by rw [eK57]; exact nin_push hn13 (by decide)
  have hn14 : 14 ∉ K57 := by rw [eK57]; exact nin_push hn14 (by decide)
  have hn15 : 15 ∉ K57 := by rw [eK57]; exact nin_push hn15 (by decide)
  have hn16 : 16 ∉ K57 := by rw [eK57]; exact nin_push hn16 (by decide)
  have hn17 : 17 ∉ K57 := by rw [eK57]; exact nin_push hn17 (by decide)
  have hn18 : 18 ∉ K57 := by rw [eK57]; exact nin_push hn18 (by decide)
  have hn19 : 19 ∉ K57 := by rw [eK57]; exact nin_push hn19 (by decide)
  have hn20 : 20 ∉ K57 := by rw [eK57]; exact nin_push hn20 (by decide)
  have hn21 : 21 ∉ K57 := by rw [eK57]; exact nin_push hn21 (by decide)
  have hn22 : 22 ∉ K57 := by rw [eK57]; exact nin_push hn22 (by decide)
  have hn23 : 23 ∉ K57 := by rw [eK57]; exact nin_push hn23 (by decide)
  have hn24 : 24 ∉ K57 := by rw [eK57]; exact nin_push hn24 (by decide)
  have hn25 : 25 ∉ K57 := by rw [eK57]; exact nin_push hn25 (by decide)
  have hn26 : 26 ∉ K57 := by rw [eK57]; exact nin_push hn26 (by decide)
  have hn27 : 27 ∉ K57 := by rw [eK57]; exact nin_push hn27 (by decide)
  have hn28 : 28 ∉ K57 := by rw [eK57]; exact nin_push hn28 (by decide)
  have hn29 : 29 ∉ K57 := by rw [eK57]; exact nin_push hn29 (by decide)
  have hn30 : 30 ∉ K57 := by rw [eK57]; exact nin_push hn30 (by decide)
  have hn31 : 31 ∉ K57 := by rw [eK57]; exact nin_push hn31 (by decide)
  have hn32 : 32 ∉ K57 := by rw [eK57]; exact nin_push hn32 (by decide)
  have hn33 : 33 ∉ K57 := by rw [eK57]; exact nin_push hn33 (by decide)
  have hn34 : 34 ∉ K57 := by rw [eK57]; exact nin_push hn34 (by decide)
  have hm_3 := hk57
  have hCl : Cl K57 sh := by rw [eK57]; exact hCl.push (by rw [hsh3]; decide)
  have hOR : ORf K57 O55 := hOR.mono hin57
  rw [← hr57_0] at hl
  rw [hq57, ← hr57_0]
  obtain ⟨O58, eO58, hf⟩ := bnd_i hf
  have hOR := hOR.up (k := 0) (j := 5) ((⟨hm_3, hsh3⟩ : 3 ∈ K57 ∧ _)).1
  rw [← eO58] at hOR
  refine s_putOF (ty := tyX12 5) E hnm inU12 tyX12_ok nmX12 hK hI (⟨hm_0, hsh0⟩ : 0 ∈ K57 ∧ _) rfl 5 (by decide) u4_193 (fun _ h => h) rfl rfl rfl (tyX12_ok 5 (by decide)) rfl rfl eO58 dX12_init_265 (fun H locs hI => ?_)
  refine lv_aload_n hx hb dX12_init_268 rfl (lv_at hl 0 rfl) ?_
  refine lv_iconst (v := 4) hx hb dX12_init_269 (by decide) ?_
  obtain ⟨G59, eG59, hf⟩ := bnd_i hf
  refine s_newI E u1_80 hK hI hA 4 (fr_of hCl hOR hn4) hsh4 (by decide) (by decide) (by decide) ⟨by decide, by decide⟩ dX12_init_270 (fun q H hI => ?_)
  rw [← eG59] at hI
  obtain ⟨K60, eK60⟩ : ∃ z, z = K57 ++ [4] := ⟨_, rfl⟩
  obtain ⟨ad60, ea60⟩ : ∃ z, z = adU ad57 4 q := ⟨_, rfl⟩
  rw [← eK60, ← ea60] at hI
  have hin60 : ∀ b ∈ K57, b ∈ K60 := fun b hb => by rw [eK60]; exact List.mem_append_left _ hb
  have hk60 : 4 ∈ K60 := by rw [eK60]; exact List.mem_append_right _ (List.mem_singleton.mpr rfl)
  have hq60 : q = ad60 4 := by rw [ea60]; exact adU_k.symm
  have had60 : ∀ b ∈ K57, ad60 b = ad57 b := fun b hb => by rw [ea60]; exact adU_in hb hn4
  have hr60_0 := had60 _ ((⟨hm_0, hsh0⟩ : 0 ∈ K57 ∧ _)).1
  have had : ∀ b ∈ K, ad60 b = ad b := fun b hb => (had60 b (hsub b hb)).trans (had b hb)
  have hsub : ∀ b ∈ K, b ∈ K60 := fun b hb => hin60 b (hsub b hb)
  have hcl : Bcl (AS K60 ad60 X) B := hclA.mono (AS_D hI.2.1)
  have hm_0 := hin60 _ hm_0
  have hm_1 := hin60 _ hm_1
  have hm_2 := hin60 _ hm_2
  have hm_3 := hin60 _ hm_3
  have hn5 : 5 ∉ K60 := by rw [eK60]; exact nin_push hn5 (by decide)
  have hn6 : 6 ∉ K60 := by rw [eK60]; exact nin_push hn6 (by decide)
  have hn7 : 7 ∉ K60 := by rw [eK60]; exact nin_push hn7 (by decide)
  have hn8 : 8 ∉ K60 := by rw [eK60]; exact nin_push hn8 (by decide)
  have hn9 : 9 ∉ K60 := by rw [eK60]; exact nin_push hn9 (by decide)
  have hn10 : 10 ∉ K60 := by rw [eK60]; exact nin_push hn10 (by decide)
  have hn11 : 11 ∉ K60 := by rw [eK60]; exact nin_push hn11 (by decide)
  have hn12 : 12 ∉ K60 := by rw [eK60]; exact nin_push hn12 (by decide)
  have hn13 : 13 ∉ K60 := by rw [eK60]; exact nin_push hn13 (by decide)
  have hn14 : 14 ∉ K60 := by rw [eK60]; exact nin_push hn14 (by decide)
  have hn15 : 15 ∉ K60 := by rw [eK60]; exact nin_push hn15 (by decide)
  have hn16 : 16 ∉ K60 := by rw [eK60]; exact nin_push hn16 (by decide)
  have hn17 : 17 ∉ K60 := by rw [eK60]; exact nin_push hn17 (by decide)
  have hn18 : 18 ∉ K60 := by rw [eK60]; exact nin_push hn18 (by decide)
  have hn19 : 19 ∉ K60 := by rw [eK60]; exact nin_push hn19 (by decide)
  have hn20 : 20 ∉ K60 := by rw [eK60]; exact nin_push hn20 (by decide)
  have hn21 : 21 ∉ K60 := by rw [eK60]; exact nin_push hn21 (by decide)
  have hn22 : 22 ∉ K60 := by rw [eK60]; exact nin_push hn22 (by decide)
  have hn23 : 23 ∉ K60 := by rw [eK60]; exact nin_push hn23 (by decide)
  have hn24 : 24 ∉ K60 := by rw [eK60]; exact nin_push hn24 (by decide)
  have hn25 : 25 ∉ K60 := by rw [eK60]; exact nin_push hn25 (by decide)
  have hn26 : 26 ∉ K60 := by rw [eK60]; exact nin_push hn26 (by decide)
  have hn27 : 27 ∉ K60 := by rw [eK60]; exact nin_push hn27 (by decide)
  have hn28 : 28 ∉ K60 := by rw [eK60]; exact nin_push hn28 (by decide)
  have hn29 : 29 ∉ K60 := by rw [eK60]; exact nin_push hn29 (by decide)
  have hn30 : 30 ∉ K60 := by rw [eK60]; exact nin_push hn30 (by decide)
  have hn31 : 31 ∉ K60 := by rw [eK60]; exact nin_push hn31 (by decide)
  have hn32 : 32 ∉ K60 := by rw [eK60]; exact nin_push hn32 (by decide)
  have hn33 : 33 ∉ K60 := by rw [eK60]; exact nin_push hn33 (by decide)
  have hn34 : 34 ∉ K60 := by rw [eK60]; exact nin_push hn34 (by decide)
  have hm_4 := hk60
  have hCl : Cl K60 sh := by rw [eK60]; exact hCl.push (by rw [hsh4]; decide)
  have hOR : ORf K60 O58 := hOR.mono hin60
  rw [← hr60_0] at hl
  rw [hq60, ← hr60_0]
  obtain ⟨O61, eO61, hf⟩ := bnd_i hf
  have hOR := hOR.up (k := 0) (j := 6) ((⟨hm_4, hsh4⟩ : 4 ∈ K60 ∧ _)).1
  rw [← eO61] at hOR
  refine s_putOF (ty := tyX12 6) E hnm inU12 tyX12_ok nmX12 hK hI (⟨hm_0, hsh0⟩ : 0 ∈ K60 ∧ _) rfl 6 (by decide) u4_194 (fun _ h => h) rfl rfl rfl (tyX12_ok 6 (by decide)) rfl rfl eO61 dX12_init_272 (fun H locs hI => ?_)
  refine lv_aload_n hx hb dX12_init_275 rfl (lv_at hl 0 rfl) ?_
  refine lv_bipush (v := 10) hx hb dX12_init_276 (by decide) ?_
  obtain ⟨G62, eG62, hf⟩ := bnd_i hf
  refine s_newI E u1_80 hK hI hA 5 (fr_of hCl hOR hn5) hsh5 (by decide) (by decide) (by decide) ⟨by decide, by decide⟩ dX12_init_278 (fun q H hI => ?_)
  rw [← eG62] at hI
  obtain ⟨K63, eK63⟩ : ∃ z, z = K60 ++ [5] := ⟨_, rfl⟩
  obtain ⟨ad63, ea63⟩ : ∃ z, z = adU ad60 5 q := ⟨_, rfl⟩
  rw [← eK63, ← ea63] at hI
  have hin63 : ∀ b ∈ K60, b ∈ K63 := fun b hb => by rw [eK63]; exact List.mem_append_left _ hb
  have hk63 : 5 ∈ K63 := by rw [eK63]; exact List.mem_append_right _ (List.mem_singleton.mpr rfl)
  have hq63 : q = ad63 5 := by rw [ea63]; exact adU_k.symm
  have had63 : ∀ b ∈ K60, ad63 b = ad60 b := fun b hb => by rw [ea63]; exact adU_in hb hn5
  have hr63_0 := had63 _ ((⟨hm_0, hsh0⟩ : 0 ∈ K60 ∧ _)).1
  have had : ∀ b ∈ K, ad63 b = ad b := fun b hb => (had63 b (hsub b hb)).trans (had b hb)
  have hsub : ∀ b ∈ K, b ∈ K63 := fun b hb => hin63 b (hsub b hb)
  have hcl : Bcl (AS K63 ad63 X) B := hclA.mono (AS_D hI.2.1)
  have hm_0 := hin63 _ hm_0
  have hm_1 := hin63 _ hm_1
  have hm_2 := hin63 _ hm_2
  have hm_3 := hin63 _ hm_3
  have hm_4 := hin63 _ hm_4
  have hn6 : 6 ∉ K63 := by rw [eK63]; exact nin_push hn6 (by decide)
  have hn7 : 7 ∉ K63 := by rw [eK63]; exact nin_push hn7 (by decide)
  have hn8 : 8 ∉ K63 := by rw [eK63]; exact nin_push hn8 (by decide)
  have hn9 : 9 ∉ K63 := by rw [eK63]; exact nin_push hn9 (by decide)
  have hn10 : 10 ∉ K63 := by rw [eK63]; exact nin_push hn10 (by decide)
  have hn11 : 11 ∉ K63 := by rw [eK63]; exact nin_push hn11 (by decide)
  have hn12 : 12 ∉ K63 := by rw [eK63]; exact nin_push hn12 (by decide)
  have hn13 : 13 ∉ K63 := by rw [eK63]; exact nin_push hn13 (by decide)
  have hn14 : 14 ∉ K63 := by rw [eK63]; exact nin_push hn14 (by decide)
  have hn15 : 15 ∉ K63 := by rw [eK63]; exact nin_push hn15 (by decide)
  have hn16 : 16 ∉ K63 := by rw [eK63]; exact nin_push hn16 (by decide)
  have hn17 : 17 ∉ K63 := by rw [eK63]; exact nin_push hn17 (by decide)
  have hn18 : 18 ∉ K63 := by rw [eK63]; exact nin_push hn18 (by decide)
  have hn19 : 19 ∉ K63 := by rw [eK63]; exact nin_push hn19 (by decide)
  have hn20 : 20 ∉ K63 := by rw [eK63]; exact nin_push hn20 (by decide)
  have hn21 : 21 ∉ K63 := by rw [eK63]; exact nin_push hn21 (by decide)
  have hn22 : 22 ∉ K63 := by rw [eK63]; exact nin_push hn22 (by decide)
  have hn23 : 23 ∉ K63 := by rw [eK63]; exact nin_push hn23 (by decide)
  have hn24 : 24 ∉ K63 := by rw [eK63]; exact nin_push hn24 (by decide)
  have hn25 : 25 ∉ K63 := by rw [eK63]; exact nin_push hn25 (by decide)
  have hn26 : 26 ∉ K63 := by rw [eK63]; exact nin_push hn26 (by decide)
  have hn27 : 27 ∉ K63 := by rw [eK63]; exact nin_push hn27 (by decide)
  have hn28 : 28 ∉ K63 := by rw [eK63]; exact nin_push hn28 (by decide)
  have hn29 : 29 ∉ K63 := by rw [eK63]; exact nin_push hn29 (by decide)
  have hn30 : 30 ∉ K63 := by rw [eK63]; exact nin_push hn30 (by decide)
  have hn31 : 31 ∉ K63 := by rw [eK63]; exact nin_push hn31 (by decide)
  have hn32 : 32 ∉ K63 := by rw [eK63]; exact nin_push hn32 (by decide)
  have hn33 : 33 ∉ K63 := by rw [eK63]; exact nin_push hn33 (by decide)
  have hn34 : 34 ∉ K63 := by rw [eK63]; exact nin_push hn34 (by decide)
  have hm_5 := hk63
  have hCl : Cl K63 sh := by rw [eK63]; exact hCl.push (by rw [hsh5]; decide)
  have hOR : ORf K63 O61 := hOR.mono hin63
  rw [← hr63_0] at hl
  rw [hq63, ← hr63_0]
  obtain ⟨O64, eO64, hf⟩ := bnd_i hf
  have hOR := hOR.up (k := 0) (j := 8) ((⟨hm_5, hsh5⟩ : 5 ∈ K63 ∧ _)).1
  rw [← eO64] at hOR
  refine s_putOF (ty := tyX12 8) E hnm inU12 tyX12_ok nmX12 hK hI (⟨hm_0, hsh0⟩ : 0 ∈ K63 ∧ _) rfl 8 (by decide) u4_196 (fun _ h => h) rfl rfl rfl (tyX12_ok 8 (by decide)) rfl rfl eO64 dX12_init_280 (fun H locs hI => ?_)
  refine lv_aload_n hx hb dX12_init_283 rfl (lv_at hl 0 rfl) ?_
  refine lv_bipush (v := 10) hx hb dX12_init_284 (by decide) ?_
  obtain ⟨G65, eG65, hf⟩ := bnd_i hf
  refine s_newI E u1_80 hK hI hA 6 (fr_of hCl hOR hn6) hsh6 (by decide) (by decide) (by decide) ⟨by decide, by decide⟩ dX12_init_286 (fun q H hI => ?_)
  rw [← eG65] at hI
  obtain ⟨K66, eK66⟩ : ∃ z, z = K63 ++ [6] := ⟨_, rfl⟩
  obtain ⟨ad66, ea66⟩ : ∃ z, z = adU ad63 6 q := ⟨_, rfl⟩
  rw [← eK66, ← ea66] at hI
  have hin66 : ∀ b ∈ K63, b ∈ K66 := fun b hb => by rw [eK66]; exact List.mem_append_left _ hb
  have hk66 : 6 ∈ K66 := by rw [eK66]; exact List.mem_append_right _ (List.mem_singleton.mpr rfl)
  have hq66 : q = ad66 6 := by rw [ea66]; exact adU_k.symm
  have had66 : ∀ b ∈ K63, ad66 b = ad63 b := fun b hb => by rw [ea66]; exact adU_in hb hn6
  have hr66_0 := had66 _ ((⟨hm_0, hsh0⟩ : 0 ∈ K63 ∧ _)).1
  have had : ∀ b ∈ K, ad66 b = ad b := fun b hb => (had66 b (hsub b hb)).trans (had b hb)
  have hsub : ∀ b ∈ K, b ∈ K66 := fun b hb => hin66 b (hsub b hb)
  have hcl : Bcl (AS K66 ad66 X) B := hclA.mono (AS_D hI.2.1)
  have hm_0 := hin66 _ hm_0
  have hm_1 := hin66 _ hm_1
  have hm_2 := hin66 _ hm_2
  have hm_3 := hin66 _ hm_3
  have hm_4 := hin66 _ hm_4
  have hm_5 := hin66 _ hm_5
  have hn7 : 7 ∉ K66 := by rw [eK66]; exact nin_push hn7 (by decide)
  have hn8 : 8 ∉ K66 := by rw [eK66]; exact nin_push hn8 (by decide)
  have hn9 : 9 ∉ K66 := by rw [eK66]; exact nin_push hn9 (by decide)
  have hn10 : 10 ∉ K66 := by rw [eK66]; exact nin_push hn10 (by decide)
  have hn11 : 11 ∉ K66 := by rw [eK66]; exact nin_push hn11 (by decide)
  have hn12 : 12 ∉ K66 := by rw [eK66]; exact nin_push hn12 (by decide)
  have hn13 : 13 ∉ K66 := by rw [eK66]; exact nin_push hn13 (by decide)
  have hn14 : 14 ∉ K66 := by rw [eK66]; exact nin_push hn14 (by decide)
  have hn15 : 15 ∉ K66 := by rw [eK66]; exact nin_push hn15 (by decide)
  have hn16 : 16 ∉ K66 := by rw [eK66]; exact nin_push hn16 (by decide)
  have hn17 : 17 ∉ K66 := by rw [eK66]; exact nin_push hn17 (by decide)
  have hn18 : 18 ∉ K66 := by rw [eK66]; exact nin_push hn18 (by decide)
  have hn19 : 19 ∉ K66 := by rw [eK66]; exact nin_push hn19 (by decide)
  have hn20 : 20 ∉ K66 := by rw [eK66]; exact nin_push hn20 (by decide)
  have hn21 : 21 ∉ K66 := by rw [eK66]; exact nin_push hn21 (by decide)
  have hn22 : 22 ∉ K66 := by rw [eK66]; exact nin_push hn22 (by decide)
  have hn23 : 23 ∉ K66 := by rw [eK66]; exact nin_push hn23 (by decide)
  have hn24 : 24 ∉ K66 := by rw [eK66]; exact nin_push hn24 (by decide)
  have hn25 : 25 ∉ K66 := by rw [eK66]; exact nin_push hn25 (by decide)
  have hn26 : 26 ∉ K66 := by rw [eK66]; exact nin_push hn26 (by decide)
  have hn27 : 27 ∉ K66 := by rw [eK66]; exact nin_push hn27 (by decide)
  have hn28 : 28 ∉ K66 := by rw [eK66]; exact nin_push hn28 (by decide)
  have hn29 : 29 ∉ K66 := by rw [eK66]; exact nin_push hn29 (by decide)
  have hn30 : 30 ∉ K66 := by rw [eK66]; exact nin_push hn30 (by decide)
  have hn31 : 31 ∉ K66 := by rw [eK66]; exact nin_push hn31 (by decide)
  have hn32 : 32 ∉ K66 := by rw [eK66]; exact nin_push hn32 (by decide)
  have hn33 : 33 ∉ K66 := by rw [eK66]; exact nin_push hn33 (by decide)
  have hn34 : 34 ∉ K66 := by rw [eK66]; exact nin_push hn34 (by decide)
  have hm_6 := hk66
  have hCl : Cl K66 sh := by rw [eK66]; exact hCl.push (by rw [hsh6]; decide)
  have hOR : ORf K66 O64 := hOR.mono hin66
  rw [← hr66_0] at hl
  rw [hq66, ← hr66_0]
  obtain ⟨O67, eO67, hf⟩ := bnd_i hf
  have hOR := hOR.up (k := 0) (j := 9) ((⟨hm_6, hsh6⟩ : 6 ∈ K66 ∧ _)).1
  rw [← eO67] at hOR
  refine s_putOF (ty := tyX12 9) E hnm inU12 tyX12_ok nmX12 hK hI (⟨hm_0, hsh0⟩ : 0 ∈ K66 ∧ _) rfl 9 (by decide) u4_197 (fun _ h => h) rfl rfl rfl (tyX12_ok 9 (by decide)) rfl rfl eO67 dX12_init_288 (fun H locs hI => ?_)
  refine lv_aload_n hx hb dX12_init_291 rfl (lv_at hl 0 rfl) ?_
  refine lv_bipush (v := 10) hx hb dX12_init_292 (by decide) ?_
  obtain ⟨G68, eG68, hf⟩ := bnd_i hf
  refine s_newI E u1_80 hK hI hA 7 (fr_of hCl hOR hn7) hsh7 (by decide) (by decide) (by decide) ⟨by decide, by decide⟩ dX12_init_294 (fun q H hI => ?_)
  rw [← eG68] at hI
  obtain ⟨K69, eK69⟩ : ∃ z, z = K66 ++ [7] := ⟨_, rfl⟩
  obtain ⟨ad69, ea69⟩ : ∃ z, z = adU ad66 7 q := ⟨_, rfl⟩
  rw [← eK69, ← ea69] at hI
  have hin69 : ∀ b ∈ K66, b ∈ K69 := fun b hb => by rw [eK69]; exact List.mem_append_left _ hb
  have hk69 : 7 ∈ K69 := by rw [eK69]; exact List.mem_append_right _ (List.mem_singleton.mpr rfl)
  have hq69 : q = ad69 7 := by rw [ea69]; exact adU_k.symm
  have had69 : ∀ b ∈ K66, ad69 b = ad66 b := fun b hb => by rw [ea69]; exact adU_in hb hn7
  have hr69_0 := had69 _ ((⟨hm_0, hsh0⟩ : 0 ∈ K66 ∧ _)).1
  have had : ∀ b ∈ K, ad69 b = ad b := fun b hb => (had69 b (hsub b hb)).trans (had b hb)
  have hsub : ∀ b ∈ K, b ∈ K69 := fun b hb => hin69 b (hsub b hb)
  have hcl : Bcl (AS K69 ad69 X) B := hclA.mono (AS_D hI.2.1)
  have hm_0 := hin69 _ hm_0
  have hm_1 := hin69 _ hm_1
  have hm_2 := hin69 _ hm_2
  have hm_3 := hin69 _ hm_3
  have hm_4 := hin69 _ hm_4
  have hm_5 := hin69 _ hm_5
  have hm_6 := hin69 _ hm_6
  have hn8 : 8 ∉ K69 := by rw [eK69]; exact nin_push hn8 (by decide)
  have hn9 : 9 ∉ K69 := by rw [eK69]; exact nin_push hn9 (by decide)
  have hn10 : 10 ∉ K69 := by rw [eK69]; exact nin_push hn10 (by decide)
  have hn11 : 11 ∉ K69 := by rw [eK69]; exact nin_push hn11 (by decide)
  have hn12 : 12 ∉ K69 := by rw [eK69]; exact nin_push hn12 (by decide)
  have hn13 : 13 ∉ K69 := by rw [eK69]; exact nin_push hn13 (by decide)
  have hn14 : 14 ∉ K69 := by rw [eK69]; exact nin_push hn14 (by decide)
  have hn15 : 15 ∉ K69 := by rw [eK69]; exact nin_push hn15 (by decide)
  have hn16 : 16 ∉ K69 := by rw [eK69]; exact nin_push hn16 (by decide)
  have hn17 : 17 ∉ K69 := by rw [eK69]; exact nin_push hn17 (by decide)
  have hn18 : 18 ∉ K69 := by rw [eK69]; exact nin_push hn18 (by decide)
  have hn19 : 19 ∉ K69 := by rw [eK69]; exact nin_push hn19 (by decide)
  have hn20 : 20 ∉ K69 := by rw [eK69]; exact nin_push hn20 (by decide)
  have hn21 : 21 ∉ K69 := by rw [eK69]; exact nin_push hn21 (by decide)
  have hn22 : 22 ∉ K69 := by rw [eK69]; exact nin_push hn22 (by decide)
  have hn23 : 23 ∉ K69 := by rw [eK69]; exact nin_push hn23 (by decide)
  have hn24 : 24 ∉ K69 := by rw [eK69]; exact nin_push hn24 (by decide)
  have hn25 : 25 ∉ K69 := by rw [eK69]; exact nin_push hn25 (by decide)
  have hn26 : 26 ∉ K69 := by rw [eK69]; exact nin_push hn26 (by decide)
  have hn27 : 27 ∉ K69 := by rw [eK69]; exact nin_push hn27 (by decide)
  have hn28 : 28 ∉ K69 := by rw [eK69]; exact nin_push hn28 (by decide)
  have hn29 : 29 ∉ K69 := by rw [eK69]; exact nin_push hn29 (by decide)
  have hn30 : 30 ∉ K69 := by rw [eK69]; exact nin_push hn30 (by decide)
  have hn31 : 31 ∉ K69 := by rw [eK69]; exact nin_push hn31 (by decide)
  have hn32 : 32 ∉ K69 := by rw [eK69]; exact nin_push hn32 (by decide)
  have hn33 : 33 ∉ K69 := by rw [eK69]; exact nin_push hn33 (by decide)
  have hn34 : 34 ∉ K69 := by rw [eK69]; exact nin_push hn34 (by decide)
  have hm_7 := hk69
  have hCl : Cl K69 sh := by rw [eK69]; exact hCl.push (by rw [hsh7]; decide)
  have hOR : ORf K69 O67 := hOR.mono hin69
  rw [← hr69_0] at hl
  rw [hq69, ← hr69_0]
  obtain ⟨O70, eO70, hf⟩ := bnd_i hf
  have hOR := hOR.up (k := 0) (j := 10) ((⟨hm_7, hsh7⟩ : 7 ∈ K69 ∧ _)).1
  rw [← eO70] at hOR
  refine s_putOF (ty := tyX12 10) E hnm inU12 tyX12_ok nmX12 hK hI (⟨hm_0, hsh0⟩ : 0 ∈ K69 ∧ _) rfl 10 (by decide) u4_198 (fun _ h => h) rfl rfl rfl (tyX12_ok 10 (by decide)) rfl rfl eO70 dX12_init_296 (fun H locs hI => ?_)
  refine lv_aload_n hx hb dX12_init_299 rfl (lv_at hl 0 rfl) ?_
  refine lv_bipush (v := 10) hx hb dX12_init_300 (by decide) ?_
  obtain ⟨G71, eG71, hf⟩ := bnd_i hf
  refine s_newI E u1_80 hK hI hA 8 (fr_of hCl hOR hn8) hsh8 (by decide) (by decide) (by decide) ⟨by decide, by decide⟩ dX12_init_302 (fun q H hI => ?_)
  rw [← eG71] at hI
  obtain ⟨K72, eK72⟩ : ∃ z, z = K69 ++ [8] := ⟨_, rfl⟩
  obtain ⟨ad72, ea72⟩ : ∃ z, z = adU ad69 8 q := ⟨_, rfl⟩
  rw [← eK72, ← ea72] at hI
  have hin72 : ∀ b ∈ K69, b ∈ K72 := fun b hb => by rw [eK72]; exact List.mem_append_left _ hb
  have hk72 : 8 ∈ K72 := by rw [eK72]; exact List.mem_append_right _ (List.mem_singleton.mpr rfl)
  have hq72 : q = ad72 8 := by rw [ea72]; exact adU_k.symm
  have had72 : ∀ b ∈ K69, ad72 b = ad69 b := fun b hb => by rw [ea72]; exact adU_in hb hn8
  have hr72_0 := had72 _ ((⟨hm_0, hsh0⟩ : 0 ∈ K69 ∧ _)).1
  have had : ∀ b ∈ K, ad72 b = ad b := fun b hb => (had72 b (hsub b hb)).trans (had b hb)
  have hsub : ∀ b ∈ K, b ∈ K72 := fun b hb => hin72 b (hsub b hb)
  have hcl : Bcl (AS K72 ad72 X) B := hclA.mono (AS_D hI.2.1)
  have hm_0 := hin72 _ hm_0
  have hm_1 := hin72 _ hm_1
  have hm_2 := hin72 _ hm_2
  have hm_3 := hin72 _ hm_3
  have hm_4 := hin72 _ hm_4
  have hm_5 := hin72 _ hm_5
  have hm_6 := hin72 _ hm_6
  have hm_7 := hin72 _ hm_7
  have hn9 : 9 ∉ K72 := by rw [eK72]; exact nin_push hn9 (by decide)
  have hn10 : 10 ∉ K72 := by rw [eK72]; exact nin_push hn10 (by decide)
  have hn11 : 11 ∉ K72 := by rw [eK72]; exact nin_push hn11 (by decide)
  have hn12 : 12 ∉ K72 := by rw [eK72]; exact nin_push hn12 (by decide)
  have hn13 : 13 ∉ K72 := by rw [eK72]; exact nin_push hn13 (by decide)
  have hn14 : 14 ∉ K72 := by rw [eK72]; exact nin_push hn14 (by decide)
  have hn15 : 15 ∉ K72 := by rw [eK72]; exact nin_push hn15 (by decide)
  have hn16 : 16 ∉ K72 := by rw [eK72]; exact nin_push hn16 (by decide)
  have hn17 : 17 ∉ K72 := by rw [eK72]; exact nin_push hn17 (by decide)
  have hn18 : 18 ∉ K72 := by rw [eK72]; exact nin_push hn18 (by decide)
  have hn19 : 19 ∉ K72 := by rw [eK72]; exact nin_push hn19 (by decide)
  have hn20 : 20 ∉ K72 := by rw [eK72]; exact nin_push hn20 (by decide)
  have hn21 : 21 ∉ K72 := by rw [eK72]; exact nin_push hn21 (by decide)
  have hn22 : 22 ∉ K72 := by rw [eK72]; exact nin_push hn22 (by decide)
  have hn23 : 23 ∉ K72 := by rw [eK72]; exact nin_push hn23 (by decide)
  have hn24 : 24 ∉ K72 := by rw [eK72]; exact nin_push hn24 (by decide)
  have hn25 : 25 ∉ K72 := by rw [eK72]; exact nin_push hn25 (by decide)
  have hn26 : 26 ∉ K72 := by rw [eK72]; exact nin_push hn26 (by decide)
  have hn27 : 27 ∉ K72 := by rw [eK72]; exact nin_push hn27 (by decide)
  have hn28 : 28 ∉ K72 := by rw [eK72]; exact nin_push hn28 (by decide)
  have hn29 : 29 ∉ K72 := by rw [eK72]; exact nin_push hn29 (by decide)
  have hn30 : 30 ∉ K72 := by rw [eK72]; exact nin_push hn30 (by decide)
  have hn31 : 31 ∉ K72 := by rw [eK72]; exact nin_push hn31 (by decide)
  have hn32 : 32 ∉ K72 := by rw [eK72]; exact nin_push hn32 (by decide)
  have hn33 : 33 ∉ K72 := by rw [eK72]; exact nin_push hn33 (by decide)
  have hn34 : 34 ∉ K72 := by rw [eK72]; exact nin_push hn34 (by decide)
  have hm_8 := hk72
  have hCl : Cl K72 sh := by rw [eK72]; exact hCl.push (by rw [hsh8]; decide)
  have hOR : ORf K72 O70 := hOR.mono hin72
  rw [← hr72_0] at hl
  rw [hq72, ← hr72_0]
  obtain ⟨O73, eO73, hf⟩ := bnd_i hf
  have hOR := hOR.up (k := 0) (j := 11) ((⟨hm_8, hsh8⟩ : 8 ∈ K72 ∧ _)).1
  rw [← eO73] at hOR
  refine s_putOF (ty := tyX12 11) E hnm inU12 tyX12_ok nmX12 hK hI (⟨hm_0, hsh0⟩ : 0 ∈ K72 ∧ _) rfl 11 (by decide) u4_199 (fun _ h => h) rfl rfl rfl (tyX12_ok 11 (by decide)) rfl rfl eO73 dX12_init_304 (fun H locs hI => ?_)
  refine lv_aload_n hx hb dX12_init_307 rfl (lv_at hl 0 rfl) ?_
  refine lv_bipush (v := 10) hx hb dX12_init_308 (by decide) ?_
  obtain ⟨G74, eG74, hf⟩ := bnd_i hf
  refine s_newI E u1_80 hK hI hA 9 (fr_of hCl hOR hn9) hsh9 (by decide) (by decide) (by decide) ⟨by decide, by decide⟩ dX12_init_310 (fun q H hI => ?_)
  rw [← eG74] at hI
  obtain ⟨K75, eK75⟩ : ∃ z, z = K72 ++ [9] := ⟨_, rfl⟩
  obtain ⟨ad75, ea75⟩ : ∃ z, z = adU ad72 9 q := ⟨_, rfl⟩
  rw [← eK75, ← ea75] at hI
  have hin75 : ∀ b ∈ K72, b ∈ K75 := fun b hb => by rw [eK75]; exact List.mem_append_left _ hb
  have hk75 : 9 ∈ K75 := by rw [eK75]; exact List.mem_append_right _ (List.mem_singleton.mpr rfl)
  have hq75 : q = ad75 9 := by rw [ea75]; exact adU_k.symm
  have had75 : ∀ b ∈ K72, ad75 b = ad72 b := fun b hb => by rw [ea75]; exact adU_in hb hn9
  have hr75_0 := had75 _ ((⟨hm_0, hsh0⟩ : 0 ∈ K72 ∧ _)).1
  have had : ∀ b ∈ K, ad75 b = ad b := fun b hb => (had75 b (hsub b hb)).trans (had b hb)
  have hsub : ∀ b ∈ K, b ∈ K75 := fun b hb => hin75 b (hsub b hb)
  have hcl : Bcl (AS K75 ad75 X) B := hclA.mono (AS_D hI.2.1)
  have hm_0 := hin75 _ hm_0
  have hm_1 := hin75 _ hm_1
  have hm_2 := hin75 _ hm_2
  have hm_3 := hin75 _ hm_3
  have hm_4 := hin75 _ hm_4
  have hm_5 := hin75 _ hm_5
  have hm_6 := hin75 _ hm_6
  have hm_7 := hin75 _ hm_7
  have hm_8 := hin75 _ hm_8
  have hn10 : 10 ∉ K75 := by rw [eK75]; exact nin_push hn10 (by decide)
  have hn11 : 11 ∉ K75 := by rw [eK75]; exact nin_push hn11 (by decide)
  have hn12 : 12 ∉ K75 := by rw [eK75]; exact nin_push hn12 (by decide)
  have hn13 : 13 ∉ K75 := by rw [eK75]; exact nin_push hn13 (by decide)
  have hn14 : 14 ∉ K75 := by rw [eK75]; exact nin_push hn14 (by decide)
  have hn15 : 15 ∉ K75 := by rw [eK75]; exact nin_push hn15 (by decide)
  have hn16 : 16 ∉ K75 := by rw [eK75]; exact nin_push hn16 (by decide)
  have hn17 : 17 ∉ K75 := by rw [eK75]; exact nin_push hn17 (by decide)
  have hn18 : 18 ∉ K75 := by rw [eK75]; exact nin_push hn18 (by decide)
  have hn19 : 19 ∉ K75 := by rw [eK75]; exact nin_push hn19 (by decide)
  have hn20 : 20 ∉ K75 := by rw [eK75]; exact nin_push hn20 (by decide)
  have hn21 : 21 ∉ K75 := by rw [eK75]; exact nin_push hn21 (by decide)
  have hn22 : 22 ∉ K75 := by rw [eK75]; exact nin_push hn22 (by decide)
  have hn23 : 23 ∉ K75 := by rw [eK75]; exact nin_push hn23 (by decide)
  have hn24 : 24 ∉ K75 := by rw [eK75]; exact nin_push hn24 (by decide)
  have hn25 : 25 ∉ K75 := by rw [eK75]; exact nin_push hn25 (by decide)
  have hn26 : 26 ∉ K75 := by rw [eK75]; exact nin_push hn26 (by decide)
  have hn27 : 27 ∉ K75 := by rw [eK75]; exact nin_push hn27 (by decide)
  have hn28 : 28 ∉ K75 := by rw [eK75]; exact nin_push hn28 (by decide)
  have hn29 : 29 ∉ K75 := by rw [eK75]; exact nin_push hn29 (by decide)
  have hn30 : 30 ∉ K75 := by rw [eK75]; exact nin_push hn30 (by decide)
  have hn31 : 31 ∉ K75 := by rw [eK75]; exact nin_push hn31 (by decide)
  have hn32 : 32 ∉ K75 := by rw [eK75]; exact nin_push hn32 (by decide)
  have hn33 : 33 ∉ K75 := by rw [eK75]; exact nin_push hn33 (by decide)
  have hn34 : 34 ∉ K75 := by rw [eK75]; exact nin_push hn34 (by decide)
  have hm_9 := hk75
  have hCl : Cl K75 sh := by rw [eK75]; exact hCl.push (by rw [hsh9]; decide)
  have hOR : ORf K75 O73 := hOR.mono hin75
  rw [← hr75_0] at hl
  rw [hq75, ← hr75_0]
  obtain ⟨O76, eO76, hf⟩ := bnd_i hf
  have hOR := hOR.up (k := 0) (j := 12) ((⟨hm_9, hsh9⟩ : 9 ∈ K75 ∧ _)).1
  rw [← eO76] at hOR
  refine s_putOF (ty := tyX12 12) E hnm inU12 tyX12_ok nmX12 hK hI (⟨hm_0, hsh0⟩ : 0 ∈ K75 ∧ _) rfl 12 (by decide) u4_200 (fun _ h => h) rfl rfl rfl (tyX12_ok 12 (by decide)) rfl rfl eO76 dX12_init_312 (fun H locs hI => ?_)
  refine lv_aload_n hx hb dX12_init_315 rfl (lv_at hl 0 rfl) ?_
  refine lv_sipush (v := 160) hx hb dX12_init_316 (by decide) ?_
  obtain ⟨G77, eG77, hf⟩ := bnd_i hf
  refine s_newB E u2_166 hK hI hA 10 (fr_of hCl hOR hn10) hsh10 (by decide) (by decide) (by decide) ⟨by decide, by decide⟩ dX12_init_319 (fun q H hI => ?_)
  rw [← eG77] at hI
  obtain ⟨K78, eK78⟩ : ∃ z, z = K75 ++ [10] := ⟨_, rfl⟩
  obtain ⟨ad78, ea78⟩ : ∃ z, z = adU ad75 10 q := ⟨_, rfl⟩
  rw [← eK78, ← ea78] at hI
  have hin78 : ∀ b ∈ K75, b ∈ K78 := fun b hb => by rw [eK78]; exact List.mem_append_left _ hb
  have hk78 : 10 ∈ K78 := by rw [eK78]; exact List.mem_append_right _ (List.mem_singleton.mpr rfl)
  have hq78 : q = ad78 10 := by rw [ea78]; exact adU_k.symm
  have had78 : ∀ b ∈ K75, ad78 b = ad75 b := fun b hb => by rw [ea78]; exact adU_in hb hn10
  have hr78_0 := had78 _ ((⟨hm_0, hsh0⟩ : 0 ∈ K75 ∧ _)).1
  have had : ∀ b ∈ K, ad78 b = ad b := fun b hb => (had78 b (hsub b hb)).trans (had b hb)
  have hsub : ∀ b ∈ K, b ∈ K78 := fun b hb => hin78 b (hsub b hb)
  have hcl : Bcl (AS K78 ad78 X) B := hclA.mono (AS_D hI.2.1)
  have hm_0 := hin78 _ hm_0
  have hm_1 := hin78 _ hm_1
  have hm_2 := hin78 _ hm_2
  have hm_3 := hin78 _ hm_3
  have hm_4 := hin78 _ hm_4
  have hm_5 := hin78 _ hm_5
  have hm_6 := hin78 _ hm_6
  have hm_7 := hin78 _ hm_7
  have hm_8 := hin78 _ hm_8
  have hm_9 := hin78 _ hm_9
  have hn11 : 11 ∉ K78 := by rw [eK78]; exact nin_push hn11 (by decide)
  have hn12 : 12 ∉ K78 := by rw [eK78]; exact nin_push hn12 (by decide)
  have hn13 : 13 ∉ K78 := by rw [eK78]; exact nin_push hn13 (by decide)
  have hn14 : 14 ∉ K78 := by rw [eK78]; exact nin_push hn14 (by decide)
  have hn15 : 15 ∉ K78 := by rw [eK78]; exact nin_push hn15 (by decide)
  have hn16 : 16 ∉ K78 := by rw [eK78]; exact nin_push hn16 (by decide)
  have hn17 : 17 ∉ K78 := by rw [eK78]; exact nin_push hn17 (by decide)
  have hn18 : 18 ∉ K78 := by rw [eK78]; exact nin_push hn18 (by decide)
  have hn19 : 19 ∉ K78 := by rw [eK78]; exact nin_push hn19 (by decide)
  have hn20 : 20 ∉ K78 := by rw [eK78]; exact nin_push hn20 (by decide)
  have hn21 : 21 ∉ K78 := by rw [eK78]; exact nin_push hn21 (by decide)
  have hn22 : 22 ∉ K78 := by rw [eK78]; exact nin_push hn22 (by decide)
  have hn23 : 23 ∉ K78 := by rw [eK78]; exact nin_push hn23 (by decide)
  have hn24 : 24 ∉ K78 := by rw [eK78]; exact nin_push hn24 (by decide)
  have hn25 : 25 ∉ K78 := by rw [eK78]; exact nin_push hn25 (by decide)
  have hn26 : 26 ∉ K78 := by rw [eK78]; exact nin_push hn26 (by decide)
  have hn27 : 27 ∉ K78 := by rw [eK78]; exact nin_push hn27 (by decide)
  have hn28 : 28 ∉ K78 := by rw [eK78]; exact nin_push hn28 (by decide)
  have hn29 : 29 ∉ K78 := by rw [eK78]; exact nin_push hn29 (by decide)
  have hn30 : 30 ∉ K78 := by rw [eK78]; exact nin_push hn30 (by decide)
  have hn31 : 31 ∉ K78 := by rw [eK78]; exact nin_push hn31 (by decide)
  have hn32 : 32 ∉ K78 := by rw [eK78]; exact nin_push hn32 (by decide)
  have hn33 : 33 ∉ K78 := by rw [eK78]; exact nin_push hn33 (by decide)
  have hn34 : 34 ∉ K78 := by rw [eK78]; exact nin_push hn34 (by decide)
  have hm_10 := hk78
  have hCl : Cl K78 sh := by rw [eK78]; exact hCl.push (by rw [hsh10]; decide)
  have hOR : ORf K78 O76 := hOR.mono hin78
  rw [← hr78_0] at hl
  rw [hq78, ← hr78_0]
  obtain ⟨O79, eO79, hf⟩ := bnd_i hf
  have hOR := hOR.up (k := 0) (j := 13) ((⟨hm_10, hsh10⟩ : 10 ∈ K78 ∧ _)).1
  rw [← eO79] at hOR
  refine s_putOF (ty := tyX12 13) E hnm inU12 tyX12_ok nmX12 hK hI (⟨hm_0, hsh0⟩ : 0 ∈ K78 ∧ _) rfl 13 (by decide) u4_201 (fun _ h => h) rfl rfl rfl (tyX12_ok 13 (by decide)) rfl rfl eO79 dX12_init_321 (fun H locs hI => ?_)
  refine lv_aload_n hx hb dX12_init_324 rfl (lv_at hl 0 rfl) ?_
  refine lv_iconst (v := 1) hx hb dX12_init_325 (by decide) ?_
  obtain ⟨G80, eG80, hf⟩ := bnd_i hf
  refine s_put (ty := .int) hx hb hu inU12 tyX12_ok nmX12 hown hK hI (⟨hm_0, hsh0⟩ : 0 ∈ K78 ∧ _) rfl 15 (by decide) u4_203 (fun _ h => h) rfl rfl (tyX12_ok 15 (by decide)) rfl rfl eG80 dX12_init_326 (fun H locs hI => ?_)
  refine lv_aload_n hx hb dX12_init_329 rfl (lv_at hl 0 rfl) ?_
  refine lv_sipush (v := 1190) hx hb dX12_init_330 (by decide) ?_
  obtain ⟨G81, eG81, hf⟩ := bnd_i hf
  refine s_newI E u1_80 hK hI hA 11 (fr_of hCl hOR hn11) hsh11 (by decide) (by decide) (by decide) ⟨by decide, by decide⟩ dX12_init_333 (fun q H hI => ?_)
  rw [← eG81] at hI
  obtain ⟨K82, eK82⟩ : ∃ z, z = K78 ++ [11] := ⟨_, rfl⟩
  obtain ⟨ad82, ea82⟩ : ∃ z, z = adU ad78 11 q := ⟨_, rfl⟩
  rw [← eK82, ← ea82] at hI
  have hin82 : ∀ b ∈ K78, b ∈ K82 := fun b hb => by rw [eK82]; exact List.mem_append_left _ hb
  have hk82 : 11 ∈ K82 := by rw [eK82]; exact List.mem_append_right _ (List.mem_singleton.mpr rfl)
  have hq82 : q = ad82 11 := by rw [ea82]; exact adU_k.symm
  have had82 : ∀ b ∈ K78, ad82 b = ad78 b := fun b hb => by rw [ea82]; exact adU_in hb hn11
  have hr82_0 := had82 _ ((⟨hm_0, hsh0⟩ : 0 ∈ K78 ∧ _)).1
  have had : ∀ b ∈ K, ad82 b = ad b := fun b hb => (had82 b (hsub b hb)).trans (had b hb)
  have hsub : ∀ b ∈ K, b ∈ K82 := fun b hb => hin82 b (hsub b hb)
  have hcl : Bcl (AS K82 ad82 X) B := hclA.mono (AS_D hI.2.1)
  have hm_0 := hin82 _ hm_0
  have hm_1 := hin82 _ hm_1
  have hm_2 := hin82 _ hm_2
  have hm_3 := hin82 _ hm_3
  have hm_4 := hin82 _ hm_4
  have hm_5 := hin82 _ hm_5
  have hm_6 := hin82 _ hm_6
  have hm_7 := hin82 _ hm_7
  have hm_8 := hin82 _ hm_8
  have hm_9 := hin82 _ hm_9
  have hm_10 := hin82 _ hm_10
  have hn12 : 12 ∉ K82 := by rw [eK82]; exact nin_push hn12 (by decide)
  have hn13 : 13 ∉ K82 := by rw [eK82]; exact nin_push hn13 (by decide)
  have hn14 : 14 ∉ K82 := by rw [eK82]; exact nin_push hn14 (by decide)
  have hn15 : 15 ∉ K82 := by rw [eK82]; exact nin_push hn15 (by decide)
  have hn16 : 16 ∉ K82 := by rw [eK82]; exact nin_push hn16 (by decide)
  have hn17 : 17 ∉ K82 := by rw [eK82]; exact nin_push hn17 (by decide)
  have hn18 : 18 ∉ K82 := by rw [eK82]; exact nin_push hn18 (by decide)
  have hn19 : 19 ∉ K82 := by rw [eK82]; exact nin_push hn19 (by decide)
  have hn20 : 20 ∉ K82 := by rw [eK82]; exact nin_push hn20 (by decide)
  have hn21 : 21 ∉ K82 := by rw [eK82]; exact nin_push hn21 (by decide)
  have hn22 : 22 ∉ K82 := by rw [eK82]; exact nin_push hn22 (by decide)
  have hn23 : 23 ∉ K82 := by rw [eK82]; exact nin_push hn23 (by decide)
  have hn24 : 24 ∉ K82 := by rw [eK82]; exact nin_push hn24 (by decide)
  have hn25 : 25 ∉ K82 := by rw [eK82]; exact nin_push hn25 (by decide)
  have hn26 : 26 ∉ K82 := by rw [eK82]; exact nin_push hn26 (by decide)
  have hn27 : 27 ∉ K82 := by rw [eK82]; exact nin_push hn27 (by decide)
  have hn28 : 28 ∉ K82 := by rw [eK82]; exact nin_push hn28 (by decide)
  have hn29 : 29 ∉ K82 := by rw [eK82]; exact nin_push hn29 (by decide)
  have hn30 : 30 ∉ K82 := by rw [eK82]; exact nin_push hn30 (by decide)
  have hn31 : 31 ∉ K82 := by rw [eK82]; exact nin_push hn31 (by decide)
  have hn32 : 32 ∉ K82 := by rw [eK82]; exact nin_push hn32 (by decide)
  have hn33 : 33 ∉ K82 := by rw [eK82]; exact nin_push hn33 (by decide)
  have hn34 : 34 ∉ K82 := by rw [eK82]; exact nin_push hn34 (by decide)
  have hm_11 := hk82
  have hCl : Cl K82 sh := by rw [eK82]; exact hCl.push (by rw [hsh11]; decide)
  have hOR : ORf K82 O79 := hOR.mono hin82
  rw [← hr82_0] at hl
  rw [hq82, ← hr82_0]
  obtain ⟨O83, eO83, hf⟩ := bnd_i hf
  have hOR := hOR.up (k := 0) (j := 17) ((⟨hm_11, hsh11⟩ : 11 ∈ K82 ∧ _)).1
  rw [← eO83] at hOR
  refine s_putOF (ty := tyX12 17) E hnm inU12 tyX12_ok nmX12 hK hI (⟨hm_0, hsh0⟩ : 0 ∈ K82 ∧ _) rfl 17 (by decide) u4_205 (fun _ h => h) rfl rfl rfl (tyX12_ok 17 (by decide)) rfl rfl eO83 dX12_init_335 (fun H locs hI => ?_)
  refine lv_aload_n hx hb dX12_init_338 rfl (lv_at hl 0 rfl) ?_
  refine lv_sipush (v := 1190) hx hb dX12_init_339 (by decide) ?_
  obtain ⟨G84, eG84, hf⟩ := bnd_i hf
  refine s_newI E u1_80 hK hI hA 12 (fr_of hCl hOR hn12) hsh12 (by decide) (by decide) (by decide) ⟨by decide, by decide⟩ dX12_init_342 (fun q H hI => ?_)
  rw [← eG84] at hI
  obtain ⟨K85, eK85⟩ : ∃ z, z = K82 ++ [12] := ⟨_, rfl⟩
  obtain ⟨ad85, ea85⟩ : ∃ z, z = adU ad82 12 q := ⟨_, rfl⟩
  rw [← eK85, ← ea85] at hI
  have hin85 : ∀ b ∈ K82, b ∈ K85 := fun b hb => by rw [eK85]; exact List.mem_append_left _ hb
  have hk85 : 12 ∈ K85 := by rw [eK85]; exact List.mem_append_right _ (List.mem_singleton.mpr rfl)
  have hq85 : q = ad85 12 := by rw [ea85]; exact adU_k.symm
  have had85 : ∀ b ∈ K82, ad85 b = ad82 b := fun b hb => by rw [ea85]; exact adU_in hb hn12
  have hr85_0 := had85 _ ((⟨hm_0, hsh0⟩ : 0 ∈ K82 ∧ _)).1
  have had : ∀ b ∈ K, ad85 b = ad b := fun b hb => (had85 b (hsub b hb)).trans (had b hb)
  have hsub : ∀ b ∈ K, b ∈ K85 := fun b hb => hin85 b (hsub b hb)
  have hcl : Bcl (AS K85 ad85 X) B := hclA.mono (AS_D hI.2.1)
  have hm_0 := hin85 _ hm_0
  have hm_1 := hin85 _ hm_1
  have hm_2 := hin85 _ hm_2
  have hm_3 := hin85 _ hm_3
  have hm_4 := hin85 _ hm_4
  have hm_5 := hin85 _ hm_5
  have hm_6 := hin85 _ hm_6
  have hm_7 := hin85 _ hm_7
  have hm_8 := hin85 _ hm_8
  have hm_9 := hin85 _ hm_9
  have hm_10 := hin85 _ hm_10
  have hm_11 := hin85 _ hm_11
  have hn13 : 13 ∉ K85 := by rw [eK85]; exact nin_push hn13 (by decide)
  have hn14 : 14 ∉ K85 := by rw [eK85]; exact nin_push hn14 (by decide)
  have hn15 : 15 ∉ K85 := by rw [eK85]; exact nin_push hn15 (by decide)
  have hn16 : 16 ∉ K85 := by rw [eK85]; exact nin_push hn16 (by decide)
  have hn17 : 17 ∉ K85 := by rw [eK85]; exact nin_push hn17 (by decide)
  have hn18 : 18 ∉ K85 := by rw [eK85]; exact nin_push hn18 (by decide)
  have hn19 : 19 ∉ K85 := by rw [eK85]; exact nin_push hn19 (by decide)
  have hn20 : 20 ∉ K85 := by rw [eK85]; exact nin_push hn20 (by decide)
  have hn21 : 21 ∉ K85 := by rw [eK85]; exact nin_push hn21 (by decide)
  have hn22 : 22 ∉ K85 := by rw [eK85]; exact nin_push hn22 (by decide)
  have hn23 : 23 ∉ K85 := by rw [eK85]; exact nin_push hn23 (by decide)
  have hn24 : 24 ∉ K85 := by rw [eK85]; exact nin_push hn24 (by decide)
  have hn25 : 25 ∉ K85 := by rw [eK85]; exact nin_push hn25 (by decide)
  have hn26 : 26 ∉ K85 := by rw [eK85]; exact nin_push hn26 (by decide)
  have hn27 : 27 ∉ K85 := by rw [eK85]; exact nin_push hn27 (by decide)
  have hn28 : 28 ∉ K85 := by rw [eK85]; exact nin_push hn28 (by decide)
  have hn29 : 29 ∉ K85 := by rw [eK85]; exact nin_push hn29 (by decide)
  have hn30 : 30 ∉ K85 := by rw [eK85]; exact nin_push hn30 (by decide)
  have hn31 : 31 ∉ K85 := by rw [eK85]; exact nin_push hn31 (by decide)
  have hn32 : 32 ∉ K85 := by rw [eK85]; exact nin_push hn32 (by decide)
  have hn33 : 33 ∉ K85 := by rw [eK85]; exact nin_push hn33 (by decide)
  have hn34 : 34 ∉ K85 := by rw [eK85]; exact nin_push hn34 (by decide)
  have hm_12 := hk85
  have hCl : Cl K85 sh := by rw [eK85]; exact hCl.push (by rw [hsh12]; decide)
  have hOR : ORf K85 O83 := hOR.mono hin85
  rw [← hr85_0] at hl
  rw [hq85, ← hr85_0]
  obtain ⟨O86, eO86, hf⟩ := bnd_i hf
  have hOR := hOR.up (k := 0) (j := 18) ((⟨hm_12, hsh12⟩ : 12 ∈ K85 ∧ _)).1
  rw [← eO86] at hOR
  refine s_putOF (ty := tyX12 18) E hnm inU12 tyX12_ok nmX12 hK hI (⟨hm_0, hsh0⟩ : 0 ∈ K85 ∧ _) rfl 18 (by decide) u4_206 (fun _ h => h) rfl rfl rfl (tyX12_ok 18 (by decide)) rfl rfl eO86 dX12_init_344 (fun H locs hI => ?_)
  refine lv_aload_n hx hb dX12_init_347 rfl (lv_at hl 0 rfl) ?_
  refine lv_bipush (v := 21) hx hb dX12_init_348 (by decide) ?_
  obtain ⟨G87, eG87, hf⟩ := bnd_i hf
  refine s_newI E u1_80 hK hI hA 13 (fr_of hCl hOR hn13) hsh13 (by decide) (by decide) (by decide) ⟨by decide, by decide⟩ dX12_init_350 (fun q H hI => ?_)
  rw [← eG87] at hI
  obtain ⟨K88, eK88⟩ : ∃ z, z = K85 ++ [13] := ⟨_, rfl⟩
  obtain ⟨ad88, ea88⟩ : ∃ z, z = adU ad85 13 q := ⟨_, rfl⟩
  rw [← eK88, ← ea88] at hI
  have hin88 : ∀ b ∈ K85, b ∈ K88 := fun b hb => by rw [eK88]; exact List.mem_append_left _ hb
  have hk88 : 13 ∈ K88 := by rw [eK88]; exact List.mem_append_right _ (List.mem_singleton.mpr rfl)
  have hq88 : q = ad88 13 := by rw [ea88]; exact adU_k.symm
  have had88 : ∀ b ∈ K85, ad88 b = ad85 b := fun b hb => by rw [ea88]; exact adU_in hb hn13
  have hr88_0 := had88 _ ((⟨hm_0, hsh0⟩ : 0 ∈ K85 ∧ _)).1
  have had : ∀ b ∈ K, ad88 b = ad b := fun b hb => (had88 b (hsub b hb)).trans (had b hb)
  have hsub : ∀ b ∈ K, b ∈ K88 := fun b hb => hin88 b (hsub b hb)
  have hcl : Bcl (AS K88 ad88 X) B := hclA.mono (AS_D hI.2.1)
  have hm_0 := hin88 _ hm_0
  have hm_1 := hin88 _ hm_1
  have hm_2 := hin88 _ hm_2
  have hm_3 := hin88 _ hm_3
  have hm_4 := hin88 _ hm_4
  have hm_5 := hin88 _ hm_5
  have hm_6 := hin88 _ hm_6
  have hm_7 := hin88 _ hm_7
  have hm_8 := hin88 _ hm_8
  have hm_9 := hin88 _ hm_9
  have hm_10 := hin88 _ hm_10
  have hm_11 := hin88 _ hm_11
  have hm_12 := hin88 _ hm_12
  have hn14 : 14 ∉ K88 := by rw [eK88]; exact nin_push hn14 (by decide)
  have hn15 : 15 ∉ K88 := by rw [eK88]; exact nin_push hn15 (by decide)
  have hn16 : 16 ∉ K88 := by rw [eK88]; exact nin_push hn16 (by decide)
  have hn17 : 17 ∉ K88 := by rw [eK88]; exact nin_push hn17 (by decide)
  have hn18 : 18 ∉ K88 := by rw [eK88]; exact nin_push hn18 (by decide)
  have hn19 : 19 ∉ K88 := by rw [eK88]; exact nin_push hn19 (by decide)
  have hn20 : 20 ∉ K88 := by rw [eK88]; exact nin_push hn20 (by decide)
  have hn21 : 21 ∉ K88 := by rw [eK88]; exact nin_push hn21 (by decide)
  have hn22 : 22 ∉ K88 := by rw [eK88]; exact nin_push hn22 (by decide)
  have hn23 : 23 ∉ K88 := by rw [eK88]; exact nin_push hn23 (by decide)
  have hn24 : 24 ∉ K88 := by rw [eK88]; exact nin_push hn24 (by decide)
  have hn25 : 25 ∉ K88 := by rw [eK88]; exact nin_push hn25 (by decide)
  have hn26 : 26 ∉ K88 := by rw [eK88]; exact nin_push hn26 (by decide)
  have hn27 : 27 ∉ K88 := by rw [eK88]; exact nin_push hn27 (by decide)
  have hn28 : 28 ∉ K88 := by rw [eK88]; exact nin_push hn28 (by decide)
  have hn29 : 29 ∉ K88 := by rw [eK88]; exact nin_push hn29 (by decide)
  have hn30 : 30 ∉ K88 := by rw [eK88]; exact nin_push hn30 (by decide)
  have hn31 : 31 ∉ K88 := by rw [eK88]; exact nin_push hn31 (by decide)
  have hn32 : 32 ∉ K88 := by rw [eK88]; exact nin_push hn32 (by decide)
  have hn33 : 33 ∉ K88 := by rw [eK88]; exact nin_push hn33 (by decide)
  have hn34 : 34 ∉ K88 := by rw [eK88]; exact nin_push hn34 (by decide)
  have hm_13 := hk88
  have hCl : Cl K88 sh := by rw [eK88]; exact hCl.push (by rw [hsh13]; decide)
  have hOR : ORf K88 O86 := hOR.mono hin88
  rw [← hr88_0] at hl
  rw [hq88, ← hr88_0]
  obtain ⟨O89, eO89, hf⟩ := bnd_i hf
  have hOR := hOR.up (k := 0) (j := 19) ((⟨hm_13, hsh13⟩ : 13 ∈ K88 ∧ _)).1
  rw [← eO89] at hOR
  refine s_putOF (ty := tyX12 19) E hnm inU12 tyX12_ok nmX12 hK hI (⟨hm_0, hsh0⟩ : 0 ∈ K88 ∧ _) rfl 19 (by decide) u4_207 (fun _ h => h) rfl rfl rfl (tyX12_ok 19 (by decide)) rfl rfl eO89 dX12_init_352 (fun H locs hI => ?_)
  refine lv_aload_n hx hb dX12_init_355 rfl (lv_at hl 0 rfl) ?_
  refine lv_sipush (v := 170) hx hb dX12_init_356 (by decide) ?_
  obtain ⟨G90, eG90, hf⟩ := bnd_i hf
  refine s_newI E u1_80 hK hI hA 14 (fr_of hCl hOR hn14) hsh14 (by decide) (by decide) (by decide) ⟨by decide, by decide⟩ dX12_init_359 (fun q H hI => ?_)
  rw [← eG90] at hI
  obtain ⟨K91, eK91⟩ : ∃ z, z = K88 ++ [14] := ⟨_, rfl⟩
  obtain ⟨ad91, ea91⟩ : ∃ z, z = adU ad88 14 q := ⟨_, rfl⟩
  rw [← eK91, ← ea91] at hI
  have hin91 : ∀ b ∈ K88, b ∈ K91 := fun b hb => by rw [eK91]; exact List.mem_append_left _ hb
  have hk91 : 14 ∈ K91 := by rw [eK91]; exact List.mem_append_right _ (List.mem_singleton.mpr rfl)
  have hq91 : q = ad91 14 := by rw [ea91]; exact adU_k.symm
  have had91 : ∀ b ∈ K88, ad91 b = ad88 b := fun b hb => by rw [ea91]; exact adU_in hb hn14
  have hr91_0 := had91 _ ((⟨hm_0, hsh0⟩ : 0 ∈ K88 ∧ _)).1
  have had : ∀ b ∈ K, ad91 b = ad b := fun b hb => (had91 b (hsub b hb)).trans (had b hb)
  have hsub : ∀ b ∈ K, b ∈ K91 := fun b hb => hin91 b (hsub b hb)
  have hcl : Bcl (AS K91 ad91 X) B := hclA.mono (AS_D hI.2.1)
  have hm_0 := hin91 _ hm_0
  have hm_1 := hin91 _ hm_1
  have hm_2 := hin91 _ hm_2
  have hm_3 := hin91 _ hm_3
  have hm_4 := hin91 _ hm_4
  have hm_5 := hin91 _ hm_5
  have hm_6 := hin91 _ hm_6
  have hm_7 := hin91 _ hm_7
  have hm_8 := hin91 _ hm_8
  have hm_9 := hin91 _ hm_9
  have hm_10 := hin91 _ hm_10
  have hm_11 := hin91 _ hm_11
  have hm_12 := hin91 _ hm_12
  have hm_13 := hin91 _ hm_13
  have hn15 : 15 ∉ K91 := by rw [eK91]; exact nin_push hn15 (by decide)
  have hn16 : 16 ∉ K91 := by rw [eK91]; exact nin_push hn16 (by decide)
  have hn17 : 17 ∉ K91 := by rw [eK91]; exact nin_push hn17 (by decide)
  have hn18 : 18 ∉ K91 := by rw [eK91]; exact nin_push hn18 (by decide)
  have hn19 : 19 ∉ K91 := by rw [eK91]; exact nin_push hn19 (by decide)
  have hn20 : 20 ∉ K91 := by rw [eK91]; exact nin_push hn20 (by decide)
  have hn21 : 21 ∉ K91 := by rw [eK91]; exact nin_push hn21 (by decide)
  have hn22 : 22 ∉ K91 := by rw [eK91]; exact nin_push hn22 (by decide)
  have hn23 : 23 ∉ K91 := by rw [eK91]; exact nin_push hn23 (by decide)
  have hn24 : 24 ∉ K91 := by rw [eK91]; exact nin_push hn24 (by decide)
  have hn25 : 25 ∉ K91 := by rw [eK91]; exact nin_push hn25 (by decide)
  have hn26 : 26 ∉ K91 := by rw [eK91]; exact nin_push hn26 (by decide)
  have hn27 : 27 ∉ K91 := by rw [eK91]; exact nin_push hn27 (by decide)
  have hn28 : 28 ∉ K91 := by rw [eK91]; exact nin_push hn28 (by decide)
  have hn29 : 29 ∉ K91 := by rw [eK91]; exact nin_push hn29 (by decide)
  have hn30 : 30 ∉ K91 := by rw [eK91]; exact nin_push hn30 (by decide)
  have hn31 : 31 ∉ K91 := by rw [eK91]; exact nin_push hn31 (by decide)
  have hn32 : 32 ∉ K91 := by rw [eK91]; exact nin_push hn32 (by decide)
  have hn33 : 33 ∉ K91 := by rw [eK91]; exact nin_push hn33 (by decide)
  have hn34 : 34 ∉ K91 := by rw [eK91]; exact nin_push hn34 (by decide)
  have hm_14 := hk91
  have hCl : Cl K91 sh := by rw [eK91]; exact hCl.push (by rw [hsh14]; decide)
  have hOR : ORf K91 O89 := hOR.mono hin91
  rw [← hr91_0] at hl
  rw [hq91, ← hr91_0]
  obtain ⟨O92, eO92, hf⟩ := bnd_i hf
  have hOR := hOR.up (k := 0) (j := 27) ((⟨hm_14, hsh14⟩ : 14 ∈ K91 ∧ _)).1
  rw [← eO92] at hOR
  refine s_putOF (ty := tyX12 27) E hnm inU12 tyX12_ok nmX12 hK hI (⟨hm_0, hsh0⟩ : 0 ∈ K91 ∧ _) rfl 27 (by decide) u4_215 (fun _ h => h) rfl rfl rfl (tyX12_ok 27 (by decide)) rfl rfl eO92 dX12_init_361 (fun H locs hI => ?_)
  refine lv_aload_n hx hb dX12_init_364 rfl (lv_at hl 0 rfl) ?_
  refine lv_bipush (v := 6) hx hb dX12_init_365 (by decide) ?_
  obtain ⟨G93, eG93, hf⟩ := bnd_i hf
  refine s_newI E u1_80 hK hI hA 15 (fr_of hCl hOR hn15) hsh15 (by decide) (by decide) (by decide) ⟨by decide, by decide⟩ dX12_init_367 (fun q H hI => ?_)
  rw [← eG93] at hI
  obtain ⟨K94, eK94⟩ : ∃ z, z = K91 ++ [15] := ⟨_, rfl⟩
  obtain ⟨ad94, ea94⟩ : ∃ z, z = adU ad91 15 q := ⟨_, rfl⟩
  rw [← eK94, ← ea94] at hI
  have hin94 : ∀ b ∈ K91, b ∈ K94 := fun b hb => by rw [eK94]; exact List.mem_append_left _ hb
  have hk94 : 15 ∈ K94 := by rw [eK94]; exact List.mem_append_right _ (List.mem_singleton.mpr rfl)
  have hq94 : q = ad94 15 := by rw [ea94]; exact adU_k.symm
  have had94 : ∀ b ∈ K91, ad94 b = ad91 b := fun b hb => by rw [ea94]; exact adU_in hb hn15
  have hr94_0 := had94 _ ((⟨hm_0, hsh0⟩ : 0 ∈ K91 ∧ _)).1
  have had : ∀ b ∈ K, ad94 b = ad b := fun b hb => (had94 b (hsub b hb)).trans (had b hb)
  have hsub : ∀ b ∈ K, b ∈ K94 := fun b hb => hin94 b (hsub b hb)
  have hcl : Bcl (AS K94 ad94 X) B := hclA.mono (AS_D hI.2.1)
  have hm_0 := hin94 _ hm_0
  have hm_1 := hin94 _ hm_1
  have hm_2 := hin94 _ hm_2
  have hm_3 := hin94 _ hm_3
  have hm_4 := hin94 _ hm_4
  have hm_5 := hin94 _ hm_5
  have hm_6 := hin94 _ hm_6
  have hm_7 := hin94 _ hm_7
  have hm_8 := hin94 _ hm_8
  have hm_9 := hin94 _ hm_9
  have hm_10 := hin94 _ hm_10
  have hm_11 := hin94 _ hm_11
  have hm_12 := hin94 _ hm_12
  have hm_13 := hin94 _ hm_13
  have hm_14 := hin94 _ hm_14
  have hn16 : 16 ∉ K94 := by rw [eK94]; exact nin_push hn16 (by decide)
  have hn17 : 17 ∉ K94 := by rw [eK94]; exact nin_push hn17 (by decide)
  have hn18 : 18 ∉ K94 := by rw [eK94]; exact nin_push hn18 (by decide)
  have hn19 : 19 ∉ K94 := by rw [eK94]; exact nin_push hn19 (by decide)
  have hn20 : 20 ∉ K94 := by rw [eK94]; exact nin_push hn20 (by decide)
  have hn21 : 21 ∉ K94 := by rw [eK94]; exact nin_push hn21 (by decide)
  have hn22 : 22 ∉ K94 := by rw [eK94]; exact nin_push hn22 (by decide)
  have hn23 : 23 ∉ K94 := by rw [eK94]; exact nin_push hn23 (by decide)
  have hn24 : 24 ∉ K94 := by rw [eK94]; exact nin_push hn24 (by decide)
  have hn25 : 25 ∉ K94 := by rw [eK94]; exact nin_push hn25 (by decide)
  have hn26 : 26 ∉ K94 := by rw [eK94]; exact nin_push hn26 (by decide)
  have hn27 : 27 ∉ K94 := by rw [eK94]; exact nin_push hn27 (by decide)
  have hn28 : 28 ∉ K94 := by rw [eK94]; exact nin_push hn28 (by decide)
  have hn29 : 29 ∉ K94 := by rw [eK94]; exact nin_push hn29 (by decide)
  have hn30 : 30 ∉ K94 := by rw [eK94]; exact nin_push hn30 (by decide)
  have hn31 : 31 ∉ K94 := by rw [eK94]; exact nin_push hn31 (by decide)
  have hn32 : 32 ∉ K94 := by rw [eK94]; exact nin_push hn32 (by decide)
  have hn33 : 33 ∉ K94 := by rw [eK94]; exact nin_push hn33 (by decide)
  have hn34 : 34 ∉ K94 := by rw [eK94]; exact nin_push hn34 (by decide)
  have hm_15 := hk94
  have hCl : Cl K94 sh := by rw [eK94]; exact hCl.push (by rw [hsh15]; decide)
  have hOR : ORf K94 O92 := hOR.mono hin94
  rw [← hr94_0] at hl
  rw [hq94, ← hr94_0]
  obtain ⟨O95, eO95, hf⟩ := bnd_i hf
  have hOR := hOR.up (k := 0) (j := 28) ((⟨hm_15, hsh15⟩ : 15 ∈ K94 ∧ _)).1
  rw [← eO95] at hOR
  refine s_putOF (ty := tyX12 28) E hnm inU12 tyX12_ok nmX12 hK hI (⟨hm_0, hsh0⟩ : 0 ∈ K94 ∧ _) rfl 28 (by decide) u4_216 (fun _ h => h) rfl rfl rfl (tyX12_ok 28 (by decide)) rfl rfl eO95 dX12_init_369 (fun H locs hI => ?_)
  refine lv_aload_n hx hb dX12_init_372 rfl (lv_at hl 0 rfl) ?_
  refine lv_bipush (v := 61) hx hb dX12_init_373 (by decide) ?_
  obtain ⟨G96, eG96, hf⟩ := bnd_i hf
  refine s_newI E u1_80 hK hI hA 16 (fr_of hCl hOR hn16) hsh16 (by decide) (by decide) (by decide) ⟨by decide, by decide⟩ dX12_init_375 (fun q H hI => ?_)
  rw [← eG96] at hI
  obtain ⟨K97, eK97⟩ : ∃ z, z = K94 ++ [16] := ⟨_, rfl⟩
  obtain ⟨ad97, ea97⟩ : ∃ z, z = adU ad94 16 q := ⟨_, rfl⟩
  rw [← eK97, ← ea97] at hI
  have hin97 : ∀ b ∈ K94, b ∈ K97 := fun b hb => by rw [eK97]; exact List.mem_append_left _ hb
  have hk97 : 16 ∈ K97 := by rw [eK97]; exact List.mem_append_right _ (List.mem_singleton.mpr rfl)
  have hq97 : q = ad97 16 := by rw [ea97]; exact adU_k.symm
  have had97 : ∀ b ∈ K94, ad97 b = ad94 b := fun b hb => by rw [ea97]; exact adU_in hb hn16
  have hr97_0 := had97 _ ((⟨hm_0, hsh0⟩ : 0 ∈ K94 ∧ _)).1
  have had : ∀ b ∈ K, ad97 b = ad b := fun b hb => (had97 b (hsub b hb)).trans (had b hb)
  have hsub : ∀ b ∈ K, b ∈ K97 := fun b hb => hin97 b (hsub b hb)
  have hcl : Bcl (AS K97 ad97 X) B := hclA.mono (AS_D hI.2.1)
  have hm_0 := hin97 _ hm_0
  have hm_1 := hin97 _ hm_1
  have hm_2 := hin97 _ hm_2
  have hm_3 := hin97 _ hm_3
  have hm_4 := hin97 _ hm_4
  have hm_5 := hin97 _ hm_5
  have hm_6 := hin97 _ hm_6
  have hm_7 := hin97 _ hm_7
  have hm_8 := hin97 _ hm_8
  have hm_9 := hin97 _ hm_9
  have hm_10 := hin97 _ hm_10
  have hm_11 := hin97 _ hm_11
  have hm_12 := hin97 _ hm_12
  have hm_13 := hin97 _ hm_13
  have hm_14 := hin97 _ hm_14
  have hm_15 := hin97 _ hm_15
  have hn17 : 17 ∉ K97 := by rw [eK97]; exact nin_push hn17 (by decide)
  have hn18 : 18 ∉ K97 := by rw [eK97]; exact nin_push hn18 (by decide)
  have hn19 : 19 ∉ K97 := by rw [eK97]; exact nin_push hn19 (by decide)
  have hn20 : 20 ∉ K97 := by rw [eK97]; exact nin_push hn20 (by decide)
  have hn21 : 21 ∉ K97 := by rw [eK97]; exact nin_push hn21 (by decide)
  have hn22 : 22 ∉ K97 := by rw [eK97]; exact nin_push hn22 (by decide)
  have hn23 : 23 ∉ K97 := by rw [eK97]; exact nin_push hn23 (by decide)
  have hn24 : 24 ∉ K97 := by rw [eK97]; exact nin_push hn24 (by decide)
  have hn25 : 25 ∉ K97 := by rw [eK97]; exact nin_push hn25 (by decide)
  have hn26 : 26 ∉ K97 := by rw [eK97]; exact nin_push hn26 (by decide)
  have hn27 : 27 ∉ K97 := by rw [eK97]; exact nin_push hn27 (by decide)
  have hn28 : 28 ∉ K97 := by rw [eK97]; exact nin_push hn28 (by decide)
  have hn29 : 29 ∉ K97 := by rw [eK97]; exact nin_push hn29 (by decide)
  have hn30 : 30 ∉ K97 := by rw [eK97]; exact nin_push hn30 (by decide)
  have hn31 : 31 ∉ K97 := by rw [eK97]; exact nin_push hn31 (by decide)
  have hn32 : 32 ∉ K97 := by rw [eK97]; exact nin_push hn32 (by decide)
  have hn33 : 33 ∉ K97 := by rw [eK97]; exact nin_push hn33 (by decide)
  have hn34 : 34 ∉ K97 := by rw [eK97]; exact nin_push hn34 (by decide)
  have hm_16 := hk97
  have hCl : Cl K97 sh := by rw [eK97]; exact hCl.push (by rw [hsh16]; decide)
  have hOR : ORf K97 O95 := hOR.mono hin97
  rw [← hr97_0] at hl
  rw [hq97, ← hr97_0]
  refine lv_dup hx hb dX12_init_377 rfl ?_
  refine lv_iconst (v := 0) hx hb dX12_init_378 (by decide) ?_
  refine lv_bipush (v := 104) hx hb dX12_init_379 (by decide) ?_
  obtain ⟨G98, eG98, hf⟩ := bnd_i hf
  refine s_ist hx hb hK hI (⟨hm_16, hsh16⟩ : 16 ∈ K97 ∧ _) (inB_i (by decide)) eG98 dX12_init_381 (fun H locs hI => ?_)
  refine lv_dup hx hb dX12_init_382 rfl ?_
  refine lv_iconst (v := 1) hx hb dX12_init_383 (by decide) ?_
  refine lv_bipush (v := 101) hx hb dX12_init_384 (by decide) ?_
  obtain ⟨G99, eG99, hf⟩ := bnd_i hf
  refine s_ist hx hb hK hI (⟨hm_16, hsh16⟩ : 16 ∈ K97 ∧ _) (inB_i (by decide)) eG99 dX12_init_386 (fun H locs hI => ?_)
  refine lv_dup hx hb dX12_init_387 rfl ?_
  refine lv_iconst (v := 2) hx hb dX12_init_388 (by decide) ?_
  refine lv_bipush (v := 108) hx hb dX12_init_389 (by decide) ?_
  obtain ⟨G100, eG100, hf⟩ := bnd_i hf
  refine s_ist hx hb hK hI (⟨hm_16, hsh16⟩ : 16 ∈ K97 ∧ _) (inB_i (by decide)) eG100 dX12_init_391 (fun H locs hI => ?_)
  refine lv_dup hx hb dX12_init_392 rfl ?_
  refine lv_iconst (v := 3) hx hb dX12_init_393 (by decide) ?_
  refine lv_bipush (v := 100) hx hb dX12_init_394 (by decide) ?_
  obtain ⟨G101, eG101, hf⟩ := bnd_i hf
  refine s_ist hx hb hK hI (⟨hm_16, hsh16⟩ : 16 ∈ K97 ∧ _) (inB_i (by decide)) eG101 dX12_init_396 (fun H locs hI => ?_)
  refine lv_dup hx hb dX12_init_397 rfl ?_
  refine lv_iconst (v := 4) hx hb dX12_init_398 (by decide) ?_
  refine lv_bipush (v := 32) hx hb dX12_init_399 (by decide) ?_
  obtain ⟨G102, eG102, hf⟩ := bnd_i hf
  refine s_ist hx hb hK hI (⟨hm_16, hsh16⟩ : 16 ∈ K97 ∧ _) (inB_i (by decide)) eG102 dX12_init_401 (fun H locs hI => ?_)
  refine lv_dup hx hb dX12_init_402 rfl ?_
  refine lv_iconst (v := 5) hx hb dX12_init_403 (by decide) ?_
  refine lv_bipush (v := 108) hx hb dX12_init_404 (by decide) ?_
  obtain ⟨G103, eG103, hf⟩ := bnd_i hf
  refine s_ist hx hb hK hI (⟨hm_16, hsh16⟩ : 16 ∈ K97 ∧ _) (inB_i (by decide)) eG103 dX12_init_406 (fun H locs hI => ?_)
  refine lv_dup hx hb dX12_init_407 rfl ?_
  refine lv_bipush (v := 6) hx hb dX12_init_408 (by decide) ?_
  refine lv_bipush (v := 111) hx hb dX12_init_410 (by decide) ?_
  obtain ⟨G104, eG104, hf⟩ := bnd_i hf
  refine s_ist hx hb hK hI (⟨hm_16, hsh16⟩ : 16 ∈ K97 ∧ _) (inB_i (by decide)) eG104 dX12_init_412 (fun H locs hI => ?_)
  refine lv_dup hx hb dX12_init_413 rfl ?_
  refine lv_bipush (v := 7) hx hb dX12_init_414 (by decide) ?_
  refine lv_bipush (v := 117) hx hb dX12_init_416 (by decide) ?_
  obtain ⟨G105, eG105, hf⟩ := bnd_i hf
  refine s_ist hx hb hK hI (⟨hm_16, hsh16⟩ : 16 ∈ K97 ∧ _) (inB_i (by decide)) eG105 dX12_init_418 (fun H locs hI => ?_)
  refine lv_dup hx hb dX12_init_419 rfl ?_
  refine lv_bipush (v := 8) hx hb dX12_init_420 (by decide) ?_
  refine lv_bipush (v := 100) hx hb dX12_init_422 (by decide) ?_
  obtain ⟨G106, eG106, hf⟩ := bnd_i hf
  refine s_ist hx hb hK hI (⟨hm_16, hsh16⟩ : 16 ∈ K97 ∧ _) (inB_i (by decide)) eG106 dX12_init_424 (fun H locs hI => ?_)
  refine lv_dup hx hb dX12_init_425 rfl ?_
  refine lv_bipush (v := 9) hx hb dX12_init_426 (by decide) ?_
  refine lv_bipush (v := 32) hx hb dX12_init_428 (by decide) ?_
  obtain ⟨G107, eG107, hf⟩ := bnd_i hf
  refine s_ist hx hb hK hI (⟨hm_16, hsh16⟩ : 16 ∈ K97 ∧ _) (inB_i (by decide)) eG107 dX12_init_430 (fun H locs hI => ?_)
  refine lv_dup hx hb dX12_init_431 rfl ?_
  refine lv_bipush (v := 10) hx hb dX12_init_432 (by decide) ?_
  refine lv_bipush (v := 115) hx hb dX12_init_434 (by decide) ?_
  obtain ⟨G108, eG108, hf⟩ := bnd_i hf
  refine s_ist hx hb hK hI (⟨hm_16, hsh16⟩ : 16 ∈ K97 ∧ _) (inB_i (by decide)) eG108 dX12_init_436 (fun H locs hI => ?_)
  refine lv_dup hx hb dX12_init_437 rfl ?_
  refine lv_bipush (v := 11) hx hb dX12_init_438 (by decide) ?_
  refine lv_bipush (v := 116) hx hb dX12_init_440 (by decide) ?_
  obtain ⟨G109, eG109, hf⟩ := bnd_i hf
  refine s_ist hx hb hK hI (⟨hm_16, hsh16⟩ : 16 ∈ K97 ∧ _) (inB_i (by decide)) eG109 dX12_init_442 (fun H locs hI => ?_)
  refine lv_dup hx hb dX12_init_443 rfl ?_
  refine lv_bipush (v := 12) hx hb dX12_init_444 (by decide) ?_
  refine lv_bipush (v := 101) hx hb dX12_init_446 (by decide) ?_
  obtain ⟨G110, eG110, hf⟩ := bnd_i hf
  refine s_ist hx hb hK hI (⟨hm_16, hsh16⟩ : 16 ∈ K97 ∧ _) (inB_i (by decide)) eG110 dX12_init_448 (fun H locs hI => ?_)
  refine lv_dup hx hb dX12_init_449 rfl ?_
  refine lv_bipush (v := 13) hx hb dX12_init_450 (by decide) ?_
  refine lv_bipush (v := 112) hx hb dX12_init_452 (by decide) ?_
  obtain ⟨G111, eG111, hf⟩ := bnd_i hf
  refine s_ist hx hb hK hI (⟨hm_16, hsh16⟩ : 16 ∈ K97 ∧ _) (inB_i (by decide)) eG111 dX12_init_454 (fun H locs hI => ?_)
  refine lv_dup hx hb dX12_init_455 rfl ?_
  refine lv_bipush (v := 14) hx hb dX12_init_456 (by decide) ?_
  refine lv_bipush (v := 32) hx hb dX12_init_458 (by decide) ?_
  obtain ⟨G112, eG112, hf⟩ := bnd_i hf
  refine s_ist hx hb hK hI (⟨hm_16, hsh16⟩ : 16 ∈ K97 ∧ _) (inB_i (by decide)) eG112 dX12_init_460 (fun H locs hI => ?_)
  refine lv_dup hx hb dX12_init_461 rfl ?_
  refine lv_bipush (v := 15) hx hb dX12_init_462 (by decide) ?_
  refine lv_bipush (v := 115) hx hb dX12_init_464 (by decide) ?_
  obtain ⟨G113, eG113, hf⟩ := bnd_i hf
  refine s_ist hx hb hK hI (⟨hm_16, hsh16⟩ : 16 ∈ K97 ∧ _) (inB_i (by decide)) eG113 dX12_init_466 (fun H locs hI => ?_)
  refine lv_dup hx hb dX12_init_467 rfl ?_
  refine lv_bipush (v := 16) hx hb dX12_init_468 (by decide) ?_
  refine lv_bipush (v := 105) hx hb dX12_init_470 (by decide) ?_
  obtain ⟨G114, eG114, hf⟩ := bnd_i hf
  refine s_ist hx hb hK hI (⟨hm_16, hsh16⟩ : 16 ∈ K97 ∧ _) (inB_i (by decide)) eG114 dX12_init_472 (fun H locs hI => ?_)
  refine lv_dup hx hb dX12_init_473 rfl ?_
  refine lv_bipush (v := 17) hx hb dX12_init_474 (by decide) ?_
  refine lv_bipush (v := 110) hx hb dX12_init_476 (by decide) ?_
  obtain ⟨G115, eG115, hf⟩ := bnd_i hf
  refine s_ist hx hb hK hI (⟨hm_16, hsh16⟩ : 16 ∈ K97 ∧ _) (inB_i (by decide)) eG115 dX12_init_478 (fun H locs hI => ?_)
  refine lv_dup hx hb dX12_init_479 rfl ?_
  refine lv_bipush (v := 18) hx hb dX12_init_480 (by decide) ?_
  refine lv_bipush (v := 103) hx hb dX12_init_482 (by decide) ?_
  obtain ⟨G116, eG116, hf⟩ := bnd_i hf
  refine s_ist hx hb hK hI (⟨hm_16, hsh16⟩ : 16 ∈ K97 ∧ _) (inB_i (by decide)) eG116 dX12_init_484 (fun H locs hI => ?_)
  refine lv_dup hx hb dX12_init_485 rfl ?_
  refine lv_bipush (v := 19) hx hb dX12_init_486 (by decide) ?_
  refine lv_bipush (v := 105) hx hb dX12_init_488 (by decide) ?_
  obtain ⟨G117, eG117, hf⟩ := bnd_i hf
  refine s_ist hx hb hK hI (⟨hm_16, hsh16⟩ : 16 ∈ K97 ∧ _) (inB_i (by decide)) eG117 dX12_init_490 (fun H locs hI => ?_)
  refine lv_dup hx hb dX12_init_491 rfl ?_
  refine lv_bipush (v := 20) hx hb dX12_init_492 (by decide) ?_
  refine lv_bipush (v := 110) hx hb dX12_init_494 (by decide) ?_
  obtain ⟨G118, eG118, hf⟩ := bnd_i hf
  refine s_ist hx hb hK hI (⟨hm_16, hsh16⟩ : 16 ∈ K97 ∧ _) (inB_i (by decide)) eG118 dX12_init_496 (fun H locs hI => ?_)
  refine lv_dup hx hb dX12_init_497 rfl ?_
  refine lv_bipush (v := 21) hx hb dX12_init_498 (by decide) ?_
  refine lv_bipush (v := 103) hx hb dX12_init_500 (by decide) ?_
  obtain ⟨G119, eG119, hf⟩ := bnd_i hf
  refine s_ist hx hb hK hI (⟨hm_16, hsh16⟩ : 16 ∈ K97 ∧ _) (inB_i (by decide)) eG119 dX12_init_502 (fun H locs hI => ?_)
  refine lv_dup hx hb dX12_init_503 rfl ?_
  refine lv_bipush (v := 22) hx hb dX12_init_504 (by decide) ?_
  refine lv_bipush (v := 32) hx hb dX12_init_506 (by decide) ?_
  obtain ⟨G120, eG120, hf⟩ := bnd_i hf
  refine s_ist hx hb hK hI (⟨hm_16, hsh16⟩ : 16 ∈ K97 ∧ _) (inB_i (by decide)) eG120 dX12_init_508 (fun H locs hI => ?_)
  refine lv_dup hx hb dX12_init_509 rfl ?_
  refine lv_bipush (v := 23) hx hb dX12_init_510 (by decide) ?_
  refine lv_bipush (v := 98) hx hb dX12_init_512 (by decide) ?_
  obtain ⟨G121, eG121, hf⟩ := bnd_i hf
  refine s_ist hx hb hK hI (⟨hm_16, hsh16⟩ : 16 ∈ K97 ∧ _) (inB_i (by decide)) eG121 dX12_init_514 (fun H locs hI => ?_)
  refine lv_dup hx hb dX12_init_515 rfl ?_
  refine lv_bipush (v := 24) hx hb dX12_init_516 (by decide) ?_
  refine lv_bipush (v := 101) hx hb dX12_init_518 (by decide) ?_
  obtain ⟨G122, eG122, hf⟩ := bnd_i hf
  refine s_ist hx hb hK hI (⟨hm_16, hsh16⟩ : 16 ∈ K97 ∧ _) (inB_i (by decide)) eG122 dX12_init_520 (fun H locs hI => ?_)
  refine lv_dup hx hb dX12_init_521 rfl ?_
  refine lv_bipush (v := 25) hx hb dX12_init_522 (by decide) ?_
  refine lv_bipush (v := 115) hx hb dX12_init_524 (by decide) ?_
  obtain ⟨G123, eG123, hf⟩ := bnd_i hf
  refine s_ist hx hb hK hI (⟨hm_16, hsh16⟩ : 16 ∈ K97 ∧ _) (inB_i (by decide)) eG123 dX12_init_526 (fun H locs hI => ?_)
  refine lv_dup hx hb dX12_init_527 rfl ?_
  refine lv_bipush (v := 26) hx hb dX12_init_528 (by decide) ?_
  refine lv_bipush (v := 105) hx hb dX12_init_530 (by decide) ?_
  obtain ⟨G124, eG124, hf⟩ := bnd_i hf
  refine s_ist hx hb hK hI (⟨hm_16, hsh16⟩ : 16 ∈ K97 ∧ _) (inB_i (by decide)) eG124 dX12_init_532 (fun H locs hI => ?_)
  refine lv_dup hx hb dX12_init_533 rfl ?_
  refine lv_bipush (v := 27) hx hb dX12_init_534 (by decide) ?_
  refine lv_bipush (v := 100) hx hb dX12_init_536 (by decide) ?_
  obtain ⟨G125, eG125, hf⟩ := bnd_i hf
  refine s_ist hx hb hK hI (⟨hm_16, hsh16⟩ : 16 ∈ K97 ∧ _) (inB_i (by decide)) eG125 dX12_init_538 (fun H locs hI => ?_)
  refine lv_dup hx hb dX12_init_539 rfl ?_
  refine lv_bipush (v := 28) hx hb dX12_init_540 (by decide) ?_
  refine lv_bipush (v := 101) hx hb dX12_init_542 (by decide) ?_
  obtain ⟨G126, eG126, hf⟩ := bnd_i hf
  refine s_ist hx hb hK hI (⟨hm_16, hsh16⟩ : 16 ∈ K97 ∧ _) (inB_i (by decide)) eG126 dX12_init_544 (fun H locs hI => ?_)
  refine lv_dup hx hb dX12_init_545 rfl ?_
  refine lv_bipush (v := 29) hx hb dX12_init_546 (by decide) ?_
  refine lv_bipush (v := 32) hx hb dX12_init_548 (by decide) ?_
  obtain ⟨G127, eG127, hf⟩ := bnd_i hf
  refine s_ist hx hb hK hI (⟨hm_16, hsh16⟩ : 16 ∈ K97 ∧ _) (inB_i (by decide)) eG127 dX12_init_550 (fun H locs hI => ?_)
  refine lv_dup hx hb dX12_init_551 rfl ?_
  refine lv_bipush (v := 30) hx hb dX12_init_552 (by decide) ?_
  refine lv_bipush (v := 116) hx hb dX12_init_554 (by decide) ?_
  obtain ⟨G128, eG128, hf⟩ := bnd_i hf
  refine s_ist hx hb hK hI (⟨hm_16, hsh16⟩ : 16 ∈ K97 ∧ _) (inB_i (by decide)) eG128 dX12_init_556 (fun H locs hI => ?_)
  refine lv_dup hx hb dX12_init_557 rfl ?_
  refine lv_bipush (v := 31) hx hb dX12_init_558 (by decide) ?_
  refine lv_bipush (v := 105) hx hb dX12_init_560 (by decide) ?_
  obtain ⟨G129, eG129, hf⟩ := bnd_i hf
  refine s_ist hx hb hK hI (⟨hm_16, hsh16⟩ : 16 ∈ K97 ∧ _) (inB_i (by decide)) eG129 dX12_init_562 (fun H locs hI => ?_)
  refine lv_dup hx hb dX12_init_563 rfl ?_
  refine lv_bipush (v := 32) hx hb dX12_init_564 (by decide) ?_
  refine lv_bipush (v := 114) hx hb dX12_init_566 (by decide) ?_
  obtain ⟨G130, eG130, hf⟩ := bnd_i hf
  refine s_ist hx hb hK hI (⟨hm_16, hsh16⟩ : 16 ∈ K97 ∧ _) (inB_i (by decide)) eG130 dX12_init_568 (fun H locs hI => ?_)
  refine lv_dup hx hb dX12_init_569 rfl ?_
  refine lv_bipush (v := 33) hx hb dX12_init_570 (by decide) ?_
  refine lv_bipush (v := 101) hx hb dX12_init_572 (by decide) ?_
  obtain ⟨G131, eG131, hf⟩ := bnd_i hf
  refine s_ist hx hb hK hI (⟨hm_16, hsh16⟩ : 16 ∈ K97 ∧ _) (inB_i (by decide)) eG131 dX12_init_574 (fun H locs hI => ?_)
  refine lv_dup hx hb dX12_init_575 rfl ?_
  refine lv_bipush (v := 34) hx hb dX12_init_576 (by decide) ?_
  refine lv_bipush (v := 100) hx hb dX12_init_578 (by decide) ?_
  obtain ⟨G132, eG132, hf⟩ := bnd_i hf
  refine s_ist hx hb hK hI (⟨hm_16, hsh16⟩ : 16 ∈ K97 ∧ _) (inB_i (by decide)) eG132 dX12_init_580 (fun H locs hI => ?_)
  refine lv_dup hx hb dX12_init_581 rfl ?_
  refine lv_bipush (v := 35) hx hb dX12_init_582 (by decide) ?_
  refine lv_bipush (v := 32) hx hb dX12_init_584 (by decide) ?_
  obtain ⟨G133, eG133, hf⟩ := bnd_i hf
  refine s_ist hx hb hK hI (⟨hm_16, hsh16⟩ : 16 ∈ K97 ∧ _) (inB_i (by decide)) eG133 dX12_init_586 (fun H locs hI => ?_)
  refine lv_dup hx hb dX12_init_587 rfl ?_
  refine lv_bipush (v := 36) hx hb dX12_init_588 (by decide) ?_
  refine lv_bipush (v := 109) hx hb dX12_init_590 (by decide) ?_
  obtain ⟨G134, eG134, hf⟩ := bnd_i hf
  refine s_ist hx hb hK hI (⟨hm_16, hsh16⟩ : 16 ∈ K97 ∧ _) (inB_i (by decide)) eG134 dX12_init_592 (fun H locs hI => ?_)
  refine lv_dup hx hb dX12_init_593 rfl ?_
  refine lv_bipush (v := 37) hx hb dX12_init_594 (by decide) ?_
  refine lv_bipush (v := 117) hx hb dX12_init_596 (by decide) ?_
  obtain ⟨G135, eG135, hf⟩ := bnd_i hf
  refine s_ist hx hb hK hI (⟨hm_16, hsh16⟩ : 16 ∈ K97 ∧ _) (inB_i (by decide)) eG135 dX12_init_598 (fun H locs hI => ?_)
  refine lv_dup hx hb dX12_init_599 rfl ?_
  refine lv_bipush (v := 38) hx hb dX12_init_600 (by decide) ?_
  refine lv_bipush (v := 115) hx hb dX12_init_602 (by decide) ?_
  obtain ⟨G136, eG136, hf⟩ := bnd_i hf
  refine s_ist hx hb hK hI (⟨hm_16, hsh16⟩ : 16 ∈ K97 ∧ _) (inB_i (by decide)) eG136 dX12_init_604 (fun H locs hI => ?_)
  refine lv_dup hx hb dX12_init_605 rfl ?_
  refine lv_bipush (v := 39) hx hb dX12_init_606 (by decide) ?_
  refine lv_bipush (v := 116) hx hb dX12_init_608 (by decide) ?_
  obtain ⟨G137, eG137, hf⟩ := bnd_i hf
  refine s_ist hx hb hK hI (⟨hm_16, hsh16⟩ : 16 ∈ K97 ∧ _) (inB_i (by decide)) eG137 dX12_init_610 (fun H locs hI => ?_)
  refine lv_dup hx hb dX12_init_611 rfl ?_
  refine lv_bipush (v := 40) hx hb dX12_init_612 (by decide) ?_
  refine lv_bipush (v := 32) hx hb dX12_init_614 (by decide) ?_
  obtain ⟨G138, eG138, hf⟩ := bnd_i hf
  refine s_ist hx hb hK hI (⟨hm_16, hsh16⟩ : 16 ∈ K97 ∧ _) (inB_i (by decide)) eG138 dX12_init_616 (fun H locs hI => ?_)
  refine lv_dup hx hb dX12_init_617 rfl ?_
  refine lv_bipush (v := 41) hx hb dX12_init_618 (by decide) ?_
  refine lv_bipush (v := 109) hx hb dX12_init_620 (by decide) ?_
  obtain ⟨G139, eG139, hf⟩ := bnd_i hf
  refine s_ist hx hb hK hI (⟨hm_16, hsh16⟩ : 16 ∈ K97 ∧ _) (inB_i (by decide)) eG139 dX12_init_622 (fun H locs hI => ?_)
  refine lv_dup hx hb dX12_init_623 rfl ?_
  refine lv_bipush (v := 42) hx hb dX12_init_624 (by decide) ?_
  refine lv_bipush (v := 97) hx hb dX12_init_626 (by decide) ?_
  obtain ⟨G140, eG140, hf⟩ := bnd_i hf
  refine s_ist hx hb hK hI (⟨hm_16, hsh16⟩ : 16 ∈ K97 ∧ _) (inB_i (by decide)) eG140 dX12_init_628 (fun H locs hI => ?_)
  refine lv_dup hx hb dX12_init_629 rfl ?_
  refine lv_bipush (v := 43) hx hb dX12_init_630 (by decide) ?_
  refine lv_bipush (v := 121) hx hb dX12_init_632 (by decide) ?_
  obtain ⟨G141, eG141, hf⟩ := bnd_i hf
  refine s_ist hx hb hK hI (⟨hm_16, hsh16⟩ : 16 ∈ K97 ∧ _) (inB_i (by decide)) eG141 dX12_init_634 (fun H locs hI => ?_)
  refine lv_dup hx hb dX12_init_635 rfl ?_
  refine lv_bipush (v := 44) hx hb dX12_init_636 (by decide) ?_
  refine lv_bipush (v := 32) hx hb dX12_init_638 (by decide) ?_
  obtain ⟨G142, eG142, hf⟩ := bnd_i hf
  refine s_ist hx hb hK hI (⟨hm_16, hsh16⟩ : 16 ∈ K97 ∧ _) (inB_i (by decide)) eG142 dX12_init_640 (fun H locs hI => ?_)
  refine lv_dup hx hb dX12_init_641 rfl ?_
  refine lv_bipush (v := 45) hx hb dX12_init_642 (by decide) ?_
  refine lv_bipush (v := 116) hx hb dX12_init_644 (by decide) ?_
  obtain ⟨G143, eG143, hf⟩ := bnd_i hf
  refine s_ist hx hb hK hI (⟨hm_16, hsh16⟩ : 16 ∈ K97 ∧ _) (inB_i (by decide)) eG143 dX12_init_646 (fun H locs hI => ?_)
  refine lv_dup hx hb dX12_init_647 rfl ?_
  refine lv_bipush (v := 46) hx hb dX12_init_648 (by decide) ?_
  refine lv_bipush (v := 104) hx hb dX12_init_650 (by decide) ?_
  obtain ⟨G144, eG144, hf⟩ := bnd_i hf
  refine s_ist hx hb hK hI (⟨hm_16, hsh16⟩ : 16 ∈ K97 ∧ _) (inB_i (by decide)) eG144 dX12_init_652 (fun H locs hI => ?_)
  refine lv_dup hx hb dX12_init_653 rfl ?_
  refine lv_bipush (v := 47) hx hb dX12_init_654 (by decide) ?_
  refine lv_bipush (v := 105) hx hb dX12_init_656 (by decide) ?_
  obtain ⟨G145, eG145, hf⟩ := bnd_i hf
  refine s_ist hx hb hK hI (⟨hm_16, hsh16⟩ : 16 ∈ K97 ∧ _) (inB_i (by decide)) eG145 dX12_init_658 (fun H locs hI => ?_)
  refine lv_dup hx hb dX12_init_659 rfl ?_
  refine lv_bipush (v := 48) hx hb dX12_init_660 (by decide) ?_
  refine lv_bipush (v := 110) hx hb dX12_init_662 (by decide) ?_
  obtain ⟨G146, eG146, hf⟩ := bnd_i hf
  refine s_ist hx hb hK hI (⟨hm_16, hsh16⟩ : 16 ∈ K97 ∧ _) (inB_i (by decide)) eG146 dX12_init_664 (fun H locs hI => ?_)
  refine lv_dup hx hb dX12_init_665 rfl ?_
  refine lv_bipush (v := 49) hx hb dX12_init_666 (by decide) ?_
  refine lv_bipush (v := 32) hx hb dX12_init_668 (by decide) ?_
  obtain ⟨G147, eG147, hf⟩ := bnd_i hf
  refine s_ist hx hb hK hI (⟨hm_16, hsh16⟩ : 16 ∈ K97 ∧ _) (inB_i (by decide)) eG147 dX12_init_670 (fun H locs hI => ?_)
  refine lv_dup hx hb dX12_init_671 rfl ?_
  refine lv_bipush (v := 50) hx hb dX12_init_672 (by decide) ?_
  refine lv_bipush (v := 111) hx hb dX12_init_674 (by decide) ?_
  obtain ⟨G148, eG148, hf⟩ := bnd_i hf
  refine s_ist hx hb hK hI (⟨hm_16, hsh16⟩ : 16 ∈ K97 ∧ _) (inB_i (by decide)) eG148 dX12_init_676 (fun H locs hI => ?_)
  refine lv_dup hx hb dX12_init_677 rfl ?_
  refine lv_bipush (v := 51) hx hb dX12_init_678 (by decide) ?_
  refine lv_bipush (v := 114) hx hb dX12_init_680 (by decide) ?_
  obtain ⟨G149, eG149, hf⟩ := bnd_i hf
  refine s_ist hx hb hK hI (⟨hm_16, hsh16⟩ : 16 ∈ K97 ∧ _) (inB_i (by decide)) eG149 dX12_init_682 (fun H locs hI => ?_)
  refine lv_dup hx hb dX12_init_683 rfl ?_
  refine lv_bipush (v := 52) hx hb dX12_init_684 (by decide) ?_
  refine lv_bipush (v := 32) hx hb dX12_init_686 (by decide) ?_
  obtain ⟨G150, eG150, hf⟩ := bnd_i hf
  refine s_ist hx hb hK hI (⟨hm_16, hsh16⟩ : 16 ∈ K97 ∧ _) (inB_i (by decide)) eG150 dX12_init_688 (fun H locs hI => ?_)
  refine lv_dup hx hb dX12_init_689 rfl ?_
  refine lv_bipush (v := 53) hx hb dX12_init_690 (by decide) ?_
  refine lv_bipush (v := 97) hx hb dX12_init_692 (by decide) ?_
  obtain ⟨G151, eG151, hf⟩ := bnd_i hf
  refine s_ist hx hb hK hI (⟨hm_16, hsh16⟩ : 16 ∈ K97 ∧ _) (inB_i (by decide)) eG151 dX12_init_694 (fun H locs hI => ?_)
  refine lv_dup hx hb dX12_init_695 rfl ?_
  refine lv_bipush (v := 54) hx hb dX12_init_696 (by decide) ?_
  refine lv_bipush (v := 110) hx hb dX12_init_698 (by decide) ?_
  obtain ⟨G152, eG152, hf⟩ := bnd_i hf
  refine s_ist hx hb hK hI (⟨hm_16, hsh16⟩ : 16 ∈ K97 ∧ _) (inB_i (by decide)) eG152 dX12_init_700 (fun H locs hI => ?_)
  refine lv_dup hx hb dX12_init_701 rfl ?_
  refine lv_bipush (v := 55) hx hb dX12_init_702 (by decide) ?_
  refine lv_bipush (v := 100) hx hb dX12_init_704 (by decide) ?_
  obtain ⟨G153, eG153, hf⟩ := bnd_i hf
  refine s_ist hx hb hK hI (⟨hm_16, hsh16⟩ : 16 ∈ K97 ∧ _) (inB_i (by decide)) eG153 dX12_init_706 (fun H locs hI => ?_)
  refine lv_dup hx hb dX12_init_707 rfl ?_
  refine lv_bipush (v := 56) hx hb dX12_init_708 (by decide) ?_
  refine lv_bipush (v := 32) hx hb dX12_init_710 (by decide) ?_
  obtain ⟨G154, eG154, hf⟩ := bnd_i hf
  refine s_ist hx hb hK hI (⟨hm_16, hsh16⟩ : 16 ∈ K97 ∧ _) (inB_i (by decide)) eG154 dX12_init_712 (fun H locs hI => ?_)
  refine lv_dup hx hb dX12_init_713 rfl ?_
  refine lv_bipush (v := 57) hx hb dX12_init_714 (by decide) ?_
  refine lv_bipush (v := 110) hx hb dX12_init_716 (by decide) ?_
  obtain ⟨G155, eG155, hf⟩ := bnd_i hf
  refine s_ist hx hb hK hI (⟨hm_16, hsh16⟩ : 16 ∈ K97 ∧ _) (inB_i (by decide)) eG155 dX12_init_718 (fun H locs hI => ?_)
  refine lv_dup hx hb dX12_init_719 rfl ?_
  refine lv_bipush (v := 58) hx hb dX12_init_720 (by decide) ?_
  refine lv_bipush (v := 111) hx hb dX12_init_722 (by decide) ?_
  obtain ⟨G156, eG156, hf⟩ := bnd_i hf
  refine s_ist hx hb hK hI (⟨hm_16, hsh16⟩ : 16 ∈ K97 ∧ _) (inB_i (by decide)) eG156 dX12_init_724 (fun H locs hI => ?_)
  refine lv_dup hx hb dX12_init_725 rfl ?_
  refine lv_bipush (v := 59) hx hb dX12_init_726 (by decide) ?_
  refine lv_bipush (v := 116) hx hb dX12_init_728 (by decide) ?_
  obtain ⟨G157, eG157, hf⟩ := bnd_i hf
  refine s_ist hx hb hK hI (⟨hm_16, hsh16⟩ : 16 ∈ K97 ∧ _) (inB_i (by decide)) eG157 dX12_init_730 (fun H locs hI => ?_)
  refine lv_dup hx hb dX12_init_731 rfl ?_
  refine lv_bipush (v := 60) hx hb dX12_init_732 (by decide) ?_
  refine lv_bipush (v := 32) hx hb dX12_init_734 (by decide) ?_
  obtain ⟨G158, eG158, hf⟩ := bnd_i hf
  refine s_ist hx hb hK hI (⟨hm_16, hsh16⟩ : 16 ∈ K97 ∧ _) (inB_i (by decide)) eG158 dX12_init_736 (fun H locs hI => ?_)
  obtain ⟨O159, eO159, hf⟩ := bnd_i hf
  have hOR := hOR.up (k := 0) (j := 29) ((⟨hm_16, hsh16⟩ : 16 ∈ K97 ∧ _)).1
  rw [← eO159] at hOR
  refine s_putOF (ty := tyX12 29) E hnm inU12 tyX12_ok nmX12 hK hI (⟨hm_0, hsh0⟩ : 0 ∈ K97 ∧ _) rfl 29 (by decide) u4_217 (fun _ h => h) rfl rfl rfl (tyX12_ok 29 (by decide)) rfl rfl eO159 dX12_init_737 (fun H locs hI => ?_)
  refine lv_aload_n hx hb dX12_init_740 rfl (lv_at hl 0 rfl) ?_
  refine lv_bipush (v := 12) hx hb dX12_init_741 (by decide) ?_
  obtain ⟨G160, eG160, hf⟩ := bnd_i hf
  refine s_newI E u1_80 hK hI hA 17 (fr_of hCl hOR hn17) hsh17 (by decide) (by decide) (by decide) ⟨by decide, by decide⟩ dX12_init_743 (fun q H hI => ?_)
  rw [← eG160] at hI
  obtain ⟨K161, eK161⟩ : ∃ z, z = K97 ++ [17] := ⟨_, rfl⟩
  obtain ⟨ad161, ea161⟩ : ∃ z, z = adU ad97 17 q := ⟨_, rfl⟩
  rw [← eK161, ← ea161] at hI
  have hin161 : ∀ b ∈ K97, b ∈ K161 := fun b hb => by rw [eK161]; exact List.mem_append_left _ hb
  have hk161 : 17 ∈ K161 := by rw [eK161]; exact List.mem_append_right _ (List.mem_singleton.mpr rfl)
  have hq161 : q = ad161 17 := by rw [ea161]; exact adU_k.symm
  have had161 : ∀ b ∈ K97, ad161 b = ad97 b := fun b hb => by rw [ea161]; exact adU_in hb hn17
  have hr161_0 := had161 _ ((⟨hm_0, hsh0⟩ : 0 ∈ K97 ∧ _)).1
  have had : ∀ b ∈ K, ad161 b = ad b := fun b hb => (had161 b (hsub b hb)).trans (had b hb)
  have hsub : ∀ b ∈ K, b ∈ K161 := fun b hb => hin161 b (hsub b hb)
  have hcl : Bcl (AS K161 ad161 X) B := hclA.mono (AS_D hI.2.1)
  have hm_0 := hin161 _ hm_0
  have hm_1 := hin161 _ hm_1
  have hm_2 := hin161 _ hm_2
  have hm_3 := hin161 _ hm_3
  have hm_4 := hin161 _ hm_4
  have hm_5 := hin161 _ hm_5
  have hm_6 := hin161 _ hm_6
  have hm_7 := hin161 _ hm_7
  have hm_8 := hin161 _ hm_8
  have hm_9 := hin161 _ hm_9
  have hm_10 := hin161 _ hm_10
  have hm_11 := hin161 _ hm_11
  have hm_12 := hin161 _ hm_12
  have hm_13 := hin161 _ hm_13
  have hm_14 := hin161 _ hm_14
  have hm_15 := hin161 _ hm_15
  have hm_16 := hin161 _ hm_16
  have hn18 : 18 ∉ K161 := by rw [eK161]; exact nin_push hn18 (by decide)
  have hn19 : 19 ∉ K161 := by rw [eK161]; exact nin_push hn19 (by decide)
  have hn20 : 20 ∉ K161 := by rw [eK161]; exact nin_push hn20 (by decide)
  have hn21 : 21 ∉ K161 := by rw [eK161]; exact nin_push hn21 (by decide)
  have hn22 : 22 ∉ K161 := by rw [eK161]; exact nin_push hn22 (by decide)
  have hn23 : 23 ∉ K161 := by rw [eK161]; exact nin_push hn23 (by decide)
  have hn24 : 24 ∉ K161 := by rw [eK161]; exact nin_push hn24 (by decide)
  have hn25 : 25 ∉ K161 := by rw [eK161]; exact nin_push hn25 (by decide)
  have hn26 : 26 ∉ K161 := by rw [eK161]; exact nin_push hn26 (by decide)
  have hn27 : 27 ∉ K161 := by rw [eK161]; exact nin_push hn27 (by decide)
  have hn28 : 28 ∉ K161 := by rw [eK161]; exact nin_push hn28 (by decide)
  have hn29 : 29 ∉ K161 := by rw [eK161]; exact nin_push hn29 (by decide)
  have hn30 : 30 ∉ K161 := by rw [eK161]; exact nin_push hn30 (by decide)
  have hn31 : 31 ∉ K161 := by rw [eK161]; exact nin_push hn31 (by decide)
  have hn32 : 32 ∉ K161 := by rw [eK161]; exact nin_push hn32 (by decide)
  have hn33 : 33 ∉ K161 := by rw [eK161]; exact nin_push hn33 (by decide)
  have hn34 : 34 ∉ K161 := by rw [eK161]; exact nin_push hn34 (by decide)
  have hm_17 := hk161
  have hCl : Cl K161 sh := by rw [eK161]; exact hCl.push (by rw [hsh17]; decide)
  have hOR : ORf K161 O159 := hOR.mono hin161
  rw [← hr161_0] at hl
  rw [hq161, ← hr161_0]
  refine lv_dup hx hb dX12_init_745 rfl ?_
  refine lv_iconst (v := 0) hx hb dX12_init_746 (by decide) ?_
  refine lv_iconst (v := 0) hx hb dX12_init_747 (by decide) ?_
  obtain ⟨G162, eG162, hf⟩ := bnd_i hf
  refine s_ist hx hb hK hI (⟨hm_17, hsh17⟩ : 17 ∈ K161 ∧ _) (inB_i (by decide)) eG162 dX12_init_748 (fun H locs hI => ?_)
  refine lv_dup hx hb dX12_init_749 rfl ?_
  refine lv_iconst (v := 1) hx hb dX12_init_750 (by decide) ?_
  refine lv_iconst (v := 1) hx hb dX12_init_751 (by decide) ?_
  obtain ⟨G163, eG163, hf⟩ := bnd_i hf
  refine s_ist hx hb hK hI (⟨hm_17, hsh17⟩ : 17 ∈ K161 ∧ _) (inB_i (by decide)) eG163 dX12_init_752 (fun H locs hI => ?_)
  refine lv_dup hx hb dX12_init_753 rfl ?_
  refine lv_iconst (v := 2) hx hb dX12_init_754 (by decide) ?_
  refine lv_iconst (v := 2) hx hb dX12_init_755 (by decide) ?_
  obtain ⟨G164, eG164, hf⟩ := bnd_i hf
  refine s_ist hx hb hK hI (⟨hm_17, hsh17⟩ : 17 ∈ K161 ∧ _) (inB_i (by decide)) eG164 dX12_init_756 (fun H locs hI => ?_)
  refine lv_dup hx hb dX12_init_757 rfl ?_
  refine lv_iconst (v := 3) hx hb dX12_init_758 (by decide) ?_
  refine lv_iconst (v := 3) hx hb dX12_init_759 (by decide) ?_
  obtain ⟨G165, eG165, hf⟩ := bnd_i hf
  refine s_ist hx hb hK hI (⟨hm_17, hsh17⟩ : 17 ∈ K161 ∧ _) (inB_i (by decide)) eG165 dX12_init_760 (fun H locs hI => ?_)
  refine lv_dup hx hb dX12_init_761 rfl ?_
  refine lv_iconst (v := 4) hx hb dX12_init_762 (by decide) ?_
  refine lv_iconst (v := 4) hx hb dX12_init_763 (by decide) ?_
  obtain ⟨G166, eG166, hf⟩ := bnd_i hf
  refine s_ist hx hb hK hI (⟨hm_17, hsh17⟩ : 17 ∈ K161 ∧ _) (inB_i (by decide)) eG166 dX12_init_764 (fun H locs hI => ?_)
  refine lv_dup hx hb dX12_init_765 rfl ?_
  refine lv_iconst (v := 5) hx hb dX12_init_766 (by decide) ?_
  refine lv_iconst (v := 5) hx hb dX12_init_767 (by decide) ?_
  obtain ⟨G167, eG167, hf⟩ := bnd_i hf
  refine s_ist hx hb hK hI (⟨hm_17, hsh17⟩ : 17 ∈ K161 ∧ _) (inB_i (by decide)) eG167 dX12_init_768 (fun H locs hI => ?_)
  refine lv_dup hx hb dX12_init_769 rfl ?_
  refine lv_bipush (v := 6) hx hb dX12_init_770 (by decide) ?_
  refine lv_bipush (v := 10) hx hb dX12_init_772 (by decide) ?_
  obtain ⟨G168, eG168, hf⟩ := bnd_i hf
  refine s_ist hx hb hK hI (⟨hm_17, hsh17⟩ : 17 ∈ K161 ∧ _) (inB_i (by decide)) eG168 dX12_init_774 (fun H locs hI => ?_)
  refine lv_dup hx hb dX12_init_775 rfl ?_
  refine lv_bipush (v := 7) hx hb dX12_init_776 (by decide) ?_
  refine lv_bipush (v := 11) hx hb dX12_init_778 (by decide) ?_
  obtain ⟨G169, eG169, hf⟩ := bnd_i hf
  refine s_ist hx hb hK hI (⟨hm_17, hsh17⟩ : 17 ∈ K161 ∧ _) (inB_i (by decide)) eG169 dX12_init_780 (fun H locs hI => ?_)
  refine lv_dup hx hb dX12_init_781 rfl ?_
  refine lv_bipush (v := 8) hx hb dX12_init_782 (by decide) ?_
  refine lv_bipush (v := 12) hx hb dX12_init_784 (by decide) ?_
  obtain ⟨G170, eG170, hf⟩ := bnd_i hf
  refine s_ist hx hb hK hI (⟨hm_17, hsh17⟩ : 17 ∈ K161 ∧ _) (inB_i (by decide)) eG170 dX12_init_786 (fun H locs hI => ?_)
  refine lv_dup hx hb dX12_init_787 rfl ?_
  refine lv_bipush (v := 9) hx hb dX12_init_788 (by decide) ?_
  refine lv_bipush (v := 13) hx hb dX12_init_790 (by decide) ?_
  obtain ⟨G171, eG171, hf⟩ := bnd_i hf
  refine s_ist hx hb hK hI (⟨hm_17, hsh17⟩ : 17 ∈ K161 ∧ _) (inB_i (by decide)) eG171 dX12_init_792 (fun H locs hI => ?_)
  refine lv_dup hx hb dX12_init_793 rfl ?_
  refine lv_bipush (v := 10) hx hb dX12_init_794 (by decide) ?_
  refine lv_bipush (v := 14) hx hb dX12_init_796 (by decide) ?_
  obtain ⟨G172, eG172, hf⟩ := bnd_i hf
  refine s_ist hx hb hK hI (⟨hm_17, hsh17⟩ : 17 ∈ K161 ∧ _) (inB_i (by decide)) eG172 dX12_init_798 (fun H locs hI => ?_)
  refine lv_dup hx hb dX12_init_799 rfl ?_
  refine lv_bipush (v := 11) hx hb dX12_init_800 (by decide) ?_
  refine lv_bipush (v := 15) hx hb dX12_init_802 (by decide) ?_
  obtain ⟨G173, eG173, hf⟩ := bnd_i hf
  refine s_ist hx hb hK hI (⟨hm_17, hsh17⟩ : 17 ∈ K161 ∧ _) (inB_i (by decide)) eG173 dX12_init_804 (fun H locs hI => ?_)
  obtain ⟨O174, eO174, hf⟩ := bnd_i hf
  have hOR := hOR.up (k := 0) (j := 30) ((⟨hm_17, hsh17⟩ : 17 ∈ K161 ∧ _)).1
  rw [← eO174] at hOR
  refine s_putOF (ty := tyX12 30) E hnm inU12 tyX12_ok nmX12 hK hI (⟨hm_0, hsh0⟩ : 0 ∈ K161 ∧ _) rfl 30 (by decide) u4_218 (fun _ h => h) rfl rfl rfl (tyX12_ok 30 (by decide)) rfl rfl eO174 dX12_init_805 (fun H locs hI => ?_)
  refine lv_aload_n hx hb dX12_init_808 rfl (lv_at hl 0 rfl) ?_
  refine lv_bipush (v := 10) hx hb dX12_init_809 (by decide) ?_
  obtain ⟨G175, eG175, hf⟩ := bnd_i hf
  refine s_newI E u1_80 hK hI hA 18 (fr_of hCl hOR hn18) hsh18 (by decide) (by decide) (by decide) ⟨by decide, by decide⟩ dX12_init_811 (fun q H hI => ?_)
  rw [← eG175] at hI
  obtain ⟨K176, eK176⟩ : ∃ z, z = K161 ++ [18] := ⟨_, rfl⟩
  obtain ⟨ad176, ea176⟩ : ∃ z, z = adU ad161 18 q := ⟨_, rfl⟩
  rw [← eK176, ← ea176] at hI
  have hin176 : ∀ b ∈ K161, b ∈ K176 := fun b hb => by rw [eK176]; exact List.mem_append_left _ hb
  have hk176 : 18 ∈ K176 := by rw [eK176]; exact List.mem_append_right _ (List.mem_singleton.mpr rfl)
  have hq176 : q = ad176 18 := by rw [ea176]; exact adU_k.symm
  have had176 : ∀ b ∈ K161, ad176 b = ad161 b := fun b hb => by rw [ea176]; exact adU_in hb hn18
  have hr176_0 := had176 _ ((⟨hm_0, hsh0⟩ : 0 ∈ K161 ∧ _)).1
  have had : ∀ b ∈ K, ad176 b = ad b := fun b hb => (had176 b (hsub b hb)).trans (had b hb)
  have hsub : ∀ b ∈ K, b ∈ K176 := fun b hb => hin176 b (hsub b hb)
  have hcl : Bcl (AS K176 ad176 X) B := hclA.mono (AS_D hI.2.1)
  have hm_0 := hin176 _ hm_0
  have hm_1 := hin176 _ hm_1
  have hm_2 := hin176 _ hm_2
  have hm_3 := hin176 _ hm_3
  have hm_4 := hin176 _ hm_4
  have hm_5 := hin176 _ hm_5
  have hm_6 := hin176 _ hm_6
  have hm_7 := hin176 _ hm_7
  have hm_8 := hin176 _ hm_8
  have hm_9 := hin176 _ hm_9
  have hm_10 := hin176 _ hm_10
  have hm_11 := hin176 _ hm_11
  have hm_12 := hin176 _ hm_12
  have hm_13 := hin176 _ hm_13
  have hm_14 := hin176 _ hm_14
  have hm_15 := hin176 _ hm_15
  have hm_16 := hin176 _ hm_16
  have hm_17 := hin176 _ hm_17
  have hn19 : 19 ∉ K176 := by rw [eK176]; exact nin_push hn19 (by decide)
  have hn20 : 20 ∉ K176 := by rw [eK176]; exact nin_push hn20 (by decide)
  have hn21 : 21 ∉ K176 := by rw [eK176]; exact nin_push hn21 (by decide)
  have hn22 : 22 ∉ K176 := by rw [eK176]; exact nin_push hn22 (by decide)
  have hn23 : 23 ∉ K176 := by rw [eK176]; exact nin_push hn23 (by decide)
  have hn24 : 24 ∉ K176 := by rw [eK176]; exact nin_push hn24 (by decide)
  have hn25 : 25 ∉ K176 := by rw [eK176]; exact nin_push hn25 (by decide)
  have hn26 : 26 ∉ K176 := by rw [eK176]; exact nin_push hn26 (by decide)
  have hn27 : 27 ∉ K176 := by rw [eK176]; exact nin_push hn27 (by decide)
  have hn28 : 28 ∉ K176 := by rw [eK176]; exact nin_push hn28 (by decide)
  have hn29 : 29 ∉ K176 := by rw [eK176]; exact nin_push hn29 (by decide)
  have hn30 : 30 ∉ K176 := by rw [eK176]; exact nin_push hn30 (by decide)
  have hn31 : 31 ∉ K176 := by rw [eK176]; exact nin_push hn31 (by decide)
  have hn32 : 32 ∉ K176 := by rw [eK176]; exact nin_push hn32 (by decide)
  have hn33 : 33 ∉ K176 := by rw [eK176]; exact nin_push hn33 (by decide)
  have hn34 : 34 ∉ K176 := by rw [eK176]; exact nin_push hn34 (by decide)
  have hm_18 := hk176
  have hCl : Cl K176 sh := by rw [eK176]; exact hCl.push (by rw [hsh18]; decide)
  have hOR : ORf K176 O174 := hOR.mono hin176
  rw [← hr176_0] at hl
  rw [hq176, ← hr176_0]
  obtain ⟨O177, eO177, hf⟩ := bnd_i hf
  have hOR := hOR.up (k := 0) (j := 31) ((⟨hm_18, hsh18⟩ : 18 ∈ K176 ∧ _)).1
  rw [← eO177] at hOR
  refine s_putOF (ty := tyX12 31) E hnm inU12 tyX12_ok nmX12 hK hI (⟨hm_0, hsh0⟩ : 0 ∈ K176 ∧ _) rfl 31 (by decide) u4_219 (fun _ h => h) rfl rfl rfl (tyX12_ok 31 (by decide)) rfl rfl eO177 dX12_init_813 (fun H locs hI => ?_)
  refine lv_aload_n hx hb dX12_init_816 rfl (lv_at hl 0 rfl) ?_
  refine lv_bipush (v := 10) hx hb dX12_init_817 (by decide) ?_
  obtain ⟨G178, eG178, hf⟩ := bnd_i hf
  refine s_newI E u1_80 hK hI hA 19 (fr_of hCl hOR hn19) hsh19 (by decide) (by decide) (by decide) ⟨by decide, by decide⟩ dX12_init_819 (fun q H hI => ?_)
  rw [← eG178] at hI
  obtain ⟨K179, eK179⟩ : ∃ z, z = K176 ++ [19] := ⟨_, rfl⟩
  obtain ⟨ad179, ea179⟩ : ∃ z, z = adU ad176 19 q := ⟨_, rfl⟩
  rw [← eK179, ← ea179] at hI
  have hin179 : ∀ b ∈ K176, b ∈ K179 := fun b hb => by rw [eK179]; exact List.mem_append_left _ hb
  have hk179 : 19 ∈ K179 := by rw [eK179]; exact List.mem_append_right _ (List.mem_singleton.mpr rfl)
  have hq179 : q = ad179 19 := by rw [ea179]; exact adU_k.symm
  have had179 : ∀ b ∈ K176, ad179 b = ad176 b := fun b hb => by rw [ea179]; exact adU_in hb hn19
  have hr179_0 := had179 _ ((⟨hm_0, hsh0⟩ : 0 ∈ K176 ∧ _)).1
  have had : ∀ b ∈ K, ad179 b = ad b := fun b hb => (had179 b (hsub b hb)).trans (had b hb)
  have hsub : ∀ b ∈ K, b ∈ K179 := fun b hb => hin179 b (hsub b hb)
  have hcl : Bcl (AS K179 ad179 X) B := hclA.mono (AS_D hI.2.1)
  have hm_0 := hin179 _ hm_0
  have hm_1 := hin179 _ hm_1
  have hm_2 := hin179 _ hm_2
  have hm_3 := hin179 _ hm_3
  have hm_4 := hin179 _ hm_4
  have hm_5 := hin179 _ hm_5
  have hm_6 := hin179 _ hm_6
  have hm_7 := hin179 _ hm_7
  have hm_8 := hin179 _ hm_8
  have hm_9 := hin179 _ hm_9
  have hm_10 := hin179 _ hm_10
  have hm_11 := hin179 _ hm_11
  have hm_12 := hin179 _ hm_12
  have hm_13 := hin179 _ hm_13
  have hm_14 := hin179 _ hm_14
  have hm_15 := hin179 _ hm_15
  have hm_16 := hin179 _ hm_16
  have hm_17 := hin179 _ hm_17
  have hm_18 := hin179 _ hm_18
  have hn20 : 20 ∉ K179 := by rw [eK179]; exact nin_push hn20 (by decide)
  have hn21 : 21 ∉ K179 := by rw [eK179]; exact nin_push hn21 (by decide)
  have hn22 : 22 ∉ K179 := by rw [eK179]; exact nin_push hn22 (by decide)
  have hn23 : 23 ∉ K179 := by rw [eK179]; exact nin_push hn23 (by decide)
  have hn24 : 24 ∉ K179 := by rw [eK179]; exact nin_push hn24 (by decide)
  have hn25 : 25 ∉ K179 := by rw [eK179]; exact nin_push hn25 (by decide)
  have hn26 : 26 ∉ K179 := by rw [eK179]; exact nin_push hn26 (by decide)
  have hn27 : 27 ∉ K179 := by rw [eK179]; exact nin_push hn27 (by decide)
  have hn28 : 28 ∉ K179 := by rw [eK179]; exact nin_push hn28 (by decide)
  have hn29 : 29 ∉ K179 := by rw [eK179]; exact nin_push hn29 (by decide)
  have hn30 : 30 ∉ K179 := by rw [eK179]; exact nin_push hn30 (by decide)
  have hn31 : 31 ∉ K179 := by rw [eK179]; exact nin_push hn31 (by decide)
  have hn32 : 32 ∉ K179 := by rw [eK179]; exact nin_push hn32 (by decide)
  have hn33 : 33 ∉ K179 := by rw [eK179]; exact nin_push hn33 (by decide)
  have hn34 : 34 ∉ K179 := by rw [eK179]; exact nin_push hn34 (by decide)
  have hm_19 := hk179
  have hCl : Cl K179 sh := by rw [eK179]; exact hCl.push (by rw [hsh19]; decide)
  have hOR : ORf K179 O177 := hOR.mono hin179
  rw [← hr179_0] at hl
  rw [hq179, ← hr179_0]
  obtain ⟨O180, eO180, hf⟩ := bnd_i hf
  have hOR := hOR.up (k := 0) (j := 32) ((⟨hm_19, hsh19⟩ : 19 ∈ K179 ∧ _)).1
  rw [← eO180] at hOR
  refine s_putOF (ty := tyX12 32) E hnm inU12 tyX12_ok nmX12 hK hI (⟨hm_0, hsh0⟩ : 0 ∈ K179 ∧ _) rfl 32 (by decide) u4_220 (fun _ h => h) rfl rfl rfl (tyX12_ok 32 (by decide)) rfl rfl eO180 dX12_init_821 (fun H locs hI => ?_)
  refine lv_aload_n hx hb dX12_init_824 rfl (lv_at hl 0 rfl) ?_
  refine lv_bipush (v := 10) hx hb dX12_init_825 (by decide) ?_
  obtain ⟨G181, eG181, hf⟩ := bnd_i hf
  refine s_newI E u1_80 hK hI hA 20 (fr_of hCl hOR hn20) hsh20 (by decide) (by decide) (by decide) ⟨by decide, by decide⟩ dX12_init_827 (fun q H hI => ?_)
  rw [← eG181] at hI
  obtain ⟨K182, eK182⟩ : ∃ z, z = K179 ++ [20] := ⟨_, rfl⟩
  obtain ⟨ad182, ea182⟩ : ∃ z, z = adU ad179 20 q := ⟨_, rfl⟩
  rw [← eK182, ← ea182] at hI
  have hin182 : ∀ b ∈ K179, b ∈ K182 := fun b hb => by rw [eK182]; exact List.mem_append_left _ hb
  have hk182 : 20 ∈ K182 := by rw [eK182]; exact List.mem_append_right _ (List.mem_singleton.mpr rfl)
  have hq182 : q = ad182 20 := by rw [ea182]; exact adU_k.symm
  have had182 : ∀ b ∈ K179, ad182 b = ad179 b := fun b hb => by rw [ea182]; exact adU_in hb hn20
  have hr182_0 := had182 _ ((⟨hm_0, hsh0⟩ : 0 ∈ K179 ∧ _)).1
  have had : ∀ b ∈ K, ad182 b = ad b := fun b hb => (had182 b (hsub b hb)).trans (had b hb)
  have hsub : ∀ b ∈ K, b ∈ K182 := fun b hb => hin182 b (hsub b hb)
  have hcl : Bcl (AS K182 ad182 X) B := hclA.mono (AS_D hI.2.1)
  have hm_0 := hin182 _ hm_0
  have hm_1 := hin182 _ hm_1
  have hm_2 := hin182 _ hm_2
  have hm_3 := hin182 _ hm_3
  have hm_4 := hin182 _ hm_4
  have hm_5 := hin182 _ hm_5
  have hm_6 := hin182 _ hm_6
  have hm_7 := hin182 _ hm_7
  have hm_8 := hin182 _ hm_8
  have hm_9 := hin182 _ hm_9
  have hm_10 := hin182 _ hm_10
  have hm_11 := hin182 _ hm_11
  have hm_12 := hin182 _ hm_12
  have hm_13 := hin182 _ hm_13
  have hm_14 := hin182 _ hm_14
  have hm_15 := hin182 _ hm_15
  have hm_16 := hin182 _ hm_16
  have hm_17 := hin182 _ hm_17
  have hm_18 := hin182 _ hm_18
  have hm_19 := hin182 _ hm_19
  have hn21 : 21 ∉ K182 := by rw [eK182]; exact nin_push hn21 (by decide)
  have hn22 : 22 ∉ K182 := by rw [eK182]; exact nin_push hn22 (by decide)
  have hn23 : 23 ∉ K182 := by rw [eK182]; exact nin_push hn23 (by decide)
  have hn24 : 24 ∉ K182 := by rw [eK182]; exact nin_push hn24 (by decide)
  have hn25 : 25 ∉ K182 := by rw [eK182]; exact nin_push hn25 (by decide)
  have hn26 : 26 ∉ K182 := by rw [eK182]; exact nin_push hn26 (by decide)
  have hn27 : 27 ∉ K182 := by rw [eK182]; exact nin_push hn27 (by decide)
  have hn28 : 28 ∉ K182 := by rw [eK182]; exact nin_push hn28 (by decide)
  have hn29 : 29 ∉ K182 := by rw [eK182]; exact nin_push hn29 (by decide)
  have hn30 : 30 ∉ K182 := by rw [eK182]; exact nin_push hn30 (by decide)
  have hn31 : 31 ∉ K182 := by rw [eK182]; exact nin_push hn31 (by decide)
  have hn32 : 32 ∉ K182 := by rw [eK182]; exact nin_push hn32 (by decide)
  have hn33 : 33 ∉ K182 := by rw [eK182]; exact nin_push hn33 (by decide)
  have hn34 : 34 ∉ K182 := by rw [eK182]; exact nin_push hn34 (by decide)
  have hm_20 := hk182
  have hCl : Cl K182 sh := by rw [eK182]; exact hCl.push (by rw [hsh20]; decide)
  have hOR : ORf K182 O180 := hOR.mono hin182
  rw [← hr182_0] at hl
  rw [hq182, ← hr182_0]
  obtain ⟨O183, eO183, hf⟩ := bnd_i hf
  have hOR := hOR.up (k := 0) (j := 33) ((⟨hm_20, hsh20⟩ : 20 ∈ K182 ∧ _)).1
  rw [← eO183] at hOR
  refine s_putOF (ty := tyX12 33) E hnm inU12 tyX12_ok nmX12 hK hI (⟨hm_0, hsh0⟩ : 0 ∈ K182 ∧ _) rfl 33 (by decide) u4_221 (fun _ h => h) rfl rfl rfl (tyX12_ok 33 (by decide)) rfl rfl eO183 dX12_init_829 (fun H locs hI => ?_)
  refine lv_aload_n hx hb dX12_init_832 rfl (lv_at hl 0 rfl) ?_
  refine lv_bipush (v := 10) hx hb dX12_init_833 (by decide) ?_
  obtain ⟨G184, eG184, hf⟩ := bnd_i hf
  refine s_newZ E u5_123 hK hI hA 21 (fr_of hCl hOR hn21) hsh21 (by decide) (by decide) (by decide) ⟨by decide, by decide⟩ dX12_init_835 (fun q H hI => ?_)
  rw [← eG184] at hI
  obtain ⟨K185, eK185⟩ : ∃ z, z = K182 ++ [21] := ⟨_, rfl⟩
  obtain ⟨ad185, ea185⟩ : ∃ z, z = adU ad182 21 q := ⟨_, rfl⟩
  rw [← eK185, ← ea185] at hI
  have hin185 : ∀ b ∈ K182, b ∈ K185 := fun b hb => by rw [eK185]; exact List.mem_append_left _ hb
  have hk185 : 21 ∈ K185 := by rw [eK185]; exact List.mem_append_right _ (List.mem_singleton.mpr rfl)
  have hq185 : q = ad185 21 := by rw [ea185]; exact adU_k.symm
  have had185 : ∀ b ∈ K182, ad185 b = ad182 b := fun b hb => by rw [ea185]; exact adU_in hb hn21
  have hr185_0 := had185 _ ((⟨hm_0, hsh0⟩ : 0 ∈ K182 ∧ _)).1
  have had : ∀ b ∈ K, ad185 b = ad b := fun b hb => (had185 b (hsub b hb)).trans (had b hb)
  have hsub : ∀ b ∈ K, b ∈ K185 := fun b hb => hin185 b (hsub b hb)
  have hcl : Bcl (AS K185 ad185 X) B := hclA.mono (AS_D hI.2.1)
  have hm_0 := hin185 _ hm_0
  have hm_1 := hin185 _ hm_1
  have hm_2 := hin185 _ hm_2
  have hm_3 := hin185 _ hm_3
  have hm_4 := hin185 _ hm_4
  have hm_5 := hin185 _ hm_5
  have hm_6 := hin185 _ hm_6
  have hm_7 := hin185 _ hm_7
  have hm_8 := hin185 _ hm_8
  have hm_9 := hin185 _ hm_9
  have hm_10 := hin185 _ hm_10
  have hm_11 := hin185 _ hm_11
  have hm_12 := hin185 _ hm_12
  have hm_13 := hin185 _ hm_13
  have hm_14 := hin185 _ hm_14
  have hm_15 := hin185 _ hm_15
  have hm_16 := hin185 _ hm_16
  have hm_17 := hin185 _ hm_17
  have hm_18 := hin185 _ hm_18
  have hm_19 := hin185 _ hm_19
  have hm_20 := hin185 _ hm_20
  have hn22 : 22 ∉ K185 := by rw [eK185]; exact nin_push hn22 (by decide)
  have hn23 : 23 ∉ K185 := by rw [eK185]; exact nin_push hn23 (by decide)
  have hn24 : 24 ∉ K185 := by rw [eK185]; exact nin_push hn24 (by decide)
  have hn25 : 25 ∉ K185 := by rw [eK185]; exact nin_push hn25 (by decide)
  have hn26 : 26 ∉ K185 := by rw [eK185]; exact nin_push hn26 (by decide)
  have hn27 : 27 ∉ K185 := by rw [eK185]; exact nin_push hn27 (by decide)
  have hn28 : 28 ∉ K185 := by rw [eK185]; exact nin_push hn28 (by decide)
  have hn29 : 29 ∉ K185 := by rw [eK185]; exact nin_push hn29 (by decide)
  have hn30 : 30 ∉ K185 := by rw [eK185]; exact nin_push hn30 (by decide)
  have hn31 : 31 ∉ K185 := by rw [eK185]; exact nin_push hn31 (by decide)
  have hn32 : 32 ∉ K185 := by rw [eK185]; exact nin_push hn32 (by decide)
  have hn33 : 33 ∉ K185 := by rw [eK185]; exact nin_push hn33 (by decide)
  have hn34 : 34 ∉ K185 := by rw [eK185]; exact nin_push hn34 (by decide)
  have hm_21 := hk185
  have hCl : Cl K185 sh := by rw [eK185]; exact hCl.push (by rw [hsh21]; decide)
  have hOR : ORf K185 O183 := hOR.mono hin185
  rw [← hr185_0] at hl
  rw [hq185, ← hr185_0]
  obtain ⟨O186, eO186, hf⟩ := bnd_i hf
  have hOR := hOR.up (k := 0) (j := 34) ((⟨hm_21, hsh21⟩ : 21 ∈ K185 ∧ _)).1
  rw [← eO186] at hOR
  refine s_putOF (ty := tyX12 34) E hnm inU12 tyX12_ok nmX12 hK hI (⟨hm_0, hsh0⟩ : 0 ∈ K185 ∧ _) rfl 34 (by decide) u4_222 (fun _ h => h) rfl rfl rfl (tyX12_ok 34 (by decide)) rfl rfl eO186 dX12_init_837 (fun H locs hI => ?_)
  refine lv_aload_n hx hb dX12_init_840 rfl (lv_at hl 0 rfl) ?_
  refine lv_bipush (v := 10) hx hb dX12_init_841 (by decide) ?_
  obtain ⟨G187, eG187, hf⟩ := bnd_i hf
  refine s_newZ E u5_123 hK hI hA 22 (fr_of hCl hOR hn22) hsh22 (by decide) (by decide) (by decide) ⟨by decide, by decide⟩ dX12_init_843 (fun q H hI => ?_)
  rw [← eG187] at hI
  obtain ⟨K188, eK188⟩ : ∃ z, z = K185 ++ [22] := ⟨_, rfl⟩
  obtain ⟨ad188, ea188⟩ : ∃ z, z = adU ad185 22 q := ⟨_, rfl⟩
  rw [← eK188, ← ea188] at hI
  have hin188 : ∀ b ∈ K185, b ∈ K188 := fun b hb => by rw [eK188]; exact List.mem_append_left _ hb
  have hk188 : 22 ∈ K188 := by rw [eK188]; exact List.mem_append_right _ (List.mem_singleton.mpr rfl)
  have hq188 : q = ad188 22 := by rw [ea188]; exact adU_k.symm
  have had188 : ∀ b ∈ K185, ad188 b = ad185 b := fun b hb => by rw [ea188]; exact adU_in hb hn22
  have hr188_0 := had188 _ ((⟨hm_0, hsh0⟩ : 0 ∈ K185 ∧ _)).1
  have had : ∀ b ∈ K, ad188 b = ad b := fun b hb => (had188 b (hsub b hb)).trans (had b hb)
  have hsub : ∀ b ∈ K, b ∈ K188 := fun b hb => hin188 b (hsub b hb)
  have hcl : Bcl (AS K188 ad188 X) B := hclA.mono (AS_D hI.2.1)
  have hm_0 := hin188 _ hm_0
  have hm_1 := hin188 _ hm_1
  have hm_2 := hin188 _ hm_2
  have hm_3 := hin188 _ hm_3
  have hm_4 := hin188 _ hm_4
  have hm_5 := hin188 _ hm_5
  have hm_6 := hin188 _ hm_6
  have hm_7 := hin188 _ hm_7
  have hm_8 := hin188 _ hm_8
  have hm_9 := hin188 _ hm_9
  have hm_10 := hin188 _ hm_10
  have hm_11 := hin188 _ hm_11
  have hm_12 := hin188 _ hm_12
  have hm_13 := hin188 _ hm_13
  have hm_14 := hin188 _ hm_14
  have hm_15 := hin188 _ hm_15
  have hm_16 := hin188 _ hm_16
  have hm_17 := hin188 _ hm_17
  have hm_18 := hin188 _ hm_18
  have hm_19 := hin188 _ hm_19
  have hm_20 := hin188 _ hm_20
  have hm_21 := hin188 _ hm_21
  have hn23 : 23 ∉ K188 := by rw [eK188]; exact nin_push hn23 (by decide)
  have hn24 : 24 ∉ K188 := by rw [eK188]; exact nin_push hn24 (by decide)
  have hn25 : 25 ∉ K188 := by rw [eK188]; exact nin_push hn25 (by decide)
  have hn26 : 26 ∉ K188 := by rw [eK188]; exact nin_push hn26 (by decide)
  have hn27 : 27 ∉ K188 := by rw [eK188]; exact nin_push hn27 (by decide)
  have hn28 : 28 ∉ K188 := by rw [eK188]; exact nin_push hn28 (by decide)
  have hn29 : 29 ∉ K188 := by rw [eK188]; exact nin_push hn29 (by decide)
  have hn30 : 30 ∉ K188 := by rw [eK188]; exact nin_push hn30 (by decide)
  have hn31 : 31 ∉ K188 := by rw [eK188]; exact nin_push hn31 (by decide)
  have hn32 : 32 ∉ K188 := by rw [eK188]; exact nin_push hn32 (by decide)
  have hn33 : 33 ∉ K188 := by rw [eK188]; exact nin_push hn33 (by decide)
  have hn34 : 34 ∉ K188 := by rw [eK188]; exact nin_push hn34 (by decide)
  have hm_22 := hk188
  have hCl : Cl K188 sh := by rw [eK188]; exact hCl.push (by rw [hsh22]; decide)
  have hOR : ORf K188 O186 := hOR.mono hin188
  rw [← hr188_0] at hl
  rw [hq188, ← hr188_0]
  obtain ⟨O189, eO189, hf⟩ := bnd_i hf
  have hOR := hOR.up (k := 0) (j := 35) ((⟨hm_22, hsh22⟩ : 22 ∈ K188 ∧ _)).1
  rw [← eO189] at hOR
  refine s_putOF (ty := tyX12 35) E hnm inU12 tyX12_ok nmX12 hK hI (⟨hm_0, hsh0⟩ : 0 ∈ K188 ∧ _) rfl 35 (by decide) u4_223 (fun _ h => h) rfl rfl rfl (tyX12_ok 35 (by decide)) rfl rfl eO189 dX12_init_845 (fun H locs hI => ?_)
  refine lv_aload_n hx hb dX12_init_848 rfl (lv_at hl 0 rfl) ?_
  refine lv_iconst (v := 4) hx hb dX12_init_849 (by decide) ?_
  obtain ⟨G190, eG190, hf⟩ := bnd_i hf
  refine s_newI E u1_80 hK hI hA 23 (fr_of hCl hOR hn23) hsh23 (by decide) (by decide) (by decide) ⟨by decide, by decide⟩ dX12_init_850 (fun q H hI => ?_)
  rw [← eG190] at hI
  obtain ⟨K191, eK191⟩ : ∃ z, z = K188 ++ [23] := ⟨_, rfl⟩
  obtain ⟨ad191, ea191⟩ : ∃ z, z = adU ad188 23 q := ⟨_, rfl⟩
  rw [← eK191, ← ea191] at hI
  have hin191 : ∀ b ∈ K188, b ∈ K191 := fun b hb => by rw [eK191]; exact List.mem_append_left _ hb
  have hk191 : 23 ∈ K191 := by rw [eK191]; exact List.mem_append_right _ (List.mem_singleton.mpr rfl)
  have hq191 : q = ad191 23 := by rw [ea191]; exact adU_k.symm
  have had191 : ∀ b ∈ K188, ad191 b = ad188 b := fun b hb => by rw [ea191]; exact adU_in hb hn23
  have hr191_0 := had191 _ ((⟨hm_0, hsh0⟩ : 0 ∈ K188 ∧ _)).1
  have had : ∀ b ∈ K, ad191 b = ad b := fun b hb => (had191 b (hsub b hb)).trans (had b hb)
  have hsub : ∀ b ∈ K, b ∈ K191 := fun b hb => hin191 b (hsub b hb)
  have hcl : Bcl (AS K191 ad191 X) B := hclA.mono (AS_D hI.2.1)
  have hm_0 := hin191 _ hm_0
  have hm_1 := hin191 _ hm_1
  have hm_2 := hin191 _ hm_2
  have hm_3 := hin191 _ hm_3
  have hm_4 := hin191 _ hm_4
  have hm_5 := hin191 _ hm_5
  have hm_6 := hin191 _ hm_6
  have hm_7 := hin191 _ hm_7
  have hm_8 := hin191 _ hm_8
  have hm_9 := hin191 _ hm_9
  have hm_10 := hin191 _ hm_10
  have hm_11 := hin191 _ hm_11
  have hm_12 := hin191 _ hm_12
  have hm_13 := hin191 _ hm_13
  have hm_14 := hin191 _ hm_14
  have hm_15 := hin191 _ hm_15
  have hm_16 := hin191 _ hm_16
  have hm_17 := hin191 _ hm_17
  have hm_18 := hin191 _ hm_18
  have hm_19 := hin191 _ hm_19
  have hm_20 := hin191 _ hm_20
  have hm_21 := hin191 _ hm_21
  have hm_22 := hin191 _ hm_22
  have hn24 : 24 ∉ K191 := by rw [eK191]; exact nin_push hn24 (by decide)
  have hn25 : 25 ∉ K191 := by rw [eK191]; exact nin_push hn25 (by decide)
  have hn26 : 26 ∉ K191 := by rw [eK191]; exact nin_push hn26 (by decide)
  have hn27 : 27 ∉ K191 := by rw [eK191]; exact nin_push hn27 (by decide)
  have hn28 : 28 ∉ K191 := by rw [eK191]; exact nin_push hn28 (by decide)
  have hn29 : 29 ∉ K191 := by rw [eK191]; exact nin_push hn29 (by decide)
  have hn30 : 30 ∉ K191 := by rw [eK191]; exact nin_push hn30 (by decide)
  have hn31 : 31 ∉ K191 := by rw [eK191]; exact nin_push hn31 (by decide)
  have hn32 : 32 ∉ K191 := by rw [eK191]; exact nin_push hn32 (by decide)
  have hn33 : 33 ∉ K191 := by rw [eK191]; exact nin_push hn33 (by decide)
  have hn34 : 34 ∉ K191 := by rw [eK191]; exact nin_push hn34 (by decide)
  have hm_23 := hk191
  have hCl : Cl K191 sh := by rw [eK191]; exact hCl.push (by rw [hsh23]; decide)
  have hOR : ORf K191 O189 := hOR.mono hin191
  rw [← hr191_0] at hl
  rw [hq191, ← hr191_0]
  obtain ⟨O192, eO192, hf⟩ := bnd_i hf
  have hOR := hOR.up (k := 0) (j := 41) ((⟨hm_23, hsh23⟩ : 23 ∈ K191 ∧ _)).1
  rw [← eO192] at hOR
  refine s_putOF (ty := tyX12 41) E hnm inU12 tyX12_ok nmX12 hK hI (⟨hm_0, hsh0⟩ : 0 ∈ K191 ∧ _) rfl 41 (by decide) u4_229 (fun _ h => h) rfl rfl rfl (tyX12_ok 41 (by decide)) rfl rfl eO192 dX12_init_852 (fun H locs hI => ?_)
  refine lv_aload_n hx hb dX12_init_855 rfl (lv_at hl 0 rfl) ?_
  refine lv_sipush (v := 2000) hx hb dX12_init_856 (by decide) ?_
  obtain ⟨G193, eG193, hf⟩ := bnd_i hf
  refine s_newI E u1_80 hK hI hA 24 (fr_of hCl hOR hn24) hsh24 (by decide) (by decide) (by decide) ⟨by decide, by decide⟩ dX12_init_859 (fun q H hI => ?_)
  rw [← eG193] at hI
  obtain ⟨K194, eK194⟩ : ∃ z, z = K191 ++ [24] := ⟨_, rfl⟩
  obtain ⟨ad194, ea194⟩ : ∃ z, z = adU ad191 24 q := ⟨_, rfl⟩
  rw [← eK194, ← ea194] at hI
  have hin194 : ∀ b ∈ K191, b ∈ K194 := fun b hb => by rw [eK194]; exact List.mem_append_left _ hb
  have hk194 : 24 ∈ K194 := by rw [eK194]; exact List.mem_append_right _ (List.mem_singleton.mpr rfl)
  have hq194 : q = ad194 24 := by rw [ea194]; exact adU_k.symm
  have had194 : ∀ b ∈ K191, ad194 b = ad191 b := fun b hb => by rw [ea194]; exact adU_in hb hn24
  have hr194_0 := had194 _ ((⟨hm_0, hsh0⟩ : 0 ∈ K191 ∧ _)).1
  have had : ∀ b ∈ K, ad194 b = ad b := fun b hb => (had194 b (hsub b hb)).trans (had b hb)
  have hsub : ∀ b ∈ K, b ∈ K194 := fun b hb => hin194 b (hsub b hb)
  have hcl : Bcl (AS K194 ad194 X) B := hclA.mono (AS_D hI.2.1)
  have hm_0 := hin194 _ hm_0
  have hm_1 := hin194 _ hm_1
  have hm_2 := hin194 _ hm_2
  have hm_3 := hin194 _ hm_3
  have hm_4 := hin194 _ hm_4
  have hm_5 := hin194 _ hm_5
  have hm_6 := hin194 _ hm_6
  have hm_7 := hin194 _ hm_7
  have hm_8 := hin194 _ hm_8
  have hm_9 := hin194 _ hm_9
  have hm_10 := hin194 _ hm_10
  have hm_11 := hin194 _ hm_11
  have hm_12 := hin194 _ hm_12
  have hm_13 := hin194 _ hm_13
  have hm_14 := hin194 _ hm_14
  have hm_15 := hin194 _ hm_15
  have hm_16 := hin194 _ hm_16
  have hm_17 := hin194 _ hm_17
  have hm_18 := hin194 _ hm_18
  have hm_19 := hin194 _ hm_19
  have hm_20 := hin194 _ hm_20
  have hm_21 := hin194 _ hm_21
  have hm_22 := hin194 _ hm_22
  have hm_23 := hin194 _ hm_23
  have hn25 : 25 ∉ K194 := by rw [eK194]; exact nin_push hn25 (by decide)
  have hn26 : 26 ∉ K194 := by rw [eK194]; exact nin_push hn26 (by decide)
  have hn27 : 27 ∉ K194 := by rw [eK194]; exact nin_push hn27 (by decide)
  have hn28 : 28 ∉ K194 := by rw [eK194]; exact nin_push hn28 (by decide)
  have hn29 : 29 ∉ K194 := by rw [eK194]; exact nin_push hn29 (by decide)
  have hn30 : 30 ∉ K194 := by rw [eK194]; exact nin_push hn30 (by decide)
  have hn31 : 31 ∉ K194 := by rw [eK194]; exact nin_push hn31 (by decide)
  have hn32 : 32 ∉ K194 := by rw [eK194]; exact nin_push hn32 (by decide)
  have hn33 : 33 ∉ K194 := by rw [eK194]; exact nin_push hn33 (by decide)
  have hn34 : 34 ∉ K194 := by rw [eK194]; exact nin_push hn34 (by decide)
  have hm_24 := hk194
  have hCl : Cl K194 sh := by rw [eK194]; exact hCl.push (by rw [hsh24]; decide)
  have hOR : ORf K194 O192 := hOR.mono hin194
  rw [← hr194_0] at hl
  rw [hq194, ← hr194_0]
  obtain ⟨O195, eO195, hf⟩ := bnd_i hf
  have hOR := hOR.up (k := 0) (j := 42) ((⟨hm_24, hsh24⟩ : 24 ∈ K194 ∧ _)).1
  rw [← eO195] at hOR
  refine s_putOF (ty := tyX12 42) E hnm inU12 tyX12_ok nmX12 hK hI (⟨hm_0, hsh0⟩ : 0 ∈ K194 ∧ _) rfl 42 (by decide) u4_230 (fun _ h => h) rfl rfl rfl (tyX12_ok 42 (by decide)) rfl rfl eO195 dX12_init_861 (fun H locs hI => ?_)
  refine lv_aload_n hx hb dX12_init_864 rfl (lv_at hl 0 rfl) ?_
  refine lv_sipush (v := 2000) hx hb dX12_init_865 (by decide) ?_
  obtain ⟨G196, eG196, hf⟩ := bnd_i hf
  refine s_newI E u1_80 hK hI hA 25 (fr_of hCl hOR hn25) hsh25 (by decide) (by decide) (by decide) ⟨by decide, by decide⟩ dX12_init_868 (fun q H hI => ?_)
  rw [← eG196] at hI
  obtain ⟨K197, eK197⟩ : ∃ z, z = K194 ++ [25] := ⟨_, rfl⟩
  obtain ⟨ad197, ea197⟩ : ∃ z, z = adU ad194 25 q := ⟨_, rfl⟩
  rw [← eK197, ← ea197] at hI
  have hin197 : ∀ b ∈ K194, b ∈ K197 := fun b hb => by rw [eK197]; exact List.mem_append_left _ hb
  have hk197 : 25 ∈ K197 := by rw [eK197]; exact List.mem_append_right _ (List.mem_singleton.mpr rfl)
  have hq197 : q = ad197 25 := by rw [ea197]; exact adU_k.symm
  have had197 : ∀ b ∈ K194, ad197 b = ad194 b := fun b hb => by rw [ea197]; exact adU_in hb hn25
  have hr197_0 := had197 _ ((⟨hm_0, hsh0⟩ : 0 ∈ K194 ∧ _)).1
  have had : ∀ b ∈ K, ad197 b = ad b := fun b hb => (had197 b (hsub b hb)).trans (had b hb)
  have hsub : ∀ b ∈ K, b ∈ K197 := fun b hb => hin197 b (hsub b hb)
  have hcl : Bcl (AS K197 ad197 X) B := hclA.mono (AS_D hI.2.1)
  have hm_0 := hin197 _ hm_0
  have hm_1 := hin197 _ hm_1
  have hm_2 := hin197 _ hm_2
  have hm_3 := hin197 _ hm_3
  have hm_4 := hin197 _ hm_4
  have hm_5 := hin197 _ hm_5
  have hm_6 := hin197 _ hm_6
  have hm_7 := hin197 _ hm_7
  have hm_8 := hin197 _ hm_8
  have hm_9 := hin197 _ hm_9
  have hm_10 := hin197 _ hm_10
  have hm_11 := hin197 _ hm_11
  have hm_12 := hin197 _ hm_12
  have hm_13 := hin197 _ hm_13
  have hm_14 := hin197 _ hm_14
  have hm_15 := hin197 _ hm_15
  have hm_16 := hin197 _ hm_16
  have hm_17 := hin197 _ hm_17
  have hm_18 := hin197 _ hm_18
  have hm_19 := hin197 _ hm_19
  have hm_20 := hin197 _ hm_20
  have hm_21 := hin197 _ hm_21
  have hm_22 := hin197 _ hm_22
  have hm_23 := hin197 _ hm_23
  have hm_24 := hin197 _ hm_24
  have hn26 : 26 ∉ K197 := by rw [eK197]; exact nin_push hn26 (by decide)
  have hn27 : 27 ∉ K197 := by rw [eK197]; exact nin_push hn27 (by decide)
  have hn28 : 28 ∉ K197 := by rw [eK197]; exact nin_push hn28 (by decide)
  have hn29 : 29 ∉ K197 := by rw [eK197]; exact nin_push hn29 (by decide)
  have hn30 : 30 ∉ K197 := by rw [eK197]; exact nin_push hn30 (by decide)
  have hn31 : 31 ∉ K197 := by rw [eK197]; exact nin_push hn31 (by decide)
  have hn32 : 32 ∉ K197 := by rw [eK197]; exact nin_push hn32 (by decide)
  have hn33 : 33 ∉ K197 := by rw [eK197]; exact nin_push hn33 (by decide)
  have hn34 : 34 ∉ K197 := by rw [eK197]; exact nin_push hn34 (by decide)
  have hm_25 := hk197
  have hCl : Cl K197 sh := by rw [eK197]; exact hCl.push (by rw [hsh25]; decide)
  have hOR : ORf K197 O195 := hOR.mono hin197
  rw [← hr197_0] at hl
  rw [hq197, ← hr197_0]
  obtain ⟨O198, eO198, hf⟩ := bnd_i hf
  have hOR := hOR.up (k := 0) (j := 43) ((⟨hm_25, hsh25⟩ : 25 ∈ K197 ∧ _)).1
  rw [← eO198] at hOR
  refine s_putOF (ty := tyX12 43) E hnm inU12 tyX12_ok nmX12 hK hI (⟨hm_0, hsh0⟩ : 0 ∈ K197 ∧ _) rfl 43 (by decide) u4_231 (fun _ h => h) rfl rfl rfl (tyX12_ok 43 (by decide)) rfl rfl eO198 dX12_init_870 (fun H locs hI => ?_)
  refine lv_aload_n hx hb dX12_init_873 rfl (lv_at hl 0 rfl) ?_
  refine lv_bipush (v := 48) hx hb dX12_init_874 (by decide) ?_
  obtain ⟨G199, eG199, hf⟩ := bnd_i hf
  refine s_newI E u1_80 hK hI hA 26 (fr_of hCl hOR hn26) hsh26 (by decide) (by decide) (by decide) ⟨by decide, by decide⟩ dX12_init_876 (fun q H hI => ?_)
  rw [← eG199] at hI
  obtain ⟨K200, eK200⟩ : ∃ z, z = K197 ++ [26] := ⟨_, rfl⟩
  obtain ⟨ad200, ea200⟩ : ∃ z, z = adU ad197 26 q := ⟨_, rfl⟩
  rw [← eK200, ← ea200] at hI
  have hin200 : ∀ b ∈ K197, b ∈ K200 := fun b hb => by rw [eK200]; exact List.mem_append_left _ hb
  have hk200 : 26 ∈ K200 := by rw [eK200]; exact List.mem_append_right _ (List.mem_singleton.mpr rfl)
  have hq200 : q = ad200 26 := by rw [ea200]; exact adU_k.symm
  have had200 : ∀ b ∈ K197, ad200 b = ad197 b := fun b hb => by rw [ea200]; exact adU_in hb hn26
  have hr200_0 := had200 _ ((⟨hm_0, hsh0⟩ : 0 ∈ K197 ∧ _)).1
  have had : ∀ b ∈ K, ad200 b = ad b := fun b hb => (had200 b (hsub b hb)).trans (had b hb)
  have hsub : ∀ b ∈ K, b ∈ K200 := fun b hb => hin200 b (hsub b hb)
  have hcl : Bcl (AS K200 ad200 X) B := hclA.mono (AS_D hI.2.1)
  have hm_0 := hin200 _ hm_0
  have hm_1 := hin200 _ hm_1
  have hm_2 := hin200 _ hm_2
  have hm_3 := hin200 _ hm_3
  have hm_4 := hin200 _ hm_4
  have hm_5 := hin200 _ hm_5
  have hm_6 := hin200 _ hm_6
  have hm_7 := hin200 _ hm_7
  have hm_8 := hin200 _ hm_8
  have hm_9 := hin200 _ hm_9
  have hm_10 := hin200 _ hm_10
  have hm_11 := hin200 _ hm_11
  have hm_12 := hin200 _ hm_12
  have hm_13 := hin200 _ hm_13
  have hm_14 := hin200 _ hm_14
  have hm_15 := hin200 _ hm_15
  have hm_16 := hin200 _ hm_16
  have hm_17 := hin200 _ hm_17
  have hm_18 := hin200 _ hm_18
  have hm_19 := hin200 _ hm_19
  have hm_20 := hin200 _ hm_20
  have hm_21 := hin200 _ hm_21
  have hm_22 := hin200 _ hm_22
  have hm_23 := hin200 _ hm_23
  have hm_24 := hin200 _ hm_24
  have hm_25 := hin200 _ hm_25
  have hn27 : 27 ∉ K200 := by rw [eK200]; exact nin_push hn27 (by decide)
  have hn28 : 28 ∉ K200 := by rw [eK200]; exact nin_push hn28 (by decide)
  have hn29 : 29 ∉ K200 := by rw [eK200]; exact nin_push hn29 (by decide)
  have hn30 : 30 ∉ K200 := by rw [eK200]; exact nin_push hn30 (by decide)
  have hn31 : 31 ∉ K200 := by rw [eK200]; exact nin_push hn31 (by decide)
  have hn32 : 32 ∉ K200 := by rw [eK200]; exact nin_push hn32 (by decide)
  have hn33 : 33 ∉ K200 := by rw [eK200]; exact nin_push hn33 (by decide)
  have hn34 : 34 ∉ K200 := by rw [eK200]; exact nin_push hn34 (by decide)
  have hm_26 := hk200
  have hCl : Cl K200 sh := by rw [eK200]; exact hCl.push (by rw [hsh26]; decide)
  have hOR : ORf K200 O198 := hOR.mono hin200
  rw [← hr200_0] at hl
  rw [hq200, ← hr200_0]
  obtain ⟨O201, eO201, hf⟩ := bnd_i hf
  have hOR := hOR.up (k := 0) (j := 49) ((⟨hm_26, hsh26⟩ : 26 ∈ K200 ∧ _)).1
  rw [← eO201] at hOR
  refine s_putOF (ty := tyX12 49) E hnm inU12 tyX12_ok nmX12 hK hI (⟨hm_0, hsh0⟩ : 0 ∈ K200 ∧ _) rfl 49 (by decide) u4_237 (fun _ h => h) rfl rfl rfl (tyX12_ok 49 (by decide)) rfl rfl eO201 dX12_init_878 (fun H locs hI => ?_)
  refine lv_aload_n hx hb dX12_init_881 rfl (lv_at hl 0 rfl) ?_
  refine lv_bipush (v := 48) hx hb dX12_init_882 (by decide) ?_
  obtain ⟨G202, eG202, hf⟩ := bnd_i hf
  refine s_newI E u1_80 hK hI hA 27 (fr_of hCl hOR hn27) hsh27 (by decide) (by decide) (by decide) ⟨by decide, by decide⟩ dX12_init_884 (fun q H hI => ?_)
  rw [← eG202] at hI
  obtain ⟨K203, eK203⟩ : ∃ z, z = K200 ++ [27] := ⟨_, rfl⟩
  obtain ⟨ad203, ea203⟩ : ∃ z, z = adU ad200 27 q := ⟨_, rfl⟩
  rw [← eK203, ← ea203] at hI
  have hin203 : ∀ b ∈ K200, b ∈ K203 := fun b hb => by rw [eK203]; exact List.mem_append_left _ hb
  have hk203 : 27 ∈ K203 := by rw [eK203]; exact List.mem_append_right _ (List.mem_singleton.mpr rfl)
  have hq203 : q = ad203 27 := by rw [ea203]; exact adU_k.symm
  have had203 : ∀ b ∈ K200, ad203 b = ad200 b := fun b hb => by rw [ea203]; exact adU_in hb hn27
  have hr203_0 := had203 _ ((⟨hm_0, hsh0⟩ : 0 ∈ K200 ∧ _)).1
  have had : ∀ b ∈ K, ad203 b = ad b := fun b hb => (had203 b (hsub b hb)).trans (had b hb)
  have hsub : ∀ b ∈ K, b ∈ K203 := fun b hb => hin203 b (hsub b hb)
  have hcl : Bcl (AS K203 ad203 X) B := hclA.mono (AS_D hI.2.1)
  have hm_0 := hin203 _ hm_0
  have hm_1 := hin203 _ hm_1
  have hm_2 := hin203 _ hm_2
  have hm_3 := hin203 _ hm_3
  have hm_4 := hin203 _ hm_4
  have hm_5 := hin203 _ hm_5
  have hm_6 := hin203 _ hm_6
  have hm_7 := hin203 _ hm_7
  have hm_8 := hin203 _ hm_8
  have hm_9 := hin203 _ hm_9
  have hm_10 := hin203 _ hm_10
  have hm_11 := hin203 _ hm_11
  have hm_12 := hin203 _ hm_12
  have hm_13 := hin203 _ hm_13
  have hm_14 := hin203 _ hm_14
  have hm_15 := hin203 _ hm_15
  have hm_16 := hin203 _ hm_16
  have hm_17 := hin203 _ hm_17
  have hm_18 := hin203 _ hm_18
  have hm_19 := hin203 _ hm_19
  have hm_20 := hin203 _ hm_20
  have hm_21 := hin203 _ hm_21
  have hm_22 := hin203 _ hm_22
  have hm_23 := hin203 _ hm_23
  have hm_24 := hin203 _ hm_24
  have hm_25 := hin203 _ hm_25
  have hm_26 := hin203 _ hm_26
  have hn28 : 28 ∉ K203 := by rw [eK203]; exact nin_push hn28 (by decide)
  have hn29 : 29 ∉ K203 := by rw [eK203]; exact nin_push hn29 (by decide)
  have hn30 : 30 ∉ K203 := by rw [eK203]; exact nin_push hn30 (by decide)
  have hn31 : 31 ∉ K203 := by rw [eK203]; exact nin_push hn31 (by decide)
  have hn32 : 32 ∉ K203 := by rw [eK203]; exact nin_push hn32 (by decide)
  have hn33 : 33 ∉ K203 := by rw [eK203]; exact nin_push hn33 (by decide)
  have hn34 : 34 ∉ K203 := by rw [eK203]; exact nin_push hn34 (by decide)
  have hm_27 := hk203
  have hCl : Cl K203 sh := by rw [eK203]; exact hCl.push (by rw [hsh27]; decide)
  have hOR : ORf K203 O201 := hOR.mono hin203
  rw [← hr203_0] at hl
  rw [hq203, ← hr203_0]
  obtain ⟨O204, eO204, hf⟩ := bnd_i hf
  have hOR := hOR.up (k := 0) (j := 50) ((⟨hm_27, hsh27⟩ : 27 ∈ K203 ∧ _)).1
  rw [← eO204] at hOR
  refine s_putOF (ty := tyX12 50) E hnm inU12 tyX12_ok nmX12 hK hI (⟨hm_0, hsh0⟩ : 0 ∈ K203 ∧ _) rfl 50 (by decide) u4_238 (fun _ h => h) rfl rfl rfl (tyX12_ok 50 (by decide)) rfl rfl eO204 dX12_init_886 (fun H locs hI => ?_)
  refine lv_aload_n hx hb dX12_init_889 rfl (lv_at hl 0 rfl) ?_
  refine lv_bipush (v := 48) hx hb dX12_init_890 (by decide) ?_
  obtain ⟨G205, eG205, hf⟩ := bnd_i hf
  refine s_newI E u1_80 hK hI hA 28 (fr_of hCl hOR hn28) hsh28 (by decide) (by decide) (by decide) ⟨by decide, by decide⟩ dX12_init_892 (fun q H hI => ?_)
  rw [← eG205] at hI
  obtain ⟨K206, eK206⟩ : ∃ z, z = K203 ++ [28] := ⟨_, rfl⟩
  obtain ⟨ad206, ea206⟩ : ∃ z, z = adU ad203 28 q := ⟨_, rfl⟩
  rw [← eK206, ← ea206] at hI
  have hin206 : ∀ b ∈ K203, b ∈ K206 := fun b hb => by rw [eK206]; exact List.mem_append_left _ hb
  have hk206 : 28 ∈ K206 := by rw [eK206]; exact List.mem_append_right _ (List.mem_singleton.mpr rfl)
  have hq206 : q = ad206 28 := by rw [ea206]; exact adU_k.symm
  have had206 : ∀ b ∈ K203, ad206 b = ad203 b := fun b hb => by rw [ea206]; exact adU_in hb hn28
  have hr206_0 := had206 _ ((⟨hm_0, hsh0⟩ : 0 ∈ K203 ∧ _)).1
  have had : ∀ b ∈ K, ad206 b = ad b := fun b hb => (had206 b (hsub b hb)).trans (had b hb)
  have hsub : ∀ b ∈ K, b ∈ K206 := fun b hb => hin206 b (hsub b hb)
  have hcl : Bcl (AS K206 ad206 X) B := hclA.mono (AS_D hI.2.1)
  have hm_0 := hin206 _ hm_0
  have hm_1 := hin206 _ hm_1
  have hm_2 := hin206 _ hm_2
  have hm_3 := hin206 _ hm_3
  have hm_4 := hin206 _ hm_4
  have hm_5 := hin206 _ hm_5
  have hm_6 := hin206 _ hm_6
  have hm_7 := hin206 _ hm_7
  have hm_8 := hin206 _ hm_8
  have hm_9 := hin206 _ hm_9
  have hm_10 := hin206 _ hm_10
  have hm_11 := hin206 _ hm_11
  have hm_12 := hin206 _ hm_12
  have hm_13 := hin206 _ hm_13
  have hm_14 := hin206 _ hm_14
  have hm_15 := hin206 _ hm_15
  have hm_16 := hin206 _ hm_16
  have hm_17 := hin206 _ hm_17
  have hm_18 := hin206 _ hm_18
  have hm_19 := hin206 _ hm_19
  have hm_20 := hin206 _ hm_20
  have hm_21 := hin206 _ hm_21
  have hm_22 := hin206 _ hm_22
  have hm_23 := hin206 _ hm_23
  have hm_24 := hin206 _ hm_24
  have hm_25 := hin206 _ hm_25
  have hm_26 := hin206 _ hm_26
  have hm_27 := hin206 _ hm_27
  have hn29 : 29 ∉ K206 := by rw [eK206]; exact nin_push hn29 (by decide)
  have hn30 : 30 ∉ K206 := by rw [eK206]; exact nin_push hn30 (by decide)
  have hn31 : 31 ∉ K206 := by rw [eK206]; exact nin_push hn31 (by decide)
  have hn32 : 32 ∉ K206 := by rw [eK206]; exact nin_push hn32 (by decide)
  have hn33 : 33 ∉ K206 := by rw [eK206]; exact nin_push hn33 (by decide)
  have hn34 : 34 ∉ K206 := by rw [eK206]; exact nin_push hn34 (by decide)
  have hm_28 := hk206
  have hCl : Cl K206 sh := by rw [eK206]; exact hCl.push (by rw [hsh28]; decide)
  have hOR : ORf K206 O204 := hOR.mono hin206
  rw [← hr206_0] at hl
  rw [hq206, ← hr206_0]
  obtain ⟨O207, eO207, hf⟩ := bnd_i hf
  have hOR := hOR.up (k := 0) (j := 51) ((⟨hm_28, hsh28⟩ : 28 ∈ K206 ∧ _)).1
  rw [← eO207] at hOR
  refine s_putOF (ty := tyX12 51) E hnm inU12 tyX12_ok nmX12 hK hI (⟨hm_0, hsh0⟩ : 0 ∈ K206 ∧ _) rfl 51 (by decide) u4_239 (fun _ h => h) rfl rfl rfl (tyX12_ok 51 (by decide)) rfl rfl eO207 dX12_init_894 (fun H locs hI => ?_)
  refine lv_aload_n hx hb dX12_init_897 rfl (lv_at hl 0 rfl) ?_
  refine lv_iconst (v := 4) hx hb dX12_init_898 (by decide) ?_
  obtain ⟨G208, eG208, hf⟩ := bnd_i hf
  refine s_newI E u1_80 hK hI hA 29 (fr_of hCl hOR hn29) hsh29 (by decide) (by decide) (by decide) ⟨by decide, by decide⟩ dX12_init_899 (fun q H hI => ?_)
  rw [← eG208] at hI
  obtain ⟨K209, eK209⟩ : ∃ z, z = K206 ++ [29] := ⟨_, rfl⟩
  obtain ⟨ad209, ea209⟩ : ∃ z, z = adU ad206 29 q := ⟨_, rfl⟩
  rw [← eK209, ← ea209] at hI
  have hin209 : ∀ b ∈ K206, b ∈ K209 := fun b hb => by rw [eK209]; exact List.mem_append_left _ hb
  have hk209 : 29 ∈ K209 := by rw [eK209]; exact List.mem_append_right _ (List.mem_singleton.mpr rfl)
  have hq209 : q = ad209 29 := by rw [ea209]; exact adU_k.symm
  have had209 : ∀ b ∈ K206, ad209 b = ad206 b := fun b hb => by rw [ea209]; exact adU_in hb hn29
  have hr209_0 := had209 _ ((⟨hm_0, hsh0⟩ : 0 ∈ K206 ∧ _)).1
  have had : ∀ b ∈ K, ad209 b = ad b := fun b hb => (had209 b (hsub b hb)).trans (had b hb)
  have hsub : ∀ b ∈ K, b ∈ K209 := fun b hb => hin209 b (hsub b hb)
  have hcl : Bcl (AS K209 ad209 X) B := hclA.mono (AS_D hI.2.1)
  have hm_0 := hin209 _ hm_0
  have hm_1 := hin209 _ hm_1
  have hm_2 := hin209 _ hm_2
  have hm_3 := hin209 _ hm_3
  have hm_4 := hin209 _ hm_4
  have hm_5 := hin209 _ hm_5
  have hm_6 := hin209 _ hm_6
  have hm_7 := hin209 _ hm_7
  have hm_8 := hin209 _ hm_8
  have hm_9 := hin209 _ hm_9
  have hm_10 := hin209 _ hm_10
  have hm_11 := hin209 _ hm_11
  have hm_12 := hin209 _ hm_12
  have hm_13 := hin209 _ hm_13
  have hm_14 := hin209 _ hm_14
  have hm_15 := hin209 _ hm_15
  have hm_16 := hin209 _ hm_16
  have hm_17 := hin209 _ hm_17
  have hm_18 := hin209 _ hm_18
  have hm_19 := hin209 _ hm_19
  have hm_20 := hin209 _ hm_20
  have hm_21 := hin209 _ hm_21
  have hm_22 := hin209 _ hm_22
  have hm_23 := hin209 _ hm_23
  have hm_24 := hin209 _ hm_24
  have hm_25 := hin209 _ hm_25
  have hm_26 := hin209 _ hm_26
  have hm_27 := hin209 _ hm_27
  have hm_28 := hin209 _ hm_28
  have hn30 : 30 ∉ K209 := by rw [eK209]; exact nin_push hn30 (by decide)
  have hn31 : 31 ∉ K209 := by rw [eK209]; exact nin_push hn31 (by decide)
  have hn32 : 32 ∉ K209 := by rw [eK209]; exact nin_push hn32 (by decide)
  have hn33 : 33 ∉ K209 := by rw [eK209]; exact nin_push hn33 (by decide)
  have hn34 : 34 ∉ K209 := by rw [eK209]; exact nin_push hn34 (by decide)
  have hm_29 := hk209
  have hCl : Cl K209 sh := by rw [eK209]; exact hCl.push (by rw [hsh29]; decide)
  have hOR : ORf K209 O207 := hOR.mono hin209
  rw [← hr209_0] at hl
  rw [hq209, ← hr209_0]
  obtain ⟨O210, eO210, hf⟩ := bnd_i hf
  have hOR := hOR.up (k := 0) (j := 52) ((⟨hm_29, hsh29⟩ : 29 ∈ K209 ∧ _)).1
  rw [← eO210] at hOR
  refine s_putOF (ty := tyX12 52) E hnm inU12 tyX12_ok nmX12 hK hI (⟨hm_0, hsh0⟩ : 0 ∈ K209 ∧ _) rfl 52 (by decide) u5_0 (fun _ h => h) rfl rfl rfl (tyX12_ok 52 (by decide)) rfl rfl eO210 dX12_init_901 (fun H locs hI => ?_)
  refine lv_aload_n hx hb dX12_init_904 rfl (lv_at hl 0 rfl) ?_
  refine lv_bipush (v := 10) hx hb dX12_init_905 (by decide) ?_
  obtain ⟨G211, eG211, hf⟩ := bnd_i hf
  refine s_newI E u1_80 hK hI hA 30 (fr_of hCl hOR hn30) hsh30 (by decide) (by decide) (by decide) ⟨by decide, by decide⟩ dX12_init_907 (fun q H hI => ?_)
  rw [← eG211] at hI
  obtain ⟨K212, eK212⟩ : ∃ z, z = K209 ++ [30] := ⟨_, rfl⟩
  obtain ⟨ad212, ea212⟩ : ∃ z, z = adU ad209 30 q := ⟨_, rfl⟩
  rw [← eK212, ← ea212] at hI
  have hin212 : ∀ b ∈ K209, b ∈ K212 := fun b hb => by rw [eK212]; exact List.mem_append_left _ hb
  have hk212 : 30 ∈ K212 := by rw [eK212]; exact List.mem_append_right _ (List.mem_singleton.mpr rfl)
  have hq212 : q = ad212 30 := by rw [ea212]; exact adU_k.symm
  have had212 : ∀ b ∈ K209, ad212 b = ad209 b := fun b hb => by rw [ea212]; exact adU_in hb hn30
  have hr212_0 := had212 _ ((⟨hm_0, hsh0⟩ : 0 ∈ K209 ∧ _)).1
  have had : ∀ b ∈ K, ad212 b = ad b := fun b hb => (had212 b (hsub b hb)).trans (had b hb)
  have hsub : ∀ b ∈ K, b ∈ K212 := fun b hb => hin212 b (hsub b hb)
  have hcl : Bcl (AS K212 ad212 X) B := hclA.mono (AS_D hI.2.1)
  have hm_0 := hin212 _ hm_0
  have hm_1 := hin212 _ hm_1
  have hm_2 := hin212 _ hm_2
  have hm_3 := hin212 _ hm_3
  have hm_4 := hin212 _ hm_4
  have hm_5 := hin212 _ hm_5
  have hm_6 := hin212 _ hm_6
  have hm_7 := hin212 _ hm_7
  have hm_8 := hin212 _ hm_8
  have hm_9 := hin212 _ hm_9
  have hm_10 := hin212 _ hm_10
  have hm_11 := hin212 _ hm_11
  have hm_12 := hin212 _ hm_12
  have hm_13 := hin212 _ hm_13
  have hm_14 := hin212 _ hm_14
  have hm_15 := hin212 _ hm_15
  have hm_16 := hin212 _ hm_16
  have hm_17 := hin212 _ hm_17
  have hm_18 := hin212 _ hm_18
  have hm_19 := hin212 _ hm_19
  have hm_20 := hin212 _ hm_20
  have hm_21 := hin212 _ hm_21
  have hm_22 := hin212 _ hm_22
  have hm_23 := hin212 _ hm_23
  have hm_24 := hin212 _ hm_24
  have hm_25 := hin212 _ hm_25
  have hm_26 := hin212 _ hm_26
  have hm_27 := hin212 _ hm_27
  have hm_28 := hin212 _ hm_28
  have hm_29 := hin212 _ hm_29
  have hn31 : 31 ∉ K212 := by rw [eK212]; exact nin_push hn31 (by decide)
  have hn32 : 32 ∉ K212 := by rw [eK212]; exact nin_push hn32 (by decide)
  have hn33 : 33 ∉ K212 := by rw [eK212]; exact nin_push hn33 (by decide)
  have hn34 : 34 ∉ K212 := by rw [eK212]; exact nin_push hn34 (by decide)
  have hm_30 := hk212
  have hCl : Cl K212 sh := by rw [eK212]; exact hCl.push (by rw [hsh30]; decide)
  have hOR : ORf K212 O210 := hOR.mono hin212
  rw [← hr212_0] at hl
  rw [hq212, ← hr212_0]
  obtain ⟨O213, eO213, hf⟩ := bnd_i hf
  have hOR := hOR.up (k := 0) (j := 53) ((⟨hm_30, hsh30⟩ : 30 ∈ K212 ∧ _)).1
  rw [← eO213] at hOR
  refine s_putOF (ty := tyX12 53) E hnm inU12 tyX12_ok nmX12 hK hI (⟨hm_0, hsh0⟩ : 0 ∈ K212 ∧ _) rfl 53 (by decide) u5_1 (fun _ h => h) rfl rfl rfl (tyX12_ok 53 (by decide)) rfl rfl eO213 dX12_init_909 (fun H locs hI => ?_)
  refine lv_aload_n hx hb dX12_init_912 rfl (lv_at hl 0 rfl) ?_
  refine lv_iconst (v := 4) hx hb dX12_init_913 (by decide) ?_
  obtain ⟨G214, eG214, hf⟩ := bnd_i hf
  refine s_newI E u1_80 hK hI hA 31 (fr_of hCl hOR hn31) hsh31 (by decide) (by decide) (by decide) ⟨by decide, by decide⟩ dX12_init_914 (fun q H hI => ?_)
  rw [← eG214] at hI
  obtain ⟨K215, eK215⟩ : ∃ z, z = K212 ++ [31] := ⟨_, rfl⟩
  obtain ⟨ad215, ea215⟩ : ∃ z, z = adU ad212 31 q := ⟨_, rfl⟩
  rw [← eK215, ← ea215] at hI
  have hin215 : ∀ b ∈ K212, b ∈ K215 := fun b hb => by rw [eK215]; exact List.mem_append_left _ hb
  have hk215 : 31 ∈ K215 := by rw [eK215]; exact List.mem_append_right _ (List.mem_singleton.mpr rfl)
  have hq215 : q = ad215 31 := by rw [ea215]; exact adU_k.symm
  have had215 : ∀ b ∈ K212, ad215 b = ad212 b := fun b hb => by rw [ea215]; exact adU_in hb hn31
  have hr215_0 := had215 _ ((⟨hm_0, hsh0⟩ : 0 ∈ K212 ∧ _)).1
  have had : ∀ b ∈ K, ad215 b = ad b := fun b hb => (had215 b (hsub b hb)).trans (had b hb)
  have hsub : ∀ b ∈ K, b ∈ K215 := fun b hb => hin215 b (hsub b hb)
  have hcl : Bcl (AS K215 ad215 X) B := hclA.mono (AS_D hI.2.1)
  have hm_0 := hin215 _ hm_0
  have hm_1 := hin215 _ hm_1
  have hm_2 := hin215 _ hm_2
  have hm_3 := hin215 _ hm_3
  have hm_4 := hin215 _ hm_4
  have hm_5 := hin215 _ hm_5
  have hm_6 := hin215 _ hm_6
  have hm_7 := hin215 _ hm_7
  have hm_8 := hin215 _ hm_8
  have hm_9 := hin215 _ hm_9
  have hm_10 := hin215 _ hm_10
  have hm_11 := hin215 _ hm_11
  have hm_12 := hin215 _ hm_12
  have hm_13 := hin215 _ hm_13
  have hm_14 := hin215 _ hm_14
  have hm_15 := hin215 _ hm_15
  have hm_16 := hin215 _ hm_16
  have hm_17 := hin215 _ hm_17
  have hm_18 := hin215 _ hm_18
  have hm_19 := hin215 _ hm_19
  have hm_20 := hin215 _ hm_20
  have hm_21 := hin215 _ hm_21
  have hm_22 := hin215 _ hm_22
  have hm_23 := hin215 _ hm_23
  have hm_24 := hin215 _ hm_24
  have hm_25 := hin215 _ hm_25
  have hm_26 := hin215 _ hm_26
  have hm_27 := hin215 _ hm_27
  have hm_28 := hin215 _ hm_28
  have hm_29 := hin215 _ hm_29
  have hm_30 := hin215 _ hm_30
  have hn32 : 32 ∉ K215 := by rw [eK215]; exact nin_push hn32 (by decide)
  have hn33 : 33 ∉ K215 := by rw [eK215]; exact nin_push hn33 (by decide)
  have hn34 : 34 ∉ K215 := by rw [eK215]; exact nin_push hn34 (by decide)
  have hm_31 := hk215
  have hCl : Cl K215 sh := by rw [eK215]; exact hCl.push (by rw [hsh31]; decide)
  have hOR : ORf K215 O213 := hOR.mono hin215
  rw [← hr215_0] at hl
  rw [hq215, ← hr215_0]
  refine lv_dup hx hb dX12_init_916 rfl ?_
  refine lv_iconst (v := 0) hx hb dX12_init_917 (by decide) ?_
  refine lv_iconst (v := (-1)) hx hb dX12_init_918 (by decide) ?_
  obtain ⟨G216, eG216, hf⟩ := bnd_i hf
  refine s_ist hx hb hK hI (⟨hm_31, hsh31⟩ : 31 ∈ K215 ∧ _) (inB_i (by decide)) eG216 dX12_init_919 (fun H locs hI => ?_)
  refine lv_dup hx hb dX12_init_920 rfl ?_
  refine lv_iconst (v := 1) hx hb dX12_init_921 (by decide) ?_
  refine lv_iconst (v := (-1)) hx hb dX12_init_922 (by decide) ?_
  obtain ⟨G217, eG217, hf⟩ := bnd_i hf
  refine s_ist hx hb hK hI (⟨hm_31, hsh31⟩ : 31 ∈ K215 ∧ _) (inB_i (by decide)) eG217 dX12_init_923 (fun H locs hI => ?_)
  refine lv_dup hx hb dX12_init_924 rfl ?_
  refine lv_iconst (v := 2) hx hb dX12_init_925 (by decide) ?_
  refine lv_iconst (v := (-1)) hx hb dX12_init_926 (by decide) ?_
  obtain ⟨G218, eG218, hf⟩ := bnd_i hf
  refine s_ist hx hb hK hI (⟨hm_31, hsh31⟩ : 31 ∈ K215 ∧ _) (inB_i (by decide)) eG218 dX12_init_927 (fun H locs hI => ?_)
  refine lv_dup hx hb dX12_init_928 rfl ?_
  refine lv_iconst (v := 3) hx hb dX12_init_929 (by decide) ?_
  refine lv_iconst (v := (-1)) hx hb dX12_init_930 (by decide) ?_
  obtain ⟨G219, eG219, hf⟩ := bnd_i hf
  refine s_ist hx hb hK hI (⟨hm_31, hsh31⟩ : 31 ∈ K215 ∧ _) (inB_i (by decide)) eG219 dX12_init_931 (fun H locs hI => ?_)
  obtain ⟨O220, eO220, hf⟩ := bnd_i hf
  have hOR := hOR.up (k := 0) (j := 54) ((⟨hm_31, hsh31⟩ : 31 ∈ K215 ∧ _)).1
  rw [← eO220] at hOR
  refine s_putOF (ty := tyX12 54) E hnm inU12 tyX12_ok nmX12 hK hI (⟨hm_0, hsh0⟩ : 0 ∈ K215 ∧ _) rfl 54 (by decide) u5_2 (fun _ h => h) rfl rfl rfl (tyX12_ok 54 (by decide)) rfl rfl eO220 dX12_init_932 (fun H locs hI => ?_)
  refine lv_aload_n hx hb dX12_init_935 rfl (lv_at hl 0 rfl) ?_
  refine lv_iconst (v := 4) hx hb dX12_init_936 (by decide) ?_
  obtain ⟨G221, eG221, hf⟩ := bnd_i hf
  refine s_newI E u1_80 hK hI hA 32 (fr_of hCl hOR hn32) hsh32 (by decide) (by decide) (by decide) ⟨by decide, by decide⟩ dX12_init_937 (fun q H hI => ?_)
  rw [← eG221] at hI
  obtain ⟨K222, eK222⟩ : ∃ z, z = K215 ++ [32] := ⟨_, rfl⟩
  obtain ⟨ad222, ea222⟩ : ∃ z, z = adU ad215 32 q := ⟨_, rfl⟩
  rw [← eK222, ← ea222] at hI
  have hin222 : ∀ b ∈ K215, b ∈ K222 := fun b hb => by rw [eK222]; exact List.mem_append_left _ hb
  have hk222 : 32 ∈ K222 := by rw [eK222]; exact List.mem_append_right _ (List.mem_singleton.mpr rfl)
  have hq222 : q = ad222 32 := by rw [ea222]; exact adU_k.symm
  have had222 : ∀ b ∈ K215, ad222 b = ad215 b := fun b hb => by rw [ea222]; exact adU_in hb hn32
  have hr222_0 := had222 _ ((⟨hm_0, hsh0⟩ : 0 ∈ K215 ∧ _)).1
  have had : ∀ b ∈ K, ad222 b = ad b := fun b hb => (had222 b (hsub b hb)).trans (had b hb)
  have hsub : ∀ b ∈ K, b ∈ K222 := fun b hb => hin222 b (hsub b hb)
  have hcl : Bcl (AS K222 ad222 X) B := hclA.mono (AS_D hI.2.1)
  have hm_0 := hin222 _ hm_0
  have hm_1 := hin222 _ hm_1
  have hm_2 := hin222 _ hm_2
  have hm_3 := hin222 _ hm_3
  have hm_4 := hin222 _ hm_4
  have hm_5 := hin222 _ hm_5
  have hm_6 := hin222 _ hm_6
  have hm_7 := hin222 _ hm_7
  have hm_8 := hin222 _ hm_8
  have hm_9 := hin222 _ hm_9
  have hm_10 := hin222 _ hm_10
  have hm_11 := hin222 _ hm_11
  have hm_12 := hin222 _ hm_12
  have hm_13 := hin222 _ hm_13
  have hm_14 := hin222 _ hm_14
  have hm_15 := hin222 _ hm_15
  have hm_16 := hin222 _ hm_16
  have hm_17 := hin222 _ hm_17
  have hm_18 := hin222 _ hm_18
  have hm_19 := hin222 _ hm_19
  have hm_20 := hin222 _ hm_20
  have hm_21 := hin222 _ hm_21
  have hm_22 := hin222 _ hm_22
  have hm_23 := hin222 _ hm_23
  have hm_24 := hin222 _ hm_24
  have hm_25 := hin222 _ hm_25
  have hm_26 := hin222 _ hm_26
  have hm_27 := hin222 _ hm_27
  have hm_28 := hin222 _ hm_28
  have hm_29 := hin222 _ hm_29
  have hm_30 := hin222 _ hm_30
  have hm_31 := hin222 _ hm_31
  have hn33 : 33 ∉ K222 := by rw [eK222]; exact nin_push hn33 (by decide)
  have hn34 : 34 ∉ K222 := by rw [eK222]; exact nin_push hn34 (by decide)
  have hm_32 := hk222
  have hCl : Cl K222 sh := by rw [eK222]; exact hCl.push (by rw [hsh32]; decide)
  have hOR : ORf K222 O220 := hOR.mono hin222
  rw [← hr222_0] at hl
  rw [hq222, ← hr222_0]
  obtain ⟨O223, eO223, hf⟩ := bnd_i hf
  have hOR := hOR.up (k := 0) (j := 55) ((⟨hm_32, hsh32⟩ : 32 ∈ K222 ∧ _)).1
  rw [← eO223] at hOR
  refine s_putOF (ty := tyX12 55) E hnm inU12 tyX12_ok nmX12 hK hI (⟨hm_0, hsh0⟩ : 0 ∈ K222 ∧ _) rfl 55 (by decide) u5_3 (fun _ h => h) rfl rfl rfl (tyX12_ok 55 (by decide)) rfl rfl eO223 dX12_init_939 (fun H locs hI => ?_)
  refine lv_aload_n hx hb dX12_init_942 rfl (lv_at hl 0 rfl) ?_
  refine lv_sipush (v := 160) hx hb dX12_init_943 (by decide) ?_
  obtain ⟨G224, eG224, hf⟩ := bnd_i hf
  refine s_newI E u1_80 hK hI hA 33 (fr_of hCl hOR hn33) hsh33 (by decide) (by decide) (by decide) ⟨by decide, by decide⟩ dX12_init_946 (fun q H hI => ?_)
  rw [← eG224] at hI
  obtain ⟨K225, eK225⟩ : ∃ z, z = K222 ++ [33] := ⟨_, rfl⟩
  obtain ⟨ad225, ea225⟩ : ∃ z, z = adU ad222 33 q := ⟨_, rfl⟩
  rw [← eK225, ← ea225] at hI
  have hin225 : ∀ b ∈ K222, b ∈ K225 := fun b hb => by rw [eK225]; exact List.mem_append_left _ hb
  have hk225 : 33 ∈ K225 := by rw [eK225]; exact List.mem_append_right _ (List.mem_singleton.mpr rfl)
  have hq225 : q = ad225 33 := by rw [ea225]; exact adU_k.symm
  have had225 : ∀ b ∈ K222, ad225 b = ad222 b := fun b hb => by rw [ea225]; exact adU_in hb hn33
  have hr225_0 := had225 _ ((⟨hm_0, hsh0⟩ : 0 ∈ K222 ∧ _)).1
  have had : ∀ b ∈ K, ad225 b = ad b := fun b hb => (had225 b (hsub b hb)).trans (had b hb)
  have hsub : ∀ b ∈ K, b ∈ K225 := fun b hb => hin225 b (hsub b hb)
  have hcl : Bcl (AS K225 ad225 X) B := hclA.mono (AS_D hI.2.1)
  have hm_0 := hin225 _ hm_0
  have hm_1 := hin225 _ hm_1
  have hm_2 := hin225 _ hm_2
  have hm_3 := hin225 _ hm_3
  have hm_4 := hin225 _ hm_4
  have hm_5 := hin225 _ hm_5
  have hm_6 := hin225 _ hm_6
  have hm_7 := hin225 _ hm_7
  have hm_8 := hin225 _ hm_8
  have hm_9 := hin225 _ hm_9
  have hm_10 := hin225 _ hm_10
  have hm_11 := hin225 _ hm_11
  have hm_12 := hin225 _ hm_12
  have hm_13 := hin225 _ hm_13
  have hm_14 := hin225 _ hm_14
  have hm_15 := hin225 _ hm_15
  have hm_16 := hin225 _ hm_16
  have hm_17 := hin225 _ hm_17
  have hm_18 := hin225 _ hm_18
  have hm_19 := hin225 _ hm_19
  have hm_20 := hin225 _ hm_20
  have hm_21 := hin225 _ hm_21
  have hm_22 := hin225 _ hm_22
  have hm_23 := hin225 _ hm_23
  have hm_24 := hin225 _ hm_24
  have hm_25 := hin225 _ hm_25
  have hm_26 := hin225 _ hm_26
  have hm_27 := hin225 _ hm_27
  have hm_28 := hin225 _ hm_28
  have hm_29 := hin225 _ hm_29
  have hm_30 := hin225 _ hm_30
  have hm_31 := hin225 _ hm_31
  have hm_32 := hin225 _ hm_32
  have hn34 : 34 ∉ K225 := by rw [eK225]; exact nin_push hn34 (by decide)
  have hm_33 := hk225
  have hCl : Cl K225 sh := by rw [eK225]; exact hCl.push (by rw [hsh33]; decide)
  have hOR : ORf K225 O223 := hOR.mono hin225
  rw [← hr225_0] at hl
  rw [hq225, ← hr225_0]
  obtain ⟨O226, eO226, hf⟩ := bnd_i hf
  have hOR := hOR.up (k := 0) (j := 56) ((⟨hm_33, hsh33⟩ : 33 ∈ K225 ∧ _)).1
  rw [← eO226] at hOR
  refine s_putOF (ty := tyX12 56) E hnm inU12 tyX12_ok nmX12 hK hI (⟨hm_0, hsh0⟩ : 0 ∈ K225 ∧ _) rfl 56 (by decide) u5_4 (fun _ h => h) rfl rfl rfl (tyX12_ok 56 (by decide)) rfl rfl eO226 dX12_init_948 (fun H locs hI => ?_)
  refine lv_aload_n hx hb dX12_init_951 rfl (lv_at hl 0 rfl) ?_
  refine lv_bipush (v := 40) hx hb dX12_init_952 (by decide) ?_
  obtain ⟨G227, eG227, hf⟩ := bnd_i hf
  refine s_newI E u1_80 hK hI hA 34 (fr_of hCl hOR hn34) hsh34 (by decide) (by decide) (by decide) ⟨by decide, by decide⟩ dX12_init_954 (fun q H hI => ?_)
  rw [← eG227] at hI
  obtain ⟨K228, eK228⟩ : ∃ z, z = K225 ++ [34] := ⟨_, rfl⟩
  obtain ⟨ad228, ea228⟩ : ∃ z, z = adU ad225 34 q := ⟨_, rfl⟩
  rw [← eK228, ← ea228] at hI
  have hin228 : ∀ b ∈ K225, b ∈ K228 := fun b hb => by rw [eK228]; exact List.mem_append_left _ hb
  have hk228 : 34 ∈ K228 := by rw [eK228]; exact List.mem_append_right _ (List.mem_singleton.mpr rfl)
  have hq228 : q = ad228 34 := by rw [ea228]; exact adU_k.symm
  have had228 : ∀ b ∈ K225, ad228 b = ad225 b := fun b hb => by rw [ea228]; exact adU_in hb hn34
  have hr228_0 := had228 _ ((⟨hm_0, hsh0⟩ : 0 ∈ K225 ∧ _)).1
  have had : ∀ b ∈ K, ad228 b = ad b := fun b hb => (had228 b (hsub b hb)).trans (had b hb)
  have hsub : ∀ b ∈ K, b ∈ K228 := fun b hb => hin228 b (hsub b hb)
  have hcl : Bcl (AS K228 ad228 X) B := hclA.mono (AS_D hI.2.1)
  have hm_0 := hin228 _ hm_0
  have hm_1 := hin228 _ hm_1
  have hm_2 := hin228 _ hm_2
  have hm_3 := hin228 _ hm_3
  have hm_4 := hin228 _ hm_4
  have hm_5 := hin228 _ hm_5
  have hm_6 := hin228 _ hm_6
  have hm_7 := hin228 _ hm_7
  have hm_8 := hin228 _ hm_8
  have hm_9 := hin228 _ hm_9
  have hm_10 := hin228 _ hm_10
  have hm_11 := hin228 _ hm_11
  have hm_12 := hin228 _ hm_12
  have hm_13 := hin228 _ hm_13
  have hm_14 := hin228 _ hm_14
  have hm_15 := hin228 _ hm_15
  have hm_16 := hin228 _ hm_16
  have hm_17 := hin228 _ hm_17
  have hm_18 := hin228 _ hm_18
  have hm_19 := hin228 _ hm_19
  have hm_20 := hin228 _ hm_20
  have hm_21 := hin228 _ hm_21
  have hm_22 := hin228 _ hm_22
  have hm_23 := hin228 _ hm_23
  have hm_24 := hin228 _ hm_24
  have hm_25 := hin228 _ hm_25
  have hm_26 := hin228 _ hm_26
  have hm_27 := hin228 _ hm_27
  have hm_28 := hin228 _ hm_28
  have hm_29 := hin228 _ hm_29
  have hm_30 := hin228 _ hm_30
  have hm_31 := hin228 _ hm_31
  have hm_32 := hin228 _ hm_32
  have hm_33 := hin228 _ hm_33
  have hm_34 := hk228
  have hCl : Cl K228 sh := by rw [eK228]; exact hCl.push (by rw [hsh34]; decide)
  have hOR : ORf K228 O226 := hOR.mono hin228
  rw [← hr228_0] at hl
  rw [hq228, ← hr228_0]
  obtain ⟨O229, eO229, hf⟩ := bnd_i hf
  have hOR := hOR.up (k := 0) (j := 57) ((⟨hm_34, hsh34⟩ : 34 ∈ K228 ∧ _)).1
  rw [← eO229] at hOR
  refine s_putOF (ty := tyX12 57) E hnm inU12 tyX12_ok nmX12 hK hI (⟨hm_0, hsh0⟩ : 0 ∈ K228 ∧ _) rfl 57 (by decide) u5_5 (fun _ h => h) rfl rfl rfl (tyX12_ok 57 (by decide)) rfl rfl eO229 dX12_init_956 (fun H locs hI => ?_)
  cases hf
  subst eK228
  subst eK225
  subst eK222
  subst eK215
  subst eK212
  subst eK209
  subst eK206
  subst eK203
  subst eK200
  subst eK197
  subst eK194
  subst eK191
  subst eK188
  subst eK185
  subst eK182
  subst eK179
  subst eK176
  subst eK161
  subst eK97
  subst eK94
  subst eK91
  subst eK88
  subst eK85
  subst eK82
  subst eK78
  subst eK75
  subst eK72
  subst eK69
  subst eK66
  subst eK63
  subst eK60
  subst eK57
  subst eK54
  subst eK3
  refine W.widen (k := 34) (n := 7428) (by decide) (by decide) ?_
  exact s_vretZ E had rfl rfl hI dX12_init_959

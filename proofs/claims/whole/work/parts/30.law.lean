/-! 198: RegionYardLaw.law([I)Z -/
def L_198_23 (V : xV) (g : xG) (Y : xW) (l4 : Int32) (Q : Int32 → xG → xW → Prop) : Prop := ∀ (h : xH) (lv : xL), RC V g h Y → xlk lv 0 = some (.ref V.2.1) → xlk lv 1 = some (.ref (g.2 (9, 0, 0) 0)) → xlk lv 2 = some (.ref (g.2 (10, 0, 0) 0)) → xlk lv 3 = some (.ref (g.2 (12, 0, 0) 1)) → xlk lv 4 = some (.int l4) → xY V 198 23 lv [] h (lGI V g Q)
def L_198_509 (V : xV) (g : xG) (Y : xW) (l4 : Int32) (l5 : Int32) (l6 : Int32) (Q : Int32 → xG → xW → Prop) : Prop := ∀ (h : xH) (lv : xL), RC V g h Y → xlk lv 0 = some (.ref V.2.1) → xlk lv 1 = some (.ref (g.2 (9, 0, 0) 0)) → xlk lv 2 = some (.ref (g.2 (10, 0, 0) 0)) → xlk lv 3 = some (.ref (g.2 (12, 0, 0) 1)) → xlk lv 4 = some (.int l4) → xlk lv 5 = some (.int l5) → xlk lv 6 = some (.int l6) → xY V 198 509 lv [] h (lGI V g Q)
def L_198_615 (V : xV) (g : xG) (Y : xW) (l4 : Int32) (l5 : Int32) (l6 : Int32) (Q : Int32 → xG → xW → Prop) : Prop := ∀ (h : xH) (lv : xL), RC V g h Y → xlk lv 0 = some (.ref V.2.1) → xlk lv 1 = some (.ref (g.2 (9, 0, 0) 0)) → xlk lv 2 = some (.ref (g.2 (10, 0, 0) 0)) → xlk lv 3 = some (.ref (g.2 (12, 0, 0) 1)) → xlk lv 4 = some (.int l4) → xlk lv 5 = some (.int l5) → xlk lv 6 = some (.int l6) → xY V 198 615 lv [] h (lGI V g Q)
def L_198_671 (V : xV) (g : xG) (Y : xW) (l4 : Int32) (l5 : Int32) (l6 : Int32) (Q : Int32 → xG → xW → Prop) : Prop := ∀ (h : xH) (lv : xL), RC V g h Y → xlk lv 0 = some (.ref V.2.1) → xlk lv 1 = some (.ref (g.2 (9, 0, 0) 0)) → xlk lv 2 = some (.ref (g.2 (10, 0, 0) 0)) → xlk lv 3 = some (.ref (g.2 (12, 0, 0) 1)) → xlk lv 4 = some (.int l4) → xlk lv 5 = some (.int l5) → xlk lv 6 = some (.int l6) → xY V 198 671 lv [] h (lGI V g Q)
def L_198_764 (V : xV) (g : xG) (Y : xW) (l4 : Int32) (l5 : Int32) (l6 : Int32) (Q : Int32 → xG → xW → Prop) : Prop := ∀ (h : xH) (lv : xL), RC V g h Y → xlk lv 0 = some (.ref V.2.1) → xlk lv 1 = some (.ref (g.2 (9, 0, 0) 0)) → xlk lv 2 = some (.ref (g.2 (10, 0, 0) 0)) → xlk lv 3 = some (.ref (g.2 (12, 0, 0) 1)) → xlk lv 4 = some (.int l4) → xlk lv 5 = some (.int l5) → xlk lv 6 = some (.int l6) → xY V 198 764 lv [] h (lGI V g Q)
def L_198_832 (V : xV) (g : xG) (Y : xW) (l4 : Int32) (l5 : Int32) (l6 : Int32) (Q : Int32 → xG → xW → Prop) : Prop := ∀ (h : xH) (lv : xL), RC V g h Y → xlk lv 0 = some (.ref V.2.1) → xlk lv 1 = some (.ref (g.2 (9, 0, 0) 0)) → xlk lv 2 = some (.ref (g.2 (10, 0, 0) 0)) → xlk lv 3 = some (.ref (g.2 (12, 0, 0) 1)) → xlk lv 4 = some (.int l4) → xlk lv 5 = some (.int l5) → xlk lv 6 = some (.int l6) → xY V 198 832 lv [] h (lGI V g Q)
def L_198_887 (V : xV) (g : xG) (Y : xW) (l4 : Int32) (l5 : Int32) (l6 : Int64) (Q : Int32 → xG → xW → Prop) : Prop := ∀ (h : xH) (lv : xL), RC V g h Y → xlk lv 0 = some (.ref V.2.1) → xlk lv 1 = some (.ref (g.2 (9, 0, 0) 0)) → xlk lv 2 = some (.ref (g.2 (10, 0, 0) 0)) → xlk lv 3 = some (.ref (g.2 (12, 0, 0) 1)) → xlk lv 4 = some (.int l4) → xlk lv 5 = some (.int l5) → xlk lv 6 = some (.long l6) → xY V 198 887 lv [] h (lGI V g Q)
def L_198_955 (V : xV) (g : xG) (Y : xW) (l4 : Int32) (l5 : Int32) (l6 : Int32) (Q : Int32 → xG → xW → Prop) : Prop := ∀ (h : xH) (lv : xL), RC V g h Y → xlk lv 0 = some (.ref V.2.1) → xlk lv 1 = some (.ref (g.2 (9, 0, 0) 0)) → xlk lv 2 = some (.ref (g.2 (10, 0, 0) 0)) → xlk lv 3 = some (.ref (g.2 (12, 0, 0) 1)) → xlk lv 4 = some (.int l4) → xlk lv 5 = some (.int l5) → xlk lv 6 = some (.int l6) → xY V 198 955 lv [] h (lGI V g Q)
def L_198_1011 (V : xV) (g : xG) (Y : xW) (l4 : Int32) (l5 : Int32) (l6 : Int32) (Q : Int32 → xG → xW → Prop) : Prop := ∀ (h : xH) (lv : xL), RC V g h Y → xlk lv 0 = some (.ref V.2.1) → xlk lv 1 = some (.ref (g.2 (9, 0, 0) 0)) → xlk lv 2 = some (.ref (g.2 (10, 0, 0) 0)) → xlk lv 3 = some (.ref (g.2 (12, 0, 0) 1)) → xlk lv 4 = some (.int l4) → xlk lv 5 = some (.int l5) → xlk lv 6 = some (.int l6) → xY V 198 1011 lv [] h (lGI V g Q)
def L_198_1067 (V : xV) (g : xG) (Y : xW) (l4 : Int32) (l5 : Int32) (l6 : Int32) (Q : Int32 → xG → xW → Prop) : Prop := ∀ (h : xH) (lv : xL), RC V g h Y → xlk lv 0 = some (.ref V.2.1) → xlk lv 1 = some (.ref (g.2 (9, 0, 0) 0)) → xlk lv 2 = some (.ref (g.2 (10, 0, 0) 0)) → xlk lv 3 = some (.ref (g.2 (12, 0, 0) 1)) → xlk lv 4 = some (.int l4) → xlk lv 5 = some (.int l5) → xlk lv 6 = some (.int l6) → xY V 198 1067 lv [] h (lGI V g Q)
def L_198_1070 (V : xV) (g : xG) (Y : xW) (l4 : Int32) (Q : Int32 → xG → xW → Prop) : Prop := ∀ (h : xH) (lv : xL), RC V g h Y → xlk lv 0 = some (.ref V.2.1) → xlk lv 1 = some (.ref (g.2 (9, 0, 0) 0)) → xlk lv 2 = some (.ref (g.2 (10, 0, 0) 0)) → xlk lv 3 = some (.ref (g.2 (12, 0, 0) 1)) → xlk lv 4 = some (.int l4) → xY V 198 1070 lv [] h (lGI V g Q)
set_option maxRecDepth 20000 in
theorem l_198_23 {V : xV} {g : xG} {Y : xW} {l4 : Int32} {Q : Int32 → xG → xW → Prop} (H : ((((Int32.ofNat V.2.2.1) - 6) < l4) → ((1 : Int32) = 0 ∨ (1 : Int32) = 1) ∧ Q 1 g Y) ∧ (¬ (((Int32.ofNat V.2.2.1) - 6) < l4) → vp_in l4 V.2.2.1 ∧ ((((V.2.2.2 (Int32.toNatClampNeg l4)) &&& 31) = 0 → vp_in (l4 + 1) V.2.2.1 ∧ L_88_0 V g Y (V.2.2.2 (Int32.toNatClampNeg (l4 + 1))) (fun x2 g3 Y1 => vp_in (l4 + 1) V.2.2.1 ∧ L_126_0 V g3 Y1 (V.2.2.2 (Int32.toNatClampNeg (l4 + 1))) (fun x6 Y5 => ((x2 = x6) → L_198_1070 V g3 Y5 l4 Q) ∧ (¬ (x2 = x6) → ((0 : Int32) = 0 ∨ (0 : Int32) = 1) ∧ Q 0 g3 Y5)))) ∧ (((V.2.2.2 (Int32.toNatClampNeg l4)) &&& 31) = 1 → vp_in (l4 + 1) V.2.2.1 ∧ L_89_0 V g Y (V.2.2.2 (Int32.toNatClampNeg (l4 + 1))) (fun x8 Y7 => vp_in (l4 + 1) V.2.2.1 ∧ L_133_0 V g Y7 (V.2.2.2 (Int32.toNatClampNeg (l4 + 1))) (fun x10 Y9 => ((x8 = x10) → L_198_1070 V g Y9 l4 Q) ∧ (¬ (x8 = x10) → ((0 : Int32) = 0 ∨ (0 : Int32) = 1) ∧ Q 0 g Y9)))) ∧ (((V.2.2.2 (Int32.toNatClampNeg l4)) &&& 31) = 2 → vp_in (l4 + 1) V.2.2.1 ∧ vp_in (l4 + 2) V.2.2.1 ∧ L_90_0 V g Y (V.2.2.2 (Int32.toNatClampNeg (l4 + 1))) (V.2.2.2 (Int32.toNatClampNeg (l4 + 2))) (fun x12 g13 Y11 => vp_in (l4 + 1) V.2.2.1 ∧ vp_in (l4 + 2) V.2.2.1 ∧ L_135_0 V g13 Y11 (V.2.2.2 (Int32.toNatClampNeg (l4 + 1))) (V.2.2.2 (Int32.toNatClampNeg (l4 + 2))) (fun x16 Y15 => ((x12 = x16) → L_198_1070 V g13 Y15 l4 Q) ∧ (¬ (x12 = x16) → ((0 : Int32) = 0 ∨ (0 : Int32) = 1) ∧ Q 0 g13 Y15)))) ∧ (((V.2.2.2 (Int32.toNatClampNeg l4)) &&& 31) = 3 → vp_in (l4 + 1) V.2.2.1 ∧ vp_in (l4 + 2) V.2.2.1 ∧ vp_in (l4 + 3) V.2.2.1 ∧ vp_in (l4 + 4) V.2.2.1 ∧ vp_in (l4 + 5) V.2.2.1 ∧ L_91_0 V g Y (V.2.2.2 (Int32.toNatClampNeg (l4 + 1))) (V.2.2.2 (Int32.toNatClampNeg (l4 + 2))) (V.2.2.2 (Int32.toNatClampNeg (l4 + 3))) (V.2.2.2 (Int32.toNatClampNeg (l4 + 4))) (V.2.2.2 (Int32.toNatClampNeg (l4 + 5))) (fun x18 Y17 => vp_in (l4 + 1) V.2.2.1 ∧ vp_in (l4 + 2) V.2.2.1 ∧ vp_in (l4 + 3) V.2.2.1 ∧ vp_in (l4 + 4) V.2.2.1 ∧ vp_in (l4 + 5) V.2.2.1 ∧ L_137_0 V g Y17 (V.2.2.2 (Int32.toNatClampNeg (l4 + 1))) (V.2.2.2 (Int32.toNatClampNeg (l4 + 2))) (V.2.2.2 (Int32.toNatClampNeg (l4 + 3))) (V.2.2.2 (Int32.toNatClampNeg (l4 + 4))) (V.2.2.2 (Int32.toNatClampNeg (l4 + 5))) (fun x20 Y19 => ((x18 = x20) → L_198_1070 V g Y19 l4 Q) ∧ (¬ (x18 = x20) → ((0 : Int32) = 0 ∨ (0 : Int32) = 1) ∧ Q 0 g Y19)))) ∧ (((V.2.2.2 (Int32.toNatClampNeg l4)) &&& 31) = 4 → vp_in (l4 + 1) V.2.2.1 ∧ L_92_0 V g Y (V.2.2.2 (Int32.toNatClampNeg (l4 + 1))) (fun x22 g23 Y21 => vp_in (l4 + 1) V.2.2.1 ∧ L_138_0 V g23 Y21 (V.2.2.2 (Int32.toNatClampNeg (l4 + 1))) (fun x26 Y25 => ((x22 = x26) → L_198_1070 V g23 Y25 l4 Q) ∧ (¬ (x22 = x26) → ((0 : Int32) = 0 ∨ (0 : Int32) = 1) ∧ Q 0 g23 Y25)))) ∧ (((V.2.2.2 (Int32.toNatClampNeg l4)) &&& 31) = 5 → vp_in (l4 + 1) V.2.2.1 ∧ vp_in (l4 + 2) V.2.2.1 ∧ vp_in (l4 + 3) V.2.2.1 ∧ vp_in (l4 + 4) V.2.2.1 ∧ vp_in (l4 + 5) V.2.2.1 ∧ L_93_0 V g Y (V.2.2.2 (Int32.toNatClampNeg (l4 + 1))) (V.2.2.2 (Int32.toNatClampNeg (l4 + 2))) (V.2.2.2 (Int32.toNatClampNeg (l4 + 3))) (V.2.2.2 (Int32.toNatClampNeg (l4 + 4))) (V.2.2.2 (Int32.toNatClampNeg (l4 + 5))) (fun x28 Y27 => vp_in (l4 + 1) V.2.2.1 ∧ vp_in (l4 + 2) V.2.2.1 ∧ vp_in (l4 + 3) V.2.2.1 ∧ vp_in (l4 + 4) V.2.2.1 ∧ vp_in (l4 + 5) V.2.2.1 ∧ L_139_0 V g Y27 (V.2.2.2 (Int32.toNatClampNeg (l4 + 1))) (V.2.2.2 (Int32.toNatClampNeg (l4 + 2))) (V.2.2.2 (Int32.toNatClampNeg (l4 + 3))) (V.2.2.2 (Int32.toNatClampNeg (l4 + 4))) (V.2.2.2 (Int32.toNatClampNeg (l4 + 5))) (fun x30 Y29 => ((x28 = x30) → L_198_1070 V g Y29 l4 Q) ∧ (¬ (x28 = x30) → ((0 : Int32) = 0 ∨ (0 : Int32) = 1) ∧ Q 0 g Y29)))) ∧ (((V.2.2.2 (Int32.toNatClampNeg l4)) &&& 31) = 6 → vp_in (l4 + 1) V.2.2.1 ∧ vp_in (l4 + 2) V.2.2.1 ∧ L_94_0 V g Y (V.2.2.2 (Int32.toNatClampNeg (l4 + 1))) (V.2.2.2 (Int32.toNatClampNeg (l4 + 2))) (fun x32 g33 Y31 => vp_in (l4 + 1) V.2.2.1 ∧ vp_in (l4 + 2) V.2.2.1 ∧ L_140_0 V g33 Y31 (V.2.2.2 (Int32.toNatClampNeg (l4 + 1))) (V.2.2.2 (Int32.toNatClampNeg (l4 + 2))) (fun x36 Y35 => ((x32 = x36) → L_198_1070 V g33 Y35 l4 Q) ∧ (¬ (x32 = x36) → ((0 : Int32) = 0 ∨ (0 : Int32) = 1) ∧ Q 0 g33 Y35)))) ∧ (((V.2.2.2 (Int32.toNatClampNeg l4)) &&& 31) = 7 → L_95_0 V g Y  (fun x38 Y37 => L_162_0 V g Y37  (fun x40 Y39 => ((x38 = x40) → L_198_1070 V g Y39 l4 Q) ∧ (¬ (x38 = x40) → ((0 : Int32) = 0 ∨ (0 : Int32) = 1) ∧ Q 0 g Y39)))) ∧ (((V.2.2.2 (Int32.toNatClampNeg l4)) &&& 31) = 8 → vp_in (l4 + 1) V.2.2.1 ∧ vp_in (l4 + 2) V.2.2.1 ∧ L_189_0 V g Y (V.2.2.2 (Int32.toNatClampNeg (l4 + 1))) (V.2.2.2 (Int32.toNatClampNeg (l4 + 2))) (fun x42 Y41 => vp_in (l4 + 1) V.2.2.1 ∧ vp_in (l4 + 2) V.2.2.1 ∧ L_164_0 V g Y41 (V.2.2.2 (Int32.toNatClampNeg (l4 + 1))) (V.2.2.2 (Int32.toNatClampNeg (l4 + 2))) (fun x44 Y43 => L_124_0 V g Y43  (fun x46 Y45 => ((x46 = x42) → ((x42 = 0) → vp_in 0 1 ∧ (((fL Y45 (12, 0, 0) 0 (Int32.toNatClampNeg 0)) = (Int32.toInt64 x44)) → L_198_509 V g Y45 l4 x42 x44 Q) ∧ (¬ ((fL Y45 (12, 0, 0) 0 (Int32.toNatClampNeg 0)) = (Int32.toInt64 x44)) → ((0 : Int32) = 0 ∨ (0 : Int32) = 1) ∧ Q 0 g Y45)) ∧ (¬ (x42 = 0) → L_198_509 V g Y45 l4 x42 x44 Q)) ∧ (¬ (x46 = x42) → ((0 : Int32) = 0 ∨ (0 : Int32) = 1) ∧ Q 0 g Y45))))) ∧ (((V.2.2.2 (Int32.toNatClampNeg l4)) &&& 31) = 9 → vp_in (l4 + 1) V.2.2.1 ∧ vp_in (l4 + 2) V.2.2.1 ∧ L_97_0 V g Y (V.2.2.2 (Int32.toNatClampNeg (l4 + 1))) (V.2.2.2 (Int32.toNatClampNeg (l4 + 2))) (fun x48 g49 Y47 => vp_in (l4 + 1) V.2.2.1 ∧ vp_in (l4 + 2) V.2.2.1 ∧ L_165_0 V g49 Y47 (V.2.2.2 (Int32.toNatClampNeg (l4 + 1))) (V.2.2.2 (Int32.toNatClampNeg (l4 + 2))) (fun x52 Y51 => ((x48 = x52) → L_198_1070 V g49 Y51 l4 Q) ∧ (¬ (x48 = x52) → ((0 : Int32) = 0 ∨ (0 : Int32) = 1) ∧ Q 0 g49 Y51)))) ∧ (((V.2.2.2 (Int32.toNatClampNeg l4)) &&& 31) = 10 → L_98_0 V g Y  (fun x54 Y53 => L_172_0 V g Y53  (fun x56 Y55 => ((x54 = x56) → L_198_1070 V g Y55 l4 Q) ∧ (¬ (x54 = x56) → ((0 : Int32) = 0 ∨ (0 : Int32) = 1) ∧ Q 0 g Y55)))) ∧ (((V.2.2.2 (Int32.toNatClampNeg l4)) &&& 31) = 11 → vp_in (l4 + 1) V.2.2.1 ∧ L_190_0 V g Y (V.2.2.2 (Int32.toNatClampNeg (l4 + 1))) (fun x58 Y57 => vp_in (l4 + 1) V.2.2.1 ∧ L_173_0 V g Y57 (V.2.2.2 (Int32.toNatClampNeg (l4 + 1))) (fun x60 Y59 => L_124_0 V g Y59  (fun x62 Y61 => ((x62 = x58) → ((x58 = 0) → vp_in 0 1 ∧ (((fL Y61 (12, 0, 0) 0 (Int32.toNatClampNeg 0)) = (Int32.toInt64 x60)) → L_198_615 V g Y61 l4 x58 x60 Q) ∧ (¬ ((fL Y61 (12, 0, 0) 0 (Int32.toNatClampNeg 0)) = (Int32.toInt64 x60)) → ((0 : Int32) = 0 ∨ (0 : Int32) = 1) ∧ Q 0 g Y61)) ∧ (¬ (x58 = 0) → L_198_615 V g Y61 l4 x58 x60 Q)) ∧ (¬ (x62 = x58) → ((0 : Int32) = 0 ∨ (0 : Int32) = 1) ∧ Q 0 g Y61))))) ∧ (((V.2.2.2 (Int32.toNatClampNeg l4)) &&& 31) = 12 → vp_in (l4 + 1) V.2.2.1 ∧ L_191_0 V g Y (V.2.2.2 (Int32.toNatClampNeg (l4 + 1))) (fun x64 Y63 => vp_in (l4 + 1) V.2.2.1 ∧ L_174_0 V g Y63 (V.2.2.2 (Int32.toNatClampNeg (l4 + 1))) (fun x66 Y65 => L_124_0 V g Y65  (fun x68 Y67 => ((x68 = x64) → ((x64 = 0) → vp_in 0 1 ∧ (((fL Y67 (12, 0, 0) 0 (Int32.toNatClampNeg 0)) = (Int32.toInt64 x66)) → L_198_671 V g Y67 l4 x64 x66 Q) ∧ (¬ ((fL Y67 (12, 0, 0) 0 (Int32.toNatClampNeg 0)) = (Int32.toInt64 x66)) → ((0 : Int32) = 0 ∨ (0 : Int32) = 1) ∧ Q 0 g Y67)) ∧ (¬ (x64 = 0) → L_198_671 V g Y67 l4 x64 x66 Q)) ∧ (¬ (x68 = x64) → ((0 : Int32) = 0 ∨ (0 : Int32) = 1) ∧ Q 0 g Y67))))) ∧ (((V.2.2.2 (Int32.toNatClampNeg l4)) &&& 31) = 13 → vp_in (l4 + 1) V.2.2.1 ∧ L_101_0 V g Y (V.2.2.2 (Int32.toNatClampNeg (l4 + 1))) (fun x70 Y69 => vp_in (l4 + 1) V.2.2.1 ∧ L_177_0 V g Y69 (V.2.2.2 (Int32.toNatClampNeg (l4 + 1))) (fun x72 Y71 => ((x70 = x72) → L_198_1070 V g Y71 l4 Q) ∧ (¬ (x70 = x72) → ((0 : Int32) = 0 ∨ (0 : Int32) = 1) ∧ Q 0 g Y71)))) ∧ (((V.2.2.2 (Int32.toNatClampNeg l4)) &&& 31) = 14 → vp_in (l4 + 1) V.2.2.1 ∧ vp_in (l4 + 2) V.2.2.1 ∧ L_192_0 V g Y (V.2.2.2 (Int32.toNatClampNeg (l4 + 1))) (V.2.2.2 (Int32.toNatClampNeg (l4 + 2))) (fun x74 Y73 => vp_in (l4 + 1) V.2.2.1 ∧ vp_in (l4 + 2) V.2.2.1 ∧ L_178_0 V g Y73 (V.2.2.2 (Int32.toNatClampNeg (l4 + 1))) (V.2.2.2 (Int32.toNatClampNeg (l4 + 2))) (fun x76 Y75 => L_124_0 V g Y75  (fun x78 Y77 => ((x78 = x74) → ((x74 = 0) → vp_in 0 1 ∧ (((fL Y77 (12, 0, 0) 0 (Int32.toNatClampNeg 0)) = (Int32.toInt64 x76)) → L_198_764 V g Y77 l4 x74 x76 Q) ∧ (¬ ((fL Y77 (12, 0, 0) 0 (Int32.toNatClampNeg 0)) = (Int32.toInt64 x76)) → ((0 : Int32) = 0 ∨ (0 : Int32) = 1) ∧ Q 0 g Y77)) ∧ (¬ (x74 = 0) → L_198_764 V g Y77 l4 x74 x76 Q)) ∧ (¬ (x78 = x74) → ((0 : Int32) = 0 ∨ (0 : Int32) = 1) ∧ Q 0 g Y77))))) ∧ (((V.2.2.2 (Int32.toNatClampNeg l4)) &&& 31) = 15 → vp_in (l4 + 1) V.2.2.1 ∧ vp_in (l4 + 2) V.2.2.1 ∧ L_193_0 V g Y (V.2.2.2 (Int32.toNatClampNeg (l4 + 1))) (V.2.2.2 (Int32.toNatClampNeg (l4 + 2))) (fun x80 Y79 => vp_in (l4 + 1) V.2.2.1 ∧ vp_in (l4 + 2) V.2.2.1 ∧ L_179_0 V g Y79 (V.2.2.2 (Int32.toNatClampNeg (l4 + 1))) (V.2.2.2 (Int32.toNatClampNeg (l4 + 2))) (fun x82 Y81 => L_124_0 V g Y81  (fun x84 Y83 => ((x84 = x80) → ((x80 = 0) → vp_in 0 1 ∧ (((fL Y83 (12, 0, 0) 0 (Int32.toNatClampNeg 0)) = (Int32.toInt64 x82)) → L_198_832 V g Y83 l4 x80 x82 Q) ∧ (¬ ((fL Y83 (12, 0, 0) 0 (Int32.toNatClampNeg 0)) = (Int32.toInt64 x82)) → ((0 : Int32) = 0 ∨ (0 : Int32) = 1) ∧ Q 0 g Y83)) ∧ (¬ (x80 = 0) → L_198_832 V g Y83 l4 x80 x82 Q)) ∧ (¬ (x84 = x80) → ((0 : Int32) = 0 ∨ (0 : Int32) = 1) ∧ Q 0 g Y83))))) ∧ (((V.2.2.2 (Int32.toNatClampNeg l4)) &&& 31) = 16 → vp_in (l4 + 1) V.2.2.1 ∧ L_194_0 V g Y (V.2.2.2 (Int32.toNatClampNeg (l4 + 1))) (fun x86 Y85 => vp_in (l4 + 1) V.2.2.1 ∧ L_180_0 V g Y85 (V.2.2.2 (Int32.toNatClampNeg (l4 + 1))) (fun x88 Y87 => L_124_0 V g Y87  (fun x90 Y89 => ((x90 = x86) → ((x86 = 0) → vp_in 0 1 ∧ (((fL Y89 (12, 0, 0) 0 (Int32.toNatClampNeg 0)) = x88) → L_198_887 V g Y89 l4 x86 x88 Q) ∧ (¬ ((fL Y89 (12, 0, 0) 0 (Int32.toNatClampNeg 0)) = x88) → ((0 : Int32) = 0 ∨ (0 : Int32) = 1) ∧ Q 0 g Y89)) ∧ (¬ (x86 = 0) → L_198_887 V g Y89 l4 x86 x88 Q)) ∧ (¬ (x90 = x86) → ((0 : Int32) = 0 ∨ (0 : Int32) = 1) ∧ Q 0 g Y89))))) ∧ (((V.2.2.2 (Int32.toNatClampNeg l4)) &&& 31) = 17 → vp_in (l4 + 1) V.2.2.1 ∧ vp_in (l4 + 2) V.2.2.1 ∧ L_195_0 V g Y (V.2.2.2 (Int32.toNatClampNeg (l4 + 1))) (V.2.2.2 (Int32.toNatClampNeg (l4 + 2))) (fun x92 Y91 => vp_in (l4 + 1) V.2.2.1 ∧ vp_in (l4 + 2) V.2.2.1 ∧ L_181_0 V g Y91 (V.2.2.2 (Int32.toNatClampNeg (l4 + 1))) (V.2.2.2 (Int32.toNatClampNeg (l4 + 2))) (fun x94 Y93 => L_124_0 V g Y93  (fun x96 Y95 => ((x96 = x92) → ((x92 = 0) → vp_in 0 1 ∧ (((fL Y95 (12, 0, 0) 0 (Int32.toNatClampNeg 0)) = (Int32.toInt64 x94)) → L_198_955 V g Y95 l4 x92 x94 Q) ∧ (¬ ((fL Y95 (12, 0, 0) 0 (Int32.toNatClampNeg 0)) = (Int32.toInt64 x94)) → ((0 : Int32) = 0 ∨ (0 : Int32) = 1) ∧ Q 0 g Y95)) ∧ (¬ (x92 = 0) → L_198_955 V g Y95 l4 x92 x94 Q)) ∧ (¬ (x96 = x92) → ((0 : Int32) = 0 ∨ (0 : Int32) = 1) ∧ Q 0 g Y95))))) ∧ (((V.2.2.2 (Int32.toNatClampNeg l4)) &&& 31) = 18 → vp_in (l4 + 1) V.2.2.1 ∧ L_196_0 V g Y (V.2.2.2 (Int32.toNatClampNeg (l4 + 1))) (fun x98 Y97 => vp_in (l4 + 1) V.2.2.1 ∧ L_182_0 V g Y97 (V.2.2.2 (Int32.toNatClampNeg (l4 + 1))) (fun x100 Y99 => L_124_0 V g Y99  (fun x102 Y101 => ((x102 = x98) → ((x98 = 0) → vp_in 0 1 ∧ (((fL Y101 (12, 0, 0) 0 (Int32.toNatClampNeg 0)) = (Int32.toInt64 x100)) → L_198_1011 V g Y101 l4 x98 x100 Q) ∧ (¬ ((fL Y101 (12, 0, 0) 0 (Int32.toNatClampNeg 0)) = (Int32.toInt64 x100)) → ((0 : Int32) = 0 ∨ (0 : Int32) = 1) ∧ Q 0 g Y101)) ∧ (¬ (x98 = 0) → L_198_1011 V g Y101 l4 x98 x100 Q)) ∧ (¬ (x102 = x98) → ((0 : Int32) = 0 ∨ (0 : Int32) = 1) ∧ Q 0 g Y101))))) ∧ (((V.2.2.2 (Int32.toNatClampNeg l4)) &&& 31) = 19 → vp_in (l4 + 1) V.2.2.1 ∧ L_197_0 V g Y (V.2.2.2 (Int32.toNatClampNeg (l4 + 1))) (fun x104 Y103 => vp_in (l4 + 1) V.2.2.1 ∧ L_183_0 V g Y103 (V.2.2.2 (Int32.toNatClampNeg (l4 + 1))) (fun x106 Y105 => L_124_0 V g Y105  (fun x108 Y107 => ((x108 = x104) → ((x104 = 0) → vp_in 0 1 ∧ (((fL Y107 (12, 0, 0) 0 (Int32.toNatClampNeg 0)) = (Int32.toInt64 x106)) → L_198_1067 V g Y107 l4 x104 x106 Q) ∧ (¬ ((fL Y107 (12, 0, 0) 0 (Int32.toNatClampNeg 0)) = (Int32.toInt64 x106)) → ((0 : Int32) = 0 ∨ (0 : Int32) = 1) ∧ Q 0 g Y107)) ∧ (¬ (x104 = 0) → L_198_1067 V g Y107 l4 x104 x106 Q)) ∧ (¬ (x108 = x104) → ((0 : Int32) = 0 ∨ (0 : Int32) = 1) ∧ Q 0 g Y107)))))) ∧ ((Int32.toInt ((V.2.2.2 (Int32.toNatClampNeg l4)) &&& 31) < 0 ∨ 19 < Int32.toInt ((V.2.2.2 (Int32.toNatClampNeg l4)) &&& 31)) → L_198_1070 V g Y l4 Q))) : L_198_23 V g Y l4 Q := by
  intro h lv R e0 e1 e2 e3 e4
  refine y_next (pc' := 25) (xst_of (i := (.iload 4)) (len := 2) rfl rfl (x_ilo e4)) ?_
  refine y_next (pc' := 26) (xst_of (i := (.aload_n 0)) (len := 1) rfl rfl (x_aloadV (xisV_r _) e0)) ?_
  refine z_Sn rfl R ?_
  refine y_next (pc' := 29) (xst_of (i := (.bipush 6)) (len := 2) rfl rfl (x_bip (v := 6) (by decide))) ?_
  refine y_next (pc' := 30) (xst_of (i := .isub) (len := 1) rfl rfl rfl) ?_
  by_cases hc : ((Int32.ofNat V.2.2.1) - 6) < l4
  · replace H := H.1 hc
    refine y_next (xst_of (i := (.if_icmp .gt 1046)) (len := 3) rfl rfl (xt_icmp_gt (t := 1076) rfl hc)) ?_
    refine y_next (pc' := 1077) (xst_of (i := (.iconst 1)) (len := 1) rfl rfl (x_ico (v := 1) (by decide))) ?_
    exact y_ret (xst_of (i := .ireturn) (len := 1) rfl rfl (x_zret rfl H.1)) ⟨_, _, _, rfl, R, xle_r, H.2⟩
  · replace H := H.2 hc
    refine y_next (pc' := 33) (xst_of (i := (.if_icmp .gt 1046)) (len := 3) rfl rfl (xf_icmp_gt (t := 1076) rfl hc)) ?_
    refine y_next (pc' := 34) (xst_of (i := (.aload_n 0)) (len := 1) rfl rfl (x_aloadV (xisV_r _) e0)) ?_
    refine y_next (pc' := 36) (xst_of (i := (.iload 4)) (len := 2) rfl rfl (x_ilo e4)) ?_
    refine z_S (i := l4) rfl R H.1 ?_
    replace H := H.2
    refine y_next (pc' := 39) (xst_of (i := (.bipush 31)) (len := 2) rfl rfl (x_bip (v := 31) (by decide))) ?_
    refine y_next (pc' := 40) (xst_of (i := .iand) (len := 1) rfl rfl rfl) ?_
    by_cases hx : Int32.toInt ((V.2.2.2 (Int32.toNatClampNeg l4)) &&& 31) < 0 ∨ 19 < Int32.toInt ((V.2.2.2 (Int32.toNatClampNeg l4)) &&& 31)
    · replace H := H.2 hx
      refine y_next (xst_of (i := (.tableswitch 1030 0 19 #[96, 121, 146, 183, 256, 281, 354, 391, 404, 472, 509, 522, 578, 634, 659, 727, 795, 850, 918, 974])) (len := 96) rfl rfl (x_sw_out (t := 1070) hx rfl)) ?_
      exact H _ _ R e0 e1 e2 e3 e4
    · replace H := H.1
      have hy : Int32.toInt ((V.2.2.2 (Int32.toNatClampNeg l4)) &&& 31) = 0 ∨ Int32.toInt ((V.2.2.2 (Int32.toNatClampNeg l4)) &&& 31) = 1 ∨ Int32.toInt ((V.2.2.2 (Int32.toNatClampNeg l4)) &&& 31) = 2 ∨ Int32.toInt ((V.2.2.2 (Int32.toNatClampNeg l4)) &&& 31) = 3 ∨ Int32.toInt ((V.2.2.2 (Int32.toNatClampNeg l4)) &&& 31) = 4 ∨ Int32.toInt ((V.2.2.2 (Int32.toNatClampNeg l4)) &&& 31) = 5 ∨ Int32.toInt ((V.2.2.2 (Int32.toNatClampNeg l4)) &&& 31) = 6 ∨ Int32.toInt ((V.2.2.2 (Int32.toNatClampNeg l4)) &&& 31) = 7 ∨ Int32.toInt ((V.2.2.2 (Int32.toNatClampNeg l4)) &&& 31) = 8 ∨ Int32.toInt ((V.2.2.2 (Int32.toNatClampNeg l4)) &&& 31) = 9 ∨ Int32.toInt ((V.2.2.2 (Int32.toNatClampNeg l4)) &&& 31) = 10 ∨ Int32.toInt ((V.2.2.2 (Int32.toNatClampNeg l4)) &&& 31) = 11 ∨ Int32.toInt ((V.2.2.2 (Int32.toNatClampNeg l4)) &&& 31) = 12 ∨ Int32.toInt ((V.2.2.2 (Int32.toNatClampNeg l4)) &&& 31) = 13 ∨ Int32.toInt ((V.2.2.2 (Int32.toNatClampNeg l4)) &&& 31) = 14 ∨ Int32.toInt ((V.2.2.2 (Int32.toNatClampNeg l4)) &&& 31) = 15 ∨ Int32.toInt ((V.2.2.2 (Int32.toNatClampNeg l4)) &&& 31) = 16 ∨ Int32.toInt ((V.2.2.2 (Int32.toNatClampNeg l4)) &&& 31) = 17 ∨ Int32.toInt ((V.2.2.2 (Int32.toNatClampNeg l4)) &&& 31) = 18 ∨ Int32.toInt ((V.2.2.2 (Int32.toNatClampNeg l4)) &&& 31) = 19 := by omega
      rcases hy with hy | hy | hy | hy | hy | hy | hy | hy | hy | hy | hy | hy | hy | hy | hy | hy | hy | hy | hy | hy
      · replace H := H.1
        have hz : ((V.2.2.2 (Int32.toNatClampNeg l4)) &&& 31) = 0 := Int32.toInt_inj.mp (hy.trans rfl)
        replace H := H hz
        refine y_next (xst_of (i := (.tableswitch 1030 0 19 #[96, 121, 146, 183, 256, 281, 354, 391, 404, 472, 509, 522, 578, 634, 659, 727, 795, 850, 918, 974])) (len := 96) rfl rfl (x_sw_in (t := 136) hx (by rw [hy]; rfl) rfl)) ?_
        refine y_next (pc' := 137) (xst_of (i := (.aload_n 1)) (len := 1) rfl rfl (x_aloadV (xisV_r _) e1)) ?_
        refine y_next (pc' := 138) (xst_of (i := (.aload_n 0)) (len := 1) rfl rfl (x_aloadV (xisV_r _) e0)) ?_
        refine y_next (pc' := 140) (xst_of (i := (.iload 4)) (len := 2) rfl rfl (x_ilo e4)) ?_
        refine y_next (pc' := 141) (xst_of (i := (.iconst 1)) (len := 1) rfl rfl (x_ico (v := 1) (by decide))) ?_
        refine y_next (pc' := 142) (xst_of (i := .iadd) (len := 1) rfl rfl rfl) ?_
        refine z_S (i := (l4 + 1)) rfl R H.1 ?_
        replace H := H.2
        refine z_cG (k := 88) (i := (.invokevirtual 47)) (as := [.ref (g.2 (9, 0, 0) 0), .int (V.2.2.2 (Int32.toNatClampNeg (l4 + 1)))]) (rest := []) rfl rfl (x_callv rfl rfl (rc_ob R (rc_9 R) rfl) rfl rfl) (H _ _ R rfl rfl) (fun x2 h g3 Y1 R1 hle4 H => ?_)
        replace e1 := e1.trans (mv_O hle4 (rc_9 R) 0)
        replace e2 := e2.trans (mv_O hle4 (rc_10 R) 0)
        replace e3 := e3.trans (mv_O hle4 (rc_12 R) 1)
        clear R
        have R := R1
        clear R1
        refine y_next (pc' := 147) (xst_of (i := (.aload_n 2)) (len := 1) rfl rfl (x_aloadV (xisV_r _) e2)) ?_
        refine y_next (pc' := 148) (xst_of (i := (.aload_n 0)) (len := 1) rfl rfl (x_aloadV (xisV_r _) e0)) ?_
        refine y_next (pc' := 150) (xst_of (i := (.iload 4)) (len := 2) rfl rfl (x_ilo e4)) ?_
        refine y_next (pc' := 151) (xst_of (i := (.iconst 1)) (len := 1) rfl rfl (x_ico (v := 1) (by decide))) ?_
        refine y_next (pc' := 152) (xst_of (i := .iadd) (len := 1) rfl rfl rfl) ?_
        refine z_S (i := (l4 + 1)) rfl R H.1 ?_
        replace H := H.2
        refine z_cI (k := 126) (i := (.invokevirtual 50)) (as := [.ref (g3.2 (10, 0, 0) 0), .int (V.2.2.2 (Int32.toNatClampNeg (l4 + 1)))]) (rest := [.int x2]) rfl rfl (x_callv rfl rfl (rc_ob R (rc_10 R) rfl) rfl rfl) (H _ _ R rfl rfl) (fun x6 h Y5 R H => ?_)
        by_cases hc : x2 = x6
        · replace H := H.1 hc
          refine y_next (xst_of (i := (.if_icmp .eq 914)) (len := 3) rfl rfl (xt_icmp_eq (t := 1070) rfl hc)) ?_
          exact (H _ _ R e0 e1 e2 e3 e4).imp (lGI_le hle4)
        · replace H := H.2 hc
          refine y_next (pc' := 159) (xst_of (i := (.if_icmp .eq 914)) (len := 3) rfl rfl (xf_icmp_eq (t := 1070) rfl hc)) ?_
          refine y_next (pc' := 160) (xst_of (i := (.iconst 0)) (len := 1) rfl rfl (x_ico (v := 0) (by decide))) ?_
          exact y_ret (xst_of (i := .ireturn) (len := 1) rfl rfl (x_zret rfl H.1)) ⟨_, _, _, rfl, R, hle4, H.2⟩
      · replace H := H.2.1
        have hz : ((V.2.2.2 (Int32.toNatClampNeg l4)) &&& 31) = 1 := Int32.toInt_inj.mp (hy.trans rfl)
        replace H := H hz
        refine y_next (xst_of (i := (.tableswitch 1030 0 19 #[96, 121, 146, 183, 256, 281, 354, 391, 404, 472, 509, 522, 578, 634, 659, 727, 795, 850, 918, 974])) (len := 96) rfl rfl (x_sw_in (t := 161) hx (by rw [hy]; rfl) rfl)) ?_
        refine y_next (pc' := 162) (xst_of (i := (.aload_n 1)) (len := 1) rfl rfl (x_aloadV (xisV_r _) e1)) ?_
        refine y_next (pc' := 163) (xst_of (i := (.aload_n 0)) (len := 1) rfl rfl (x_aloadV (xisV_r _) e0)) ?_
        refine y_next (pc' := 165) (xst_of (i := (.iload 4)) (len := 2) rfl rfl (x_ilo e4)) ?_
        refine y_next (pc' := 166) (xst_of (i := (.iconst 1)) (len := 1) rfl rfl (x_ico (v := 1) (by decide))) ?_
        refine y_next (pc' := 167) (xst_of (i := .iadd) (len := 1) rfl rfl rfl) ?_
        refine z_S (i := (l4 + 1)) rfl R H.1 ?_
        replace H := H.2
        refine z_cI (k := 89) (i := (.invokevirtual 51)) (as := [.ref (g.2 (9, 0, 0) 0), .int (V.2.2.2 (Int32.toNatClampNeg (l4 + 1)))]) (rest := []) rfl rfl (x_callv rfl rfl (rc_ob R (rc_9 R) rfl) rfl rfl) (H _ _ R rfl rfl) (fun x8 h Y7 R H => ?_)
        refine y_next (pc' := 172) (xst_of (i := (.aload_n 2)) (len := 1) rfl rfl (x_aloadV (xisV_r _) e2)) ?_
        refine y_next (pc' := 173) (xst_of (i := (.aload_n 0)) (len := 1) rfl rfl (x_aloadV (xisV_r _) e0)) ?_
        refine y_next (pc' := 175) (xst_of (i := (.iload 4)) (len := 2) rfl rfl (x_ilo e4)) ?_
        refine y_next (pc' := 176) (xst_of (i := (.iconst 1)) (len := 1) rfl rfl (x_ico (v := 1) (by decide))) ?_
        refine y_next (pc' := 177) (xst_of (i := .iadd) (len := 1) rfl rfl rfl) ?_
        refine z_S (i := (l4 + 1)) rfl R H.1 ?_
        replace H := H.2
        refine z_cI (k := 133) (i := (.invokevirtual 54)) (as := [.ref (g.2 (10, 0, 0) 0), .int (V.2.2.2 (Int32.toNatClampNeg (l4 + 1)))]) (rest := [.int x8]) rfl rfl (x_callv rfl rfl (rc_ob R (rc_10 R) rfl) rfl rfl) (H _ _ R rfl rfl) (fun x10 h Y9 R H => ?_)
        by_cases hc : x8 = x10
        · replace H := H.1 hc
          refine y_next (xst_of (i := (.if_icmp .eq 889)) (len := 3) rfl rfl (xt_icmp_eq (t := 1070) rfl hc)) ?_
          exact H _ _ R e0 e1 e2 e3 e4
        · replace H := H.2 hc
          refine y_next (pc' := 184) (xst_of (i := (.if_icmp .eq 889)) (len := 3) rfl rfl (xf_icmp_eq (t := 1070) rfl hc)) ?_
          refine y_next (pc' := 185) (xst_of (i := (.iconst 0)) (len := 1) rfl rfl (x_ico (v := 0) (by decide))) ?_
          exact y_ret (xst_of (i := .ireturn) (len := 1) rfl rfl (x_zret rfl H.1)) ⟨_, _, _, rfl, R, xle_r, H.2⟩
      · replace H := H.2.2.1
        have hz : ((V.2.2.2 (Int32.toNatClampNeg l4)) &&& 31) = 2 := Int32.toInt_inj.mp (hy.trans rfl)
        replace H := H hz
        refine y_next (xst_of (i := (.tableswitch 1030 0 19 #[96, 121, 146, 183, 256, 281, 354, 391, 404, 472, 509, 522, 578, 634, 659, 727, 795, 850, 918, 974])) (len := 96) rfl rfl (x_sw_in (t := 186) hx (by rw [hy]; rfl) rfl)) ?_
        refine y_next (pc' := 187) (xst_of (i := (.aload_n 1)) (len := 1) rfl rfl (x_aloadV (xisV_r _) e1)) ?_
        refine y_next (pc' := 188) (xst_of (i := (.aload_n 0)) (len := 1) rfl rfl (x_aloadV (xisV_r _) e0)) ?_
        refine y_next (pc' := 190) (xst_of (i := (.iload 4)) (len := 2) rfl rfl (x_ilo e4)) ?_
        refine y_next (pc' := 191) (xst_of (i := (.iconst 1)) (len := 1) rfl rfl (x_ico (v := 1) (by decide))) ?_
        refine y_next (pc' := 192) (xst_of (i := .iadd) (len := 1) rfl rfl rfl) ?_
        refine z_S (i := (l4 + 1)) rfl R H.1 ?_
        replace H := H.2
        refine y_next (pc' := 194) (xst_of (i := (.aload_n 0)) (len := 1) rfl rfl (x_aloadV (xisV_r _) e0)) ?_
        refine y_next (pc' := 196) (xst_of (i := (.iload 4)) (len := 2) rfl rfl (x_ilo e4)) ?_
        refine y_next (pc' := 197) (xst_of (i := (.iconst 2)) (len := 1) rfl rfl (x_ico (v := 2) (by decide))) ?_
        refine y_next (pc' := 198) (xst_of (i := .iadd) (len := 1) rfl rfl rfl) ?_
        refine z_S (i := (l4 + 2)) rfl R H.1 ?_
        replace H := H.2
        refine z_cG (k := 90) (i := (.invokevirtual 55)) (as := [.ref (g.2 (9, 0, 0) 0), .int (V.2.2.2 (Int32.toNatClampNeg (l4 + 1))), .int (V.2.2.2 (Int32.toNatClampNeg (l4 + 2)))]) (rest := []) rfl rfl (x_callv rfl rfl (rc_ob R (rc_9 R) rfl) rfl rfl) (H _ _ R rfl rfl rfl) (fun x12 h g13 Y11 R1 hle14 H => ?_)
        replace e1 := e1.trans (mv_O hle14 (rc_9 R) 0)
        replace e2 := e2.trans (mv_O hle14 (rc_10 R) 0)
        replace e3 := e3.trans (mv_O hle14 (rc_12 R) 1)
        clear R
        have R := R1
        clear R1
        refine y_next (pc' := 203) (xst_of (i := (.aload_n 2)) (len := 1) rfl rfl (x_aloadV (xisV_r _) e2)) ?_
        refine y_next (pc' := 204) (xst_of (i := (.aload_n 0)) (len := 1) rfl rfl (x_aloadV (xisV_r _) e0)) ?_
        refine y_next (pc' := 206) (xst_of (i := (.iload 4)) (len := 2) rfl rfl (x_ilo e4)) ?_
        refine y_next (pc' := 207) (xst_of (i := (.iconst 1)) (len := 1) rfl rfl (x_ico (v := 1) (by decide))) ?_
        refine y_next (pc' := 208) (xst_of (i := .iadd) (len := 1) rfl rfl rfl) ?_
        refine z_S (i := (l4 + 1)) rfl R H.1 ?_
        replace H := H.2
        refine y_next (pc' := 210) (xst_of (i := (.aload_n 0)) (len := 1) rfl rfl (x_aloadV (xisV_r _) e0)) ?_
        refine y_next (pc' := 212) (xst_of (i := (.iload 4)) (len := 2) rfl rfl (x_ilo e4)) ?_
        refine y_next (pc' := 213) (xst_of (i := (.iconst 2)) (len := 1) rfl rfl (x_ico (v := 2) (by decide))) ?_
        refine y_next (pc' := 214) (xst_of (i := .iadd) (len := 1) rfl rfl rfl) ?_
        refine z_S (i := (l4 + 2)) rfl R H.1 ?_
        replace H := H.2
        refine z_cI (k := 135) (i := (.invokevirtual 59)) (as := [.ref (g13.2 (10, 0, 0) 0), .int (V.2.2.2 (Int32.toNatClampNeg (l4 + 1))), .int (V.2.2.2 (Int32.toNatClampNeg (l4 + 2)))]) (rest := [.int x12]) rfl rfl (x_callv rfl rfl (rc_ob R (rc_10 R) rfl) rfl rfl) (H _ _ R rfl rfl rfl) (fun x16 h Y15 R H => ?_)
        by_cases hc : x12 = x16
        · replace H := H.1 hc
          refine y_next (xst_of (i := (.if_icmp .eq 852)) (len := 3) rfl rfl (xt_icmp_eq (t := 1070) rfl hc)) ?_
          exact (H _ _ R e0 e1 e2 e3 e4).imp (lGI_le hle14)
        · replace H := H.2 hc
          refine y_next (pc' := 221) (xst_of (i := (.if_icmp .eq 852)) (len := 3) rfl rfl (xf_icmp_eq (t := 1070) rfl hc)) ?_
          refine y_next (pc' := 222) (xst_of (i := (.iconst 0)) (len := 1) rfl rfl (x_ico (v := 0) (by decide))) ?_
          exact y_ret (xst_of (i := .ireturn) (len := 1) rfl rfl (x_zret rfl H.1)) ⟨_, _, _, rfl, R, hle14, H.2⟩
      · replace H := H.2.2.2.1
        have hz : ((V.2.2.2 (Int32.toNatClampNeg l4)) &&& 31) = 3 := Int32.toInt_inj.mp (hy.trans rfl)
        replace H := H hz
        refine y_next (xst_of (i := (.tableswitch 1030 0 19 #[96, 121, 146, 183, 256, 281, 354, 391, 404, 472, 509, 522, 578, 634, 659, 727, 795, 850, 918, 974])) (len := 96) rfl rfl (x_sw_in (t := 223) hx (by rw [hy]; rfl) rfl)) ?_
        refine y_next (pc' := 224) (xst_of (i := (.aload_n 1)) (len := 1) rfl rfl (x_aloadV (xisV_r _) e1)) ?_
        refine y_next (pc' := 225) (xst_of (i := (.aload_n 0)) (len := 1) rfl rfl (x_aloadV (xisV_r _) e0)) ?_
        refine y_next (pc' := 227) (xst_of (i := (.iload 4)) (len := 2) rfl rfl (x_ilo e4)) ?_
        refine y_next (pc' := 228) (xst_of (i := (.iconst 1)) (len := 1) rfl rfl (x_ico (v := 1) (by decide))) ?_
        refine y_next (pc' := 229) (xst_of (i := .iadd) (len := 1) rfl rfl rfl) ?_
        refine z_S (i := (l4 + 1)) rfl R H.1 ?_
        replace H := H.2
        refine y_next (pc' := 231) (xst_of (i := (.aload_n 0)) (len := 1) rfl rfl (x_aloadV (xisV_r _) e0)) ?_
        refine y_next (pc' := 233) (xst_of (i := (.iload 4)) (len := 2) rfl rfl (x_ilo e4)) ?_
        refine y_next (pc' := 234) (xst_of (i := (.iconst 2)) (len := 1) rfl rfl (x_ico (v := 2) (by decide))) ?_
        refine y_next (pc' := 235) (xst_of (i := .iadd) (len := 1) rfl rfl rfl) ?_
        refine z_S (i := (l4 + 2)) rfl R H.1 ?_
        replace H := H.2
        refine y_next (pc' := 237) (xst_of (i := (.aload_n 0)) (len := 1) rfl rfl (x_aloadV (xisV_r _) e0)) ?_
        refine y_next (pc' := 239) (xst_of (i := (.iload 4)) (len := 2) rfl rfl (x_ilo e4)) ?_
        refine y_next (pc' := 240) (xst_of (i := (.iconst 3)) (len := 1) rfl rfl (x_ico (v := 3) (by decide))) ?_
        refine y_next (pc' := 241) (xst_of (i := .iadd) (len := 1) rfl rfl rfl) ?_
        refine z_S (i := (l4 + 3)) rfl R H.1 ?_
        replace H := H.2
        refine y_next (pc' := 243) (xst_of (i := (.aload_n 0)) (len := 1) rfl rfl (x_aloadV (xisV_r _) e0)) ?_
        refine y_next (pc' := 245) (xst_of (i := (.iload 4)) (len := 2) rfl rfl (x_ilo e4)) ?_
        refine y_next (pc' := 246) (xst_of (i := (.iconst 4)) (len := 1) rfl rfl (x_ico (v := 4) (by decide))) ?_
        refine y_next (pc' := 247) (xst_of (i := .iadd) (len := 1) rfl rfl rfl) ?_
        refine z_S (i := (l4 + 4)) rfl R H.1 ?_
        replace H := H.2
        refine y_next (pc' := 249) (xst_of (i := (.aload_n 0)) (len := 1) rfl rfl (x_aloadV (xisV_r _) e0)) ?_
        refine y_next (pc' := 251) (xst_of (i := (.iload 4)) (len := 2) rfl rfl (x_ilo e4)) ?_
        refine y_next (pc' := 252) (xst_of (i := (.iconst 5)) (len := 1) rfl rfl (x_ico (v := 5) (by decide))) ?_
        refine y_next (pc' := 253) (xst_of (i := .iadd) (len := 1) rfl rfl rfl) ?_
        refine z_S (i := (l4 + 5)) rfl R H.1 ?_
        replace H := H.2
        refine z_cI (k := 91) (i := (.invokevirtual 60)) (as := [.ref (g.2 (9, 0, 0) 0), .int (V.2.2.2 (Int32.toNatClampNeg (l4 + 1))), .int (V.2.2.2 (Int32.toNatClampNeg (l4 + 2))), .int (V.2.2.2 (Int32.toNatClampNeg (l4 + 3))), .int (V.2.2.2 (Int32.toNatClampNeg (l4 + 4))), .int (V.2.2.2 (Int32.toNatClampNeg (l4 + 5)))]) (rest := []) rfl rfl (x_callv rfl rfl (rc_ob R (rc_9 R) rfl) rfl rfl) (H _ _ R rfl rfl rfl rfl rfl rfl) (fun x18 h Y17 R H => ?_)
        refine y_next (pc' := 258) (xst_of (i := (.aload_n 2)) (len := 1) rfl rfl (x_aloadV (xisV_r _) e2)) ?_
        refine y_next (pc' := 259) (xst_of (i := (.aload_n 0)) (len := 1) rfl rfl (x_aloadV (xisV_r _) e0)) ?_
        refine y_next (pc' := 261) (xst_of (i := (.iload 4)) (len := 2) rfl rfl (x_ilo e4)) ?_
        refine y_next (pc' := 262) (xst_of (i := (.iconst 1)) (len := 1) rfl rfl (x_ico (v := 1) (by decide))) ?_
        refine y_next (pc' := 263) (xst_of (i := .iadd) (len := 1) rfl rfl rfl) ?_
        refine z_S (i := (l4 + 1)) rfl R H.1 ?_
        replace H := H.2
        refine y_next (pc' := 265) (xst_of (i := (.aload_n 0)) (len := 1) rfl rfl (x_aloadV (xisV_r _) e0)) ?_
        refine y_next (pc' := 267) (xst_of (i := (.iload 4)) (len := 2) rfl rfl (x_ilo e4)) ?_
        refine y_next (pc' := 268) (xst_of (i := (.iconst 2)) (len := 1) rfl rfl (x_ico (v := 2) (by decide))) ?_
        refine y_next (pc' := 269) (xst_of (i := .iadd) (len := 1) rfl rfl rfl) ?_
        refine z_S (i := (l4 + 2)) rfl R H.1 ?_
        replace H := H.2
        refine y_next (pc' := 271) (xst_of (i := (.aload_n 0)) (len := 1) rfl rfl (x_aloadV (xisV_r _) e0)) ?_
        refine y_next (pc' := 273) (xst_of (i := (.iload 4)) (len := 2) rfl rfl (x_ilo e4)) ?_
        refine y_next (pc' := 274) (xst_of (i := (.iconst 3)) (len := 1) rfl rfl (x_ico (v := 3) (by decide))) ?_
        refine y_next (pc' := 275) (xst_of (i := .iadd) (len := 1) rfl rfl rfl) ?_
        refine z_S (i := (l4 + 3)) rfl R H.1 ?_
        replace H := H.2
        refine y_next (pc' := 277) (xst_of (i := (.aload_n 0)) (len := 1) rfl rfl (x_aloadV (xisV_r _) e0)) ?_
        refine y_next (pc' := 279) (xst_of (i := (.iload 4)) (len := 2) rfl rfl (x_ilo e4)) ?_
        refine y_next (pc' := 280) (xst_of (i := (.iconst 4)) (len := 1) rfl rfl (x_ico (v := 4) (by decide))) ?_
        refine y_next (pc' := 281) (xst_of (i := .iadd) (len := 1) rfl rfl rfl) ?_
        refine z_S (i := (l4 + 4)) rfl R H.1 ?_
        replace H := H.2
        refine y_next (pc' := 283) (xst_of (i := (.aload_n 0)) (len := 1) rfl rfl (x_aloadV (xisV_r _) e0)) ?_
        refine y_next (pc' := 285) (xst_of (i := (.iload 4)) (len := 2) rfl rfl (x_ilo e4)) ?_
        refine y_next (pc' := 286) (xst_of (i := (.iconst 5)) (len := 1) rfl rfl (x_ico (v := 5) (by decide))) ?_
        refine y_next (pc' := 287) (xst_of (i := .iadd) (len := 1) rfl rfl rfl) ?_
        refine z_S (i := (l4 + 5)) rfl R H.1 ?_
        replace H := H.2
        refine z_cI (k := 137) (i := (.invokevirtual 64)) (as := [.ref (g.2 (10, 0, 0) 0), .int (V.2.2.2 (Int32.toNatClampNeg (l4 + 1))), .int (V.2.2.2 (Int32.toNatClampNeg (l4 + 2))), .int (V.2.2.2 (Int32.toNatClampNeg (l4 + 3))), .int (V.2.2.2 (Int32.toNatClampNeg (l4 + 4))), .int (V.2.2.2 (Int32.toNatClampNeg (l4 + 5)))]) (rest := [.int x18]) rfl rfl (x_callv rfl rfl (rc_ob R (rc_10 R) rfl) rfl rfl) (H _ _ R rfl rfl rfl rfl rfl rfl) (fun x20 h Y19 R H => ?_)
        by_cases hc : x18 = x20
        · replace H := H.1 hc
          refine y_next (xst_of (i := (.if_icmp .eq 779)) (len := 3) rfl rfl (xt_icmp_eq (t := 1070) rfl hc)) ?_
          exact H _ _ R e0 e1 e2 e3 e4
        · replace H := H.2 hc
          refine y_next (pc' := 294) (xst_of (i := (.if_icmp .eq 779)) (len := 3) rfl rfl (xf_icmp_eq (t := 1070) rfl hc)) ?_
          refine y_next (pc' := 295) (xst_of (i := (.iconst 0)) (len := 1) rfl rfl (x_ico (v := 0) (by decide))) ?_
          exact y_ret (xst_of (i := .ireturn) (len := 1) rfl rfl (x_zret rfl H.1)) ⟨_, _, _, rfl, R, xle_r, H.2⟩
      · replace H := H.2.2.2.2.1
        have hz : ((V.2.2.2 (Int32.toNatClampNeg l4)) &&& 31) = 4 := Int32.toInt_inj.mp (hy.trans rfl)
        replace H := H hz
        refine y_next (xst_of (i := (.tableswitch 1030 0 19 #[96, 121, 146, 183, 256, 281, 354, 391, 404, 472, 509, 522, 578, 634, 659, 727, 795, 850, 918, 974])) (len := 96) rfl rfl (x_sw_in (t := 296) hx (by rw [hy]; rfl) rfl)) ?_
        refine y_next (pc' := 297) (xst_of (i := (.aload_n 1)) (len := 1) rfl rfl (x_aloadV (xisV_r _) e1)) ?_
        refine y_next (pc' := 298) (xst_of (i := (.aload_n 0)) (len := 1) rfl rfl (x_aloadV (xisV_r _) e0)) ?_
        refine y_next (pc' := 300) (xst_of (i := (.iload 4)) (len := 2) rfl rfl (x_ilo e4)) ?_
        refine y_next (pc' := 301) (xst_of (i := (.iconst 1)) (len := 1) rfl rfl (x_ico (v := 1) (by decide))) ?_
        refine y_next (pc' := 302) (xst_of (i := .iadd) (len := 1) rfl rfl rfl) ?_
        refine z_S (i := (l4 + 1)) rfl R H.1 ?_
        replace H := H.2
        refine z_cG (k := 92) (i := (.invokevirtual 65)) (as := [.ref (g.2 (9, 0, 0) 0), .int (V.2.2.2 (Int32.toNatClampNeg (l4 + 1)))]) (rest := []) rfl rfl (x_callv rfl rfl (rc_ob R (rc_9 R) rfl) rfl rfl) (H _ _ R rfl rfl) (fun x22 h g23 Y21 R1 hle24 H => ?_)
        replace e1 := e1.trans (mv_O hle24 (rc_9 R) 0)
        replace e2 := e2.trans (mv_O hle24 (rc_10 R) 0)
        replace e3 := e3.trans (mv_O hle24 (rc_12 R) 1)
        clear R
        have R := R1
        clear R1
        refine y_next (pc' := 307) (xst_of (i := (.aload_n 2)) (len := 1) rfl rfl (x_aloadV (xisV_r _) e2)) ?_
        refine y_next (pc' := 308) (xst_of (i := (.aload_n 0)) (len := 1) rfl rfl (x_aloadV (xisV_r _) e0)) ?_
        refine y_next (pc' := 310) (xst_of (i := (.iload 4)) (len := 2) rfl rfl (x_ilo e4)) ?_
        refine y_next (pc' := 311) (xst_of (i := (.iconst 1)) (len := 1) rfl rfl (x_ico (v := 1) (by decide))) ?_
        refine y_next (pc' := 312) (xst_of (i := .iadd) (len := 1) rfl rfl rfl) ?_
        refine z_S (i := (l4 + 1)) rfl R H.1 ?_
        replace H := H.2
        refine z_cI (k := 138) (i := (.invokevirtual 68)) (as := [.ref (g23.2 (10, 0, 0) 0), .int (V.2.2.2 (Int32.toNatClampNeg (l4 + 1)))]) (rest := [.int x22]) rfl rfl (x_callv rfl rfl (rc_ob R (rc_10 R) rfl) rfl rfl) (H _ _ R rfl rfl) (fun x26 h Y25 R H => ?_)
        by_cases hc : x22 = x26
        · replace H := H.1 hc
          refine y_next (xst_of (i := (.if_icmp .eq 754)) (len := 3) rfl rfl (xt_icmp_eq (t := 1070) rfl hc)) ?_
          exact (H _ _ R e0 e1 e2 e3 e4).imp (lGI_le hle24)
        · replace H := H.2 hc
          refine y_next (pc' := 319) (xst_of (i := (.if_icmp .eq 754)) (len := 3) rfl rfl (xf_icmp_eq (t := 1070) rfl hc)) ?_
          refine y_next (pc' := 320) (xst_of (i := (.iconst 0)) (len := 1) rfl rfl (x_ico (v := 0) (by decide))) ?_
          exact y_ret (xst_of (i := .ireturn) (len := 1) rfl rfl (x_zret rfl H.1)) ⟨_, _, _, rfl, R, hle24, H.2⟩
      · replace H := H.2.2.2.2.2.1
        have hz : ((V.2.2.2 (Int32.toNatClampNeg l4)) &&& 31) = 5 := Int32.toInt_inj.mp (hy.trans rfl)
        replace H := H hz
        refine y_next (xst_of (i := (.tableswitch 1030 0 19 #[96, 121, 146, 183, 256, 281, 354, 391, 404, 472, 509, 522, 578, 634, 659, 727, 795, 850, 918, 974])) (len := 96) rfl rfl (x_sw_in (t := 321) hx (by rw [hy]; rfl) rfl)) ?_
        refine y_next (pc' := 322) (xst_of (i := (.aload_n 1)) (len := 1) rfl rfl (x_aloadV (xisV_r _) e1)) ?_
        refine y_next (pc' := 323) (xst_of (i := (.aload_n 0)) (len := 1) rfl rfl (x_aloadV (xisV_r _) e0)) ?_
        refine y_next (pc' := 325) (xst_of (i := (.iload 4)) (len := 2) rfl rfl (x_ilo e4)) ?_
        refine y_next (pc' := 326) (xst_of (i := (.iconst 1)) (len := 1) rfl rfl (x_ico (v := 1) (by decide))) ?_
        refine y_next (pc' := 327) (xst_of (i := .iadd) (len := 1) rfl rfl rfl) ?_
        refine z_S (i := (l4 + 1)) rfl R H.1 ?_
        replace H := H.2
        refine y_next (pc' := 329) (xst_of (i := (.aload_n 0)) (len := 1) rfl rfl (x_aloadV (xisV_r _) e0)) ?_
        refine y_next (pc' := 331) (xst_of (i := (.iload 4)) (len := 2) rfl rfl (x_ilo e4)) ?_
        refine y_next (pc' := 332) (xst_of (i := (.iconst 2)) (len := 1) rfl rfl (x_ico (v := 2) (by decide))) ?_
        refine y_next (pc' := 333) (xst_of (i := .iadd) (len := 1) rfl rfl rfl) ?_
        refine z_S (i := (l4 + 2)) rfl R H.1 ?_
        replace H := H.2
        refine y_next (pc' := 335) (xst_of (i := (.aload_n 0)) (len := 1) rfl rfl (x_aloadV (xisV_r _) e0)) ?_
        refine y_next (pc' := 337) (xst_of (i := (.iload 4)) (len := 2) rfl rfl (x_ilo e4)) ?_
        refine y_next (pc' := 338) (xst_of (i := (.iconst 3)) (len := 1) rfl rfl (x_ico (v := 3) (by decide))) ?_
        refine y_next (pc' := 339) (xst_of (i := .iadd) (len := 1) rfl rfl rfl) ?_
        refine z_S (i := (l4 + 3)) rfl R H.1 ?_
        replace H := H.2
        refine y_next (pc' := 341) (xst_of (i := (.aload_n 0)) (len := 1) rfl rfl (x_aloadV (xisV_r _) e0)) ?_
        refine y_next (pc' := 343) (xst_of (i := (.iload 4)) (len := 2) rfl rfl (x_ilo e4)) ?_
        refine y_next (pc' := 344) (xst_of (i := (.iconst 4)) (len := 1) rfl rfl (x_ico (v := 4) (by decide))) ?_
        refine y_next (pc' := 345) (xst_of (i := .iadd) (len := 1) rfl rfl rfl) ?_
        refine z_S (i := (l4 + 4)) rfl R H.1 ?_
        replace H := H.2
        refine y_next (pc' := 347) (xst_of (i := (.aload_n 0)) (len := 1) rfl rfl (x_aloadV (xisV_r _) e0)) ?_
        refine y_next (pc' := 349) (xst_of (i := (.iload 4)) (len := 2) rfl rfl (x_ilo e4)) ?_
        refine y_next (pc' := 350) (xst_of (i := (.iconst 5)) (len := 1) rfl rfl (x_ico (v := 5) (by decide))) ?_
        refine y_next (pc' := 351) (xst_of (i := .iadd) (len := 1) rfl rfl rfl) ?_
        refine z_S (i := (l4 + 5)) rfl R H.1 ?_
        replace H := H.2
        refine z_cI (k := 93) (i := (.invokevirtual 69)) (as := [.ref (g.2 (9, 0, 0) 0), .int (V.2.2.2 (Int32.toNatClampNeg (l4 + 1))), .int (V.2.2.2 (Int32.toNatClampNeg (l4 + 2))), .int (V.2.2.2 (Int32.toNatClampNeg (l4 + 3))), .int (V.2.2.2 (Int32.toNatClampNeg (l4 + 4))), .int (V.2.2.2 (Int32.toNatClampNeg (l4 + 5)))]) (rest := []) rfl rfl (x_callv rfl rfl (rc_ob R (rc_9 R) rfl) rfl rfl) (H _ _ R rfl rfl rfl rfl rfl rfl) (fun x28 h Y27 R H => ?_)
        refine y_next (pc' := 356) (xst_of (i := (.aload_n 2)) (len := 1) rfl rfl (x_aloadV (xisV_r _) e2)) ?_
        refine y_next (pc' := 357) (xst_of (i := (.aload_n 0)) (len := 1) rfl rfl (x_aloadV (xisV_r _) e0)) ?_
        refine y_next (pc' := 359) (xst_of (i := (.iload 4)) (len := 2) rfl rfl (x_ilo e4)) ?_
        refine y_next (pc' := 360) (xst_of (i := (.iconst 1)) (len := 1) rfl rfl (x_ico (v := 1) (by decide))) ?_
        refine y_next (pc' := 361) (xst_of (i := .iadd) (len := 1) rfl rfl rfl) ?_
        refine z_S (i := (l4 + 1)) rfl R H.1 ?_
        replace H := H.2
        refine y_next (pc' := 363) (xst_of (i := (.aload_n 0)) (len := 1) rfl rfl (x_aloadV (xisV_r _) e0)) ?_
        refine y_next (pc' := 365) (xst_of (i := (.iload 4)) (len := 2) rfl rfl (x_ilo e4)) ?_
        refine y_next (pc' := 366) (xst_of (i := (.iconst 2)) (len := 1) rfl rfl (x_ico (v := 2) (by decide))) ?_
        refine y_next (pc' := 367) (xst_of (i := .iadd) (len := 1) rfl rfl rfl) ?_
        refine z_S (i := (l4 + 2)) rfl R H.1 ?_
        replace H := H.2
        refine y_next (pc' := 369) (xst_of (i := (.aload_n 0)) (len := 1) rfl rfl (x_aloadV (xisV_r _) e0)) ?_
        refine y_next (pc' := 371) (xst_of (i := (.iload 4)) (len := 2) rfl rfl (x_ilo e4)) ?_
        refine y_next (pc' := 372) (xst_of (i := (.iconst 3)) (len := 1) rfl rfl (x_ico (v := 3) (by decide))) ?_
        refine y_next (pc' := 373) (xst_of (i := .iadd) (len := 1) rfl rfl rfl) ?_
        refine z_S (i := (l4 + 3)) rfl R H.1 ?_
        replace H := H.2
        refine y_next (pc' := 375) (xst_of (i := (.aload_n 0)) (len := 1) rfl rfl (x_aloadV (xisV_r _) e0)) ?_
        refine y_next (pc' := 377) (xst_of (i := (.iload 4)) (len := 2) rfl rfl (x_ilo e4)) ?_
        refine y_next (pc' := 378) (xst_of (i := (.iconst 4)) (len := 1) rfl rfl (x_ico (v := 4) (by decide))) ?_
        refine y_next (pc' := 379) (xst_of (i := .iadd) (len := 1) rfl rfl rfl) ?_
        refine z_S (i := (l4 + 4)) rfl R H.1 ?_
        replace H := H.2
        refine y_next (pc' := 381) (xst_of (i := (.aload_n 0)) (len := 1) rfl rfl (x_aloadV (xisV_r _) e0)) ?_
        refine y_next (pc' := 383) (xst_of (i := (.iload 4)) (len := 2) rfl rfl (x_ilo e4)) ?_
        refine y_next (pc' := 384) (xst_of (i := (.iconst 5)) (len := 1) rfl rfl (x_ico (v := 5) (by decide))) ?_
        refine y_next (pc' := 385) (xst_of (i := .iadd) (len := 1) rfl rfl rfl) ?_
        refine z_S (i := (l4 + 5)) rfl R H.1 ?_
        replace H := H.2
        refine z_cI (k := 139) (i := (.invokevirtual 72)) (as := [.ref (g.2 (10, 0, 0) 0), .int (V.2.2.2 (Int32.toNatClampNeg (l4 + 1))), .int (V.2.2.2 (Int32.toNatClampNeg (l4 + 2))), .int (V.2.2.2 (Int32.toNatClampNeg (l4 + 3))), .int (V.2.2.2 (Int32.toNatClampNeg (l4 + 4))), .int (V.2.2.2 (Int32.toNatClampNeg (l4 + 5)))]) (rest := [.int x28]) rfl rfl (x_callv rfl rfl (rc_ob R (rc_10 R) rfl) rfl rfl) (H _ _ R rfl rfl rfl rfl rfl rfl) (fun x30 h Y29 R H => ?_)
        by_cases hc : x28 = x30
        · replace H := H.1 hc
          refine y_next (xst_of (i := (.if_icmp .eq 681)) (len := 3) rfl rfl (xt_icmp_eq (t := 1070) rfl hc)) ?_
          exact H _ _ R e0 e1 e2 e3 e4
        · replace H := H.2 hc
          refine y_next (pc' := 392) (xst_of (i := (.if_icmp .eq 681)) (len := 3) rfl rfl (xf_icmp_eq (t := 1070) rfl hc)) ?_
          refine y_next (pc' := 393) (xst_of (i := (.iconst 0)) (len := 1) rfl rfl (x_ico (v := 0) (by decide))) ?_
          exact y_ret (xst_of (i := .ireturn) (len := 1) rfl rfl (x_zret rfl H.1)) ⟨_, _, _, rfl, R, xle_r, H.2⟩
      · replace H := H.2.2.2.2.2.2.1
        have hz : ((V.2.2.2 (Int32.toNatClampNeg l4)) &&& 31) = 6 := Int32.toInt_inj.mp (hy.trans rfl)
        replace H := H hz
        refine y_next (xst_of (i := (.tableswitch 1030 0 19 #[96, 121, 146, 183, 256, 281, 354, 391, 404, 472, 509, 522, 578, 634, 659, 727, 795, 850, 918, 974])) (len := 96) rfl rfl (x_sw_in (t := 394) hx (by rw [hy]; rfl) rfl)) ?_
        refine y_next (pc' := 395) (xst_of (i := (.aload_n 1)) (len := 1) rfl rfl (x_aloadV (xisV_r _) e1)) ?_
        refine y_next (pc' := 396) (xst_of (i := (.aload_n 0)) (len := 1) rfl rfl (x_aloadV (xisV_r _) e0)) ?_
        refine y_next (pc' := 398) (xst_of (i := (.iload 4)) (len := 2) rfl rfl (x_ilo e4)) ?_
        refine y_next (pc' := 399) (xst_of (i := (.iconst 1)) (len := 1) rfl rfl (x_ico (v := 1) (by decide))) ?_
        refine y_next (pc' := 400) (xst_of (i := .iadd) (len := 1) rfl rfl rfl) ?_
        refine z_S (i := (l4 + 1)) rfl R H.1 ?_
        replace H := H.2
        refine y_next (pc' := 402) (xst_of (i := (.aload_n 0)) (len := 1) rfl rfl (x_aloadV (xisV_r _) e0)) ?_
        refine y_next (pc' := 404) (xst_of (i := (.iload 4)) (len := 2) rfl rfl (x_ilo e4)) ?_
        refine y_next (pc' := 405) (xst_of (i := (.iconst 2)) (len := 1) rfl rfl (x_ico (v := 2) (by decide))) ?_
        refine y_next (pc' := 406) (xst_of (i := .iadd) (len := 1) rfl rfl rfl) ?_
        refine z_S (i := (l4 + 2)) rfl R H.1 ?_
        replace H := H.2
        refine z_cG (k := 94) (i := (.invokevirtual 73)) (as := [.ref (g.2 (9, 0, 0) 0), .int (V.2.2.2 (Int32.toNatClampNeg (l4 + 1))), .int (V.2.2.2 (Int32.toNatClampNeg (l4 + 2)))]) (rest := []) rfl rfl (x_callv rfl rfl (rc_ob R (rc_9 R) rfl) rfl rfl) (H _ _ R rfl rfl rfl) (fun x32 h g33 Y31 R1 hle34 H => ?_)
        replace e1 := e1.trans (mv_O hle34 (rc_9 R) 0)
        replace e2 := e2.trans (mv_O hle34 (rc_10 R) 0)
        replace e3 := e3.trans (mv_O hle34 (rc_12 R) 1)
        clear R
        have R := R1
        clear R1
        refine y_next (pc' := 411) (xst_of (i := (.aload_n 2)) (len := 1) rfl rfl (x_aloadV (xisV_r _) e2)) ?_
        refine y_next (pc' := 412) (xst_of (i := (.aload_n 0)) (len := 1) rfl rfl (x_aloadV (xisV_r _) e0)) ?_
        refine y_next (pc' := 414) (xst_of (i := (.iload 4)) (len := 2) rfl rfl (x_ilo e4)) ?_
        refine y_next (pc' := 415) (xst_of (i := (.iconst 1)) (len := 1) rfl rfl (x_ico (v := 1) (by decide))) ?_
        refine y_next (pc' := 416) (xst_of (i := .iadd) (len := 1) rfl rfl rfl) ?_
        refine z_S (i := (l4 + 1)) rfl R H.1 ?_
        replace H := H.2
        refine y_next (pc' := 418) (xst_of (i := (.aload_n 0)) (len := 1) rfl rfl (x_aloadV (xisV_r _) e0)) ?_
        refine y_next (pc' := 420) (xst_of (i := (.iload 4)) (len := 2) rfl rfl (x_ilo e4)) ?_
        refine y_next (pc' := 421) (xst_of (i := (.iconst 2)) (len := 1) rfl rfl (x_ico (v := 2) (by decide))) ?_
        refine y_next (pc' := 422) (xst_of (i := .iadd) (len := 1) rfl rfl rfl) ?_
        refine z_S (i := (l4 + 2)) rfl R H.1 ?_
        replace H := H.2
        refine z_cI (k := 140) (i := (.invokevirtual 76)) (as := [.ref (g33.2 (10, 0, 0) 0), .int (V.2.2.2 (Int32.toNatClampNeg (l4 + 1))), .int (V.2.2.2 (Int32.toNatClampNeg (l4 + 2)))]) (rest := [.int x32]) rfl rfl (x_callv rfl rfl (rc_ob R (rc_10 R) rfl) rfl rfl) (H _ _ R rfl rfl rfl) (fun x36 h Y35 R H => ?_)
        by_cases hc : x32 = x36
        · replace H := H.1 hc
          refine y_next (xst_of (i := (.if_icmp .eq 644)) (len := 3) rfl rfl (xt_icmp_eq (t := 1070) rfl hc)) ?_
          exact (H _ _ R e0 e1 e2 e3 e4).imp (lGI_le hle34)
        · replace H := H.2 hc
          refine y_next (pc' := 429) (xst_of (i := (.if_icmp .eq 644)) (len := 3) rfl rfl (xf_icmp_eq (t := 1070) rfl hc)) ?_
          refine y_next (pc' := 430) (xst_of (i := (.iconst 0)) (len := 1) rfl rfl (x_ico (v := 0) (by decide))) ?_
          exact y_ret (xst_of (i := .ireturn) (len := 1) rfl rfl (x_zret rfl H.1)) ⟨_, _, _, rfl, R, hle34, H.2⟩
      · replace H := H.2.2.2.2.2.2.2.1
        have hz : ((V.2.2.2 (Int32.toNatClampNeg l4)) &&& 31) = 7 := Int32.toInt_inj.mp (hy.trans rfl)
        replace H := H hz
        refine y_next (xst_of (i := (.tableswitch 1030 0 19 #[96, 121, 146, 183, 256, 281, 354, 391, 404, 472, 509, 522, 578, 634, 659, 727, 795, 850, 918, 974])) (len := 96) rfl rfl (x_sw_in (t := 431) hx (by rw [hy]; rfl) rfl)) ?_
        refine y_next (pc' := 432) (xst_of (i := (.aload_n 1)) (len := 1) rfl rfl (x_aloadV (xisV_r _) e1)) ?_
        refine z_cI (k := 95) (i := (.invokevirtual 77)) (as := [.ref (g.2 (9, 0, 0) 0)]) (rest := []) rfl rfl (x_callv rfl rfl (rc_ob R (rc_9 R) rfl) rfl rfl) (H _ _ R rfl) (fun x38 h Y37 R H => ?_)
        refine y_next (pc' := 436) (xst_of (i := (.aload_n 2)) (len := 1) rfl rfl (x_aloadV (xisV_r _) e2)) ?_
        refine z_cI (k := 162) (i := (.invokevirtual 81)) (as := [.ref (g.2 (10, 0, 0) 0)]) (rest := [.int x38]) rfl rfl (x_callv rfl rfl (rc_ob R (rc_10 R) rfl) rfl rfl) (H _ _ R rfl) (fun x40 h Y39 R H => ?_)
        by_cases hc : x38 = x40
        · replace H := H.1 hc
          refine y_next (xst_of (i := (.if_icmp .eq 631)) (len := 3) rfl rfl (xt_icmp_eq (t := 1070) rfl hc)) ?_
          exact H _ _ R e0 e1 e2 e3 e4
        · replace H := H.2 hc
          refine y_next (pc' := 442) (xst_of (i := (.if_icmp .eq 631)) (len := 3) rfl rfl (xf_icmp_eq (t := 1070) rfl hc)) ?_
          refine y_next (pc' := 443) (xst_of (i := (.iconst 0)) (len := 1) rfl rfl (x_ico (v := 0) (by decide))) ?_
          exact y_ret (xst_of (i := .ireturn) (len := 1) rfl rfl (x_zret rfl H.1)) ⟨_, _, _, rfl, R, xle_r, H.2⟩
      · replace H := H.2.2.2.2.2.2.2.2.1
        have hz : ((V.2.2.2 (Int32.toNatClampNeg l4)) &&& 31) = 8 := Int32.toInt_inj.mp (hy.trans rfl)
        replace H := H hz
        refine y_next (xst_of (i := (.tableswitch 1030 0 19 #[96, 121, 146, 183, 256, 281, 354, 391, 404, 472, 509, 522, 578, 634, 659, 727, 795, 850, 918, 974])) (len := 96) rfl rfl (x_sw_in (t := 444) hx (by rw [hy]; rfl) rfl)) ?_
        refine y_next (pc' := 445) (xst_of (i := (.aload_n 1)) (len := 1) rfl rfl (x_aloadV (xisV_r _) e1)) ?_
        refine y_next (pc' := 446) (xst_of (i := (.aload_n 0)) (len := 1) rfl rfl (x_aloadV (xisV_r _) e0)) ?_
        refine y_next (pc' := 448) (xst_of (i := (.iload 4)) (len := 2) rfl rfl (x_ilo e4)) ?_
        refine y_next (pc' := 449) (xst_of (i := (.iconst 1)) (len := 1) rfl rfl (x_ico (v := 1) (by decide))) ?_
        refine y_next (pc' := 450) (xst_of (i := .iadd) (len := 1) rfl rfl rfl) ?_
        refine z_S (i := (l4 + 1)) rfl R H.1 ?_
        replace H := H.2
        refine y_next (pc' := 452) (xst_of (i := (.aload_n 0)) (len := 1) rfl rfl (x_aloadV (xisV_r _) e0)) ?_
        refine y_next (pc' := 454) (xst_of (i := (.iload 4)) (len := 2) rfl rfl (x_ilo e4)) ?_
        refine y_next (pc' := 455) (xst_of (i := (.iconst 2)) (len := 1) rfl rfl (x_ico (v := 2) (by decide))) ?_
        refine y_next (pc' := 456) (xst_of (i := .iadd) (len := 1) rfl rfl rfl) ?_
        refine z_S (i := (l4 + 2)) rfl R H.1 ?_
        replace H := H.2
        refine y_next (pc' := 458) (xst_of (i := (.aload_n 3)) (len := 1) rfl rfl (x_aloadV (xisV_r _) e3)) ?_
        refine z_cI (k := 189) (i := (.invokestatic 82)) (as := [.ref (g.2 (9, 0, 0) 0), .int (V.2.2.2 (Int32.toNatClampNeg (l4 + 1))), .int (V.2.2.2 (Int32.toNatClampNeg (l4 + 2))), .ref (g.2 (12, 0, 0) 1)]) (rest := []) rfl rfl rfl (H _ _ R rfl rfl rfl rfl) (fun x42 h Y41 R H => ?_)
        refine z_is (i := (.istore 5)) (len := 2) (pc' := 463) (q := 5) rfl rfl rfl (by decide) (fun lv1 hlv => ?_)
        have e0 := xs1_A hlv e0 rfl rfl
        have e1 := xs1_A hlv e1 rfl rfl
        have e2 := xs1_A hlv e2 rfl rfl
        have e3 := xs1_A hlv e3 rfl rfl
        have e4 := xs1_B hlv e4 rfl rfl
        have e5 := xs1_N hlv
        clear hlv
        refine y_next (pc' := 464) (xst_of (i := (.aload_n 2)) (len := 1) rfl rfl (x_aloadV (xisV_r _) e2)) ?_
        refine y_next (pc' := 465) (xst_of (i := (.aload_n 0)) (len := 1) rfl rfl (x_aloadV (xisV_r _) e0)) ?_
        refine y_next (pc' := 467) (xst_of (i := (.iload 4)) (len := 2) rfl rfl (x_ilo e4)) ?_
        refine y_next (pc' := 468) (xst_of (i := (.iconst 1)) (len := 1) rfl rfl (x_ico (v := 1) (by decide))) ?_
        refine y_next (pc' := 469) (xst_of (i := .iadd) (len := 1) rfl rfl rfl) ?_
        refine z_S (i := (l4 + 1)) rfl R H.1 ?_
        replace H := H.2
        refine y_next (pc' := 471) (xst_of (i := (.aload_n 0)) (len := 1) rfl rfl (x_aloadV (xisV_r _) e0)) ?_
        refine y_next (pc' := 473) (xst_of (i := (.iload 4)) (len := 2) rfl rfl (x_ilo e4)) ?_
        refine y_next (pc' := 474) (xst_of (i := (.iconst 2)) (len := 1) rfl rfl (x_ico (v := 2) (by decide))) ?_
        refine y_next (pc' := 475) (xst_of (i := .iadd) (len := 1) rfl rfl rfl) ?_
        refine z_S (i := (l4 + 2)) rfl R H.1 ?_
        replace H := H.2
        refine z_cI (k := 164) (i := (.invokevirtual 87)) (as := [.ref (g.2 (10, 0, 0) 0), .int (V.2.2.2 (Int32.toNatClampNeg (l4 + 1))), .int (V.2.2.2 (Int32.toNatClampNeg (l4 + 2)))]) (rest := []) rfl rfl (x_callv rfl rfl (rc_ob R (rc_10 R) rfl) rfl rfl) (H _ _ R rfl rfl rfl) (fun x44 h Y43 R H => ?_)
        refine z_is (i := (.istore 6)) (len := 2) (pc' := 481) (q := 6) rfl rfl rfl (by decide) (fun lv2 hlv => ?_)
        have e0 := xs1_A hlv e0 rfl rfl
        have e1 := xs1_A hlv e1 rfl rfl
        have e2 := xs1_A hlv e2 rfl rfl
        have e3 := xs1_A hlv e3 rfl rfl
        have e4 := xs1_A hlv e4 rfl rfl
        have e5 := xs1_B hlv e5 rfl rfl
        have e6 := xs1_N hlv
        clear hlv
        refine y_next (pc' := 482) (xst_of (i := (.aload_n 2)) (len := 1) rfl rfl (x_aloadV (xisV_r _) e2)) ?_
        refine z_cI (k := 124) (i := (.invokevirtual 88)) (as := [.ref (g.2 (10, 0, 0) 0)]) (rest := []) rfl rfl (x_callv rfl rfl (rc_ob R (rc_10 R) rfl) rfl rfl) (H _ _ R rfl) (fun x46 h Y45 R H => ?_)
        refine y_next (pc' := 487) (xst_of (i := (.iload 5)) (len := 2) rfl rfl (x_ilo e5)) ?_
        by_cases hc : x46 = x42
        · replace H := H.1 hc
          refine y_next (xst_of (i := (.if_icmp .eq 5)) (len := 3) rfl rfl (xt_icmp_eq (t := 492) rfl hc)) ?_
          refine y_next (pc' := 494) (xst_of (i := (.iload 5)) (len := 2) rfl rfl (x_ilo e5)) ?_
          by_cases hc : x42 = 0
          · replace H := H.1 hc
            refine y_next (pc' := 497) (xst_of (i := (.ifCond .ne 15)) (len := 3) rfl rfl (xf_if_ne (t := 509) rfl (fun z => z hc))) ?_
            refine y_next (pc' := 498) (xst_of (i := (.aload_n 3)) (len := 1) rfl rfl (x_aloadV (xisV_r _) e3)) ?_
            refine y_next (pc' := 499) (xst_of (i := (.iconst 0)) (len := 1) rfl rfl (x_ico (v := 0) (by decide))) ?_
            refine z_aL (t := (12, 0, 0)) (k := 0) (n := 1) (i := 0) rfl rfl R (rc_12 R) H.1 ?_
            replace H := H.2
            refine y_next (pc' := 502) (xst_of (i := (.iload 6)) (len := 2) rfl rfl (x_ilo e6)) ?_
            refine y_next (pc' := 503) (xst_of (i := .i2l) (len := 1) rfl rfl rfl) ?_
            refine y_next (pc' := 504) (xst_of (i := .lcmp) (len := 1) rfl rfl rfl) ?_
            by_cases hc : (fL Y45 (12, 0, 0) 0 (Int32.toNatClampNeg 0)) = (Int32.toInt64 x44)
            · replace H := H.1 hc
              refine y_next (xst_of (i := (.ifCond .eq 5)) (len := 3) rfl rfl (xt_if_eq (t := 509) rfl ((lg_cmp_eq (fL Y45 (12, 0, 0) 0 (Int32.toNatClampNeg 0)) (Int32.toInt64 x44)).mpr hc))) ?_
              exact H _ _ R e0 e1 e2 e3 e4 e5 e6
            · replace H := H.2 hc
              refine y_next (pc' := 507) (xst_of (i := (.ifCond .eq 5)) (len := 3) rfl rfl (xf_if_eq (t := 509) rfl (fun z => hc ((lg_cmp_eq (fL Y45 (12, 0, 0) 0 (Int32.toNatClampNeg 0)) (Int32.toInt64 x44)).mp z)))) ?_
              refine y_next (pc' := 508) (xst_of (i := (.iconst 0)) (len := 1) rfl rfl (x_ico (v := 0) (by decide))) ?_
              exact y_ret (xst_of (i := .ireturn) (len := 1) rfl rfl (x_zret rfl H.1)) ⟨_, _, _, rfl, R, xle_r, H.2⟩
          · replace H := H.2 hc
            refine y_next (xst_of (i := (.ifCond .ne 15)) (len := 3) rfl rfl (xt_if_ne (t := 509) rfl hc)) ?_
            exact H _ _ R e0 e1 e2 e3 e4 e5 e6
        · replace H := H.2 hc
          refine y_next (pc' := 490) (xst_of (i := (.if_icmp .eq 5)) (len := 3) rfl rfl (xf_icmp_eq (t := 492) rfl hc)) ?_
          refine y_next (pc' := 491) (xst_of (i := (.iconst 0)) (len := 1) rfl rfl (x_ico (v := 0) (by decide))) ?_
          exact y_ret (xst_of (i := .ireturn) (len := 1) rfl rfl (x_zret rfl H.1)) ⟨_, _, _, rfl, R, xle_r, H.2⟩
      · replace H := H.2.2.2.2.2.2.2.2.2.1
        have hz : ((V.2.2.2 (Int32.toNatClampNeg l4)) &&& 31) = 9 := Int32.toInt_inj.mp (hy.trans rfl)
        replace H := H hz
        refine y_next (xst_of (i := (.tableswitch 1030 0 19 #[96, 121, 146, 183, 256, 281, 354, 391, 404, 472, 509, 522, 578, 634, 659, 727, 795, 850, 918, 974])) (len := 96) rfl rfl (x_sw_in (t := 512) hx (by rw [hy]; rfl) rfl)) ?_
        refine y_next (pc' := 513) (xst_of (i := (.aload_n 1)) (len := 1) rfl rfl (x_aloadV (xisV_r _) e1)) ?_
        refine y_next (pc' := 514) (xst_of (i := (.aload_n 0)) (len := 1) rfl rfl (x_aloadV (xisV_r _) e0)) ?_
        refine y_next (pc' := 516) (xst_of (i := (.iload 4)) (len := 2) rfl rfl (x_ilo e4)) ?_
        refine y_next (pc' := 517) (xst_of (i := (.iconst 1)) (len := 1) rfl rfl (x_ico (v := 1) (by decide))) ?_
        refine y_next (pc' := 518) (xst_of (i := .iadd) (len := 1) rfl rfl rfl) ?_
        refine z_S (i := (l4 + 1)) rfl R H.1 ?_
        replace H := H.2
        refine y_next (pc' := 520) (xst_of (i := (.aload_n 0)) (len := 1) rfl rfl (x_aloadV (xisV_r _) e0)) ?_
        refine y_next (pc' := 522) (xst_of (i := (.iload 4)) (len := 2) rfl rfl (x_ilo e4)) ?_
        refine y_next (pc' := 523) (xst_of (i := (.iconst 2)) (len := 1) rfl rfl (x_ico (v := 2) (by decide))) ?_
        refine y_next (pc' := 524) (xst_of (i := .iadd) (len := 1) rfl rfl rfl) ?_
        refine z_S (i := (l4 + 2)) rfl R H.1 ?_
        replace H := H.2
        refine z_cG (k := 97) (i := (.invokevirtual 91)) (as := [.ref (g.2 (9, 0, 0) 0), .int (V.2.2.2 (Int32.toNatClampNeg (l4 + 1))), .int (V.2.2.2 (Int32.toNatClampNeg (l4 + 2)))]) (rest := []) rfl rfl (x_callv rfl rfl (rc_ob R (rc_9 R) rfl) rfl rfl) (H _ _ R rfl rfl rfl) (fun x48 h g49 Y47 R1 hle50 H => ?_)
        replace e1 := e1.trans (mv_O hle50 (rc_9 R) 0)
        replace e2 := e2.trans (mv_O hle50 (rc_10 R) 0)
        replace e3 := e3.trans (mv_O hle50 (rc_12 R) 1)
        clear R
        have R := R1
        clear R1
        refine y_next (pc' := 529) (xst_of (i := (.aload_n 2)) (len := 1) rfl rfl (x_aloadV (xisV_r _) e2)) ?_
        refine y_next (pc' := 530) (xst_of (i := (.aload_n 0)) (len := 1) rfl rfl (x_aloadV (xisV_r _) e0)) ?_
        refine y_next (pc' := 532) (xst_of (i := (.iload 4)) (len := 2) rfl rfl (x_ilo e4)) ?_
        refine y_next (pc' := 533) (xst_of (i := (.iconst 1)) (len := 1) rfl rfl (x_ico (v := 1) (by decide))) ?_
        refine y_next (pc' := 534) (xst_of (i := .iadd) (len := 1) rfl rfl rfl) ?_
        refine z_S (i := (l4 + 1)) rfl R H.1 ?_
        replace H := H.2
        refine y_next (pc' := 536) (xst_of (i := (.aload_n 0)) (len := 1) rfl rfl (x_aloadV (xisV_r _) e0)) ?_
        refine y_next (pc' := 538) (xst_of (i := (.iload 4)) (len := 2) rfl rfl (x_ilo e4)) ?_
        refine y_next (pc' := 539) (xst_of (i := (.iconst 2)) (len := 1) rfl rfl (x_ico (v := 2) (by decide))) ?_
        refine y_next (pc' := 540) (xst_of (i := .iadd) (len := 1) rfl rfl rfl) ?_
        refine z_S (i := (l4 + 2)) rfl R H.1 ?_
        replace H := H.2
        refine z_cI (k := 165) (i := (.invokevirtual 94)) (as := [.ref (g49.2 (10, 0, 0) 0), .int (V.2.2.2 (Int32.toNatClampNeg (l4 + 1))), .int (V.2.2.2 (Int32.toNatClampNeg (l4 + 2)))]) (rest := [.int x48]) rfl rfl (x_callv rfl rfl (rc_ob R (rc_10 R) rfl) rfl rfl) (H _ _ R rfl rfl rfl) (fun x52 h Y51 R H => ?_)
        by_cases hc : x48 = x52
        · replace H := H.1 hc
          refine y_next (xst_of (i := (.if_icmp .eq 526)) (len := 3) rfl rfl (xt_icmp_eq (t := 1070) rfl hc)) ?_
          exact (H _ _ R e0 e1 e2 e3 e4).imp (lGI_le hle50)
        · replace H := H.2 hc
          refine y_next (pc' := 547) (xst_of (i := (.if_icmp .eq 526)) (len := 3) rfl rfl (xf_icmp_eq (t := 1070) rfl hc)) ?_
          refine y_next (pc' := 548) (xst_of (i := (.iconst 0)) (len := 1) rfl rfl (x_ico (v := 0) (by decide))) ?_
          exact y_ret (xst_of (i := .ireturn) (len := 1) rfl rfl (x_zret rfl H.1)) ⟨_, _, _, rfl, R, hle50, H.2⟩
      · replace H := H.2.2.2.2.2.2.2.2.2.2.1
        have hz : ((V.2.2.2 (Int32.toNatClampNeg l4)) &&& 31) = 10 := Int32.toInt_inj.mp (hy.trans rfl)
        replace H := H hz
        refine y_next (xst_of (i := (.tableswitch 1030 0 19 #[96, 121, 146, 183, 256, 281, 354, 391, 404, 472, 509, 522, 578, 634, 659, 727, 795, 850, 918, 974])) (len := 96) rfl rfl (x_sw_in (t := 549) hx (by rw [hy]; rfl) rfl)) ?_
        refine y_next (pc' := 550) (xst_of (i := (.aload_n 1)) (len := 1) rfl rfl (x_aloadV (xisV_r _) e1)) ?_
        refine z_cI (k := 98) (i := (.invokevirtual 95)) (as := [.ref (g.2 (9, 0, 0) 0)]) (rest := []) rfl rfl (x_callv rfl rfl (rc_ob R (rc_9 R) rfl) rfl rfl) (H _ _ R rfl) (fun x54 h Y53 R H => ?_)
        refine y_next (pc' := 554) (xst_of (i := (.aload_n 2)) (len := 1) rfl rfl (x_aloadV (xisV_r _) e2)) ?_
        refine z_cI (k := 172) (i := (.invokevirtual 98)) (as := [.ref (g.2 (10, 0, 0) 0)]) (rest := [.int x54]) rfl rfl (x_callv rfl rfl (rc_ob R (rc_10 R) rfl) rfl rfl) (H _ _ R rfl) (fun x56 h Y55 R H => ?_)
        by_cases hc : x54 = x56
        · replace H := H.1 hc
          refine y_next (xst_of (i := (.if_icmp .eq 513)) (len := 3) rfl rfl (xt_icmp_eq (t := 1070) rfl hc)) ?_
          exact H _ _ R e0 e1 e2 e3 e4
        · replace H := H.2 hc
          refine y_next (pc' := 560) (xst_of (i := (.if_icmp .eq 513)) (len := 3) rfl rfl (xf_icmp_eq (t := 1070) rfl hc)) ?_
          refine y_next (pc' := 561) (xst_of (i := (.iconst 0)) (len := 1) rfl rfl (x_ico (v := 0) (by decide))) ?_
          exact y_ret (xst_of (i := .ireturn) (len := 1) rfl rfl (x_zret rfl H.1)) ⟨_, _, _, rfl, R, xle_r, H.2⟩
      · replace H := H.2.2.2.2.2.2.2.2.2.2.2.1
        have hz : ((V.2.2.2 (Int32.toNatClampNeg l4)) &&& 31) = 11 := Int32.toInt_inj.mp (hy.trans rfl)
        replace H := H hz
        refine y_next (xst_of (i := (.tableswitch 1030 0 19 #[96, 121, 146, 183, 256, 281, 354, 391, 404, 472, 509, 522, 578, 634, 659, 727, 795, 850, 918, 974])) (len := 96) rfl rfl (x_sw_in (t := 562) hx (by rw [hy]; rfl) rfl)) ?_
        refine y_next (pc' := 563) (xst_of (i := (.aload_n 1)) (len := 1) rfl rfl (x_aloadV (xisV_r _) e1)) ?_
        refine y_next (pc' := 564) (xst_of (i := (.aload_n 0)) (len := 1) rfl rfl (x_aloadV (xisV_r _) e0)) ?_
        refine y_next (pc' := 566) (xst_of (i := (.iload 4)) (len := 2) rfl rfl (x_ilo e4)) ?_
        refine y_next (pc' := 567) (xst_of (i := (.iconst 1)) (len := 1) rfl rfl (x_ico (v := 1) (by decide))) ?_
        refine y_next (pc' := 568) (xst_of (i := .iadd) (len := 1) rfl rfl rfl) ?_
        refine z_S (i := (l4 + 1)) rfl R H.1 ?_
        replace H := H.2
        refine y_next (pc' := 570) (xst_of (i := (.aload_n 3)) (len := 1) rfl rfl (x_aloadV (xisV_r _) e3)) ?_
        refine z_cI (k := 190) (i := (.invokestatic 99)) (as := [.ref (g.2 (9, 0, 0) 0), .int (V.2.2.2 (Int32.toNatClampNeg (l4 + 1))), .ref (g.2 (12, 0, 0) 1)]) (rest := []) rfl rfl rfl (H _ _ R rfl rfl rfl) (fun x58 h Y57 R H => ?_)
        refine z_is (i := (.istore 5)) (len := 2) (pc' := 575) (q := 5) rfl rfl rfl (by decide) (fun lv3 hlv => ?_)
        have e0 := xs1_A hlv e0 rfl rfl
        have e1 := xs1_A hlv e1 rfl rfl
        have e2 := xs1_A hlv e2 rfl rfl
        have e3 := xs1_A hlv e3 rfl rfl
        have e4 := xs1_B hlv e4 rfl rfl
        have e5 := xs1_N hlv
        clear hlv
        refine y_next (pc' := 576) (xst_of (i := (.aload_n 2)) (len := 1) rfl rfl (x_aloadV (xisV_r _) e2)) ?_
        refine y_next (pc' := 577) (xst_of (i := (.aload_n 0)) (len := 1) rfl rfl (x_aloadV (xisV_r _) e0)) ?_
        refine y_next (pc' := 579) (xst_of (i := (.iload 4)) (len := 2) rfl rfl (x_ilo e4)) ?_
        refine y_next (pc' := 580) (xst_of (i := (.iconst 1)) (len := 1) rfl rfl (x_ico (v := 1) (by decide))) ?_
        refine y_next (pc' := 581) (xst_of (i := .iadd) (len := 1) rfl rfl rfl) ?_
        refine z_S (i := (l4 + 1)) rfl R H.1 ?_
        replace H := H.2
        refine z_cI (k := 173) (i := (.invokevirtual 102)) (as := [.ref (g.2 (10, 0, 0) 0), .int (V.2.2.2 (Int32.toNatClampNeg (l4 + 1)))]) (rest := []) rfl rfl (x_callv rfl rfl (rc_ob R (rc_10 R) rfl) rfl rfl) (H _ _ R rfl rfl) (fun x60 h Y59 R H => ?_)
        refine z_is (i := (.istore 6)) (len := 2) (pc' := 587) (q := 6) rfl rfl rfl (by decide) (fun lv4 hlv => ?_)
        have e0 := xs1_A hlv e0 rfl rfl
        have e1 := xs1_A hlv e1 rfl rfl
        have e2 := xs1_A hlv e2 rfl rfl
        have e3 := xs1_A hlv e3 rfl rfl
        have e4 := xs1_A hlv e4 rfl rfl
        have e5 := xs1_B hlv e5 rfl rfl
        have e6 := xs1_N hlv
        clear hlv
        refine y_next (pc' := 588) (xst_of (i := (.aload_n 2)) (len := 1) rfl rfl (x_aloadV (xisV_r _) e2)) ?_
        refine z_cI (k := 124) (i := (.invokevirtual 88)) (as := [.ref (g.2 (10, 0, 0) 0)]) (rest := []) rfl rfl (x_callv rfl rfl (rc_ob R (rc_10 R) rfl) rfl rfl) (H _ _ R rfl) (fun x62 h Y61 R H => ?_)
        refine y_next (pc' := 593) (xst_of (i := (.iload 5)) (len := 2) rfl rfl (x_ilo e5)) ?_
        by_cases hc : x62 = x58
        · replace H := H.1 hc
          refine y_next (xst_of (i := (.if_icmp .eq 5)) (len := 3) rfl rfl (xt_icmp_eq (t := 598) rfl hc)) ?_
          refine y_next (pc' := 600) (xst_of (i := (.iload 5)) (len := 2) rfl rfl (x_ilo e5)) ?_
          by_cases hc : x58 = 0
          · replace H := H.1 hc
            refine y_next (pc' := 603) (xst_of (i := (.ifCond .ne 15)) (len := 3) rfl rfl (xf_if_ne (t := 615) rfl (fun z => z hc))) ?_
            refine y_next (pc' := 604) (xst_of (i := (.aload_n 3)) (len := 1) rfl rfl (x_aloadV (xisV_r _) e3)) ?_
            refine y_next (pc' := 605) (xst_of (i := (.iconst 0)) (len := 1) rfl rfl (x_ico (v := 0) (by decide))) ?_
            refine z_aL (t := (12, 0, 0)) (k := 0) (n := 1) (i := 0) rfl rfl R (rc_12 R) H.1 ?_
            replace H := H.2
            refine y_next (pc' := 608) (xst_of (i := (.iload 6)) (len := 2) rfl rfl (x_ilo e6)) ?_
            refine y_next (pc' := 609) (xst_of (i := .i2l) (len := 1) rfl rfl rfl) ?_
            refine y_next (pc' := 610) (xst_of (i := .lcmp) (len := 1) rfl rfl rfl) ?_
            by_cases hc : (fL Y61 (12, 0, 0) 0 (Int32.toNatClampNeg 0)) = (Int32.toInt64 x60)
            · replace H := H.1 hc
              refine y_next (xst_of (i := (.ifCond .eq 5)) (len := 3) rfl rfl (xt_if_eq (t := 615) rfl ((lg_cmp_eq (fL Y61 (12, 0, 0) 0 (Int32.toNatClampNeg 0)) (Int32.toInt64 x60)).mpr hc))) ?_
              exact H _ _ R e0 e1 e2 e3 e4 e5 e6
            · replace H := H.2 hc
              refine y_next (pc' := 613) (xst_of (i := (.ifCond .eq 5)) (len := 3) rfl rfl (xf_if_eq (t := 615) rfl (fun z => hc ((lg_cmp_eq (fL Y61 (12, 0, 0) 0 (Int32.toNatClampNeg 0)) (Int32.toInt64 x60)).mp z)))) ?_
              refine y_next (pc' := 614) (xst_of (i := (.iconst 0)) (len := 1) rfl rfl (x_ico (v := 0) (by decide))) ?_
              exact y_ret (xst_of (i := .ireturn) (len := 1) rfl rfl (x_zret rfl H.1)) ⟨_, _, _, rfl, R, xle_r, H.2⟩
          · replace H := H.2 hc
            refine y_next (xst_of (i := (.ifCond .ne 15)) (len := 3) rfl rfl (xt_if_ne (t := 615) rfl hc)) ?_
            exact H _ _ R e0 e1 e2 e3 e4 e5 e6
        · replace H := H.2 hc
          refine y_next (pc' := 596) (xst_of (i := (.if_icmp .eq 5)) (len := 3) rfl rfl (xf_icmp_eq (t := 598) rfl hc)) ?_
          refine y_next (pc' := 597) (xst_of (i := (.iconst 0)) (len := 1) rfl rfl (x_ico (v := 0) (by decide))) ?_
          exact y_ret (xst_of (i := .ireturn) (len := 1) rfl rfl (x_zret rfl H.1)) ⟨_, _, _, rfl, R, xle_r, H.2⟩
      · replace H := H.2.2.2.2.2.2.2.2.2.2.2.2.1
        have hz : ((V.2.2.2 (Int32.toNatClampNeg l4)) &&& 31) = 12 := Int32.toInt_inj.mp (hy.trans rfl)
        replace H := H hz
        refine y_next (xst_of (i := (.tableswitch 1030 0 19 #[96, 121, 146, 183, 256, 281, 354, 391, 404, 472, 509, 522, 578, 634, 659, 727, 795, 850, 918, 974])) (len := 96) rfl rfl (x_sw_in (t := 618) hx (by rw [hy]; rfl) rfl)) ?_
        refine y_next (pc' := 619) (xst_of (i := (.aload_n 1)) (len := 1) rfl rfl (x_aloadV (xisV_r _) e1)) ?_
        refine y_next (pc' := 620) (xst_of (i := (.aload_n 0)) (len := 1) rfl rfl (x_aloadV (xisV_r _) e0)) ?_
        refine y_next (pc' := 622) (xst_of (i := (.iload 4)) (len := 2) rfl rfl (x_ilo e4)) ?_
        refine y_next (pc' := 623) (xst_of (i := (.iconst 1)) (len := 1) rfl rfl (x_ico (v := 1) (by decide))) ?_
        refine y_next (pc' := 624) (xst_of (i := .iadd) (len := 1) rfl rfl rfl) ?_
        refine z_S (i := (l4 + 1)) rfl R H.1 ?_
        replace H := H.2
        refine y_next (pc' := 626) (xst_of (i := (.aload_n 3)) (len := 1) rfl rfl (x_aloadV (xisV_r _) e3)) ?_
        refine z_cI (k := 191) (i := (.invokestatic 103)) (as := [.ref (g.2 (9, 0, 0) 0), .int (V.2.2.2 (Int32.toNatClampNeg (l4 + 1))), .ref (g.2 (12, 0, 0) 1)]) (rest := []) rfl rfl rfl (H _ _ R rfl rfl rfl) (fun x64 h Y63 R H => ?_)
        refine z_is (i := (.istore 5)) (len := 2) (pc' := 631) (q := 5) rfl rfl rfl (by decide) (fun lv5 hlv => ?_)
        have e0 := xs1_A hlv e0 rfl rfl
        have e1 := xs1_A hlv e1 rfl rfl
        have e2 := xs1_A hlv e2 rfl rfl
        have e3 := xs1_A hlv e3 rfl rfl
        have e4 := xs1_B hlv e4 rfl rfl
        have e5 := xs1_N hlv
        clear hlv
        refine y_next (pc' := 632) (xst_of (i := (.aload_n 2)) (len := 1) rfl rfl (x_aloadV (xisV_r _) e2)) ?_
        refine y_next (pc' := 633) (xst_of (i := (.aload_n 0)) (len := 1) rfl rfl (x_aloadV (xisV_r _) e0)) ?_
        refine y_next (pc' := 635) (xst_of (i := (.iload 4)) (len := 2) rfl rfl (x_ilo e4)) ?_
        refine y_next (pc' := 636) (xst_of (i := (.iconst 1)) (len := 1) rfl rfl (x_ico (v := 1) (by decide))) ?_
        refine y_next (pc' := 637) (xst_of (i := .iadd) (len := 1) rfl rfl rfl) ?_
        refine z_S (i := (l4 + 1)) rfl R H.1 ?_
        replace H := H.2
        refine z_cI (k := 174) (i := (.invokevirtual 105)) (as := [.ref (g.2 (10, 0, 0) 0), .int (V.2.2.2 (Int32.toNatClampNeg (l4 + 1)))]) (rest := []) rfl rfl (x_callv rfl rfl (rc_ob R (rc_10 R) rfl) rfl rfl) (H _ _ R rfl rfl) (fun x66 h Y65 R H => ?_)
        refine z_is (i := (.istore 6)) (len := 2) (pc' := 643) (q := 6) rfl rfl rfl (by decide) (fun lv6 hlv => ?_)
        have e0 := xs1_A hlv e0 rfl rfl
        have e1 := xs1_A hlv e1 rfl rfl
        have e2 := xs1_A hlv e2 rfl rfl
        have e3 := xs1_A hlv e3 rfl rfl
        have e4 := xs1_A hlv e4 rfl rfl
        have e5 := xs1_B hlv e5 rfl rfl
        have e6 := xs1_N hlv
        clear hlv
        refine y_next (pc' := 644) (xst_of (i := (.aload_n 2)) (len := 1) rfl rfl (x_aloadV (xisV_r _) e2)) ?_
        refine z_cI (k := 124) (i := (.invokevirtual 88)) (as := [.ref (g.2 (10, 0, 0) 0)]) (rest := []) rfl rfl (x_callv rfl rfl (rc_ob R (rc_10 R) rfl) rfl rfl) (H _ _ R rfl) (fun x68 h Y67 R H => ?_)
        refine y_next (pc' := 649) (xst_of (i := (.iload 5)) (len := 2) rfl rfl (x_ilo e5)) ?_
        by_cases hc : x68 = x64
        · replace H := H.1 hc
          refine y_next (xst_of (i := (.if_icmp .eq 5)) (len := 3) rfl rfl (xt_icmp_eq (t := 654) rfl hc)) ?_
          refine y_next (pc' := 656) (xst_of (i := (.iload 5)) (len := 2) rfl rfl (x_ilo e5)) ?_
          by_cases hc : x64 = 0
          · replace H := H.1 hc
            refine y_next (pc' := 659) (xst_of (i := (.ifCond .ne 15)) (len := 3) rfl rfl (xf_if_ne (t := 671) rfl (fun z => z hc))) ?_
            refine y_next (pc' := 660) (xst_of (i := (.aload_n 3)) (len := 1) rfl rfl (x_aloadV (xisV_r _) e3)) ?_
            refine y_next (pc' := 661) (xst_of (i := (.iconst 0)) (len := 1) rfl rfl (x_ico (v := 0) (by decide))) ?_
            refine z_aL (t := (12, 0, 0)) (k := 0) (n := 1) (i := 0) rfl rfl R (rc_12 R) H.1 ?_
            replace H := H.2
            refine y_next (pc' := 664) (xst_of (i := (.iload 6)) (len := 2) rfl rfl (x_ilo e6)) ?_
            refine y_next (pc' := 665) (xst_of (i := .i2l) (len := 1) rfl rfl rfl) ?_
            refine y_next (pc' := 666) (xst_of (i := .lcmp) (len := 1) rfl rfl rfl) ?_
            by_cases hc : (fL Y67 (12, 0, 0) 0 (Int32.toNatClampNeg 0)) = (Int32.toInt64 x66)
            · replace H := H.1 hc
              refine y_next (xst_of (i := (.ifCond .eq 5)) (len := 3) rfl rfl (xt_if_eq (t := 671) rfl ((lg_cmp_eq (fL Y67 (12, 0, 0) 0 (Int32.toNatClampNeg 0)) (Int32.toInt64 x66)).mpr hc))) ?_
              exact H _ _ R e0 e1 e2 e3 e4 e5 e6
            · replace H := H.2 hc
              refine y_next (pc' := 669) (xst_of (i := (.ifCond .eq 5)) (len := 3) rfl rfl (xf_if_eq (t := 671) rfl (fun z => hc ((lg_cmp_eq (fL Y67 (12, 0, 0) 0 (Int32.toNatClampNeg 0)) (Int32.toInt64 x66)).mp z)))) ?_
              refine y_next (pc' := 670) (xst_of (i := (.iconst 0)) (len := 1) rfl rfl (x_ico (v := 0) (by decide))) ?_
              exact y_ret (xst_of (i := .ireturn) (len := 1) rfl rfl (x_zret rfl H.1)) ⟨_, _, _, rfl, R, xle_r, H.2⟩
          · replace H := H.2 hc
            refine y_next (xst_of (i := (.ifCond .ne 15)) (len := 3) rfl rfl (xt_if_ne (t := 671) rfl hc)) ?_
            exact H _ _ R e0 e1 e2 e3 e4 e5 e6
        · replace H := H.2 hc
          refine y_next (pc' := 652) (xst_of (i := (.if_icmp .eq 5)) (len := 3) rfl rfl (xf_icmp_eq (t := 654) rfl hc)) ?_
          refine y_next (pc' := 653) (xst_of (i := (.iconst 0)) (len := 1) rfl rfl (x_ico (v := 0) (by decide))) ?_
          exact y_ret (xst_of (i := .ireturn) (len := 1) rfl rfl (x_zret rfl H.1)) ⟨_, _, _, rfl, R, xle_r, H.2⟩
      · replace H := H.2.2.2.2.2.2.2.2.2.2.2.2.2.1
        have hz : ((V.2.2.2 (Int32.toNatClampNeg l4)) &&& 31) = 13 := Int32.toInt_inj.mp (hy.trans rfl)
        replace H := H hz
        refine y_next (xst_of (i := (.tableswitch 1030 0 19 #[96, 121, 146, 183, 256, 281, 354, 391, 404, 472, 509, 522, 578, 634, 659, 727, 795, 850, 918, 974])) (len := 96) rfl rfl (x_sw_in (t := 674) hx (by rw [hy]; rfl) rfl)) ?_
        refine y_next (pc' := 675) (xst_of (i := (.aload_n 1)) (len := 1) rfl rfl (x_aloadV (xisV_r _) e1)) ?_
        refine y_next (pc' := 676) (xst_of (i := (.aload_n 0)) (len := 1) rfl rfl (x_aloadV (xisV_r _) e0)) ?_
        refine y_next (pc' := 678) (xst_of (i := (.iload 4)) (len := 2) rfl rfl (x_ilo e4)) ?_
        refine y_next (pc' := 679) (xst_of (i := (.iconst 1)) (len := 1) rfl rfl (x_ico (v := 1) (by decide))) ?_
        refine y_next (pc' := 680) (xst_of (i := .iadd) (len := 1) rfl rfl rfl) ?_
        refine z_S (i := (l4 + 1)) rfl R H.1 ?_
        replace H := H.2
        refine z_cI (k := 101) (i := (.invokevirtual 106)) (as := [.ref (g.2 (9, 0, 0) 0), .int (V.2.2.2 (Int32.toNatClampNeg (l4 + 1)))]) (rest := []) rfl rfl (x_callv rfl rfl (rc_ob R (rc_9 R) rfl) rfl rfl) (H _ _ R rfl rfl) (fun x70 h Y69 R H => ?_)
        refine y_next (pc' := 685) (xst_of (i := (.aload_n 2)) (len := 1) rfl rfl (x_aloadV (xisV_r _) e2)) ?_
        refine y_next (pc' := 686) (xst_of (i := (.aload_n 0)) (len := 1) rfl rfl (x_aloadV (xisV_r _) e0)) ?_
        refine y_next (pc' := 688) (xst_of (i := (.iload 4)) (len := 2) rfl rfl (x_ilo e4)) ?_
        refine y_next (pc' := 689) (xst_of (i := (.iconst 1)) (len := 1) rfl rfl (x_ico (v := 1) (by decide))) ?_
        refine y_next (pc' := 690) (xst_of (i := .iadd) (len := 1) rfl rfl rfl) ?_
        refine z_S (i := (l4 + 1)) rfl R H.1 ?_
        replace H := H.2
        refine z_cI (k := 177) (i := (.invokevirtual 110)) (as := [.ref (g.2 (10, 0, 0) 0), .int (V.2.2.2 (Int32.toNatClampNeg (l4 + 1)))]) (rest := [.int x70]) rfl rfl (x_callv rfl rfl (rc_ob R (rc_10 R) rfl) rfl rfl) (H _ _ R rfl rfl) (fun x72 h Y71 R H => ?_)
        by_cases hc : x70 = x72
        · replace H := H.1 hc
          refine y_next (xst_of (i := (.if_icmp .eq 376)) (len := 3) rfl rfl (xt_icmp_eq (t := 1070) rfl hc)) ?_
          exact H _ _ R e0 e1 e2 e3 e4
        · replace H := H.2 hc
          refine y_next (pc' := 697) (xst_of (i := (.if_icmp .eq 376)) (len := 3) rfl rfl (xf_icmp_eq (t := 1070) rfl hc)) ?_
          refine y_next (pc' := 698) (xst_of (i := (.iconst 0)) (len := 1) rfl rfl (x_ico (v := 0) (by decide))) ?_
          exact y_ret (xst_of (i := .ireturn) (len := 1) rfl rfl (x_zret rfl H.1)) ⟨_, _, _, rfl, R, xle_r, H.2⟩
      · replace H := H.2.2.2.2.2.2.2.2.2.2.2.2.2.2.1
        have hz : ((V.2.2.2 (Int32.toNatClampNeg l4)) &&& 31) = 14 := Int32.toInt_inj.mp (hy.trans rfl)
        replace H := H hz
        refine y_next (xst_of (i := (.tableswitch 1030 0 19 #[96, 121, 146, 183, 256, 281, 354, 391, 404, 472, 509, 522, 578, 634, 659, 727, 795, 850, 918, 974])) (len := 96) rfl rfl (x_sw_in (t := 699) hx (by rw [hy]; rfl) rfl)) ?_
        refine y_next (pc' := 700) (xst_of (i := (.aload_n 1)) (len := 1) rfl rfl (x_aloadV (xisV_r _) e1)) ?_
        refine y_next (pc' := 701) (xst_of (i := (.aload_n 0)) (len := 1) rfl rfl (x_aloadV (xisV_r _) e0)) ?_
        refine y_next (pc' := 703) (xst_of (i := (.iload 4)) (len := 2) rfl rfl (x_ilo e4)) ?_
        refine y_next (pc' := 704) (xst_of (i := (.iconst 1)) (len := 1) rfl rfl (x_ico (v := 1) (by decide))) ?_
        refine y_next (pc' := 705) (xst_of (i := .iadd) (len := 1) rfl rfl rfl) ?_
        refine z_S (i := (l4 + 1)) rfl R H.1 ?_
        replace H := H.2
        refine y_next (pc' := 707) (xst_of (i := (.aload_n 0)) (len := 1) rfl rfl (x_aloadV (xisV_r _) e0)) ?_
        refine y_next (pc' := 709) (xst_of (i := (.iload 4)) (len := 2) rfl rfl (x_ilo e4)) ?_
        refine y_next (pc' := 710) (xst_of (i := (.iconst 2)) (len := 1) rfl rfl (x_ico (v := 2) (by decide))) ?_
        refine y_next (pc' := 711) (xst_of (i := .iadd) (len := 1) rfl rfl rfl) ?_
        refine z_S (i := (l4 + 2)) rfl R H.1 ?_
        replace H := H.2
        refine y_next (pc' := 713) (xst_of (i := (.aload_n 3)) (len := 1) rfl rfl (x_aloadV (xisV_r _) e3)) ?_
        refine z_cI (k := 192) (i := (.invokestatic 111)) (as := [.ref (g.2 (9, 0, 0) 0), .int (V.2.2.2 (Int32.toNatClampNeg (l4 + 1))), .int (V.2.2.2 (Int32.toNatClampNeg (l4 + 2))), .ref (g.2 (12, 0, 0) 1)]) (rest := []) rfl rfl rfl (H _ _ R rfl rfl rfl rfl) (fun x74 h Y73 R H => ?_)
        refine z_is (i := (.istore 5)) (len := 2) (pc' := 718) (q := 5) rfl rfl rfl (by decide) (fun lv7 hlv => ?_)
        have e0 := xs1_A hlv e0 rfl rfl
        have e1 := xs1_A hlv e1 rfl rfl
        have e2 := xs1_A hlv e2 rfl rfl
        have e3 := xs1_A hlv e3 rfl rfl
        have e4 := xs1_B hlv e4 rfl rfl
        have e5 := xs1_N hlv
        clear hlv
        refine y_next (pc' := 719) (xst_of (i := (.aload_n 2)) (len := 1) rfl rfl (x_aloadV (xisV_r _) e2)) ?_
        refine y_next (pc' := 720) (xst_of (i := (.aload_n 0)) (len := 1) rfl rfl (x_aloadV (xisV_r _) e0)) ?_
        refine y_next (pc' := 722) (xst_of (i := (.iload 4)) (len := 2) rfl rfl (x_ilo e4)) ?_
        refine y_next (pc' := 723) (xst_of (i := (.iconst 1)) (len := 1) rfl rfl (x_ico (v := 1) (by decide))) ?_
        refine y_next (pc' := 724) (xst_of (i := .iadd) (len := 1) rfl rfl rfl) ?_
        refine z_S (i := (l4 + 1)) rfl R H.1 ?_
        replace H := H.2
        refine y_next (pc' := 726) (xst_of (i := (.aload_n 0)) (len := 1) rfl rfl (x_aloadV (xisV_r _) e0)) ?_
        refine y_next (pc' := 728) (xst_of (i := (.iload 4)) (len := 2) rfl rfl (x_ilo e4)) ?_
        refine y_next (pc' := 729) (xst_of (i := (.iconst 2)) (len := 1) rfl rfl (x_ico (v := 2) (by decide))) ?_
        refine y_next (pc' := 730) (xst_of (i := .iadd) (len := 1) rfl rfl rfl) ?_
        refine z_S (i := (l4 + 2)) rfl R H.1 ?_
        replace H := H.2
        refine z_cI (k := 178) (i := (.invokevirtual 113)) (as := [.ref (g.2 (10, 0, 0) 0), .int (V.2.2.2 (Int32.toNatClampNeg (l4 + 1))), .int (V.2.2.2 (Int32.toNatClampNeg (l4 + 2)))]) (rest := []) rfl rfl (x_callv rfl rfl (rc_ob R (rc_10 R) rfl) rfl rfl) (H _ _ R rfl rfl rfl) (fun x76 h Y75 R H => ?_)
        refine z_is (i := (.istore 6)) (len := 2) (pc' := 736) (q := 6) rfl rfl rfl (by decide) (fun lv8 hlv => ?_)
        have e0 := xs1_A hlv e0 rfl rfl
        have e1 := xs1_A hlv e1 rfl rfl
        have e2 := xs1_A hlv e2 rfl rfl
        have e3 := xs1_A hlv e3 rfl rfl
        have e4 := xs1_A hlv e4 rfl rfl
        have e5 := xs1_B hlv e5 rfl rfl
        have e6 := xs1_N hlv
        clear hlv
        refine y_next (pc' := 737) (xst_of (i := (.aload_n 2)) (len := 1) rfl rfl (x_aloadV (xisV_r _) e2)) ?_
        refine z_cI (k := 124) (i := (.invokevirtual 88)) (as := [.ref (g.2 (10, 0, 0) 0)]) (rest := []) rfl rfl (x_callv rfl rfl (rc_ob R (rc_10 R) rfl) rfl rfl) (H _ _ R rfl) (fun x78 h Y77 R H => ?_)
        refine y_next (pc' := 742) (xst_of (i := (.iload 5)) (len := 2) rfl rfl (x_ilo e5)) ?_
        by_cases hc : x78 = x74
        · replace H := H.1 hc
          refine y_next (xst_of (i := (.if_icmp .eq 5)) (len := 3) rfl rfl (xt_icmp_eq (t := 747) rfl hc)) ?_
          refine y_next (pc' := 749) (xst_of (i := (.iload 5)) (len := 2) rfl rfl (x_ilo e5)) ?_
          by_cases hc : x74 = 0
          · replace H := H.1 hc
            refine y_next (pc' := 752) (xst_of (i := (.ifCond .ne 15)) (len := 3) rfl rfl (xf_if_ne (t := 764) rfl (fun z => z hc))) ?_
            refine y_next (pc' := 753) (xst_of (i := (.aload_n 3)) (len := 1) rfl rfl (x_aloadV (xisV_r _) e3)) ?_
            refine y_next (pc' := 754) (xst_of (i := (.iconst 0)) (len := 1) rfl rfl (x_ico (v := 0) (by decide))) ?_
            refine z_aL (t := (12, 0, 0)) (k := 0) (n := 1) (i := 0) rfl rfl R (rc_12 R) H.1 ?_
            replace H := H.2
            refine y_next (pc' := 757) (xst_of (i := (.iload 6)) (len := 2) rfl rfl (x_ilo e6)) ?_
            refine y_next (pc' := 758) (xst_of (i := .i2l) (len := 1) rfl rfl rfl) ?_
            refine y_next (pc' := 759) (xst_of (i := .lcmp) (len := 1) rfl rfl rfl) ?_
            by_cases hc : (fL Y77 (12, 0, 0) 0 (Int32.toNatClampNeg 0)) = (Int32.toInt64 x76)
            · replace H := H.1 hc
              refine y_next (xst_of (i := (.ifCond .eq 5)) (len := 3) rfl rfl (xt_if_eq (t := 764) rfl ((lg_cmp_eq (fL Y77 (12, 0, 0) 0 (Int32.toNatClampNeg 0)) (Int32.toInt64 x76)).mpr hc))) ?_
              exact H _ _ R e0 e1 e2 e3 e4 e5 e6
            · replace H := H.2 hc
              refine y_next (pc' := 762) (xst_of (i := (.ifCond .eq 5)) (len := 3) rfl rfl (xf_if_eq (t := 764) rfl (fun z => hc ((lg_cmp_eq (fL Y77 (12, 0, 0) 0 (Int32.toNatClampNeg 0)) (Int32.toInt64 x76)).mp z)))) ?_
              refine y_next (pc' := 763) (xst_of (i := (.iconst 0)) (len := 1) rfl rfl (x_ico (v := 0) (by decide))) ?_
              exact y_ret (xst_of (i := .ireturn) (len := 1) rfl rfl (x_zret rfl H.1)) ⟨_, _, _, rfl, R, xle_r, H.2⟩
          · replace H := H.2 hc
            refine y_next (xst_of (i := (.ifCond .ne 15)) (len := 3) rfl rfl (xt_if_ne (t := 764) rfl hc)) ?_
            exact H _ _ R e0 e1 e2 e3 e4 e5 e6
        · replace H := H.2 hc
          refine y_next (pc' := 745) (xst_of (i := (.if_icmp .eq 5)) (len := 3) rfl rfl (xf_icmp_eq (t := 747) rfl hc)) ?_
          refine y_next (pc' := 746) (xst_of (i := (.iconst 0)) (len := 1) rfl rfl (x_ico (v := 0) (by decide))) ?_
          exact y_ret (xst_of (i := .ireturn) (len := 1) rfl rfl (x_zret rfl H.1)) ⟨_, _, _, rfl, R, xle_r, H.2⟩
      · replace H := H.2.2.2.2.2.2.2.2.2.2.2.2.2.2.2.1
        have hz : ((V.2.2.2 (Int32.toNatClampNeg l4)) &&& 31) = 15 := Int32.toInt_inj.mp (hy.trans rfl)
        replace H := H hz
        refine y_next (xst_of (i := (.tableswitch 1030 0 19 #[96, 121, 146, 183, 256, 281, 354, 391, 404, 472, 509, 522, 578, 634, 659, 727, 795, 850, 918, 974])) (len := 96) rfl rfl (x_sw_in (t := 767) hx (by rw [hy]; rfl) rfl)) ?_
        refine y_next (pc' := 768) (xst_of (i := (.aload_n 1)) (len := 1) rfl rfl (x_aloadV (xisV_r _) e1)) ?_
        refine y_next (pc' := 769) (xst_of (i := (.aload_n 0)) (len := 1) rfl rfl (x_aloadV (xisV_r _) e0)) ?_
        refine y_next (pc' := 771) (xst_of (i := (.iload 4)) (len := 2) rfl rfl (x_ilo e4)) ?_
        refine y_next (pc' := 772) (xst_of (i := (.iconst 1)) (len := 1) rfl rfl (x_ico (v := 1) (by decide))) ?_
        refine y_next (pc' := 773) (xst_of (i := .iadd) (len := 1) rfl rfl rfl) ?_
        refine z_S (i := (l4 + 1)) rfl R H.1 ?_
        replace H := H.2
        refine y_next (pc' := 775) (xst_of (i := (.aload_n 0)) (len := 1) rfl rfl (x_aloadV (xisV_r _) e0)) ?_
        refine y_next (pc' := 777) (xst_of (i := (.iload 4)) (len := 2) rfl rfl (x_ilo e4)) ?_
        refine y_next (pc' := 778) (xst_of (i := (.iconst 2)) (len := 1) rfl rfl (x_ico (v := 2) (by decide))) ?_
        refine y_next (pc' := 779) (xst_of (i := .iadd) (len := 1) rfl rfl rfl) ?_
        refine z_S (i := (l4 + 2)) rfl R H.1 ?_
        replace H := H.2
        refine y_next (pc' := 781) (xst_of (i := (.aload_n 3)) (len := 1) rfl rfl (x_aloadV (xisV_r _) e3)) ?_
        refine z_cI (k := 193) (i := (.invokestatic 114)) (as := [.ref (g.2 (9, 0, 0) 0), .int (V.2.2.2 (Int32.toNatClampNeg (l4 + 1))), .int (V.2.2.2 (Int32.toNatClampNeg (l4 + 2))), .ref (g.2 (12, 0, 0) 1)]) (rest := []) rfl rfl rfl (H _ _ R rfl rfl rfl rfl) (fun x80 h Y79 R H => ?_)
        refine z_is (i := (.istore 5)) (len := 2) (pc' := 786) (q := 5) rfl rfl rfl (by decide) (fun lv9 hlv => ?_)
        have e0 := xs1_A hlv e0 rfl rfl
        have e1 := xs1_A hlv e1 rfl rfl
        have e2 := xs1_A hlv e2 rfl rfl
        have e3 := xs1_A hlv e3 rfl rfl
        have e4 := xs1_B hlv e4 rfl rfl
        have e5 := xs1_N hlv
        clear hlv
        refine y_next (pc' := 787) (xst_of (i := (.aload_n 2)) (len := 1) rfl rfl (x_aloadV (xisV_r _) e2)) ?_
        refine y_next (pc' := 788) (xst_of (i := (.aload_n 0)) (len := 1) rfl rfl (x_aloadV (xisV_r _) e0)) ?_
        refine y_next (pc' := 790) (xst_of (i := (.iload 4)) (len := 2) rfl rfl (x_ilo e4)) ?_
        refine y_next (pc' := 791) (xst_of (i := (.iconst 1)) (len := 1) rfl rfl (x_ico (v := 1) (by decide))) ?_
        refine y_next (pc' := 792) (xst_of (i := .iadd) (len := 1) rfl rfl rfl) ?_
        refine z_S (i := (l4 + 1)) rfl R H.1 ?_
        replace H := H.2
        refine y_next (pc' := 794) (xst_of (i := (.aload_n 0)) (len := 1) rfl rfl (x_aloadV (xisV_r _) e0)) ?_
        refine y_next (pc' := 796) (xst_of (i := (.iload 4)) (len := 2) rfl rfl (x_ilo e4)) ?_
        refine y_next (pc' := 797) (xst_of (i := (.iconst 2)) (len := 1) rfl rfl (x_ico (v := 2) (by decide))) ?_
        refine y_next (pc' := 798) (xst_of (i := .iadd) (len := 1) rfl rfl rfl) ?_
        refine z_S (i := (l4 + 2)) rfl R H.1 ?_
        replace H := H.2
        refine z_cI (k := 179) (i := (.invokevirtual 116)) (as := [.ref (g.2 (10, 0, 0) 0), .int (V.2.2.2 (Int32.toNatClampNeg (l4 + 1))), .int (V.2.2.2 (Int32.toNatClampNeg (l4 + 2)))]) (rest := []) rfl rfl (x_callv rfl rfl (rc_ob R (rc_10 R) rfl) rfl rfl) (H _ _ R rfl rfl rfl) (fun x82 h Y81 R H => ?_)
        refine z_is (i := (.istore 6)) (len := 2) (pc' := 804) (q := 6) rfl rfl rfl (by decide) (fun lv10 hlv => ?_)
        have e0 := xs1_A hlv e0 rfl rfl
        have e1 := xs1_A hlv e1 rfl rfl
        have e2 := xs1_A hlv e2 rfl rfl
        have e3 := xs1_A hlv e3 rfl rfl
        have e4 := xs1_A hlv e4 rfl rfl
        have e5 := xs1_B hlv e5 rfl rfl
        have e6 := xs1_N hlv
        clear hlv
        refine y_next (pc' := 805) (xst_of (i := (.aload_n 2)) (len := 1) rfl rfl (x_aloadV (xisV_r _) e2)) ?_
        refine z_cI (k := 124) (i := (.invokevirtual 88)) (as := [.ref (g.2 (10, 0, 0) 0)]) (rest := []) rfl rfl (x_callv rfl rfl (rc_ob R (rc_10 R) rfl) rfl rfl) (H _ _ R rfl) (fun x84 h Y83 R H => ?_)
        refine y_next (pc' := 810) (xst_of (i := (.iload 5)) (len := 2) rfl rfl (x_ilo e5)) ?_
        by_cases hc : x84 = x80
        · replace H := H.1 hc
          refine y_next (xst_of (i := (.if_icmp .eq 5)) (len := 3) rfl rfl (xt_icmp_eq (t := 815) rfl hc)) ?_
          refine y_next (pc' := 817) (xst_of (i := (.iload 5)) (len := 2) rfl rfl (x_ilo e5)) ?_
          by_cases hc : x80 = 0
          · replace H := H.1 hc
            refine y_next (pc' := 820) (xst_of (i := (.ifCond .ne 15)) (len := 3) rfl rfl (xf_if_ne (t := 832) rfl (fun z => z hc))) ?_
            refine y_next (pc' := 821) (xst_of (i := (.aload_n 3)) (len := 1) rfl rfl (x_aloadV (xisV_r _) e3)) ?_
            refine y_next (pc' := 822) (xst_of (i := (.iconst 0)) (len := 1) rfl rfl (x_ico (v := 0) (by decide))) ?_
            refine z_aL (t := (12, 0, 0)) (k := 0) (n := 1) (i := 0) rfl rfl R (rc_12 R) H.1 ?_
            replace H := H.2
            refine y_next (pc' := 825) (xst_of (i := (.iload 6)) (len := 2) rfl rfl (x_ilo e6)) ?_
            refine y_next (pc' := 826) (xst_of (i := .i2l) (len := 1) rfl rfl rfl) ?_
            refine y_next (pc' := 827) (xst_of (i := .lcmp) (len := 1) rfl rfl rfl) ?_
            by_cases hc : (fL Y83 (12, 0, 0) 0 (Int32.toNatClampNeg 0)) = (Int32.toInt64 x82)
            · replace H := H.1 hc
              refine y_next (xst_of (i := (.ifCond .eq 5)) (len := 3) rfl rfl (xt_if_eq (t := 832) rfl ((lg_cmp_eq (fL Y83 (12, 0, 0) 0 (Int32.toNatClampNeg 0)) (Int32.toInt64 x82)).mpr hc))) ?_
              exact H _ _ R e0 e1 e2 e3 e4 e5 e6
            · replace H := H.2 hc
              refine y_next (pc' := 830) (xst_of (i := (.ifCond .eq 5)) (len := 3) rfl rfl (xf_if_eq (t := 832) rfl (fun z => hc ((lg_cmp_eq (fL Y83 (12, 0, 0) 0 (Int32.toNatClampNeg 0)) (Int32.toInt64 x82)).mp z)))) ?_
              refine y_next (pc' := 831) (xst_of (i := (.iconst 0)) (len := 1) rfl rfl (x_ico (v := 0) (by decide))) ?_
              exact y_ret (xst_of (i := .ireturn) (len := 1) rfl rfl (x_zret rfl H.1)) ⟨_, _, _, rfl, R, xle_r, H.2⟩
          · replace H := H.2 hc
            refine y_next (xst_of (i := (.ifCond .ne 15)) (len := 3) rfl rfl (xt_if_ne (t := 832) rfl hc)) ?_
            exact H _ _ R e0 e1 e2 e3 e4 e5 e6
        · replace H := H.2 hc
          refine y_next (pc' := 813) (xst_of (i := (.if_icmp .eq 5)) (len := 3) rfl rfl (xf_icmp_eq (t := 815) rfl hc)) ?_
          refine y_next (pc' := 814) (xst_of (i := (.iconst 0)) (len := 1) rfl rfl (x_ico (v := 0) (by decide))) ?_
          exact y_ret (xst_of (i := .ireturn) (len := 1) rfl rfl (x_zret rfl H.1)) ⟨_, _, _, rfl, R, xle_r, H.2⟩
      · replace H := H.2.2.2.2.2.2.2.2.2.2.2.2.2.2.2.2.1
        have hz : ((V.2.2.2 (Int32.toNatClampNeg l4)) &&& 31) = 16 := Int32.toInt_inj.mp (hy.trans rfl)
        replace H := H hz
        refine y_next (xst_of (i := (.tableswitch 1030 0 19 #[96, 121, 146, 183, 256, 281, 354, 391, 404, 472, 509, 522, 578, 634, 659, 727, 795, 850, 918, 974])) (len := 96) rfl rfl (x_sw_in (t := 835) hx (by rw [hy]; rfl) rfl)) ?_
        refine y_next (pc' := 836) (xst_of (i := (.aload_n 1)) (len := 1) rfl rfl (x_aloadV (xisV_r _) e1)) ?_
        refine y_next (pc' := 837) (xst_of (i := (.aload_n 0)) (len := 1) rfl rfl (x_aloadV (xisV_r _) e0)) ?_
        refine y_next (pc' := 839) (xst_of (i := (.iload 4)) (len := 2) rfl rfl (x_ilo e4)) ?_
        refine y_next (pc' := 840) (xst_of (i := (.iconst 1)) (len := 1) rfl rfl (x_ico (v := 1) (by decide))) ?_
        refine y_next (pc' := 841) (xst_of (i := .iadd) (len := 1) rfl rfl rfl) ?_
        refine z_S (i := (l4 + 1)) rfl R H.1 ?_
        replace H := H.2
        refine y_next (pc' := 843) (xst_of (i := (.aload_n 3)) (len := 1) rfl rfl (x_aloadV (xisV_r _) e3)) ?_
        refine z_cI (k := 194) (i := (.invokestatic 117)) (as := [.ref (g.2 (9, 0, 0) 0), .int (V.2.2.2 (Int32.toNatClampNeg (l4 + 1))), .ref (g.2 (12, 0, 0) 1)]) (rest := []) rfl rfl rfl (H _ _ R rfl rfl rfl) (fun x86 h Y85 R H => ?_)
        refine z_is (i := (.istore 5)) (len := 2) (pc' := 848) (q := 5) rfl rfl rfl (by decide) (fun lv11 hlv => ?_)
        have e0 := xs1_A hlv e0 rfl rfl
        have e1 := xs1_A hlv e1 rfl rfl
        have e2 := xs1_A hlv e2 rfl rfl
        have e3 := xs1_A hlv e3 rfl rfl
        have e4 := xs1_B hlv e4 rfl rfl
        have e5 := xs1_N hlv
        clear hlv
        refine y_next (pc' := 849) (xst_of (i := (.aload_n 2)) (len := 1) rfl rfl (x_aloadV (xisV_r _) e2)) ?_
        refine y_next (pc' := 850) (xst_of (i := (.aload_n 0)) (len := 1) rfl rfl (x_aloadV (xisV_r _) e0)) ?_
        refine y_next (pc' := 852) (xst_of (i := (.iload 4)) (len := 2) rfl rfl (x_ilo e4)) ?_
        refine y_next (pc' := 853) (xst_of (i := (.iconst 1)) (len := 1) rfl rfl (x_ico (v := 1) (by decide))) ?_
        refine y_next (pc' := 854) (xst_of (i := .iadd) (len := 1) rfl rfl rfl) ?_
        refine z_S (i := (l4 + 1)) rfl R H.1 ?_
        replace H := H.2
        refine z_cL (k := 180) (i := (.invokevirtual 119)) (as := [.ref (g.2 (10, 0, 0) 0), .int (V.2.2.2 (Int32.toNatClampNeg (l4 + 1)))]) (rest := []) rfl rfl (x_callv rfl rfl (rc_ob R (rc_10 R) rfl) rfl rfl) (H _ _ R rfl rfl) (fun x88 h Y87 R H => ?_)
        refine z_ls (i := (.lstore 6)) (len := 2) (pc' := 860) (q := 6) rfl rfl rfl (by decide) (fun lv12 hlv => ?_)
        have e0 := xs2_A hlv e0 rfl rfl
        have e1 := xs2_A hlv e1 rfl rfl
        have e2 := xs2_A hlv e2 rfl rfl
        have e3 := xs2_A hlv e3 rfl rfl
        have e4 := xs2_A hlv e4 rfl rfl
        have e5 := xs2_B hlv e5 rfl rfl
        have e6 := xs2_N hlv
        clear hlv
        refine y_next (pc' := 861) (xst_of (i := (.aload_n 2)) (len := 1) rfl rfl (x_aloadV (xisV_r _) e2)) ?_
        refine z_cI (k := 124) (i := (.invokevirtual 88)) (as := [.ref (g.2 (10, 0, 0) 0)]) (rest := []) rfl rfl (x_callv rfl rfl (rc_ob R (rc_10 R) rfl) rfl rfl) (H _ _ R rfl) (fun x90 h Y89 R H => ?_)
        refine y_next (pc' := 866) (xst_of (i := (.iload 5)) (len := 2) rfl rfl (x_ilo e5)) ?_
        by_cases hc : x90 = x86
        · replace H := H.1 hc
          refine y_next (xst_of (i := (.if_icmp .eq 5)) (len := 3) rfl rfl (xt_icmp_eq (t := 871) rfl hc)) ?_
          refine y_next (pc' := 873) (xst_of (i := (.iload 5)) (len := 2) rfl rfl (x_ilo e5)) ?_
          by_cases hc : x86 = 0
          · replace H := H.1 hc
            refine y_next (pc' := 876) (xst_of (i := (.ifCond .ne 14)) (len := 3) rfl rfl (xf_if_ne (t := 887) rfl (fun z => z hc))) ?_
            refine y_next (pc' := 877) (xst_of (i := (.aload_n 3)) (len := 1) rfl rfl (x_aloadV (xisV_r _) e3)) ?_
            refine y_next (pc' := 878) (xst_of (i := (.iconst 0)) (len := 1) rfl rfl (x_ico (v := 0) (by decide))) ?_
            refine z_aL (t := (12, 0, 0)) (k := 0) (n := 1) (i := 0) rfl rfl R (rc_12 R) H.1 ?_
            replace H := H.2
            refine y_next (pc' := 881) (xst_of (i := (.lload 6)) (len := 2) rfl rfl (x_llo e6)) ?_
            refine y_next (pc' := 882) (xst_of (i := .lcmp) (len := 1) rfl rfl rfl) ?_
            by_cases hc : (fL Y89 (12, 0, 0) 0 (Int32.toNatClampNeg 0)) = x88
            · replace H := H.1 hc
              refine y_next (xst_of (i := (.ifCond .eq 5)) (len := 3) rfl rfl (xt_if_eq (t := 887) rfl ((lg_cmp_eq (fL Y89 (12, 0, 0) 0 (Int32.toNatClampNeg 0)) x88).mpr hc))) ?_
              exact H _ _ R e0 e1 e2 e3 e4 e5 e6
            · replace H := H.2 hc
              refine y_next (pc' := 885) (xst_of (i := (.ifCond .eq 5)) (len := 3) rfl rfl (xf_if_eq (t := 887) rfl (fun z => hc ((lg_cmp_eq (fL Y89 (12, 0, 0) 0 (Int32.toNatClampNeg 0)) x88).mp z)))) ?_
              refine y_next (pc' := 886) (xst_of (i := (.iconst 0)) (len := 1) rfl rfl (x_ico (v := 0) (by decide))) ?_
              exact y_ret (xst_of (i := .ireturn) (len := 1) rfl rfl (x_zret rfl H.1)) ⟨_, _, _, rfl, R, xle_r, H.2⟩
          · replace H := H.2 hc
            refine y_next (xst_of (i := (.ifCond .ne 14)) (len := 3) rfl rfl (xt_if_ne (t := 887) rfl hc)) ?_
            exact H _ _ R e0 e1 e2 e3 e4 e5 e6
        · replace H := H.2 hc
          refine y_next (pc' := 869) (xst_of (i := (.if_icmp .eq 5)) (len := 3) rfl rfl (xf_icmp_eq (t := 871) rfl hc)) ?_
          refine y_next (pc' := 870) (xst_of (i := (.iconst 0)) (len := 1) rfl rfl (x_ico (v := 0) (by decide))) ?_
          exact y_ret (xst_of (i := .ireturn) (len := 1) rfl rfl (x_zret rfl H.1)) ⟨_, _, _, rfl, R, xle_r, H.2⟩
      · replace H := H.2.2.2.2.2.2.2.2.2.2.2.2.2.2.2.2.2.1
        have hz : ((V.2.2.2 (Int32.toNatClampNeg l4)) &&& 31) = 17 := Int32.toInt_inj.mp (hy.trans rfl)
        replace H := H hz
        refine y_next (xst_of (i := (.tableswitch 1030 0 19 #[96, 121, 146, 183, 256, 281, 354, 391, 404, 472, 509, 522, 578, 634, 659, 727, 795, 850, 918, 974])) (len := 96) rfl rfl (x_sw_in (t := 890) hx (by rw [hy]; rfl) rfl)) ?_
        refine y_next (pc' := 891) (xst_of (i := (.aload_n 1)) (len := 1) rfl rfl (x_aloadV (xisV_r _) e1)) ?_
        refine y_next (pc' := 892) (xst_of (i := (.aload_n 0)) (len := 1) rfl rfl (x_aloadV (xisV_r _) e0)) ?_
        refine y_next (pc' := 894) (xst_of (i := (.iload 4)) (len := 2) rfl rfl (x_ilo e4)) ?_
        refine y_next (pc' := 895) (xst_of (i := (.iconst 1)) (len := 1) rfl rfl (x_ico (v := 1) (by decide))) ?_
        refine y_next (pc' := 896) (xst_of (i := .iadd) (len := 1) rfl rfl rfl) ?_
        refine z_S (i := (l4 + 1)) rfl R H.1 ?_
        replace H := H.2
        refine y_next (pc' := 898) (xst_of (i := (.aload_n 0)) (len := 1) rfl rfl (x_aloadV (xisV_r _) e0)) ?_
        refine y_next (pc' := 900) (xst_of (i := (.iload 4)) (len := 2) rfl rfl (x_ilo e4)) ?_
        refine y_next (pc' := 901) (xst_of (i := (.iconst 2)) (len := 1) rfl rfl (x_ico (v := 2) (by decide))) ?_
        refine y_next (pc' := 902) (xst_of (i := .iadd) (len := 1) rfl rfl rfl) ?_
        refine z_S (i := (l4 + 2)) rfl R H.1 ?_
        replace H := H.2
        refine y_next (pc' := 904) (xst_of (i := (.aload_n 3)) (len := 1) rfl rfl (x_aloadV (xisV_r _) e3)) ?_
        refine z_cI (k := 195) (i := (.invokestatic 120)) (as := [.ref (g.2 (9, 0, 0) 0), .int (V.2.2.2 (Int32.toNatClampNeg (l4 + 1))), .int (V.2.2.2 (Int32.toNatClampNeg (l4 + 2))), .ref (g.2 (12, 0, 0) 1)]) (rest := []) rfl rfl rfl (H _ _ R rfl rfl rfl rfl) (fun x92 h Y91 R H => ?_)
        refine z_is (i := (.istore 5)) (len := 2) (pc' := 909) (q := 5) rfl rfl rfl (by decide) (fun lv13 hlv => ?_)
        have e0 := xs1_A hlv e0 rfl rfl
        have e1 := xs1_A hlv e1 rfl rfl
        have e2 := xs1_A hlv e2 rfl rfl
        have e3 := xs1_A hlv e3 rfl rfl
        have e4 := xs1_B hlv e4 rfl rfl
        have e5 := xs1_N hlv
        clear hlv
        refine y_next (pc' := 910) (xst_of (i := (.aload_n 2)) (len := 1) rfl rfl (x_aloadV (xisV_r _) e2)) ?_
        refine y_next (pc' := 911) (xst_of (i := (.aload_n 0)) (len := 1) rfl rfl (x_aloadV (xisV_r _) e0)) ?_
        refine y_next (pc' := 913) (xst_of (i := (.iload 4)) (len := 2) rfl rfl (x_ilo e4)) ?_
        refine y_next (pc' := 914) (xst_of (i := (.iconst 1)) (len := 1) rfl rfl (x_ico (v := 1) (by decide))) ?_
        refine y_next (pc' := 915) (xst_of (i := .iadd) (len := 1) rfl rfl rfl) ?_
        refine z_S (i := (l4 + 1)) rfl R H.1 ?_
        replace H := H.2
        refine y_next (pc' := 917) (xst_of (i := (.aload_n 0)) (len := 1) rfl rfl (x_aloadV (xisV_r _) e0)) ?_
        refine y_next (pc' := 919) (xst_of (i := (.iload 4)) (len := 2) rfl rfl (x_ilo e4)) ?_
        refine y_next (pc' := 920) (xst_of (i := (.iconst 2)) (len := 1) rfl rfl (x_ico (v := 2) (by decide))) ?_
        refine y_next (pc' := 921) (xst_of (i := .iadd) (len := 1) rfl rfl rfl) ?_
        refine z_S (i := (l4 + 2)) rfl R H.1 ?_
        replace H := H.2
        refine z_cI (k := 181) (i := (.invokevirtual 122)) (as := [.ref (g.2 (10, 0, 0) 0), .int (V.2.2.2 (Int32.toNatClampNeg (l4 + 1))), .int (V.2.2.2 (Int32.toNatClampNeg (l4 + 2)))]) (rest := []) rfl rfl (x_callv rfl rfl (rc_ob R (rc_10 R) rfl) rfl rfl) (H _ _ R rfl rfl rfl) (fun x94 h Y93 R H => ?_)
        refine z_is (i := (.istore 6)) (len := 2) (pc' := 927) (q := 6) rfl rfl rfl (by decide) (fun lv14 hlv => ?_)
        have e0 := xs1_A hlv e0 rfl rfl
        have e1 := xs1_A hlv e1 rfl rfl
        have e2 := xs1_A hlv e2 rfl rfl
        have e3 := xs1_A hlv e3 rfl rfl
        have e4 := xs1_A hlv e4 rfl rfl
        have e5 := xs1_B hlv e5 rfl rfl
        have e6 := xs1_N hlv
        clear hlv
        refine y_next (pc' := 928) (xst_of (i := (.aload_n 2)) (len := 1) rfl rfl (x_aloadV (xisV_r _) e2)) ?_
        refine z_cI (k := 124) (i := (.invokevirtual 88)) (as := [.ref (g.2 (10, 0, 0) 0)]) (rest := []) rfl rfl (x_callv rfl rfl (rc_ob R (rc_10 R) rfl) rfl rfl) (H _ _ R rfl) (fun x96 h Y95 R H => ?_)
        refine y_next (pc' := 933) (xst_of (i := (.iload 5)) (len := 2) rfl rfl (x_ilo e5)) ?_
        by_cases hc : x96 = x92
        · replace H := H.1 hc
          refine y_next (xst_of (i := (.if_icmp .eq 5)) (len := 3) rfl rfl (xt_icmp_eq (t := 938) rfl hc)) ?_
          refine y_next (pc' := 940) (xst_of (i := (.iload 5)) (len := 2) rfl rfl (x_ilo e5)) ?_
          by_cases hc : x92 = 0
          · replace H := H.1 hc
            refine y_next (pc' := 943) (xst_of (i := (.ifCond .ne 15)) (len := 3) rfl rfl (xf_if_ne (t := 955) rfl (fun z => z hc))) ?_
            refine y_next (pc' := 944) (xst_of (i := (.aload_n 3)) (len := 1) rfl rfl (x_aloadV (xisV_r _) e3)) ?_
            refine y_next (pc' := 945) (xst_of (i := (.iconst 0)) (len := 1) rfl rfl (x_ico (v := 0) (by decide))) ?_
            refine z_aL (t := (12, 0, 0)) (k := 0) (n := 1) (i := 0) rfl rfl R (rc_12 R) H.1 ?_
            replace H := H.2
            refine y_next (pc' := 948) (xst_of (i := (.iload 6)) (len := 2) rfl rfl (x_ilo e6)) ?_
            refine y_next (pc' := 949) (xst_of (i := .i2l) (len := 1) rfl rfl rfl) ?_
            refine y_next (pc' := 950) (xst_of (i := .lcmp) (len := 1) rfl rfl rfl) ?_
            by_cases hc : (fL Y95 (12, 0, 0) 0 (Int32.toNatClampNeg 0)) = (Int32.toInt64 x94)
            · replace H := H.1 hc
              refine y_next (xst_of (i := (.ifCond .eq 5)) (len := 3) rfl rfl (xt_if_eq (t := 955) rfl ((lg_cmp_eq (fL Y95 (12, 0, 0) 0 (Int32.toNatClampNeg 0)) (Int32.toInt64 x94)).mpr hc))) ?_
              exact H _ _ R e0 e1 e2 e3 e4 e5 e6
            · replace H := H.2 hc
              refine y_next (pc' := 953) (xst_of (i := (.ifCond .eq 5)) (len := 3) rfl rfl (xf_if_eq (t := 955) rfl (fun z => hc ((lg_cmp_eq (fL Y95 (12, 0, 0) 0 (Int32.toNatClampNeg 0)) (Int32.toInt64 x94)).mp z)))) ?_
              refine y_next (pc' := 954) (xst_of (i := (.iconst 0)) (len := 1) rfl rfl (x_ico (v := 0) (by decide))) ?_
              exact y_ret (xst_of (i := .ireturn) (len := 1) rfl rfl (x_zret rfl H.1)) ⟨_, _, _, rfl, R, xle_r, H.2⟩
          · replace H := H.2 hc
            refine y_next (xst_of (i := (.ifCond .ne 15)) (len := 3) rfl rfl (xt_if_ne (t := 955) rfl hc)) ?_
            exact H _ _ R e0 e1 e2 e3 e4 e5 e6
        · replace H := H.2 hc
          refine y_next (pc' := 936) (xst_of (i := (.if_icmp .eq 5)) (len := 3) rfl rfl (xf_icmp_eq (t := 938) rfl hc)) ?_
          refine y_next (pc' := 937) (xst_of (i := (.iconst 0)) (len := 1) rfl rfl (x_ico (v := 0) (by decide))) ?_
          exact y_ret (xst_of (i := .ireturn) (len := 1) rfl rfl (x_zret rfl H.1)) ⟨_, _, _, rfl, R, xle_r, H.2⟩
      · replace H := H.2.2.2.2.2.2.2.2.2.2.2.2.2.2.2.2.2.2.1
        have hz : ((V.2.2.2 (Int32.toNatClampNeg l4)) &&& 31) = 18 := Int32.toInt_inj.mp (hy.trans rfl)
        replace H := H hz
        refine y_next (xst_of (i := (.tableswitch 1030 0 19 #[96, 121, 146, 183, 256, 281, 354, 391, 404, 472, 509, 522, 578, 634, 659, 727, 795, 850, 918, 974])) (len := 96) rfl rfl (x_sw_in (t := 958) hx (by rw [hy]; rfl) rfl)) ?_
        refine y_next (pc' := 959) (xst_of (i := (.aload_n 1)) (len := 1) rfl rfl (x_aloadV (xisV_r _) e1)) ?_
        refine y_next (pc' := 960) (xst_of (i := (.aload_n 0)) (len := 1) rfl rfl (x_aloadV (xisV_r _) e0)) ?_
        refine y_next (pc' := 962) (xst_of (i := (.iload 4)) (len := 2) rfl rfl (x_ilo e4)) ?_
        refine y_next (pc' := 963) (xst_of (i := (.iconst 1)) (len := 1) rfl rfl (x_ico (v := 1) (by decide))) ?_
        refine y_next (pc' := 964) (xst_of (i := .iadd) (len := 1) rfl rfl rfl) ?_
        refine z_S (i := (l4 + 1)) rfl R H.1 ?_
        replace H := H.2
        refine y_next (pc' := 966) (xst_of (i := (.aload_n 3)) (len := 1) rfl rfl (x_aloadV (xisV_r _) e3)) ?_
        refine z_cI (k := 196) (i := (.invokestatic 123)) (as := [.ref (g.2 (9, 0, 0) 0), .int (V.2.2.2 (Int32.toNatClampNeg (l4 + 1))), .ref (g.2 (12, 0, 0) 1)]) (rest := []) rfl rfl rfl (H _ _ R rfl rfl rfl) (fun x98 h Y97 R H => ?_)
        refine z_is (i := (.istore 5)) (len := 2) (pc' := 971) (q := 5) rfl rfl rfl (by decide) (fun lv15 hlv => ?_)
        have e0 := xs1_A hlv e0 rfl rfl
        have e1 := xs1_A hlv e1 rfl rfl
        have e2 := xs1_A hlv e2 rfl rfl
        have e3 := xs1_A hlv e3 rfl rfl
        have e4 := xs1_B hlv e4 rfl rfl
        have e5 := xs1_N hlv
        clear hlv
        refine y_next (pc' := 972) (xst_of (i := (.aload_n 2)) (len := 1) rfl rfl (x_aloadV (xisV_r _) e2)) ?_
        refine y_next (pc' := 973) (xst_of (i := (.aload_n 0)) (len := 1) rfl rfl (x_aloadV (xisV_r _) e0)) ?_
        refine y_next (pc' := 975) (xst_of (i := (.iload 4)) (len := 2) rfl rfl (x_ilo e4)) ?_
        refine y_next (pc' := 976) (xst_of (i := (.iconst 1)) (len := 1) rfl rfl (x_ico (v := 1) (by decide))) ?_
        refine y_next (pc' := 977) (xst_of (i := .iadd) (len := 1) rfl rfl rfl) ?_
        refine z_S (i := (l4 + 1)) rfl R H.1 ?_
        replace H := H.2
        refine z_cI (k := 182) (i := (.invokevirtual 125)) (as := [.ref (g.2 (10, 0, 0) 0), .int (V.2.2.2 (Int32.toNatClampNeg (l4 + 1)))]) (rest := []) rfl rfl (x_callv rfl rfl (rc_ob R (rc_10 R) rfl) rfl rfl) (H _ _ R rfl rfl) (fun x100 h Y99 R H => ?_)
        refine z_is (i := (.istore 6)) (len := 2) (pc' := 983) (q := 6) rfl rfl rfl (by decide) (fun lv16 hlv => ?_)
        have e0 := xs1_A hlv e0 rfl rfl
        have e1 := xs1_A hlv e1 rfl rfl
        have e2 := xs1_A hlv e2 rfl rfl
        have e3 := xs1_A hlv e3 rfl rfl
        have e4 := xs1_A hlv e4 rfl rfl
        have e5 := xs1_B hlv e5 rfl rfl
        have e6 := xs1_N hlv
        clear hlv
        refine y_next (pc' := 984) (xst_of (i := (.aload_n 2)) (len := 1) rfl rfl (x_aloadV (xisV_r _) e2)) ?_
        refine z_cI (k := 124) (i := (.invokevirtual 88)) (as := [.ref (g.2 (10, 0, 0) 0)]) (rest := []) rfl rfl (x_callv rfl rfl (rc_ob R (rc_10 R) rfl) rfl rfl) (H _ _ R rfl) (fun x102 h Y101 R H => ?_)
        refine y_next (pc' := 989) (xst_of (i := (.iload 5)) (len := 2) rfl rfl (x_ilo e5)) ?_
        by_cases hc : x102 = x98
        · replace H := H.1 hc
          refine y_next (xst_of (i := (.if_icmp .eq 5)) (len := 3) rfl rfl (xt_icmp_eq (t := 994) rfl hc)) ?_
          refine y_next (pc' := 996) (xst_of (i := (.iload 5)) (len := 2) rfl rfl (x_ilo e5)) ?_
          by_cases hc : x98 = 0
          · replace H := H.1 hc
            refine y_next (pc' := 999) (xst_of (i := (.ifCond .ne 15)) (len := 3) rfl rfl (xf_if_ne (t := 1011) rfl (fun z => z hc))) ?_
            refine y_next (pc' := 1000) (xst_of (i := (.aload_n 3)) (len := 1) rfl rfl (x_aloadV (xisV_r _) e3)) ?_
            refine y_next (pc' := 1001) (xst_of (i := (.iconst 0)) (len := 1) rfl rfl (x_ico (v := 0) (by decide))) ?_
            refine z_aL (t := (12, 0, 0)) (k := 0) (n := 1) (i := 0) rfl rfl R (rc_12 R) H.1 ?_
            replace H := H.2
            refine y_next (pc' := 1004) (xst_of (i := (.iload 6)) (len := 2) rfl rfl (x_ilo e6)) ?_
            refine y_next (pc' := 1005) (xst_of (i := .i2l) (len := 1) rfl rfl rfl) ?_
            refine y_next (pc' := 1006) (xst_of (i := .lcmp) (len := 1) rfl rfl rfl) ?_
            by_cases hc : (fL Y101 (12, 0, 0) 0 (Int32.toNatClampNeg 0)) = (Int32.toInt64 x100)
            · replace H := H.1 hc
              refine y_next (xst_of (i := (.ifCond .eq 5)) (len := 3) rfl rfl (xt_if_eq (t := 1011) rfl ((lg_cmp_eq (fL Y101 (12, 0, 0) 0 (Int32.toNatClampNeg 0)) (Int32.toInt64 x100)).mpr hc))) ?_
              exact H _ _ R e0 e1 e2 e3 e4 e5 e6
            · replace H := H.2 hc
              refine y_next (pc' := 1009) (xst_of (i := (.ifCond .eq 5)) (len := 3) rfl rfl (xf_if_eq (t := 1011) rfl (fun z => hc ((lg_cmp_eq (fL Y101 (12, 0, 0) 0 (Int32.toNatClampNeg 0)) (Int32.toInt64 x100)).mp z)))) ?_
              refine y_next (pc' := 1010) (xst_of (i := (.iconst 0)) (len := 1) rfl rfl (x_ico (v := 0) (by decide))) ?_
              exact y_ret (xst_of (i := .ireturn) (len := 1) rfl rfl (x_zret rfl H.1)) ⟨_, _, _, rfl, R, xle_r, H.2⟩
          · replace H := H.2 hc
            refine y_next (xst_of (i := (.ifCond .ne 15)) (len := 3) rfl rfl (xt_if_ne (t := 1011) rfl hc)) ?_
            exact H _ _ R e0 e1 e2 e3 e4 e5 e6
        · replace H := H.2 hc
          refine y_next (pc' := 992) (xst_of (i := (.if_icmp .eq 5)) (len := 3) rfl rfl (xf_icmp_eq (t := 994) rfl hc)) ?_
          refine y_next (pc' := 993) (xst_of (i := (.iconst 0)) (len := 1) rfl rfl (x_ico (v := 0) (by decide))) ?_
          exact y_ret (xst_of (i := .ireturn) (len := 1) rfl rfl (x_zret rfl H.1)) ⟨_, _, _, rfl, R, xle_r, H.2⟩
      · replace H := H.2.2.2.2.2.2.2.2.2.2.2.2.2.2.2.2.2.2.2
        have hz : ((V.2.2.2 (Int32.toNatClampNeg l4)) &&& 31) = 19 := Int32.toInt_inj.mp (hy.trans rfl)
        replace H := H hz
        refine y_next (xst_of (i := (.tableswitch 1030 0 19 #[96, 121, 146, 183, 256, 281, 354, 391, 404, 472, 509, 522, 578, 634, 659, 727, 795, 850, 918, 974])) (len := 96) rfl rfl (x_sw_in (t := 1014) hx (by rw [hy]; rfl) rfl)) ?_
        refine y_next (pc' := 1015) (xst_of (i := (.aload_n 1)) (len := 1) rfl rfl (x_aloadV (xisV_r _) e1)) ?_
        refine y_next (pc' := 1016) (xst_of (i := (.aload_n 0)) (len := 1) rfl rfl (x_aloadV (xisV_r _) e0)) ?_
        refine y_next (pc' := 1018) (xst_of (i := (.iload 4)) (len := 2) rfl rfl (x_ilo e4)) ?_
        refine y_next (pc' := 1019) (xst_of (i := (.iconst 1)) (len := 1) rfl rfl (x_ico (v := 1) (by decide))) ?_
        refine y_next (pc' := 1020) (xst_of (i := .iadd) (len := 1) rfl rfl rfl) ?_
        refine z_S (i := (l4 + 1)) rfl R H.1 ?_
        replace H := H.2
        refine y_next (pc' := 1022) (xst_of (i := (.aload_n 3)) (len := 1) rfl rfl (x_aloadV (xisV_r _) e3)) ?_
        refine z_cI (k := 197) (i := (.invokestatic 126)) (as := [.ref (g.2 (9, 0, 0) 0), .int (V.2.2.2 (Int32.toNatClampNeg (l4 + 1))), .ref (g.2 (12, 0, 0) 1)]) (rest := []) rfl rfl rfl (H _ _ R rfl rfl rfl) (fun x104 h Y103 R H => ?_)
        refine z_is (i := (.istore 5)) (len := 2) (pc' := 1027) (q := 5) rfl rfl rfl (by decide) (fun lv17 hlv => ?_)
        have e0 := xs1_A hlv e0 rfl rfl
        have e1 := xs1_A hlv e1 rfl rfl
        have e2 := xs1_A hlv e2 rfl rfl
        have e3 := xs1_A hlv e3 rfl rfl
        have e4 := xs1_B hlv e4 rfl rfl
        have e5 := xs1_N hlv
        clear hlv
        refine y_next (pc' := 1028) (xst_of (i := (.aload_n 2)) (len := 1) rfl rfl (x_aloadV (xisV_r _) e2)) ?_
        refine y_next (pc' := 1029) (xst_of (i := (.aload_n 0)) (len := 1) rfl rfl (x_aloadV (xisV_r _) e0)) ?_
        refine y_next (pc' := 1031) (xst_of (i := (.iload 4)) (len := 2) rfl rfl (x_ilo e4)) ?_
        refine y_next (pc' := 1032) (xst_of (i := (.iconst 1)) (len := 1) rfl rfl (x_ico (v := 1) (by decide))) ?_
        refine y_next (pc' := 1033) (xst_of (i := .iadd) (len := 1) rfl rfl rfl) ?_
        refine z_S (i := (l4 + 1)) rfl R H.1 ?_
        replace H := H.2
        refine z_cI (k := 183) (i := (.invokevirtual 128)) (as := [.ref (g.2 (10, 0, 0) 0), .int (V.2.2.2 (Int32.toNatClampNeg (l4 + 1)))]) (rest := []) rfl rfl (x_callv rfl rfl (rc_ob R (rc_10 R) rfl) rfl rfl) (H _ _ R rfl rfl) (fun x106 h Y105 R H => ?_)
        refine z_is (i := (.istore 6)) (len := 2) (pc' := 1039) (q := 6) rfl rfl rfl (by decide) (fun lv18 hlv => ?_)
        have e0 := xs1_A hlv e0 rfl rfl
        have e1 := xs1_A hlv e1 rfl rfl
        have e2 := xs1_A hlv e2 rfl rfl
        have e3 := xs1_A hlv e3 rfl rfl
        have e4 := xs1_A hlv e4 rfl rfl
        have e5 := xs1_B hlv e5 rfl rfl
        have e6 := xs1_N hlv
        clear hlv
        refine y_next (pc' := 1040) (xst_of (i := (.aload_n 2)) (len := 1) rfl rfl (x_aloadV (xisV_r _) e2)) ?_
        refine z_cI (k := 124) (i := (.invokevirtual 88)) (as := [.ref (g.2 (10, 0, 0) 0)]) (rest := []) rfl rfl (x_callv rfl rfl (rc_ob R (rc_10 R) rfl) rfl rfl) (H _ _ R rfl) (fun x108 h Y107 R H => ?_)
        refine y_next (pc' := 1045) (xst_of (i := (.iload 5)) (len := 2) rfl rfl (x_ilo e5)) ?_
        by_cases hc : x108 = x104
        · replace H := H.1 hc
          refine y_next (xst_of (i := (.if_icmp .eq 5)) (len := 3) rfl rfl (xt_icmp_eq (t := 1050) rfl hc)) ?_
          refine y_next (pc' := 1052) (xst_of (i := (.iload 5)) (len := 2) rfl rfl (x_ilo e5)) ?_
          by_cases hc : x104 = 0
          · replace H := H.1 hc
            refine y_next (pc' := 1055) (xst_of (i := (.ifCond .ne 15)) (len := 3) rfl rfl (xf_if_ne (t := 1067) rfl (fun z => z hc))) ?_
            refine y_next (pc' := 1056) (xst_of (i := (.aload_n 3)) (len := 1) rfl rfl (x_aloadV (xisV_r _) e3)) ?_
            refine y_next (pc' := 1057) (xst_of (i := (.iconst 0)) (len := 1) rfl rfl (x_ico (v := 0) (by decide))) ?_
            refine z_aL (t := (12, 0, 0)) (k := 0) (n := 1) (i := 0) rfl rfl R (rc_12 R) H.1 ?_
            replace H := H.2
            refine y_next (pc' := 1060) (xst_of (i := (.iload 6)) (len := 2) rfl rfl (x_ilo e6)) ?_
            refine y_next (pc' := 1061) (xst_of (i := .i2l) (len := 1) rfl rfl rfl) ?_
            refine y_next (pc' := 1062) (xst_of (i := .lcmp) (len := 1) rfl rfl rfl) ?_
            by_cases hc : (fL Y107 (12, 0, 0) 0 (Int32.toNatClampNeg 0)) = (Int32.toInt64 x106)
            · replace H := H.1 hc
              refine y_next (xst_of (i := (.ifCond .eq 5)) (len := 3) rfl rfl (xt_if_eq (t := 1067) rfl ((lg_cmp_eq (fL Y107 (12, 0, 0) 0 (Int32.toNatClampNeg 0)) (Int32.toInt64 x106)).mpr hc))) ?_
              exact H _ _ R e0 e1 e2 e3 e4 e5 e6
            · replace H := H.2 hc
              refine y_next (pc' := 1065) (xst_of (i := (.ifCond .eq 5)) (len := 3) rfl rfl (xf_if_eq (t := 1067) rfl (fun z => hc ((lg_cmp_eq (fL Y107 (12, 0, 0) 0 (Int32.toNatClampNeg 0)) (Int32.toInt64 x106)).mp z)))) ?_
              refine y_next (pc' := 1066) (xst_of (i := (.iconst 0)) (len := 1) rfl rfl (x_ico (v := 0) (by decide))) ?_
              exact y_ret (xst_of (i := .ireturn) (len := 1) rfl rfl (x_zret rfl H.1)) ⟨_, _, _, rfl, R, xle_r, H.2⟩
          · replace H := H.2 hc
            refine y_next (xst_of (i := (.ifCond .ne 15)) (len := 3) rfl rfl (xt_if_ne (t := 1067) rfl hc)) ?_
            exact H _ _ R e0 e1 e2 e3 e4 e5 e6
        · replace H := H.2 hc
          refine y_next (pc' := 1048) (xst_of (i := (.if_icmp .eq 5)) (len := 3) rfl rfl (xf_icmp_eq (t := 1050) rfl hc)) ?_
          refine y_next (pc' := 1049) (xst_of (i := (.iconst 0)) (len := 1) rfl rfl (x_ico (v := 0) (by decide))) ?_
          exact y_ret (xst_of (i := .ireturn) (len := 1) rfl rfl (x_zret rfl H.1)) ⟨_, _, _, rfl, R, xle_r, H.2⟩
set_option maxRecDepth 20000 in
theorem l_198_509 {V : xV} {g : xG} {Y : xW} {l4 : Int32} {l5 : Int32} {l6 : Int32} {Q : Int32 → xG → xW → Prop} (H : L_198_1070 V g Y l4 Q) : L_198_509 V g Y l4 l5 l6 Q := by
  intro h lv R e0 e1 e2 e3 e4 e5 e6
  refine y_next (pc' := 1070) (xst_of (i := (.goto 561)) (len := 3) rfl rfl rfl) ?_
  exact H _ _ R e0 e1 e2 e3 e4
set_option maxRecDepth 20000 in
theorem l_198_615 {V : xV} {g : xG} {Y : xW} {l4 : Int32} {l5 : Int32} {l6 : Int32} {Q : Int32 → xG → xW → Prop} (H : L_198_1070 V g Y l4 Q) : L_198_615 V g Y l4 l5 l6 Q := by
  intro h lv R e0 e1 e2 e3 e4 e5 e6
  refine y_next (pc' := 1070) (xst_of (i := (.goto 455)) (len := 3) rfl rfl rfl) ?_
  exact H _ _ R e0 e1 e2 e3 e4
set_option maxRecDepth 20000 in
theorem l_198_671 {V : xV} {g : xG} {Y : xW} {l4 : Int32} {l5 : Int32} {l6 : Int32} {Q : Int32 → xG → xW → Prop} (H : L_198_1070 V g Y l4 Q) : L_198_671 V g Y l4 l5 l6 Q := by
  intro h lv R e0 e1 e2 e3 e4 e5 e6
  refine y_next (pc' := 1070) (xst_of (i := (.goto 399)) (len := 3) rfl rfl rfl) ?_
  exact H _ _ R e0 e1 e2 e3 e4
set_option maxRecDepth 20000 in
theorem l_198_764 {V : xV} {g : xG} {Y : xW} {l4 : Int32} {l5 : Int32} {l6 : Int32} {Q : Int32 → xG → xW → Prop} (H : L_198_1070 V g Y l4 Q) : L_198_764 V g Y l4 l5 l6 Q := by
  intro h lv R e0 e1 e2 e3 e4 e5 e6
  refine y_next (pc' := 1070) (xst_of (i := (.goto 306)) (len := 3) rfl rfl rfl) ?_
  exact H _ _ R e0 e1 e2 e3 e4
set_option maxRecDepth 20000 in
theorem l_198_832 {V : xV} {g : xG} {Y : xW} {l4 : Int32} {l5 : Int32} {l6 : Int32} {Q : Int32 → xG → xW → Prop} (H : L_198_1070 V g Y l4 Q) : L_198_832 V g Y l4 l5 l6 Q := by
  intro h lv R e0 e1 e2 e3 e4 e5 e6
  refine y_next (pc' := 1070) (xst_of (i := (.goto 238)) (len := 3) rfl rfl rfl) ?_
  exact H _ _ R e0 e1 e2 e3 e4
set_option maxRecDepth 20000 in
theorem l_198_887 {V : xV} {g : xG} {Y : xW} {l4 : Int32} {l5 : Int32} {l6 : Int64} {Q : Int32 → xG → xW → Prop} (H : L_198_1070 V g Y l4 Q) : L_198_887 V g Y l4 l5 l6 Q := by
  intro h lv R e0 e1 e2 e3 e4 e5 e6
  refine y_next (pc' := 1070) (xst_of (i := (.goto 183)) (len := 3) rfl rfl rfl) ?_
  exact H _ _ R e0 e1 e2 e3 e4
set_option maxRecDepth 20000 in
theorem l_198_955 {V : xV} {g : xG} {Y : xW} {l4 : Int32} {l5 : Int32} {l6 : Int32} {Q : Int32 → xG → xW → Prop} (H : L_198_1070 V g Y l4 Q) : L_198_955 V g Y l4 l5 l6 Q := by
  intro h lv R e0 e1 e2 e3 e4 e5 e6
  refine y_next (pc' := 1070) (xst_of (i := (.goto 115)) (len := 3) rfl rfl rfl) ?_
  exact H _ _ R e0 e1 e2 e3 e4
set_option maxRecDepth 20000 in
theorem l_198_1011 {V : xV} {g : xG} {Y : xW} {l4 : Int32} {l5 : Int32} {l6 : Int32} {Q : Int32 → xG → xW → Prop} (H : L_198_1070 V g Y l4 Q) : L_198_1011 V g Y l4 l5 l6 Q := by
  intro h lv R e0 e1 e2 e3 e4 e5 e6
  refine y_next (pc' := 1070) (xst_of (i := (.goto 59)) (len := 3) rfl rfl rfl) ?_
  exact H _ _ R e0 e1 e2 e3 e4
set_option maxRecDepth 20000 in
theorem l_198_1067 {V : xV} {g : xG} {Y : xW} {l4 : Int32} {l5 : Int32} {l6 : Int32} {Q : Int32 → xG → xW → Prop} (H : L_198_1070 V g Y l4 Q) : L_198_1067 V g Y l4 l5 l6 Q := by
  intro h lv R e0 e1 e2 e3 e4 e5 e6
  refine y_next (pc' := 1070) (xst_of (i := (.goto 3)) (len := 3) rfl rfl rfl) ?_
  exact H _ _ R e0 e1 e2 e3 e4
set_option maxRecDepth 20000 in
theorem l_198_1070 {V : xV} {g : xG} {Y : xW} {l4 : Int32} {Q : Int32 → xG → xW → Prop} (H : L_198_23 V g Y (l4 + 6) Q) : L_198_1070 V g Y l4 Q := by
  intro h lv R e0 e1 e2 e3 e4
  refine z_in (q := 4) (n := 6) (v := 6) rfl e4 (by decide) (by decide) (fun lv1 hlv => ?_)
  have e0 := xs1_A hlv e0 rfl rfl
  have e1 := xs1_A hlv e1 rfl rfl
  have e2 := xs1_A hlv e2 rfl rfl
  have e3 := xs1_B hlv e3 rfl rfl
  have e4 := xs1_N hlv
  clear hlv
  refine y_next (pc' := 23) (xst_of (i := (.goto (-1050))) (len := 3) rfl rfl rfl) ?_
  exact H _ _ R e0 e1 e2 e3 e4

/-! the words: every pool entry, method and class of the tables, held against lw_tbl by its place -/
def xws : List Cond := lw_tbl.filter goodWord
def xnw : Cond → Bool
  | .fieldLinkNest .. => true
  | .methodLinkNest .. => true
  | _ => false
theorem xwd_in {p : Nat} {w : Cond} (h : lw_tbl[p]? = some w) (hg : goodWord w = true) : w ∈ xws := List.mem_filter.mpr ⟨List.mem_of_getElem? h, hg⟩
theorem xnd_in {p : Nat} {w : Cond} (h : lw_tbl[p]? = some w) (hg : xnw w = true) : w ∈ lw_tbl.filter xnw := List.mem_filter.mpr ⟨List.mem_of_getElem? h, hg⟩
def xcl (ci : Nat) : vw_C := vwCl.getD ci (RX0, TX0, 0)
def xown (o : Nat) : String := xRn.getD o ""
def xy (j : Nat) : MethodName := xmy.getD j yX0_init
def xcd (j : Nat) : ByteArray := (xtc.getD j ([], ByteArray.empty)).2
def xmL (j : Nat) : Nat := xml.getD j 0
def xrt (j : Nat) : Option FieldType := xmr.getD j none
def xna (j : Nat) : Nat := xmn.getD j 0
def xfr (j : Nat) : Nat := xmf.getD j 0
def xlo (j : Nat) : Nat := xmk.getD j 0
def xow (j : Nat) : Nat := xmo.getD j 0
def xsta (j : Nat) : Bool := xsf.getD j false
def xpo (o i : Nat) : Option xP := xlk (xpl.getD o []) i
def xdec (j pc : Nat) : Option (Instr × Nat) := xlk (xtc.getD j ([], ByteArray.empty)).1 pc
theorem xlk_all {l : List (List (Nat × Instr × Nat) × ByteArray)} (hl : ∀ p ∈ l, xtok p) {j pc len : Nat} {i : Instr} (h : xlk (l.getD j ([], ByteArray.empty)).1 pc = some (i, len)) : decode (l.getD j ([], ByteArray.empty)).2 pc = .ok (i, len) := by
  by_cases hj : j < l.length
  · have hm : l.getD j ([], ByteArray.empty) ∈ l := by
      rw [List.getD_eq_getElem?_getD, List.getElem?_eq_getElem hj]
      exact List.getElem_mem hj
    have h2 : xtok (l.getD j ([], ByteArray.empty)) := hl _ hm
    exact h2 (pc, i, len) (xlk_mem h)
  · rw [List.getD_eq_getElem?_getD, List.getElem?_eq_none (by omega)] at h
    cases h
theorem xdec_ok {j pc len : Nat} {i : Instr} (h : xdec j pc = some (i, len)) : decode (xcd j) pc = .ok (i, len) := xlk_all xtc_ok h
def xhl : List (List (Nat × Nat × Nat × Nat)) := [[], [], [], [], [], [], [], [], [], [], [], [], [], [], [], [], [], [], [], [], [], [], [], [], [], [], [], [], [], [], [], [], [], [], [], [], [], [], [], [], [], [], [], [], [], [], [], [], [], [], [], [], [], [], [], [], [], [], [], [], [], [], [], [], [], [], [], [], [], [], [], [], [], [], [], [], [], [], [], [], [], [], [], [], [], [], [], [], [], [], [], [], [], [], [], [], [], [], [], [], [], [], [], [], [], [], [], [], [], [], [], [], [], [], [], [], [], [], [], [], [], [], [], [], [], [], [], [], [], [], [], [], [], [], [], [], [], [], [], [], [], [], [], [], [], [], [], [], [], [], [], [], [], [], [], [], [], [], [], [], [], [], [], [], [], [], [], [], [], [], [], [], [], [], [], [], [], [], [], [], [], [], [], [], [], [], [], [], [], [(0, 10, 13, 13)], [(0, 9, 12, 19)], [(0, 9, 12, 19)], [(0, 10, 13, 13)], [(0, 10, 13, 13)], [(0, 8, 11, 13)], [(0, 10, 13, 13)], [(0, 9, 12, 13)], [(0, 9, 12, 13)], []]
def xhh (j : Nat) : List (Nat × Nat × Nat × Nat) := xhl.getD j []
def xcw (j : Nat) : Cond := match xhh j with
  | [] => .code (xy j) (xcd j) (xmL j) (xrt j)
  | h :: t => .codeWith (xy j) (xcd j) (xmL j) (xrt j) (h :: t)
def xsw (j : Nat) : Cond := match xsta j with
  | true => .static (xy j)
  | false => .instanceMethod (xy j)
def xpn (j : Nat) : Nat := match xsta j with
  | true => xna j
  | false => xna j - 1
def xmpj (j : Nat) : Nat × Nat × Nat × Nat := xmp.getD j (9999, 9999, 9999, 9999)
/-- what holds of each method's words -/
def xmq (j : Nat) : Prop := lw_tbl[(xmpj j).1]? = some (xcw j) ∧ lw_tbl[(xmpj j).2.1]? = some (xsw j) ∧ lw_tbl[(xmpj j).2.2.2]? = some (.initialized (xy j).cls) ∧ (xy j).cls = xown (xow j)
def xmd (j : Nat) : Bool := decide ((xy j).cls ≠ "java/lang/invoke/MethodHandle") && decide ((xy j).cls ≠ "java/lang/invoke/VarHandle") && decide ((parseMethodDescriptor (xy j).desc).map (fun d => d.parameters.length) = some (xpn j)) && plainFor (xy j)
set_option maxRecDepth 100000 in
theorem xmq_0 : xmq 0 := ⟨rfl, rfl, rfl, rfl⟩
theorem xmd_0 : xmd 0 = true := by decide +kernel
set_option maxRecDepth 100000 in
theorem xmq_1 : xmq 1 := ⟨rfl, rfl, rfl, rfl⟩
theorem xmd_1 : xmd 1 = true := by decide +kernel
set_option maxRecDepth 100000 in
theorem xmq_2 : xmq 2 := ⟨rfl, rfl, rfl, rfl⟩
theorem xmd_2 : xmd 2 = true := by decide +kernel
set_option maxRecDepth 100000 in
theorem xmq_3 : xmq 3 := ⟨rfl, rfl, rfl, rfl⟩
theorem xmd_3 : xmd 3 = true := by decide +kernel
set_option maxRecDepth 100000 in
theorem xmq_4 : xmq 4 := ⟨rfl, rfl, rfl, rfl⟩
theorem xmd_4 : xmd 4 = true := by decide +kernel
set_option maxRecDepth 100000 in
theorem xmq_5 : xmq 5 := ⟨rfl, rfl, rfl, rfl⟩
theorem xmd_5 : xmd 5 = true := by decide +kernel
set_option maxRecDepth 100000 in
theorem xmq_6 : xmq 6 := ⟨rfl, rfl, rfl, rfl⟩
theorem xmd_6 : xmd 6 = true := by decide +kernel
set_option maxRecDepth 100000 in
theorem xmq_7 : xmq 7 := ⟨rfl, rfl, rfl, rfl⟩
theorem xmd_7 : xmd 7 = true := by decide +kernel
set_option maxRecDepth 100000 in
theorem xmq_8 : xmq 8 := ⟨rfl, rfl, rfl, rfl⟩
theorem xmd_8 : xmd 8 = true := by decide +kernel
set_option maxRecDepth 100000 in
theorem xmq_9 : xmq 9 := ⟨rfl, rfl, rfl, rfl⟩
theorem xmd_9 : xmd 9 = true := by decide +kernel
set_option maxRecDepth 100000 in
theorem xmq_10 : xmq 10 := ⟨rfl, rfl, rfl, rfl⟩
theorem xmd_10 : xmd 10 = true := by decide +kernel
set_option maxRecDepth 100000 in
theorem xmq_11 : xmq 11 := ⟨rfl, rfl, rfl, rfl⟩
theorem xmd_11 : xmd 11 = true := by decide +kernel
set_option maxRecDepth 100000 in
theorem xmq_12 : xmq 12 := ⟨rfl, rfl, rfl, rfl⟩
theorem xmd_12 : xmd 12 = true := by decide +kernel
set_option maxRecDepth 100000 in
theorem xmq_13 : xmq 13 := ⟨rfl, rfl, rfl, rfl⟩
theorem xmd_13 : xmd 13 = true := by decide +kernel
set_option maxRecDepth 100000 in
theorem xmq_14 : xmq 14 := ⟨rfl, rfl, rfl, rfl⟩
theorem xmd_14 : xmd 14 = true := by decide +kernel
set_option maxRecDepth 100000 in
theorem xmq_15 : xmq 15 := ⟨rfl, rfl, rfl, rfl⟩
theorem xmd_15 : xmd 15 = true := by decide +kernel
set_option maxRecDepth 100000 in
theorem xmq_16 : xmq 16 := ⟨rfl, rfl, rfl, rfl⟩
theorem xmd_16 : xmd 16 = true := by decide +kernel
set_option maxRecDepth 100000 in
theorem xmq_17 : xmq 17 := ⟨rfl, rfl, rfl, rfl⟩
theorem xmd_17 : xmd 17 = true := by decide +kernel
set_option maxRecDepth 100000 in
theorem xmq_18 : xmq 18 := ⟨rfl, rfl, rfl, rfl⟩
theorem xmd_18 : xmd 18 = true := by decide +kernel
set_option maxRecDepth 100000 in
theorem xmq_19 : xmq 19 := ⟨rfl, rfl, rfl, rfl⟩
theorem xmd_19 : xmd 19 = true := by decide +kernel
set_option maxRecDepth 100000 in
theorem xmq_20 : xmq 20 := ⟨rfl, rfl, rfl, rfl⟩
theorem xmd_20 : xmd 20 = true := by decide +kernel
set_option maxRecDepth 100000 in
theorem xmq_21 : xmq 21 := ⟨rfl, rfl, rfl, rfl⟩
theorem xmd_21 : xmd 21 = true := by decide +kernel
set_option maxRecDepth 100000 in
theorem xmq_22 : xmq 22 := ⟨rfl, rfl, rfl, rfl⟩
theorem xmd_22 : xmd 22 = true := by decide +kernel
set_option maxRecDepth 100000 in
theorem xmq_23 : xmq 23 := ⟨rfl, rfl, rfl, rfl⟩
theorem xmd_23 : xmd 23 = true := by decide +kernel
set_option maxRecDepth 100000 in
theorem xmq_24 : xmq 24 := ⟨rfl, rfl, rfl, rfl⟩
theorem xmd_24 : xmd 24 = true := by decide +kernel
set_option maxRecDepth 100000 in
theorem xmq_25 : xmq 25 := ⟨rfl, rfl, rfl, rfl⟩
theorem xmd_25 : xmd 25 = true := by decide +kernel
set_option maxRecDepth 100000 in
theorem xmq_26 : xmq 26 := ⟨rfl, rfl, rfl, rfl⟩
theorem xmd_26 : xmd 26 = true := by decide +kernel
set_option maxRecDepth 100000 in
theorem xmq_27 : xmq 27 := ⟨rfl, rfl, rfl, rfl⟩
theorem xmd_27 : xmd 27 = true := by decide +kernel
set_option maxRecDepth 100000 in
theorem xmq_28 : xmq 28 := ⟨rfl, rfl, rfl, rfl⟩
theorem xmd_28 : xmd 28 = true := by decide +kernel
set_option maxRecDepth 100000 in
theorem xmq_29 : xmq 29 := ⟨rfl, rfl, rfl, rfl⟩
theorem xmd_29 : xmd 29 = true := by decide +kernel
set_option maxRecDepth 100000 in
theorem xmq_30 : xmq 30 := ⟨rfl, rfl, rfl, rfl⟩
theorem xmd_30 : xmd 30 = true := by decide +kernel
set_option maxRecDepth 100000 in
theorem xmq_31 : xmq 31 := ⟨rfl, rfl, rfl, rfl⟩
theorem xmd_31 : xmd 31 = true := by decide +kernel
set_option maxRecDepth 100000 in
theorem xmq_32 : xmq 32 := ⟨rfl, rfl, rfl, rfl⟩
theorem xmd_32 : xmd 32 = true := by decide +kernel
set_option maxRecDepth 100000 in
theorem xmq_33 : xmq 33 := ⟨rfl, rfl, rfl, rfl⟩
theorem xmd_33 : xmd 33 = true := by decide +kernel
set_option maxRecDepth 100000 in
theorem xmq_34 : xmq 34 := ⟨rfl, rfl, rfl, rfl⟩
theorem xmd_34 : xmd 34 = true := by decide +kernel
set_option maxRecDepth 100000 in
theorem xmq_35 : xmq 35 := ⟨rfl, rfl, rfl, rfl⟩
theorem xmd_35 : xmd 35 = true := by decide +kernel
set_option maxRecDepth 100000 in
theorem xmq_36 : xmq 36 := ⟨rfl, rfl, rfl, rfl⟩
theorem xmd_36 : xmd 36 = true := by decide +kernel
set_option maxRecDepth 100000 in
theorem xmq_37 : xmq 37 := ⟨rfl, rfl, rfl, rfl⟩
theorem xmd_37 : xmd 37 = true := by decide +kernel
set_option maxRecDepth 100000 in
theorem xmq_38 : xmq 38 := ⟨rfl, rfl, rfl, rfl⟩
theorem xmd_38 : xmd 38 = true := by decide +kernel
set_option maxRecDepth 100000 in
theorem xmq_39 : xmq 39 := ⟨rfl, rfl, rfl, rfl⟩
theorem xmd_39 : xmd 39 = true := by decide +kernel
set_option maxRecDepth 100000 in
theorem xmq_40 : xmq 40 := ⟨rfl, rfl, rfl, rfl⟩
theorem xmd_40 : xmd 40 = true := by decide +kernel
set_option maxRecDepth 100000 in
theorem xmq_41 : xmq 41 := ⟨rfl, rfl, rfl, rfl⟩
theorem xmd_41 : xmd 41 = true := by decide +kernel
set_option maxRecDepth 100000 in
theorem xmq_42 : xmq 42 := ⟨rfl, rfl, rfl, rfl⟩
theorem xmd_42 : xmd 42 = true := by decide +kernel
set_option maxRecDepth 100000 in
theorem xmq_43 : xmq 43 := ⟨rfl, rfl, rfl, rfl⟩
theorem xmd_43 : xmd 43 = true := by decide +kernel
set_option maxRecDepth 100000 in
theorem xmq_44 : xmq 44 := ⟨rfl, rfl, rfl, rfl⟩
theorem xmd_44 : xmd 44 = true := by decide +kernel
set_option maxRecDepth 100000 in
theorem xmq_45 : xmq 45 := ⟨rfl, rfl, rfl, rfl⟩
theorem xmd_45 : xmd 45 = true := by decide +kernel
set_option maxRecDepth 100000 in
theorem xmq_46 : xmq 46 := ⟨rfl, rfl, rfl, rfl⟩
theorem xmd_46 : xmd 46 = true := by decide +kernel
set_option maxRecDepth 100000 in
theorem xmq_47 : xmq 47 := ⟨rfl, rfl, rfl, rfl⟩
theorem xmd_47 : xmd 47 = true := by decide +kernel
set_option maxRecDepth 100000 in
theorem xmq_48 : xmq 48 := ⟨rfl, rfl, rfl, rfl⟩
theorem xmd_48 : xmd 48 = true := by decide +kernel
set_option maxRecDepth 100000 in
theorem xmq_49 : xmq 49 := ⟨rfl, rfl, rfl, rfl⟩
theorem xmd_49 : xmd 49 = true := by decide +kernel
set_option maxRecDepth 100000 in
theorem xmq_50 : xmq 50 := ⟨rfl, rfl, rfl, rfl⟩
theorem xmd_50 : xmd 50 = true := by decide +kernel
set_option maxRecDepth 100000 in
theorem xmq_51 : xmq 51 := ⟨rfl, rfl, rfl, rfl⟩
theorem xmd_51 : xmd 51 = true := by decide +kernel
set_option maxRecDepth 100000 in
theorem xmq_52 : xmq 52 := ⟨rfl, rfl, rfl, rfl⟩
theorem xmd_52 : xmd 52 = true := by decide +kernel
set_option maxRecDepth 100000 in
theorem xmq_53 : xmq 53 := ⟨rfl, rfl, rfl, rfl⟩
theorem xmd_53 : xmd 53 = true := by decide +kernel
set_option maxRecDepth 100000 in
theorem xmq_54 : xmq 54 := ⟨rfl, rfl, rfl, rfl⟩
theorem xmd_54 : xmd 54 = true := by decide +kernel
set_option maxRecDepth 100000 in
theorem xmq_55 : xmq 55 := ⟨rfl, rfl, rfl, rfl⟩
theorem xmd_55 : xmd 55 = true := by decide +kernel
set_option maxRecDepth 100000 in
theorem xmq_56 : xmq 56 := ⟨rfl, rfl, rfl, rfl⟩
theorem xmd_56 : xmd 56 = true := by decide +kernel
set_option maxRecDepth 100000 in
theorem xmq_57 : xmq 57 := ⟨rfl, rfl, rfl, rfl⟩
theorem xmd_57 : xmd 57 = true := by decide +kernel
set_option maxRecDepth 100000 in
theorem xmq_58 : xmq 58 := ⟨rfl, rfl, rfl, rfl⟩
theorem xmd_58 : xmd 58 = true := by decide +kernel
set_option maxRecDepth 100000 in
theorem xmq_59 : xmq 59 := ⟨rfl, rfl, rfl, rfl⟩
theorem xmd_59 : xmd 59 = true := by decide +kernel
set_option maxRecDepth 100000 in
theorem xmq_60 : xmq 60 := ⟨rfl, rfl, rfl, rfl⟩
theorem xmd_60 : xmd 60 = true := by decide +kernel
set_option maxRecDepth 100000 in
theorem xmq_61 : xmq 61 := ⟨rfl, rfl, rfl, rfl⟩
theorem xmd_61 : xmd 61 = true := by decide +kernel
set_option maxRecDepth 100000 in
theorem xmq_62 : xmq 62 := ⟨rfl, rfl, rfl, rfl⟩
theorem xmd_62 : xmd 62 = true := by decide +kernel
set_option maxRecDepth 100000 in
theorem xmq_63 : xmq 63 := ⟨rfl, rfl, rfl, rfl⟩
theorem xmd_63 : xmd 63 = true := by decide +kernel
set_option maxRecDepth 100000 in
theorem xmq_64 : xmq 64 := ⟨rfl, rfl, rfl, rfl⟩
theorem xmd_64 : xmd 64 = true := by decide +kernel
set_option maxRecDepth 100000 in
theorem xmq_65 : xmq 65 := ⟨rfl, rfl, rfl, rfl⟩
theorem xmd_65 : xmd 65 = true := by decide +kernel
set_option maxRecDepth 100000 in
theorem xmq_66 : xmq 66 := ⟨rfl, rfl, rfl, rfl⟩
theorem xmd_66 : xmd 66 = true := by decide +kernel
set_option maxRecDepth 100000 in
theorem xmq_67 : xmq 67 := ⟨rfl, rfl, rfl, rfl⟩
theorem xmd_67 : xmd 67 = true := by decide +kernel
set_option maxRecDepth 100000 in
theorem xmq_68 : xmq 68 := ⟨rfl, rfl, rfl, rfl⟩
theorem xmd_68 : xmd 68 = true := by decide +kernel
set_option maxRecDepth 100000 in
theorem xmq_69 : xmq 69 := ⟨rfl, rfl, rfl, rfl⟩
theorem xmd_69 : xmd 69 = true := by decide +kernel
set_option maxRecDepth 100000 in
theorem xmq_70 : xmq 70 := ⟨rfl, rfl, rfl, rfl⟩
theorem xmd_70 : xmd 70 = true := by decide +kernel
set_option maxRecDepth 100000 in
theorem xmq_71 : xmq 71 := ⟨rfl, rfl, rfl, rfl⟩
theorem xmd_71 : xmd 71 = true := by decide +kernel
set_option maxRecDepth 100000 in
theorem xmq_72 : xmq 72 := ⟨rfl, rfl, rfl, rfl⟩
theorem xmd_72 : xmd 72 = true := by decide +kernel
set_option maxRecDepth 100000 in
theorem xmq_73 : xmq 73 := ⟨rfl, rfl, rfl, rfl⟩
theorem xmd_73 : xmd 73 = true := by decide +kernel
set_option maxRecDepth 100000 in
theorem xmq_74 : xmq 74 := ⟨rfl, rfl, rfl, rfl⟩
theorem xmd_74 : xmd 74 = true := by decide +kernel
set_option maxRecDepth 100000 in
theorem xmq_75 : xmq 75 := ⟨rfl, rfl, rfl, rfl⟩
theorem xmd_75 : xmd 75 = true := by decide +kernel
set_option maxRecDepth 100000 in
theorem xmq_76 : xmq 76 := ⟨rfl, rfl, rfl, rfl⟩
theorem xmd_76 : xmd 76 = true := by decide +kernel
set_option maxRecDepth 100000 in
theorem xmq_77 : xmq 77 := ⟨rfl, rfl, rfl, rfl⟩
theorem xmd_77 : xmd 77 = true := by decide +kernel
set_option maxRecDepth 100000 in
theorem xmq_78 : xmq 78 := ⟨rfl, rfl, rfl, rfl⟩
theorem xmd_78 : xmd 78 = true := by decide +kernel
set_option maxRecDepth 100000 in
theorem xmq_79 : xmq 79 := ⟨rfl, rfl, rfl, rfl⟩
theorem xmd_79 : xmd 79 = true := by decide +kernel
set_option maxRecDepth 100000 in
theorem xmq_80 : xmq 80 := ⟨rfl, rfl, rfl, rfl⟩
theorem xmd_80 : xmd 80 = true := by decide +kernel
set_option maxRecDepth 100000 in
theorem xmq_81 : xmq 81 := ⟨rfl, rfl, rfl, rfl⟩
theorem xmd_81 : xmd 81 = true := by decide +kernel
set_option maxRecDepth 100000 in
theorem xmq_82 : xmq 82 := ⟨rfl, rfl, rfl, rfl⟩
theorem xmd_82 : xmd 82 = true := by decide +kernel
set_option maxRecDepth 100000 in
theorem xmq_83 : xmq 83 := ⟨rfl, rfl, rfl, rfl⟩
theorem xmd_83 : xmd 83 = true := by decide +kernel
set_option maxRecDepth 100000 in
theorem xmq_84 : xmq 84 := ⟨rfl, rfl, rfl, rfl⟩
theorem xmd_84 : xmd 84 = true := by decide +kernel
set_option maxRecDepth 100000 in
theorem xmq_85 : xmq 85 := ⟨rfl, rfl, rfl, rfl⟩
theorem xmd_85 : xmd 85 = true := by decide +kernel
set_option maxRecDepth 100000 in
theorem xmq_86 : xmq 86 := ⟨rfl, rfl, rfl, rfl⟩
theorem xmd_86 : xmd 86 = true := by decide +kernel
set_option maxRecDepth 100000 in
theorem xmq_87 : xmq 87 := ⟨rfl, rfl, rfl, rfl⟩
theorem xmd_87 : xmd 87 = true := by decide +kernel
set_option maxRecDepth 100000 in
theorem xmq_88 : xmq 88 := ⟨rfl, rfl, rfl, rfl⟩
theorem xmd_88 : xmd 88 = true := by decide +kernel
set_option maxRecDepth 100000 in
theorem xmq_89 : xmq 89 := ⟨rfl, rfl, rfl, rfl⟩
theorem xmd_89 : xmd 89 = true := by decide +kernel
set_option maxRecDepth 100000 in
theorem xmq_90 : xmq 90 := ⟨rfl, rfl, rfl, rfl⟩
theorem xmd_90 : xmd 90 = true := by decide +kernel
set_option maxRecDepth 100000 in
theorem xmq_91 : xmq 91 := ⟨rfl, rfl, rfl, rfl⟩
theorem xmd_91 : xmd 91 = true := by decide +kernel
set_option maxRecDepth 100000 in
theorem xmq_92 : xmq 92 := ⟨rfl, rfl, rfl, rfl⟩
theorem xmd_92 : xmd 92 = true := by decide +kernel
set_option maxRecDepth 100000 in
theorem xmq_93 : xmq 93 := ⟨rfl, rfl, rfl, rfl⟩
theorem xmd_93 : xmd 93 = true := by decide +kernel
set_option maxRecDepth 100000 in
theorem xmq_94 : xmq 94 := ⟨rfl, rfl, rfl, rfl⟩
theorem xmd_94 : xmd 94 = true := by decide +kernel
set_option maxRecDepth 100000 in
theorem xmq_95 : xmq 95 := ⟨rfl, rfl, rfl, rfl⟩
theorem xmd_95 : xmd 95 = true := by decide +kernel
set_option maxRecDepth 100000 in
theorem xmq_96 : xmq 96 := ⟨rfl, rfl, rfl, rfl⟩
theorem xmd_96 : xmd 96 = true := by decide +kernel
set_option maxRecDepth 100000 in
theorem xmq_97 : xmq 97 := ⟨rfl, rfl, rfl, rfl⟩
theorem xmd_97 : xmd 97 = true := by decide +kernel
set_option maxRecDepth 100000 in
theorem xmq_98 : xmq 98 := ⟨rfl, rfl, rfl, rfl⟩
theorem xmd_98 : xmd 98 = true := by decide +kernel
set_option maxRecDepth 100000 in
theorem xmq_99 : xmq 99 := ⟨rfl, rfl, rfl, rfl⟩
theorem xmd_99 : xmd 99 = true := by decide +kernel
set_option maxRecDepth 100000 in
theorem xmq_100 : xmq 100 := ⟨rfl, rfl, rfl, rfl⟩
theorem xmd_100 : xmd 100 = true := by decide +kernel
set_option maxRecDepth 100000 in
theorem xmq_101 : xmq 101 := ⟨rfl, rfl, rfl, rfl⟩
theorem xmd_101 : xmd 101 = true := by decide +kernel
set_option maxRecDepth 100000 in
theorem xmq_102 : xmq 102 := ⟨rfl, rfl, rfl, rfl⟩
theorem xmd_102 : xmd 102 = true := by decide +kernel
set_option maxRecDepth 100000 in
theorem xmq_103 : xmq 103 := ⟨rfl, rfl, rfl, rfl⟩
theorem xmd_103 : xmd 103 = true := by decide +kernel
set_option maxRecDepth 100000 in
theorem xmq_104 : xmq 104 := ⟨rfl, rfl, rfl, rfl⟩
theorem xmd_104 : xmd 104 = true := by decide +kernel
set_option maxRecDepth 100000 in
theorem xmq_105 : xmq 105 := ⟨rfl, rfl, rfl, rfl⟩
theorem xmd_105 : xmd 105 = true := by decide +kernel
set_option maxRecDepth 100000 in
theorem xmq_106 : xmq 106 := ⟨rfl, rfl, rfl, rfl⟩
theorem xmd_106 : xmd 106 = true := by decide +kernel
set_option maxRecDepth 100000 in
theorem xmq_107 : xmq 107 := ⟨rfl, rfl, rfl, rfl⟩
theorem xmd_107 : xmd 107 = true := by decide +kernel
set_option maxRecDepth 100000 in
theorem xmq_108 : xmq 108 := ⟨rfl, rfl, rfl, rfl⟩
theorem xmd_108 : xmd 108 = true := by decide +kernel
set_option maxRecDepth 100000 in
theorem xmq_109 : xmq 109 := ⟨rfl, rfl, rfl, rfl⟩
theorem xmd_109 : xmd 109 = true := by decide +kernel
set_option maxRecDepth 100000 in
theorem xmq_110 : xmq 110 := ⟨rfl, rfl, rfl, rfl⟩
theorem xmd_110 : xmd 110 = true := by decide +kernel
set_option maxRecDepth 100000 in
theorem xmq_111 : xmq 111 := ⟨rfl, rfl, rfl, rfl⟩
theorem xmd_111 : xmd 111 = true := by decide +kernel
set_option maxRecDepth 100000 in
theorem xmq_112 : xmq 112 := ⟨rfl, rfl, rfl, rfl⟩
theorem xmd_112 : xmd 112 = true := by decide +kernel
set_option maxRecDepth 100000 in
theorem xmq_113 : xmq 113 := ⟨rfl, rfl, rfl, rfl⟩
theorem xmd_113 : xmd 113 = true := by decide +kernel
set_option maxRecDepth 100000 in
theorem xmq_114 : xmq 114 := ⟨rfl, rfl, rfl, rfl⟩
theorem xmd_114 : xmd 114 = true := by decide +kernel
set_option maxRecDepth 100000 in
theorem xmq_115 : xmq 115 := ⟨rfl, rfl, rfl, rfl⟩
theorem xmd_115 : xmd 115 = true := by decide +kernel
set_option maxRecDepth 100000 in
theorem xmq_116 : xmq 116 := ⟨rfl, rfl, rfl, rfl⟩
theorem xmd_116 : xmd 116 = true := by decide +kernel
set_option maxRecDepth 100000 in
theorem xmq_117 : xmq 117 := ⟨rfl, rfl, rfl, rfl⟩
theorem xmd_117 : xmd 117 = true := by decide +kernel
set_option maxRecDepth 100000 in
theorem xmq_118 : xmq 118 := ⟨rfl, rfl, rfl, rfl⟩
theorem xmd_118 : xmd 118 = true := by decide +kernel
set_option maxRecDepth 100000 in
theorem xmq_119 : xmq 119 := ⟨rfl, rfl, rfl, rfl⟩
theorem xmd_119 : xmd 119 = true := by decide +kernel
set_option maxRecDepth 100000 in
theorem xmq_120 : xmq 120 := ⟨rfl, rfl, rfl, rfl⟩
theorem xmd_120 : xmd 120 = true := by decide +kernel
set_option maxRecDepth 100000 in
theorem xmq_121 : xmq 121 := ⟨rfl, rfl, rfl, rfl⟩
theorem xmd_121 : xmd 121 = true := by decide +kernel
set_option maxRecDepth 100000 in
theorem xmq_122 : xmq 122 := ⟨rfl, rfl, rfl, rfl⟩
theorem xmd_122 : xmd 122 = true := by decide +kernel
set_option maxRecDepth 100000 in
theorem xmq_123 : xmq 123 := ⟨rfl, rfl, rfl, rfl⟩
theorem xmd_123 : xmd 123 = true := by decide +kernel
set_option maxRecDepth 100000 in
theorem xmq_124 : xmq 124 := ⟨rfl, rfl, rfl, rfl⟩
theorem xmd_124 : xmd 124 = true := by decide +kernel
set_option maxRecDepth 100000 in
theorem xmq_125 : xmq 125 := ⟨rfl, rfl, rfl, rfl⟩
theorem xmd_125 : xmd 125 = true := by decide +kernel
set_option maxRecDepth 100000 in
theorem xmq_126 : xmq 126 := ⟨rfl, rfl, rfl, rfl⟩
theorem xmd_126 : xmd 126 = true := by decide +kernel
set_option maxRecDepth 100000 in
theorem xmq_127 : xmq 127 := ⟨rfl, rfl, rfl, rfl⟩
theorem xmd_127 : xmd 127 = true := by decide +kernel
set_option maxRecDepth 100000 in
theorem xmq_128 : xmq 128 := ⟨rfl, rfl, rfl, rfl⟩
theorem xmd_128 : xmd 128 = true := by decide +kernel
set_option maxRecDepth 100000 in
theorem xmq_129 : xmq 129 := ⟨rfl, rfl, rfl, rfl⟩
theorem xmd_129 : xmd 129 = true := by decide +kernel
set_option maxRecDepth 100000 in
theorem xmq_130 : xmq 130 := ⟨rfl, rfl, rfl, rfl⟩
theorem xmd_130 : xmd 130 = true := by decide +kernel
set_option maxRecDepth 100000 in
theorem xmq_131 : xmq 131 := ⟨rfl, rfl, rfl, rfl⟩
theorem xmd_131 : xmd 131 = true := by decide +kernel
set_option maxRecDepth 100000 in
theorem xmq_132 : xmq 132 := ⟨rfl, rfl, rfl, rfl⟩
theorem xmd_132 : xmd 132 = true := by decide +kernel
set_option maxRecDepth 100000 in
theorem xmq_133 : xmq 133 := ⟨rfl, rfl, rfl, rfl⟩
theorem xmd_133 : xmd 133 = true := by decide +kernel
set_option maxRecDepth 100000 in
theorem xmq_134 : xmq 134 := ⟨rfl, rfl, rfl, rfl⟩
theorem xmd_134 : xmd 134 = true := by decide +kernel
set_option maxRecDepth 100000 in
theorem xmq_135 : xmq 135 := ⟨rfl, rfl, rfl, rfl⟩
theorem xmd_135 : xmd 135 = true := by decide +kernel
set_option maxRecDepth 100000 in
theorem xmq_136 : xmq 136 := ⟨rfl, rfl, rfl, rfl⟩
theorem xmd_136 : xmd 136 = true := by decide +kernel
set_option maxRecDepth 100000 in
theorem xmq_137 : xmq 137 := ⟨rfl, rfl, rfl, rfl⟩
theorem xmd_137 : xmd 137 = true := by decide +kernel
set_option maxRecDepth 100000 in
theorem xmq_138 : xmq 138 := ⟨rfl, rfl, rfl, rfl⟩
theorem xmd_138 : xmd 138 = true := by decide +kernel
set_option maxRecDepth 100000 in
theorem xmq_139 : xmq 139 := ⟨rfl, rfl, rfl, rfl⟩
theorem xmd_139 : xmd 139 = true := by decide +kernel
set_option maxRecDepth 100000 in
theorem xmq_140 : xmq 140 := ⟨rfl, rfl, rfl, rfl⟩
theorem xmd_140 : xmd 140 = true := by decide +kernel
set_option maxRecDepth 100000 in
theorem xmq_141 : xmq 141 := ⟨rfl, rfl, rfl, rfl⟩
theorem xmd_141 : xmd 141 = true := by decide +kernel
set_option maxRecDepth 100000 in
theorem xmq_142 : xmq 142 := ⟨rfl, rfl, rfl, rfl⟩
theorem xmd_142 : xmd 142 = true := by decide +kernel
set_option maxRecDepth 100000 in
theorem xmq_143 : xmq 143 := ⟨rfl, rfl, rfl, rfl⟩
theorem xmd_143 : xmd 143 = true := by decide +kernel
set_option maxRecDepth 100000 in
theorem xmq_144 : xmq 144 := ⟨rfl, rfl, rfl, rfl⟩
theorem xmd_144 : xmd 144 = true := by decide +kernel
set_option maxRecDepth 100000 in
theorem xmq_145 : xmq 145 := ⟨rfl, rfl, rfl, rfl⟩
theorem xmd_145 : xmd 145 = true := by decide +kernel
set_option maxRecDepth 100000 in
theorem xmq_146 : xmq 146 := ⟨rfl, rfl, rfl, rfl⟩
theorem xmd_146 : xmd 146 = true := by decide +kernel
set_option maxRecDepth 100000 in
theorem xmq_147 : xmq 147 := ⟨rfl, rfl, rfl, rfl⟩
theorem xmd_147 : xmd 147 = true := by decide +kernel
set_option maxRecDepth 100000 in
theorem xmq_148 : xmq 148 := ⟨rfl, rfl, rfl, rfl⟩
theorem xmd_148 : xmd 148 = true := by decide +kernel
set_option maxRecDepth 100000 in
theorem xmq_149 : xmq 149 := ⟨rfl, rfl, rfl, rfl⟩
theorem xmd_149 : xmd 149 = true := by decide +kernel
set_option maxRecDepth 100000 in
theorem xmq_150 : xmq 150 := ⟨rfl, rfl, rfl, rfl⟩
theorem xmd_150 : xmd 150 = true := by decide +kernel
set_option maxRecDepth 100000 in
theorem xmq_151 : xmq 151 := ⟨rfl, rfl, rfl, rfl⟩
theorem xmd_151 : xmd 151 = true := by decide +kernel
set_option maxRecDepth 100000 in
theorem xmq_152 : xmq 152 := ⟨rfl, rfl, rfl, rfl⟩
theorem xmd_152 : xmd 152 = true := by decide +kernel
set_option maxRecDepth 100000 in
theorem xmq_153 : xmq 153 := ⟨rfl, rfl, rfl, rfl⟩
theorem xmd_153 : xmd 153 = true := by decide +kernel
set_option maxRecDepth 100000 in
theorem xmq_154 : xmq 154 := ⟨rfl, rfl, rfl, rfl⟩
theorem xmd_154 : xmd 154 = true := by decide +kernel
set_option maxRecDepth 100000 in
theorem xmq_155 : xmq 155 := ⟨rfl, rfl, rfl, rfl⟩
theorem xmd_155 : xmd 155 = true := by decide +kernel
set_option maxRecDepth 100000 in
theorem xmq_156 : xmq 156 := ⟨rfl, rfl, rfl, rfl⟩
theorem xmd_156 : xmd 156 = true := by decide +kernel
set_option maxRecDepth 100000 in
theorem xmq_157 : xmq 157 := ⟨rfl, rfl, rfl, rfl⟩
theorem xmd_157 : xmd 157 = true := by decide +kernel
set_option maxRecDepth 100000 in
theorem xmq_158 : xmq 158 := ⟨rfl, rfl, rfl, rfl⟩
theorem xmd_158 : xmd 158 = true := by decide +kernel
set_option maxRecDepth 100000 in
theorem xmq_159 : xmq 159 := ⟨rfl, rfl, rfl, rfl⟩
theorem xmd_159 : xmd 159 = true := by decide +kernel
set_option maxRecDepth 100000 in
theorem xmq_160 : xmq 160 := ⟨rfl, rfl, rfl, rfl⟩
theorem xmd_160 : xmd 160 = true := by decide +kernel
set_option maxRecDepth 100000 in
theorem xmq_161 : xmq 161 := ⟨rfl, rfl, rfl, rfl⟩
theorem xmd_161 : xmd 161 = true := by decide +kernel
set_option maxRecDepth 100000 in
theorem xmq_162 : xmq 162 := ⟨rfl, rfl, rfl, rfl⟩
theorem xmd_162 : xmd 162 = true := by decide +kernel
set_option maxRecDepth 100000 in
theorem xmq_163 : xmq 163 := ⟨rfl, rfl, rfl, rfl⟩
theorem xmd_163 : xmd 163 = true := by decide +kernel
set_option maxRecDepth 100000 in
theorem xmq_164 : xmq 164 := ⟨rfl, rfl, rfl, rfl⟩
theorem xmd_164 : xmd 164 = true := by decide +kernel
set_option maxRecDepth 100000 in
theorem xmq_165 : xmq 165 := ⟨rfl, rfl, rfl, rfl⟩
theorem xmd_165 : xmd 165 = true := by decide +kernel
set_option maxRecDepth 100000 in
theorem xmq_166 : xmq 166 := ⟨rfl, rfl, rfl, rfl⟩
theorem xmd_166 : xmd 166 = true := by decide +kernel
set_option maxRecDepth 100000 in
theorem xmq_167 : xmq 167 := ⟨rfl, rfl, rfl, rfl⟩
theorem xmd_167 : xmd 167 = true := by decide +kernel
set_option maxRecDepth 100000 in
theorem xmq_168 : xmq 168 := ⟨rfl, rfl, rfl, rfl⟩
theorem xmd_168 : xmd 168 = true := by decide +kernel
set_option maxRecDepth 100000 in
theorem xmq_169 : xmq 169 := ⟨rfl, rfl, rfl, rfl⟩
theorem xmd_169 : xmd 169 = true := by decide +kernel
set_option maxRecDepth 100000 in
theorem xmq_170 : xmq 170 := ⟨rfl, rfl, rfl, rfl⟩
theorem xmd_170 : xmd 170 = true := by decide +kernel
set_option maxRecDepth 100000 in
theorem xmq_171 : xmq 171 := ⟨rfl, rfl, rfl, rfl⟩
theorem xmd_171 : xmd 171 = true := by decide +kernel
set_option maxRecDepth 100000 in
theorem xmq_172 : xmq 172 := ⟨rfl, rfl, rfl, rfl⟩
theorem xmd_172 : xmd 172 = true := by decide +kernel
set_option maxRecDepth 100000 in
theorem xmq_173 : xmq 173 := ⟨rfl, rfl, rfl, rfl⟩
theorem xmd_173 : xmd 173 = true := by decide +kernel
set_option maxRecDepth 100000 in
theorem xmq_174 : xmq 174 := ⟨rfl, rfl, rfl, rfl⟩
theorem xmd_174 : xmd 174 = true := by decide +kernel
set_option maxRecDepth 100000 in
theorem xmq_175 : xmq 175 := ⟨rfl, rfl, rfl, rfl⟩
theorem xmd_175 : xmd 175 = true := by decide +kernel
set_option maxRecDepth 100000 in
theorem xmq_176 : xmq 176 := ⟨rfl, rfl, rfl, rfl⟩
theorem xmd_176 : xmd 176 = true := by decide +kernel
set_option maxRecDepth 100000 in
theorem xmq_177 : xmq 177 := ⟨rfl, rfl, rfl, rfl⟩
theorem xmd_177 : xmd 177 = true := by decide +kernel
set_option maxRecDepth 100000 in
theorem xmq_178 : xmq 178 := ⟨rfl, rfl, rfl, rfl⟩
theorem xmd_178 : xmd 178 = true := by decide +kernel
set_option maxRecDepth 100000 in
theorem xmq_179 : xmq 179 := ⟨rfl, rfl, rfl, rfl⟩
theorem xmd_179 : xmd 179 = true := by decide +kernel
set_option maxRecDepth 100000 in
theorem xmq_180 : xmq 180 := ⟨rfl, rfl, rfl, rfl⟩
theorem xmd_180 : xmd 180 = true := by decide +kernel
set_option maxRecDepth 100000 in
theorem xmq_181 : xmq 181 := ⟨rfl, rfl, rfl, rfl⟩
theorem xmd_181 : xmd 181 = true := by decide +kernel
set_option maxRecDepth 100000 in
theorem xmq_182 : xmq 182 := ⟨rfl, rfl, rfl, rfl⟩
theorem xmd_182 : xmd 182 = true := by decide +kernel
set_option maxRecDepth 100000 in
theorem xmq_183 : xmq 183 := ⟨rfl, rfl, rfl, rfl⟩
theorem xmd_183 : xmd 183 = true := by decide +kernel
set_option maxRecDepth 100000 in
theorem xmq_184 : xmq 184 := ⟨rfl, rfl, rfl, rfl⟩
theorem xmd_184 : xmd 184 = true := by decide +kernel
set_option maxRecDepth 100000 in
theorem xmq_185 : xmq 185 := ⟨rfl, rfl, rfl, rfl⟩
theorem xmd_185 : xmd 185 = true := by decide +kernel
set_option maxRecDepth 100000 in
theorem xmq_186 : xmq 186 := ⟨rfl, rfl, rfl, rfl⟩
theorem xmd_186 : xmd 186 = true := by decide +kernel
set_option maxRecDepth 100000 in
theorem xmq_187 : xmq 187 := ⟨rfl, rfl, rfl, rfl⟩
theorem xmd_187 : xmd 187 = true := by decide +kernel
set_option maxRecDepth 100000 in
theorem xmq_188 : xmq 188 := ⟨rfl, rfl, rfl, rfl⟩
theorem xmd_188 : xmd 188 = true := by decide +kernel
set_option maxRecDepth 100000 in
theorem xmq_189 : xmq 189 := ⟨rfl, rfl, rfl, rfl⟩
theorem xmd_189 : xmd 189 = true := by decide +kernel
set_option maxRecDepth 100000 in
theorem xmq_190 : xmq 190 := ⟨rfl, rfl, rfl, rfl⟩
theorem xmd_190 : xmd 190 = true := by decide +kernel
set_option maxRecDepth 100000 in
theorem xmq_191 : xmq 191 := ⟨rfl, rfl, rfl, rfl⟩
theorem xmd_191 : xmd 191 = true := by decide +kernel
set_option maxRecDepth 100000 in
theorem xmq_192 : xmq 192 := ⟨rfl, rfl, rfl, rfl⟩
theorem xmd_192 : xmd 192 = true := by decide +kernel
set_option maxRecDepth 100000 in
theorem xmq_193 : xmq 193 := ⟨rfl, rfl, rfl, rfl⟩
theorem xmd_193 : xmd 193 = true := by decide +kernel
set_option maxRecDepth 100000 in
theorem xmq_194 : xmq 194 := ⟨rfl, rfl, rfl, rfl⟩
theorem xmd_194 : xmd 194 = true := by decide +kernel
set_option maxRecDepth 100000 in
theorem xmq_195 : xmq 195 := ⟨rfl, rfl, rfl, rfl⟩
theorem xmd_195 : xmd 195 = true := by decide +kernel
set_option maxRecDepth 100000 in
theorem xmq_196 : xmq 196 := ⟨rfl, rfl, rfl, rfl⟩
theorem xmd_196 : xmd 196 = true := by decide +kernel
set_option maxRecDepth 100000 in
theorem xmq_197 : xmq 197 := ⟨rfl, rfl, rfl, rfl⟩
theorem xmd_197 : xmd 197 = true := by decide +kernel
theorem xmqs_0 : ∀ j ∈ ([0, 1, 2, 3, 4, 5, 6, 7, 8, 9, 10, 11, 12, 13, 14, 15, 16, 17, 18, 19, 20, 21, 22, 23, 24, 25, 26, 27, 28, 29, 30, 31, 32] : List Nat), xmq j ∧ xmd j = true := List.forall_mem_cons.mpr ⟨⟨xmq_0, xmd_0⟩, List.forall_mem_cons.mpr ⟨⟨xmq_1, xmd_1⟩, List.forall_mem_cons.mpr ⟨⟨xmq_2, xmd_2⟩, List.forall_mem_cons.mpr ⟨⟨xmq_3, xmd_3⟩, List.forall_mem_cons.mpr ⟨⟨xmq_4, xmd_4⟩, List.forall_mem_cons.mpr ⟨⟨xmq_5, xmd_5⟩, List.forall_mem_cons.mpr ⟨⟨xmq_6, xmd_6⟩, List.forall_mem_cons.mpr ⟨⟨xmq_7, xmd_7⟩, List.forall_mem_cons.mpr ⟨⟨xmq_8, xmd_8⟩, List.forall_mem_cons.mpr ⟨⟨xmq_9, xmd_9⟩, List.forall_mem_cons.mpr ⟨⟨xmq_10, xmd_10⟩, List.forall_mem_cons.mpr ⟨⟨xmq_11, xmd_11⟩, List.forall_mem_cons.mpr ⟨⟨xmq_12, xmd_12⟩, List.forall_mem_cons.mpr ⟨⟨xmq_13, xmd_13⟩, List.forall_mem_cons.mpr ⟨⟨xmq_14, xmd_14⟩, List.forall_mem_cons.mpr ⟨⟨xmq_15, xmd_15⟩, List.forall_mem_cons.mpr ⟨⟨xmq_16, xmd_16⟩, List.forall_mem_cons.mpr ⟨⟨xmq_17, xmd_17⟩, List.forall_mem_cons.mpr ⟨⟨xmq_18, xmd_18⟩, List.forall_mem_cons.mpr ⟨⟨xmq_19, xmd_19⟩, List.forall_mem_cons.mpr ⟨⟨xmq_20, xmd_20⟩, List.forall_mem_cons.mpr ⟨⟨xmq_21, xmd_21⟩, List.forall_mem_cons.mpr ⟨⟨xmq_22, xmd_22⟩, List.forall_mem_cons.mpr ⟨⟨xmq_23, xmd_23⟩, List.forall_mem_cons.mpr ⟨⟨xmq_24, xmd_24⟩, List.forall_mem_cons.mpr ⟨⟨xmq_25, xmd_25⟩, List.forall_mem_cons.mpr ⟨⟨xmq_26, xmd_26⟩, List.forall_mem_cons.mpr ⟨⟨xmq_27, xmd_27⟩, List.forall_mem_cons.mpr ⟨⟨xmq_28, xmd_28⟩, List.forall_mem_cons.mpr ⟨⟨xmq_29, xmd_29⟩, List.forall_mem_cons.mpr ⟨⟨xmq_30, xmd_30⟩, List.forall_mem_cons.mpr ⟨⟨xmq_31, xmd_31⟩, List.forall_mem_cons.mpr ⟨⟨xmq_32, xmd_32⟩, fun _ h => absurd h List.not_mem_nil⟩⟩⟩⟩⟩⟩⟩⟩⟩⟩⟩⟩⟩⟩⟩⟩⟩⟩⟩⟩⟩⟩⟩⟩⟩⟩⟩⟩⟩⟩⟩⟩⟩
theorem xmqs_1 : ∀ j ∈ ([33, 34, 35, 36, 37, 38, 39, 40, 41, 42, 43, 44, 45, 46, 47, 48, 49, 50, 51, 52, 53, 54, 55, 56, 57, 58, 59, 60, 61, 62, 63, 64, 65] : List Nat), xmq j ∧ xmd j = true := List.forall_mem_cons.mpr ⟨⟨xmq_33, xmd_33⟩, List.forall_mem_cons.mpr ⟨⟨xmq_34, xmd_34⟩, List.forall_mem_cons.mpr ⟨⟨xmq_35, xmd_35⟩, List.forall_mem_cons.mpr ⟨⟨xmq_36, xmd_36⟩, List.forall_mem_cons.mpr ⟨⟨xmq_37, xmd_37⟩, List.forall_mem_cons.mpr ⟨⟨xmq_38, xmd_38⟩, List.forall_mem_cons.mpr ⟨⟨xmq_39, xmd_39⟩, List.forall_mem_cons.mpr ⟨⟨xmq_40, xmd_40⟩, List.forall_mem_cons.mpr ⟨⟨xmq_41, xmd_41⟩, List.forall_mem_cons.mpr ⟨⟨xmq_42, xmd_42⟩, List.forall_mem_cons.mpr ⟨⟨xmq_43, xmd_43⟩, List.forall_mem_cons.mpr ⟨⟨xmq_44, xmd_44⟩, List.forall_mem_cons.mpr ⟨⟨xmq_45, xmd_45⟩, List.forall_mem_cons.mpr ⟨⟨xmq_46, xmd_46⟩, List.forall_mem_cons.mpr ⟨⟨xmq_47, xmd_47⟩, List.forall_mem_cons.mpr ⟨⟨xmq_48, xmd_48⟩, List.forall_mem_cons.mpr ⟨⟨xmq_49, xmd_49⟩, List.forall_mem_cons.mpr ⟨⟨xmq_50, xmd_50⟩, List.forall_mem_cons.mpr ⟨⟨xmq_51, xmd_51⟩, List.forall_mem_cons.mpr ⟨⟨xmq_52, xmd_52⟩, List.forall_mem_cons.mpr ⟨⟨xmq_53, xmd_53⟩, List.forall_mem_cons.mpr ⟨⟨xmq_54, xmd_54⟩, List.forall_mem_cons.mpr ⟨⟨xmq_55, xmd_55⟩, List.forall_mem_cons.mpr ⟨⟨xmq_56, xmd_56⟩, List.forall_mem_cons.mpr ⟨⟨xmq_57, xmd_57⟩, List.forall_mem_cons.mpr ⟨⟨xmq_58, xmd_58⟩, List.forall_mem_cons.mpr ⟨⟨xmq_59, xmd_59⟩, List.forall_mem_cons.mpr ⟨⟨xmq_60, xmd_60⟩, List.forall_mem_cons.mpr ⟨⟨xmq_61, xmd_61⟩, List.forall_mem_cons.mpr ⟨⟨xmq_62, xmd_62⟩, List.forall_mem_cons.mpr ⟨⟨xmq_63, xmd_63⟩, List.forall_mem_cons.mpr ⟨⟨xmq_64, xmd_64⟩, List.forall_mem_cons.mpr ⟨⟨xmq_65, xmd_65⟩, fun _ h => absurd h List.not_mem_nil⟩⟩⟩⟩⟩⟩⟩⟩⟩⟩⟩⟩⟩⟩⟩⟩⟩⟩⟩⟩⟩⟩⟩⟩⟩⟩⟩⟩⟩⟩⟩⟩⟩
theorem xmqs_2 : ∀ j ∈ ([66, 67, 68, 69, 70, 71, 72, 73, 74, 75, 76, 77, 78, 79, 80, 81, 82, 83, 84, 85, 86, 87, 88, 89, 90, 91, 92, 93, 94, 95, 96, 97, 98] : List Nat), xmq j ∧ xmd j = true := List.forall_mem_cons.mpr ⟨⟨xmq_66, xmd_66⟩, List.forall_mem_cons.mpr ⟨⟨xmq_67, xmd_67⟩, List.forall_mem_cons.mpr ⟨⟨xmq_68, xmd_68⟩, List.forall_mem_cons.mpr ⟨⟨xmq_69, xmd_69⟩, List.forall_mem_cons.mpr ⟨⟨xmq_70, xmd_70⟩, List.forall_mem_cons.mpr ⟨⟨xmq_71, xmd_71⟩, List.forall_mem_cons.mpr ⟨⟨xmq_72, xmd_72⟩, List.forall_mem_cons.mpr ⟨⟨xmq_73, xmd_73⟩, List.forall_mem_cons.mpr ⟨⟨xmq_74, xmd_74⟩, List.forall_mem_cons.mpr ⟨⟨xmq_75, xmd_75⟩, List.forall_mem_cons.mpr ⟨⟨xmq_76, xmd_76⟩, List.forall_mem_cons.mpr ⟨⟨xmq_77, xmd_77⟩, List.forall_mem_cons.mpr ⟨⟨xmq_78, xmd_78⟩, List.forall_mem_cons.mpr ⟨⟨xmq_79, xmd_79⟩, List.forall_mem_cons.mpr ⟨⟨xmq_80, xmd_80⟩, List.forall_mem_cons.mpr ⟨⟨xmq_81, xmd_81⟩, List.forall_mem_cons.mpr ⟨⟨xmq_82, xmd_82⟩, List.forall_mem_cons.mpr ⟨⟨xmq_83, xmd_83⟩, List.forall_mem_cons.mpr ⟨⟨xmq_84, xmd_84⟩, List.forall_mem_cons.mpr ⟨⟨xmq_85, xmd_85⟩, List.forall_mem_cons.mpr ⟨⟨xmq_86, xmd_86⟩, List.forall_mem_cons.mpr ⟨⟨xmq_87, xmd_87⟩, List.forall_mem_cons.mpr ⟨⟨xmq_88, xmd_88⟩, List.forall_mem_cons.mpr ⟨⟨xmq_89, xmd_89⟩, List.forall_mem_cons.mpr ⟨⟨xmq_90, xmd_90⟩, List.forall_mem_cons.mpr ⟨⟨xmq_91, xmd_91⟩, List.forall_mem_cons.mpr ⟨⟨xmq_92, xmd_92⟩, List.forall_mem_cons.mpr ⟨⟨xmq_93, xmd_93⟩, List.forall_mem_cons.mpr ⟨⟨xmq_94, xmd_94⟩, List.forall_mem_cons.mpr ⟨⟨xmq_95, xmd_95⟩, List.forall_mem_cons.mpr ⟨⟨xmq_96, xmd_96⟩, List.forall_mem_cons.mpr ⟨⟨xmq_97, xmd_97⟩, List.forall_mem_cons.mpr ⟨⟨xmq_98, xmd_98⟩, fun _ h => absurd h List.not_mem_nil⟩⟩⟩⟩⟩⟩⟩⟩⟩⟩⟩⟩⟩⟩⟩⟩⟩⟩⟩⟩⟩⟩⟩⟩⟩⟩⟩⟩⟩⟩⟩⟩⟩
theorem xmqs_3 : ∀ j ∈ ([99, 100, 101, 102, 103, 104, 105, 106, 107, 108, 109, 110, 111, 112, 113, 114, 115, 116, 117, 118, 119, 120, 121, 122, 123, 124, 125, 126, 127, 128, 129, 130, 131] : List Nat), xmq j ∧ xmd j = true := List.forall_mem_cons.mpr ⟨⟨xmq_99, xmd_99⟩, List.forall_mem_cons.mpr ⟨⟨xmq_100, xmd_100⟩, List.forall_mem_cons.mpr ⟨⟨xmq_101, xmd_101⟩, List.forall_mem_cons.mpr ⟨⟨xmq_102, xmd_102⟩, List.forall_mem_cons.mpr ⟨⟨xmq_103, xmd_103⟩, List.forall_mem_cons.mpr ⟨⟨xmq_104, xmd_104⟩, List.forall_mem_cons.mpr ⟨⟨xmq_105, xmd_105⟩, List.forall_mem_cons.mpr ⟨⟨xmq_106, xmd_106⟩, List.forall_mem_cons.mpr ⟨⟨xmq_107, xmd_107⟩, List.forall_mem_cons.mpr ⟨⟨xmq_108, xmd_108⟩, List.forall_mem_cons.mpr ⟨⟨xmq_109, xmd_109⟩, List.forall_mem_cons.mpr ⟨⟨xmq_110, xmd_110⟩, List.forall_mem_cons.mpr ⟨⟨xmq_111, xmd_111⟩, List.forall_mem_cons.mpr ⟨⟨xmq_112, xmd_112⟩, List.forall_mem_cons.mpr ⟨⟨xmq_113, xmd_113⟩, List.forall_mem_cons.mpr ⟨⟨xmq_114, xmd_114⟩, List.forall_mem_cons.mpr ⟨⟨xmq_115, xmd_115⟩, List.forall_mem_cons.mpr ⟨⟨xmq_116, xmd_116⟩, List.forall_mem_cons.mpr ⟨⟨xmq_117, xmd_117⟩, List.forall_mem_cons.mpr ⟨⟨xmq_118, xmd_118⟩, List.forall_mem_cons.mpr ⟨⟨xmq_119, xmd_119⟩, List.forall_mem_cons.mpr ⟨⟨xmq_120, xmd_120⟩, List.forall_mem_cons.mpr ⟨⟨xmq_121, xmd_121⟩, List.forall_mem_cons.mpr ⟨⟨xmq_122, xmd_122⟩, List.forall_mem_cons.mpr ⟨⟨xmq_123, xmd_123⟩, List.forall_mem_cons.mpr ⟨⟨xmq_124, xmd_124⟩, List.forall_mem_cons.mpr ⟨⟨xmq_125, xmd_125⟩, List.forall_mem_cons.mpr ⟨⟨xmq_126, xmd_126⟩, List.forall_mem_cons.mpr ⟨⟨xmq_127, xmd_127⟩, List.forall_mem_cons.mpr ⟨⟨xmq_128, xmd_128⟩, List.forall_mem_cons.mpr ⟨⟨xmq_129, xmd_129⟩, List.forall_mem_cons.mpr ⟨⟨xmq_130, xmd_130⟩, List.forall_mem_cons.mpr ⟨⟨xmq_131, xmd_131⟩, fun _ h => absurd h List.not_mem_nil⟩⟩⟩⟩⟩⟩⟩⟩⟩⟩⟩⟩⟩⟩⟩⟩⟩⟩⟩⟩⟩⟩⟩⟩⟩⟩⟩⟩⟩⟩⟩⟩⟩
theorem xmqs_4 : ∀ j ∈ ([132, 133, 134, 135, 136, 137, 138, 139, 140, 141, 142, 143, 144, 145, 146, 147, 148, 149, 150, 151, 152, 153, 154, 155, 156, 157, 158, 159, 160, 161, 162, 163, 164] : List Nat), xmq j ∧ xmd j = true := List.forall_mem_cons.mpr ⟨⟨xmq_132, xmd_132⟩, List.forall_mem_cons.mpr ⟨⟨xmq_133, xmd_133⟩, List.forall_mem_cons.mpr ⟨⟨xmq_134, xmd_134⟩, List.forall_mem_cons.mpr ⟨⟨xmq_135, xmd_135⟩, List.forall_mem_cons.mpr ⟨⟨xmq_136, xmd_136⟩, List.forall_mem_cons.mpr ⟨⟨xmq_137, xmd_137⟩, List.forall_mem_cons.mpr ⟨⟨xmq_138, xmd_138⟩, List.forall_mem_cons.mpr ⟨⟨xmq_139, xmd_139⟩, List.forall_mem_cons.mpr ⟨⟨xmq_140, xmd_140⟩, List.forall_mem_cons.mpr ⟨⟨xmq_141, xmd_141⟩, List.forall_mem_cons.mpr ⟨⟨xmq_142, xmd_142⟩, List.forall_mem_cons.mpr ⟨⟨xmq_143, xmd_143⟩, List.forall_mem_cons.mpr ⟨⟨xmq_144, xmd_144⟩, List.forall_mem_cons.mpr ⟨⟨xmq_145, xmd_145⟩, List.forall_mem_cons.mpr ⟨⟨xmq_146, xmd_146⟩, List.forall_mem_cons.mpr ⟨⟨xmq_147, xmd_147⟩, List.forall_mem_cons.mpr ⟨⟨xmq_148, xmd_148⟩, List.forall_mem_cons.mpr ⟨⟨xmq_149, xmd_149⟩, List.forall_mem_cons.mpr ⟨⟨xmq_150, xmd_150⟩, List.forall_mem_cons.mpr ⟨⟨xmq_151, xmd_151⟩, List.forall_mem_cons.mpr ⟨⟨xmq_152, xmd_152⟩, List.forall_mem_cons.mpr ⟨⟨xmq_153, xmd_153⟩, List.forall_mem_cons.mpr ⟨⟨xmq_154, xmd_154⟩, List.forall_mem_cons.mpr ⟨⟨xmq_155, xmd_155⟩, List.forall_mem_cons.mpr ⟨⟨xmq_156, xmd_156⟩, List.forall_mem_cons.mpr ⟨⟨xmq_157, xmd_157⟩, List.forall_mem_cons.mpr ⟨⟨xmq_158, xmd_158⟩, List.forall_mem_cons.mpr ⟨⟨xmq_159, xmd_159⟩, List.forall_mem_cons.mpr ⟨⟨xmq_160, xmd_160⟩, List.forall_mem_cons.mpr ⟨⟨xmq_161, xmd_161⟩, List.forall_mem_cons.mpr ⟨⟨xmq_162, xmd_162⟩, List.forall_mem_cons.mpr ⟨⟨xmq_163, xmd_163⟩, List.forall_mem_cons.mpr ⟨⟨xmq_164, xmd_164⟩, fun _ h => absurd h List.not_mem_nil⟩⟩⟩⟩⟩⟩⟩⟩⟩⟩⟩⟩⟩⟩⟩⟩⟩⟩⟩⟩⟩⟩⟩⟩⟩⟩⟩⟩⟩⟩⟩⟩⟩
theorem xmqs_5 : ∀ j ∈ ([165, 166, 167, 168, 169, 170, 171, 172, 173, 174, 175, 176, 177, 178, 179, 180, 181, 182, 183, 184, 185, 186, 187, 188, 189, 190, 191, 192, 193, 194, 195, 196, 197] : List Nat), xmq j ∧ xmd j = true := List.forall_mem_cons.mpr ⟨⟨xmq_165, xmd_165⟩, List.forall_mem_cons.mpr ⟨⟨xmq_166, xmd_166⟩, List.forall_mem_cons.mpr ⟨⟨xmq_167, xmd_167⟩, List.forall_mem_cons.mpr ⟨⟨xmq_168, xmd_168⟩, List.forall_mem_cons.mpr ⟨⟨xmq_169, xmd_169⟩, List.forall_mem_cons.mpr ⟨⟨xmq_170, xmd_170⟩, List.forall_mem_cons.mpr ⟨⟨xmq_171, xmd_171⟩, List.forall_mem_cons.mpr ⟨⟨xmq_172, xmd_172⟩, List.forall_mem_cons.mpr ⟨⟨xmq_173, xmd_173⟩, List.forall_mem_cons.mpr ⟨⟨xmq_174, xmd_174⟩, List.forall_mem_cons.mpr ⟨⟨xmq_175, xmd_175⟩, List.forall_mem_cons.mpr ⟨⟨xmq_176, xmd_176⟩, List.forall_mem_cons.mpr ⟨⟨xmq_177, xmd_177⟩, List.forall_mem_cons.mpr ⟨⟨xmq_178, xmd_178⟩, List.forall_mem_cons.mpr ⟨⟨xmq_179, xmd_179⟩, List.forall_mem_cons.mpr ⟨⟨xmq_180, xmd_180⟩, List.forall_mem_cons.mpr ⟨⟨xmq_181, xmd_181⟩, List.forall_mem_cons.mpr ⟨⟨xmq_182, xmd_182⟩, List.forall_mem_cons.mpr ⟨⟨xmq_183, xmd_183⟩, List.forall_mem_cons.mpr ⟨⟨xmq_184, xmd_184⟩, List.forall_mem_cons.mpr ⟨⟨xmq_185, xmd_185⟩, List.forall_mem_cons.mpr ⟨⟨xmq_186, xmd_186⟩, List.forall_mem_cons.mpr ⟨⟨xmq_187, xmd_187⟩, List.forall_mem_cons.mpr ⟨⟨xmq_188, xmd_188⟩, List.forall_mem_cons.mpr ⟨⟨xmq_189, xmd_189⟩, List.forall_mem_cons.mpr ⟨⟨xmq_190, xmd_190⟩, List.forall_mem_cons.mpr ⟨⟨xmq_191, xmd_191⟩, List.forall_mem_cons.mpr ⟨⟨xmq_192, xmd_192⟩, List.forall_mem_cons.mpr ⟨⟨xmq_193, xmd_193⟩, List.forall_mem_cons.mpr ⟨⟨xmq_194, xmd_194⟩, List.forall_mem_cons.mpr ⟨⟨xmq_195, xmd_195⟩, List.forall_mem_cons.mpr ⟨⟨xmq_196, xmd_196⟩, List.forall_mem_cons.mpr ⟨⟨xmq_197, xmd_197⟩, fun _ h => absurd h List.not_mem_nil⟩⟩⟩⟩⟩⟩⟩⟩⟩⟩⟩⟩⟩⟩⟩⟩⟩⟩⟩⟩⟩⟩⟩⟩⟩⟩⟩⟩⟩⟩⟩⟩⟩
set_option maxRecDepth 100000 in
theorem xmq_ok (j : Nat) (hj : j < 198) : xmq j ∧ xmd j = true := by
  by_cases h0 : j < 33
  · exact xmqs_0 j ((by decide : ∀ j, j < 33 → 0 ≤ j → j ∈ ([0, 1, 2, 3, 4, 5, 6, 7, 8, 9, 10, 11, 12, 13, 14, 15, 16, 17, 18, 19, 20, 21, 22, 23, 24, 25, 26, 27, 28, 29, 30, 31, 32] : List Nat)) j h0 (by omega))
  by_cases h1 : j < 66
  · exact xmqs_1 j ((by decide : ∀ j, j < 66 → 33 ≤ j → j ∈ ([33, 34, 35, 36, 37, 38, 39, 40, 41, 42, 43, 44, 45, 46, 47, 48, 49, 50, 51, 52, 53, 54, 55, 56, 57, 58, 59, 60, 61, 62, 63, 64, 65] : List Nat)) j h1 (by omega))
  by_cases h2 : j < 99
  · exact xmqs_2 j ((by decide : ∀ j, j < 99 → 66 ≤ j → j ∈ ([66, 67, 68, 69, 70, 71, 72, 73, 74, 75, 76, 77, 78, 79, 80, 81, 82, 83, 84, 85, 86, 87, 88, 89, 90, 91, 92, 93, 94, 95, 96, 97, 98] : List Nat)) j h2 (by omega))
  by_cases h3 : j < 132
  · exact xmqs_3 j ((by decide : ∀ j, j < 132 → 99 ≤ j → j ∈ ([99, 100, 101, 102, 103, 104, 105, 106, 107, 108, 109, 110, 111, 112, 113, 114, 115, 116, 117, 118, 119, 120, 121, 122, 123, 124, 125, 126, 127, 128, 129, 130, 131] : List Nat)) j h3 (by omega))
  by_cases h4 : j < 165
  · exact xmqs_4 j ((by decide : ∀ j, j < 165 → 132 ≤ j → j ∈ ([132, 133, 134, 135, 136, 137, 138, 139, 140, 141, 142, 143, 144, 145, 146, 147, 148, 149, 150, 151, 152, 153, 154, 155, 156, 157, 158, 159, 160, 161, 162, 163, 164] : List Nat)) j h4 (by omega))
  by_cases h5 : j < 198
  · exact xmqs_5 j ((by decide : ∀ j, j < 198 → 165 ≤ j → j ∈ ([165, 166, 167, 168, 169, 170, 171, 172, 173, 174, 175, 176, 177, 178, 179, 180, 181, 182, 183, 184, 185, 186, 187, 188, 189, 190, 191, 192, 193, 194, 195, 196, 197] : List Nat)) j h5 (by omega))
  exact absurd hj (by omega)
/-- what holds of each pool entry -/
def xfw (o i ci k : Nat) : Bool → Cond
  | true => .fieldLinkNest (xown o) i (xcl ci).1 ((xcl ci).2.1 k).2.1 ((xcl ci).2.1 k).2.2.1 "RegionYard"
  | false => .fieldLink (xown o) i (xcl ci).1 ((xcl ci).2.1 k).2.1 ((xcl ci).2.1 k).2.2.1
def xexc (ci : Nat) : String := match ci with
  | 100 => "java/util/NoSuchElementException"
  | 101 => "java/lang/IllegalArgumentException"
  | n => (xcl n).1
def xpk (o : Nat) (e : Nat × xP) : Prop := match e with
  | (i, .inl (p, _, 99, _)) => lw_tbl[p]? = some (.fieldLink (xown o) i "RegionYard" "PARTS" "[I")
  | (i, .inl (p, n, ci, k)) => lw_tbl[p]? = some (xfw o i ci k n) ∧ Nat.blt ci 11 = true ∧ Nat.blt k (xcl ci).2.2 = true
  | (i, .inr (.inl (p, 6, _))) => lw_tbl[p]? = some (.methodLink (xown o) i Lib.objectInit)
  | (i, .inr (.inl (p, 0, j))) => lw_tbl[p]? = some (.methodLink (xown o) i (xy j)) ∧ lw_tbl[(xmpj j).2.2.1]? = some (.selects (xy j).cls (xy j) (xy j)) ∧ xsta j = false ∧ Nat.blt j 198 = true
  | (i, .inr (.inl (p, 2, j))) => lw_tbl[p]? = some (.methodLink (xown o) i (xy j)) ∧ xsta j = true ∧ Nat.blt j 198 = true
  | (i, .inr (.inl (p, 3, j))) => lw_tbl[p]? = some (.methodLinkNest (xown o) i (xy j) "RegionYard") ∧ xsta j = true ∧ Nat.blt j 198 = true
  | (i, .inr (.inl (p, 4, j))) => lw_tbl[p]? = some (.methodLink (xown o) i (xy j)) ∧ xsta j = false ∧ (xy j).name = "<init>" ∧ xrt j = none ∧ Nat.blt j 198 = true
  | (i, .inr (.inl (p, 5, j))) => lw_tbl[p]? = some (.methodLinkNest (xown o) i (xy j) "RegionYard") ∧ xsta j = false ∧ (xy j).name = "<init>" ∧ xrt j = none ∧ Nat.blt j 198 = true
  | (i, .inr (.inl (p, 7, j))) => lw_tbl[p]? = some (.methodLink (xown o) i (xy j)) ∧ xsta j = true ∧ Nat.blt j 198 = true
  | (_, .inr (.inl (_, _, _))) => False
  | (i, .inr (.inr (.inl (p, ci)))) => lw_tbl[p]? = some (.classLink (xown o) i (xexc ci))
  | (i, .inr (.inr (.inr (.inl (p, v))))) => lw_tbl[p]? = some (.constant (xown o) i v)
  | (i, .inr (.inr (.inr (.inr (p, v))))) => lw_tbl[p]? = some (.constantLong (xown o) i v)
set_option maxRecDepth 100000 in
theorem xpk_0_0 : xpk 0 (1, .inr (.inl (243, 6, 0))) := rfl
set_option maxRecDepth 100000 in
theorem xpk_0_1 : xpk 0 (7, .inr (.inr (.inl (244, 8)))) := rfl
set_option maxRecDepth 100000 in
theorem xpk_0_2 : xpk 0 (9, .inr (.inl (245, 5, 75))) := ⟨rfl, rfl, rfl, rfl, rfl⟩
set_option maxRecDepth 100000 in
theorem xpk_0_3 : xpk 0 (10, .inl (249, false, 0, 1)) := ⟨rfl, rfl, rfl⟩
set_option maxRecDepth 100000 in
theorem xpk_0_4 : xpk 0 (16, .inl (246, false, 0, 0)) := ⟨rfl, rfl, rfl⟩
theorem xpk_0 : ∀ e ∈ xpl_0, xpk 0 e := List.forall_mem_cons.mpr ⟨xpk_0_0, List.forall_mem_cons.mpr ⟨xpk_0_1, List.forall_mem_cons.mpr ⟨xpk_0_2, List.forall_mem_cons.mpr ⟨xpk_0_3, List.forall_mem_cons.mpr ⟨xpk_0_4, fun _ h => absurd h List.not_mem_nil⟩⟩⟩⟩⟩
set_option maxRecDepth 100000 in
theorem xpk_1_0 : xpk 1 (3, .inr (.inl (103, 6, 0))) := rfl
set_option maxRecDepth 100000 in
theorem xpk_1_1 : xpk 1 (9, .inr (.inr (.inl (104, 8)))) := rfl
set_option maxRecDepth 100000 in
theorem xpk_1_2 : xpk 1 (11, .inr (.inl (106, 5, 75))) := ⟨rfl, rfl, rfl, rfl, rfl⟩
set_option maxRecDepth 100000 in
theorem xpk_1_3 : xpk 1 (12, .inl (121, false, 1, 0)) := ⟨rfl, rfl, rfl⟩
set_option maxRecDepth 100000 in
theorem xpk_1_4 : xpk 1 (18, .inl (122, false, 1, 1)) := ⟨rfl, rfl, rfl⟩
set_option maxRecDepth 100000 in
theorem xpk_1_5 : xpk 1 (21, .inl (268, true, 5, 5)) := ⟨rfl, rfl, rfl⟩
set_option maxRecDepth 100000 in
theorem xpk_1_6 : xpk 1 (27, .inl (123, false, 1, 2)) := ⟨rfl, rfl, rfl⟩
set_option maxRecDepth 100000 in
theorem xpk_1_7 : xpk 1 (31, .inl (124, false, 1, 3)) := ⟨rfl, rfl, rfl⟩
set_option maxRecDepth 100000 in
theorem xpk_1_8 : xpk 1 (34, .inr (.inl (445, 0, 44))) := ⟨rfl, rfl, rfl, rfl⟩
set_option maxRecDepth 100000 in
theorem xpk_1_9 : xpk 1 (38, .inr (.inl (446, 0, 3))) := ⟨rfl, rfl, rfl, rfl⟩
set_option maxRecDepth 100000 in
theorem xpk_1_10 : xpk 1 (42, .inr (.inl (461, 0, 5))) := ⟨rfl, rfl, rfl, rfl⟩
set_option maxRecDepth 100000 in
theorem xpk_1_11 : xpk 1 (46, .inr (.inl (450, 2, 4))) := ⟨rfl, rfl, rfl⟩
set_option maxRecDepth 100000 in
theorem xpk_1_12 : xpk 1 (50, .inl (353, true, 2, 1)) := ⟨rfl, rfl, rfl⟩
set_option maxRecDepth 100000 in
theorem xpk_1_13 : xpk 1 (53, .inl (350, true, 2, 0)) := ⟨rfl, rfl, rfl⟩
set_option maxRecDepth 100000 in
theorem xpk_1_14 : xpk 1 (56, .inr (.inl (457, 0, 84))) := ⟨rfl, rfl, rfl, rfl⟩
set_option maxRecDepth 100000 in
theorem xpk_1_15 : xpk 1 (60, .inr (.inl (453, 0, 86))) := ⟨rfl, rfl, rfl, rfl⟩
set_option maxRecDepth 100000 in
theorem xpk_1_16 : xpk 1 (64, .inr (.inl (465, 0, 43))) := ⟨rfl, rfl, rfl, rfl⟩
set_option maxRecDepth 100000 in
theorem xpk_1_17 : xpk 1 (68, .inr (.inl (469, 0, 6))) := ⟨rfl, rfl, rfl, rfl⟩
set_option maxRecDepth 100000 in
theorem xpk_1_18 : xpk 1 (71, .inl (126, false, 1, 5)) := ⟨rfl, rfl, rfl⟩
set_option maxRecDepth 100000 in
theorem xpk_1_19 : xpk 1 (74, .inr (.inl (487, 0, 79))) := ⟨rfl, rfl, rfl, rfl⟩
set_option maxRecDepth 100000 in
theorem xpk_1_20 : xpk 1 (78, .inl (128, false, 1, 7)) := ⟨rfl, rfl, rfl⟩
set_option maxRecDepth 100000 in
theorem xpk_1_21 : xpk 1 (81, .inr (.inl (491, 0, 19))) := ⟨rfl, rfl, rfl, rfl⟩
set_option maxRecDepth 100000 in
theorem xpk_1_22 : xpk 1 (85, .inl (125, false, 1, 4)) := ⟨rfl, rfl, rfl⟩
set_option maxRecDepth 100000 in
theorem xpk_1_23 : xpk 1 (88, .inr (.inl (499, 0, 21))) := ⟨rfl, rfl, rfl, rfl⟩
set_option maxRecDepth 100000 in
theorem xpk_1_24 : xpk 1 (91, .inr (.inl (530, 0, 22))) := ⟨rfl, rfl, rfl, rfl⟩
set_option maxRecDepth 100000 in
theorem xpk_1_25 : xpk 1 (94, .inr (.inl (534, 0, 23))) := ⟨rfl, rfl, rfl, rfl⟩
set_option maxRecDepth 100000 in
theorem xpk_1_26 : xpk 1 (97, .inr (.inl (544, 0, 24))) := ⟨rfl, rfl, rfl, rfl⟩
set_option maxRecDepth 100000 in
theorem xpk_1_27 : xpk 1 (100, .inr (.inl (552, 0, 26))) := ⟨rfl, rfl, rfl, rfl⟩
set_option maxRecDepth 100000 in
theorem xpk_1_28 : xpk 1 (104, .inl (262, true, 5, 0)) := ⟨rfl, rfl, rfl⟩
set_option maxRecDepth 100000 in
theorem xpk_1_29 : xpk 1 (107, .inr (.inl (556, 0, 7))) := ⟨rfl, rfl, rfl, rfl⟩
set_option maxRecDepth 100000 in
theorem xpk_1_30 : xpk 1 (111, .inr (.inl (503, 0, 20))) := ⟨rfl, rfl, rfl, rfl⟩
set_option maxRecDepth 100000 in
theorem xpk_1_31 : xpk 1 (114, .inr (.inl (473, 3, 118))) := ⟨rfl, rfl, rfl⟩
set_option maxRecDepth 100000 in
theorem xpk_1_32 : xpk 1 (117, .inr (.inl (476, 3, 119))) := ⟨rfl, rfl, rfl⟩
set_option maxRecDepth 100000 in
theorem xpk_1_33 : xpk 1 (120, .inr (.inl (479, 3, 120))) := ⟨rfl, rfl, rfl⟩
set_option maxRecDepth 100000 in
theorem xpk_1_34 : xpk 1 (123, .inl (127, false, 1, 6)) := ⟨rfl, rfl, rfl⟩
set_option maxRecDepth 100000 in
theorem xpk_1_35 : xpk 1 (126, .inr (.inl (482, 3, 121))) := ⟨rfl, rfl, rfl⟩
set_option maxRecDepth 100000 in
theorem xpk_1_36 : xpk 1 (129, .inr (.inl (483, 3, 122))) := ⟨rfl, rfl, rfl⟩
set_option maxRecDepth 100000 in
theorem xpk_1_37 : xpk 1 (132, .inl (129, false, 1, 8)) := ⟨rfl, rfl, rfl⟩
set_option maxRecDepth 100000 in
theorem xpk_1_38 : xpk 1 (135, .inr (.inl (486, 3, 117))) := ⟨rfl, rfl, rfl⟩
set_option maxRecDepth 100000 in
theorem xpk_1_39 : xpk 1 (138, .inr (.inl (560, 0, 80))) := ⟨rfl, rfl, rfl, rfl⟩
set_option maxRecDepth 100000 in
theorem xpk_1_40 : xpk 1 (142, .inr (.inl (561, 0, 82))) := ⟨rfl, rfl, rfl, rfl⟩
set_option maxRecDepth 100000 in
theorem xpk_1_41 : xpk 1 (146, .inr (.inl (565, 0, 9))) := ⟨rfl, rfl, rfl, rfl⟩
set_option maxRecDepth 100000 in
theorem xpk_1_42 : xpk 1 (150, .inr (.inl (579, 0, 10))) := ⟨rfl, rfl, rfl, rfl⟩
set_option maxRecDepth 100000 in
theorem xpk_1_43 : xpk 1 (153, .inr (.inl (583, 0, 12))) := ⟨rfl, rfl, rfl, rfl⟩
set_option maxRecDepth 100000 in
theorem xpk_1_44 : xpk 1 (156, .inr (.inl (591, 0, 14))) := ⟨rfl, rfl, rfl, rfl⟩
set_option maxRecDepth 100000 in
theorem xpk_1_45 : xpk 1 (159, .inr (.inl (599, 0, 15))) := ⟨rfl, rfl, rfl, rfl⟩
set_option maxRecDepth 100000 in
theorem xpk_1_46 : xpk 1 (162, .inr (.inl (508, 0, 77))) := ⟨rfl, rfl, rfl, rfl⟩
set_option maxRecDepth 100000 in
theorem xpk_1_47 : xpk 1 (166, .inr (.inl (512, 0, 78))) := ⟨rfl, rfl, rfl, rfl⟩
set_option maxRecDepth 100000 in
theorem xpk_1_48 : xpk 1 (169, .inr (.inl (573, 0, 11))) := ⟨rfl, rfl, rfl, rfl⟩
set_option maxRecDepth 100000 in
theorem xpk_1_49 : xpk 1 (173, .inr (.inl (606, 0, 8))) := ⟨rfl, rfl, rfl, rfl⟩
set_option maxRecDepth 100000 in
theorem xpk_1_50 : xpk 1 (177, .inr (.inl (610, 0, 17))) := ⟨rfl, rfl, rfl, rfl⟩
set_option maxRecDepth 100000 in
theorem xpk_1_51 : xpk 1 (180, .inr (.inl (614, 0, 18))) := ⟨rfl, rfl, rfl, rfl⟩
set_option maxRecDepth 100000 in
theorem xpk_1_52 : xpk 1 (183, .inr (.inl (519, 0, 81))) := ⟨rfl, rfl, rfl, rfl⟩
set_option maxRecDepth 100000 in
theorem xpk_1_53 : xpk 1 (187, .inr (.inl (569, 0, 76))) := ⟨rfl, rfl, rfl, rfl⟩
set_option maxRecDepth 100000 in
theorem xpk_1_54 : xpk 1 (190, .inr (.inr (.inr (.inr (577, -1000000))))) := rfl
set_option maxRecDepth 100000 in
theorem xpk_1_55 : xpk 1 (192, .inr (.inr (.inr (.inr (578, 1000000))))) := rfl
set_option maxRecDepth 100000 in
theorem xpk_1_56 : xpk 1 (194, .inr (.inl (587, 0, 16))) := ⟨rfl, rfl, rfl, rfl⟩
set_option maxRecDepth 100000 in
theorem xpk_1_57 : xpk 1 (198, .inr (.inl (595, 0, 13))) := ⟨rfl, rfl, rfl, rfl⟩
set_option maxRecDepth 100000 in
theorem xpk_1_58 : xpk 1 (201, .inr (.inl (603, 2, 184))) := ⟨rfl, rfl, rfl⟩
set_option maxRecDepth 100000 in
theorem xpk_1_59 : xpk 1 (207, .inr (.inl (527, 2, 186))) := ⟨rfl, rfl, rfl⟩
set_option maxRecDepth 100000 in
theorem xpk_1_60 : xpk 1 (211, .inr (.inl (516, 2, 188))) := ⟨rfl, rfl, rfl⟩
set_option maxRecDepth 100000 in
theorem xpk_1_61 : xpk 1 (216, .inr (.inr (.inr (.inl (618, -2147483648))))) := rfl
set_option maxRecDepth 100000 in
theorem xpk_1_62 : xpk 1 (217, .inr (.inr (.inr (.inl (619, 2147483647))))) := rfl
set_option maxRecDepth 100000 in
theorem xpk_1_63 : xpk 1 (218, .inr (.inl (495, 0, 85))) := ⟨rfl, rfl, rfl, rfl⟩
set_option maxRecDepth 100000 in
theorem xpk_1_64 : xpk 1 (222, .inr (.inl (507, 0, 42))) := ⟨rfl, rfl, rfl, rfl⟩
set_option maxRecDepth 100000 in
theorem xpk_1_65 : xpk 1 (225, .inr (.inl (538, 0, 45))) := ⟨rfl, rfl, rfl, rfl⟩
set_option maxRecDepth 100000 in
theorem xpk_1_66 : xpk 1 (229, .inr (.inl (539, 0, 47))) := ⟨rfl, rfl, rfl, rfl⟩
set_option maxRecDepth 100000 in
theorem xpk_1_67 : xpk 1 (232, .inr (.inl (540, 0, 25))) := ⟨rfl, rfl, rfl, rfl⟩
set_option maxRecDepth 100000 in
theorem xpk_1_68 : xpk 1 (236, .inr (.inl (548, 0, 46))) := ⟨rfl, rfl, rfl, rfl⟩
set_option maxRecDepth 100000 in
theorem xpk_1_69 : xpk 1 (240, .inl (429, true, 3, 2)) := ⟨rfl, rfl, rfl⟩
set_option maxRecDepth 100000 in
theorem xpk_1_70 : xpk 1 (246, .inl (427, true, 3, 1)) := ⟨rfl, rfl, rfl⟩
set_option maxRecDepth 100000 in
theorem xpk_1_71 : xpk 1 (250, .inl (251, true, 0, 1)) := ⟨rfl, rfl, rfl⟩
theorem xpk_1 : ∀ e ∈ xpl_1, xpk 1 e := List.forall_mem_cons.mpr ⟨xpk_1_0, List.forall_mem_cons.mpr ⟨xpk_1_1, List.forall_mem_cons.mpr ⟨xpk_1_2, List.forall_mem_cons.mpr ⟨xpk_1_3, List.forall_mem_cons.mpr ⟨xpk_1_4, List.forall_mem_cons.mpr ⟨xpk_1_5, List.forall_mem_cons.mpr ⟨xpk_1_6, List.forall_mem_cons.mpr ⟨xpk_1_7, List.forall_mem_cons.mpr ⟨xpk_1_8, List.forall_mem_cons.mpr ⟨xpk_1_9, List.forall_mem_cons.mpr ⟨xpk_1_10, List.forall_mem_cons.mpr ⟨xpk_1_11, List.forall_mem_cons.mpr ⟨xpk_1_12, List.forall_mem_cons.mpr ⟨xpk_1_13, List.forall_mem_cons.mpr ⟨xpk_1_14, List.forall_mem_cons.mpr ⟨xpk_1_15, List.forall_mem_cons.mpr ⟨xpk_1_16, List.forall_mem_cons.mpr ⟨xpk_1_17, List.forall_mem_cons.mpr ⟨xpk_1_18, List.forall_mem_cons.mpr ⟨xpk_1_19, List.forall_mem_cons.mpr ⟨xpk_1_20, List.forall_mem_cons.mpr ⟨xpk_1_21, List.forall_mem_cons.mpr ⟨xpk_1_22, List.forall_mem_cons.mpr ⟨xpk_1_23, List.forall_mem_cons.mpr ⟨xpk_1_24, List.forall_mem_cons.mpr ⟨xpk_1_25, List.forall_mem_cons.mpr ⟨xpk_1_26, List.forall_mem_cons.mpr ⟨xpk_1_27, List.forall_mem_cons.mpr ⟨xpk_1_28, List.forall_mem_cons.mpr ⟨xpk_1_29, List.forall_mem_cons.mpr ⟨xpk_1_30, List.forall_mem_cons.mpr ⟨xpk_1_31, List.forall_mem_cons.mpr ⟨xpk_1_32, List.forall_mem_cons.mpr ⟨xpk_1_33, List.forall_mem_cons.mpr ⟨xpk_1_34, List.forall_mem_cons.mpr ⟨xpk_1_35, List.forall_mem_cons.mpr ⟨xpk_1_36, List.forall_mem_cons.mpr ⟨xpk_1_37, List.forall_mem_cons.mpr ⟨xpk_1_38, List.forall_mem_cons.mpr ⟨xpk_1_39, List.forall_mem_cons.mpr ⟨xpk_1_40, List.forall_mem_cons.mpr ⟨xpk_1_41, List.forall_mem_cons.mpr ⟨xpk_1_42, List.forall_mem_cons.mpr ⟨xpk_1_43, List.forall_mem_cons.mpr ⟨xpk_1_44, List.forall_mem_cons.mpr ⟨xpk_1_45, List.forall_mem_cons.mpr ⟨xpk_1_46, List.forall_mem_cons.mpr ⟨xpk_1_47, List.forall_mem_cons.mpr ⟨xpk_1_48, List.forall_mem_cons.mpr ⟨xpk_1_49, List.forall_mem_cons.mpr ⟨xpk_1_50, List.forall_mem_cons.mpr ⟨xpk_1_51, List.forall_mem_cons.mpr ⟨xpk_1_52, List.forall_mem_cons.mpr ⟨xpk_1_53, List.forall_mem_cons.mpr ⟨xpk_1_54, List.forall_mem_cons.mpr ⟨xpk_1_55, List.forall_mem_cons.mpr ⟨xpk_1_56, List.forall_mem_cons.mpr ⟨xpk_1_57, List.forall_mem_cons.mpr ⟨xpk_1_58, List.forall_mem_cons.mpr ⟨xpk_1_59, List.forall_mem_cons.mpr ⟨xpk_1_60, List.forall_mem_cons.mpr ⟨xpk_1_61, List.forall_mem_cons.mpr ⟨xpk_1_62, List.forall_mem_cons.mpr ⟨xpk_1_63, List.forall_mem_cons.mpr ⟨xpk_1_64, List.forall_mem_cons.mpr ⟨xpk_1_65, List.forall_mem_cons.mpr ⟨xpk_1_66, List.forall_mem_cons.mpr ⟨xpk_1_67, List.forall_mem_cons.mpr ⟨xpk_1_68, List.forall_mem_cons.mpr ⟨xpk_1_69, List.forall_mem_cons.mpr ⟨xpk_1_70, List.forall_mem_cons.mpr ⟨xpk_1_71, fun _ h => absurd h List.not_mem_nil⟩⟩⟩⟩⟩⟩⟩⟩⟩⟩⟩⟩⟩⟩⟩⟩⟩⟩⟩⟩⟩⟩⟩⟩⟩⟩⟩⟩⟩⟩⟩⟩⟩⟩⟩⟩⟩⟩⟩⟩⟩⟩⟩⟩⟩⟩⟩⟩⟩⟩⟩⟩⟩⟩⟩⟩⟩⟩⟩⟩⟩⟩⟩⟩⟩⟩⟩⟩⟩⟩⟩⟩
set_option maxRecDepth 100000 in
theorem xpk_2_0 : xpk 2 (1, .inr (.inl (346, 6, 0))) := rfl
set_option maxRecDepth 100000 in
theorem xpk_2_1 : xpk 2 (7, .inr (.inr (.inl (347, 8)))) := rfl
set_option maxRecDepth 100000 in
theorem xpk_2_2 : xpk 2 (9, .inr (.inl (348, 5, 75))) := ⟨rfl, rfl, rfl, rfl, rfl⟩
set_option maxRecDepth 100000 in
theorem xpk_2_3 : xpk 2 (10, .inl (349, false, 2, 0)) := ⟨rfl, rfl, rfl⟩
theorem xpk_2 : ∀ e ∈ xpl_2, xpk 2 e := List.forall_mem_cons.mpr ⟨xpk_2_0, List.forall_mem_cons.mpr ⟨xpk_2_1, List.forall_mem_cons.mpr ⟨xpk_2_2, List.forall_mem_cons.mpr ⟨xpk_2_3, fun _ h => absurd h List.not_mem_nil⟩⟩⟩⟩
set_option maxRecDepth 100000 in
theorem xpk_3_0 : xpk 3 (1, .inr (.inl (421, 6, 0))) := rfl
set_option maxRecDepth 100000 in
theorem xpk_3_1 : xpk 3 (7, .inl (422, false, 3, 0)) := ⟨rfl, rfl, rfl⟩
set_option maxRecDepth 100000 in
theorem xpk_3_2 : xpk 3 (13, .inl (424, false, 3, 1)) := ⟨rfl, rfl, rfl⟩
set_option maxRecDepth 100000 in
theorem xpk_3_3 : xpk 3 (17, .inl (428, false, 3, 2)) := ⟨rfl, rfl, rfl⟩
theorem xpk_3 : ∀ e ∈ xpl_3, xpk 3 e := List.forall_mem_cons.mpr ⟨xpk_3_0, List.forall_mem_cons.mpr ⟨xpk_3_1, List.forall_mem_cons.mpr ⟨xpk_3_2, List.forall_mem_cons.mpr ⟨xpk_3_3, fun _ h => absurd h List.not_mem_nil⟩⟩⟩⟩
set_option maxRecDepth 100000 in
theorem xpk_4_0 : xpk 4 (3, .inr (.inl (670, 6, 0))) := rfl
set_option maxRecDepth 100000 in
theorem xpk_4_1 : xpk 4 (9, .inl (675, false, 4, 2)) := ⟨rfl, rfl, rfl⟩
set_option maxRecDepth 100000 in
theorem xpk_4_2 : xpk 4 (15, .inl (677, false, 4, 3)) := ⟨rfl, rfl, rfl⟩
set_option maxRecDepth 100000 in
theorem xpk_4_3 : xpk 4 (18, .inl (685, false, 4, 8)) := ⟨rfl, rfl, rfl⟩
set_option maxRecDepth 100000 in
theorem xpk_4_4 : xpk 4 (22, .inl (671, false, 4, 0)) := ⟨rfl, rfl, rfl⟩
set_option maxRecDepth 100000 in
theorem xpk_4_5 : xpk 4 (25, .inl (680, false, 4, 5)) := ⟨rfl, rfl, rfl⟩
set_option maxRecDepth 100000 in
theorem xpk_4_6 : xpk 4 (28, .inl (683, false, 4, 7)) := ⟨rfl, rfl, rfl⟩
set_option maxRecDepth 100000 in
theorem xpk_4_7 : xpk 4 (31, .inl (673, false, 4, 1)) := ⟨rfl, rfl, rfl⟩
set_option maxRecDepth 100000 in
theorem xpk_4_8 : xpk 4 (34, .inl (682, false, 4, 6)) := ⟨rfl, rfl, rfl⟩
set_option maxRecDepth 100000 in
theorem xpk_4_9 : xpk 4 (37, .inr (.inl (742, 0, 43))) := ⟨rfl, rfl, rfl, rfl⟩
set_option maxRecDepth 100000 in
theorem xpk_4_10 : xpk 4 (43, .inr (.inl (743, 3, 117))) := ⟨rfl, rfl, rfl⟩
set_option maxRecDepth 100000 in
theorem xpk_4_11 : xpk 4 (46, .inr (.inl (744, 3, 119))) := ⟨rfl, rfl, rfl⟩
set_option maxRecDepth 100000 in
theorem xpk_4_12 : xpk 4 (49, .inl (689, false, 4, 10)) := ⟨rfl, rfl, rfl⟩
set_option maxRecDepth 100000 in
theorem xpk_4_13 : xpk 4 (52, .inr (.inl (745, 0, 34))) := ⟨rfl, rfl, rfl, rfl⟩
set_option maxRecDepth 100000 in
theorem xpk_4_14 : xpk 4 (56, .inr (.inl (773, 0, 38))) := ⟨rfl, rfl, rfl, rfl⟩
set_option maxRecDepth 100000 in
theorem xpk_4_15 : xpk 4 (60, .inl (687, false, 4, 9)) := ⟨rfl, rfl, rfl⟩
set_option maxRecDepth 100000 in
theorem xpk_4_16 : xpk 4 (63, .inr (.inl (791, 0, 33))) := ⟨rfl, rfl, rfl, rfl⟩
set_option maxRecDepth 100000 in
theorem xpk_4_17 : xpk 4 (66, .inr (.inr (.inr (.inr (795, 31))))) := rfl
set_option maxRecDepth 100000 in
theorem xpk_4_18 : xpk 4 (68, .inl (691, false, 4, 11)) := ⟨rfl, rfl, rfl⟩
set_option maxRecDepth 100000 in
theorem xpk_4_19 : xpk 4 (72, .inr (.inl (782, 0, 30))) := ⟨rfl, rfl, rfl, rfl⟩
set_option maxRecDepth 100000 in
theorem xpk_4_20 : xpk 4 (76, .inr (.inl (749, 3, 118))) := ⟨rfl, rfl, rfl⟩
set_option maxRecDepth 100000 in
theorem xpk_4_21 : xpk 4 (79, .inr (.inl (750, 3, 122))) := ⟨rfl, rfl, rfl⟩
set_option maxRecDepth 100000 in
theorem xpk_4_22 : xpk 4 (82, .inr (.inl (751, 3, 121))) := ⟨rfl, rfl, rfl⟩
set_option maxRecDepth 100000 in
theorem xpk_4_23 : xpk 4 (85, .inr (.inl (752, 0, 36))) := ⟨rfl, rfl, rfl, rfl⟩
set_option maxRecDepth 100000 in
theorem xpk_4_24 : xpk 4 (89, .inr (.inl (764, 0, 37))) := ⟨rfl, rfl, rfl, rfl⟩
set_option maxRecDepth 100000 in
theorem xpk_4_25 : xpk 4 (92, .inr (.inl (769, 3, 120))) := ⟨rfl, rfl, rfl⟩
set_option maxRecDepth 100000 in
theorem xpk_4_26 : xpk 4 (95, .inr (.inl (770, 2, 35))) := ⟨rfl, rfl, rfl⟩
set_option maxRecDepth 100000 in
theorem xpk_4_27 : xpk 4 (99, .inr (.inl (756, 0, 31))) := ⟨rfl, rfl, rfl, rfl⟩
set_option maxRecDepth 100000 in
theorem xpk_4_28 : xpk 4 (103, .inr (.inl (760, 0, 65))) := ⟨rfl, rfl, rfl, rfl⟩
set_option maxRecDepth 100000 in
theorem xpk_4_29 : xpk 4 (108, .inr (.inl (768, 0, 66))) := ⟨rfl, rfl, rfl, rfl⟩
set_option maxRecDepth 100000 in
theorem xpk_4_30 : xpk 4 (112, .inr (.inl (777, 0, 45))) := ⟨rfl, rfl, rfl, rfl⟩
set_option maxRecDepth 100000 in
theorem xpk_4_31 : xpk 4 (116, .inr (.inl (778, 0, 39))) := ⟨rfl, rfl, rfl, rfl⟩
set_option maxRecDepth 100000 in
theorem xpk_4_32 : xpk 4 (120, .inr (.inl (786, 0, 46))) := ⟨rfl, rfl, rfl, rfl⟩
set_option maxRecDepth 100000 in
theorem xpk_4_33 : xpk 4 (124, .inl (423, true, 3, 0)) := ⟨rfl, rfl, rfl⟩
set_option maxRecDepth 100000 in
theorem xpk_4_34 : xpk 4 (127, .inl (425, true, 3, 1)) := ⟨rfl, rfl, rfl⟩
set_option maxRecDepth 100000 in
theorem xpk_4_35 : xpk 4 (131, .inr (.inl (787, 0, 40))) := ⟨rfl, rfl, rfl, rfl⟩
set_option maxRecDepth 100000 in
theorem xpk_4_36 : xpk 4 (134, .inl (678, false, 4, 4)) := ⟨rfl, rfl, rfl⟩
set_option maxRecDepth 100000 in
theorem xpk_4_37 : xpk 4 (137, .inl (248, true, 0, 0)) := ⟨rfl, rfl, rfl⟩
theorem xpk_4 : ∀ e ∈ xpl_4, xpk 4 e := List.forall_mem_cons.mpr ⟨xpk_4_0, List.forall_mem_cons.mpr ⟨xpk_4_1, List.forall_mem_cons.mpr ⟨xpk_4_2, List.forall_mem_cons.mpr ⟨xpk_4_3, List.forall_mem_cons.mpr ⟨xpk_4_4, List.forall_mem_cons.mpr ⟨xpk_4_5, List.forall_mem_cons.mpr ⟨xpk_4_6, List.forall_mem_cons.mpr ⟨xpk_4_7, List.forall_mem_cons.mpr ⟨xpk_4_8, List.forall_mem_cons.mpr ⟨xpk_4_9, List.forall_mem_cons.mpr ⟨xpk_4_10, List.forall_mem_cons.mpr ⟨xpk_4_11, List.forall_mem_cons.mpr ⟨xpk_4_12, List.forall_mem_cons.mpr ⟨xpk_4_13, List.forall_mem_cons.mpr ⟨xpk_4_14, List.forall_mem_cons.mpr ⟨xpk_4_15, List.forall_mem_cons.mpr ⟨xpk_4_16, List.forall_mem_cons.mpr ⟨xpk_4_17, List.forall_mem_cons.mpr ⟨xpk_4_18, List.forall_mem_cons.mpr ⟨xpk_4_19, List.forall_mem_cons.mpr ⟨xpk_4_20, List.forall_mem_cons.mpr ⟨xpk_4_21, List.forall_mem_cons.mpr ⟨xpk_4_22, List.forall_mem_cons.mpr ⟨xpk_4_23, List.forall_mem_cons.mpr ⟨xpk_4_24, List.forall_mem_cons.mpr ⟨xpk_4_25, List.forall_mem_cons.mpr ⟨xpk_4_26, List.forall_mem_cons.mpr ⟨xpk_4_27, List.forall_mem_cons.mpr ⟨xpk_4_28, List.forall_mem_cons.mpr ⟨xpk_4_29, List.forall_mem_cons.mpr ⟨xpk_4_30, List.forall_mem_cons.mpr ⟨xpk_4_31, List.forall_mem_cons.mpr ⟨xpk_4_32, List.forall_mem_cons.mpr ⟨xpk_4_33, List.forall_mem_cons.mpr ⟨xpk_4_34, List.forall_mem_cons.mpr ⟨xpk_4_35, List.forall_mem_cons.mpr ⟨xpk_4_36, List.forall_mem_cons.mpr ⟨xpk_4_37, fun _ h => absurd h List.not_mem_nil⟩⟩⟩⟩⟩⟩⟩⟩⟩⟩⟩⟩⟩⟩⟩⟩⟩⟩⟩⟩⟩⟩⟩⟩⟩⟩⟩⟩⟩⟩⟩⟩⟩⟩⟩⟩⟩⟩
set_option maxRecDepth 100000 in
theorem xpk_5_0 : xpk 5 (3, .inr (.inl (232, 6, 0))) := rfl
set_option maxRecDepth 100000 in
theorem xpk_5_1 : xpk 5 (9, .inl (264, false, 5, 1)) := ⟨rfl, rfl, rfl⟩
set_option maxRecDepth 100000 in
theorem xpk_5_2 : xpk 5 (15, .inr (.inr (.inl (233, 2)))) := rfl
set_option maxRecDepth 100000 in
theorem xpk_5_3 : xpk 5 (17, .inl (265, false, 5, 2)) := ⟨rfl, rfl, rfl⟩
set_option maxRecDepth 100000 in
theorem xpk_5_4 : xpk 5 (21, .inr (.inr (.inl (235, 0)))) := rfl
set_option maxRecDepth 100000 in
theorem xpk_5_5 : xpk 5 (23, .inl (266, false, 5, 3)) := ⟨rfl, rfl, rfl⟩
set_option maxRecDepth 100000 in
theorem xpk_5_6 : xpk 5 (27, .inr (.inr (.inl (237, 3)))) := rfl
set_option maxRecDepth 100000 in
theorem xpk_5_7 : xpk 5 (29, .inl (267, false, 5, 4)) := ⟨rfl, rfl, rfl⟩
set_option maxRecDepth 100000 in
theorem xpk_5_8 : xpk 5 (33, .inl (275, false, 5, 8)) := ⟨rfl, rfl, rfl⟩
set_option maxRecDepth 100000 in
theorem xpk_5_9 : xpk 5 (37, .inl (277, false, 5, 9)) := ⟨rfl, rfl, rfl⟩
set_option maxRecDepth 100000 in
theorem xpk_5_10 : xpk 5 (40, .inl (261, false, 5, 0)) := ⟨rfl, rfl, rfl⟩
set_option maxRecDepth 100000 in
theorem xpk_5_11 : xpk 5 (43, .inr (.inl (240, 4, 0))) := ⟨rfl, rfl, rfl, rfl, rfl⟩
set_option maxRecDepth 100000 in
theorem xpk_5_12 : xpk 5 (46, .inl (271, false, 5, 6)) := ⟨rfl, rfl, rfl⟩
set_option maxRecDepth 100000 in
theorem xpk_5_13 : xpk 5 (49, .inl (269, false, 5, 5)) := ⟨rfl, rfl, rfl⟩
set_option maxRecDepth 100000 in
theorem xpk_5_14 : xpk 5 (52, .inl (273, false, 5, 7)) := ⟨rfl, rfl, rfl⟩
set_option maxRecDepth 100000 in
theorem xpk_5_15 : xpk 5 (55, .inr (.inl (338, 0, 45))) := ⟨rfl, rfl, rfl, rfl⟩
set_option maxRecDepth 100000 in
theorem xpk_5_16 : xpk 5 (59, .inl (247, true, 0, 0)) := ⟨rfl, rfl, rfl⟩
set_option maxRecDepth 100000 in
theorem xpk_5_17 : xpk 5 (62, .inr (.inl (412, 0, 44))) := ⟨rfl, rfl, rfl, rfl⟩
set_option maxRecDepth 100000 in
theorem xpk_5_18 : xpk 5 (66, .inl (354, true, 2, 1)) := ⟨rfl, rfl, rfl⟩
set_option maxRecDepth 100000 in
theorem xpk_5_19 : xpk 5 (69, .inr (.inl (334, 0, 42))) := ⟨rfl, rfl, rfl, rfl⟩
set_option maxRecDepth 100000 in
theorem xpk_5_20 : xpk 5 (73, .inr (.inl (343, 5, 27))) := ⟨rfl, rfl, rfl, rfl, rfl⟩
set_option maxRecDepth 100000 in
theorem xpk_5_21 : xpk 5 (74, .inl (352, true, 2, 0)) := ⟨rfl, rfl, rfl⟩
set_option maxRecDepth 100000 in
theorem xpk_5_22 : xpk 5 (78, .inr (.inl (360, 0, 83))) := ⟨rfl, rfl, rfl, rfl⟩
set_option maxRecDepth 100000 in
theorem xpk_5_23 : xpk 5 (83, .inr (.inl (418, 4, 28))) := ⟨rfl, rfl, rfl, rfl, rfl⟩
set_option maxRecDepth 100000 in
theorem xpk_5_24 : xpk 5 (86, .inr (.inl (624, 0, 54))) := ⟨rfl, rfl, rfl, rfl⟩
set_option maxRecDepth 100000 in
theorem xpk_5_25 : xpk 5 (89, .inl (253, true, 0, 2)) := ⟨rfl, rfl, rfl⟩
set_option maxRecDepth 100000 in
theorem xpk_5_26 : xpk 5 (92, .inr (.inl (628, 0, 55))) := ⟨rfl, rfl, rfl, rfl⟩
set_option maxRecDepth 100000 in
theorem xpk_5_27 : xpk 5 (96, .inr (.inl (632, 0, 56))) := ⟨rfl, rfl, rfl, rfl⟩
set_option maxRecDepth 100000 in
theorem xpk_5_28 : xpk 5 (99, .inr (.inl (639, 2, 185))) := ⟨rfl, rfl, rfl⟩
set_option maxRecDepth 100000 in
theorem xpk_5_29 : xpk 5 (105, .inr (.inl (636, 3, 117))) := ⟨rfl, rfl, rfl⟩
set_option maxRecDepth 100000 in
theorem xpk_5_30 : xpk 5 (108, .inr (.inl (637, 3, 121))) := ⟨rfl, rfl, rfl⟩
set_option maxRecDepth 100000 in
theorem xpk_5_31 : xpk 5 (111, .inr (.inl (638, 0, 46))) := ⟨rfl, rfl, rfl, rfl⟩
set_option maxRecDepth 100000 in
theorem xpk_5_32 : xpk 5 (115, .inl (426, true, 3, 1)) := ⟨rfl, rfl, rfl⟩
theorem xpk_5 : ∀ e ∈ xpl_5, xpk 5 e := List.forall_mem_cons.mpr ⟨xpk_5_0, List.forall_mem_cons.mpr ⟨xpk_5_1, List.forall_mem_cons.mpr ⟨xpk_5_2, List.forall_mem_cons.mpr ⟨xpk_5_3, List.forall_mem_cons.mpr ⟨xpk_5_4, List.forall_mem_cons.mpr ⟨xpk_5_5, List.forall_mem_cons.mpr ⟨xpk_5_6, List.forall_mem_cons.mpr ⟨xpk_5_7, List.forall_mem_cons.mpr ⟨xpk_5_8, List.forall_mem_cons.mpr ⟨xpk_5_9, List.forall_mem_cons.mpr ⟨xpk_5_10, List.forall_mem_cons.mpr ⟨xpk_5_11, List.forall_mem_cons.mpr ⟨xpk_5_12, List.forall_mem_cons.mpr ⟨xpk_5_13, List.forall_mem_cons.mpr ⟨xpk_5_14, List.forall_mem_cons.mpr ⟨xpk_5_15, List.forall_mem_cons.mpr ⟨xpk_5_16, List.forall_mem_cons.mpr ⟨xpk_5_17, List.forall_mem_cons.mpr ⟨xpk_5_18, List.forall_mem_cons.mpr ⟨xpk_5_19, List.forall_mem_cons.mpr ⟨xpk_5_20, List.forall_mem_cons.mpr ⟨xpk_5_21, List.forall_mem_cons.mpr ⟨xpk_5_22, List.forall_mem_cons.mpr ⟨xpk_5_23, List.forall_mem_cons.mpr ⟨xpk_5_24, List.forall_mem_cons.mpr ⟨xpk_5_25, List.forall_mem_cons.mpr ⟨xpk_5_26, List.forall_mem_cons.mpr ⟨xpk_5_27, List.forall_mem_cons.mpr ⟨xpk_5_28, List.forall_mem_cons.mpr ⟨xpk_5_29, List.forall_mem_cons.mpr ⟨xpk_5_30, List.forall_mem_cons.mpr ⟨xpk_5_31, List.forall_mem_cons.mpr ⟨xpk_5_32, fun _ h => absurd h List.not_mem_nil⟩⟩⟩⟩⟩⟩⟩⟩⟩⟩⟩⟩⟩⟩⟩⟩⟩⟩⟩⟩⟩⟩⟩⟩⟩⟩⟩⟩⟩⟩⟩⟩⟩
set_option maxRecDepth 100000 in
theorem xpk_6_0 : xpk 6 (3, .inr (.inl (175, 6, 0))) := rfl
set_option maxRecDepth 100000 in
theorem xpk_6_1 : xpk 6 (9, .inl (176, false, 6, 0)) := ⟨rfl, rfl, rfl⟩
set_option maxRecDepth 100000 in
theorem xpk_6_2 : xpk 6 (15, .inl (177, false, 6, 1)) := ⟨rfl, rfl, rfl⟩
set_option maxRecDepth 100000 in
theorem xpk_6_3 : xpk 6 (19, .inl (178, false, 6, 2)) := ⟨rfl, rfl, rfl⟩
set_option maxRecDepth 100000 in
theorem xpk_6_4 : xpk 6 (22, .inr (.inl (722, 0, 58))) := ⟨rfl, rfl, rfl, rfl⟩
set_option maxRecDepth 100000 in
theorem xpk_6_5 : xpk 6 (26, .inr (.inl (804, 0, 59))) := ⟨rfl, rfl, rfl, rfl⟩
theorem xpk_6 : ∀ e ∈ xpl_6, xpk 6 e := List.forall_mem_cons.mpr ⟨xpk_6_0, List.forall_mem_cons.mpr ⟨xpk_6_1, List.forall_mem_cons.mpr ⟨xpk_6_2, List.forall_mem_cons.mpr ⟨xpk_6_3, List.forall_mem_cons.mpr ⟨xpk_6_4, List.forall_mem_cons.mpr ⟨xpk_6_5, fun _ h => absurd h List.not_mem_nil⟩⟩⟩⟩⟩⟩
set_option maxRecDepth 100000 in
theorem xpk_7_0 : xpk 7 (3, .inr (.inl (156, 6, 0))) := rfl
set_option maxRecDepth 100000 in
theorem xpk_7_1 : xpk 7 (9, .inl (157, false, 7, 0)) := ⟨rfl, rfl, rfl⟩
set_option maxRecDepth 100000 in
theorem xpk_7_2 : xpk 7 (15, .inl (158, false, 7, 1)) := ⟨rfl, rfl, rfl⟩
set_option maxRecDepth 100000 in
theorem xpk_7_3 : xpk 7 (18, .inl (159, false, 7, 2)) := ⟨rfl, rfl, rfl⟩
set_option maxRecDepth 100000 in
theorem xpk_7_4 : xpk 7 (21, .inl (160, false, 7, 3)) := ⟨rfl, rfl, rfl⟩
set_option maxRecDepth 100000 in
theorem xpk_7_5 : xpk 7 (25, .inr (.inl (654, 0, 67))) := ⟨rfl, rfl, rfl, rfl⟩
set_option maxRecDepth 100000 in
theorem xpk_7_6 : xpk 7 (29, .inr (.inl (650, 0, 68))) := ⟨rfl, rfl, rfl, rfl⟩
set_option maxRecDepth 100000 in
theorem xpk_7_7 : xpk 7 (32, .inr (.inl (996, 2, 185))) := ⟨rfl, rfl, rfl⟩
set_option maxRecDepth 100000 in
theorem xpk_7_8 : xpk 7 (38, .inr (.inl (662, 0, 66))) := ⟨rfl, rfl, rfl, rfl⟩
theorem xpk_7 : ∀ e ∈ xpl_7, xpk 7 e := List.forall_mem_cons.mpr ⟨xpk_7_0, List.forall_mem_cons.mpr ⟨xpk_7_1, List.forall_mem_cons.mpr ⟨xpk_7_2, List.forall_mem_cons.mpr ⟨xpk_7_3, List.forall_mem_cons.mpr ⟨xpk_7_4, List.forall_mem_cons.mpr ⟨xpk_7_5, List.forall_mem_cons.mpr ⟨xpk_7_6, List.forall_mem_cons.mpr ⟨xpk_7_7, List.forall_mem_cons.mpr ⟨xpk_7_8, fun _ h => absurd h List.not_mem_nil⟩⟩⟩⟩⟩⟩⟩⟩⟩
set_option maxRecDepth 100000 in
theorem xpk_8_0 : xpk 8 (3, .inr (.inl (109, 6, 0))) := rfl
set_option maxRecDepth 100000 in
theorem xpk_8_1 : xpk 8 (9, .inl (110, false, 8, 0)) := ⟨rfl, rfl, rfl⟩
set_option maxRecDepth 100000 in
theorem xpk_8_2 : xpk 8 (15, .inl (111, false, 8, 1)) := ⟨rfl, rfl, rfl⟩
set_option maxRecDepth 100000 in
theorem xpk_8_3 : xpk 8 (18, .inl (112, false, 8, 2)) := ⟨rfl, rfl, rfl⟩
set_option maxRecDepth 100000 in
theorem xpk_8_4 : xpk 8 (23, .inr (.inr (.inr (.inr (523, -2147483648))))) := rfl
set_option maxRecDepth 100000 in
theorem xpk_8_5 : xpk 8 (25, .inr (.inr (.inr (.inr (524, 2147483647))))) := rfl
set_option maxRecDepth 100000 in
theorem xpk_8_6 : xpk 8 (27, .inr (.inr (.inr (.inl (525, -2147483648))))) := rfl
set_option maxRecDepth 100000 in
theorem xpk_8_7 : xpk 8 (28, .inr (.inr (.inr (.inl (526, 2147483647))))) := rfl
set_option maxRecDepth 100000 in
theorem xpk_8_8 : xpk 8 (29, .inr (.inl (364, 0, 80))) := ⟨rfl, rfl, rfl, rfl⟩
theorem xpk_8 : ∀ e ∈ xpl_8, xpk 8 e := List.forall_mem_cons.mpr ⟨xpk_8_0, List.forall_mem_cons.mpr ⟨xpk_8_1, List.forall_mem_cons.mpr ⟨xpk_8_2, List.forall_mem_cons.mpr ⟨xpk_8_3, List.forall_mem_cons.mpr ⟨xpk_8_4, List.forall_mem_cons.mpr ⟨xpk_8_5, List.forall_mem_cons.mpr ⟨xpk_8_6, List.forall_mem_cons.mpr ⟨xpk_8_7, List.forall_mem_cons.mpr ⟨xpk_8_8, fun _ h => absurd h List.not_mem_nil⟩⟩⟩⟩⟩⟩⟩⟩⟩
set_option maxRecDepth 100000 in
theorem xpk_9_0 : xpk 9 (3, .inr (.inl (93, 6, 0))) := rfl
set_option maxRecDepth 100000 in
theorem xpk_9_1 : xpk 9 (9, .inr (.inr (.inl (96, 5)))) := rfl
set_option maxRecDepth 100000 in
theorem xpk_9_2 : xpk 9 (11, .inl (187, false, 9, 0)) := ⟨rfl, rfl, rfl⟩
set_option maxRecDepth 100000 in
theorem xpk_9_3 : xpk 9 (15, .inr (.inr (.inl (98, 1)))) := rfl
set_option maxRecDepth 100000 in
theorem xpk_9_4 : xpk 9 (17, .inr (.inl (100, 5, 1))) := ⟨rfl, rfl, rfl, rfl, rfl⟩
set_option maxRecDepth 100000 in
theorem xpk_9_5 : xpk 9 (18, .inl (191, false, 9, 4)) := ⟨rfl, rfl, rfl⟩
set_option maxRecDepth 100000 in
theorem xpk_9_6 : xpk 9 (22, .inr (.inr (.inl (149, 4)))) := rfl
set_option maxRecDepth 100000 in
theorem xpk_9_7 : xpk 9 (24, .inl (192, false, 9, 5)) := ⟨rfl, rfl, rfl⟩
set_option maxRecDepth 100000 in
theorem xpk_9_8 : xpk 9 (28, .inr (.inr (.inl (151, 7)))) := rfl
set_option maxRecDepth 100000 in
theorem xpk_9_9 : xpk 9 (30, .inr (.inl (153, 5, 64))) := ⟨rfl, rfl, rfl, rfl, rfl⟩
set_option maxRecDepth 100000 in
theorem xpk_9_10 : xpk 9 (31, .inl (194, false, 9, 7)) := ⟨rfl, rfl, rfl⟩
set_option maxRecDepth 100000 in
theorem xpk_9_11 : xpk 9 (35, .inr (.inr (.inl (170, 6)))) := rfl
set_option maxRecDepth 100000 in
theorem xpk_9_12 : xpk 9 (37, .inr (.inl (172, 5, 57))) := ⟨rfl, rfl, rfl, rfl, rfl⟩
set_option maxRecDepth 100000 in
theorem xpk_9_13 : xpk 9 (38, .inl (195, false, 9, 8)) := ⟨rfl, rfl, rfl⟩
set_option maxRecDepth 100000 in
theorem xpk_9_14 : xpk 9 (42, .inl (196, false, 9, 9)) := ⟨rfl, rfl, rfl⟩
set_option maxRecDepth 100000 in
theorem xpk_9_15 : xpk 9 (46, .inl (189, false, 9, 2)) := ⟨rfl, rfl, rfl⟩
set_option maxRecDepth 100000 in
theorem xpk_9_16 : xpk 9 (50, .inl (188, false, 9, 1)) := ⟨rfl, rfl, rfl⟩
set_option maxRecDepth 100000 in
theorem xpk_9_17 : xpk 9 (53, .inr (.inl (229, 4, 41))) := ⟨rfl, rfl, rfl, rfl, rfl⟩
set_option maxRecDepth 100000 in
theorem xpk_9_18 : xpk 9 (56, .inl (190, false, 9, 3)) := ⟨rfl, rfl, rfl⟩
set_option maxRecDepth 100000 in
theorem xpk_9_19 : xpk 9 (59, .inr (.inl (304, 2, 114))) := ⟨rfl, rfl, rfl⟩
set_option maxRecDepth 100000 in
theorem xpk_9_20 : xpk 9 (63, .inr (.inl (322, 0, 48))) := ⟨rfl, rfl, rfl, rfl⟩
set_option maxRecDepth 100000 in
theorem xpk_9_21 : xpk 9 (67, .inr (.inl (330, 0, 49))) := ⟨rfl, rfl, rfl, rfl⟩
set_option maxRecDepth 100000 in
theorem xpk_9_22 : xpk 9 (71, .inr (.inl (372, 2, 113))) := ⟨rfl, rfl, rfl⟩
set_option maxRecDepth 100000 in
theorem xpk_9_23 : xpk 9 (75, .inr (.inl (378, 0, 44))) := ⟨rfl, rfl, rfl, rfl⟩
set_option maxRecDepth 100000 in
theorem xpk_9_24 : xpk 9 (79, .inl (351, true, 2, 0)) := ⟨rfl, rfl, rfl⟩
set_option maxRecDepth 100000 in
theorem xpk_9_25 : xpk 9 (85, .inr (.inl (382, 0, 80))) := ⟨rfl, rfl, rfl, rfl⟩
set_option maxRecDepth 100000 in
theorem xpk_9_26 : xpk 9 (91, .inr (.inl (387, 0, 50))) := ⟨rfl, rfl, rfl, rfl⟩
set_option maxRecDepth 100000 in
theorem xpk_9_27 : xpk 9 (94, .inr (.inl (395, 0, 45))) := ⟨rfl, rfl, rfl, rfl⟩
set_option maxRecDepth 100000 in
theorem xpk_9_28 : xpk 9 (98, .inl (250, true, 0, 1)) := ⟨rfl, rfl, rfl⟩
set_option maxRecDepth 100000 in
theorem xpk_9_29 : xpk 9 (103, .inr (.inl (400, 0, 109))) := ⟨rfl, rfl, rfl, rfl⟩
set_option maxRecDepth 100000 in
theorem xpk_9_30 : xpk 9 (107, .inl (263, true, 5, 0)) := ⟨rfl, rfl, rfl⟩
set_option maxRecDepth 100000 in
theorem xpk_9_31 : xpk 9 (110, .inr (.inl (408, 0, 47))) := ⟨rfl, rfl, rfl, rfl⟩
set_option maxRecDepth 100000 in
theorem xpk_9_32 : xpk 9 (113, .inl (252, true, 0, 2)) := ⟨rfl, rfl, rfl⟩
set_option maxRecDepth 100000 in
theorem xpk_9_33 : xpk 9 (116, .inr (.inl (413, 0, 51))) := ⟨rfl, rfl, rfl, rfl⟩
set_option maxRecDepth 100000 in
theorem xpk_9_34 : xpk 9 (120, .inr (.inl (441, 0, 2))) := ⟨rfl, rfl, rfl, rfl⟩
set_option maxRecDepth 100000 in
theorem xpk_9_35 : xpk 9 (124, .inr (.inl (620, 0, 52))) := ⟨rfl, rfl, rfl, rfl⟩
set_option maxRecDepth 100000 in
theorem xpk_9_36 : xpk 9 (127, .inr (.inl (404, 0, 108))) := ⟨rfl, rfl, rfl, rfl⟩
set_option maxRecDepth 100000 in
theorem xpk_9_37 : xpk 9 (130, .inr (.inr (.inl (829, 100)))) := rfl
set_option maxRecDepth 100000 in
theorem xpk_9_38 : xpk 9 (137, .inl (276, true, 5, 8)) := ⟨rfl, rfl, rfl⟩
set_option maxRecDepth 100000 in
theorem xpk_9_39 : xpk 9 (140, .inl (270, true, 5, 5)) := ⟨rfl, rfl, rfl⟩
set_option maxRecDepth 100000 in
theorem xpk_9_40 : xpk 9 (141, .inl (272, true, 5, 6)) := ⟨rfl, rfl, rfl⟩
set_option maxRecDepth 100000 in
theorem xpk_9_41 : xpk 9 (144, .inl (274, true, 5, 7)) := ⟨rfl, rfl, rfl⟩
set_option maxRecDepth 100000 in
theorem xpk_9_42 : xpk 9 (147, .inl (278, true, 5, 9)) := ⟨rfl, rfl, rfl⟩
set_option maxRecDepth 100000 in
theorem xpk_9_43 : xpk 9 (150, .inr (.inl (896, 0, 53))) := ⟨rfl, rfl, rfl, rfl⟩
set_option maxRecDepth 100000 in
theorem xpk_9_44 : xpk 9 (155, .inr (.inl (646, 0, 69))) := ⟨rfl, rfl, rfl, rfl⟩
set_option maxRecDepth 100000 in
theorem xpk_9_45 : xpk 9 (158, .inl (179, true, 6, 2)) := ⟨rfl, rfl, rfl⟩
set_option maxRecDepth 100000 in
theorem xpk_9_46 : xpk 9 (161, .inl (193, false, 9, 6)) := ⟨rfl, rfl, rfl⟩
set_option maxRecDepth 100000 in
theorem xpk_9_47 : xpk 9 (164, .inr (.inl (658, 0, 73))) := ⟨rfl, rfl, rfl, rfl⟩
set_option maxRecDepth 100000 in
theorem xpk_9_48 : xpk 9 (168, .inr (.inl (667, 4, 29))) := ⟨rfl, rfl, rfl, rfl, rfl⟩
set_option maxRecDepth 100000 in
theorem xpk_9_49 : xpk 9 (171, .inr (.inl (718, 0, 61))) := ⟨rfl, rfl, rfl, rfl⟩
set_option maxRecDepth 100000 in
theorem xpk_9_50 : xpk 9 (174, .inr (.inl (730, 0, 59))) := ⟨rfl, rfl, rfl, rfl⟩
set_option maxRecDepth 100000 in
theorem xpk_9_51 : xpk 9 (177, .inr (.inl (734, 0, 110))) := ⟨rfl, rfl, rfl, rfl⟩
set_option maxRecDepth 100000 in
theorem xpk_9_52 : xpk 9 (181, .inl (681, true, 4, 5)) := ⟨rfl, rfl, rfl⟩
set_option maxRecDepth 100000 in
theorem xpk_9_53 : xpk 9 (184, .inr (.inl (738, 0, 32))) := ⟨rfl, rfl, rfl, rfl⟩
set_option maxRecDepth 100000 in
theorem xpk_9_54 : xpk 9 (188, .inl (198, false, 9, 11)) := ⟨rfl, rfl, rfl⟩
set_option maxRecDepth 100000 in
theorem xpk_9_55 : xpk 9 (191, .inl (197, false, 9, 10)) := ⟨rfl, rfl, rfl⟩
set_option maxRecDepth 100000 in
theorem xpk_9_56 : xpk 9 (194, .inr (.inl (796, 0, 111))) := ⟨rfl, rfl, rfl, rfl⟩
set_option maxRecDepth 100000 in
theorem xpk_9_57 : xpk 9 (198, .inr (.inl (809, 0, 62))) := ⟨rfl, rfl, rfl, rfl⟩
set_option maxRecDepth 100000 in
theorem xpk_9_58 : xpk 9 (201, .inr (.inr (.inl (909, 101)))) := rfl
set_option maxRecDepth 100000 in
theorem xpk_9_59 : xpk 9 (206, .inr (.inl (925, 0, 98))) := ⟨rfl, rfl, rfl, rfl⟩
set_option maxRecDepth 100000 in
theorem xpk_9_60 : xpk 9 (211, .inl (686, true, 4, 8)) := ⟨rfl, rfl, rfl⟩
set_option maxRecDepth 100000 in
theorem xpk_9_61 : xpk 9 (212, .inr (.inl (817, 0, 60))) := ⟨rfl, rfl, rfl, rfl⟩
set_option maxRecDepth 100000 in
theorem xpk_9_62 : xpk 9 (217, .inl (672, true, 4, 0)) := ⟨rfl, rfl, rfl⟩
set_option maxRecDepth 100000 in
theorem xpk_9_63 : xpk 9 (220, .inr (.inl (942, 0, 30))) := ⟨rfl, rfl, rfl, rfl⟩
set_option maxRecDepth 100000 in
theorem xpk_9_64 : xpk 9 (223, .inl (688, true, 4, 9)) := ⟨rfl, rfl, rfl⟩
set_option maxRecDepth 100000 in
theorem xpk_9_65 : xpk 9 (226, .inl (679, true, 4, 4)) := ⟨rfl, rfl, rfl⟩
set_option maxRecDepth 100000 in
theorem xpk_9_66 : xpk 9 (229, .inl (684, true, 4, 7)) := ⟨rfl, rfl, rfl⟩
set_option maxRecDepth 100000 in
theorem xpk_9_67 : xpk 9 (232, .inl (674, true, 4, 1)) := ⟨rfl, rfl, rfl⟩
set_option maxRecDepth 100000 in
theorem xpk_9_68 : xpk 9 (233, .inl (690, true, 4, 10)) := ⟨rfl, rfl, rfl⟩
set_option maxRecDepth 100000 in
theorem xpk_9_69 : xpk 9 (238, .inr (.inl (375, 2, 112))) := ⟨rfl, rfl, rfl⟩
set_option maxRecDepth 100000 in
theorem xpk_9_70 : xpk 9 (243, .inl (676, true, 4, 2)) := ⟨rfl, rfl, rfl⟩
set_option maxRecDepth 100000 in
theorem xpk_9_71 : xpk 9 (247, .inl (692, true, 4, 11)) := ⟨rfl, rfl, rfl⟩
set_option maxRecDepth 100000 in
theorem xpk_9_72 : xpk 9 (251, .inr (.inl (966, 0, 31))) := ⟨rfl, rfl, rfl, rfl⟩
set_option maxRecDepth 100000 in
theorem xpk_9_73 : xpk 9 (256, .inr (.inl (968, 0, 65))) := ⟨rfl, rfl, rfl, rfl⟩
set_option maxRecDepth 100000 in
theorem xpk_9_74 : xpk 9 (261, .inr (.inl (984, 0, 70))) := ⟨rfl, rfl, rfl, rfl⟩
set_option maxRecDepth 100000 in
theorem xpk_9_75 : xpk 9 (264, .inr (.inl (988, 0, 71))) := ⟨rfl, rfl, rfl, rfl⟩
set_option maxRecDepth 100000 in
theorem xpk_9_76 : xpk 9 (267, .inr (.inl (992, 0, 72))) := ⟨rfl, rfl, rfl, rfl⟩
set_option maxRecDepth 100000 in
theorem xpk_9_77 : xpk 9 (272, .inr (.inl (800, 0, 63))) := ⟨rfl, rfl, rfl, rfl⟩
set_option maxRecDepth 100000 in
theorem xpk_9_78 : xpk 9 (275, .inr (.inl (805, 0, 74))) := ⟨rfl, rfl, rfl, rfl⟩
set_option maxRecDepth 100000 in
theorem xpk_9_79 : xpk 9 (278, .inr (.inl (307, 2, 117))) := ⟨rfl, rfl, rfl⟩
set_option maxRecDepth 100000 in
theorem xpk_9_80 : xpk 9 (281, .inl (310, false, 99, 0)) := rfl
set_option maxRecDepth 100000 in
theorem xpk_9_81 : xpk 9 (284, .inr (.inl (312, 2, 115))) := ⟨rfl, rfl, rfl⟩
set_option maxRecDepth 100000 in
theorem xpk_9_82 : xpk 9 (288, .inr (.inl (315, 2, 121))) := ⟨rfl, rfl, rfl⟩
set_option maxRecDepth 100000 in
theorem xpk_9_83 : xpk 9 (291, .inr (.inl (319, 2, 116))) := ⟨rfl, rfl, rfl⟩
set_option maxRecDepth 100000 in
theorem xpk_9_84 : xpk 9 (295, .inr (.inr (.inr (.inl (318, 65535))))) := rfl
theorem xpk_9 : ∀ e ∈ xpl_9, xpk 9 e := List.forall_mem_cons.mpr ⟨xpk_9_0, List.forall_mem_cons.mpr ⟨xpk_9_1, List.forall_mem_cons.mpr ⟨xpk_9_2, List.forall_mem_cons.mpr ⟨xpk_9_3, List.forall_mem_cons.mpr ⟨xpk_9_4, List.forall_mem_cons.mpr ⟨xpk_9_5, List.forall_mem_cons.mpr ⟨xpk_9_6, List.forall_mem_cons.mpr ⟨xpk_9_7, List.forall_mem_cons.mpr ⟨xpk_9_8, List.forall_mem_cons.mpr ⟨xpk_9_9, List.forall_mem_cons.mpr ⟨xpk_9_10, List.forall_mem_cons.mpr ⟨xpk_9_11, List.forall_mem_cons.mpr ⟨xpk_9_12, List.forall_mem_cons.mpr ⟨xpk_9_13, List.forall_mem_cons.mpr ⟨xpk_9_14, List.forall_mem_cons.mpr ⟨xpk_9_15, List.forall_mem_cons.mpr ⟨xpk_9_16, List.forall_mem_cons.mpr ⟨xpk_9_17, List.forall_mem_cons.mpr ⟨xpk_9_18, List.forall_mem_cons.mpr ⟨xpk_9_19, List.forall_mem_cons.mpr ⟨xpk_9_20, List.forall_mem_cons.mpr ⟨xpk_9_21, List.forall_mem_cons.mpr ⟨xpk_9_22, List.forall_mem_cons.mpr ⟨xpk_9_23, List.forall_mem_cons.mpr ⟨xpk_9_24, List.forall_mem_cons.mpr ⟨xpk_9_25, List.forall_mem_cons.mpr ⟨xpk_9_26, List.forall_mem_cons.mpr ⟨xpk_9_27, List.forall_mem_cons.mpr ⟨xpk_9_28, List.forall_mem_cons.mpr ⟨xpk_9_29, List.forall_mem_cons.mpr ⟨xpk_9_30, List.forall_mem_cons.mpr ⟨xpk_9_31, List.forall_mem_cons.mpr ⟨xpk_9_32, List.forall_mem_cons.mpr ⟨xpk_9_33, List.forall_mem_cons.mpr ⟨xpk_9_34, List.forall_mem_cons.mpr ⟨xpk_9_35, List.forall_mem_cons.mpr ⟨xpk_9_36, List.forall_mem_cons.mpr ⟨xpk_9_37, List.forall_mem_cons.mpr ⟨xpk_9_38, List.forall_mem_cons.mpr ⟨xpk_9_39, List.forall_mem_cons.mpr ⟨xpk_9_40, List.forall_mem_cons.mpr ⟨xpk_9_41, List.forall_mem_cons.mpr ⟨xpk_9_42, List.forall_mem_cons.mpr ⟨xpk_9_43, List.forall_mem_cons.mpr ⟨xpk_9_44, List.forall_mem_cons.mpr ⟨xpk_9_45, List.forall_mem_cons.mpr ⟨xpk_9_46, List.forall_mem_cons.mpr ⟨xpk_9_47, List.forall_mem_cons.mpr ⟨xpk_9_48, List.forall_mem_cons.mpr ⟨xpk_9_49, List.forall_mem_cons.mpr ⟨xpk_9_50, List.forall_mem_cons.mpr ⟨xpk_9_51, List.forall_mem_cons.mpr ⟨xpk_9_52, List.forall_mem_cons.mpr ⟨xpk_9_53, List.forall_mem_cons.mpr ⟨xpk_9_54, List.forall_mem_cons.mpr ⟨xpk_9_55, List.forall_mem_cons.mpr ⟨xpk_9_56, List.forall_mem_cons.mpr ⟨xpk_9_57, List.forall_mem_cons.mpr ⟨xpk_9_58, List.forall_mem_cons.mpr ⟨xpk_9_59, List.forall_mem_cons.mpr ⟨xpk_9_60, List.forall_mem_cons.mpr ⟨xpk_9_61, List.forall_mem_cons.mpr ⟨xpk_9_62, List.forall_mem_cons.mpr ⟨xpk_9_63, List.forall_mem_cons.mpr ⟨xpk_9_64, List.forall_mem_cons.mpr ⟨xpk_9_65, List.forall_mem_cons.mpr ⟨xpk_9_66, List.forall_mem_cons.mpr ⟨xpk_9_67, List.forall_mem_cons.mpr ⟨xpk_9_68, List.forall_mem_cons.mpr ⟨xpk_9_69, List.forall_mem_cons.mpr ⟨xpk_9_70, List.forall_mem_cons.mpr ⟨xpk_9_71, List.forall_mem_cons.mpr ⟨xpk_9_72, List.forall_mem_cons.mpr ⟨xpk_9_73, List.forall_mem_cons.mpr ⟨xpk_9_74, List.forall_mem_cons.mpr ⟨xpk_9_75, List.forall_mem_cons.mpr ⟨xpk_9_76, List.forall_mem_cons.mpr ⟨xpk_9_77, List.forall_mem_cons.mpr ⟨xpk_9_78, List.forall_mem_cons.mpr ⟨xpk_9_79, List.forall_mem_cons.mpr ⟨xpk_9_80, List.forall_mem_cons.mpr ⟨xpk_9_81, List.forall_mem_cons.mpr ⟨xpk_9_82, List.forall_mem_cons.mpr ⟨xpk_9_83, List.forall_mem_cons.mpr ⟨xpk_9_84, fun _ h => absurd h List.not_mem_nil⟩⟩⟩⟩⟩⟩⟩⟩⟩⟩⟩⟩⟩⟩⟩⟩⟩⟩⟩⟩⟩⟩⟩⟩⟩⟩⟩⟩⟩⟩⟩⟩⟩⟩⟩⟩⟩⟩⟩⟩⟩⟩⟩⟩⟩⟩⟩⟩⟩⟩⟩⟩⟩⟩⟩⟩⟩⟩⟩⟩⟩⟩⟩⟩⟩⟩⟩⟩⟩⟩⟩⟩⟩⟩⟩⟩⟩⟩⟩⟩⟩⟩⟩⟩⟩
set_option maxRecDepth 100000 in
theorem xpk_10_0 : xpk 10 (1, .inr (.inl (1003, 6, 0))) := rfl
set_option maxRecDepth 100000 in
theorem xpk_10_1 : xpk 10 (7, .inl (1005, false, 10, 0)) := ⟨rfl, rfl, rfl⟩
set_option maxRecDepth 100000 in
theorem xpk_10_2 : xpk 10 (13, .inl (1006, false, 10, 1)) := ⟨rfl, rfl, rfl⟩
set_option maxRecDepth 100000 in
theorem xpk_10_3 : xpk 10 (16, .inl (1010, false, 10, 5)) := ⟨rfl, rfl, rfl⟩
set_option maxRecDepth 100000 in
theorem xpk_10_4 : xpk 10 (20, .inl (1011, false, 10, 6)) := ⟨rfl, rfl, rfl⟩
set_option maxRecDepth 100000 in
theorem xpk_10_5 : xpk 10 (23, .inl (1012, false, 10, 7)) := ⟨rfl, rfl, rfl⟩
set_option maxRecDepth 100000 in
theorem xpk_10_6 : xpk 10 (26, .inl (1013, false, 10, 8)) := ⟨rfl, rfl, rfl⟩
set_option maxRecDepth 100000 in
theorem xpk_10_7 : xpk 10 (29, .inl (1014, false, 10, 9)) := ⟨rfl, rfl, rfl⟩
set_option maxRecDepth 100000 in
theorem xpk_10_8 : xpk 10 (32, .inl (1015, false, 10, 10)) := ⟨rfl, rfl, rfl⟩
set_option maxRecDepth 100000 in
theorem xpk_10_9 : xpk 10 (35, .inl (1016, false, 10, 11)) := ⟨rfl, rfl, rfl⟩
set_option maxRecDepth 100000 in
theorem xpk_10_10 : xpk 10 (38, .inl (1017, false, 10, 12)) := ⟨rfl, rfl, rfl⟩
set_option maxRecDepth 100000 in
theorem xpk_10_11 : xpk 10 (41, .inl (1018, false, 10, 13)) := ⟨rfl, rfl, rfl⟩
set_option maxRecDepth 100000 in
theorem xpk_10_12 : xpk 10 (44, .inr (.inr (.inr (.inl (1004, 38400))))) := rfl
set_option maxRecDepth 100000 in
theorem xpk_10_13 : xpk 10 (45, .inl (1019, false, 10, 14)) := ⟨rfl, rfl, rfl⟩
set_option maxRecDepth 100000 in
theorem xpk_10_14 : xpk 10 (48, .inl (1020, false, 10, 15)) := ⟨rfl, rfl, rfl⟩
set_option maxRecDepth 100000 in
theorem xpk_10_15 : xpk 10 (51, .inl (1021, false, 10, 16)) := ⟨rfl, rfl, rfl⟩
set_option maxRecDepth 100000 in
theorem xpk_10_16 : xpk 10 (54, .inl (1022, false, 10, 17)) := ⟨rfl, rfl, rfl⟩
set_option maxRecDepth 100000 in
theorem xpk_10_17 : xpk 10 (57, .inl (1023, false, 10, 18)) := ⟨rfl, rfl, rfl⟩
set_option maxRecDepth 100000 in
theorem xpk_10_18 : xpk 10 (60, .inl (1024, false, 10, 19)) := ⟨rfl, rfl, rfl⟩
set_option maxRecDepth 100000 in
theorem xpk_10_19 : xpk 10 (63, .inl (1025, false, 10, 20)) := ⟨rfl, rfl, rfl⟩
set_option maxRecDepth 100000 in
theorem xpk_10_20 : xpk 10 (66, .inl (1026, false, 10, 21)) := ⟨rfl, rfl, rfl⟩
set_option maxRecDepth 100000 in
theorem xpk_10_21 : xpk 10 (69, .inl (1027, false, 10, 22)) := ⟨rfl, rfl, rfl⟩
set_option maxRecDepth 100000 in
theorem xpk_10_22 : xpk 10 (72, .inl (1028, false, 10, 23)) := ⟨rfl, rfl, rfl⟩
set_option maxRecDepth 100000 in
theorem xpk_10_23 : xpk 10 (75, .inl (1029, false, 10, 24)) := ⟨rfl, rfl, rfl⟩
set_option maxRecDepth 100000 in
theorem xpk_10_24 : xpk 10 (78, .inl (1030, false, 10, 25)) := ⟨rfl, rfl, rfl⟩
set_option maxRecDepth 100000 in
theorem xpk_10_25 : xpk 10 (81, .inl (1031, false, 10, 26)) := ⟨rfl, rfl, rfl⟩
set_option maxRecDepth 100000 in
theorem xpk_10_26 : xpk 10 (84, .inl (1040, false, 10, 35)) := ⟨rfl, rfl, rfl⟩
set_option maxRecDepth 100000 in
theorem xpk_10_27 : xpk 10 (87, .inl (1041, false, 10, 36)) := ⟨rfl, rfl, rfl⟩
set_option maxRecDepth 100000 in
theorem xpk_10_28 : xpk 10 (90, .inl (1042, false, 10, 37)) := ⟨rfl, rfl, rfl⟩
set_option maxRecDepth 100000 in
theorem xpk_10_29 : xpk 10 (93, .inl (1043, false, 10, 38)) := ⟨rfl, rfl, rfl⟩
set_option maxRecDepth 100000 in
theorem xpk_10_30 : xpk 10 (96, .inl (1044, false, 10, 39)) := ⟨rfl, rfl, rfl⟩
set_option maxRecDepth 100000 in
theorem xpk_10_31 : xpk 10 (99, .inl (1045, false, 10, 40)) := ⟨rfl, rfl, rfl⟩
set_option maxRecDepth 100000 in
theorem xpk_10_32 : xpk 10 (102, .inl (1046, false, 10, 41)) := ⟨rfl, rfl, rfl⟩
set_option maxRecDepth 100000 in
theorem xpk_10_33 : xpk 10 (105, .inl (1047, false, 10, 42)) := ⟨rfl, rfl, rfl⟩
set_option maxRecDepth 100000 in
theorem xpk_10_34 : xpk 10 (108, .inl (1048, false, 10, 43)) := ⟨rfl, rfl, rfl⟩
set_option maxRecDepth 100000 in
theorem xpk_10_35 : xpk 10 (111, .inl (1049, false, 10, 44)) := ⟨rfl, rfl, rfl⟩
set_option maxRecDepth 100000 in
theorem xpk_10_36 : xpk 10 (114, .inl (1050, false, 10, 45)) := ⟨rfl, rfl, rfl⟩
set_option maxRecDepth 100000 in
theorem xpk_10_37 : xpk 10 (117, .inl (1051, false, 10, 46)) := ⟨rfl, rfl, rfl⟩
set_option maxRecDepth 100000 in
theorem xpk_10_38 : xpk 10 (121, .inl (1052, false, 10, 47)) := ⟨rfl, rfl, rfl⟩
set_option maxRecDepth 100000 in
theorem xpk_10_39 : xpk 10 (124, .inl (1053, false, 10, 48)) := ⟨rfl, rfl, rfl⟩
set_option maxRecDepth 100000 in
theorem xpk_10_40 : xpk 10 (127, .inl (1054, false, 10, 49)) := ⟨rfl, rfl, rfl⟩
set_option maxRecDepth 100000 in
theorem xpk_10_41 : xpk 10 (130, .inl (1055, false, 10, 50)) := ⟨rfl, rfl, rfl⟩
set_option maxRecDepth 100000 in
theorem xpk_10_42 : xpk 10 (133, .inl (1056, false, 10, 51)) := ⟨rfl, rfl, rfl⟩
set_option maxRecDepth 100000 in
theorem xpk_10_43 : xpk 10 (137, .inl (1007, false, 10, 2)) := ⟨rfl, rfl, rfl⟩
set_option maxRecDepth 100000 in
theorem xpk_10_44 : xpk 10 (140, .inl (1008, false, 10, 3)) := ⟨rfl, rfl, rfl⟩
set_option maxRecDepth 100000 in
theorem xpk_10_45 : xpk 10 (143, .inr (.inr (.inr (.inl (1192, 65535))))) := rfl
set_option maxRecDepth 100000 in
theorem xpk_10_46 : xpk 10 (144, .inr (.inl (1180, 2, 127))) := ⟨rfl, rfl, rfl⟩
set_option maxRecDepth 100000 in
theorem xpk_10_47 : xpk 10 (148, .inr (.inl (1183, 2, 128))) := ⟨rfl, rfl, rfl⟩
set_option maxRecDepth 100000 in
theorem xpk_10_48 : xpk 10 (151, .inr (.inl (1186, 2, 129))) := ⟨rfl, rfl, rfl⟩
set_option maxRecDepth 100000 in
theorem xpk_10_49 : xpk 10 (154, .inr (.inl (1189, 2, 130))) := ⟨rfl, rfl, rfl⟩
set_option maxRecDepth 100000 in
theorem xpk_10_50 : xpk 10 (157, .inr (.inl (1193, 2, 131))) := ⟨rfl, rfl, rfl⟩
set_option maxRecDepth 100000 in
theorem xpk_10_51 : xpk 10 (160, .inr (.inl (1176, 0, 132))) := ⟨rfl, rfl, rfl, rfl⟩
set_option maxRecDepth 100000 in
theorem xpk_10_52 : xpk 10 (164, .inl (1009, false, 10, 4)) := ⟨rfl, rfl, rfl⟩
set_option maxRecDepth 100000 in
theorem xpk_10_53 : xpk 10 (167, .inr (.inl (1200, 0, 134))) := ⟨rfl, rfl, rfl, rfl⟩
set_option maxRecDepth 100000 in
theorem xpk_10_54 : xpk 10 (170, .inr (.inl (1208, 2, 136))) := ⟨rfl, rfl, rfl⟩
set_option maxRecDepth 100000 in
theorem xpk_10_55 : xpk 10 (174, .inl (1034, false, 10, 29)) := ⟨rfl, rfl, rfl⟩
set_option maxRecDepth 100000 in
theorem xpk_10_56 : xpk 10 (177, .inr (.inl (1231, 2, 142))) := ⟨rfl, rfl, rfl⟩
set_option maxRecDepth 100000 in
theorem xpk_10_57 : xpk 10 (181, .inr (.inl (1285, 0, 144))) := ⟨rfl, rfl, rfl, rfl⟩
set_option maxRecDepth 100000 in
theorem xpk_10_58 : xpk 10 (184, .inl (1035, false, 10, 30)) := ⟨rfl, rfl, rfl⟩
set_option maxRecDepth 100000 in
theorem xpk_10_59 : xpk 10 (187, .inr (.inl (1234, 0, 141))) := ⟨rfl, rfl, rfl, rfl⟩
set_option maxRecDepth 100000 in
theorem xpk_10_60 : xpk 10 (191, .inr (.inl (1289, 0, 143))) := ⟨rfl, rfl, rfl, rfl⟩
set_option maxRecDepth 100000 in
theorem xpk_10_61 : xpk 10 (194, .inl (1032, false, 10, 27)) := ⟨rfl, rfl, rfl⟩
set_option maxRecDepth 100000 in
theorem xpk_10_62 : xpk 10 (198, .inl (1033, false, 10, 28)) := ⟨rfl, rfl, rfl⟩
set_option maxRecDepth 100000 in
theorem xpk_10_63 : xpk 10 (201, .inr (.inl (1281, 0, 145))) := ⟨rfl, rfl, rfl, rfl⟩
set_option maxRecDepth 100000 in
theorem xpk_10_64 : xpk 10 (206, .inr (.inr (.inr (.inr (1250, -2147483648))))) := rfl
set_option maxRecDepth 100000 in
theorem xpk_10_65 : xpk 10 (208, .inr (.inr (.inr (.inr (1251, 2147483647))))) := rfl
set_option maxRecDepth 100000 in
theorem xpk_10_66 : xpk 10 (210, .inr (.inr (.inr (.inl (1252, -2147483648))))) := rfl
set_option maxRecDepth 100000 in
theorem xpk_10_67 : xpk 10 (211, .inr (.inr (.inr (.inl (1253, 2147483647))))) := rfl
set_option maxRecDepth 100000 in
theorem xpk_10_68 : xpk 10 (212, .inr (.inr (.inr (.inr (1266, -1000000))))) := rfl
set_option maxRecDepth 100000 in
theorem xpk_10_69 : xpk 10 (214, .inr (.inr (.inr (.inr (1267, 1000000))))) := rfl
set_option maxRecDepth 100000 in
theorem xpk_10_70 : xpk 10 (216, .inr (.inl (1246, 0, 147))) := ⟨rfl, rfl, rfl, rfl⟩
set_option maxRecDepth 100000 in
theorem xpk_10_71 : xpk 10 (220, .inr (.inl (1262, 0, 148))) := ⟨rfl, rfl, rfl, rfl⟩
set_option maxRecDepth 100000 in
theorem xpk_10_72 : xpk 10 (224, .inr (.inl (1271, 2, 188))) := ⟨rfl, rfl, rfl⟩
set_option maxRecDepth 100000 in
theorem xpk_10_73 : xpk 10 (230, .inr (.inl (1275, 2, 186))) := ⟨rfl, rfl, rfl⟩
set_option maxRecDepth 100000 in
theorem xpk_10_74 : xpk 10 (233, .inr (.inl (1258, 0, 149))) := ⟨rfl, rfl, rfl, rfl⟩
set_option maxRecDepth 100000 in
theorem xpk_10_75 : xpk 10 (236, .inr (.inl (1268, 2, 150))) := ⟨rfl, rfl, rfl⟩
set_option maxRecDepth 100000 in
theorem xpk_10_76 : xpk 10 (240, .inr (.inl (1272, 2, 151))) := ⟨rfl, rfl, rfl⟩
set_option maxRecDepth 100000 in
theorem xpk_10_77 : xpk 10 (243, .inr (.inl (1276, 2, 184))) := ⟨rfl, rfl, rfl⟩
set_option maxRecDepth 100000 in
theorem xpk_10_78 : xpk 10 (247, .inr (.inl (1297, 0, 146))) := ⟨rfl, rfl, rfl, rfl⟩
set_option maxRecDepth 100000 in
theorem xpk_10_79 : xpk 10 (250, .inr (.inl (1301, 0, 155))) := ⟨rfl, rfl, rfl, rfl⟩
set_option maxRecDepth 100000 in
theorem xpk_10_80 : xpk 10 (254, .inr (.inl (1305, 2, 185))) := ⟨rfl, rfl, rfl⟩
set_option maxRecDepth 100000 in
theorem xpk_10_81 : xpk 10 (257, .inr (.inl (1306, 2, 187))) := ⟨rfl, rfl, rfl⟩
set_option maxRecDepth 100000 in
theorem xpk_10_82 : xpk 10 (259, .inr (.inl (1313, 0, 156))) := ⟨rfl, rfl, rfl, rfl⟩
set_option maxRecDepth 100000 in
theorem xpk_10_83 : xpk 10 (263, .inr (.inl (1254, 0, 152))) := ⟨rfl, rfl, rfl, rfl⟩
set_option maxRecDepth 100000 in
theorem xpk_10_84 : xpk 10 (267, .inr (.inl (1277, 0, 153))) := ⟨rfl, rfl, rfl, rfl⟩
set_option maxRecDepth 100000 in
theorem xpk_10_85 : xpk 10 (270, .inr (.inl (1293, 0, 154))) := ⟨rfl, rfl, rfl, rfl⟩
set_option maxRecDepth 100000 in
theorem xpk_10_86 : xpk 10 (273, .inr (.inl (1309, 0, 157))) := ⟨rfl, rfl, rfl, rfl⟩
set_option maxRecDepth 100000 in
theorem xpk_10_87 : xpk 10 (277, .inr (.inl (1317, 0, 158))) := ⟨rfl, rfl, rfl, rfl⟩
set_option maxRecDepth 100000 in
theorem xpk_10_88 : xpk 10 (280, .inr (.inl (1227, 0, 161))) := ⟨rfl, rfl, rfl, rfl⟩
set_option maxRecDepth 100000 in
theorem xpk_10_89 : xpk 10 (283, .inr (.inl (1238, 0, 160))) := ⟨rfl, rfl, rfl, rfl⟩
set_option maxRecDepth 100000 in
theorem xpk_10_90 : xpk 10 (286, .inr (.inl (1242, 0, 159))) := ⟨rfl, rfl, rfl, rfl⟩
set_option maxRecDepth 100000 in
theorem xpk_10_91 : xpk 10 (289, .inr (.inl (1321, 0, 163))) := ⟨rfl, rfl, rfl, rfl⟩
set_option maxRecDepth 100000 in
theorem xpk_10_92 : xpk 10 (292, .inr (.inl (1329, 0, 125))) := ⟨rfl, rfl, rfl, rfl⟩
set_option maxRecDepth 100000 in
theorem xpk_10_93 : xpk 10 (296, .inl (1037, false, 10, 32)) := ⟨rfl, rfl, rfl⟩
set_option maxRecDepth 100000 in
theorem xpk_10_94 : xpk 10 (299, .inl (1036, false, 10, 31)) := ⟨rfl, rfl, rfl⟩
set_option maxRecDepth 100000 in
theorem xpk_10_95 : xpk 10 (302, .inl (1038, false, 10, 33)) := ⟨rfl, rfl, rfl⟩
set_option maxRecDepth 100000 in
theorem xpk_10_96 : xpk 10 (305, .inr (.inl (1357, 2, 168))) := ⟨rfl, rfl, rfl⟩
set_option maxRecDepth 100000 in
theorem xpk_10_97 : xpk 10 (308, .inr (.inl (1360, 0, 169))) := ⟨rfl, rfl, rfl, rfl⟩
set_option maxRecDepth 100000 in
theorem xpk_10_98 : xpk 10 (312, .inl (1039, false, 10, 34)) := ⟨rfl, rfl, rfl⟩
set_option maxRecDepth 100000 in
theorem xpk_10_99 : xpk 10 (315, .inr (.inl (1345, 0, 166))) := ⟨rfl, rfl, rfl, rfl⟩
set_option maxRecDepth 100000 in
theorem xpk_10_100 : xpk 10 (318, .inr (.inl (1349, 0, 167))) := ⟨rfl, rfl, rfl, rfl⟩
set_option maxRecDepth 100000 in
theorem xpk_10_101 : xpk 10 (321, .inr (.inl (1353, 0, 170))) := ⟨rfl, rfl, rfl, rfl⟩
set_option maxRecDepth 100000 in
theorem xpk_10_102 : xpk 10 (324, .inr (.inr (.inr (.inr (1364, 31))))) := rfl
set_option maxRecDepth 100000 in
theorem xpk_10_103 : xpk 10 (326, .inr (.inr (.inr (.inr (1365, 1000))))) := rfl
set_option maxRecDepth 100000 in
theorem xpk_10_104 : xpk 10 (328, .inr (.inl (1341, 0, 171))) := ⟨rfl, rfl, rfl, rfl⟩
set_option maxRecDepth 100000 in
theorem xpk_10_105 : xpk 10 (331, .inr (.inl (1378, 0, 176))) := ⟨rfl, rfl, rfl, rfl⟩
set_option maxRecDepth 100000 in
theorem xpk_10_106 : xpk 10 (334, .inr (.inl (1382, 0, 175))) := ⟨rfl, rfl, rfl, rfl⟩
theorem xpk_10 : ∀ e ∈ xpl_10, xpk 10 e := List.forall_mem_cons.mpr ⟨xpk_10_0, List.forall_mem_cons.mpr ⟨xpk_10_1, List.forall_mem_cons.mpr ⟨xpk_10_2, List.forall_mem_cons.mpr ⟨xpk_10_3, List.forall_mem_cons.mpr ⟨xpk_10_4, List.forall_mem_cons.mpr ⟨xpk_10_5, List.forall_mem_cons.mpr ⟨xpk_10_6, List.forall_mem_cons.mpr ⟨xpk_10_7, List.forall_mem_cons.mpr ⟨xpk_10_8, List.forall_mem_cons.mpr ⟨xpk_10_9, List.forall_mem_cons.mpr ⟨xpk_10_10, List.forall_mem_cons.mpr ⟨xpk_10_11, List.forall_mem_cons.mpr ⟨xpk_10_12, List.forall_mem_cons.mpr ⟨xpk_10_13, List.forall_mem_cons.mpr ⟨xpk_10_14, List.forall_mem_cons.mpr ⟨xpk_10_15, List.forall_mem_cons.mpr ⟨xpk_10_16, List.forall_mem_cons.mpr ⟨xpk_10_17, List.forall_mem_cons.mpr ⟨xpk_10_18, List.forall_mem_cons.mpr ⟨xpk_10_19, List.forall_mem_cons.mpr ⟨xpk_10_20, List.forall_mem_cons.mpr ⟨xpk_10_21, List.forall_mem_cons.mpr ⟨xpk_10_22, List.forall_mem_cons.mpr ⟨xpk_10_23, List.forall_mem_cons.mpr ⟨xpk_10_24, List.forall_mem_cons.mpr ⟨xpk_10_25, List.forall_mem_cons.mpr ⟨xpk_10_26, List.forall_mem_cons.mpr ⟨xpk_10_27, List.forall_mem_cons.mpr ⟨xpk_10_28, List.forall_mem_cons.mpr ⟨xpk_10_29, List.forall_mem_cons.mpr ⟨xpk_10_30, List.forall_mem_cons.mpr ⟨xpk_10_31, List.forall_mem_cons.mpr ⟨xpk_10_32, List.forall_mem_cons.mpr ⟨xpk_10_33, List.forall_mem_cons.mpr ⟨xpk_10_34, List.forall_mem_cons.mpr ⟨xpk_10_35, List.forall_mem_cons.mpr ⟨xpk_10_36, List.forall_mem_cons.mpr ⟨xpk_10_37, List.forall_mem_cons.mpr ⟨xpk_10_38, List.forall_mem_cons.mpr ⟨xpk_10_39, List.forall_mem_cons.mpr ⟨xpk_10_40, List.forall_mem_cons.mpr ⟨xpk_10_41, List.forall_mem_cons.mpr ⟨xpk_10_42, List.forall_mem_cons.mpr ⟨xpk_10_43, List.forall_mem_cons.mpr ⟨xpk_10_44, List.forall_mem_cons.mpr ⟨xpk_10_45, List.forall_mem_cons.mpr ⟨xpk_10_46, List.forall_mem_cons.mpr ⟨xpk_10_47, List.forall_mem_cons.mpr ⟨xpk_10_48, List.forall_mem_cons.mpr ⟨xpk_10_49, List.forall_mem_cons.mpr ⟨xpk_10_50, List.forall_mem_cons.mpr ⟨xpk_10_51, List.forall_mem_cons.mpr ⟨xpk_10_52, List.forall_mem_cons.mpr ⟨xpk_10_53, List.forall_mem_cons.mpr ⟨xpk_10_54, List.forall_mem_cons.mpr ⟨xpk_10_55, List.forall_mem_cons.mpr ⟨xpk_10_56, List.forall_mem_cons.mpr ⟨xpk_10_57, List.forall_mem_cons.mpr ⟨xpk_10_58, List.forall_mem_cons.mpr ⟨xpk_10_59, List.forall_mem_cons.mpr ⟨xpk_10_60, List.forall_mem_cons.mpr ⟨xpk_10_61, List.forall_mem_cons.mpr ⟨xpk_10_62, List.forall_mem_cons.mpr ⟨xpk_10_63, List.forall_mem_cons.mpr ⟨xpk_10_64, List.forall_mem_cons.mpr ⟨xpk_10_65, List.forall_mem_cons.mpr ⟨xpk_10_66, List.forall_mem_cons.mpr ⟨xpk_10_67, List.forall_mem_cons.mpr ⟨xpk_10_68, List.forall_mem_cons.mpr ⟨xpk_10_69, List.forall_mem_cons.mpr ⟨xpk_10_70, List.forall_mem_cons.mpr ⟨xpk_10_71, List.forall_mem_cons.mpr ⟨xpk_10_72, List.forall_mem_cons.mpr ⟨xpk_10_73, List.forall_mem_cons.mpr ⟨xpk_10_74, List.forall_mem_cons.mpr ⟨xpk_10_75, List.forall_mem_cons.mpr ⟨xpk_10_76, List.forall_mem_cons.mpr ⟨xpk_10_77, List.forall_mem_cons.mpr ⟨xpk_10_78, List.forall_mem_cons.mpr ⟨xpk_10_79, List.forall_mem_cons.mpr ⟨xpk_10_80, List.forall_mem_cons.mpr ⟨xpk_10_81, List.forall_mem_cons.mpr ⟨xpk_10_82, List.forall_mem_cons.mpr ⟨xpk_10_83, List.forall_mem_cons.mpr ⟨xpk_10_84, List.forall_mem_cons.mpr ⟨xpk_10_85, List.forall_mem_cons.mpr ⟨xpk_10_86, List.forall_mem_cons.mpr ⟨xpk_10_87, List.forall_mem_cons.mpr ⟨xpk_10_88, List.forall_mem_cons.mpr ⟨xpk_10_89, List.forall_mem_cons.mpr ⟨xpk_10_90, List.forall_mem_cons.mpr ⟨xpk_10_91, List.forall_mem_cons.mpr ⟨xpk_10_92, List.forall_mem_cons.mpr ⟨xpk_10_93, List.forall_mem_cons.mpr ⟨xpk_10_94, List.forall_mem_cons.mpr ⟨xpk_10_95, List.forall_mem_cons.mpr ⟨xpk_10_96, List.forall_mem_cons.mpr ⟨xpk_10_97, List.forall_mem_cons.mpr ⟨xpk_10_98, List.forall_mem_cons.mpr ⟨xpk_10_99, List.forall_mem_cons.mpr ⟨xpk_10_100, List.forall_mem_cons.mpr ⟨xpk_10_101, List.forall_mem_cons.mpr ⟨xpk_10_102, List.forall_mem_cons.mpr ⟨xpk_10_103, List.forall_mem_cons.mpr ⟨xpk_10_104, List.forall_mem_cons.mpr ⟨xpk_10_105, List.forall_mem_cons.mpr ⟨xpk_10_106, fun _ h => absurd h List.not_mem_nil⟩⟩⟩⟩⟩⟩⟩⟩⟩⟩⟩⟩⟩⟩⟩⟩⟩⟩⟩⟩⟩⟩⟩⟩⟩⟩⟩⟩⟩⟩⟩⟩⟩⟩⟩⟩⟩⟩⟩⟩⟩⟩⟩⟩⟩⟩⟩⟩⟩⟩⟩⟩⟩⟩⟩⟩⟩⟩⟩⟩⟩⟩⟩⟩⟩⟩⟩⟩⟩⟩⟩⟩⟩⟩⟩⟩⟩⟩⟩⟩⟩⟩⟩⟩⟩⟩⟩⟩⟩⟩⟩⟩⟩⟩⟩⟩⟩⟩⟩⟩⟩⟩⟩⟩⟩⟩⟩
set_option maxRecDepth 100000 in
theorem xpk_11_0 : xpk 11 (7, .inr (.inl (825, 0, 96))) := ⟨rfl, rfl, rfl, rfl⟩
set_option maxRecDepth 100000 in
theorem xpk_11_1 : xpk 11 (8, .inr (.inr (.inl (88, 9)))) := rfl
set_option maxRecDepth 100000 in
theorem xpk_11_2 : xpk 11 (15, .inr (.inl (905, 0, 99))) := ⟨rfl, rfl, rfl, rfl⟩
set_option maxRecDepth 100000 in
theorem xpk_11_3 : xpk 11 (21, .inr (.inl (929, 0, 100))) := ⟨rfl, rfl, rfl, rfl⟩
set_option maxRecDepth 100000 in
theorem xpk_11_4 : xpk 11 (24, .inr (.inl (937, 0, 102))) := ⟨rfl, rfl, rfl, rfl⟩
set_option maxRecDepth 100000 in
theorem xpk_11_5 : xpk 11 (27, .inr (.inl (947, 0, 103))) := ⟨rfl, rfl, rfl, rfl⟩
set_option maxRecDepth 100000 in
theorem xpk_11_6 : xpk 11 (30, .inr (.inl (955, 0, 104))) := ⟨rfl, rfl, rfl, rfl⟩
set_option maxRecDepth 100000 in
theorem xpk_11_7 : xpk 11 (34, .inr (.inl (962, 0, 105))) := ⟨rfl, rfl, rfl, rfl⟩
set_option maxRecDepth 100000 in
theorem xpk_11_8 : xpk 11 (37, .inr (.inl (972, 0, 106))) := ⟨rfl, rfl, rfl, rfl⟩
set_option maxRecDepth 100000 in
theorem xpk_11_9 : xpk 11 (40, .inr (.inl (980, 0, 107))) := ⟨rfl, rfl, rfl, rfl⟩
set_option maxRecDepth 100000 in
theorem xpk_11_10 : xpk 11 (43, .inr (.inl (90, 4, 87))) := ⟨rfl, rfl, rfl, rfl, rfl⟩
set_option maxRecDepth 100000 in
theorem xpk_11_11 : xpk 11 (44, .inr (.inr (.inl (998, 10)))) := rfl
set_option maxRecDepth 100000 in
theorem xpk_11_12 : xpk 11 (46, .inr (.inl (1000, 4, 123))) := ⟨rfl, rfl, rfl, rfl, rfl⟩
set_option maxRecDepth 100000 in
theorem xpk_11_13 : xpk 11 (47, .inr (.inl (224, 0, 88))) := ⟨rfl, rfl, rfl, rfl⟩
set_option maxRecDepth 100000 in
theorem xpk_11_14 : xpk 11 (50, .inr (.inl (1168, 0, 126))) := ⟨rfl, rfl, rfl, rfl⟩
set_option maxRecDepth 100000 in
theorem xpk_11_15 : xpk 11 (51, .inr (.inl (300, 0, 89))) := ⟨rfl, rfl, rfl, rfl⟩
set_option maxRecDepth 100000 in
theorem xpk_11_16 : xpk 11 (54, .inr (.inl (1172, 0, 133))) := ⟨rfl, rfl, rfl, rfl⟩
set_option maxRecDepth 100000 in
theorem xpk_11_17 : xpk 11 (55, .inr (.inl (326, 0, 90))) := ⟨rfl, rfl, rfl, rfl⟩
set_option maxRecDepth 100000 in
theorem xpk_11_18 : xpk 11 (59, .inr (.inl (1196, 0, 135))) := ⟨rfl, rfl, rfl, rfl⟩
set_option maxRecDepth 100000 in
theorem xpk_11_19 : xpk 11 (60, .inr (.inl (368, 0, 91))) := ⟨rfl, rfl, rfl, rfl⟩
set_option maxRecDepth 100000 in
theorem xpk_11_20 : xpk 11 (64, .inr (.inl (1204, 0, 137))) := ⟨rfl, rfl, rfl, rfl⟩
set_option maxRecDepth 100000 in
theorem xpk_11_21 : xpk 11 (65, .inr (.inl (383, 0, 92))) := ⟨rfl, rfl, rfl, rfl⟩
set_option maxRecDepth 100000 in
theorem xpk_11_22 : xpk 11 (68, .inr (.inl (1211, 0, 138))) := ⟨rfl, rfl, rfl, rfl⟩
set_option maxRecDepth 100000 in
theorem xpk_11_23 : xpk 11 (69, .inr (.inl (391, 0, 93))) := ⟨rfl, rfl, rfl, rfl⟩
set_option maxRecDepth 100000 in
theorem xpk_11_24 : xpk 11 (72, .inr (.inl (1215, 0, 139))) := ⟨rfl, rfl, rfl, rfl⟩
set_option maxRecDepth 100000 in
theorem xpk_11_25 : xpk 11 (73, .inr (.inl (396, 0, 94))) := ⟨rfl, rfl, rfl, rfl⟩
set_option maxRecDepth 100000 in
theorem xpk_11_26 : xpk 11 (76, .inr (.inl (1219, 0, 140))) := ⟨rfl, rfl, rfl, rfl⟩
set_option maxRecDepth 100000 in
theorem xpk_11_27 : xpk 11 (77, .inr (.inl (437, 0, 95))) := ⟨rfl, rfl, rfl, rfl⟩
set_option maxRecDepth 100000 in
theorem xpk_11_28 : xpk 11 (81, .inr (.inl (1223, 0, 162))) := ⟨rfl, rfl, rfl, rfl⟩
set_option maxRecDepth 100000 in
theorem xpk_11_29 : xpk 11 (82, .inr (.inl (821, 7, 189))) := ⟨rfl, rfl, rfl⟩
set_option maxRecDepth 100000 in
theorem xpk_11_30 : xpk 11 (87, .inr (.inl (1325, 0, 164))) := ⟨rfl, rfl, rfl, rfl⟩
set_option maxRecDepth 100000 in
theorem xpk_11_31 : xpk 11 (88, .inr (.inl (1164, 0, 124))) := ⟨rfl, rfl, rfl, rfl⟩
set_option maxRecDepth 100000 in
theorem xpk_11_32 : xpk 11 (91, .inr (.inl (642, 0, 97))) := ⟨rfl, rfl, rfl, rfl⟩
set_option maxRecDepth 100000 in
theorem xpk_11_33 : xpk 11 (94, .inr (.inl (1333, 0, 165))) := ⟨rfl, rfl, rfl, rfl⟩
set_option maxRecDepth 100000 in
theorem xpk_11_34 : xpk 11 (95, .inr (.inl (726, 0, 98))) := ⟨rfl, rfl, rfl, rfl⟩
set_option maxRecDepth 100000 in
theorem xpk_11_35 : xpk 11 (98, .inr (.inl (1337, 0, 172))) := ⟨rfl, rfl, rfl, rfl⟩
set_option maxRecDepth 100000 in
theorem xpk_11_36 : xpk 11 (99, .inr (.inl (901, 7, 190))) := ⟨rfl, rfl, rfl⟩
set_option maxRecDepth 100000 in
theorem xpk_11_37 : xpk 11 (102, .inr (.inl (1366, 0, 173))) := ⟨rfl, rfl, rfl, rfl⟩
set_option maxRecDepth 100000 in
theorem xpk_11_38 : xpk 11 (103, .inr (.inl (926, 7, 191))) := ⟨rfl, rfl, rfl⟩
set_option maxRecDepth 100000 in
theorem xpk_11_39 : xpk 11 (105, .inr (.inl (1370, 0, 174))) := ⟨rfl, rfl, rfl, rfl⟩
set_option maxRecDepth 100000 in
theorem xpk_11_40 : xpk 11 (106, .inr (.inl (813, 0, 101))) := ⟨rfl, rfl, rfl, rfl⟩
set_option maxRecDepth 100000 in
theorem xpk_11_41 : xpk 11 (110, .inr (.inl (1374, 0, 177))) := ⟨rfl, rfl, rfl, rfl⟩
set_option maxRecDepth 100000 in
theorem xpk_11_42 : xpk 11 (111, .inr (.inl (934, 7, 192))) := ⟨rfl, rfl, rfl⟩
set_option maxRecDepth 100000 in
theorem xpk_11_43 : xpk 11 (113, .inr (.inl (1386, 0, 178))) := ⟨rfl, rfl, rfl, rfl⟩
set_option maxRecDepth 100000 in
theorem xpk_11_44 : xpk 11 (114, .inr (.inl (944, 7, 193))) := ⟨rfl, rfl, rfl⟩
set_option maxRecDepth 100000 in
theorem xpk_11_45 : xpk 11 (116, .inr (.inl (1390, 0, 179))) := ⟨rfl, rfl, rfl, rfl⟩
set_option maxRecDepth 100000 in
theorem xpk_11_46 : xpk 11 (117, .inr (.inl (952, 7, 194))) := ⟨rfl, rfl, rfl⟩
set_option maxRecDepth 100000 in
theorem xpk_11_47 : xpk 11 (119, .inr (.inl (1394, 0, 180))) := ⟨rfl, rfl, rfl, rfl⟩
set_option maxRecDepth 100000 in
theorem xpk_11_48 : xpk 11 (120, .inr (.inl (959, 7, 195))) := ⟨rfl, rfl, rfl⟩
set_option maxRecDepth 100000 in
theorem xpk_11_49 : xpk 11 (122, .inr (.inl (1398, 0, 181))) := ⟨rfl, rfl, rfl, rfl⟩
set_option maxRecDepth 100000 in
theorem xpk_11_50 : xpk 11 (123, .inr (.inl (969, 7, 196))) := ⟨rfl, rfl, rfl⟩
set_option maxRecDepth 100000 in
theorem xpk_11_51 : xpk 11 (125, .inr (.inl (1402, 0, 182))) := ⟨rfl, rfl, rfl, rfl⟩
set_option maxRecDepth 100000 in
theorem xpk_11_52 : xpk 11 (126, .inr (.inl (977, 7, 197))) := ⟨rfl, rfl, rfl⟩
set_option maxRecDepth 100000 in
theorem xpk_11_53 : xpk 11 (128, .inr (.inl (1406, 0, 183))) := ⟨rfl, rfl, rfl, rfl⟩
theorem xpk_11 : ∀ e ∈ xpl_11, xpk 11 e := List.forall_mem_cons.mpr ⟨xpk_11_0, List.forall_mem_cons.mpr ⟨xpk_11_1, List.forall_mem_cons.mpr ⟨xpk_11_2, List.forall_mem_cons.mpr ⟨xpk_11_3, List.forall_mem_cons.mpr ⟨xpk_11_4, List.forall_mem_cons.mpr ⟨xpk_11_5, List.forall_mem_cons.mpr ⟨xpk_11_6, List.forall_mem_cons.mpr ⟨xpk_11_7, List.forall_mem_cons.mpr ⟨xpk_11_8, List.forall_mem_cons.mpr ⟨xpk_11_9, List.forall_mem_cons.mpr ⟨xpk_11_10, List.forall_mem_cons.mpr ⟨xpk_11_11, List.forall_mem_cons.mpr ⟨xpk_11_12, List.forall_mem_cons.mpr ⟨xpk_11_13, List.forall_mem_cons.mpr ⟨xpk_11_14, List.forall_mem_cons.mpr ⟨xpk_11_15, List.forall_mem_cons.mpr ⟨xpk_11_16, List.forall_mem_cons.mpr ⟨xpk_11_17, List.forall_mem_cons.mpr ⟨xpk_11_18, List.forall_mem_cons.mpr ⟨xpk_11_19, List.forall_mem_cons.mpr ⟨xpk_11_20, List.forall_mem_cons.mpr ⟨xpk_11_21, List.forall_mem_cons.mpr ⟨xpk_11_22, List.forall_mem_cons.mpr ⟨xpk_11_23, List.forall_mem_cons.mpr ⟨xpk_11_24, List.forall_mem_cons.mpr ⟨xpk_11_25, List.forall_mem_cons.mpr ⟨xpk_11_26, List.forall_mem_cons.mpr ⟨xpk_11_27, List.forall_mem_cons.mpr ⟨xpk_11_28, List.forall_mem_cons.mpr ⟨xpk_11_29, List.forall_mem_cons.mpr ⟨xpk_11_30, List.forall_mem_cons.mpr ⟨xpk_11_31, List.forall_mem_cons.mpr ⟨xpk_11_32, List.forall_mem_cons.mpr ⟨xpk_11_33, List.forall_mem_cons.mpr ⟨xpk_11_34, List.forall_mem_cons.mpr ⟨xpk_11_35, List.forall_mem_cons.mpr ⟨xpk_11_36, List.forall_mem_cons.mpr ⟨xpk_11_37, List.forall_mem_cons.mpr ⟨xpk_11_38, List.forall_mem_cons.mpr ⟨xpk_11_39, List.forall_mem_cons.mpr ⟨xpk_11_40, List.forall_mem_cons.mpr ⟨xpk_11_41, List.forall_mem_cons.mpr ⟨xpk_11_42, List.forall_mem_cons.mpr ⟨xpk_11_43, List.forall_mem_cons.mpr ⟨xpk_11_44, List.forall_mem_cons.mpr ⟨xpk_11_45, List.forall_mem_cons.mpr ⟨xpk_11_46, List.forall_mem_cons.mpr ⟨xpk_11_47, List.forall_mem_cons.mpr ⟨xpk_11_48, List.forall_mem_cons.mpr ⟨xpk_11_49, List.forall_mem_cons.mpr ⟨xpk_11_50, List.forall_mem_cons.mpr ⟨xpk_11_51, List.forall_mem_cons.mpr ⟨xpk_11_52, List.forall_mem_cons.mpr ⟨xpk_11_53, fun _ h => absurd h List.not_mem_nil⟩⟩⟩⟩⟩⟩⟩⟩⟩⟩⟩⟩⟩⟩⟩⟩⟩⟩⟩⟩⟩⟩⟩⟩⟩⟩⟩⟩⟩⟩⟩⟩⟩⟩⟩⟩⟩⟩⟩⟩⟩⟩⟩⟩⟩⟩⟩⟩⟩⟩⟩⟩⟩⟩
theorem xpk_12 : ∀ e ∈ xpl_12, xpk 12 e := fun _ h => absurd h List.not_mem_nil
theorem xpk_ok (o i : Nat) (v : xP) (h : xpo o i = some v) : xpk o (i, v) := by
  unfold xpo at h
  by_cases h0 : o = 0
  · subst h0; exact xpk_0 _ (xlk_mem h)
  by_cases h1 : o = 1
  · subst h1; exact xpk_1 _ (xlk_mem h)
  by_cases h2 : o = 2
  · subst h2; exact xpk_2 _ (xlk_mem h)
  by_cases h3 : o = 3
  · subst h3; exact xpk_3 _ (xlk_mem h)
  by_cases h4 : o = 4
  · subst h4; exact xpk_4 _ (xlk_mem h)
  by_cases h5 : o = 5
  · subst h5; exact xpk_5 _ (xlk_mem h)
  by_cases h6 : o = 6
  · subst h6; exact xpk_6 _ (xlk_mem h)
  by_cases h7 : o = 7
  · subst h7; exact xpk_7 _ (xlk_mem h)
  by_cases h8 : o = 8
  · subst h8; exact xpk_8 _ (xlk_mem h)
  by_cases h9 : o = 9
  · subst h9; exact xpk_9 _ (xlk_mem h)
  by_cases h10 : o = 10
  · subst h10; exact xpk_10 _ (xlk_mem h)
  by_cases h11 : o = 11
  · subst h11; exact xpk_11 _ (xlk_mem h)
  by_cases h12 : o = 12
  · subst h12; exact xpk_12 _ (xlk_mem h)
  rw [List.getD_eq_getElem?_getD, List.getElem?_eq_none (by show 13 ≤ o; omega)] at h
  cases h
set_option maxRecDepth 100000 in
theorem xla_0_0 : lw_tbl[254]? = some (u_lay RX0 TX0 0) := rfl
set_option maxRecDepth 100000 in
theorem xla_0_1 : lw_tbl[256]? = some (u_lay RX0 TX0 1) := rfl
set_option maxRecDepth 100000 in
theorem xla_0_2 : lw_tbl[258]? = some (u_lay RX0 TX0 2) := rfl
theorem xla_0 : ∀ w ∈ u_ws RX0 TX0 3, w ∈ xws := by
  show ∀ w ∈ [u_lay RX0 TX0 0, u_lay RX0 TX0 1, u_lay RX0 TX0 2], w ∈ xws
  exact List.forall_mem_cons.mpr ⟨xwd_in xla_0_0 rfl, List.forall_mem_cons.mpr ⟨xwd_in xla_0_1 rfl, List.forall_mem_cons.mpr ⟨xwd_in xla_0_2 rfl, fun _ h => absurd h List.not_mem_nil⟩⟩⟩
set_option maxRecDepth 100000 in
theorem xin_0 : lw_tbl[239]? = some (.instantiable RX0 3) ∧ lw_tbl[78]? = some (.initialized RX0) := ⟨rfl, rfl⟩
theorem xdf_0 : ∀ k, k < 3 → defaultValue (tyX0 k) = vp_V (xdf.getD 0 []) k := by decide +kernel
set_option maxRecDepth 100000 in
theorem xla_1_0 : lw_tbl[130]? = some (u_lay RX1 TX1 0) := rfl
set_option maxRecDepth 100000 in
theorem xla_1_1 : lw_tbl[132]? = some (u_lay RX1 TX1 1) := rfl
set_option maxRecDepth 100000 in
theorem xla_1_2 : lw_tbl[134]? = some (u_lay RX1 TX1 2) := rfl
set_option maxRecDepth 100000 in
theorem xla_1_3 : lw_tbl[136]? = some (u_lay RX1 TX1 3) := rfl
set_option maxRecDepth 100000 in
theorem xla_1_4 : lw_tbl[138]? = some (u_lay RX1 TX1 4) := rfl
set_option maxRecDepth 100000 in
theorem xla_1_5 : lw_tbl[140]? = some (u_lay RX1 TX1 5) := rfl
set_option maxRecDepth 100000 in
theorem xla_1_6 : lw_tbl[142]? = some (u_lay RX1 TX1 6) := rfl
set_option maxRecDepth 100000 in
theorem xla_1_7 : lw_tbl[144]? = some (u_lay RX1 TX1 7) := rfl
set_option maxRecDepth 100000 in
theorem xla_1_8 : lw_tbl[146]? = some (u_lay RX1 TX1 8) := rfl
theorem xla_1 : ∀ w ∈ u_ws RX1 TX1 9, w ∈ xws := by
  show ∀ w ∈ [u_lay RX1 TX1 0, u_lay RX1 TX1 1, u_lay RX1 TX1 2, u_lay RX1 TX1 3, u_lay RX1 TX1 4, u_lay RX1 TX1 5, u_lay RX1 TX1 6, u_lay RX1 TX1 7, u_lay RX1 TX1 8], w ∈ xws
  exact List.forall_mem_cons.mpr ⟨xwd_in xla_1_0 rfl, List.forall_mem_cons.mpr ⟨xwd_in xla_1_1 rfl, List.forall_mem_cons.mpr ⟨xwd_in xla_1_2 rfl, List.forall_mem_cons.mpr ⟨xwd_in xla_1_3 rfl, List.forall_mem_cons.mpr ⟨xwd_in xla_1_4 rfl, List.forall_mem_cons.mpr ⟨xwd_in xla_1_5 rfl, List.forall_mem_cons.mpr ⟨xwd_in xla_1_6 rfl, List.forall_mem_cons.mpr ⟨xwd_in xla_1_7 rfl, List.forall_mem_cons.mpr ⟨xwd_in xla_1_8 rfl, fun _ h => absurd h List.not_mem_nil⟩⟩⟩⟩⟩⟩⟩⟩⟩
set_option maxRecDepth 100000 in
theorem xin_1 : lw_tbl[99]? = some (.instantiable RX1 9) ∧ lw_tbl[72]? = some (.initialized RX1) := ⟨rfl, rfl⟩
theorem xdf_1 : ∀ k, k < 9 → defaultValue (tyX1 k) = vp_V (xdf.getD 1 []) k := by decide +kernel
set_option maxRecDepth 100000 in
theorem xla_2_0 : lw_tbl[355]? = some (u_lay RX2 TX2 0) := rfl
set_option maxRecDepth 100000 in
theorem xla_2_1 : lw_tbl[357]? = some (u_lay RX2 TX2 1) := rfl
theorem xla_2 : ∀ w ∈ u_ws RX2 TX2 2, w ∈ xws := by
  show ∀ w ∈ [u_lay RX2 TX2 0, u_lay RX2 TX2 1], w ∈ xws
  exact List.forall_mem_cons.mpr ⟨xwd_in xla_2_0 rfl, List.forall_mem_cons.mpr ⟨xwd_in xla_2_1 rfl, fun _ h => absurd h List.not_mem_nil⟩⟩
set_option maxRecDepth 100000 in
theorem xin_2 : lw_tbl[342]? = some (.instantiable RX2 2) ∧ lw_tbl[79]? = some (.initialized RX2) := ⟨rfl, rfl⟩
theorem xdf_2 : ∀ k, k < 2 → defaultValue (tyX2 k) = vp_V (xdf.getD 2 []) k := by decide +kernel
set_option maxRecDepth 100000 in
theorem xla_3_0 : lw_tbl[430]? = some (u_lay RX3 TX3 0) := rfl
set_option maxRecDepth 100000 in
theorem xla_3_1 : lw_tbl[432]? = some (u_lay RX3 TX3 1) := rfl
set_option maxRecDepth 100000 in
theorem xla_3_2 : lw_tbl[434]? = some (u_lay RX3 TX3 2) := rfl
theorem xla_3 : ∀ w ∈ u_ws RX3 TX3 3, w ∈ xws := by
  show ∀ w ∈ [u_lay RX3 TX3 0, u_lay RX3 TX3 1, u_lay RX3 TX3 2], w ∈ xws
  exact List.forall_mem_cons.mpr ⟨xwd_in xla_3_0 rfl, List.forall_mem_cons.mpr ⟨xwd_in xla_3_1 rfl, List.forall_mem_cons.mpr ⟨xwd_in xla_3_2 rfl, fun _ h => absurd h List.not_mem_nil⟩⟩⟩
set_option maxRecDepth 100000 in
theorem xin_3 : lw_tbl[417]? = some (.instantiable RX3 3) ∧ lw_tbl[80]? = some (.initialized RX3) := ⟨rfl, rfl⟩
theorem xdf_3 : ∀ k, k < 3 → defaultValue (tyX3 k) = vp_V (xdf.getD 3 []) k := by decide +kernel
set_option maxRecDepth 100000 in
theorem xla_4_0 : lw_tbl[693]? = some (u_lay RX4 TX4 0) := rfl
set_option maxRecDepth 100000 in
theorem xla_4_1 : lw_tbl[695]? = some (u_lay RX4 TX4 1) := rfl
set_option maxRecDepth 100000 in
theorem xla_4_2 : lw_tbl[697]? = some (u_lay RX4 TX4 2) := rfl
set_option maxRecDepth 100000 in
theorem xla_4_3 : lw_tbl[699]? = some (u_lay RX4 TX4 3) := rfl
set_option maxRecDepth 100000 in
theorem xla_4_4 : lw_tbl[701]? = some (u_lay RX4 TX4 4) := rfl
set_option maxRecDepth 100000 in
theorem xla_4_5 : lw_tbl[703]? = some (u_lay RX4 TX4 5) := rfl
set_option maxRecDepth 100000 in
theorem xla_4_6 : lw_tbl[705]? = some (u_lay RX4 TX4 6) := rfl
set_option maxRecDepth 100000 in
theorem xla_4_7 : lw_tbl[707]? = some (u_lay RX4 TX4 7) := rfl
set_option maxRecDepth 100000 in
theorem xla_4_8 : lw_tbl[709]? = some (u_lay RX4 TX4 8) := rfl
set_option maxRecDepth 100000 in
theorem xla_4_9 : lw_tbl[711]? = some (u_lay RX4 TX4 9) := rfl
set_option maxRecDepth 100000 in
theorem xla_4_10 : lw_tbl[713]? = some (u_lay RX4 TX4 10) := rfl
set_option maxRecDepth 100000 in
theorem xla_4_11 : lw_tbl[715]? = some (u_lay RX4 TX4 11) := rfl
theorem xla_4 : ∀ w ∈ u_ws RX4 TX4 12, w ∈ xws := by
  show ∀ w ∈ [u_lay RX4 TX4 0, u_lay RX4 TX4 1, u_lay RX4 TX4 2, u_lay RX4 TX4 3, u_lay RX4 TX4 4, u_lay RX4 TX4 5, u_lay RX4 TX4 6, u_lay RX4 TX4 7, u_lay RX4 TX4 8, u_lay RX4 TX4 9, u_lay RX4 TX4 10, u_lay RX4 TX4 11], w ∈ xws
  exact List.forall_mem_cons.mpr ⟨xwd_in xla_4_0 rfl, List.forall_mem_cons.mpr ⟨xwd_in xla_4_1 rfl, List.forall_mem_cons.mpr ⟨xwd_in xla_4_2 rfl, List.forall_mem_cons.mpr ⟨xwd_in xla_4_3 rfl, List.forall_mem_cons.mpr ⟨xwd_in xla_4_4 rfl, List.forall_mem_cons.mpr ⟨xwd_in xla_4_5 rfl, List.forall_mem_cons.mpr ⟨xwd_in xla_4_6 rfl, List.forall_mem_cons.mpr ⟨xwd_in xla_4_7 rfl, List.forall_mem_cons.mpr ⟨xwd_in xla_4_8 rfl, List.forall_mem_cons.mpr ⟨xwd_in xla_4_9 rfl, List.forall_mem_cons.mpr ⟨xwd_in xla_4_10 rfl, List.forall_mem_cons.mpr ⟨xwd_in xla_4_11 rfl, fun _ h => absurd h List.not_mem_nil⟩⟩⟩⟩⟩⟩⟩⟩⟩⟩⟩⟩
set_option maxRecDepth 100000 in
theorem xin_4 : lw_tbl[666]? = some (.instantiable RX4 12) ∧ lw_tbl[86]? = some (.initialized RX4) := ⟨rfl, rfl⟩
theorem xdf_4 : ∀ k, k < 12 → defaultValue (tyX4 k) = vp_V (xdf.getD 4 []) k := by decide +kernel
set_option maxRecDepth 100000 in
theorem xla_5_0 : lw_tbl[279]? = some (u_lay RX5 TX5 0) := rfl
set_option maxRecDepth 100000 in
theorem xla_5_1 : lw_tbl[281]? = some (u_lay RX5 TX5 1) := rfl
set_option maxRecDepth 100000 in
theorem xla_5_2 : lw_tbl[283]? = some (u_lay RX5 TX5 2) := rfl
set_option maxRecDepth 100000 in
theorem xla_5_3 : lw_tbl[285]? = some (u_lay RX5 TX5 3) := rfl
set_option maxRecDepth 100000 in
theorem xla_5_4 : lw_tbl[287]? = some (u_lay RX5 TX5 4) := rfl
set_option maxRecDepth 100000 in
theorem xla_5_5 : lw_tbl[289]? = some (u_lay RX5 TX5 5) := rfl
set_option maxRecDepth 100000 in
theorem xla_5_6 : lw_tbl[291]? = some (u_lay RX5 TX5 6) := rfl
set_option maxRecDepth 100000 in
theorem xla_5_7 : lw_tbl[293]? = some (u_lay RX5 TX5 7) := rfl
set_option maxRecDepth 100000 in
theorem xla_5_8 : lw_tbl[295]? = some (u_lay RX5 TX5 8) := rfl
set_option maxRecDepth 100000 in
theorem xla_5_9 : lw_tbl[297]? = some (u_lay RX5 TX5 9) := rfl
theorem xla_5 : ∀ w ∈ u_ws RX5 TX5 10, w ∈ xws := by
  show ∀ w ∈ [u_lay RX5 TX5 0, u_lay RX5 TX5 1, u_lay RX5 TX5 2, u_lay RX5 TX5 3, u_lay RX5 TX5 4, u_lay RX5 TX5 5, u_lay RX5 TX5 6, u_lay RX5 TX5 7, u_lay RX5 TX5 8, u_lay RX5 TX5 9], w ∈ xws
  exact List.forall_mem_cons.mpr ⟨xwd_in xla_5_0 rfl, List.forall_mem_cons.mpr ⟨xwd_in xla_5_1 rfl, List.forall_mem_cons.mpr ⟨xwd_in xla_5_2 rfl, List.forall_mem_cons.mpr ⟨xwd_in xla_5_3 rfl, List.forall_mem_cons.mpr ⟨xwd_in xla_5_4 rfl, List.forall_mem_cons.mpr ⟨xwd_in xla_5_5 rfl, List.forall_mem_cons.mpr ⟨xwd_in xla_5_6 rfl, List.forall_mem_cons.mpr ⟨xwd_in xla_5_7 rfl, List.forall_mem_cons.mpr ⟨xwd_in xla_5_8 rfl, List.forall_mem_cons.mpr ⟨xwd_in xla_5_9 rfl, fun _ h => absurd h List.not_mem_nil⟩⟩⟩⟩⟩⟩⟩⟩⟩⟩
set_option maxRecDepth 100000 in
theorem xin_5 : lw_tbl[228]? = some (.instantiable RX5 10) ∧ lw_tbl[77]? = some (.initialized RX5) := ⟨rfl, rfl⟩
theorem xdf_5 : ∀ k, k < 10 → defaultValue (tyX5 k) = vp_V (xdf.getD 5 []) k := by decide +kernel
set_option maxRecDepth 100000 in
theorem xla_6_0 : lw_tbl[180]? = some (u_lay RX6 TX6 0) := rfl
set_option maxRecDepth 100000 in
theorem xla_6_1 : lw_tbl[182]? = some (u_lay RX6 TX6 1) := rfl
set_option maxRecDepth 100000 in
theorem xla_6_2 : lw_tbl[184]? = some (u_lay RX6 TX6 2) := rfl
theorem xla_6 : ∀ w ∈ u_ws RX6 TX6 3, w ∈ xws := by
  show ∀ w ∈ [u_lay RX6 TX6 0, u_lay RX6 TX6 1, u_lay RX6 TX6 2], w ∈ xws
  exact List.forall_mem_cons.mpr ⟨xwd_in xla_6_0 rfl, List.forall_mem_cons.mpr ⟨xwd_in xla_6_1 rfl, List.forall_mem_cons.mpr ⟨xwd_in xla_6_2 rfl, fun _ h => absurd h List.not_mem_nil⟩⟩⟩
set_option maxRecDepth 100000 in
theorem xin_6 : lw_tbl[171]? = some (.instantiable RX6 3) ∧ lw_tbl[75]? = some (.initialized RX6) := ⟨rfl, rfl⟩
theorem xdf_6 : ∀ k, k < 3 → defaultValue (tyX6 k) = vp_V (xdf.getD 6 []) k := by decide +kernel
set_option maxRecDepth 100000 in
theorem xla_7_0 : lw_tbl[161]? = some (u_lay RX7 TX7 0) := rfl
set_option maxRecDepth 100000 in
theorem xla_7_1 : lw_tbl[163]? = some (u_lay RX7 TX7 1) := rfl
set_option maxRecDepth 100000 in
theorem xla_7_2 : lw_tbl[165]? = some (u_lay RX7 TX7 2) := rfl
set_option maxRecDepth 100000 in
theorem xla_7_3 : lw_tbl[167]? = some (u_lay RX7 TX7 3) := rfl
theorem xla_7 : ∀ w ∈ u_ws RX7 TX7 4, w ∈ xws := by
  show ∀ w ∈ [u_lay RX7 TX7 0, u_lay RX7 TX7 1, u_lay RX7 TX7 2, u_lay RX7 TX7 3], w ∈ xws
  exact List.forall_mem_cons.mpr ⟨xwd_in xla_7_0 rfl, List.forall_mem_cons.mpr ⟨xwd_in xla_7_1 rfl, List.forall_mem_cons.mpr ⟨xwd_in xla_7_2 rfl, List.forall_mem_cons.mpr ⟨xwd_in xla_7_3 rfl, fun _ h => absurd h List.not_mem_nil⟩⟩⟩⟩
set_option maxRecDepth 100000 in
theorem xin_7 : lw_tbl[152]? = some (.instantiable RX7 4) ∧ lw_tbl[74]? = some (.initialized RX7) := ⟨rfl, rfl⟩
theorem xdf_7 : ∀ k, k < 4 → defaultValue (tyX7 k) = vp_V (xdf.getD 7 []) k := by decide +kernel
set_option maxRecDepth 100000 in
theorem xla_8_0 : lw_tbl[113]? = some (u_lay RX8 TX8 0) := rfl
set_option maxRecDepth 100000 in
theorem xla_8_1 : lw_tbl[115]? = some (u_lay RX8 TX8 1) := rfl
set_option maxRecDepth 100000 in
theorem xla_8_2 : lw_tbl[117]? = some (u_lay RX8 TX8 2) := rfl
theorem xla_8 : ∀ w ∈ u_ws RX8 TX8 3, w ∈ xws := by
  show ∀ w ∈ [u_lay RX8 TX8 0, u_lay RX8 TX8 1, u_lay RX8 TX8 2], w ∈ xws
  exact List.forall_mem_cons.mpr ⟨xwd_in xla_8_0 rfl, List.forall_mem_cons.mpr ⟨xwd_in xla_8_1 rfl, List.forall_mem_cons.mpr ⟨xwd_in xla_8_2 rfl, fun _ h => absurd h List.not_mem_nil⟩⟩⟩
set_option maxRecDepth 100000 in
theorem xin_8 : lw_tbl[105]? = some (.instantiable RX8 3) ∧ lw_tbl[73]? = some (.initialized RX8) := ⟨rfl, rfl⟩
theorem xdf_8 : ∀ k, k < 3 → defaultValue (tyX8 k) = vp_V (xdf.getD 8 []) k := by decide +kernel
set_option maxRecDepth 100000 in
theorem xla_9_0 : lw_tbl[199]? = some (u_lay RX9 TX9 0) := rfl
set_option maxRecDepth 100000 in
theorem xla_9_1 : lw_tbl[201]? = some (u_lay RX9 TX9 1) := rfl
set_option maxRecDepth 100000 in
theorem xla_9_2 : lw_tbl[203]? = some (u_lay RX9 TX9 2) := rfl
set_option maxRecDepth 100000 in
theorem xla_9_3 : lw_tbl[205]? = some (u_lay RX9 TX9 3) := rfl
set_option maxRecDepth 100000 in
theorem xla_9_4 : lw_tbl[207]? = some (u_lay RX9 TX9 4) := rfl
set_option maxRecDepth 100000 in
theorem xla_9_5 : lw_tbl[209]? = some (u_lay RX9 TX9 5) := rfl
set_option maxRecDepth 100000 in
theorem xla_9_6 : lw_tbl[211]? = some (u_lay RX9 TX9 6) := rfl
set_option maxRecDepth 100000 in
theorem xla_9_7 : lw_tbl[213]? = some (u_lay RX9 TX9 7) := rfl
set_option maxRecDepth 100000 in
theorem xla_9_8 : lw_tbl[215]? = some (u_lay RX9 TX9 8) := rfl
set_option maxRecDepth 100000 in
theorem xla_9_9 : lw_tbl[217]? = some (u_lay RX9 TX9 9) := rfl
set_option maxRecDepth 100000 in
theorem xla_9_10 : lw_tbl[219]? = some (u_lay RX9 TX9 10) := rfl
set_option maxRecDepth 100000 in
theorem xla_9_11 : lw_tbl[221]? = some (u_lay RX9 TX9 11) := rfl
theorem xla_9 : ∀ w ∈ u_ws RX9 TX9 12, w ∈ xws := by
  show ∀ w ∈ [u_lay RX9 TX9 0, u_lay RX9 TX9 1, u_lay RX9 TX9 2, u_lay RX9 TX9 3, u_lay RX9 TX9 4, u_lay RX9 TX9 5, u_lay RX9 TX9 6, u_lay RX9 TX9 7, u_lay RX9 TX9 8, u_lay RX9 TX9 9, u_lay RX9 TX9 10, u_lay RX9 TX9 11], w ∈ xws
  exact List.forall_mem_cons.mpr ⟨xwd_in xla_9_0 rfl, List.forall_mem_cons.mpr ⟨xwd_in xla_9_1 rfl, List.forall_mem_cons.mpr ⟨xwd_in xla_9_2 rfl, List.forall_mem_cons.mpr ⟨xwd_in xla_9_3 rfl, List.forall_mem_cons.mpr ⟨xwd_in xla_9_4 rfl, List.forall_mem_cons.mpr ⟨xwd_in xla_9_5 rfl, List.forall_mem_cons.mpr ⟨xwd_in xla_9_6 rfl, List.forall_mem_cons.mpr ⟨xwd_in xla_9_7 rfl, List.forall_mem_cons.mpr ⟨xwd_in xla_9_8 rfl, List.forall_mem_cons.mpr ⟨xwd_in xla_9_9 rfl, List.forall_mem_cons.mpr ⟨xwd_in xla_9_10 rfl, List.forall_mem_cons.mpr ⟨xwd_in xla_9_11 rfl, fun _ h => absurd h List.not_mem_nil⟩⟩⟩⟩⟩⟩⟩⟩⟩⟩⟩⟩
set_option maxRecDepth 100000 in
theorem xin_9 : lw_tbl[89]? = some (.instantiable RX9 12) ∧ lw_tbl[71]? = some (.initialized RX9) := ⟨rfl, rfl⟩
theorem xdf_9 : ∀ k, k < 12 → defaultValue (tyX9 k) = vp_V (xdf.getD 9 []) k := by decide +kernel
set_option maxRecDepth 100000 in
theorem xla_10_0 : lw_tbl[1057]? = some (u_lay RX10 TX10 0) := rfl
set_option maxRecDepth 100000 in
theorem xla_10_1 : lw_tbl[1059]? = some (u_lay RX10 TX10 1) := rfl
set_option maxRecDepth 100000 in
theorem xla_10_2 : lw_tbl[1061]? = some (u_lay RX10 TX10 2) := rfl
set_option maxRecDepth 100000 in
theorem xla_10_3 : lw_tbl[1063]? = some (u_lay RX10 TX10 3) := rfl
set_option maxRecDepth 100000 in
theorem xla_10_4 : lw_tbl[1065]? = some (u_lay RX10 TX10 4) := rfl
set_option maxRecDepth 100000 in
theorem xla_10_5 : lw_tbl[1067]? = some (u_lay RX10 TX10 5) := rfl
set_option maxRecDepth 100000 in
theorem xla_10_6 : lw_tbl[1069]? = some (u_lay RX10 TX10 6) := rfl
set_option maxRecDepth 100000 in
theorem xla_10_7 : lw_tbl[1071]? = some (u_lay RX10 TX10 7) := rfl
set_option maxRecDepth 100000 in
theorem xla_10_8 : lw_tbl[1073]? = some (u_lay RX10 TX10 8) := rfl
set_option maxRecDepth 100000 in
theorem xla_10_9 : lw_tbl[1075]? = some (u_lay RX10 TX10 9) := rfl
set_option maxRecDepth 100000 in
theorem xla_10_10 : lw_tbl[1077]? = some (u_lay RX10 TX10 10) := rfl
set_option maxRecDepth 100000 in
theorem xla_10_11 : lw_tbl[1079]? = some (u_lay RX10 TX10 11) := rfl
set_option maxRecDepth 100000 in
theorem xla_10_12 : lw_tbl[1081]? = some (u_lay RX10 TX10 12) := rfl
set_option maxRecDepth 100000 in
theorem xla_10_13 : lw_tbl[1083]? = some (u_lay RX10 TX10 13) := rfl
set_option maxRecDepth 100000 in
theorem xla_10_14 : lw_tbl[1085]? = some (u_lay RX10 TX10 14) := rfl
set_option maxRecDepth 100000 in
theorem xla_10_15 : lw_tbl[1087]? = some (u_lay RX10 TX10 15) := rfl
set_option maxRecDepth 100000 in
theorem xla_10_16 : lw_tbl[1089]? = some (u_lay RX10 TX10 16) := rfl
set_option maxRecDepth 100000 in
theorem xla_10_17 : lw_tbl[1091]? = some (u_lay RX10 TX10 17) := rfl
set_option maxRecDepth 100000 in
theorem xla_10_18 : lw_tbl[1093]? = some (u_lay RX10 TX10 18) := rfl
set_option maxRecDepth 100000 in
theorem xla_10_19 : lw_tbl[1095]? = some (u_lay RX10 TX10 19) := rfl
set_option maxRecDepth 100000 in
theorem xla_10_20 : lw_tbl[1097]? = some (u_lay RX10 TX10 20) := rfl
set_option maxRecDepth 100000 in
theorem xla_10_21 : lw_tbl[1099]? = some (u_lay RX10 TX10 21) := rfl
set_option maxRecDepth 100000 in
theorem xla_10_22 : lw_tbl[1101]? = some (u_lay RX10 TX10 22) := rfl
set_option maxRecDepth 100000 in
theorem xla_10_23 : lw_tbl[1103]? = some (u_lay RX10 TX10 23) := rfl
set_option maxRecDepth 100000 in
theorem xla_10_24 : lw_tbl[1105]? = some (u_lay RX10 TX10 24) := rfl
set_option maxRecDepth 100000 in
theorem xla_10_25 : lw_tbl[1107]? = some (u_lay RX10 TX10 25) := rfl
set_option maxRecDepth 100000 in
theorem xla_10_26 : lw_tbl[1109]? = some (u_lay RX10 TX10 26) := rfl
set_option maxRecDepth 100000 in
theorem xla_10_27 : lw_tbl[1111]? = some (u_lay RX10 TX10 27) := rfl
set_option maxRecDepth 100000 in
theorem xla_10_28 : lw_tbl[1113]? = some (u_lay RX10 TX10 28) := rfl
set_option maxRecDepth 100000 in
theorem xla_10_29 : lw_tbl[1115]? = some (u_lay RX10 TX10 29) := rfl
set_option maxRecDepth 100000 in
theorem xla_10_30 : lw_tbl[1117]? = some (u_lay RX10 TX10 30) := rfl
set_option maxRecDepth 100000 in
theorem xla_10_31 : lw_tbl[1119]? = some (u_lay RX10 TX10 31) := rfl
set_option maxRecDepth 100000 in
theorem xla_10_32 : lw_tbl[1121]? = some (u_lay RX10 TX10 32) := rfl
set_option maxRecDepth 100000 in
theorem xla_10_33 : lw_tbl[1123]? = some (u_lay RX10 TX10 33) := rfl
set_option maxRecDepth 100000 in
theorem xla_10_34 : lw_tbl[1125]? = some (u_lay RX10 TX10 34) := rfl
set_option maxRecDepth 100000 in
theorem xla_10_35 : lw_tbl[1127]? = some (u_lay RX10 TX10 35) := rfl
set_option maxRecDepth 100000 in
theorem xla_10_36 : lw_tbl[1129]? = some (u_lay RX10 TX10 36) := rfl
set_option maxRecDepth 100000 in
theorem xla_10_37 : lw_tbl[1131]? = some (u_lay RX10 TX10 37) := rfl
set_option maxRecDepth 100000 in
theorem xla_10_38 : lw_tbl[1133]? = some (u_lay RX10 TX10 38) := rfl
set_option maxRecDepth 100000 in
theorem xla_10_39 : lw_tbl[1135]? = some (u_lay RX10 TX10 39) := rfl
set_option maxRecDepth 100000 in
theorem xla_10_40 : lw_tbl[1137]? = some (u_lay RX10 TX10 40) := rfl
set_option maxRecDepth 100000 in
theorem xla_10_41 : lw_tbl[1139]? = some (u_lay RX10 TX10 41) := rfl
set_option maxRecDepth 100000 in
theorem xla_10_42 : lw_tbl[1141]? = some (u_lay RX10 TX10 42) := rfl
set_option maxRecDepth 100000 in
theorem xla_10_43 : lw_tbl[1143]? = some (u_lay RX10 TX10 43) := rfl
set_option maxRecDepth 100000 in
theorem xla_10_44 : lw_tbl[1145]? = some (u_lay RX10 TX10 44) := rfl
set_option maxRecDepth 100000 in
theorem xla_10_45 : lw_tbl[1147]? = some (u_lay RX10 TX10 45) := rfl
set_option maxRecDepth 100000 in
theorem xla_10_46 : lw_tbl[1149]? = some (u_lay RX10 TX10 46) := rfl
set_option maxRecDepth 100000 in
theorem xla_10_47 : lw_tbl[1151]? = some (u_lay RX10 TX10 47) := rfl
set_option maxRecDepth 100000 in
theorem xla_10_48 : lw_tbl[1153]? = some (u_lay RX10 TX10 48) := rfl
set_option maxRecDepth 100000 in
theorem xla_10_49 : lw_tbl[1155]? = some (u_lay RX10 TX10 49) := rfl
set_option maxRecDepth 100000 in
theorem xla_10_50 : lw_tbl[1157]? = some (u_lay RX10 TX10 50) := rfl
set_option maxRecDepth 100000 in
theorem xla_10_51 : lw_tbl[1159]? = some (u_lay RX10 TX10 51) := rfl
theorem xla_10 : ∀ w ∈ u_ws RX10 TX10 52, w ∈ xws := by
  show ∀ w ∈ [u_lay RX10 TX10 0, u_lay RX10 TX10 1, u_lay RX10 TX10 2, u_lay RX10 TX10 3, u_lay RX10 TX10 4, u_lay RX10 TX10 5, u_lay RX10 TX10 6, u_lay RX10 TX10 7, u_lay RX10 TX10 8, u_lay RX10 TX10 9, u_lay RX10 TX10 10, u_lay RX10 TX10 11, u_lay RX10 TX10 12, u_lay RX10 TX10 13, u_lay RX10 TX10 14, u_lay RX10 TX10 15, u_lay RX10 TX10 16, u_lay RX10 TX10 17, u_lay RX10 TX10 18, u_lay RX10 TX10 19, u_lay RX10 TX10 20, u_lay RX10 TX10 21, u_lay RX10 TX10 22, u_lay RX10 TX10 23, u_lay RX10 TX10 24, u_lay RX10 TX10 25, u_lay RX10 TX10 26, u_lay RX10 TX10 27, u_lay RX10 TX10 28, u_lay RX10 TX10 29, u_lay RX10 TX10 30, u_lay RX10 TX10 31, u_lay RX10 TX10 32, u_lay RX10 TX10 33, u_lay RX10 TX10 34, u_lay RX10 TX10 35, u_lay RX10 TX10 36, u_lay RX10 TX10 37, u_lay RX10 TX10 38, u_lay RX10 TX10 39, u_lay RX10 TX10 40, u_lay RX10 TX10 41, u_lay RX10 TX10 42, u_lay RX10 TX10 43, u_lay RX10 TX10 44, u_lay RX10 TX10 45, u_lay RX10 TX10 46, u_lay RX10 TX10 47, u_lay RX10 TX10 48, u_lay RX10 TX10 49, u_lay RX10 TX10 50, u_lay RX10 TX10 51], w ∈ xws
  exact List.forall_mem_cons.mpr ⟨xwd_in xla_10_0 rfl, List.forall_mem_cons.mpr ⟨xwd_in xla_10_1 rfl, List.forall_mem_cons.mpr ⟨xwd_in xla_10_2 rfl, List.forall_mem_cons.mpr ⟨xwd_in xla_10_3 rfl, List.forall_mem_cons.mpr ⟨xwd_in xla_10_4 rfl, List.forall_mem_cons.mpr ⟨xwd_in xla_10_5 rfl, List.forall_mem_cons.mpr ⟨xwd_in xla_10_6 rfl, List.forall_mem_cons.mpr ⟨xwd_in xla_10_7 rfl, List.forall_mem_cons.mpr ⟨xwd_in xla_10_8 rfl, List.forall_mem_cons.mpr ⟨xwd_in xla_10_9 rfl, List.forall_mem_cons.mpr ⟨xwd_in xla_10_10 rfl, List.forall_mem_cons.mpr ⟨xwd_in xla_10_11 rfl, List.forall_mem_cons.mpr ⟨xwd_in xla_10_12 rfl, List.forall_mem_cons.mpr ⟨xwd_in xla_10_13 rfl, List.forall_mem_cons.mpr ⟨xwd_in xla_10_14 rfl, List.forall_mem_cons.mpr ⟨xwd_in xla_10_15 rfl, List.forall_mem_cons.mpr ⟨xwd_in xla_10_16 rfl, List.forall_mem_cons.mpr ⟨xwd_in xla_10_17 rfl, List.forall_mem_cons.mpr ⟨xwd_in xla_10_18 rfl, List.forall_mem_cons.mpr ⟨xwd_in xla_10_19 rfl, List.forall_mem_cons.mpr ⟨xwd_in xla_10_20 rfl, List.forall_mem_cons.mpr ⟨xwd_in xla_10_21 rfl, List.forall_mem_cons.mpr ⟨xwd_in xla_10_22 rfl, List.forall_mem_cons.mpr ⟨xwd_in xla_10_23 rfl, List.forall_mem_cons.mpr ⟨xwd_in xla_10_24 rfl, List.forall_mem_cons.mpr ⟨xwd_in xla_10_25 rfl, List.forall_mem_cons.mpr ⟨xwd_in xla_10_26 rfl, List.forall_mem_cons.mpr ⟨xwd_in xla_10_27 rfl, List.forall_mem_cons.mpr ⟨xwd_in xla_10_28 rfl, List.forall_mem_cons.mpr ⟨xwd_in xla_10_29 rfl, List.forall_mem_cons.mpr ⟨xwd_in xla_10_30 rfl, List.forall_mem_cons.mpr ⟨xwd_in xla_10_31 rfl, List.forall_mem_cons.mpr ⟨xwd_in xla_10_32 rfl, List.forall_mem_cons.mpr ⟨xwd_in xla_10_33 rfl, List.forall_mem_cons.mpr ⟨xwd_in xla_10_34 rfl, List.forall_mem_cons.mpr ⟨xwd_in xla_10_35 rfl, List.forall_mem_cons.mpr ⟨xwd_in xla_10_36 rfl, List.forall_mem_cons.mpr ⟨xwd_in xla_10_37 rfl, List.forall_mem_cons.mpr ⟨xwd_in xla_10_38 rfl, List.forall_mem_cons.mpr ⟨xwd_in xla_10_39 rfl, List.forall_mem_cons.mpr ⟨xwd_in xla_10_40 rfl, List.forall_mem_cons.mpr ⟨xwd_in xla_10_41 rfl, List.forall_mem_cons.mpr ⟨xwd_in xla_10_42 rfl, List.forall_mem_cons.mpr ⟨xwd_in xla_10_43 rfl, List.forall_mem_cons.mpr ⟨xwd_in xla_10_44 rfl, List.forall_mem_cons.mpr ⟨xwd_in xla_10_45 rfl, List.forall_mem_cons.mpr ⟨xwd_in xla_10_46 rfl, List.forall_mem_cons.mpr ⟨xwd_in xla_10_47 rfl, List.forall_mem_cons.mpr ⟨xwd_in xla_10_48 rfl, List.forall_mem_cons.mpr ⟨xwd_in xla_10_49 rfl, List.forall_mem_cons.mpr ⟨xwd_in xla_10_50 rfl, List.forall_mem_cons.mpr ⟨xwd_in xla_10_51 rfl, fun _ h => absurd h List.not_mem_nil⟩⟩⟩⟩⟩⟩⟩⟩⟩⟩⟩⟩⟩⟩⟩⟩⟩⟩⟩⟩⟩⟩⟩⟩⟩⟩⟩⟩⟩⟩⟩⟩⟩⟩⟩⟩⟩⟩⟩⟩⟩⟩⟩⟩⟩⟩⟩⟩⟩⟩⟩⟩
set_option maxRecDepth 100000 in
theorem xin_10 : lw_tbl[999]? = some (.instantiable RX10 52) ∧ lw_tbl[76]? = some (.initialized RX10) := ⟨rfl, rfl⟩
theorem xdf_10 : ∀ k, k < 52 → defaultValue (tyX10 k) = vp_V (xdf.getD 10 []) k := by decide +kernel
def xty (ci k : Nat) : FieldType := (xCt.getD ci (fun _ => .int)) k
/-- what holds of each class -/
def xcq (ci : Nat) : Prop := (∀ w ∈ u_ws (xcl ci).1 (xcl ci).2.1 (xcl ci).2.2, w ∈ xws) ∧ (Cond.instantiable (xcl ci).1 (xcl ci).2.2 ∈ xws ∧ Cond.initialized (xcl ci).1 ∈ xws) ∧ (∀ k, k < (xcl ci).2.2 → parseFieldDescriptor ((xcl ci).2.1 k).2.2.1 = some (xty ci k)) ∧ (∀ a, a < (xcl ci).2.2 → ∀ b, b < (xcl ci).2.2 → a ≠ b → ((xcl ci).2.1 a).2.1 ≠ ((xcl ci).2.1 b).2.1) ∧ (∀ k, k < (xcl ci).2.2 → defaultValue (xty ci k) = vp_V (xdf.getD ci []) k) ∧ vwCl[ci]? = some (xcl ci) ∧ (xdf.getD ci []).length = (xcl ci).2.2
theorem xcq_0 : xcq 0 := ⟨xla_0, ⟨xwd_in xin_0.1 rfl, xwd_in xin_0.2 rfl⟩, tyX0_ok, nmX0, xdf_0, rfl, rfl⟩
theorem xcq_1 : xcq 1 := ⟨xla_1, ⟨xwd_in xin_1.1 rfl, xwd_in xin_1.2 rfl⟩, tyX1_ok, nmX1, xdf_1, rfl, rfl⟩
theorem xcq_2 : xcq 2 := ⟨xla_2, ⟨xwd_in xin_2.1 rfl, xwd_in xin_2.2 rfl⟩, tyX2_ok, nmX2, xdf_2, rfl, rfl⟩
theorem xcq_3 : xcq 3 := ⟨xla_3, ⟨xwd_in xin_3.1 rfl, xwd_in xin_3.2 rfl⟩, tyX3_ok, nmX3, xdf_3, rfl, rfl⟩
theorem xcq_4 : xcq 4 := ⟨xla_4, ⟨xwd_in xin_4.1 rfl, xwd_in xin_4.2 rfl⟩, tyX4_ok, nmX4, xdf_4, rfl, rfl⟩
theorem xcq_5 : xcq 5 := ⟨xla_5, ⟨xwd_in xin_5.1 rfl, xwd_in xin_5.2 rfl⟩, tyX5_ok, nmX5, xdf_5, rfl, rfl⟩
theorem xcq_6 : xcq 6 := ⟨xla_6, ⟨xwd_in xin_6.1 rfl, xwd_in xin_6.2 rfl⟩, tyX6_ok, nmX6, xdf_6, rfl, rfl⟩
theorem xcq_7 : xcq 7 := ⟨xla_7, ⟨xwd_in xin_7.1 rfl, xwd_in xin_7.2 rfl⟩, tyX7_ok, nmX7, xdf_7, rfl, rfl⟩
theorem xcq_8 : xcq 8 := ⟨xla_8, ⟨xwd_in xin_8.1 rfl, xwd_in xin_8.2 rfl⟩, tyX8_ok, nmX8, xdf_8, rfl, rfl⟩
theorem xcq_9 : xcq 9 := ⟨xla_9, ⟨xwd_in xin_9.1 rfl, xwd_in xin_9.2 rfl⟩, tyX9_ok, nmX9, xdf_9, rfl, rfl⟩
theorem xcq_10 : xcq 10 := ⟨xla_10, ⟨xwd_in xin_10.1 rfl, xwd_in xin_10.2 rfl⟩, tyX10_ok, nmX10, xdf_10, rfl, rfl⟩
theorem xcq_ok (ci : Nat) (h : ci < 11) : xcq ci := by
  by_cases h0 : ci = 0
  · subst h0; exact xcq_0
  by_cases h1 : ci = 1
  · subst h1; exact xcq_1
  by_cases h2 : ci = 2
  · subst h2; exact xcq_2
  by_cases h3 : ci = 3
  · subst h3; exact xcq_3
  by_cases h4 : ci = 4
  · subst h4; exact xcq_4
  by_cases h5 : ci = 5
  · subst h5; exact xcq_5
  by_cases h6 : ci = 6
  · subst h6; exact xcq_6
  by_cases h7 : ci = 7
  · subst h7; exact xcq_7
  by_cases h8 : ci = 8
  · subst h8; exact xcq_8
  by_cases h9 : ci = 9
  · subst h9; exact xcq_9
  by_cases h10 : ci = 10
  · subst h10; exact xcq_10
  exact absurd h (by omega)

/-! THE LAW'S START, out of what the Statement gives -/
/-- what is left to prove, of the small machine alone: on every script the law's run ends with 1, within the room -/
def xlawP : Prop := ∀ (V : xV) (n0 : Nat), V.2.2.1 ≤ 3072 → V.2.1 < n0 → V.1 < n0 → (V.1 = V.2.1 → V.2.2.1 = 21 ∧ ∀ i, i < 21 → V.2.2.2 i = xparts i) → ∃ (n : Nat) (h1 : xH), xev V n 198 0 [(0, .ref V.2.1)] [] ((fun _ => none), n0, 0, 0) = some (.inl (some (.int 1)), h1) ∧ h1.2.2.1 ≤ 601024 ∧ h1.2.2.2 ≤ 7293034
theorem xskol {α : Type} {P : Nat → α → Prop} (h : ∀ k, ∃ a, P k a) : ∃ f : Nat → α, ∀ k, P k (f k) := ⟨fun k => Classical.choose (h k), fun k => Classical.choose_spec (h k)⟩
theorem xflat_el : ∀ j, j < 21 → Cond.eq (.elem (.static "RegionYard" "PARTS" "[I") (.int (Int32.ofNat j))) (.int (xparts j)) ∈ flatC (Jvm.Cond.and given_1 narrow_1) := by decide +kernel
theorem xflat_len : Cond.eq (.length (.static "RegionYard" "PARTS" "[I")) (.int 21) ∈ flatC (Jvm.Cond.and given_1 narrow_1) := by decide +kernel
theorem xflat_arr : Cond.arrayOf (.static "RegionYard" "PARTS" "[I") .int ∈ flatC (Jvm.Cond.and given_1 narrow_1) := by decide +kernel
theorem xflat_st : ∀ q ∈ xstr, Cond.exactly (.string RX9 q) "java/lang/String" ∈ flatC (Jvm.Cond.and given_1 narrow_1) := by decide +kernel
theorem xflat_U : Cond.isRef (.static Bundle.tN "UNASSIGNED_STACK" Bundle.steD) ∈ flatC (Jvm.Cond.and given_1 narrow_1) := by decide +kernel
theorem xflat_N : Cond.isRef (.static Bundle.tN "SUPPRESSED_SENTINEL" Bundle.listD) ∈ flatC (Jvm.Cond.and given_1 narrow_1) := by decide +kernel
set_option maxRecDepth 100000 in
theorem xl_P : lw_tbl[311]? = some (.laysStatic "RegionYard" "PARTS" "[I") := rfl
set_option maxRecDepth 100000 in
theorem xl_U : lw_tbl[856]? = some (.laysStatic Bundle.tN "UNASSIGNED_STACK" Bundle.steD) := rfl
set_option maxRecDepth 100000 in
theorem xl_N : lw_tbl[858]? = some (.laysStatic Bundle.tN "SUPPRESSED_SENTINEL" Bundle.listD) := rfl
set_option maxRecDepth 100000 in
theorem xl_iT : lw_tbl[82]? = some (.initialized Bundle.tN) := rfl
set_option maxRecDepth 100000 in
theorem xl_i9 : lw_tbl[71]? = some (.initialized "RegionYard") := rfl
set_option maxRecDepth 100000 in
theorem xl_s132 : lw_tbl[869]? = some (.stringRef RX9 132 "no such program") := rfl
set_option maxRecDepth 100000 in
theorem xl_s153 : lw_tbl[900]? = some (.stringRef RX9 153 "no such number of a program") := rfl
set_option maxRecDepth 100000 in
theorem xl_s215 : lw_tbl[941]? = some (.stringRef RX9 215 "no such process") := rfl
set_option maxRecDepth 100000 in
theorem xl_s236 : lw_tbl[943]? = some (.stringRef RX9 236 "no such number of a process") := rfl
set_option maxRecDepth 100000 in
theorem xl_s241 : lw_tbl[951]? = some (.stringRef RX9 241 "no such process or register") := rfl
set_option maxRecDepth 100000 in
theorem xl_s254 : lw_tbl[967]? = some (.stringRef RX9 254 "no such process or offset") := rfl
set_option maxRecDepth 100000 in
theorem xl_s259 : lw_tbl[976]? = some (.stringRef RX9 259 "no such cell") := rfl
set_option maxRecDepth 100000 in
theorem xl_s270 : lw_tbl[997]? = some (.stringRef RX9 270 "no such count") := rfl
set_option maxRecDepth 100000 in
theorem xl_s203 : lw_tbl[918]? = some (.stringRef RX9 203 "not 0 .. 5000 ticks") := rfl
set_option maxRecDepth 100000 in
theorem xl_s209 : lw_tbl[933]? = some (.stringRef RX9 209 "not 1 .. 100 instructions") := rfl
theorem xl_s : ∀ q ∈ xstr, ∃ tx, Cond.stringRef RX9 q tx ∈ lw_tbl := List.forall_mem_cons.mpr ⟨⟨_, List.mem_of_getElem? xl_s132⟩, List.forall_mem_cons.mpr ⟨⟨_, List.mem_of_getElem? xl_s153⟩, List.forall_mem_cons.mpr ⟨⟨_, List.mem_of_getElem? xl_s215⟩, List.forall_mem_cons.mpr ⟨⟨_, List.mem_of_getElem? xl_s236⟩, List.forall_mem_cons.mpr ⟨⟨_, List.mem_of_getElem? xl_s241⟩, List.forall_mem_cons.mpr ⟨⟨_, List.mem_of_getElem? xl_s254⟩, List.forall_mem_cons.mpr ⟨⟨_, List.mem_of_getElem? xl_s259⟩, List.forall_mem_cons.mpr ⟨⟨_, List.mem_of_getElem? xl_s270⟩, List.forall_mem_cons.mpr ⟨⟨_, List.mem_of_getElem? xl_s203⟩, List.forall_mem_cons.mpr ⟨⟨_, List.mem_of_getElem? xl_s209⟩, fun _ h => absurd h List.not_mem_nil⟩⟩⟩⟩⟩⟩⟩⟩⟩⟩
set_option maxRecDepth 100000 in
theorem xl_b0 : lw_tbl[831]? = some (.castable xNS xNS) := rfl
set_option maxRecDepth 100000 in
theorem xl_b1 : lw_tbl[911]? = some (.castable xIA xIA) := rfl
set_option maxRecDepth 100000 in
theorem xl_b2 : lw_tbl[833]? = some (.declares ⟨"java/lang/RuntimeException", "<init>", "(Ljava/lang/String;)V"⟩) := rfl
set_option maxRecDepth 100000 in
theorem xl_b3 : lw_tbl[835]? = some (.declares ⟨"java/lang/Exception", "<init>", "(Ljava/lang/String;)V"⟩) := rfl
set_option maxRecDepth 100000 in
theorem xl_b4 : lw_tbl[837]? = some (.declares ⟨"java/lang/Throwable", "<init>", "(Ljava/lang/String;)V"⟩) := rfl
theorem xl_b : ∀ w ∈ xbw, w ∈ lw_tbl := List.forall_mem_cons.mpr ⟨List.mem_of_getElem? xl_b0, List.forall_mem_cons.mpr ⟨List.mem_of_getElem? xl_b1, List.forall_mem_cons.mpr ⟨List.mem_of_getElem? xl_b2, List.forall_mem_cons.mpr ⟨List.mem_of_getElem? xl_b3, List.forall_mem_cons.mpr ⟨List.mem_of_getElem? xl_b4, fun _ h => absurd h List.not_mem_nil⟩⟩⟩⟩⟩
set_option maxRecDepth 100000 in
theorem xl_a3 : lw_tbl[236]? = some (.arrayOver (.object (xcl (xkc 3)).1)) := rfl
set_option maxRecDepth 100000 in
theorem xl_a4 : lw_tbl[234]? = some (.arrayOver (.object (xcl (xkc 4)).1)) := rfl
set_option maxRecDepth 100000 in
theorem xl_a5 : lw_tbl[238]? = some (.arrayOver (.object (xcl (xkc 5)).1)) := rfl
set_option maxRecDepth 100000 in
theorem xl_a6 : lw_tbl[150]? = some (.arrayOver (.object (xcl (xkc 6)).1)) := rfl
set_option maxRecDepth 100000 in
theorem xl_a7 : lw_tbl[97]? = some (.arrayOver (.object (xcl (xkc 7)).1)) := rfl
theorem xl_a (k : Nat) (h1 : 3 ≤ k) (h2 : k < 8) : Cond.arrayOver (.object (xcl (xkc k)).1) ∈ lw_tbl := by
  match k, h1, h2 with
  | 3, _, _ => exact List.mem_of_getElem? xl_a3
  | 4, _, _ => exact List.mem_of_getElem? xl_a4
  | 5, _, _ => exact List.mem_of_getElem? xl_a5
  | 6, _, _ => exact List.mem_of_getElem? xl_a6
  | 7, _, _ => exact List.mem_of_getElem? xl_a7
theorem xtk_all {k : Nat} (h1 : 3 ≤ k) (h2 : k < 8) : xtk k = .object (xcl (xkc k)).1 := by
  match k, h1, h2 with
  | 3, _, _ => rfl
  | 4, _, _ => rfl
  | 5, _, _ => rfl
  | 6, _, _ => rfl
  | 7, _, _ => rfl
theorem xws_lw {w : Cond} (h : w ∈ xws) : w ∈ lw_tbl := (List.mem_filter.mp h).1
theorem xenv_law {s : State} {b L : Nat} {xs : Nat → Int32} (hts : ∀ w ∈ lw_tbl, w.before #[Value.ref b] s = true) (hX : va_X b L xs s s.heap) (hbl : b < s.heap.size) (hgv : (Jvm.Cond.and given_1 narrow_1).before #[Value.ref b] s = true) :
    ∃ (sp : Nat) (D : va_G) (cy : Nat → ClassId), xenv (sp, b, L, xs) D cy s.heap.size s ∧ sp < s.heap.size ∧ (sp = b → L % 4294967296 = 21 ∧ ∀ i, i < 21 → i < L → xs i = xparts i) := by
  have hA : ∀ a : Nat, a < s.heap.size → ¬ xAd s.heap.size a := fun a h => Nat.not_le.mpr h
  have hg := flat_of_before _ hgv
  obtain ⟨sp, hev, hT⟩ := va_Tof (args := #[Value.ref b]) (s := s) (tm := .static "RegionYard" "PARTS" "[I") (ty := .int) (N := 21) (f := fun i => .int (xparts i)) (A := xAd s.heap.size) (by decide) (hg _ xflat_arr) (va_eqt (hg _ xflat_len)) (fun j hj => va_eqt (hg _ (xflat_el j hj))) hA
  have hZ : va_Z "RegionYard" "PARTS" "[I" (.ref sp) (xAd s.heap.size) s s.heap := va_Zref (hts _ (List.mem_of_getElem? xl_P)) (hts _ (List.mem_of_getElem? xl_i9)) hev hA
  have hcls : ∀ ci, ∃ q : ClassId × (Nat → Nat), ci < 11 → u_Kn s (xcl ci).1 (xcl ci).2.1 (xcl ci).2.2 q.1 q.2 := by
    intro ci
    by_cases h : ci < 11
    · obtain ⟨h1, ⟨h2, -⟩, -⟩ := xcq_ok ci h
      obtain ⟨c, i, hk⟩ := u_known (args := #[Value.ref b]) (s := s) (n := (xcl ci).2.2) hts (fun w hw => xws_lw (h1 w hw)) (hts _ (xws_lw h2))
      exact ⟨(c, i), fun _ => hk⟩
    · exact ⟨(0, fun _ => 0), fun z => absurd z h⟩
  obtain ⟨d, hd⟩ := xskol hcls
  have hcy : ∀ k, ∃ cA : ClassId, k < 8 → ArrOfT s cA (xtk k) ∧ va_RA s cA (xtk k) := by
    intro k
    by_cases h : k < 8
    · by_cases h3 : 3 ≤ k
      · obtain ⟨comp, c, kA, h1, h2, h4, h5, h6⟩ := Cond.arrayOver_spec (hts _ (xl_a k h3 h))
        refine ⟨c, fun _ => ?_⟩
        rw [xtk_all h3 h]
        exact ⟨fun n z => ⟨fun k h => (by cases h), kA, h4, comp, h5⟩, kA, comp, h4, h5, h1, h6⟩
      · have h9 : k = 0 ∨ k = 1 ∨ k = 2 := by omega
        rcases h9 with rfl | rfl | rfl
        · obtain ⟨c, kA, comp, h1, h2, h3⟩ := Cond.arrayClass_spec (hts _ (xws_lw xw_ai))
          exact ⟨c, fun _ => ⟨fun n z => ⟨fun k h => (by cases h), kA, h2, comp, h3⟩, h1⟩⟩
        · obtain ⟨c, kA, comp, h1, h2, h3⟩ := Cond.arrayClass_spec (hts _ (xws_lw xw_al))
          exact ⟨c, fun _ => ⟨fun n z => ⟨fun k h => (by cases h), kA, h2, comp, h3⟩, h1⟩⟩
        · obtain ⟨c, kA, comp, h1, h2, h3⟩ := Cond.arrayClass_spec (hts _ (xws_lw xw_az))
          exact ⟨c, fun _ => ⟨fun n z => ⟨fun k h => (by cases h), kA, h2, comp, h3⟩, h1⟩⟩
    · exact ⟨0, fun z => absurd z h⟩
  obtain ⟨cy, hcy⟩ := xskol hcy
  refine ⟨sp, (fun ci => (d ci).1, fun ci => (d ci).2), cy, ⟨⟨?_, ?_⟩, ?_, hZ, hT, hX, hbl, fun k h1 h2 => va_AO.of (hts _ (xl_a k h1 h2)), ?_, ?_, vx_Zqof (hts _ (List.mem_of_getElem? xl_U)) (hts _ (List.mem_of_getElem? xl_iT)) (hg _ xflat_U) hA, vx_Zqof (hts _ (List.mem_of_getElem? xl_N)) (hts _ (List.mem_of_getElem? xl_iT)) (hg _ xflat_N) hA⟩, ?_, ?_⟩
  · intro ci q hq
    have h11 : ci < 11 := (List.getElem?_eq_some_iff.mp hq).1
    have hc := (xcq_ok ci h11).2.2.2.2.2.1
    have hq2 : q = xcl ci := Option.some.inj (hq.symm.trans hc)
    subst hq2
    exact hd ci h11
  · intro k q hq
    have h8 : k < 8 := by
      have h9 := (List.getElem?_eq_some_iff.mp hq).1
      simpa [xtys] using h9
    have hq2 : q = (cy k, xtk k) := Option.some.inj (hq.symm.trans (xtys_at h8))
    subst hq2
    exact hcy k h8
  · intro w hw
    obtain ⟨h1, h2⟩ := List.mem_filter.mp hw
    unfold xnw at h2
    split at h2
    · exact va_Nw.of rfl (hts _ h1)
    · exact va_Nw.of rfl (hts _ h1)
    · cases h2
  · intro w hw
    have h8 := List.all_eq_true.mp xbw_ca w hw
    unfold xisCa at h8
    split at h8
    · exact va_Nw.of rfl (hts _ (xl_b _ hw))
    · exact va_Nw.of rfl (hts _ (xl_b _ hw))
    · cases h8
  · intro q hq
    obtain ⟨tx, htx⟩ := xl_s q hq
    obtain ⟨a, _, _, _, ha, -⟩ := Cond.exactly_spec (hg _ (xflat_st q hq))
    exact ⟨tx, a, vk_R.of (hts _ htx) ha⟩
  · obtain ⟨cell, h1, -⟩ := hT
    exact (Array.getElem?_eq_some_iff.mp h1).1
  · intro hsb
    subst hsb
    obtain ⟨cell, h1, -, -, h4, h5, h6, -⟩ := hT
    obtain ⟨scr, g1, -, -, g4, g5⟩ := hX
    cases Option.some.inj (h1.symm.trans g1)
    refine ⟨?_, fun i hi hiL => ?_⟩
    · rw [g4] at h5
      have h7 : (Int32.ofNat L) = Int32.ofNat 21 := h5
      have h8 := congrArg (fun z => z.toBitVec.toNat) h7
      simpa [Int32.toBitVec_ofNat] using h8
    · have := (h6 i hi).symm.trans (g5 i hiL)
      simpa using this.symm

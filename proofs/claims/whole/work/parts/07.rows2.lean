/-! rows for arrays, and for what is made -/
set_option maxRecDepth 100000 in
theorem xw_ai : Cond.arrayClass .int ∈ xws := xwd_in (p := 120) rfl rfl
set_option maxRecDepth 100000 in
theorem xw_al : Cond.arrayClass .long ∈ xws := xwd_in (p := 1162) rfl rfl
set_option maxRecDepth 100000 in
theorem xw_az : Cond.arrayClass .boolean ∈ xws := xwd_in (p := 1163) rfl rfl
theorem xtk_obj {k : Nat} (h : xkc k ≠ 99) : 3 ≤ k ∧ k < 8 ∧ xkc k < 11 ∧ xtk k = .object (xcl (xkc k)).1 := by
  match k, h with
  | 3, _ => exact ⟨by decide, by decide, by decide, rfl⟩
  | 4, _ => exact ⟨by decide, by decide, by decide, rfl⟩
  | 5, _ => exact ⟨by decide, by decide, by decide, rfl⟩
  | 6, _ => exact ⟨by decide, by decide, by decide, rfl⟩
  | 7, _ => exact ⟨by decide, by decide, by decide, rfl⟩
  | 0, h => exact absurd rfl h
  | 1, h => exact absurd rfl h
  | 2, h => exact absurd rfl h
  | k + 8, h => exact absurd rfl h
section XS
variable {p : Program} {l : Launch} {e : Env} {R : Room} {s : State} {m : MethodId} {args : Array Value} {below : List Frame} {meth : Method} {c : Code} {H : Heap} {locs : List Loc} {cells slots : Nat} {Q : State → Prop}
variable {pc j n0 a : Nat} {ls : Array Slot} {rest : List Value} {D : va_G} {cy : Nat → ClassId} {V : xV} {h : xH}
theorem xr_iald (C : xc p R s m args meth c V D cy n0 j) (P : xpt D cy n0 s.heap h H locs) {n : Nat} {f : Nat → Int32} {i : Int32} (ha : h.1 a = some (.inl (0, n, .inl f))) (hin : vp_in i n) (hd : decode (xcd j) pc = .ok (.iaload, 1))
    (kk : W p l e R s m args below meth c H locs cells slots Q (F0 m (pc + 1) ls (.int (f i.toNatClampNeg) :: rest))) : W p l e R s m args below meth c H locs cells slots Q (F0 m pc ls (.int i :: .ref a :: rest)) :=
  va_iald C.1 C.2.1 C.2.2.2.2.2.2.2.2.1.1 (xone (P.1 a _ ha)) 0 0 rfl (xtys_at (by decide)) hin hd kk
theorem xr_lald (C : xc p R s m args meth c V D cy n0 j) (P : xpt D cy n0 s.heap h H locs) {n : Nat} {f : Nat → Int64} {i : Int32} (ha : h.1 a = some (.inl (1, n, .inr (.inl f)))) (hin : vp_in i n) (hd : decode (xcd j) pc = .ok (.laload, 1))
    (kk : W p l e R s m args below meth c H locs cells slots Q (F0 m (pc + 1) ls (.long (f i.toNatClampNeg) :: rest))) : W p l e R s m args below meth c H locs cells slots Q (F0 m pc ls (.int i :: .ref a :: rest)) :=
  va_lald C.1 C.2.1 C.2.2.2.2.2.2.2.2.1.1 (xone (P.1 a _ ha)) 0 1 rfl (xtys_at (by decide)) hin hd kk
theorem xr_zald (C : xc p R s m args meth c V D cy n0 j) (P : xpt D cy n0 s.heap h H locs) {n : Nat} {f : Nat → Int32} {i : Int32} (ha : h.1 a = some (.inl (2, n, .inl f))) (hin : vp_in i n) (hd : decode (xcd j) pc = .ok (.baload, 1))
    (kk : W p l e R s m args below meth c H locs cells slots Q (F0 m (pc + 1) ls (.int (f i.toNatClampNeg) :: rest))) : W p l e R s m args below meth c H locs cells slots Q (F0 m pc ls (.int i :: .ref a :: rest)) :=
  va_zald C.1 C.2.1 C.2.2.2.2.2.2.2.2.1.1 (xone (P.1 a _ ha)) 0 2 rfl (xtys_at (by decide)) hin hd kk
theorem xr_aald (C : xc p R s m args meth c V D cy n0 j) (P : xpt D cy n0 s.heap h H locs) {k n : Nat} {f : Nat → Option Nat} {i : Int32} (ha : h.1 a = some (.inl (k, n, .inr (.inr (.inr (.inr f)))))) (hk : xkc k ≠ 99) (hin : vp_in i n) (hd : decode (xcd j) pc = .ok (.aaload, 1))
    (kk : W p l e R s m args below meth c H locs cells slots Q (F0 m (pc + 1) ls (va_rf (f i.toNatClampNeg) :: rest))) : W p l e R s m args below meth c H locs cells slots Q (F0 m pc ls (.int i :: .ref a :: rest)) := by
  obtain ⟨-, g2, -, g4⟩ := xtk_obj hk
  exact va_aldq C.1 C.2.1 C.2.2.2.2.2.2.2.2.1.1 (xone (P.1 a _ ha)) 0 k rfl (by rw [xtys_at g2, g4]) hin hd kk
theorem xr_alen (C : xc p R s m args meth c V D cy n0 j) (P : xpt D cy n0 s.heap h H locs) {k : Nat} {x : vp_A} (ha : h.1 a = some (.inl (k, x))) (hk : k < 8) (hd : decode (xcd j) pc = .ok (.arraylength, 1))
    (kk : W p l e R s m args below meth c H locs cells slots Q (F0 m (pc + 1) ls (.int (Int32.ofNat x.1) :: rest))) : W p l e R s m args below meth c H locs cells slots Q (F0 m pc ls (.ref a :: rest)) :=
  va_alen C.1 C.2.1 C.2.2.2.2.2.2.2.2.1.1 (xone (P.1 a _ ha)) 0 k rfl (xtys_at hk) rfl hd kk
theorem xr_iast (C : xc p R s m args meth c V D cy n0 j) (P : xpt D cy n0 s.heap h H locs) {n : Nat} {f : Nat → Int32} {i x : Int32} (ha : h.1 a = some (.inl (0, n, .inl f))) (hin : vp_in i n) (hd : decode (xcd j) pc = .ok (.iastore, 1))
    (kk : ∀ (H1 : Heap) (locs1 : List Loc), xpt D cy n0 s.heap (xwr h a (.inl (0, n, .inl (upd f i.toNatClampNeg x)))) H1 locs1 → W p l e R s m args below meth c H1 locs1 cells slots Q (F0 m (pc + 1) ls rest)) : W p l e R s m args below meth c H locs cells slots Q (F0 m pc ls (.int x :: .int i :: .ref a :: rest)) := by
  have hK := C.2.2.2.2.2.2.2.2.1.1
  refine W.iast C.1 C.2.1 (P.1 a _ ha) ((hK.2 0 _ (xtys_at (by decide))).1 n (fun j => .int (f j))) (fun q => by cases q) (by show ¬ (i < 0 ∨ (arrV _ _ _).slots.size ≤ _); rw [arrV_size]; exact hin) rfl rfl hd fun H1 e z oq => ?_
  refine kk H1 _ (P.put ha ?_ z oq)
  show H1[a]? = some (vp_cell _ _)
  rw [e]
  rw [vp_cell_i, vp_cell_i, arrV_store]
  congr 2
  funext q
  by_cases hq : q = i.toNatClampNeg
  · subst hq
    simp [updV, upd]
  · simp [updV, upd, hq]
theorem xr_last (C : xc p R s m args meth c V D cy n0 j) (P : xpt D cy n0 s.heap h H locs) {n : Nat} {f : Nat → Int64} {i : Int32} {x : Int64} (ha : h.1 a = some (.inl (1, n, .inr (.inl f)))) (hin : vp_in i n) (hd : decode (xcd j) pc = .ok (.lastore, 1))
    (kk : ∀ (H1 : Heap) (locs1 : List Loc), xpt D cy n0 s.heap (xwr h a (.inl (1, n, .inr (.inl (vp_updL f i.toNatClampNeg x))))) H1 locs1 → W p l e R s m args below meth c H1 locs1 cells slots Q (F0 m (pc + 1) ls rest)) : W p l e R s m args below meth c H locs cells slots Q (F0 m pc ls (.long x :: .int i :: .ref a :: rest)) := by
  have hK := C.2.2.2.2.2.2.2.2.1.1
  refine W.last C.1 C.2.1 (P.1 a _ ha) ((hK.2 1 _ (xtys_at (by decide))).1 n (fun j => .long (f j))) (fun q => by cases q) (by show ¬ (i < 0 ∨ (arrV _ _ _).slots.size ≤ _); rw [arrV_size]; exact hin) rfl rfl hd fun H1 e z oq => ?_
  refine kk H1 _ (P.put ha ?_ z oq)
  show H1[a]? = some (vp_cell _ _)
  rw [e]
  rw [vp_cell_l, vp_cell_l, arrV_store]
  congr 2
  funext q
  by_cases hq : q = i.toNatClampNeg
  · subst hq
    simp [updV, vp_updL]
  · simp [updV, vp_updL, hq]
theorem xr_zast (C : xc p R s m args meth c V D cy n0 j) (P : xpt D cy n0 s.heap h H locs) {n : Nat} {f : Nat → Int32} {i x : Int32} (ha : h.1 a = some (.inl (2, n, .inl f))) (hin : vp_in i n) (hd : decode (xcd j) pc = .ok (.bastore, 1))
    (kk : ∀ (H1 : Heap) (locs1 : List Loc), xpt D cy n0 s.heap (xwr h a (.inl (2, n, .inl (upd f i.toNatClampNeg (vp_nar .boolean x))))) H1 locs1 → W p l e R s m args below meth c H1 locs1 cells slots Q (F0 m (pc + 1) ls rest)) : W p l e R s m args below meth c H locs cells slots Q (F0 m pc ls (.int x :: .int i :: .ref a :: rest)) := by
  have hK := C.2.2.2.2.2.2.2.2.1.1
  refine W.zast C.1 C.2.1 (P.1 a _ ha) ((hK.2 2 _ (xtys_at (by decide))).1 n (fun j => .int (f j))) (fun q => by cases q) (by show ¬ (i < 0 ∨ (arrV _ _ _).slots.size ≤ _); rw [arrV_size]; exact hin) rfl rfl hd fun H1 e z oq => ?_
  refine kk H1 _ (P.put ha ?_ z oq)
  show H1[a]? = some (vp_cell _ _)
  rw [e]
  rw [vp_cell_i, vp_cell_i, arrV_store]
  congr 2
  funext q
  by_cases hq : q = i.toNatClampNeg
  · subst hq
    simp [updV, upd]
    first | rfl | (simp [vp_nar, narrow]; done)
  · simp [updV, upd, hq]
theorem xr_aast (C : xc p R s m args meth c V D cy n0 j) (P : xpt D cy n0 s.heap h H locs) {k n v : Nat} {vs : List Value} {f : Nat → Option Nat} {i : Int32} (ha : h.1 a = some (.inl (k, n, .inr (.inr (.inr (.inr f)))))) (hk : xkc k ≠ 99) (hv : h.1 v = some (.inr (xkc k, vs))) (hin : vp_in i n) (hd : decode (xcd j) pc = .ok (.aastore, 1))
    (kk : ∀ (H1 : Heap) (locs1 : List Loc), xpt D cy n0 s.heap (xwr h a (.inl (k, n, .inr (.inr (.inr (.inr (va_up f i.toNatClampNeg (some v)))))))) H1 locs1 → W p l e R s m args below meth c H1 locs1 cells slots Q (F0 m (pc + 1) ls rest)) : W p l e R s m args below meth c H locs cells slots Q (F0 m pc ls (.ref v :: .int i :: .ref a :: rest)) := by
  have hK := C.2.2.2.2.2.2.2.2.1.1
  obtain ⟨-, g2, g3, g4⟩ := xtk_obj hk
  have hc := (xcq_ok _ g3).2.2.2.2.2.1
  have hlt : i.toNatClampNeg < n := Nat.not_le.mp fun q => hin (Or.inr q)
  have h0 : ¬ i < 0 := fun q => hin (Or.inl q)
  obtain ⟨r', hr', cellV, q1, q2, q3, -⟩ := P.1 v _ hv
  have hcls := (hK.1 (xkc k) _ hc).2
  have ht : (xtys cy)[k]? = some (cy k, .object (xcl (xkc k)).1) := by rw [xtys_at g2, g4]
  obtain ⟨kA, comp, k1, k2, k3, -⟩ := (hK.2 k _ ht).2
  have hcomp : comp = D.1 (xkc k) := Option.some.inj (k3.symm.trans hcls.1)
  subst hcomp
  obtain ⟨kC, hkC, -⟩ := hcls.2
  refine W.aast C.1 C.2.1 (P.1 a _ ha) (fun q h => by cases h) (fun h => by cases h) k1 k2 rfl hkC ⟨h0, by show _ < (arrV _ _ _).slots.size; rw [arrV_size]; exact hlt⟩ q1 (fun q h => by rw [q3] at h; cases h) (by rw [q2]; exact hkC) (by rw [q2]; exact va_assign hcls) rfl rfl hd fun H1 e z oq => ?_
  refine kk H1 _ (P.put ha ?_ z oq)
  show H1[a]? = some (vp_cell _ _)
  rw [e]
  rw [vp_cell_q, vp_cell_q, arrV_store]
  congr 2
  funext q
  by_cases hq : q = i.toNatClampNeg
  · subst hq
    simp [updV, va_up, va_rf]
  · simp [updV, va_up, hq]
theorem xr_new (C : xc p R s m args meth c V D cy n0 j) (P : xpt D cy n0 s.heap h H locs) {idx p0 ci : Nat} (hp : xpo (xow j) idx = some (.inr (.inr (.inl (p0, ci))))) (hci : ci < 11) (hcells : cells + 1 ≤ R.cells) (hslots : slots + (xcl ci).2.2 ≤ R.slots) (hd : decode (xcd j) pc = .ok (.new idx, 3))
    (kk : ∀ H1 : Heap, xpt D cy n0 s.heap (xalc h (.inr (ci, xdf.getD ci [])) (xcl ci).2.2) H1 locs → W p l e R s m args below meth c H1 locs (cells + 1) (slots + (xcl ci).2.2) Q (F0 m (pc + 3) ls (.ref h.2.1 :: rest))) : W p l e R s m args below meth c H locs cells slots Q (F0 m pc ls rest) := by
  obtain ⟨hx, hb, -, -, -, hown, hts, -, hE, -, -⟩ := C
  obtain ⟨hin, ⟨hi1, hi2⟩, hty, -, hdf, hc, -⟩ := xcq_ok ci hci
  have hlk : (Cond.classLink (xown (xow j)) idx (xcl ci).1).before args s = true := by
    have h9 := xpk_ok _ _ _ hp
    have h8 : lw_tbl[p0]? = some (.classLink (xown (xow j)) idx (xexc ci)) := h9
    rw [show xexc ci = (xcl ci).1 by unfold xexc; split <;> first | omega | rfl] at h8
    exact hts _ (xwd_in h8 rfl)
  have hKn := hE.1.1 ci _ hc
  refine W.newcK hx hb hown hlk (hts _ hi1) (hts _ hi2) rfl hd hcells hslots hKn.2.1 P.2.1 fun H1 kC hkC e1 z1 o1 => ?_
  rw [← P.2.1] at e1 z1 o1
  exact kk H1 (P.new (show va_at D vwCl (H.size, .inr (ci, xdf.getD ci [])) H1 from ⟨_, hc, (u_born (xty ci) hts hin hKn hkC e1 hty).to hdf⟩) z1 o1)
theorem xr_newa (C : xc p R s m args meth c V D cy n0 j) (P : xpt D cy n0 s.heap h H locs) {at_ : ArrayType} {k : Nat} (hk : k < 8) {x : vp_A} (hty : newarray.typeOf at_ = xtk k) (harr : Cond.arrayClass (newarray.typeOf at_) ∈ xws) (hnm : va_RA s (cy k) (xtk k) → s.vm.findClass ("[" ++ (newarray.typeOf at_).toString) = some (cy k)) {n : Int32} (hx0 : ∀ cA : ClassId, vp_cell cA x = arrV cA n.toNatClampNeg (fun _ => defaultValue (newarray.typeOf at_))) (hn : ¬ n < 0) (hbytes : n.toNatClampNeg * componentBytes (newarray.typeOf at_) ≤ 536870912) (hcells : cells + 1 ≤ R.cells) (hslots : slots + n.toNatClampNeg ≤ R.slots) (hd : decode (xcd j) pc = .ok (.newarray at_, 2))
    (kk : ∀ H1 : Heap, xpt D cy n0 s.heap (xalc h (.inl (k, x)) n.toNatClampNeg) H1 locs → W p l e R s m args below meth c H1 locs (cells + 1) (slots + n.toNatClampNeg) Q (F0 m (pc + 2) ls (.ref h.2.1 :: rest))) : W p l e R s m args below meth c H locs cells slots Q (F0 m pc ls (.int n :: rest)) := by
  obtain ⟨hx, hb, -, -, -, hown, hts, -, hE, -, -⟩ := C
  refine va_newaK hx hb (hts _ harr) rfl hd rfl hn rfl hbytes hcells hslots P.2.1 fun H1 cA e1 z1 o1 hAr hNm => ?_
  have hcA : cA = cy k := Option.some.inj (hNm.symm.trans (hnm (hE.1.2 k _ (xtys_at hk)).2))
  subst hcA
  rw [← P.2.1] at e1 z1 o1
  refine kk H1 (P.new ?_ z1 o1)
  show H1[H.size]? = some (vp_cell _ _)
  rw [hx0]
  exact e1
theorem xr_newq (C : xc p R s m args meth c V D cy n0 j) (P : xpt D cy n0 s.heap h H locs) {idx p0 ci k : Nat} (hp : xpo (xow j) idx = some (.inr (.inr (.inl (p0, ci))))) (hk : xak ci = some k) {n : Int32} (hn : ¬ n < 0) (hbytes : n.toNatClampNeg * 4 ≤ 536870912) (hcells : cells + 1 ≤ R.cells) (hslots : slots + n.toNatClampNeg ≤ R.slots) (hd : decode (xcd j) pc = .ok (.anewarray idx, 3))
    (kk : ∀ H1 : Heap, xpt D cy n0 s.heap (xalc h (.inl (k, n.toNatClampNeg, .inr (.inr (.inr (.inr (fun _ => none)))))) n.toNatClampNeg) H1 locs → W p l e R s m args below meth c H1 locs (cells + 1) (slots + n.toNatClampNeg) Q (F0 m (pc + 3) ls (.ref h.2.1 :: rest))) : W p l e R s m args below meth c H locs cells slots Q (F0 m pc ls (.int n :: rest)) := by
  obtain ⟨hx, hb, -, -, -, hown, hts, -, hE, -, -⟩ := C
  have hkk : xkc k = ci ∧ xkc k ≠ 99 := by
    unfold xak at hk
    split at hk <;> first | (cases hk; exact ⟨rfl, by decide⟩) | cases hk
  obtain ⟨g1, g2, g3, g4⟩ := xtk_obj hkk.2
  have hlk : (Cond.classLink (xown (xow j)) idx (xcl ci).1).before args s = true := by
    have h9 := xpk_ok _ _ _ hp
    have h8 : lw_tbl[p0]? = some (.classLink (xown (xow j)) idx (xexc ci)) := h9
    rw [show xexc ci = (xcl ci).1 by unfold xexc; split <;> first | omega | rfl] at h8
    exact hts _ (xwd_in h8 rfl)
  have hao : va_AO (xcl ci).1 s := by rw [← hkk.1]; exact hE.2.2.2.2.2.2.1 k g1 g2
  refine W.anew hx hb hown hlk (va_AO.use hao) rfl hd rfl hn hbytes hcells hslots fun cA kA comp f1 f2 f3 f4 => ?_
  have hcA : cA = cy k := by
    have h5 := (hE.1.2 k _ (xtys_at g2)).2
    rw [g4, hkk.1] at h5
    obtain ⟨_, _, -, -, -, h6⟩ := h5
    exact Option.some.inj (f1.symm.trans h6)
  subst hcA
  generalize hH1 : H.push ({ cls := cy k, slots := Array.replicate n.toNatClampNeg .null, vm := .none } : Cell) = H1
  have z1 : H1.size = H.size + 1 := by rw [← hH1, Array.size_push]
  have e1 : H1[H.size]? = some (arrV (cy k) n.toNatClampNeg (fun _ => .null)) := by rw [← hH1, Array.getElem?_push_size, ← arrV_new]
  have o1 : ∀ q : Nat, q < H.size → H1[q]? = H[q]? := fun q hq => by rw [← hH1, Array.getElem?_push, if_neg (Nat.ne_of_lt hq)]
  rw [P.2.1]
  refine kk H1 (P.new ?_ z1 o1)
  show H1[H.size]? = some (vp_cell _ _)
  rw [vp_cell_q]
  exact e1
end XS

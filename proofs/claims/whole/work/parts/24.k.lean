set_option maxRecDepth 20000 in
theorem l_170_0 {V : xV} {g : xG} {Y : xW} {l1 : Int32} {l2 : Int32} {Q : xW → Prop} (H : vp_in l1 300 ∧ vp_in l1 300 ∧ L_128_0 V g Y l2 (fun x2 Y1 => L_129_0 V g Y1 l2 (fun x4 Y3 => vp_in ((8 * l1) + x4) 2400 ∧ L_131_0 V g Y3 l2 (fun x6 Y5 => vp_in ((8 * l1) + (x6 &&& 7)) 2400 ∧ L_130_0 V g Y5 l2 (fun x8 Y7 => vp_in l1 300 ∧ ∀ Y9, Y9 = uA Y7 (10, 0, 0) 39 (Int32.toNatClampNeg l1) ((fA Y (10, 0, 0) 39 (Int32.toNatClampNeg l1)) + 1) → L_127_0 V g Y9 l2 (fun x11 Y10 => ((x11 = 2 → vp_in ((8 * l1) + x2) 2400 ∧ ∀ Y12, Y12 = uA Y10 (10, 0, 0) 45 (Int32.toNatClampNeg ((8 * l1) + x2)) ((Int32.toInt16 x8).toInt32) → L_170_633 V g Y12 l1 l2 (fA Y (10, 0, 0) 38 (Int32.toNatClampNeg l1)) ((fA Y (10, 0, 0) 39 (Int32.toNatClampNeg l1)) + 1) ((8 * l1) + x2) (fA Y3 (10, 0, 0) 45 (Int32.toNatClampNeg ((8 * l1) + x4))) (fA Y5 (10, 0, 0) 45 (Int32.toNatClampNeg ((8 * l1) + (x6 &&& 7)))) x8 ((Int32.toInt16 x8).toInt32) Q) ∧ (x11 = 3 → vp_in ((8 * l1) + x2) 2400 ∧ ∀ Y13, Y13 = uA Y10 (10, 0, 0) 45 (Int32.toNatClampNeg ((8 * l1) + x2)) (fA Y3 (10, 0, 0) 45 (Int32.toNatClampNeg ((8 * l1) + x4))) → L_170_633 V g Y13 l1 l2 (fA Y (10, 0, 0) 38 (Int32.toNatClampNeg l1)) ((fA Y (10, 0, 0) 39 (Int32.toNatClampNeg l1)) + 1) ((8 * l1) + x2) (fA Y3 (10, 0, 0) 45 (Int32.toNatClampNeg ((8 * l1) + x4))) (fA Y5 (10, 0, 0) 45 (Int32.toNatClampNeg ((8 * l1) + (x6 &&& 7)))) x8 ((Int32.toInt16 x8).toInt32) Q) ∧ (x11 = 4 → vp_in ((8 * l1) + x2) 2400 ∧ ∀ Y14, Y14 = uA Y10 (10, 0, 0) 45 (Int32.toNatClampNeg ((8 * l1) + x2)) ((fA Y3 (10, 0, 0) 45 (Int32.toNatClampNeg ((8 * l1) + x4))) + (fA Y5 (10, 0, 0) 45 (Int32.toNatClampNeg ((8 * l1) + (x6 &&& 7))))) → L_170_633 V g Y14 l1 l2 (fA Y (10, 0, 0) 38 (Int32.toNatClampNeg l1)) ((fA Y (10, 0, 0) 39 (Int32.toNatClampNeg l1)) + 1) ((8 * l1) + x2) (fA Y3 (10, 0, 0) 45 (Int32.toNatClampNeg ((8 * l1) + x4))) (fA Y5 (10, 0, 0) 45 (Int32.toNatClampNeg ((8 * l1) + (x6 &&& 7)))) x8 ((Int32.toInt16 x8).toInt32) Q) ∧ (x11 = 5 → vp_in ((8 * l1) + x2) 2400 ∧ ∀ Y15, Y15 = uA Y10 (10, 0, 0) 45 (Int32.toNatClampNeg ((8 * l1) + x2)) ((fA Y3 (10, 0, 0) 45 (Int32.toNatClampNeg ((8 * l1) + x4))) - (fA Y5 (10, 0, 0) 45 (Int32.toNatClampNeg ((8 * l1) + (x6 &&& 7))))) → L_170_633 V g Y15 l1 l2 (fA Y (10, 0, 0) 38 (Int32.toNatClampNeg l1)) ((fA Y (10, 0, 0) 39 (Int32.toNatClampNeg l1)) + 1) ((8 * l1) + x2) (fA Y3 (10, 0, 0) 45 (Int32.toNatClampNeg ((8 * l1) + x4))) (fA Y5 (10, 0, 0) 45 (Int32.toNatClampNeg ((8 * l1) + (x6 &&& 7)))) x8 ((Int32.toInt16 x8).toInt32) Q) ∧ (x11 = 6 → vp_in ((8 * l1) + x2) 2400 ∧ ∀ Y16, Y16 = uA Y10 (10, 0, 0) 45 (Int32.toNatClampNeg ((8 * l1) + x2)) ((fA Y3 (10, 0, 0) 45 (Int32.toNatClampNeg ((8 * l1) + x4))) * (fA Y5 (10, 0, 0) 45 (Int32.toNatClampNeg ((8 * l1) + (x6 &&& 7))))) → L_170_633 V g Y16 l1 l2 (fA Y (10, 0, 0) 38 (Int32.toNatClampNeg l1)) ((fA Y (10, 0, 0) 39 (Int32.toNatClampNeg l1)) + 1) ((8 * l1) + x2) (fA Y3 (10, 0, 0) 45 (Int32.toNatClampNeg ((8 * l1) + x4))) (fA Y5 (10, 0, 0) 45 (Int32.toNatClampNeg ((8 * l1) + (x6 &&& 7)))) x8 ((Int32.toInt16 x8).toInt32) Q) ∧ (x11 = 7 → L_168_0 V g Y10 (fA Y3 (10, 0, 0) 45 (Int32.toNatClampNeg ((8 * l1) + x4))) (fA Y5 (10, 0, 0) 45 (Int32.toNatClampNeg ((8 * l1) + (x6 &&& 7)))) (fun x18 Y17 => vp_in ((8 * l1) + x2) 2400 ∧ ∀ Y19, Y19 = uA Y17 (10, 0, 0) 45 (Int32.toNatClampNeg ((8 * l1) + x2)) x18 → L_170_633 V g Y19 l1 l2 (fA Y (10, 0, 0) 38 (Int32.toNatClampNeg l1)) ((fA Y (10, 0, 0) 39 (Int32.toNatClampNeg l1)) + 1) ((8 * l1) + x2) (fA Y3 (10, 0, 0) 45 (Int32.toNatClampNeg ((8 * l1) + x4))) (fA Y5 (10, 0, 0) 45 (Int32.toNatClampNeg ((8 * l1) + (x6 &&& 7)))) x8 ((Int32.toInt16 x8).toInt32) Q)) ∧ (x11 = 8 → (((fA Y5 (10, 0, 0) 45 (Int32.toNatClampNeg ((8 * l1) + (x6 &&& 7)))) = (-1)) → L_170_283 V g Y10 l1 l2 (fA Y (10, 0, 0) 38 (Int32.toNatClampNeg l1)) ((fA Y (10, 0, 0) 39 (Int32.toNatClampNeg l1)) + 1) ((8 * l1) + x2) (fA Y3 (10, 0, 0) 45 (Int32.toNatClampNeg ((8 * l1) + x4))) (fA Y5 (10, 0, 0) 45 (Int32.toNatClampNeg ((8 * l1) + (x6 &&& 7)))) x8 ((Int32.toInt16 x8).toInt32) ((8 * l1) + x2) 0 Q) ∧ (¬ ((fA Y5 (10, 0, 0) 45 (Int32.toNatClampNeg ((8 * l1) + (x6 &&& 7)))) = (-1)) → (¬ (fA Y5 (10, 0, 0) 45 (Int32.toNatClampNeg ((8 * l1) + (x6 &&& 7)))) = 0) ∧ L_170_283 V g Y10 l1 l2 (fA Y (10, 0, 0) 38 (Int32.toNatClampNeg l1)) ((fA Y (10, 0, 0) 39 (Int32.toNatClampNeg l1)) + 1) ((8 * l1) + x2) (fA Y3 (10, 0, 0) 45 (Int32.toNatClampNeg ((8 * l1) + x4))) (fA Y5 (10, 0, 0) 45 (Int32.toNatClampNeg ((8 * l1) + (x6 &&& 7)))) x8 ((Int32.toInt16 x8).toInt32) ((8 * l1) + x2) ((fA Y3 (10, 0, 0) 45 (Int32.toNatClampNeg ((8 * l1) + x4))) - (fA Y3 (10, 0, 0) 45 (Int32.toNatClampNeg ((8 * l1) + x4))) / (fA Y5 (10, 0, 0) 45 (Int32.toNatClampNeg ((8 * l1) + (x6 &&& 7)))) * (fA Y5 (10, 0, 0) 45 (Int32.toNatClampNeg ((8 * l1) + (x6 &&& 7))))) Q)) ∧ (x11 = 9 → vp_in ((8 * l1) + x2) 2400 ∧ ∀ Y20, Y20 = uA Y10 (10, 0, 0) 45 (Int32.toNatClampNeg ((8 * l1) + x2)) ((fA Y3 (10, 0, 0) 45 (Int32.toNatClampNeg ((8 * l1) + x4))) + (Int32.toInt16 x8).toInt32) → L_170_633 V g Y20 l1 l2 (fA Y (10, 0, 0) 38 (Int32.toNatClampNeg l1)) ((fA Y (10, 0, 0) 39 (Int32.toNatClampNeg l1)) + 1) ((8 * l1) + x2) (fA Y3 (10, 0, 0) 45 (Int32.toNatClampNeg ((8 * l1) + x4))) (fA Y5 (10, 0, 0) 45 (Int32.toNatClampNeg ((8 * l1) + (x6 &&& 7)))) x8 ((Int32.toInt16 x8).toInt32) Q) ∧ (x11 = 10 → vp_in ((8 * l1) + x2) 2400 ∧ ∀ Y21, Y21 = uA Y10 (10, 0, 0) 45 (Int32.toNatClampNeg ((8 * l1) + x2)) ((fA Y3 (10, 0, 0) 45 (Int32.toNatClampNeg ((8 * l1) + x4))) &&& x8) → L_170_633 V g Y21 l1 l2 (fA Y (10, 0, 0) 38 (Int32.toNatClampNeg l1)) ((fA Y (10, 0, 0) 39 (Int32.toNatClampNeg l1)) + 1) ((8 * l1) + x2) (fA Y3 (10, 0, 0) 45 (Int32.toNatClampNeg ((8 * l1) + x4))) (fA Y5 (10, 0, 0) 45 (Int32.toNatClampNeg ((8 * l1) + (x6 &&& 7)))) x8 ((Int32.toInt16 x8).toInt32) Q) ∧ (x11 = 11 → vp_in ((8 * l1) + x2) 2400 ∧ ∀ Y22, Y22 = uA Y10 (10, 0, 0) 45 (Int32.toNatClampNeg ((8 * l1) + x2)) ((fA Y3 (10, 0, 0) 45 (Int32.toNatClampNeg ((8 * l1) + x4))) >>> (x8 &&& 31)) → L_170_633 V g Y22 l1 l2 (fA Y (10, 0, 0) 38 (Int32.toNatClampNeg l1)) ((fA Y (10, 0, 0) 39 (Int32.toNatClampNeg l1)) + 1) ((8 * l1) + x2) (fA Y3 (10, 0, 0) 45 (Int32.toNatClampNeg ((8 * l1) + x4))) (fA Y5 (10, 0, 0) 45 (Int32.toNatClampNeg ((8 * l1) + (x6 &&& 7)))) x8 ((Int32.toInt16 x8).toInt32) Q) ∧ (x11 = 12 → vp_in ((8 * l1) + x2) 2400 ∧ ∀ Y23, Y23 = uA Y10 (10, 0, 0) 45 (Int32.toNatClampNeg ((8 * l1) + x2)) x8 → L_170_633 V g Y23 l1 l2 (fA Y (10, 0, 0) 38 (Int32.toNatClampNeg l1)) ((fA Y (10, 0, 0) 39 (Int32.toNatClampNeg l1)) + 1) ((8 * l1) + x2) (fA Y3 (10, 0, 0) 45 (Int32.toNatClampNeg ((8 * l1) + x4))) (fA Y5 (10, 0, 0) 45 (Int32.toNatClampNeg ((8 * l1) + (x6 &&& 7)))) x8 ((Int32.toInt16 x8).toInt32) Q) ∧ (x11 = 13 → vp_in l1 300 ∧ vp_in (((fA Y10 (10, 0, 0) 42 (Int32.toNatClampNeg l1)) + (fA Y3 (10, 0, 0) 45 (Int32.toNatClampNeg ((8 * l1) + x4)))) + (Int32.toInt16 x8).toInt32) 4096 ∧ vp_in ((8 * l1) + x2) 2400 ∧ ∀ Y24, Y24 = uA Y10 (10, 0, 0) 45 (Int32.toNatClampNeg ((8 * l1) + x2)) (fA Y10 (10, 0, 0) 50 (Int32.toNatClampNeg (((fA Y10 (10, 0, 0) 42 (Int32.toNatClampNeg l1)) + (fA Y3 (10, 0, 0) 45 (Int32.toNatClampNeg ((8 * l1) + x4)))) + (Int32.toInt16 x8).toInt32))) → L_170_633 V g Y24 l1 l2 (fA Y (10, 0, 0) 38 (Int32.toNatClampNeg l1)) ((fA Y (10, 0, 0) 39 (Int32.toNatClampNeg l1)) + 1) ((8 * l1) + x2) (fA Y3 (10, 0, 0) 45 (Int32.toNatClampNeg ((8 * l1) + x4))) (fA Y5 (10, 0, 0) 45 (Int32.toNatClampNeg ((8 * l1) + (x6 &&& 7)))) x8 ((Int32.toInt16 x8).toInt32) Q) ∧ (x11 = 14 → vp_in l1 300 ∧ vp_in ((8 * l1) + x2) 2400 ∧ vp_in (((fA Y10 (10, 0, 0) 42 (Int32.toNatClampNeg l1)) + (fA Y3 (10, 0, 0) 45 (Int32.toNatClampNeg ((8 * l1) + x4)))) + (Int32.toInt16 x8).toInt32) 4096 ∧ ∀ Y25, Y25 = uA Y10 (10, 0, 0) 50 (Int32.toNatClampNeg (((fA Y10 (10, 0, 0) 42 (Int32.toNatClampNeg l1)) + (fA Y3 (10, 0, 0) 45 (Int32.toNatClampNeg ((8 * l1) + x4)))) + (Int32.toInt16 x8).toInt32)) (fA Y10 (10, 0, 0) 45 (Int32.toNatClampNeg ((8 * l1) + x2))) → L_170_633 V g Y25 l1 l2 (fA Y (10, 0, 0) 38 (Int32.toNatClampNeg l1)) ((fA Y (10, 0, 0) 39 (Int32.toNatClampNeg l1)) + 1) ((8 * l1) + x2) (fA Y3 (10, 0, 0) 45 (Int32.toNatClampNeg ((8 * l1) + x4))) (fA Y5 (10, 0, 0) 45 (Int32.toNatClampNeg ((8 * l1) + (x6 &&& 7)))) x8 ((Int32.toInt16 x8).toInt32) Q) ∧ (x11 = 15 → vp_in l1 300 ∧ ∀ Y26, Y26 = uA Y10 (10, 0, 0) 39 (Int32.toNatClampNeg l1) x8 → L_170_633 V g Y26 l1 l2 (fA Y (10, 0, 0) 38 (Int32.toNatClampNeg l1)) ((fA Y (10, 0, 0) 39 (Int32.toNatClampNeg l1)) + 1) ((8 * l1) + x2) (fA Y3 (10, 0, 0) 45 (Int32.toNatClampNeg ((8 * l1) + x4))) (fA Y5 (10, 0, 0) 45 (Int32.toNatClampNeg ((8 * l1) + (x6 &&& 7)))) x8 ((Int32.toInt16 x8).toInt32) Q) ∧ (x11 = 16 → vp_in ((8 * l1) + x2) 2400 ∧ (((fA Y3 (10, 0, 0) 45 (Int32.toNatClampNeg ((8 * l1) + x4))) ≤ (fA Y10 (10, 0, 0) 45 (Int32.toNatClampNeg ((8 * l1) + x2)))) → L_170_633 V g Y10 l1 l2 (fA Y (10, 0, 0) 38 (Int32.toNatClampNeg l1)) ((fA Y (10, 0, 0) 39 (Int32.toNatClampNeg l1)) + 1) ((8 * l1) + x2) (fA Y3 (10, 0, 0) 45 (Int32.toNatClampNeg ((8 * l1) + x4))) (fA Y5 (10, 0, 0) 45 (Int32.toNatClampNeg ((8 * l1) + (x6 &&& 7)))) x8 ((Int32.toInt16 x8).toInt32) Q) ∧ (¬ ((fA Y3 (10, 0, 0) 45 (Int32.toNatClampNeg ((8 * l1) + x4))) ≤ (fA Y10 (10, 0, 0) 45 (Int32.toNatClampNeg ((8 * l1) + x2)))) → vp_in l1 300 ∧ ∀ Y27, Y27 = uA Y10 (10, 0, 0) 39 (Int32.toNatClampNeg l1) x8 → L_170_633 V g Y27 l1 l2 (fA Y (10, 0, 0) 38 (Int32.toNatClampNeg l1)) ((fA Y (10, 0, 0) 39 (Int32.toNatClampNeg l1)) + 1) ((8 * l1) + x2) (fA Y3 (10, 0, 0) 45 (Int32.toNatClampNeg ((8 * l1) + x4))) (fA Y5 (10, 0, 0) 45 (Int32.toNatClampNeg ((8 * l1) + (x6 &&& 7)))) x8 ((Int32.toInt16 x8).toInt32) Q)) ∧ (x11 = 17 → vp_in ((8 * l1) + x2) 2400 ∧ (((fA Y10 (10, 0, 0) 45 (Int32.toNatClampNeg ((8 * l1) + x2))) = (fA Y3 (10, 0, 0) 45 (Int32.toNatClampNeg ((8 * l1) + x4)))) → vp_in l1 300 ∧ ∀ Y28, Y28 = uA Y10 (10, 0, 0) 39 (Int32.toNatClampNeg l1) x8 → L_170_633 V g Y28 l1 l2 (fA Y (10, 0, 0) 38 (Int32.toNatClampNeg l1)) ((fA Y (10, 0, 0) 39 (Int32.toNatClampNeg l1)) + 1) ((8 * l1) + x2) (fA Y3 (10, 0, 0) 45 (Int32.toNatClampNeg ((8 * l1) + x4))) (fA Y5 (10, 0, 0) 45 (Int32.toNatClampNeg ((8 * l1) + (x6 &&& 7)))) x8 ((Int32.toInt16 x8).toInt32) Q) ∧ (¬ ((fA Y10 (10, 0, 0) 45 (Int32.toNatClampNeg ((8 * l1) + x2))) = (fA Y3 (10, 0, 0) 45 (Int32.toNatClampNeg ((8 * l1) + x4)))) → L_170_633 V g Y10 l1 l2 (fA Y (10, 0, 0) 38 (Int32.toNatClampNeg l1)) ((fA Y (10, 0, 0) 39 (Int32.toNatClampNeg l1)) + 1) ((8 * l1) + x2) (fA Y3 (10, 0, 0) 45 (Int32.toNatClampNeg ((8 * l1) + x4))) (fA Y5 (10, 0, 0) 45 (Int32.toNatClampNeg ((8 * l1) + (x6 &&& 7)))) x8 ((Int32.toInt16 x8).toInt32) Q)) ∧ (x11 = 18 → L_170_455 V g Y10 l1 l2 (fA Y (10, 0, 0) 38 (Int32.toNatClampNeg l1)) ((fA Y (10, 0, 0) 39 (Int32.toNatClampNeg l1)) + 1) ((8 * l1) + x2) (fA Y3 (10, 0, 0) 45 (Int32.toNatClampNeg ((8 * l1) + x4))) (fA Y5 (10, 0, 0) 45 (Int32.toNatClampNeg ((8 * l1) + (x6 &&& 7)))) x8 ((Int32.toInt16 x8).toInt32) Q) ∧ (x11 = 19 → L_170_455 V g Y10 l1 l2 (fA Y (10, 0, 0) 38 (Int32.toNatClampNeg l1)) ((fA Y (10, 0, 0) 39 (Int32.toNatClampNeg l1)) + 1) ((8 * l1) + x2) (fA Y3 (10, 0, 0) 45 (Int32.toNatClampNeg ((8 * l1) + x4))) (fA Y5 (10, 0, 0) 45 (Int32.toNatClampNeg ((8 * l1) + (x6 &&& 7)))) x8 ((Int32.toInt16 x8).toInt32) Q) ∧ (x11 = 20 → vp_in l1 300 ∧ vp_in l1 300 ∧ ∀ Y29, Y29 = uA Y10 (10, 0, 0) 41 (Int32.toNatClampNeg l1) ((fA Y10 (10, 0, 0) 41 (Int32.toNatClampNeg l1)) - 1) → vp_in l1 300 ∧ vp_in ((40 * l1) + (fA Y29 (10, 0, 0) 41 (Int32.toNatClampNeg l1))) 12000 ∧ vp_in l1 300 ∧ vp_in ((40 * l1) + (fA Y29 (10, 0, 0) 41 (Int32.toNatClampNeg l1))) 12000 ∧ L_169_0 V g Y29 l1 (fA Y29 (10, 0, 0) 47 (Int32.toNatClampNeg ((40 * l1) + (fA Y29 (10, 0, 0) 41 (Int32.toNatClampNeg l1))))) (fA Y29 (10, 0, 0) 48 (Int32.toNatClampNeg ((40 * l1) + (fA Y29 (10, 0, 0) 41 (Int32.toNatClampNeg l1))))) (fun Y30 => L_170_633 V g Y30 l1 l2 (fA Y (10, 0, 0) 38 (Int32.toNatClampNeg l1)) ((fA Y (10, 0, 0) 39 (Int32.toNatClampNeg l1)) + 1) ((8 * l1) + x2) (fA Y3 (10, 0, 0) 45 (Int32.toNatClampNeg ((8 * l1) + x4))) (fA Y5 (10, 0, 0) 45 (Int32.toNatClampNeg ((8 * l1) + (x6 &&& 7)))) x8 ((Int32.toInt16 x8).toInt32) Q))) ∧ ((Int32.toInt x11 < 2 ∨ 20 < Int32.toInt x11) → L_170_633 V g Y10 l1 l2 (fA Y (10, 0, 0) 38 (Int32.toNatClampNeg l1)) ((fA Y (10, 0, 0) 39 (Int32.toNatClampNeg l1)) + 1) ((8 * l1) + x2) (fA Y3 (10, 0, 0) 45 (Int32.toNatClampNeg ((8 * l1) + x4))) (fA Y5 (10, 0, 0) 45 (Int32.toNatClampNeg ((8 * l1) + (x6 &&& 7)))) x8 ((Int32.toInt16 x8).toInt32) Q))))))) : L_170_0 V g Y l1 l2 Q := by
  intro h lv R e0 e1 e2
  refine y_next (pc' := 1) (xst_of (i := (.aload_n 0)) (len := 1) rfl rfl (x_aloadV (xisV_r _) e0)) ?_
  refine z_gA (t := (10, 0, 0)) (k := 38) rfl rfl rfl R (rc_10 R) ?_
  refine y_next (pc' := 5) (xst_of (i := (.iload_n 1)) (len := 1) rfl rfl (x_ilo e1)) ?_
  refine z_aI (t := (10, 0, 0)) (k := 38) (n := 300) (i := l1) rfl rfl R (rc_10 R) H.1 ?_
  replace H := H.2
  refine z_is (i := (.istore_n 3)) (len := 1) (pc' := 7) (q := 3) rfl rfl rfl (by decide) (fun lv1 hlv => ?_)
  have e0 := xs1_A hlv e0 rfl rfl
  have e1 := xs1_A hlv e1 rfl rfl
  have e2 := xs1_B hlv e2 rfl rfl
  have e3 := xs1_N hlv
  clear hlv
  refine y_next (pc' := 8) (xst_of (i := (.aload_n 0)) (len := 1) rfl rfl (x_aloadV (xisV_r _) e0)) ?_
  refine z_gA (t := (10, 0, 0)) (k := 39) rfl rfl rfl R (rc_10 R) ?_
  refine y_next (pc' := 12) (xst_of (i := (.iload_n 1)) (len := 1) rfl rfl (x_ilo e1)) ?_
  refine z_aI (t := (10, 0, 0)) (k := 39) (n := 300) (i := l1) rfl rfl R (rc_10 R) H.1 ?_
  replace H := H.2
  refine y_next (pc' := 14) (xst_of (i := (.iconst 1)) (len := 1) rfl rfl (x_ico (v := 1) (by decide))) ?_
  refine y_next (pc' := 15) (xst_of (i := .iadd) (len := 1) rfl rfl rfl) ?_
  refine z_is (i := (.istore 4)) (len := 2) (pc' := 17) (q := 4) rfl rfl rfl (by decide) (fun lv2 hlv => ?_)
  have e0 := xs1_A hlv e0 rfl rfl
  have e1 := xs1_A hlv e1 rfl rfl
  have e2 := xs1_A hlv e2 rfl rfl
  have e3 := xs1_B hlv e3 rfl rfl
  have e4 := xs1_N hlv
  clear hlv
  refine y_next (pc' := 19) (xst_of (i := (.bipush 8)) (len := 2) rfl rfl (x_bip (v := 8) (by decide))) ?_
  refine y_next (pc' := 20) (xst_of (i := (.iload_n 1)) (len := 1) rfl rfl (x_ilo e1)) ?_
  refine y_next (pc' := 21) (xst_of (i := .imul) (len := 1) rfl rfl rfl) ?_
  refine y_next (pc' := 22) (xst_of (i := (.iload_n 2)) (len := 1) rfl rfl (x_ilo e2)) ?_
  refine z_cI (k := 128) (i := (.invokestatic 148)) (as := [.int l2]) (rest := [.int (8 * l1)]) rfl rfl rfl (H _ _ R rfl) (fun x2 h Y1 R H => ?_)
  refine y_next (pc' := 26) (xst_of (i := .iadd) (len := 1) rfl rfl rfl) ?_
  refine z_is (i := (.istore 5)) (len := 2) (pc' := 28) (q := 5) rfl rfl rfl (by decide) (fun lv3 hlv => ?_)
  have e0 := xs1_A hlv e0 rfl rfl
  have e1 := xs1_A hlv e1 rfl rfl
  have e2 := xs1_A hlv e2 rfl rfl
  have e3 := xs1_A hlv e3 rfl rfl
  have e4 := xs1_B hlv e4 rfl rfl
  have e5 := xs1_N hlv
  clear hlv
  refine y_next (pc' := 29) (xst_of (i := (.aload_n 0)) (len := 1) rfl rfl (x_aloadV (xisV_r _) e0)) ?_
  refine z_gA (t := (10, 0, 0)) (k := 45) rfl rfl rfl R (rc_10 R) ?_
  refine y_next (pc' := 34) (xst_of (i := (.bipush 8)) (len := 2) rfl rfl (x_bip (v := 8) (by decide))) ?_
  refine y_next (pc' := 35) (xst_of (i := (.iload_n 1)) (len := 1) rfl rfl (x_ilo e1)) ?_
  refine y_next (pc' := 36) (xst_of (i := .imul) (len := 1) rfl rfl rfl) ?_
  refine y_next (pc' := 37) (xst_of (i := (.iload_n 2)) (len := 1) rfl rfl (x_ilo e2)) ?_
  refine z_cI (k := 129) (i := (.invokestatic 151)) (as := [.int l2]) (rest := [.int (8 * l1), .ref (g.2 (10, 0, 0) 46)]) rfl rfl rfl (H _ _ R rfl) (fun x4 h Y3 R H => ?_)
  refine y_next (pc' := 41) (xst_of (i := .iadd) (len := 1) rfl rfl rfl) ?_
  refine z_aI (t := (10, 0, 0)) (k := 45) (n := 2400) (i := ((8 * l1) + x4)) rfl rfl R (rc_10 R) H.1 ?_
  replace H := H.2
  refine z_is (i := (.istore 6)) (len := 2) (pc' := 44) (q := 6) rfl rfl rfl (by decide) (fun lv4 hlv => ?_)
  have e0 := xs1_A hlv e0 rfl rfl
  have e1 := xs1_A hlv e1 rfl rfl
  have e2 := xs1_A hlv e2 rfl rfl
  have e3 := xs1_A hlv e3 rfl rfl
  have e4 := xs1_A hlv e4 rfl rfl
  have e5 := xs1_B hlv e5 rfl rfl
  have e6 := xs1_N hlv
  clear hlv
  refine y_next (pc' := 45) (xst_of (i := (.aload_n 0)) (len := 1) rfl rfl (x_aloadV (xisV_r _) e0)) ?_
  refine z_gA (t := (10, 0, 0)) (k := 45) rfl rfl rfl R (rc_10 R) ?_
  refine y_next (pc' := 50) (xst_of (i := (.bipush 8)) (len := 2) rfl rfl (x_bip (v := 8) (by decide))) ?_
  refine y_next (pc' := 51) (xst_of (i := (.iload_n 1)) (len := 1) rfl rfl (x_ilo e1)) ?_
  refine y_next (pc' := 52) (xst_of (i := .imul) (len := 1) rfl rfl rfl) ?_
  refine y_next (pc' := 53) (xst_of (i := (.iload_n 2)) (len := 1) rfl rfl (x_ilo e2)) ?_
  refine z_cI (k := 131) (i := (.invokestatic 157)) (as := [.int l2]) (rest := [.int (8 * l1), .ref (g.2 (10, 0, 0) 46)]) rfl rfl rfl (H _ _ R rfl) (fun x6 h Y5 R H => ?_)
  refine y_next (pc' := 58) (xst_of (i := (.bipush 7)) (len := 2) rfl rfl (x_bip (v := 7) (by decide))) ?_
  refine y_next (pc' := 59) (xst_of (i := .iand) (len := 1) rfl rfl rfl) ?_
  refine y_next (pc' := 60) (xst_of (i := .iadd) (len := 1) rfl rfl rfl) ?_
  refine z_aI (t := (10, 0, 0)) (k := 45) (n := 2400) (i := ((8 * l1) + (x6 &&& 7))) rfl rfl R (rc_10 R) H.1 ?_
  replace H := H.2
  refine z_is (i := (.istore 7)) (len := 2) (pc' := 63) (q := 7) rfl rfl rfl (by decide) (fun lv5 hlv => ?_)
  have e0 := xs1_A hlv e0 rfl rfl
  have e1 := xs1_A hlv e1 rfl rfl
  have e2 := xs1_A hlv e2 rfl rfl
  have e3 := xs1_A hlv e3 rfl rfl
  have e4 := xs1_A hlv e4 rfl rfl
  have e5 := xs1_A hlv e5 rfl rfl
  have e6 := xs1_B hlv e6 rfl rfl
  have e7 := xs1_N hlv
  clear hlv
  refine y_next (pc' := 64) (xst_of (i := (.iload_n 2)) (len := 1) rfl rfl (x_ilo e2)) ?_
  refine z_cI (k := 130) (i := (.invokestatic 154)) (as := [.int l2]) (rest := []) rfl rfl rfl (H _ _ R rfl) (fun x8 h Y7 R H => ?_)
  refine z_is (i := (.istore 8)) (len := 2) (pc' := 69) (q := 8) rfl rfl rfl (by decide) (fun lv6 hlv => ?_)
  have e0 := xs1_A hlv e0 rfl rfl
  have e1 := xs1_A hlv e1 rfl rfl
  have e2 := xs1_A hlv e2 rfl rfl
  have e3 := xs1_A hlv e3 rfl rfl
  have e4 := xs1_A hlv e4 rfl rfl
  have e5 := xs1_A hlv e5 rfl rfl
  have e6 := xs1_A hlv e6 rfl rfl
  have e7 := xs1_B hlv e7 rfl rfl
  have e8 := xs1_N hlv
  clear hlv
  refine y_next (pc' := 71) (xst_of (i := (.iload 8)) (len := 2) rfl rfl (x_ilo e8)) ?_
  refine y_next (pc' := 72) (xst_of (i := .i2s) (len := 1) rfl rfl rfl) ?_
  refine z_is (i := (.istore 9)) (len := 2) (pc' := 74) (q := 9) rfl rfl rfl (by decide) (fun lv7 hlv => ?_)
  have e0 := xs1_A hlv e0 rfl rfl
  have e1 := xs1_A hlv e1 rfl rfl
  have e2 := xs1_A hlv e2 rfl rfl
  have e3 := xs1_A hlv e3 rfl rfl
  have e4 := xs1_A hlv e4 rfl rfl
  have e5 := xs1_A hlv e5 rfl rfl
  have e6 := xs1_A hlv e6 rfl rfl
  have e7 := xs1_A hlv e7 rfl rfl
  have e8 := xs1_B hlv e8 rfl rfl
  have e9 := xs1_N hlv
  clear hlv
  refine y_next (pc' := 75) (xst_of (i := (.aload_n 0)) (len := 1) rfl rfl (x_aloadV (xisV_r _) e0)) ?_
  refine z_gA (t := (10, 0, 0)) (k := 39) rfl rfl rfl R (rc_10 R) ?_
  refine y_next (pc' := 79) (xst_of (i := (.iload_n 1)) (len := 1) rfl rfl (x_ilo e1)) ?_
  refine y_next (pc' := 81) (xst_of (i := (.iload 4)) (len := 2) rfl rfl (x_ilo e4)) ?_
  refine z_sI (t := (10, 0, 0)) (k := 39) (n := 300) (i := l1) rfl rfl R (rc_10 R) H.1 (fun h Y9 hY R => ?_)
  replace H := H.2 Y9 hY
  clear hY
  refine y_next (pc' := 83) (xst_of (i := (.iload_n 2)) (len := 1) rfl rfl (x_ilo e2)) ?_
  refine z_cI (k := 127) (i := (.invokestatic 144)) (as := [.int l2]) (rest := []) rfl rfl rfl (H _ _ R rfl) (fun x11 h Y10 R H => ?_)
  by_cases hx : Int32.toInt x11 < 2 ∨ 20 < Int32.toInt x11
  · replace H := H.2 hx
    refine y_next (xst_of (i := (.tableswitch 547 2 20 #[90, 102, 114, 129, 144, 159, 176, 201, 216, 231, 246, 258, 285, 312, 323, 346, 369, 369, 497])) (len := 90) rfl rfl (x_sw_out (t := 633) hx rfl)) ?_
    exact H _ _ R e0 e1 e2 e3 e4 e5 e6 e7 e8 e9
  · replace H := H.1
    have hy : Int32.toInt x11 = 2 ∨ Int32.toInt x11 = 3 ∨ Int32.toInt x11 = 4 ∨ Int32.toInt x11 = 5 ∨ Int32.toInt x11 = 6 ∨ Int32.toInt x11 = 7 ∨ Int32.toInt x11 = 8 ∨ Int32.toInt x11 = 9 ∨ Int32.toInt x11 = 10 ∨ Int32.toInt x11 = 11 ∨ Int32.toInt x11 = 12 ∨ Int32.toInt x11 = 13 ∨ Int32.toInt x11 = 14 ∨ Int32.toInt x11 = 15 ∨ Int32.toInt x11 = 16 ∨ Int32.toInt x11 = 17 ∨ Int32.toInt x11 = 18 ∨ Int32.toInt x11 = 19 ∨ Int32.toInt x11 = 20 := by omega
    rcases hy with hy | hy | hy | hy | hy | hy | hy | hy | hy | hy | hy | hy | hy | hy | hy | hy | hy | hy | hy
    · replace H := H.1
      have hz : x11 = 2 := Int32.toInt_inj.mp (hy.trans rfl)
      replace H := H hz
      refine y_next (xst_of (i := (.tableswitch 547 2 20 #[90, 102, 114, 129, 144, 159, 176, 201, 216, 231, 246, 258, 285, 312, 323, 346, 369, 369, 497])) (len := 90) rfl rfl (x_sw_in (t := 176) hx (by rw [hy]; rfl) rfl)) ?_
      refine y_next (pc' := 177) (xst_of (i := (.aload_n 0)) (len := 1) rfl rfl (x_aloadV (xisV_r _) e0)) ?_
      refine z_gA (t := (10, 0, 0)) (k := 45) rfl rfl rfl R (rc_10 R) ?_
      refine y_next (pc' := 182) (xst_of (i := (.iload 5)) (len := 2) rfl rfl (x_ilo e5)) ?_
      refine y_next (pc' := 184) (xst_of (i := (.iload 9)) (len := 2) rfl rfl (x_ilo e9)) ?_
      refine z_sI (t := (10, 0, 0)) (k := 45) (n := 2400) (i := ((8 * l1) + x2)) rfl rfl R (rc_10 R) H.1 (fun h Y12 hY R => ?_)
      replace H := H.2 Y12 hY
      clear hY
      refine y_next (pc' := 633) (xst_of (i := (.goto 448)) (len := 3) rfl rfl rfl) ?_
      exact H _ _ R e0 e1 e2 e3 e4 e5 e6 e7 e8 e9
    · replace H := H.2.1
      have hz : x11 = 3 := Int32.toInt_inj.mp (hy.trans rfl)
      replace H := H hz
      refine y_next (xst_of (i := (.tableswitch 547 2 20 #[90, 102, 114, 129, 144, 159, 176, 201, 216, 231, 246, 258, 285, 312, 323, 346, 369, 369, 497])) (len := 90) rfl rfl (x_sw_in (t := 188) hx (by rw [hy]; rfl) rfl)) ?_
      refine y_next (pc' := 189) (xst_of (i := (.aload_n 0)) (len := 1) rfl rfl (x_aloadV (xisV_r _) e0)) ?_
      refine z_gA (t := (10, 0, 0)) (k := 45) rfl rfl rfl R (rc_10 R) ?_
      refine y_next (pc' := 194) (xst_of (i := (.iload 5)) (len := 2) rfl rfl (x_ilo e5)) ?_
      refine y_next (pc' := 196) (xst_of (i := (.iload 6)) (len := 2) rfl rfl (x_ilo e6)) ?_
      refine z_sI (t := (10, 0, 0)) (k := 45) (n := 2400) (i := ((8 * l1) + x2)) rfl rfl R (rc_10 R) H.1 (fun h Y13 hY R => ?_)
      replace H := H.2 Y13 hY
      clear hY
      refine y_next (pc' := 633) (xst_of (i := (.goto 436)) (len := 3) rfl rfl rfl) ?_
      exact H _ _ R e0 e1 e2 e3 e4 e5 e6 e7 e8 e9
    · replace H := H.2.2.1
      have hz : x11 = 4 := Int32.toInt_inj.mp (hy.trans rfl)
      replace H := H hz
      refine y_next (xst_of (i := (.tableswitch 547 2 20 #[90, 102, 114, 129, 144, 159, 176, 201, 216, 231, 246, 258, 285, 312, 323, 346, 369, 369, 497])) (len := 90) rfl rfl (x_sw_in (t := 200) hx (by rw [hy]; rfl) rfl)) ?_
      refine y_next (pc' := 201) (xst_of (i := (.aload_n 0)) (len := 1) rfl rfl (x_aloadV (xisV_r _) e0)) ?_
      refine z_gA (t := (10, 0, 0)) (k := 45) rfl rfl rfl R (rc_10 R) ?_
      refine y_next (pc' := 206) (xst_of (i := (.iload 5)) (len := 2) rfl rfl (x_ilo e5)) ?_
      refine y_next (pc' := 208) (xst_of (i := (.iload 6)) (len := 2) rfl rfl (x_ilo e6)) ?_
      refine y_next (pc' := 210) (xst_of (i := (.iload 7)) (len := 2) rfl rfl (x_ilo e7)) ?_
      refine y_next (pc' := 211) (xst_of (i := .iadd) (len := 1) rfl rfl rfl) ?_
      refine z_sI (t := (10, 0, 0)) (k := 45) (n := 2400) (i := ((8 * l1) + x2)) rfl rfl R (rc_10 R) H.1 (fun h Y14 hY R => ?_)
      replace H := H.2 Y14 hY
      clear hY
      refine y_next (pc' := 633) (xst_of (i := (.goto 421)) (len := 3) rfl rfl rfl) ?_
      exact H _ _ R e0 e1 e2 e3 e4 e5 e6 e7 e8 e9
    · replace H := H.2.2.2.1
      have hz : x11 = 5 := Int32.toInt_inj.mp (hy.trans rfl)
      replace H := H hz
      refine y_next (xst_of (i := (.tableswitch 547 2 20 #[90, 102, 114, 129, 144, 159, 176, 201, 216, 231, 246, 258, 285, 312, 323, 346, 369, 369, 497])) (len := 90) rfl rfl (x_sw_in (t := 215) hx (by rw [hy]; rfl) rfl)) ?_
      refine y_next (pc' := 216) (xst_of (i := (.aload_n 0)) (len := 1) rfl rfl (x_aloadV (xisV_r _) e0)) ?_
      refine z_gA (t := (10, 0, 0)) (k := 45) rfl rfl rfl R (rc_10 R) ?_
      refine y_next (pc' := 221) (xst_of (i := (.iload 5)) (len := 2) rfl rfl (x_ilo e5)) ?_
      refine y_next (pc' := 223) (xst_of (i := (.iload 6)) (len := 2) rfl rfl (x_ilo e6)) ?_
      refine y_next (pc' := 225) (xst_of (i := (.iload 7)) (len := 2) rfl rfl (x_ilo e7)) ?_
      refine y_next (pc' := 226) (xst_of (i := .isub) (len := 1) rfl rfl rfl) ?_
      refine z_sI (t := (10, 0, 0)) (k := 45) (n := 2400) (i := ((8 * l1) + x2)) rfl rfl R (rc_10 R) H.1 (fun h Y15 hY R => ?_)
      replace H := H.2 Y15 hY
      clear hY
      refine y_next (pc' := 633) (xst_of (i := (.goto 406)) (len := 3) rfl rfl rfl) ?_
      exact H _ _ R e0 e1 e2 e3 e4 e5 e6 e7 e8 e9
    · replace H := H.2.2.2.2.1
      have hz : x11 = 6 := Int32.toInt_inj.mp (hy.trans rfl)
      replace H := H hz
      refine y_next (xst_of (i := (.tableswitch 547 2 20 #[90, 102, 114, 129, 144, 159, 176, 201, 216, 231, 246, 258, 285, 312, 323, 346, 369, 369, 497])) (len := 90) rfl rfl (x_sw_in (t := 230) hx (by rw [hy]; rfl) rfl)) ?_
      refine y_next (pc' := 231) (xst_of (i := (.aload_n 0)) (len := 1) rfl rfl (x_aloadV (xisV_r _) e0)) ?_
      refine z_gA (t := (10, 0, 0)) (k := 45) rfl rfl rfl R (rc_10 R) ?_
      refine y_next (pc' := 236) (xst_of (i := (.iload 5)) (len := 2) rfl rfl (x_ilo e5)) ?_
      refine y_next (pc' := 238) (xst_of (i := (.iload 6)) (len := 2) rfl rfl (x_ilo e6)) ?_
      refine y_next (pc' := 240) (xst_of (i := (.iload 7)) (len := 2) rfl rfl (x_ilo e7)) ?_
      refine y_next (pc' := 241) (xst_of (i := .imul) (len := 1) rfl rfl rfl) ?_
      refine z_sI (t := (10, 0, 0)) (k := 45) (n := 2400) (i := ((8 * l1) + x2)) rfl rfl R (rc_10 R) H.1 (fun h Y16 hY R => ?_)
      replace H := H.2 Y16 hY
      clear hY
      refine y_next (pc' := 633) (xst_of (i := (.goto 391)) (len := 3) rfl rfl rfl) ?_
      exact H _ _ R e0 e1 e2 e3 e4 e5 e6 e7 e8 e9
    · replace H := H.2.2.2.2.2.1
      have hz : x11 = 7 := Int32.toInt_inj.mp (hy.trans rfl)
      replace H := H hz
      refine y_next (xst_of (i := (.tableswitch 547 2 20 #[90, 102, 114, 129, 144, 159, 176, 201, 216, 231, 246, 258, 285, 312, 323, 346, 369, 369, 497])) (len := 90) rfl rfl (x_sw_in (t := 245) hx (by rw [hy]; rfl) rfl)) ?_
      refine y_next (pc' := 246) (xst_of (i := (.aload_n 0)) (len := 1) rfl rfl (x_aloadV (xisV_r _) e0)) ?_
      refine z_gA (t := (10, 0, 0)) (k := 45) rfl rfl rfl R (rc_10 R) ?_
      refine y_next (pc' := 251) (xst_of (i := (.iload 5)) (len := 2) rfl rfl (x_ilo e5)) ?_
      refine y_next (pc' := 253) (xst_of (i := (.iload 6)) (len := 2) rfl rfl (x_ilo e6)) ?_
      refine y_next (pc' := 255) (xst_of (i := (.iload 7)) (len := 2) rfl rfl (x_ilo e7)) ?_
      refine z_cI (k := 168) (i := (.invokestatic 305)) (as := [.int (fA Y3 (10, 0, 0) 45 (Int32.toNatClampNeg ((8 * l1) + x4))), .int (fA Y5 (10, 0, 0) 45 (Int32.toNatClampNeg ((8 * l1) + (x6 &&& 7))))]) (rest := [.int ((8 * l1) + x2), .ref (g.2 (10, 0, 0) 46)]) rfl rfl rfl (H _ _ R rfl rfl) (fun x18 h Y17 R H => ?_)
      refine z_sI (t := (10, 0, 0)) (k := 45) (n := 2400) (i := ((8 * l1) + x2)) rfl rfl R (rc_10 R) H.1 (fun h Y19 hY R => ?_)
      replace H := H.2 Y19 hY
      clear hY
      refine y_next (pc' := 633) (xst_of (i := (.goto 374)) (len := 3) rfl rfl rfl) ?_
      exact H _ _ R e0 e1 e2 e3 e4 e5 e6 e7 e8 e9
    · replace H := H.2.2.2.2.2.2.1
      have hz : x11 = 8 := Int32.toInt_inj.mp (hy.trans rfl)
      replace H := H hz
      refine y_next (xst_of (i := (.tableswitch 547 2 20 #[90, 102, 114, 129, 144, 159, 176, 201, 216, 231, 246, 258, 285, 312, 323, 346, 369, 369, 497])) (len := 90) rfl rfl (x_sw_in (t := 262) hx (by rw [hy]; rfl) rfl)) ?_
      refine y_next (pc' := 263) (xst_of (i := (.aload_n 0)) (len := 1) rfl rfl (x_aloadV (xisV_r _) e0)) ?_
      refine z_gA (t := (10, 0, 0)) (k := 45) rfl rfl rfl R (rc_10 R) ?_
      refine y_next (pc' := 268) (xst_of (i := (.iload 5)) (len := 2) rfl rfl (x_ilo e5)) ?_
      refine y_next (pc' := 270) (xst_of (i := (.iload 7)) (len := 2) rfl rfl (x_ilo e7)) ?_
      refine y_next (pc' := 271) (xst_of (i := (.iconst (-1))) (len := 1) rfl rfl (x_ico (v := (-1)) (by decide))) ?_
      by_cases hc : (fA Y5 (10, 0, 0) 45 (Int32.toNatClampNeg ((8 * l1) + (x6 &&& 7)))) = (-1)
      · replace H := H.1 hc
        refine y_next (pc' := 274) (xst_of (i := (.if_icmp .ne 7)) (len := 3) rfl rfl (xf_icmp_ne (t := 278) rfl (fun z => z hc))) ?_
        refine y_next (pc' := 275) (xst_of (i := (.iconst 0)) (len := 1) rfl rfl (x_ico (v := 0) (by decide))) ?_
        refine y_next (pc' := 283) (xst_of (i := (.goto 8)) (len := 3) rfl rfl rfl) ?_
        exact H _ _ R e0 e1 e2 e3 e4 e5 e6 e7 e8 e9
      · replace H := H.2 hc
        refine y_next (xst_of (i := (.if_icmp .ne 7)) (len := 3) rfl rfl (xt_icmp_ne (t := 278) rfl hc)) ?_
        refine y_next (pc' := 280) (xst_of (i := (.iload 6)) (len := 2) rfl rfl (x_ilo e6)) ?_
        refine y_next (pc' := 282) (xst_of (i := (.iload 7)) (len := 2) rfl rfl (x_ilo e7)) ?_
        refine y_next (pc' := 283) (xst_of (i := .irem) (len := 1) rfl rfl (x_irem H.1)) ?_
        replace H := H.2
        exact H _ _ R e0 e1 e2 e3 e4 e5 e6 e7 e8 e9
    · replace H := H.2.2.2.2.2.2.2.1
      have hz : x11 = 9 := Int32.toInt_inj.mp (hy.trans rfl)
      replace H := H hz
      refine y_next (xst_of (i := (.tableswitch 547 2 20 #[90, 102, 114, 129, 144, 159, 176, 201, 216, 231, 246, 258, 285, 312, 323, 346, 369, 369, 497])) (len := 90) rfl rfl (x_sw_in (t := 287) hx (by rw [hy]; rfl) rfl)) ?_
      refine y_next (pc' := 288) (xst_of (i := (.aload_n 0)) (len := 1) rfl rfl (x_aloadV (xisV_r _) e0)) ?_
      refine z_gA (t := (10, 0, 0)) (k := 45) rfl rfl rfl R (rc_10 R) ?_
      refine y_next (pc' := 293) (xst_of (i := (.iload 5)) (len := 2) rfl rfl (x_ilo e5)) ?_
      refine y_next (pc' := 295) (xst_of (i := (.iload 6)) (len := 2) rfl rfl (x_ilo e6)) ?_
      refine y_next (pc' := 297) (xst_of (i := (.iload 9)) (len := 2) rfl rfl (x_ilo e9)) ?_
      refine y_next (pc' := 298) (xst_of (i := .iadd) (len := 1) rfl rfl rfl) ?_
      refine z_sI (t := (10, 0, 0)) (k := 45) (n := 2400) (i := ((8 * l1) + x2)) rfl rfl R (rc_10 R) H.1 (fun h Y20 hY R => ?_)
      replace H := H.2 Y20 hY
      clear hY
      refine y_next (pc' := 633) (xst_of (i := (.goto 334)) (len := 3) rfl rfl rfl) ?_
      exact H _ _ R e0 e1 e2 e3 e4 e5 e6 e7 e8 e9
    · replace H := H.2.2.2.2.2.2.2.2.1
      have hz : x11 = 10 := Int32.toInt_inj.mp (hy.trans rfl)
      replace H := H hz
      refine y_next (xst_of (i := (.tableswitch 547 2 20 #[90, 102, 114, 129, 144, 159, 176, 201, 216, 231, 246, 258, 285, 312, 323, 346, 369, 369, 497])) (len := 90) rfl rfl (x_sw_in (t := 302) hx (by rw [hy]; rfl) rfl)) ?_
      refine y_next (pc' := 303) (xst_of (i := (.aload_n 0)) (len := 1) rfl rfl (x_aloadV (xisV_r _) e0)) ?_
      refine z_gA (t := (10, 0, 0)) (k := 45) rfl rfl rfl R (rc_10 R) ?_
      refine y_next (pc' := 308) (xst_of (i := (.iload 5)) (len := 2) rfl rfl (x_ilo e5)) ?_
      refine y_next (pc' := 310) (xst_of (i := (.iload 6)) (len := 2) rfl rfl (x_ilo e6)) ?_
      refine y_next (pc' := 312) (xst_of (i := (.iload 8)) (len := 2) rfl rfl (x_ilo e8)) ?_
      refine y_next (pc' := 313) (xst_of (i := .iand) (len := 1) rfl rfl rfl) ?_
      refine z_sI (t := (10, 0, 0)) (k := 45) (n := 2400) (i := ((8 * l1) + x2)) rfl rfl R (rc_10 R) H.1 (fun h Y21 hY R => ?_)
      replace H := H.2 Y21 hY
      clear hY
      refine y_next (pc' := 633) (xst_of (i := (.goto 319)) (len := 3) rfl rfl rfl) ?_
      exact H _ _ R e0 e1 e2 e3 e4 e5 e6 e7 e8 e9
    · replace H := H.2.2.2.2.2.2.2.2.2.1
      have hz : x11 = 11 := Int32.toInt_inj.mp (hy.trans rfl)
      replace H := H hz
      refine y_next (xst_of (i := (.tableswitch 547 2 20 #[90, 102, 114, 129, 144, 159, 176, 201, 216, 231, 246, 258, 285, 312, 323, 346, 369, 369, 497])) (len := 90) rfl rfl (x_sw_in (t := 317) hx (by rw [hy]; rfl) rfl)) ?_
      refine y_next (pc' := 318) (xst_of (i := (.aload_n 0)) (len := 1) rfl rfl (x_aloadV (xisV_r _) e0)) ?_
      refine z_gA (t := (10, 0, 0)) (k := 45) rfl rfl rfl R (rc_10 R) ?_
      refine y_next (pc' := 323) (xst_of (i := (.iload 5)) (len := 2) rfl rfl (x_ilo e5)) ?_
      refine y_next (pc' := 325) (xst_of (i := (.iload 6)) (len := 2) rfl rfl (x_ilo e6)) ?_
      refine y_next (pc' := 327) (xst_of (i := (.iload 8)) (len := 2) rfl rfl (x_ilo e8)) ?_
      refine y_next (pc' := 328) (xst_of (i := .ishr) (len := 1) rfl rfl rfl) ?_
      refine z_sI (t := (10, 0, 0)) (k := 45) (n := 2400) (i := ((8 * l1) + x2)) rfl rfl R (rc_10 R) H.1 (fun h Y22 hY R => ?_)
      replace H := H.2 Y22 hY
      clear hY
      refine y_next (pc' := 633) (xst_of (i := (.goto 304)) (len := 3) rfl rfl rfl) ?_
      exact H _ _ R e0 e1 e2 e3 e4 e5 e6 e7 e8 e9
    · replace H := H.2.2.2.2.2.2.2.2.2.2.1
      have hz : x11 = 12 := Int32.toInt_inj.mp (hy.trans rfl)
      replace H := H hz
      refine y_next (xst_of (i := (.tableswitch 547 2 20 #[90, 102, 114, 129, 144, 159, 176, 201, 216, 231, 246, 258, 285, 312, 323, 346, 369, 369, 497])) (len := 90) rfl rfl (x_sw_in (t := 332) hx (by rw [hy]; rfl) rfl)) ?_
      refine y_next (pc' := 333) (xst_of (i := (.aload_n 0)) (len := 1) rfl rfl (x_aloadV (xisV_r _) e0)) ?_
      refine z_gA (t := (10, 0, 0)) (k := 45) rfl rfl rfl R (rc_10 R) ?_
      refine y_next (pc' := 338) (xst_of (i := (.iload 5)) (len := 2) rfl rfl (x_ilo e5)) ?_
      refine y_next (pc' := 340) (xst_of (i := (.iload 8)) (len := 2) rfl rfl (x_ilo e8)) ?_
      refine z_sI (t := (10, 0, 0)) (k := 45) (n := 2400) (i := ((8 * l1) + x2)) rfl rfl R (rc_10 R) H.1 (fun h Y23 hY R => ?_)
      replace H := H.2 Y23 hY
      clear hY
      refine y_next (pc' := 633) (xst_of (i := (.goto 292)) (len := 3) rfl rfl rfl) ?_
      exact H _ _ R e0 e1 e2 e3 e4 e5 e6 e7 e8 e9
    · replace H := H.2.2.2.2.2.2.2.2.2.2.2.1
      have hz : x11 = 13 := Int32.toInt_inj.mp (hy.trans rfl)
      replace H := H hz
      refine y_next (xst_of (i := (.tableswitch 547 2 20 #[90, 102, 114, 129, 144, 159, 176, 201, 216, 231, 246, 258, 285, 312, 323, 346, 369, 369, 497])) (len := 90) rfl rfl (x_sw_in (t := 344) hx (by rw [hy]; rfl) rfl)) ?_
      refine y_next (pc' := 345) (xst_of (i := (.aload_n 0)) (len := 1) rfl rfl (x_aloadV (xisV_r _) e0)) ?_
      refine z_gA (t := (10, 0, 0)) (k := 45) rfl rfl rfl R (rc_10 R) ?_
      refine y_next (pc' := 350) (xst_of (i := (.iload 5)) (len := 2) rfl rfl (x_ilo e5)) ?_
      refine y_next (pc' := 351) (xst_of (i := (.aload_n 0)) (len := 1) rfl rfl (x_aloadV (xisV_r _) e0)) ?_
      refine z_gA (t := (10, 0, 0)) (k := 50) rfl rfl rfl R (rc_10 R) ?_
      refine y_next (pc' := 355) (xst_of (i := (.aload_n 0)) (len := 1) rfl rfl (x_aloadV (xisV_r _) e0)) ?_
      refine z_gA (t := (10, 0, 0)) (k := 42) rfl rfl rfl R (rc_10 R) ?_
      refine y_next (pc' := 359) (xst_of (i := (.iload_n 1)) (len := 1) rfl rfl (x_ilo e1)) ?_
      refine z_aI (t := (10, 0, 0)) (k := 42) (n := 300) (i := l1) rfl rfl R (rc_10 R) H.1 ?_
      replace H := H.2
      refine y_next (pc' := 362) (xst_of (i := (.iload 6)) (len := 2) rfl rfl (x_ilo e6)) ?_
      refine y_next (pc' := 363) (xst_of (i := .iadd) (len := 1) rfl rfl rfl) ?_
      refine y_next (pc' := 365) (xst_of (i := (.iload 9)) (len := 2) rfl rfl (x_ilo e9)) ?_
      refine y_next (pc' := 366) (xst_of (i := .iadd) (len := 1) rfl rfl rfl) ?_
      refine z_aI (t := (10, 0, 0)) (k := 50) (n := 4096) (i := (((fA Y10 (10, 0, 0) 42 (Int32.toNatClampNeg l1)) + (fA Y3 (10, 0, 0) 45 (Int32.toNatClampNeg ((8 * l1) + x4)))) + (Int32.toInt16 x8).toInt32)) rfl rfl R (rc_10 R) H.1 ?_
      replace H := H.2
      refine z_sI (t := (10, 0, 0)) (k := 45) (n := 2400) (i := ((8 * l1) + x2)) rfl rfl R (rc_10 R) H.1 (fun h Y24 hY R => ?_)
      replace H := H.2 Y24 hY
      clear hY
      refine y_next (pc' := 633) (xst_of (i := (.goto 265)) (len := 3) rfl rfl rfl) ?_
      exact H _ _ R e0 e1 e2 e3 e4 e5 e6 e7 e8 e9
    · replace H := H.2.2.2.2.2.2.2.2.2.2.2.2.1
      have hz : x11 = 14 := Int32.toInt_inj.mp (hy.trans rfl)
      replace H := H hz
      refine y_next (xst_of (i := (.tableswitch 547 2 20 #[90, 102, 114, 129, 144, 159, 176, 201, 216, 231, 246, 258, 285, 312, 323, 346, 369, 369, 497])) (len := 90) rfl rfl (x_sw_in (t := 371) hx (by rw [hy]; rfl) rfl)) ?_
      refine y_next (pc' := 372) (xst_of (i := (.aload_n 0)) (len := 1) rfl rfl (x_aloadV (xisV_r _) e0)) ?_
      refine z_gA (t := (10, 0, 0)) (k := 50) rfl rfl rfl R (rc_10 R) ?_
      refine y_next (pc' := 376) (xst_of (i := (.aload_n 0)) (len := 1) rfl rfl (x_aloadV (xisV_r _) e0)) ?_
      refine z_gA (t := (10, 0, 0)) (k := 42) rfl rfl rfl R (rc_10 R) ?_
      refine y_next (pc' := 380) (xst_of (i := (.iload_n 1)) (len := 1) rfl rfl (x_ilo e1)) ?_
      refine z_aI (t := (10, 0, 0)) (k := 42) (n := 300) (i := l1) rfl rfl R (rc_10 R) H.1 ?_
      replace H := H.2
      refine y_next (pc' := 383) (xst_of (i := (.iload 6)) (len := 2) rfl rfl (x_ilo e6)) ?_
      refine y_next (pc' := 384) (xst_of (i := .iadd) (len := 1) rfl rfl rfl) ?_
      refine y_next (pc' := 386) (xst_of (i := (.iload 9)) (len := 2) rfl rfl (x_ilo e9)) ?_
      refine y_next (pc' := 387) (xst_of (i := .iadd) (len := 1) rfl rfl rfl) ?_
      refine y_next (pc' := 388) (xst_of (i := (.aload_n 0)) (len := 1) rfl rfl (x_aloadV (xisV_r _) e0)) ?_
      refine z_gA (t := (10, 0, 0)) (k := 45) rfl rfl rfl R (rc_10 R) ?_
      refine y_next (pc' := 393) (xst_of (i := (.iload 5)) (len := 2) rfl rfl (x_ilo e5)) ?_
      refine z_aI (t := (10, 0, 0)) (k := 45) (n := 2400) (i := ((8 * l1) + x2)) rfl rfl R (rc_10 R) H.1 ?_
      replace H := H.2
      refine z_sI (t := (10, 0, 0)) (k := 50) (n := 4096) (i := (((fA Y10 (10, 0, 0) 42 (Int32.toNatClampNeg l1)) + (fA Y3 (10, 0, 0) 45 (Int32.toNatClampNeg ((8 * l1) + x4)))) + (Int32.toInt16 x8).toInt32)) rfl rfl R (rc_10 R) H.1 (fun h Y25 hY R => ?_)
      replace H := H.2 Y25 hY
      clear hY
      refine y_next (pc' := 633) (xst_of (i := (.goto 238)) (len := 3) rfl rfl rfl) ?_
      exact H _ _ R e0 e1 e2 e3 e4 e5 e6 e7 e8 e9
    · replace H := H.2.2.2.2.2.2.2.2.2.2.2.2.2.1
      have hz : x11 = 15 := Int32.toInt_inj.mp (hy.trans rfl)
      replace H := H hz
      refine y_next (xst_of (i := (.tableswitch 547 2 20 #[90, 102, 114, 129, 144, 159, 176, 201, 216, 231, 246, 258, 285, 312, 323, 346, 369, 369, 497])) (len := 90) rfl rfl (x_sw_in (t := 398) hx (by rw [hy]; rfl) rfl)) ?_
      refine y_next (pc' := 399) (xst_of (i := (.aload_n 0)) (len := 1) rfl rfl (x_aloadV (xisV_r _) e0)) ?_
      refine z_gA (t := (10, 0, 0)) (k := 39) rfl rfl rfl R (rc_10 R) ?_
      refine y_next (pc' := 403) (xst_of (i := (.iload_n 1)) (len := 1) rfl rfl (x_ilo e1)) ?_
      refine y_next (pc' := 405) (xst_of (i := (.iload 8)) (len := 2) rfl rfl (x_ilo e8)) ?_
      refine z_sI (t := (10, 0, 0)) (k := 39) (n := 300) (i := l1) rfl rfl R (rc_10 R) H.1 (fun h Y26 hY R => ?_)
      replace H := H.2 Y26 hY
      clear hY
      refine y_next (pc' := 633) (xst_of (i := (.goto 227)) (len := 3) rfl rfl rfl) ?_
      exact H _ _ R e0 e1 e2 e3 e4 e5 e6 e7 e8 e9
    · replace H := H.2.2.2.2.2.2.2.2.2.2.2.2.2.2.1
      have hz : x11 = 16 := Int32.toInt_inj.mp (hy.trans rfl)
      replace H := H hz
      refine y_next (xst_of (i := (.tableswitch 547 2 20 #[90, 102, 114, 129, 144, 159, 176, 201, 216, 231, 246, 258, 285, 312, 323, 346, 369, 369, 497])) (len := 90) rfl rfl (x_sw_in (t := 409) hx (by rw [hy]; rfl) rfl)) ?_
      refine y_next (pc' := 410) (xst_of (i := (.aload_n 0)) (len := 1) rfl rfl (x_aloadV (xisV_r _) e0)) ?_
      refine z_gA (t := (10, 0, 0)) (k := 45) rfl rfl rfl R (rc_10 R) ?_
      refine y_next (pc' := 415) (xst_of (i := (.iload 5)) (len := 2) rfl rfl (x_ilo e5)) ?_
      refine z_aI (t := (10, 0, 0)) (k := 45) (n := 2400) (i := ((8 * l1) + x2)) rfl rfl R (rc_10 R) H.1 ?_
      replace H := H.2
      refine y_next (pc' := 418) (xst_of (i := (.iload 6)) (len := 2) rfl rfl (x_ilo e6)) ?_
      by_cases hc : (fA Y3 (10, 0, 0) 45 (Int32.toNatClampNeg ((8 * l1) + x4))) ≤ (fA Y10 (10, 0, 0) 45 (Int32.toNatClampNeg ((8 * l1) + x2)))
      · replace H := H.1 hc
        refine y_next (xst_of (i := (.if_icmp .ge 215)) (len := 3) rfl rfl (xt_icmp_ge (t := 633) rfl hc)) ?_
        exact H _ _ R e0 e1 e2 e3 e4 e5 e6 e7 e8 e9
      · replace H := H.2 hc
        refine y_next (pc' := 421) (xst_of (i := (.if_icmp .ge 215)) (len := 3) rfl rfl (xf_icmp_ge (t := 633) rfl hc)) ?_
        refine y_next (pc' := 422) (xst_of (i := (.aload_n 0)) (len := 1) rfl rfl (x_aloadV (xisV_r _) e0)) ?_
        refine z_gA (t := (10, 0, 0)) (k := 39) rfl rfl rfl R (rc_10 R) ?_
        refine y_next (pc' := 426) (xst_of (i := (.iload_n 1)) (len := 1) rfl rfl (x_ilo e1)) ?_
        refine y_next (pc' := 428) (xst_of (i := (.iload 8)) (len := 2) rfl rfl (x_ilo e8)) ?_
        refine z_sI (t := (10, 0, 0)) (k := 39) (n := 300) (i := l1) rfl rfl R (rc_10 R) H.1 (fun h Y27 hY R => ?_)
        replace H := H.2 Y27 hY
        clear hY
        refine y_next (pc' := 633) (xst_of (i := (.goto 204)) (len := 3) rfl rfl rfl) ?_
        exact H _ _ R e0 e1 e2 e3 e4 e5 e6 e7 e8 e9
    · replace H := H.2.2.2.2.2.2.2.2.2.2.2.2.2.2.2.1
      have hz : x11 = 17 := Int32.toInt_inj.mp (hy.trans rfl)
      replace H := H hz
      refine y_next (xst_of (i := (.tableswitch 547 2 20 #[90, 102, 114, 129, 144, 159, 176, 201, 216, 231, 246, 258, 285, 312, 323, 346, 369, 369, 497])) (len := 90) rfl rfl (x_sw_in (t := 432) hx (by rw [hy]; rfl) rfl)) ?_
      refine y_next (pc' := 433) (xst_of (i := (.aload_n 0)) (len := 1) rfl rfl (x_aloadV (xisV_r _) e0)) ?_
      refine z_gA (t := (10, 0, 0)) (k := 45) rfl rfl rfl R (rc_10 R) ?_
      refine y_next (pc' := 438) (xst_of (i := (.iload 5)) (len := 2) rfl rfl (x_ilo e5)) ?_
      refine z_aI (t := (10, 0, 0)) (k := 45) (n := 2400) (i := ((8 * l1) + x2)) rfl rfl R (rc_10 R) H.1 ?_
      replace H := H.2
      refine y_next (pc' := 441) (xst_of (i := (.iload 6)) (len := 2) rfl rfl (x_ilo e6)) ?_
      by_cases hc : (fA Y10 (10, 0, 0) 45 (Int32.toNatClampNeg ((8 * l1) + x2))) = (fA Y3 (10, 0, 0) 45 (Int32.toNatClampNeg ((8 * l1) + x4)))
      · replace H := H.1 hc
        refine y_next (pc' := 444) (xst_of (i := (.if_icmp .ne 192)) (len := 3) rfl rfl (xf_icmp_ne (t := 633) rfl (fun z => z hc))) ?_
        refine y_next (pc' := 445) (xst_of (i := (.aload_n 0)) (len := 1) rfl rfl (x_aloadV (xisV_r _) e0)) ?_
        refine z_gA (t := (10, 0, 0)) (k := 39) rfl rfl rfl R (rc_10 R) ?_
        refine y_next (pc' := 449) (xst_of (i := (.iload_n 1)) (len := 1) rfl rfl (x_ilo e1)) ?_
        refine y_next (pc' := 451) (xst_of (i := (.iload 8)) (len := 2) rfl rfl (x_ilo e8)) ?_
        refine z_sI (t := (10, 0, 0)) (k := 39) (n := 300) (i := l1) rfl rfl R (rc_10 R) H.1 (fun h Y28 hY R => ?_)
        replace H := H.2 Y28 hY
        clear hY
        refine y_next (pc' := 633) (xst_of (i := (.goto 181)) (len := 3) rfl rfl rfl) ?_
        exact H _ _ R e0 e1 e2 e3 e4 e5 e6 e7 e8 e9
      · replace H := H.2 hc
        refine y_next (xst_of (i := (.if_icmp .ne 192)) (len := 3) rfl rfl (xt_icmp_ne (t := 633) rfl hc)) ?_
        exact H _ _ R e0 e1 e2 e3 e4 e5 e6 e7 e8 e9
    · replace H := H.2.2.2.2.2.2.2.2.2.2.2.2.2.2.2.2.1
      have hz : x11 = 18 := Int32.toInt_inj.mp (hy.trans rfl)
      replace H := H hz
      refine y_next (xst_of (i := (.tableswitch 547 2 20 #[90, 102, 114, 129, 144, 159, 176, 201, 216, 231, 246, 258, 285, 312, 323, 346, 369, 369, 497])) (len := 90) rfl rfl (x_sw_in (t := 455) hx (by rw [hy]; rfl) rfl)) ?_
      exact H _ _ R e0 e1 e2 e3 e4 e5 e6 e7 e8 e9
    · replace H := H.2.2.2.2.2.2.2.2.2.2.2.2.2.2.2.2.2.1
      have hz : x11 = 19 := Int32.toInt_inj.mp (hy.trans rfl)
      replace H := H hz
      refine y_next (xst_of (i := (.tableswitch 547 2 20 #[90, 102, 114, 129, 144, 159, 176, 201, 216, 231, 246, 258, 285, 312, 323, 346, 369, 369, 497])) (len := 90) rfl rfl (x_sw_in (t := 455) hx (by rw [hy]; rfl) rfl)) ?_
      exact H _ _ R e0 e1 e2 e3 e4 e5 e6 e7 e8 e9
    · replace H := H.2.2.2.2.2.2.2.2.2.2.2.2.2.2.2.2.2.2
      have hz : x11 = 20 := Int32.toInt_inj.mp (hy.trans rfl)
      replace H := H hz
      refine y_next (xst_of (i := (.tableswitch 547 2 20 #[90, 102, 114, 129, 144, 159, 176, 201, 216, 231, 246, 258, 285, 312, 323, 346, 369, 369, 497])) (len := 90) rfl rfl (x_sw_in (t := 583) hx (by rw [hy]; rfl) rfl)) ?_
      refine y_next (pc' := 584) (xst_of (i := (.aload_n 0)) (len := 1) rfl rfl (x_aloadV (xisV_r _) e0)) ?_
      refine z_gA (t := (10, 0, 0)) (k := 41) rfl rfl rfl R (rc_10 R) ?_
      refine y_next (pc' := 588) (xst_of (i := (.iload_n 1)) (len := 1) rfl rfl (x_ilo e1)) ?_
      refine y_next (pc' := 589) (xst_of (i := .dup2) (len := 1) rfl rfl (x_dup2 rfl rfl)) ?_
      refine z_aI (t := (10, 0, 0)) (k := 41) (n := 300) (i := l1) rfl rfl R (rc_10 R) H.1 ?_
      replace H := H.2
      refine y_next (pc' := 591) (xst_of (i := (.iconst 1)) (len := 1) rfl rfl (x_ico (v := 1) (by decide))) ?_
      refine y_next (pc' := 592) (xst_of (i := .isub) (len := 1) rfl rfl rfl) ?_
      refine z_sI (t := (10, 0, 0)) (k := 41) (n := 300) (i := l1) rfl rfl R (rc_10 R) H.1 (fun h Y29 hY R => ?_)
      replace H := H.2 Y29 hY
      clear hY
      refine y_next (pc' := 594) (xst_of (i := (.aload_n 0)) (len := 1) rfl rfl (x_aloadV (xisV_r _) e0)) ?_
      refine y_next (pc' := 595) (xst_of (i := (.iload_n 1)) (len := 1) rfl rfl (x_ilo e1)) ?_
      refine y_next (pc' := 596) (xst_of (i := (.aload_n 0)) (len := 1) rfl rfl (x_aloadV (xisV_r _) e0)) ?_
      refine z_gA (t := (10, 0, 0)) (k := 47) rfl rfl rfl R (rc_10 R) ?_
      refine y_next (pc' := 601) (xst_of (i := (.bipush 40)) (len := 2) rfl rfl (x_bip (v := 40) (by decide))) ?_
      refine y_next (pc' := 602) (xst_of (i := (.iload_n 1)) (len := 1) rfl rfl (x_ilo e1)) ?_
      refine y_next (pc' := 603) (xst_of (i := .imul) (len := 1) rfl rfl rfl) ?_
      refine y_next (pc' := 604) (xst_of (i := (.aload_n 0)) (len := 1) rfl rfl (x_aloadV (xisV_r _) e0)) ?_
      refine z_gA (t := (10, 0, 0)) (k := 41) rfl rfl rfl R (rc_10 R) ?_
      refine y_next (pc' := 608) (xst_of (i := (.iload_n 1)) (len := 1) rfl rfl (x_ilo e1)) ?_
      refine z_aI (t := (10, 0, 0)) (k := 41) (n := 300) (i := l1) rfl rfl R (rc_10 R) H.1 ?_
      replace H := H.2
      refine y_next (pc' := 610) (xst_of (i := .iadd) (len := 1) rfl rfl rfl) ?_
      refine z_aI (t := (10, 0, 0)) (k := 47) (n := 12000) (i := ((40 * l1) + (fA Y29 (10, 0, 0) 41 (Int32.toNatClampNeg l1)))) rfl rfl R (rc_10 R) H.1 ?_
      replace H := H.2
      refine y_next (pc' := 612) (xst_of (i := (.aload_n 0)) (len := 1) rfl rfl (x_aloadV (xisV_r _) e0)) ?_
      refine z_gA (t := (10, 0, 0)) (k := 48) rfl rfl rfl R (rc_10 R) ?_
      refine y_next (pc' := 617) (xst_of (i := (.bipush 40)) (len := 2) rfl rfl (x_bip (v := 40) (by decide))) ?_
      refine y_next (pc' := 618) (xst_of (i := (.iload_n 1)) (len := 1) rfl rfl (x_ilo e1)) ?_
      refine y_next (pc' := 619) (xst_of (i := .imul) (len := 1) rfl rfl rfl) ?_
      refine y_next (pc' := 620) (xst_of (i := (.aload_n 0)) (len := 1) rfl rfl (x_aloadV (xisV_r _) e0)) ?_
      refine z_gA (t := (10, 0, 0)) (k := 41) rfl rfl rfl R (rc_10 R) ?_
      refine y_next (pc' := 624) (xst_of (i := (.iload_n 1)) (len := 1) rfl rfl (x_ilo e1)) ?_
      refine z_aI (t := (10, 0, 0)) (k := 41) (n := 300) (i := l1) rfl rfl R (rc_10 R) H.1 ?_
      replace H := H.2
      refine y_next (pc' := 626) (xst_of (i := .iadd) (len := 1) rfl rfl rfl) ?_
      refine z_aI (t := (10, 0, 0)) (k := 48) (n := 12000) (i := ((40 * l1) + (fA Y29 (10, 0, 0) 41 (Int32.toNatClampNeg l1)))) rfl rfl R (rc_10 R) H.1 ?_
      replace H := H.2
      refine z_cN (k := 169) (i := (.invokevirtual 308)) (as := [.ref (g.2 (10, 0, 0) 0), .int l1, .int (fA Y29 (10, 0, 0) 47 (Int32.toNatClampNeg ((40 * l1) + (fA Y29 (10, 0, 0) 41 (Int32.toNatClampNeg l1))))), .int (fA Y29 (10, 0, 0) 48 (Int32.toNatClampNeg ((40 * l1) + (fA Y29 (10, 0, 0) 41 (Int32.toNatClampNeg l1)))))]) (rest := []) rfl rfl (x_callv rfl rfl (rc_ob R (rc_10 R) rfl) rfl rfl) (H _ _ R rfl rfl rfl rfl) (fun h Y30 R H => ?_)
      refine y_next (pc' := 633) (xst_of (i := (.goto 3)) (len := 3) rfl rfl rfl) ?_
      exact H _ _ R e0 e1 e2 e3 e4 e5 e6 e7 e8 e9
set_option maxRecDepth 20000 in
theorem l_170_283 {V : xV} {g : xG} {Y : xW} {l1 : Int32} {l2 : Int32} {l3 : Int32} {l4 : Int32} {l5 : Int32} {l6 : Int32} {l7 : Int32} {l8 : Int32} {l9 : Int32} {s1 : Int32} {s2 : Int32} {Q : xW → Prop} (H : vp_in s1 2400 ∧ ∀ Y1, Y1 = uA Y (10, 0, 0) 45 (Int32.toNatClampNeg s1) s2 → L_170_633 V g Y1 l1 l2 l3 l4 l5 l6 l7 l8 l9 Q) : L_170_283 V g Y l1 l2 l3 l4 l5 l6 l7 l8 l9 s1 s2 Q := by
  intro h lv R e0 e1 e2 e3 e4 e5 e6 e7 e8 e9
  refine z_sI (t := (10, 0, 0)) (k := 45) (n := 2400) (i := s1) rfl rfl R (rc_10 R) H.1 (fun h Y1 hY R => ?_)
  replace H := H.2 Y1 hY
  clear hY
  refine y_next (pc' := 633) (xst_of (i := (.goto 349)) (len := 3) rfl rfl rfl) ?_
  exact H _ _ R e0 e1 e2 e3 e4 e5 e6 e7 e8 e9
set_option maxRecDepth 20000 in
theorem l_170_455 {V : xV} {g : xG} {Y : xW} {l1 : Int32} {l2 : Int32} {l3 : Int32} {l4 : Int32} {l5 : Int32} {l6 : Int32} {l7 : Int32} {l8 : Int32} {l9 : Int32} {Q : xW → Prop} (H : vp_in l1 300 ∧ vp_in ((40 * l1) + (fA Y (10, 0, 0) 41 (Int32.toNatClampNeg l1))) 12000 ∧ ∀ Y1, Y1 = uA Y (10, 0, 0) 47 (Int32.toNatClampNeg ((40 * l1) + (fA Y (10, 0, 0) 41 (Int32.toNatClampNeg l1)))) l3 → vp_in l1 300 ∧ vp_in ((40 * l1) + (fA Y1 (10, 0, 0) 41 (Int32.toNatClampNeg l1))) 12000 ∧ ∀ Y2, Y2 = uA Y1 (10, 0, 0) 48 (Int32.toNatClampNeg ((40 * l1) + (fA Y1 (10, 0, 0) 41 (Int32.toNatClampNeg l1)))) l4 → vp_in l1 300 ∧ vp_in l1 300 ∧ ∀ Y3, Y3 = uA Y2 (10, 0, 0) 41 (Int32.toNatClampNeg l1) ((fA Y2 (10, 0, 0) 41 (Int32.toNatClampNeg l1)) + 1) → L_127_0 V g Y3 l2 (fun x5 Y4 => ((x5 = 18) → vp_in ((8 * l3) + l8) 192 ∧ L_169_0 V g Y4 l1 l3 (fA Y4 (10, 0, 0) 17 (Int32.toNatClampNeg ((8 * l3) + l8))) (fun Y6 => L_170_633 V g Y6 l1 l2 l3 l4 l5 l6 l7 l8 l9 Q)) ∧ (¬ (x5 = 18) → vp_in ((8 * l3) + l8) 192 ∧ vp_in ((8 * l3) + l8) 192 ∧ vp_in ((8 * l3) + l8) 192 ∧ vp_in ((8 * (fA Y4 (10, 0, 0) 22 (Int32.toNatClampNeg ((8 * l3) + l8)))) + (fA Y4 (10, 0, 0) 23 (Int32.toNatClampNeg ((8 * l3) + l8)))) 192 ∧ L_169_0 V g Y4 l1 (fA Y4 (10, 0, 0) 22 (Int32.toNatClampNeg ((8 * l3) + l8))) (fA Y4 (10, 0, 0) 17 (Int32.toNatClampNeg ((8 * (fA Y4 (10, 0, 0) 22 (Int32.toNatClampNeg ((8 * l3) + l8)))) + (fA Y4 (10, 0, 0) 23 (Int32.toNatClampNeg ((8 * l3) + l8)))))) (fun Y7 => L_170_633 V g Y7 l1 l2 l3 l4 l5 l6 l7 l8 l9 Q)))) : L_170_455 V g Y l1 l2 l3 l4 l5 l6 l7 l8 l9 Q := by
  intro h lv R e0 e1 e2 e3 e4 e5 e6 e7 e8 e9
  refine y_next (pc' := 456) (xst_of (i := (.aload_n 0)) (len := 1) rfl rfl (x_aloadV (xisV_r _) e0)) ?_
  refine z_gA (t := (10, 0, 0)) (k := 47) rfl rfl rfl R (rc_10 R) ?_
  refine y_next (pc' := 461) (xst_of (i := (.bipush 40)) (len := 2) rfl rfl (x_bip (v := 40) (by decide))) ?_
  refine y_next (pc' := 462) (xst_of (i := (.iload_n 1)) (len := 1) rfl rfl (x_ilo e1)) ?_
  refine y_next (pc' := 463) (xst_of (i := .imul) (len := 1) rfl rfl rfl) ?_
  refine y_next (pc' := 464) (xst_of (i := (.aload_n 0)) (len := 1) rfl rfl (x_aloadV (xisV_r _) e0)) ?_
  refine z_gA (t := (10, 0, 0)) (k := 41) rfl rfl rfl R (rc_10 R) ?_
  refine y_next (pc' := 468) (xst_of (i := (.iload_n 1)) (len := 1) rfl rfl (x_ilo e1)) ?_
  refine z_aI (t := (10, 0, 0)) (k := 41) (n := 300) (i := l1) rfl rfl R (rc_10 R) H.1 ?_
  replace H := H.2
  refine y_next (pc' := 470) (xst_of (i := .iadd) (len := 1) rfl rfl rfl) ?_
  refine y_next (pc' := 471) (xst_of (i := (.iload_n 3)) (len := 1) rfl rfl (x_ilo e3)) ?_
  refine z_sI (t := (10, 0, 0)) (k := 47) (n := 12000) (i := ((40 * l1) + (fA Y (10, 0, 0) 41 (Int32.toNatClampNeg l1)))) rfl rfl R (rc_10 R) H.1 (fun h Y1 hY R => ?_)
  replace H := H.2 Y1 hY
  clear hY
  refine y_next (pc' := 473) (xst_of (i := (.aload_n 0)) (len := 1) rfl rfl (x_aloadV (xisV_r _) e0)) ?_
  refine z_gA (t := (10, 0, 0)) (k := 48) rfl rfl rfl R (rc_10 R) ?_
  refine y_next (pc' := 478) (xst_of (i := (.bipush 40)) (len := 2) rfl rfl (x_bip (v := 40) (by decide))) ?_
  refine y_next (pc' := 479) (xst_of (i := (.iload_n 1)) (len := 1) rfl rfl (x_ilo e1)) ?_
  refine y_next (pc' := 480) (xst_of (i := .imul) (len := 1) rfl rfl rfl) ?_
  refine y_next (pc' := 481) (xst_of (i := (.aload_n 0)) (len := 1) rfl rfl (x_aloadV (xisV_r _) e0)) ?_
  refine z_gA (t := (10, 0, 0)) (k := 41) rfl rfl rfl R (rc_10 R) ?_
  refine y_next (pc' := 485) (xst_of (i := (.iload_n 1)) (len := 1) rfl rfl (x_ilo e1)) ?_
  refine z_aI (t := (10, 0, 0)) (k := 41) (n := 300) (i := l1) rfl rfl R (rc_10 R) H.1 ?_
  replace H := H.2
  refine y_next (pc' := 487) (xst_of (i := .iadd) (len := 1) rfl rfl rfl) ?_
  refine y_next (pc' := 489) (xst_of (i := (.iload 4)) (len := 2) rfl rfl (x_ilo e4)) ?_
  refine z_sI (t := (10, 0, 0)) (k := 48) (n := 12000) (i := ((40 * l1) + (fA Y1 (10, 0, 0) 41 (Int32.toNatClampNeg l1)))) rfl rfl R (rc_10 R) H.1 (fun h Y2 hY R => ?_)
  replace H := H.2 Y2 hY
  clear hY
  refine y_next (pc' := 491) (xst_of (i := (.aload_n 0)) (len := 1) rfl rfl (x_aloadV (xisV_r _) e0)) ?_
  refine z_gA (t := (10, 0, 0)) (k := 41) rfl rfl rfl R (rc_10 R) ?_
  refine y_next (pc' := 495) (xst_of (i := (.iload_n 1)) (len := 1) rfl rfl (x_ilo e1)) ?_
  refine y_next (pc' := 496) (xst_of (i := .dup2) (len := 1) rfl rfl (x_dup2 rfl rfl)) ?_
  refine z_aI (t := (10, 0, 0)) (k := 41) (n := 300) (i := l1) rfl rfl R (rc_10 R) H.1 ?_
  replace H := H.2
  refine y_next (pc' := 498) (xst_of (i := (.iconst 1)) (len := 1) rfl rfl (x_ico (v := 1) (by decide))) ?_
  refine y_next (pc' := 499) (xst_of (i := .iadd) (len := 1) rfl rfl rfl) ?_
  refine z_sI (t := (10, 0, 0)) (k := 41) (n := 300) (i := l1) rfl rfl R (rc_10 R) H.1 (fun h Y3 hY R => ?_)
  replace H := H.2 Y3 hY
  clear hY
  refine y_next (pc' := 501) (xst_of (i := (.iload_n 2)) (len := 1) rfl rfl (x_ilo e2)) ?_
  refine z_cI (k := 127) (i := (.invokestatic 144)) (as := [.int l2]) (rest := []) rfl rfl rfl (H _ _ R rfl) (fun x5 h Y4 R H => ?_)
  refine y_next (pc' := 506) (xst_of (i := (.bipush 18)) (len := 2) rfl rfl (x_bip (v := 18) (by decide))) ?_
  by_cases hc : x5 = 18
  · replace H := H.1 hc
    refine y_next (pc' := 509) (xst_of (i := (.if_icmp .ne 24)) (len := 3) rfl rfl (xf_icmp_ne (t := 530) rfl (fun z => z hc))) ?_
    refine y_next (pc' := 510) (xst_of (i := (.aload_n 0)) (len := 1) rfl rfl (x_aloadV (xisV_r _) e0)) ?_
    refine y_next (pc' := 511) (xst_of (i := (.iload_n 1)) (len := 1) rfl rfl (x_ilo e1)) ?_
    refine y_next (pc' := 512) (xst_of (i := (.iload_n 3)) (len := 1) rfl rfl (x_ilo e3)) ?_
    refine y_next (pc' := 513) (xst_of (i := (.aload_n 0)) (len := 1) rfl rfl (x_aloadV (xisV_r _) e0)) ?_
    refine z_gA (t := (10, 0, 0)) (k := 17) rfl rfl rfl R (rc_10 R) ?_
    refine y_next (pc' := 518) (xst_of (i := (.bipush 8)) (len := 2) rfl rfl (x_bip (v := 8) (by decide))) ?_
    refine y_next (pc' := 519) (xst_of (i := (.iload_n 3)) (len := 1) rfl rfl (x_ilo e3)) ?_
    refine y_next (pc' := 520) (xst_of (i := .imul) (len := 1) rfl rfl rfl) ?_
    refine y_next (pc' := 522) (xst_of (i := (.iload 8)) (len := 2) rfl rfl (x_ilo e8)) ?_
    refine y_next (pc' := 523) (xst_of (i := .iadd) (len := 1) rfl rfl rfl) ?_
    refine z_aI (t := (10, 0, 0)) (k := 17) (n := 192) (i := ((8 * l3) + l8)) rfl rfl R (rc_10 R) H.1 ?_
    replace H := H.2
    refine z_cN (k := 169) (i := (.invokevirtual 308)) (as := [.ref (g.2 (10, 0, 0) 0), .int l1, .int l3, .int (fA Y4 (10, 0, 0) 17 (Int32.toNatClampNeg ((8 * l3) + l8)))]) (rest := []) rfl rfl (x_callv rfl rfl (rc_ob R (rc_10 R) rfl) rfl rfl) (H _ _ R rfl rfl rfl rfl) (fun h Y6 R H => ?_)
    refine y_next (pc' := 633) (xst_of (i := (.goto 106)) (len := 3) rfl rfl rfl) ?_
    exact H _ _ R e0 e1 e2 e3 e4 e5 e6 e7 e8 e9
  · replace H := H.2 hc
    refine y_next (xst_of (i := (.if_icmp .ne 24)) (len := 3) rfl rfl (xt_icmp_ne (t := 530) rfl hc)) ?_
    refine y_next (pc' := 531) (xst_of (i := (.aload_n 0)) (len := 1) rfl rfl (x_aloadV (xisV_r _) e0)) ?_
    refine y_next (pc' := 532) (xst_of (i := (.iload_n 1)) (len := 1) rfl rfl (x_ilo e1)) ?_
    refine y_next (pc' := 533) (xst_of (i := (.aload_n 0)) (len := 1) rfl rfl (x_aloadV (xisV_r _) e0)) ?_
    refine z_gA (t := (10, 0, 0)) (k := 22) rfl rfl rfl R (rc_10 R) ?_
    refine y_next (pc' := 538) (xst_of (i := (.bipush 8)) (len := 2) rfl rfl (x_bip (v := 8) (by decide))) ?_
    refine y_next (pc' := 539) (xst_of (i := (.iload_n 3)) (len := 1) rfl rfl (x_ilo e3)) ?_
    refine y_next (pc' := 540) (xst_of (i := .imul) (len := 1) rfl rfl rfl) ?_
    refine y_next (pc' := 542) (xst_of (i := (.iload 8)) (len := 2) rfl rfl (x_ilo e8)) ?_
    refine y_next (pc' := 543) (xst_of (i := .iadd) (len := 1) rfl rfl rfl) ?_
    refine z_aI (t := (10, 0, 0)) (k := 22) (n := 192) (i := ((8 * l3) + l8)) rfl rfl R (rc_10 R) H.1 ?_
    replace H := H.2
    refine y_next (pc' := 545) (xst_of (i := (.aload_n 0)) (len := 1) rfl rfl (x_aloadV (xisV_r _) e0)) ?_
    refine z_gA (t := (10, 0, 0)) (k := 17) rfl rfl rfl R (rc_10 R) ?_
    refine y_next (pc' := 550) (xst_of (i := (.bipush 8)) (len := 2) rfl rfl (x_bip (v := 8) (by decide))) ?_
    refine y_next (pc' := 551) (xst_of (i := (.aload_n 0)) (len := 1) rfl rfl (x_aloadV (xisV_r _) e0)) ?_
    refine z_gA (t := (10, 0, 0)) (k := 22) rfl rfl rfl R (rc_10 R) ?_
    refine y_next (pc' := 556) (xst_of (i := (.bipush 8)) (len := 2) rfl rfl (x_bip (v := 8) (by decide))) ?_
    refine y_next (pc' := 557) (xst_of (i := (.iload_n 3)) (len := 1) rfl rfl (x_ilo e3)) ?_
    refine y_next (pc' := 558) (xst_of (i := .imul) (len := 1) rfl rfl rfl) ?_
    refine y_next (pc' := 560) (xst_of (i := (.iload 8)) (len := 2) rfl rfl (x_ilo e8)) ?_
    refine y_next (pc' := 561) (xst_of (i := .iadd) (len := 1) rfl rfl rfl) ?_
    refine z_aI (t := (10, 0, 0)) (k := 22) (n := 192) (i := ((8 * l3) + l8)) rfl rfl R (rc_10 R) H.1 ?_
    replace H := H.2
    refine y_next (pc' := 563) (xst_of (i := .imul) (len := 1) rfl rfl rfl) ?_
    refine y_next (pc' := 564) (xst_of (i := (.aload_n 0)) (len := 1) rfl rfl (x_aloadV (xisV_r _) e0)) ?_
    refine z_gA (t := (10, 0, 0)) (k := 23) rfl rfl rfl R (rc_10 R) ?_
    refine y_next (pc' := 569) (xst_of (i := (.bipush 8)) (len := 2) rfl rfl (x_bip (v := 8) (by decide))) ?_
    refine y_next (pc' := 570) (xst_of (i := (.iload_n 3)) (len := 1) rfl rfl (x_ilo e3)) ?_
    refine y_next (pc' := 571) (xst_of (i := .imul) (len := 1) rfl rfl rfl) ?_
    refine y_next (pc' := 573) (xst_of (i := (.iload 8)) (len := 2) rfl rfl (x_ilo e8)) ?_
    refine y_next (pc' := 574) (xst_of (i := .iadd) (len := 1) rfl rfl rfl) ?_
    refine z_aI (t := (10, 0, 0)) (k := 23) (n := 192) (i := ((8 * l3) + l8)) rfl rfl R (rc_10 R) H.1 ?_
    replace H := H.2
    refine y_next (pc' := 576) (xst_of (i := .iadd) (len := 1) rfl rfl rfl) ?_
    refine z_aI (t := (10, 0, 0)) (k := 17) (n := 192) (i := ((8 * (fA Y4 (10, 0, 0) 22 (Int32.toNatClampNeg ((8 * l3) + l8)))) + (fA Y4 (10, 0, 0) 23 (Int32.toNatClampNeg ((8 * l3) + l8))))) rfl rfl R (rc_10 R) H.1 ?_
    replace H := H.2
    refine z_cN (k := 169) (i := (.invokevirtual 308)) (as := [.ref (g.2 (10, 0, 0) 0), .int l1, .int (fA Y4 (10, 0, 0) 22 (Int32.toNatClampNeg ((8 * l3) + l8))), .int (fA Y4 (10, 0, 0) 17 (Int32.toNatClampNeg ((8 * (fA Y4 (10, 0, 0) 22 (Int32.toNatClampNeg ((8 * l3) + l8)))) + (fA Y4 (10, 0, 0) 23 (Int32.toNatClampNeg ((8 * l3) + l8))))))]) (rest := []) rfl rfl (x_callv rfl rfl (rc_ob R (rc_10 R) rfl) rfl rfl) (H _ _ R rfl rfl rfl rfl) (fun h Y7 R H => ?_)
    refine y_next (pc' := 633) (xst_of (i := (.goto 53)) (len := 3) rfl rfl rfl) ?_
    exact H _ _ R e0 e1 e2 e3 e4 e5 e6 e7 e8 e9
set_option maxRecDepth 20000 in
theorem l_170_633 {V : xV} {g : xG} {Y : xW} {l1 : Int32} {l2 : Int32} {l3 : Int32} {l4 : Int32} {l5 : Int32} {l6 : Int32} {l7 : Int32} {l8 : Int32} {l9 : Int32} {Q : xW → Prop} (H : Q Y) : L_170_633 V g Y l1 l2 l3 l4 l5 l6 l7 l8 l9 Q := by
  intro h lv R e0 e1 e2 e3 e4 e5 e6 e7 e8 e9
  exact y_ret (xst_of (i := .return_) (len := 1) rfl rfl rfl) ⟨_, rfl, R, H⟩

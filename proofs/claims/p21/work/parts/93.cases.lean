/-! the law's cases and its loop -/
theorem g_c0 {xs : List Int32} {i : Int} (i1 : 0 ≤ i) (i2 : i ≤ 400) {z1 z2 z3 z4 : Int} (hz1 : xs[(i + 1).toNat]? = some (Int32.ofInt z1)) (rz1 : -2147483648 ≤ z1 ∧ z1 ≤ 2147483647) (hz2 : xs[(i + 2).toNat]? = some (Int32.ofInt z2)) (rz2 : -2147483648 ≤ z2 ∧ z2 ≤ 2147483647) (hz3 : xs[(i + 3).toNat]? = some (Int32.ofInt z3)) (rz3 : -2147483648 ≤ z3 ∧ z3 ≤ 2147483647) (hz4 : xs[(i + 4).toNat]? = some (Int32.ofInt z4)) (rz4 : -2147483648 ≤ z4 ∧ z4 ≤ 2147483647) {hc : ev_H} {L : ev_L} {Q : Option Value → ev_H → Prop} (hI : LInv hc) (hL : f_L L [(0, .retAddr 0), (1, .ref 0), (2, .ref 55), (3, fi (i))]) (K : ∀ hc2, LInv hc2 → x_W (some xs) (2, 0, 4, 1, 0, 9, 330, 600000, 7302250, ev_t202) 978 L [] hc2 72 1053 Q) : x_W (some xs) (2, 0, 4, 1, 0, 9, 330, 600000, 7302250, ev_t202) 160 L [] hc 72 1053 Q := by
  obtain ⟨gs0, q0⟩ := g_0 hI.1
  refine f_aln 1 rfl hL rfl ?_
  refine g_alr 0 rfl hL rfl ?_
  refine f_iln 3 rfl hL rfl ?_
  refine f_s [fi (1), fi (i), .retAddr 0, .ref 0] rfl rfl ?_
  refine f_iadd rfl ?_
  refine g_sia rfl (by omega) (by omega) hz1 ?_
  obtain ⟨rr, hc1, fs1, hc2, rr0, hM1, q55, hM2, i2, t2, u1, u2⟩ := TR_write hI.1 hI.2.1 (x := z1) rz1
  have hI2 : LInv hc2 := ⟨i2, t2, NR_keep ((g_dis_ok (by decide) u1).tr (g_dis_ok (by decide) u2)) hI.2.2.1, CR_keep ((g_dis_ok (by decide) u1).tr (g_dis_ok (by decide) u2)) hI.2.2.2.1, SI_keep ((g_dis_ok (by decide) u1).tr (g_dis_ok (by decide) u2)) hI.2.2.2.2.1, CLR_keep ((g_dis_ok (by decide) u1).tr (g_dis_ok (by decide) u2)) hI.2.2.2.2.2⟩
  refine f_k1 hM1 rfl rfl rfl (f_ar_v q0 rfl) rfl ?_
  refine f_s [] rfl rfl ?_
  refine f_aln 2 rfl hL rfl ?_
  refine g_alr 0 rfl hL rfl ?_
  refine f_iln 3 rfl hL rfl ?_
  refine f_s [fi (1), fi (i), .retAddr 0, .ref 55] rfl rfl ?_
  refine f_iadd rfl ?_
  refine g_sia rfl (by omega) (by omega) hz1 ?_
  refine f_k1 hM2 rfl rfl rfl (f_ar_v q55 rfl) rfl ?_
  refine f_s [] rfl rfl ?_
  refine f_goto rfl ?_
  exact K _ hI2
theorem g_c1 {xs : List Int32} {i : Int} (i1 : 0 ≤ i) (i2 : i ≤ 400) {z1 z2 z3 z4 : Int} (hz1 : xs[(i + 1).toNat]? = some (Int32.ofInt z1)) (rz1 : -2147483648 ≤ z1 ∧ z1 ≤ 2147483647) (hz2 : xs[(i + 2).toNat]? = some (Int32.ofInt z2)) (rz2 : -2147483648 ≤ z2 ∧ z2 ≤ 2147483647) (hz3 : xs[(i + 3).toNat]? = some (Int32.ofInt z3)) (rz3 : -2147483648 ≤ z3 ∧ z3 ≤ 2147483647) (hz4 : xs[(i + 4).toNat]? = some (Int32.ofInt z4)) (rz4 : -2147483648 ≤ z4 ∧ z4 ≤ 2147483647) {hc : ev_H} {L : ev_L} {Q : Option Value → ev_H → Prop} (hI : LInv hc) (hL : f_L L [(0, .retAddr 0), (1, .ref 0), (2, .ref 55), (3, fi (i))]) (K : ∀ hc2, LInv hc2 → x_W (some xs) (2, 0, 4, 1, 0, 9, 330, 600000, 7302250, ev_t202) 978 L [] hc2 72 1053 Q) : x_W (some xs) (2, 0, 4, 1, 0, 9, 330, 600000, 7302250, ev_t202) 183 L [] hc 72 1053 Q := by
  obtain ⟨gs0, q0⟩ := g_0 hI.1
  refine f_aln 1 rfl hL rfl ?_
  obtain ⟨rr, hc1, fs1, hc2, rr0, hM1, q55, hM2, i2, t2, u1, u2⟩ := TR_wipe hI.1 hI.2.1
  have hI2 : LInv hc2 := ⟨i2, t2, NR_keep ((g_dis_ok (by decide) u1).tr (g_dis_ok (by decide) u2)) hI.2.2.1, CR_keep ((g_dis_ok (by decide) u1).tr (g_dis_ok (by decide) u2)) hI.2.2.2.1, SI_keep ((g_dis_ok (by decide) u1).tr (g_dis_ok (by decide) u2)) hI.2.2.2.2.1, CLR_keep ((g_dis_ok (by decide) u1).tr (g_dis_ok (by decide) u2)) hI.2.2.2.2.2⟩
  refine f_k1 hM1 rfl rfl rfl (f_ar_v q0 rfl) rfl ?_
  refine f_s [] rfl rfl ?_
  refine f_aln 2 rfl hL rfl ?_
  refine f_k1 hM2 rfl rfl rfl (f_ar_v q55 rfl) rfl ?_
  refine f_s [] rfl rfl ?_
  refine f_goto rfl ?_
  exact K _ hI2
theorem g_c2 {xs : List Int32} {i : Int} (i1 : 0 ≤ i) (i2 : i ≤ 400) {z1 z2 z3 z4 : Int} (hz1 : xs[(i + 1).toNat]? = some (Int32.ofInt z1)) (rz1 : -2147483648 ≤ z1 ∧ z1 ≤ 2147483647) (hz2 : xs[(i + 2).toNat]? = some (Int32.ofInt z2)) (rz2 : -2147483648 ≤ z2 ∧ z2 ≤ 2147483647) (hz3 : xs[(i + 3).toNat]? = some (Int32.ofInt z3)) (rz3 : -2147483648 ≤ z3 ∧ z3 ≤ 2147483647) (hz4 : xs[(i + 4).toNat]? = some (Int32.ofInt z4)) (rz4 : -2147483648 ≤ z4 ∧ z4 ≤ 2147483647) {hc : ev_H} {L : ev_L} {Q : Option Value → ev_H → Prop} (hI : LInv hc) (hL : f_L L [(0, .retAddr 0), (1, .ref 0), (2, .ref 55), (3, fi (i))]) (K : ∀ hc2, LInv hc2 → x_W (some xs) (2, 0, 4, 1, 0, 9, 330, 600000, 7302250, ev_t202) 978 L [] hc2 72 1053 Q) : x_W (some xs) (2, 0, 4, 1, 0, 9, 330, 600000, 7302250, ev_t202) 196 L [] hc 72 1053 Q := by
  obtain ⟨gs0, q0⟩ := g_0 hI.1
  refine f_aln 1 rfl hL rfl ?_
  obtain ⟨rr, hc1, fs1, hc2, rr0, hM1, q55, hM2, i2, t2, u1, u2⟩ := TR_fault hI.1 hI.2.1
  have hI2 : LInv hc2 := ⟨i2, t2, NR_keep ((g_dis_ok (by decide) u1).tr (g_dis_ok (by decide) u2)) hI.2.2.1, CR_keep ((g_dis_ok (by decide) u1).tr (g_dis_ok (by decide) u2)) hI.2.2.2.1, SI_keep ((g_dis_ok (by decide) u1).tr (g_dis_ok (by decide) u2)) hI.2.2.2.2.1, CLR_keep ((g_dis_ok (by decide) u1).tr (g_dis_ok (by decide) u2)) hI.2.2.2.2.2⟩
  refine f_k1 hM1 rfl rfl rfl (f_ar_v q0 rfl) rfl ?_
  refine f_s [] rfl rfl ?_
  refine f_aln 2 rfl hL rfl ?_
  refine f_k1 hM2 rfl rfl rfl (f_ar_v q55 rfl) rfl ?_
  refine f_s [] rfl rfl ?_
  refine f_goto rfl ?_
  exact K _ hI2
theorem g_c3 {xs : List Int32} {i : Int} (i1 : 0 ≤ i) (i2 : i ≤ 400) {z1 z2 z3 z4 : Int} (hz1 : xs[(i + 1).toNat]? = some (Int32.ofInt z1)) (rz1 : -2147483648 ≤ z1 ∧ z1 ≤ 2147483647) (hz2 : xs[(i + 2).toNat]? = some (Int32.ofInt z2)) (rz2 : -2147483648 ≤ z2 ∧ z2 ≤ 2147483647) (hz3 : xs[(i + 3).toNat]? = some (Int32.ofInt z3)) (rz3 : -2147483648 ≤ z3 ∧ z3 ≤ 2147483647) (hz4 : xs[(i + 4).toNat]? = some (Int32.ofInt z4)) (rz4 : -2147483648 ≤ z4 ∧ z4 ≤ 2147483647) {hc : ev_H} {L : ev_L} {Q : Option Value → ev_H → Prop} (hI : LInv hc) (hL : f_L L [(0, .retAddr 0), (1, .ref 0), (2, .ref 55), (3, fi (i))]) (K : ∀ hc2, LInv hc2 → x_W (some xs) (2, 0, 4, 1, 0, 9, 330, 600000, 7302250, ev_t202) 978 L [] hc2 72 1053 Q) : x_W (some xs) (2, 0, 4, 1, 0, 9, 330, 600000, 7302250, ev_t202) 209 L [] hc 72 1053 Q := by
  obtain ⟨gs0, q0⟩ := g_0 hI.1
  refine f_aln 1 rfl hL rfl ?_
  obtain ⟨rr, hc1, fs1, hc2, rr0, hM1, q55, hM2, i2, t2, u1, u2, i1, hh⟩ := TR_hall hI.1 hI.2.1
  have hI2 : LInv hc2 := ⟨i2, t2, NR_hall u1 u2 hI.2.2.1 hh, CR_keep ((g_dis_ok (by decide) u1).tr (g_dis_ok (by decide) u2)) hI.2.2.2.1, SI_hall u1 u2 hI.2.2.2.2.1 hh, CLR_keep ((g_dis_ok (by decide) u1).tr (g_dis_ok (by decide) u2)) hI.2.2.2.2.2⟩
  refine f_k1 hM1 rfl rfl rfl (f_ar_v q0 rfl) rfl ?_
  refine f_s [] rfl rfl ?_
  refine f_aln 2 rfl hL rfl ?_
  refine f_k1 hM2 rfl rfl rfl (f_ar_v q55 rfl) rfl ?_
  refine f_s [] rfl rfl ?_
  refine f_goto rfl ?_
  exact K _ hI2
theorem g_c4 {xs : List Int32} {i : Int} (i1 : 0 ≤ i) (i2 : i ≤ 400) {z1 z2 z3 z4 : Int} (hz1 : xs[(i + 1).toNat]? = some (Int32.ofInt z1)) (rz1 : -2147483648 ≤ z1 ∧ z1 ≤ 2147483647) (hz2 : xs[(i + 2).toNat]? = some (Int32.ofInt z2)) (rz2 : -2147483648 ≤ z2 ∧ z2 ≤ 2147483647) (hz3 : xs[(i + 3).toNat]? = some (Int32.ofInt z3)) (rz3 : -2147483648 ≤ z3 ∧ z3 ≤ 2147483647) (hz4 : xs[(i + 4).toNat]? = some (Int32.ofInt z4)) (rz4 : -2147483648 ≤ z4 ∧ z4 ≤ 2147483647) {hc : ev_H} {L : ev_L} {Q : Option Value → ev_H → Prop} (hI : LInv hc) (hL : f_L L [(0, .retAddr 0), (1, .ref 0), (2, .ref 55), (3, fi (i))]) (K : ∀ hc2, LInv hc2 → x_W (some xs) (2, 0, 4, 1, 0, 9, 330, 600000, 7302250, ev_t202) 978 L [] hc2 72 1053 Q) : x_W (some xs) (2, 0, 4, 1, 0, 9, 330, 600000, 7302250, ev_t202) 222 L [] hc 72 1053 Q := by
  obtain ⟨gs0, q0⟩ := g_0 hI.1
  refine f_aln 1 rfl hL rfl ?_
  refine g_alr 0 rfl hL rfl ?_
  refine f_iln 3 rfl hL rfl ?_
  refine f_s [fi (1), fi (i), .retAddr 0, .ref 0] rfl rfl ?_
  refine f_iadd rfl ?_
  refine g_sia rfl (by omega) (by omega) hz1 ?_
  refine g_alr 0 rfl hL rfl ?_
  refine f_iln 3 rfl hL rfl ?_
  refine f_s [fi (2), fi (i), .retAddr 0, fi (z1), .ref 0] rfl rfl ?_
  refine f_iadd rfl ?_
  refine g_sia rfl (by omega) (by omega) hz2 ?_
  obtain ⟨rr, hc1, fs1, hc2, rr0, hM1, q55, hM2, i2, t2, u1, u2⟩ := SI_name hI.1 hI.2.2.2.2.1 (x := z1) rz1 (k := z2) rz2
  have hI2 : LInv hc2 := ⟨i2, TR_keep (g_tw hI.1).1.2 ((g_dis_ok (by decide) u1).tr (g_dis_ok (by decide) u2)) hI.2.1, NR_keep ((g_dis_ok (by decide) u1).tr (g_dis_ok (by decide) u2)) hI.2.2.1, CR_keep ((g_dis_ok (by decide) u1).tr (g_dis_ok (by decide) u2)) hI.2.2.2.1, t2, CLR_keep ((g_dis_ok (by decide) u1).tr (g_dis_ok (by decide) u2)) hI.2.2.2.2.2⟩
  refine f_k1 hM1 rfl rfl rfl (f_ar_v q0 rfl) rfl ?_
  refine f_s [] rfl rfl ?_
  refine f_aln 2 rfl hL rfl ?_
  refine g_alr 0 rfl hL rfl ?_
  refine f_iln 3 rfl hL rfl ?_
  refine f_s [fi (1), fi (i), .retAddr 0, .ref 55] rfl rfl ?_
  refine f_iadd rfl ?_
  refine g_sia rfl (by omega) (by omega) hz1 ?_
  refine g_alr 0 rfl hL rfl ?_
  refine f_iln 3 rfl hL rfl ?_
  refine f_s [fi (2), fi (i), .retAddr 0, fi (z1), .ref 55] rfl rfl ?_
  refine f_iadd rfl ?_
  refine g_sia rfl (by omega) (by omega) hz2 ?_
  refine f_k1 hM2 rfl rfl rfl (f_ar_v q55 rfl) rfl ?_
  refine f_s [] rfl rfl ?_
  refine f_goto rfl ?_
  exact K _ hI2
theorem g_c5 {xs : List Int32} {i : Int} (i1 : 0 ≤ i) (i2 : i ≤ 400) {z1 z2 z3 z4 : Int} (hz1 : xs[(i + 1).toNat]? = some (Int32.ofInt z1)) (rz1 : -2147483648 ≤ z1 ∧ z1 ≤ 2147483647) (hz2 : xs[(i + 2).toNat]? = some (Int32.ofInt z2)) (rz2 : -2147483648 ≤ z2 ∧ z2 ≤ 2147483647) (hz3 : xs[(i + 3).toNat]? = some (Int32.ofInt z3)) (rz3 : -2147483648 ≤ z3 ∧ z3 ≤ 2147483647) (hz4 : xs[(i + 4).toNat]? = some (Int32.ofInt z4)) (rz4 : -2147483648 ≤ z4 ∧ z4 ≤ 2147483647) {hc : ev_H} {L : ev_L} {Q : Option Value → ev_H → Prop} (hI : LInv hc) (hL : f_L L [(0, .retAddr 0), (1, .ref 0), (2, .ref 55), (3, fi (i))]) (K : ∀ hc2, LInv hc2 → x_W (some xs) (2, 0, 4, 1, 0, 9, 330, 600000, 7302250, ev_t202) 978 L [] hc2 72 1053 Q) : x_W (some xs) (2, 0, 4, 1, 0, 9, 330, 600000, 7302250, ev_t202) 255 L [] hc 72 1053 Q := by
  obtain ⟨gs0, q0⟩ := g_0 hI.1
  refine f_aln 1 rfl hL rfl ?_
  refine g_alr 0 rfl hL rfl ?_
  refine f_iln 3 rfl hL rfl ?_
  refine f_s [fi (1), fi (i), .retAddr 0, .ref 0] rfl rfl ?_
  refine f_iadd rfl ?_
  refine g_sia rfl (by omega) (by omega) hz1 ?_
  refine g_alr 0 rfl hL rfl ?_
  refine f_iln 3 rfl hL rfl ?_
  refine f_s [fi (2), fi (i), .retAddr 0, fi (z1), .ref 0] rfl rfl ?_
  refine f_iadd rfl ?_
  refine g_sia rfl (by omega) (by omega) hz2 ?_
  obtain ⟨rr, hc1, fs1, hc2, rr0, hM1, q55, hM2, i2, t2, u1, u2⟩ := SI_person hI.1 hI.2.2.2.2.1 (x := z1) rz1 (k := z2) rz2
  have hI2 : LInv hc2 := ⟨i2, TR_keep (g_tw hI.1).1.2 ((g_dis_ok (by decide) u1).tr (g_dis_ok (by decide) u2)) hI.2.1, NR_keep ((g_dis_ok (by decide) u1).tr (g_dis_ok (by decide) u2)) hI.2.2.1, CR_keep ((g_dis_ok (by decide) u1).tr (g_dis_ok (by decide) u2)) hI.2.2.2.1, t2, CLR_keep ((g_dis_ok (by decide) u1).tr (g_dis_ok (by decide) u2)) hI.2.2.2.2.2⟩
  refine f_k1 hM1 rfl rfl rfl (f_ar_v q0 rfl) rfl ?_
  refine f_s [] rfl rfl ?_
  refine f_aln 2 rfl hL rfl ?_
  refine g_alr 0 rfl hL rfl ?_
  refine f_iln 3 rfl hL rfl ?_
  refine f_s [fi (1), fi (i), .retAddr 0, .ref 55] rfl rfl ?_
  refine f_iadd rfl ?_
  refine g_sia rfl (by omega) (by omega) hz1 ?_
  refine g_alr 0 rfl hL rfl ?_
  refine f_iln 3 rfl hL rfl ?_
  refine f_s [fi (2), fi (i), .retAddr 0, fi (z1), .ref 55] rfl rfl ?_
  refine f_iadd rfl ?_
  refine g_sia rfl (by omega) (by omega) hz2 ?_
  refine f_k1 hM2 rfl rfl rfl (f_ar_v q55 rfl) rfl ?_
  refine f_s [] rfl rfl ?_
  refine f_goto rfl ?_
  exact K _ hI2
theorem g_c6 {xs : List Int32} {i : Int} (i1 : 0 ≤ i) (i2 : i ≤ 400) {z1 z2 z3 z4 : Int} (hz1 : xs[(i + 1).toNat]? = some (Int32.ofInt z1)) (rz1 : -2147483648 ≤ z1 ∧ z1 ≤ 2147483647) (hz2 : xs[(i + 2).toNat]? = some (Int32.ofInt z2)) (rz2 : -2147483648 ≤ z2 ∧ z2 ≤ 2147483647) (hz3 : xs[(i + 3).toNat]? = some (Int32.ofInt z3)) (rz3 : -2147483648 ≤ z3 ∧ z3 ≤ 2147483647) (hz4 : xs[(i + 4).toNat]? = some (Int32.ofInt z4)) (rz4 : -2147483648 ≤ z4 ∧ z4 ≤ 2147483647) {hc : ev_H} {L : ev_L} {Q : Option Value → ev_H → Prop} (hI : LInv hc) (hL : f_L L [(0, .retAddr 0), (1, .ref 0), (2, .ref 55), (3, fi (i))]) (K : ∀ hc2, LInv hc2 → x_W (some xs) (2, 0, 4, 1, 0, 9, 330, 600000, 7302250, ev_t202) 978 L [] hc2 72 1053 Q) : x_W (some xs) (2, 0, 4, 1, 0, 9, 330, 600000, 7302250, ev_t202) 288 L [] hc 72 1053 Q := by
  obtain ⟨gs0, q0⟩ := g_0 hI.1
  refine f_aln 1 rfl hL rfl ?_
  refine g_alr 0 rfl hL rfl ?_
  refine f_iln 3 rfl hL rfl ?_
  refine f_s [fi (1), fi (i), .retAddr 0, .ref 0] rfl rfl ?_
  refine f_iadd rfl ?_
  refine g_sia rfl (by omega) (by omega) hz1 ?_
  refine g_alr 0 rfl hL rfl ?_
  refine f_iln 3 rfl hL rfl ?_
  refine f_s [fi (2), fi (i), .retAddr 0, fi (z1), .ref 0] rfl rfl ?_
  refine f_iadd rfl ?_
  refine g_sia rfl (by omega) (by omega) hz2 ?_
  obtain ⟨rr, hc1, fs1, hc2, rr0, hM1, q55, hM2, i2, t2, u1, u2⟩ := SI_take hI.1 hI.2.2.2.2.1 (x := z1) rz1 (k := z2) rz2
  have hI2 : LInv hc2 := ⟨i2, TR_keep (g_tw hI.1).1.2 ((g_dis_ok (by decide) u1).tr (g_dis_ok (by decide) u2)) hI.2.1, NR_keep ((g_dis_ok (by decide) u1).tr (g_dis_ok (by decide) u2)) hI.2.2.1, CR_keep ((g_dis_ok (by decide) u1).tr (g_dis_ok (by decide) u2)) hI.2.2.2.1, t2, CLR_keep ((g_dis_ok (by decide) u1).tr (g_dis_ok (by decide) u2)) hI.2.2.2.2.2⟩
  refine f_k1 hM1 rfl rfl rfl (f_ar_v q0 rfl) rfl ?_
  refine f_s [] rfl rfl ?_
  refine f_aln 2 rfl hL rfl ?_
  refine g_alr 0 rfl hL rfl ?_
  refine f_iln 3 rfl hL rfl ?_
  refine f_s [fi (1), fi (i), .retAddr 0, .ref 55] rfl rfl ?_
  refine f_iadd rfl ?_
  refine g_sia rfl (by omega) (by omega) hz1 ?_
  refine g_alr 0 rfl hL rfl ?_
  refine f_iln 3 rfl hL rfl ?_
  refine f_s [fi (2), fi (i), .retAddr 0, fi (z1), .ref 55] rfl rfl ?_
  refine f_iadd rfl ?_
  refine g_sia rfl (by omega) (by omega) hz2 ?_
  refine f_k1 hM2 rfl rfl rfl (f_ar_v q55 rfl) rfl ?_
  refine f_s [] rfl rfl ?_
  refine f_goto rfl ?_
  exact K _ hI2
theorem g_c7 {xs : List Int32} {i : Int} (i1 : 0 ≤ i) (i2 : i ≤ 400) {z1 z2 z3 z4 : Int} (hz1 : xs[(i + 1).toNat]? = some (Int32.ofInt z1)) (rz1 : -2147483648 ≤ z1 ∧ z1 ≤ 2147483647) (hz2 : xs[(i + 2).toNat]? = some (Int32.ofInt z2)) (rz2 : -2147483648 ≤ z2 ∧ z2 ≤ 2147483647) (hz3 : xs[(i + 3).toNat]? = some (Int32.ofInt z3)) (rz3 : -2147483648 ≤ z3 ∧ z3 ≤ 2147483647) (hz4 : xs[(i + 4).toNat]? = some (Int32.ofInt z4)) (rz4 : -2147483648 ≤ z4 ∧ z4 ≤ 2147483647) {hc : ev_H} {L : ev_L} {Q : Option Value → ev_H → Prop} (hI : LInv hc) (hL : f_L L [(0, .retAddr 0), (1, .ref 0), (2, .ref 55), (3, fi (i))]) (K : ∀ hc2, LInv hc2 → x_W (some xs) (2, 0, 4, 1, 0, 9, 330, 600000, 7302250, ev_t202) 978 L [] hc2 72 1053 Q) : x_W (some xs) (2, 0, 4, 1, 0, 9, 330, 600000, 7302250, ev_t202) 321 L [] hc 72 1053 Q := by
  obtain ⟨gs0, q0⟩ := g_0 hI.1
  refine f_aln 1 rfl hL rfl ?_
  refine g_alr 0 rfl hL rfl ?_
  refine f_iln 3 rfl hL rfl ?_
  refine f_s [fi (1), fi (i), .retAddr 0, .ref 0] rfl rfl ?_
  refine f_iadd rfl ?_
  refine g_sia rfl (by omega) (by omega) hz1 ?_
  obtain ⟨rr, hc1, fs1, hc2, rr0, hM1, q55, hM2, i2, t2, u1, u2⟩ := SI_hang hI.1 hI.2.2.2.2.1 (x := z1) rz1
  have hI2 : LInv hc2 := ⟨i2, TR_keep (g_tw hI.1).1.2 ((g_dis_ok (by decide) u1).tr (g_dis_ok (by decide) u2)) hI.2.1, NR_keep ((g_dis_ok (by decide) u1).tr (g_dis_ok (by decide) u2)) hI.2.2.1, CR_keep ((g_dis_ok (by decide) u1).tr (g_dis_ok (by decide) u2)) hI.2.2.2.1, t2, CLR_keep ((g_dis_ok (by decide) u1).tr (g_dis_ok (by decide) u2)) hI.2.2.2.2.2⟩
  refine f_k1 hM1 rfl rfl rfl (f_ar_v q0 rfl) rfl ?_
  refine f_s [] rfl rfl ?_
  refine f_aln 2 rfl hL rfl ?_
  refine g_alr 0 rfl hL rfl ?_
  refine f_iln 3 rfl hL rfl ?_
  refine f_s [fi (1), fi (i), .retAddr 0, .ref 55] rfl rfl ?_
  refine f_iadd rfl ?_
  refine g_sia rfl (by omega) (by omega) hz1 ?_
  refine f_k1 hM2 rfl rfl rfl (f_ar_v q55 rfl) rfl ?_
  refine f_s [] rfl rfl ?_
  refine f_goto rfl ?_
  exact K _ hI2
theorem g_c8 {xs : List Int32} {i : Int} (i1 : 0 ≤ i) (i2 : i ≤ 400) {z1 z2 z3 z4 : Int} (hz1 : xs[(i + 1).toNat]? = some (Int32.ofInt z1)) (rz1 : -2147483648 ≤ z1 ∧ z1 ≤ 2147483647) (hz2 : xs[(i + 2).toNat]? = some (Int32.ofInt z2)) (rz2 : -2147483648 ≤ z2 ∧ z2 ≤ 2147483647) (hz3 : xs[(i + 3).toNat]? = some (Int32.ofInt z3)) (rz3 : -2147483648 ≤ z3 ∧ z3 ≤ 2147483647) (hz4 : xs[(i + 4).toNat]? = some (Int32.ofInt z4)) (rz4 : -2147483648 ≤ z4 ∧ z4 ≤ 2147483647) {hc : ev_H} {L : ev_L} {Q : Option Value → ev_H → Prop} (hI : LInv hc) (hL : f_L L [(0, .retAddr 0), (1, .ref 0), (2, .ref 55), (3, fi (i))]) (K : ∀ hc2, LInv hc2 → x_W (some xs) (2, 0, 4, 1, 0, 9, 330, 600000, 7302250, ev_t202) 978 L [] hc2 72 1053 Q) : x_W (some xs) (2, 0, 4, 1, 0, 9, 330, 600000, 7302250, ev_t202) 344 L [] hc 72 1053 Q := by
  obtain ⟨gs0, q0⟩ := g_0 hI.1
  refine f_aln 1 rfl hL rfl ?_
  obtain ⟨rr, hc1, fs1, hc2, rr0, hM1, q55, hM2, i2, t2, u1, u2⟩ := SI_hour hI.1 hI.2.2.2.2.1
  have hI2 : LInv hc2 := ⟨i2, TR_keep (g_tw hI.1).1.2 ((g_dis_ok (by decide) u1).tr (g_dis_ok (by decide) u2)) hI.2.1, NR_keep ((g_dis_ok (by decide) u1).tr (g_dis_ok (by decide) u2)) hI.2.2.1, CR_keep ((g_dis_ok (by decide) u1).tr (g_dis_ok (by decide) u2)) hI.2.2.2.1, t2, CLR_keep ((g_dis_ok (by decide) u1).tr (g_dis_ok (by decide) u2)) hI.2.2.2.2.2⟩
  refine f_k1 hM1 rfl rfl rfl (f_ar_v q0 rfl) rfl ?_
  refine f_s [] rfl rfl ?_
  refine f_aln 2 rfl hL rfl ?_
  refine f_k1 hM2 rfl rfl rfl (f_ar_v q55 rfl) rfl ?_
  refine f_s [] rfl rfl ?_
  refine f_goto rfl ?_
  exact K _ hI2
theorem g_c9 {xs : List Int32} {i : Int} (i1 : 0 ≤ i) (i2 : i ≤ 400) {z1 z2 z3 z4 : Int} (hz1 : xs[(i + 1).toNat]? = some (Int32.ofInt z1)) (rz1 : -2147483648 ≤ z1 ∧ z1 ≤ 2147483647) (hz2 : xs[(i + 2).toNat]? = some (Int32.ofInt z2)) (rz2 : -2147483648 ≤ z2 ∧ z2 ≤ 2147483647) (hz3 : xs[(i + 3).toNat]? = some (Int32.ofInt z3)) (rz3 : -2147483648 ≤ z3 ∧ z3 ≤ 2147483647) (hz4 : xs[(i + 4).toNat]? = some (Int32.ofInt z4)) (rz4 : -2147483648 ≤ z4 ∧ z4 ≤ 2147483647) {hc : ev_H} {L : ev_L} {Q : Option Value → ev_H → Prop} (hI : LInv hc) (hL : f_L L [(0, .retAddr 0), (1, .ref 0), (2, .ref 55), (3, fi (i))]) (K : ∀ hc2, LInv hc2 → x_W (some xs) (2, 0, 4, 1, 0, 9, 330, 600000, 7302250, ev_t202) 978 L [] hc2 72 1053 Q) : x_W (some xs) (2, 0, 4, 1, 0, 9, 330, 600000, 7302250, ev_t202) 357 L [] hc 72 1053 Q := by
  obtain ⟨gs0, q0⟩ := g_0 hI.1
  refine f_aln 1 rfl hL rfl ?_
  refine g_alr 0 rfl hL rfl ?_
  refine f_iln 3 rfl hL rfl ?_
  refine f_s [fi (1), fi (i), .retAddr 0, .ref 0] rfl rfl ?_
  refine f_iadd rfl ?_
  refine g_sia rfl (by omega) (by omega) hz1 ?_
  obtain ⟨rr, hc1, fs1, hc2, rr0, hM1, q55, hM2, i2, t2, u1, u2⟩ := SI_run hI.1 hI.2.2.2.2.1 (x := z1) rz1
  have hI2 : LInv hc2 := ⟨i2, TR_keep (g_tw hI.1).1.2 ((g_dis_ok (by decide) u1).tr (g_dis_ok (by decide) u2)) hI.2.1, NR_keep ((g_dis_ok (by decide) u1).tr (g_dis_ok (by decide) u2)) hI.2.2.1, CR_keep ((g_dis_ok (by decide) u1).tr (g_dis_ok (by decide) u2)) hI.2.2.2.1, t2, CLR_keep ((g_dis_ok (by decide) u1).tr (g_dis_ok (by decide) u2)) hI.2.2.2.2.2⟩
  refine f_k1 hM1 rfl rfl rfl (f_ar_v q0 rfl) rfl ?_
  refine f_s [] rfl rfl ?_
  refine f_aln 2 rfl hL rfl ?_
  refine g_alr 0 rfl hL rfl ?_
  refine f_iln 3 rfl hL rfl ?_
  refine f_s [fi (1), fi (i), .retAddr 0, .ref 55] rfl rfl ?_
  refine f_iadd rfl ?_
  refine g_sia rfl (by omega) (by omega) hz1 ?_
  refine f_k1 hM2 rfl rfl rfl (f_ar_v q55 rfl) rfl ?_
  refine f_s [] rfl rfl ?_
  refine f_goto rfl ?_
  exact K _ hI2
theorem g_c10 {xs : List Int32} {i : Int} (i1 : 0 ≤ i) (i2 : i ≤ 400) {z1 z2 z3 z4 : Int} (hz1 : xs[(i + 1).toNat]? = some (Int32.ofInt z1)) (rz1 : -2147483648 ≤ z1 ∧ z1 ≤ 2147483647) (hz2 : xs[(i + 2).toNat]? = some (Int32.ofInt z2)) (rz2 : -2147483648 ≤ z2 ∧ z2 ≤ 2147483647) (hz3 : xs[(i + 3).toNat]? = some (Int32.ofInt z3)) (rz3 : -2147483648 ≤ z3 ∧ z3 ≤ 2147483647) (hz4 : xs[(i + 4).toNat]? = some (Int32.ofInt z4)) (rz4 : -2147483648 ≤ z4 ∧ z4 ≤ 2147483647) {hc : ev_H} {L : ev_L} {Q : Option Value → ev_H → Prop} (hI : LInv hc) (hL : f_L L [(0, .retAddr 0), (1, .ref 0), (2, .ref 55), (3, fi (i))]) (K : ∀ hc2, LInv hc2 → x_W (some xs) (2, 0, 4, 1, 0, 9, 330, 600000, 7302250, ev_t202) 978 L [] hc2 72 1053 Q) : x_W (some xs) (2, 0, 4, 1, 0, 9, 330, 600000, 7302250, ev_t202) 380 L [] hc 72 1053 Q := by
  obtain ⟨gs0, q0⟩ := g_0 hI.1
  refine f_aln 1 rfl hL rfl ?_
  obtain ⟨rr, hc1, fs1, hc2, rr0, hM1, q55, hM2, i2, t2, u1, u2⟩ := SI_undo hI.1 hI.2.2.2.2.1
  have hI2 : LInv hc2 := ⟨i2, TR_keep (g_tw hI.1).1.2 ((g_dis_ok (by decide) u1).tr (g_dis_ok (by decide) u2)) hI.2.1, NR_keep ((g_dis_ok (by decide) u1).tr (g_dis_ok (by decide) u2)) hI.2.2.1, CR_keep ((g_dis_ok (by decide) u1).tr (g_dis_ok (by decide) u2)) hI.2.2.2.1, t2, CLR_keep ((g_dis_ok (by decide) u1).tr (g_dis_ok (by decide) u2)) hI.2.2.2.2.2⟩
  refine f_k1 hM1 rfl rfl rfl (f_ar_v q0 rfl) rfl ?_
  refine f_s [] rfl rfl ?_
  refine f_aln 2 rfl hL rfl ?_
  refine f_k1 hM2 rfl rfl rfl (f_ar_v q55 rfl) rfl ?_
  refine f_s [] rfl rfl ?_
  refine f_goto rfl ?_
  exact K _ hI2
theorem g_c11 {xs : List Int32} {i : Int} (i1 : 0 ≤ i) (i2 : i ≤ 400) {z1 z2 z3 z4 : Int} (hz1 : xs[(i + 1).toNat]? = some (Int32.ofInt z1)) (rz1 : -2147483648 ≤ z1 ∧ z1 ≤ 2147483647) (hz2 : xs[(i + 2).toNat]? = some (Int32.ofInt z2)) (rz2 : -2147483648 ≤ z2 ∧ z2 ≤ 2147483647) (hz3 : xs[(i + 3).toNat]? = some (Int32.ofInt z3)) (rz3 : -2147483648 ≤ z3 ∧ z3 ≤ 2147483647) (hz4 : xs[(i + 4).toNat]? = some (Int32.ofInt z4)) (rz4 : -2147483648 ≤ z4 ∧ z4 ≤ 2147483647) {hc : ev_H} {L : ev_L} {Q : Option Value → ev_H → Prop} (hI : LInv hc) (hL : f_L L [(0, .retAddr 0), (1, .ref 0), (2, .ref 55), (3, fi (i))]) (K : ∀ hc2, LInv hc2 → x_W (some xs) (2, 0, 4, 1, 0, 9, 330, 600000, 7302250, ev_t202) 978 L [] hc2 72 1053 Q) : x_W (some xs) (2, 0, 4, 1, 0, 9, 330, 600000, 7302250, ev_t202) 393 L [] hc 72 1053 Q := by
  obtain ⟨gs0, q0⟩ := g_0 hI.1
  refine f_aln 1 rfl hL rfl ?_
  refine g_alr 0 rfl hL rfl ?_
  refine f_iln 3 rfl hL rfl ?_
  refine f_s [fi (1), fi (i), .retAddr 0, .ref 0] rfl rfl ?_
  refine f_iadd rfl ?_
  refine g_sia rfl (by omega) (by omega) hz1 ?_
  refine g_alr 0 rfl hL rfl ?_
  refine f_iln 3 rfl hL rfl ?_
  refine f_s [fi (2), fi (i), .retAddr 0, fi (z1), .ref 0] rfl rfl ?_
  refine f_iadd rfl ?_
  refine g_sia rfl (by omega) (by omega) hz2 ?_
  refine f_if rfl rz2 (fun cz => ?_) (fun cz => ?_)
  · have cz : (z2 : Int) = (0 : Int) := cz
    refine f_s [fi (0), fi (z1), .ref 0] rfl rfl ?_
    obtain ⟨r1, hc1, fs1, r2, hc2, e1, hM1, q55, e2, hM2, hI2⟩ := g_op (RC := ev_r113) (RM := ev_r120) rfl rfl yc113_0 yc120_0 (by decide) hI (asC := [.ref 0, fi (z1), fi (0)]) (asM := [.ref 55, fi (z1), fi (0)]) (f_args_c f_rAr (f_args_c f_rAi (f_args_c (f_rA (by decide) (by decide) (by decide) (by decide)) f_args_n))) (f_args_c f_rAr (f_args_c f_rAi (f_args_c (f_rA (by decide) (by decide) (by decide) (by decide)) f_args_n)))
    obtain ⟨w1, rfl⟩ := f_reti (show y_ret (some (0, _)) r1 from e1)
    obtain ⟨w2, rfl⟩ := f_reti (show y_ret (some (0, _)) r2 from e2)
    refine f_k1 hM1 rfl rfl rfl (f_ar_v q0 rfl) rfl ?_
    refine f_s [] rfl rfl ?_
    refine f_aln 2 rfl hL rfl ?_
    refine g_alr 0 rfl hL rfl ?_
    refine f_iln 3 rfl hL rfl ?_
    refine f_s [fi (1), fi (i), .retAddr 0, .ref 55] rfl rfl ?_
    refine f_iadd rfl ?_
    refine g_sia rfl (by omega) (by omega) hz1 ?_
    refine g_alr 0 rfl hL rfl ?_
    refine f_iln 3 rfl hL rfl ?_
    refine f_s [fi (2), fi (i), .retAddr 0, fi (z1), .ref 55] rfl rfl ?_
    refine f_iadd rfl ?_
    refine g_sia rfl (by omega) (by omega) hz2 ?_
    refine f_if rfl rz2 (fun cy => ?_) (fun c => absurd cz c)
    have cy : (z2 : Int) = (0 : Int) := cy
    refine f_s [fi (0), fi (z1), .ref 55] rfl rfl ?_
    refine f_k1 hM2 rfl rfl rfl (f_ar_v q55 rfl) rfl ?_
    refine f_s [] rfl rfl ?_
    refine f_goto rfl ?_
    exact K _ hI2
  · have cz : ¬ ((z2 : Int) = (0 : Int)) := cz
    refine f_s [fi (1), fi (z1), .ref 0] rfl rfl ?_
    refine f_goto rfl ?_
    obtain ⟨r1, hc1, fs1, r2, hc2, e1, hM1, q55, e2, hM2, hI2⟩ := g_op (RC := ev_r113) (RM := ev_r120) rfl rfl yc113_0 yc120_0 (by decide) hI (asC := [.ref 0, fi (z1), fi (1)]) (asM := [.ref 55, fi (z1), fi (1)]) (f_args_c f_rAr (f_args_c f_rAi (f_args_c (f_rA (by decide) (by decide) (by decide) (by decide)) f_args_n))) (f_args_c f_rAr (f_args_c f_rAi (f_args_c (f_rA (by decide) (by decide) (by decide) (by decide)) f_args_n)))
    obtain ⟨w1, rfl⟩ := f_reti (show y_ret (some (0, _)) r1 from e1)
    obtain ⟨w2, rfl⟩ := f_reti (show y_ret (some (0, _)) r2 from e2)
    refine f_k1 hM1 rfl rfl rfl (f_ar_v q0 rfl) rfl ?_
    refine f_s [] rfl rfl ?_
    refine f_aln 2 rfl hL rfl ?_
    refine g_alr 0 rfl hL rfl ?_
    refine f_iln 3 rfl hL rfl ?_
    refine f_s [fi (1), fi (i), .retAddr 0, .ref 55] rfl rfl ?_
    refine f_iadd rfl ?_
    refine g_sia rfl (by omega) (by omega) hz1 ?_
    refine g_alr 0 rfl hL rfl ?_
    refine f_iln 3 rfl hL rfl ?_
    refine f_s [fi (2), fi (i), .retAddr 0, fi (z1), .ref 55] rfl rfl ?_
    refine f_iadd rfl ?_
    refine g_sia rfl (by omega) (by omega) hz2 ?_
    refine f_if rfl rz2 (fun c => absurd c cz) (fun cy => ?_)
    have cy : ¬ ((z2 : Int) = (0 : Int)) := cy
    refine f_s [fi (1), fi (z1), .ref 55] rfl rfl ?_
    refine f_goto rfl ?_
    refine f_k1 hM2 rfl rfl rfl (f_ar_v q55 rfl) rfl ?_
    refine f_s [] rfl rfl ?_
    refine f_goto rfl ?_
    exact K _ hI2
theorem g_c12 {xs : List Int32} {i : Int} (i1 : 0 ≤ i) (i2 : i ≤ 400) {z1 z2 z3 z4 : Int} (hz1 : xs[(i + 1).toNat]? = some (Int32.ofInt z1)) (rz1 : -2147483648 ≤ z1 ∧ z1 ≤ 2147483647) (hz2 : xs[(i + 2).toNat]? = some (Int32.ofInt z2)) (rz2 : -2147483648 ≤ z2 ∧ z2 ≤ 2147483647) (hz3 : xs[(i + 3).toNat]? = some (Int32.ofInt z3)) (rz3 : -2147483648 ≤ z3 ∧ z3 ≤ 2147483647) (hz4 : xs[(i + 4).toNat]? = some (Int32.ofInt z4)) (rz4 : -2147483648 ≤ z4 ∧ z4 ≤ 2147483647) {hc : ev_H} {L : ev_L} {Q : Option Value → ev_H → Prop} (hI : LInv hc) (hL : f_L L [(0, .retAddr 0), (1, .ref 0), (2, .ref 55), (3, fi (i))]) (K : ∀ hc2, LInv hc2 → x_W (some xs) (2, 0, 4, 1, 0, 9, 330, 600000, 7302250, ev_t202) 978 L [] hc2 72 1053 Q) : x_W (some xs) (2, 0, 4, 1, 0, 9, 330, 600000, 7302250, ev_t202) 442 L [] hc 72 1053 Q := by
  obtain ⟨gs0, q0⟩ := g_0 hI.1
  refine f_aln 1 rfl hL rfl ?_
  refine g_alr 0 rfl hL rfl ?_
  refine f_iln 3 rfl hL rfl ?_
  refine f_s [fi (1), fi (i), .retAddr 0, .ref 0] rfl rfl ?_
  refine f_iadd rfl ?_
  refine g_sia rfl (by omega) (by omega) hz1 ?_
  refine g_alr 0 rfl hL rfl ?_
  refine f_iln 3 rfl hL rfl ?_
  refine f_s [fi (2), fi (i), .retAddr 0, fi (z1), .ref 0] rfl rfl ?_
  refine f_iadd rfl ?_
  refine g_sia rfl (by omega) (by omega) hz2 ?_
  obtain ⟨r1, hc1, fs1, r2, hc2, e1, hM1, q55, e2, hM2, hI2⟩ := g_op (RC := ev_r122) (RM := ev_r124) rfl rfl yc122_0 yc124_0 (by decide) hI (asC := [.ref 0, fi (z1), fi (z2)]) (asM := [.ref 55, fi (z1), fi (z2)]) (f_args_c f_rAr (f_args_c f_rAi (f_args_c f_rAi f_args_n))) (f_args_c f_rAr (f_args_c f_rAi (f_args_c f_rAi f_args_n)))
  obtain ⟨w1, rfl⟩ := f_reti (show y_ret (some (0, _)) r1 from e1)
  obtain ⟨w2, rfl⟩ := f_reti (show y_ret (some (0, _)) r2 from e2)
  refine f_k1 hM1 rfl rfl rfl (f_ar_v q0 rfl) rfl ?_
  refine f_s [] rfl rfl ?_
  refine f_aln 2 rfl hL rfl ?_
  refine g_alr 0 rfl hL rfl ?_
  refine f_iln 3 rfl hL rfl ?_
  refine f_s [fi (1), fi (i), .retAddr 0, .ref 55] rfl rfl ?_
  refine f_iadd rfl ?_
  refine g_sia rfl (by omega) (by omega) hz1 ?_
  refine g_alr 0 rfl hL rfl ?_
  refine f_iln 3 rfl hL rfl ?_
  refine f_s [fi (2), fi (i), .retAddr 0, fi (z1), .ref 55] rfl rfl ?_
  refine f_iadd rfl ?_
  refine g_sia rfl (by omega) (by omega) hz2 ?_
  refine f_k1 hM2 rfl rfl rfl (f_ar_v q55 rfl) rfl ?_
  refine f_s [] rfl rfl ?_
  refine f_goto rfl ?_
  exact K _ hI2
theorem g_c13 {xs : List Int32} {i : Int} (i1 : 0 ≤ i) (i2 : i ≤ 400) {z1 z2 z3 z4 : Int} (hz1 : xs[(i + 1).toNat]? = some (Int32.ofInt z1)) (rz1 : -2147483648 ≤ z1 ∧ z1 ≤ 2147483647) (hz2 : xs[(i + 2).toNat]? = some (Int32.ofInt z2)) (rz2 : -2147483648 ≤ z2 ∧ z2 ≤ 2147483647) (hz3 : xs[(i + 3).toNat]? = some (Int32.ofInt z3)) (rz3 : -2147483648 ≤ z3 ∧ z3 ≤ 2147483647) (hz4 : xs[(i + 4).toNat]? = some (Int32.ofInt z4)) (rz4 : -2147483648 ≤ z4 ∧ z4 ≤ 2147483647) {hc : ev_H} {L : ev_L} {Q : Option Value → ev_H → Prop} (hI : LInv hc) (hL : f_L L [(0, .retAddr 0), (1, .ref 0), (2, .ref 55), (3, fi (i))]) (K : ∀ hc2, LInv hc2 → x_W (some xs) (2, 0, 4, 1, 0, 9, 330, 600000, 7302250, ev_t202) 978 L [] hc2 72 1053 Q) : x_W (some xs) (2, 0, 4, 1, 0, 9, 330, 600000, 7302250, ev_t202) 475 L [] hc 72 1053 Q := by
  obtain ⟨gs0, q0⟩ := g_0 hI.1
  refine f_aln 1 rfl hL rfl ?_
  obtain ⟨r1, hc1, fs1, r2, hc2, e1, hM1, q55, e2, hM2, hI2⟩ := g_op (RC := ev_r125) (RM := ev_r126) rfl rfl yc125_0 yc126_0 (by decide) hI (asC := [.ref 0]) (asM := [.ref 55]) (f_args_c f_rAr f_args_n) (f_args_c f_rAr f_args_n)
  obtain ⟨w1, rfl⟩ := f_reti (show y_ret (some (0, _)) r1 from e1)
  obtain ⟨w2, rfl⟩ := f_reti (show y_ret (some (0, _)) r2 from e2)
  refine f_k1 hM1 rfl rfl rfl (f_ar_v q0 rfl) rfl ?_
  refine f_s [] rfl rfl ?_
  refine f_aln 2 rfl hL rfl ?_
  refine f_k1 hM2 rfl rfl rfl (f_ar_v q55 rfl) rfl ?_
  refine f_s [] rfl rfl ?_
  refine f_goto rfl ?_
  exact K _ hI2
theorem g_c14 {xs : List Int32} {i : Int} (i1 : 0 ≤ i) (i2 : i ≤ 400) {z1 z2 z3 z4 : Int} (hz1 : xs[(i + 1).toNat]? = some (Int32.ofInt z1)) (rz1 : -2147483648 ≤ z1 ∧ z1 ≤ 2147483647) (hz2 : xs[(i + 2).toNat]? = some (Int32.ofInt z2)) (rz2 : -2147483648 ≤ z2 ∧ z2 ≤ 2147483647) (hz3 : xs[(i + 3).toNat]? = some (Int32.ofInt z3)) (rz3 : -2147483648 ≤ z3 ∧ z3 ≤ 2147483647) (hz4 : xs[(i + 4).toNat]? = some (Int32.ofInt z4)) (rz4 : -2147483648 ≤ z4 ∧ z4 ≤ 2147483647) {hc : ev_H} {L : ev_L} {Q : Option Value → ev_H → Prop} (hI : LInv hc) (hL : f_L L [(0, .retAddr 0), (1, .ref 0), (2, .ref 55), (3, fi (i))]) (K : ∀ hc2, LInv hc2 → x_W (some xs) (2, 0, 4, 1, 0, 9, 330, 600000, 7302250, ev_t202) 978 L [] hc2 72 1053 Q) : x_W (some xs) (2, 0, 4, 1, 0, 9, 330, 600000, 7302250, ev_t202) 488 L [] hc 72 1053 Q := by
  obtain ⟨gs0, q0⟩ := g_0 hI.1
  refine f_aln 1 rfl hL rfl ?_
  refine g_alr 0 rfl hL rfl ?_
  refine f_iln 3 rfl hL rfl ?_
  refine f_s [fi (1), fi (i), .retAddr 0, .ref 0] rfl rfl ?_
  refine f_iadd rfl ?_
  refine g_sia rfl (by omega) (by omega) hz1 ?_
  refine f_if rfl rz1 (fun cz => ?_) (fun cz => ?_)
  · have cz : (z1 : Int) = (0 : Int) := cz
    refine f_s [fi (0), .ref 0] rfl rfl ?_
    obtain ⟨r1, hc1, fs1, r2, hc2, e1, hM1, q55, e2, hM2, hI2⟩ := g_op (RC := ev_r133) (RM := ev_r134) rfl rfl yc133_0 yc134_0 (by decide) hI (asC := [.ref 0, fi (0)]) (asM := [.ref 55, fi (0)]) (f_args_c f_rAr (f_args_c (f_rA (by decide) (by decide) (by decide) (by decide)) f_args_n)) (f_args_c f_rAr (f_args_c (f_rA (by decide) (by decide) (by decide) (by decide)) f_args_n))
    obtain ⟨w1, rfl⟩ := f_reti (show y_ret (some (0, _)) r1 from e1)
    obtain ⟨w2, rfl⟩ := f_reti (show y_ret (some (0, _)) r2 from e2)
    refine f_k1 hM1 rfl rfl rfl (f_ar_v q0 rfl) rfl ?_
    refine f_s [] rfl rfl ?_
    refine f_aln 2 rfl hL rfl ?_
    refine g_alr 0 rfl hL rfl ?_
    refine f_iln 3 rfl hL rfl ?_
    refine f_s [fi (1), fi (i), .retAddr 0, .ref 55] rfl rfl ?_
    refine f_iadd rfl ?_
    refine g_sia rfl (by omega) (by omega) hz1 ?_
    refine f_if rfl rz1 (fun cy => ?_) (fun c => absurd cz c)
    have cy : (z1 : Int) = (0 : Int) := cy
    refine f_s [fi (0), .ref 55] rfl rfl ?_
    refine f_k1 hM2 rfl rfl rfl (f_ar_v q55 rfl) rfl ?_
    refine f_s [] rfl rfl ?_
    refine f_goto rfl ?_
    exact K _ hI2
  · have cz : ¬ ((z1 : Int) = (0 : Int)) := cz
    refine f_s [fi (1), .ref 0] rfl rfl ?_
    refine f_goto rfl ?_
    obtain ⟨r1, hc1, fs1, r2, hc2, e1, hM1, q55, e2, hM2, hI2⟩ := g_op (RC := ev_r133) (RM := ev_r134) rfl rfl yc133_0 yc134_0 (by decide) hI (asC := [.ref 0, fi (1)]) (asM := [.ref 55, fi (1)]) (f_args_c f_rAr (f_args_c (f_rA (by decide) (by decide) (by decide) (by decide)) f_args_n)) (f_args_c f_rAr (f_args_c (f_rA (by decide) (by decide) (by decide) (by decide)) f_args_n))
    obtain ⟨w1, rfl⟩ := f_reti (show y_ret (some (0, _)) r1 from e1)
    obtain ⟨w2, rfl⟩ := f_reti (show y_ret (some (0, _)) r2 from e2)
    refine f_k1 hM1 rfl rfl rfl (f_ar_v q0 rfl) rfl ?_
    refine f_s [] rfl rfl ?_
    refine f_aln 2 rfl hL rfl ?_
    refine g_alr 0 rfl hL rfl ?_
    refine f_iln 3 rfl hL rfl ?_
    refine f_s [fi (1), fi (i), .retAddr 0, .ref 55] rfl rfl ?_
    refine f_iadd rfl ?_
    refine g_sia rfl (by omega) (by omega) hz1 ?_
    refine f_if rfl rz1 (fun c => absurd c cz) (fun cy => ?_)
    have cy : ¬ ((z1 : Int) = (0 : Int)) := cy
    refine f_s [fi (1), .ref 55] rfl rfl ?_
    refine f_goto rfl ?_
    refine f_k1 hM2 rfl rfl rfl (f_ar_v q55 rfl) rfl ?_
    refine f_s [] rfl rfl ?_
    refine f_goto rfl ?_
    exact K _ hI2
theorem g_c15 {xs : List Int32} {i : Int} (i1 : 0 ≤ i) (i2 : i ≤ 400) {z1 z2 z3 z4 : Int} (hz1 : xs[(i + 1).toNat]? = some (Int32.ofInt z1)) (rz1 : -2147483648 ≤ z1 ∧ z1 ≤ 2147483647) (hz2 : xs[(i + 2).toNat]? = some (Int32.ofInt z2)) (rz2 : -2147483648 ≤ z2 ∧ z2 ≤ 2147483647) (hz3 : xs[(i + 3).toNat]? = some (Int32.ofInt z3)) (rz3 : -2147483648 ≤ z3 ∧ z3 ≤ 2147483647) (hz4 : xs[(i + 4).toNat]? = some (Int32.ofInt z4)) (rz4 : -2147483648 ≤ z4 ∧ z4 ≤ 2147483647) {hc : ev_H} {L : ev_L} {Q : Option Value → ev_H → Prop} (hI : LInv hc) (hL : f_L L [(0, .retAddr 0), (1, .ref 0), (2, .ref 55), (3, fi (i))]) (K : ∀ hc2, LInv hc2 → x_W (some xs) (2, 0, 4, 1, 0, 9, 330, 600000, 7302250, ev_t202) 978 L [] hc2 72 1053 Q) : x_W (some xs) (2, 0, 4, 1, 0, 9, 330, 600000, 7302250, ev_t202) 527 L [] hc 72 1053 Q := by
  obtain ⟨gs0, q0⟩ := g_0 hI.1
  refine f_aln 1 rfl hL rfl ?_
  refine g_alr 0 rfl hL rfl ?_
  refine f_iln 3 rfl hL rfl ?_
  refine f_s [fi (1), fi (i), .retAddr 0, .ref 0] rfl rfl ?_
  refine f_iadd rfl ?_
  refine g_sia rfl (by omega) (by omega) hz1 ?_
  refine g_alr 0 rfl hL rfl ?_
  refine f_iln 3 rfl hL rfl ?_
  refine f_s [fi (2), fi (i), .retAddr 0, fi (z1), .ref 0] rfl rfl ?_
  refine f_iadd rfl ?_
  refine g_sia rfl (by omega) (by omega) hz2 ?_
  obtain ⟨r1, hc1, fs1, r2, hc2, e1, hM1, q55, e2, hM2, hI2⟩ := g_op (RC := ev_r140) (RM := ev_r143) rfl rfl yc140_0 yc143_0 (by decide) hI (asC := [.ref 0, fi (z1), fi (z2)]) (asM := [.ref 55, fi (z1), fi (z2)]) (f_args_c f_rAr (f_args_c f_rAi (f_args_c f_rAi f_args_n))) (f_args_c f_rAr (f_args_c f_rAi (f_args_c f_rAi f_args_n)))
  obtain ⟨w1, rfl⟩ := f_reti (show y_ret (some (0, _)) r1 from e1)
  obtain ⟨w2, rfl⟩ := f_reti (show y_ret (some (0, _)) r2 from e2)
  refine f_k1 hM1 rfl rfl rfl (f_ar_v q0 rfl) rfl ?_
  refine f_s [] rfl rfl ?_
  refine f_aln 2 rfl hL rfl ?_
  refine g_alr 0 rfl hL rfl ?_
  refine f_iln 3 rfl hL rfl ?_
  refine f_s [fi (1), fi (i), .retAddr 0, .ref 55] rfl rfl ?_
  refine f_iadd rfl ?_
  refine g_sia rfl (by omega) (by omega) hz1 ?_
  refine g_alr 0 rfl hL rfl ?_
  refine f_iln 3 rfl hL rfl ?_
  refine f_s [fi (2), fi (i), .retAddr 0, fi (z1), .ref 55] rfl rfl ?_
  refine f_iadd rfl ?_
  refine g_sia rfl (by omega) (by omega) hz2 ?_
  refine f_k1 hM2 rfl rfl rfl (f_ar_v q55 rfl) rfl ?_
  refine f_s [] rfl rfl ?_
  refine f_goto rfl ?_
  exact K _ hI2
theorem g_c16 {xs : List Int32} {i : Int} (i1 : 0 ≤ i) (i2 : i ≤ 400) {z1 z2 z3 z4 : Int} (hz1 : xs[(i + 1).toNat]? = some (Int32.ofInt z1)) (rz1 : -2147483648 ≤ z1 ∧ z1 ≤ 2147483647) (hz2 : xs[(i + 2).toNat]? = some (Int32.ofInt z2)) (rz2 : -2147483648 ≤ z2 ∧ z2 ≤ 2147483647) (hz3 : xs[(i + 3).toNat]? = some (Int32.ofInt z3)) (rz3 : -2147483648 ≤ z3 ∧ z3 ≤ 2147483647) (hz4 : xs[(i + 4).toNat]? = some (Int32.ofInt z4)) (rz4 : -2147483648 ≤ z4 ∧ z4 ≤ 2147483647) {hc : ev_H} {L : ev_L} {Q : Option Value → ev_H → Prop} (hI : LInv hc) (hL : f_L L [(0, .retAddr 0), (1, .ref 0), (2, .ref 55), (3, fi (i))]) (K : ∀ hc2, LInv hc2 → x_W (some xs) (2, 0, 4, 1, 0, 9, 330, 600000, 7302250, ev_t202) 978 L [] hc2 72 1053 Q) : x_W (some xs) (2, 0, 4, 1, 0, 9, 330, 600000, 7302250, ev_t202) 560 L [] hc 72 1053 Q := by
  obtain ⟨gs0, q0⟩ := g_0 hI.1
  refine f_aln 1 rfl hL rfl ?_
  refine g_alr 0 rfl hL rfl ?_
  refine f_iln 3 rfl hL rfl ?_
  refine f_s [fi (1), fi (i), .retAddr 0, .ref 0] rfl rfl ?_
  refine f_iadd rfl ?_
  refine g_sia rfl (by omega) (by omega) hz1 ?_
  refine g_alr 0 rfl hL rfl ?_
  refine f_iln 3 rfl hL rfl ?_
  refine f_s [fi (2), fi (i), .retAddr 0, fi (z1), .ref 0] rfl rfl ?_
  refine f_iadd rfl ?_
  refine g_sia rfl (by omega) (by omega) hz2 ?_
  obtain ⟨rr, hc1, fs1, hc2, rr0, hM1, q55, hM2, i2, t2, u1, u2⟩ := CLR_see2 hI.1 hI.2.2.1 hI.2.2.2.1 hI.2.2.2.2.2 (x := z1) (h := z2) rz1 rz2
  have hI2 : LInv hc2 := ⟨i2, TR_keep (g_tw hI.1).1.2 ((g_dis_ok (by decide) u1).tr (g_dis_ok (by decide) u2)) hI.2.1, NR_keep ((g_dis_ok (by decide) u1).tr (g_dis_ok (by decide) u2)) hI.2.2.1, t2.1, SI_keep ((g_dis_ok (by decide) u1).tr (g_dis_ok (by decide) u2)) hI.2.2.2.2.1, t2.2⟩
  refine f_k1 hM1 rfl rfl rfl (f_ar_v q0 rfl) rfl ?_
  refine f_s [] rfl rfl ?_
  refine f_aln 2 rfl hL rfl ?_
  refine g_alr 0 rfl hL rfl ?_
  refine f_iln 3 rfl hL rfl ?_
  refine f_s [fi (1), fi (i), .retAddr 0, .ref 55] rfl rfl ?_
  refine f_iadd rfl ?_
  refine g_sia rfl (by omega) (by omega) hz1 ?_
  refine g_alr 0 rfl hL rfl ?_
  refine f_iln 3 rfl hL rfl ?_
  refine f_s [fi (2), fi (i), .retAddr 0, fi (z1), .ref 55] rfl rfl ?_
  refine f_iadd rfl ?_
  refine g_sia rfl (by omega) (by omega) hz2 ?_
  refine f_k1 hM2 rfl rfl rfl (f_ar_v q55 rfl) rfl ?_
  refine f_s [] rfl rfl ?_
  refine f_goto rfl ?_
  exact K _ hI2
theorem g_c17 {xs : List Int32} {i : Int} (i1 : 0 ≤ i) (i2 : i ≤ 400) {z1 z2 z3 z4 : Int} (hz1 : xs[(i + 1).toNat]? = some (Int32.ofInt z1)) (rz1 : -2147483648 ≤ z1 ∧ z1 ≤ 2147483647) (hz2 : xs[(i + 2).toNat]? = some (Int32.ofInt z2)) (rz2 : -2147483648 ≤ z2 ∧ z2 ≤ 2147483647) (hz3 : xs[(i + 3).toNat]? = some (Int32.ofInt z3)) (rz3 : -2147483648 ≤ z3 ∧ z3 ≤ 2147483647) (hz4 : xs[(i + 4).toNat]? = some (Int32.ofInt z4)) (rz4 : -2147483648 ≤ z4 ∧ z4 ≤ 2147483647) {hc : ev_H} {L : ev_L} {Q : Option Value → ev_H → Prop} (hI : LInv hc) (hL : f_L L [(0, .retAddr 0), (1, .ref 0), (2, .ref 55), (3, fi (i))]) (K : ∀ hc2, LInv hc2 → x_W (some xs) (2, 0, 4, 1, 0, 9, 330, 600000, 7302250, ev_t202) 978 L [] hc2 72 1053 Q) : x_W (some xs) (2, 0, 4, 1, 0, 9, 330, 600000, 7302250, ev_t202) 593 L [] hc 72 1053 Q := by
  obtain ⟨gs0, q0⟩ := g_0 hI.1
  refine f_aln 1 rfl hL rfl ?_
  refine g_alr 0 rfl hL rfl ?_
  refine f_iln 3 rfl hL rfl ?_
  refine f_s [fi (1), fi (i), .retAddr 0, .ref 0] rfl rfl ?_
  refine f_iadd rfl ?_
  refine g_sia rfl (by omega) (by omega) hz1 ?_
  refine g_alr 0 rfl hL rfl ?_
  refine f_iln 3 rfl hL rfl ?_
  refine f_s [fi (2), fi (i), .retAddr 0, fi (z1), .ref 0] rfl rfl ?_
  refine f_iadd rfl ?_
  refine g_sia rfl (by omega) (by omega) hz2 ?_
  obtain ⟨rr, hc1, fs1, hc2, rr0, hM1, q55, hM2, i2, t2, u1, u2⟩ := CLR_deed2 hI.1 hI.2.2.1 hI.2.2.2.1 hI.2.2.2.2.2 (x := z1) (h := z2) rz1 rz2
  have hI2 : LInv hc2 := ⟨i2, TR_keep (g_tw hI.1).1.2 ((g_dis_ok (by decide) u1).tr (g_dis_ok (by decide) u2)) hI.2.1, NR_keep ((g_dis_ok (by decide) u1).tr (g_dis_ok (by decide) u2)) hI.2.2.1, t2.1, SI_keep ((g_dis_ok (by decide) u1).tr (g_dis_ok (by decide) u2)) hI.2.2.2.2.1, t2.2⟩
  refine f_k1 hM1 rfl rfl rfl (f_ar_v q0 rfl) rfl ?_
  refine f_s [] rfl rfl ?_
  refine f_aln 2 rfl hL rfl ?_
  refine g_alr 0 rfl hL rfl ?_
  refine f_iln 3 rfl hL rfl ?_
  refine f_s [fi (1), fi (i), .retAddr 0, .ref 55] rfl rfl ?_
  refine f_iadd rfl ?_
  refine g_sia rfl (by omega) (by omega) hz1 ?_
  refine g_alr 0 rfl hL rfl ?_
  refine f_iln 3 rfl hL rfl ?_
  refine f_s [fi (2), fi (i), .retAddr 0, fi (z1), .ref 55] rfl rfl ?_
  refine f_iadd rfl ?_
  refine g_sia rfl (by omega) (by omega) hz2 ?_
  refine f_k1 hM2 rfl rfl rfl (f_ar_v q55 rfl) rfl ?_
  refine f_s [] rfl rfl ?_
  refine f_goto rfl ?_
  exact K _ hI2
theorem g_c18 {xs : List Int32} {i : Int} (i1 : 0 ≤ i) (i2 : i ≤ 400) {z1 z2 z3 z4 : Int} (hz1 : xs[(i + 1).toNat]? = some (Int32.ofInt z1)) (rz1 : -2147483648 ≤ z1 ∧ z1 ≤ 2147483647) (hz2 : xs[(i + 2).toNat]? = some (Int32.ofInt z2)) (rz2 : -2147483648 ≤ z2 ∧ z2 ≤ 2147483647) (hz3 : xs[(i + 3).toNat]? = some (Int32.ofInt z3)) (rz3 : -2147483648 ≤ z3 ∧ z3 ≤ 2147483647) (hz4 : xs[(i + 4).toNat]? = some (Int32.ofInt z4)) (rz4 : -2147483648 ≤ z4 ∧ z4 ≤ 2147483647) {hc : ev_H} {L : ev_L} {Q : Option Value → ev_H → Prop} (hI : LInv hc) (hL : f_L L [(0, .retAddr 0), (1, .ref 0), (2, .ref 55), (3, fi (i))]) (K : ∀ hc2, LInv hc2 → x_W (some xs) (2, 0, 4, 1, 0, 9, 330, 600000, 7302250, ev_t202) 978 L [] hc2 72 1053 Q) : x_W (some xs) (2, 0, 4, 1, 0, 9, 330, 600000, 7302250, ev_t202) 626 L [] hc 72 1053 Q := by
  obtain ⟨gs0, q0⟩ := g_0 hI.1
  refine f_aln 1 rfl hL rfl ?_
  obtain ⟨rr, hc1, fs1, hc2, rr0, hM1, q55, hM2, i2, t2, u1, u2⟩ := CLR_forget2 hI.1 hI.2.2.2.1
  have hI2 : LInv hc2 := ⟨i2, TR_keep (g_tw hI.1).1.2 ((g_dis_ok (by decide) u1).tr (g_dis_ok (by decide) u2)) hI.2.1, NR_keep ((g_dis_ok (by decide) u1).tr (g_dis_ok (by decide) u2)) hI.2.2.1, t2.1, SI_keep ((g_dis_ok (by decide) u1).tr (g_dis_ok (by decide) u2)) hI.2.2.2.2.1, t2.2⟩
  refine f_k1 hM1 rfl rfl rfl (f_ar_v q0 rfl) rfl ?_
  refine f_s [] rfl rfl ?_
  refine f_aln 2 rfl hL rfl ?_
  refine f_k1 hM2 rfl rfl rfl (f_ar_v q55 rfl) rfl ?_
  refine f_s [] rfl rfl ?_
  refine f_goto rfl ?_
  exact K _ hI2
theorem g_c19 {xs : List Int32} {i : Int} (i1 : 0 ≤ i) (i2 : i ≤ 400) {z1 z2 z3 z4 : Int} (hz1 : xs[(i + 1).toNat]? = some (Int32.ofInt z1)) (rz1 : -2147483648 ≤ z1 ∧ z1 ≤ 2147483647) (hz2 : xs[(i + 2).toNat]? = some (Int32.ofInt z2)) (rz2 : -2147483648 ≤ z2 ∧ z2 ≤ 2147483647) (hz3 : xs[(i + 3).toNat]? = some (Int32.ofInt z3)) (rz3 : -2147483648 ≤ z3 ∧ z3 ≤ 2147483647) (hz4 : xs[(i + 4).toNat]? = some (Int32.ofInt z4)) (rz4 : -2147483648 ≤ z4 ∧ z4 ≤ 2147483647) {hc : ev_H} {L : ev_L} {Q : Option Value → ev_H → Prop} (hI : LInv hc) (hL : f_L L [(0, .retAddr 0), (1, .ref 0), (2, .ref 55), (3, fi (i))]) (K : ∀ hc2, LInv hc2 → x_W (some xs) (2, 0, 4, 1, 0, 9, 330, 600000, 7302250, ev_t202) 978 L [] hc2 72 1053 Q) : x_W (some xs) (2, 0, 4, 1, 0, 9, 330, 600000, 7302250, ev_t202) 639 L [] hc 72 1053 Q := by
  obtain ⟨gs0, q0⟩ := g_0 hI.1
  refine f_aln 1 rfl hL rfl ?_
  refine g_alr 0 rfl hL rfl ?_
  refine f_iln 3 rfl hL rfl ?_
  refine f_s [fi (1), fi (i), .retAddr 0, .ref 0] rfl rfl ?_
  refine f_iadd rfl ?_
  refine g_sia rfl (by omega) (by omega) hz1 ?_
  obtain ⟨rr, hc1, fs1, hc2, rr0, hM1, q55, hM2, i2, t2, u1, u2⟩ := SI_who hI.1 hI.2.2.2.2.1 hI.2.2.2.2.2 (k := z1) rz1
  have hI2 : LInv hc2 := ⟨i2, TR_keep (g_tw hI.1).1.2 ((g_dis_ok (by decide) u1).tr (g_dis_ok (by decide) u2)) hI.2.1, NR_keep ((g_dis_ok (by decide) u1).tr (g_dis_ok (by decide) u2)) hI.2.2.1, CR_keep ((g_dis_ok (by decide) u1).tr (g_dis_ok (by decide) u2)) hI.2.2.2.1, t2, CLR_keep ((g_dis_ok (by decide) u1).tr (g_dis_ok (by decide) u2)) hI.2.2.2.2.2⟩
  refine f_k1 hM1 rfl rfl rfl (f_ar_v q0 rfl) rfl ?_
  refine f_aln 2 rfl hL rfl ?_
  refine g_alr 0 rfl hL rfl ?_
  refine f_iln 3 rfl hL rfl ?_
  refine f_s [fi (1), fi (i), .retAddr 0, .ref 55, fi (rr)] rfl rfl ?_
  refine f_iadd rfl ?_
  refine g_sia rfl (by omega) (by omega) hz1 ?_
  refine f_k1 hM2 rfl rfl rfl (f_ar_v q55 rfl) rfl ?_
  refine f_ic rfl rr0 rr0 (fun cc => ?_) (fun c => absurd rfl c)
  have cc : (rr : Int) = (rr : Int) := cc
  exact K _ hI2
theorem g_c20 {xs : List Int32} {i : Int} (i1 : 0 ≤ i) (i2 : i ≤ 400) {z1 z2 z3 z4 : Int} (hz1 : xs[(i + 1).toNat]? = some (Int32.ofInt z1)) (rz1 : -2147483648 ≤ z1 ∧ z1 ≤ 2147483647) (hz2 : xs[(i + 2).toNat]? = some (Int32.ofInt z2)) (rz2 : -2147483648 ≤ z2 ∧ z2 ≤ 2147483647) (hz3 : xs[(i + 3).toNat]? = some (Int32.ofInt z3)) (rz3 : -2147483648 ≤ z3 ∧ z3 ≤ 2147483647) (hz4 : xs[(i + 4).toNat]? = some (Int32.ofInt z4)) (rz4 : -2147483648 ≤ z4 ∧ z4 ≤ 2147483647) {hc : ev_H} {L : ev_L} {Q : Option Value → ev_H → Prop} (hI : LInv hc) (hL : f_L L [(0, .retAddr 0), (1, .ref 0), (2, .ref 55), (3, fi (i))]) (K : ∀ hc2, LInv hc2 → x_W (some xs) (2, 0, 4, 1, 0, 9, 330, 600000, 7302250, ev_t202) 978 L [] hc2 72 1053 Q) : x_W (some xs) (2, 0, 4, 1, 0, 9, 330, 600000, 7302250, ev_t202) 662 L [] hc 72 1053 Q := by
  obtain ⟨gs0, q0⟩ := g_0 hI.1
  refine f_aln 1 rfl hL rfl ?_
  refine g_alr 0 rfl hL rfl ?_
  refine f_iln 3 rfl hL rfl ?_
  refine f_s [fi (1), fi (i), .retAddr 0, .ref 0] rfl rfl ?_
  refine f_iadd rfl ?_
  refine g_sia rfl (by omega) (by omega) hz1 ?_
  refine g_alr 0 rfl hL rfl ?_
  refine f_iln 3 rfl hL rfl ?_
  refine f_s [fi (2), fi (i), .retAddr 0, fi (z1), .ref 0] rfl rfl ?_
  refine f_iadd rfl ?_
  refine g_sia rfl (by omega) (by omega) hz2 ?_
  refine g_alr 0 rfl hL rfl ?_
  refine f_iln 3 rfl hL rfl ?_
  refine f_s [fi (3), fi (i), .retAddr 0, fi (z2), fi (z1), .ref 0] rfl rfl ?_
  refine f_iadd rfl ?_
  refine g_sia rfl (by omega) (by omega) hz3 ?_
  refine f_if rfl rz3 (fun cz => ?_) (fun cz => ?_)
  · have cz : (z3 : Int) = (0 : Int) := cz
    refine f_s [fi (0), fi (z2), fi (z1), .ref 0] rfl rfl ?_
    obtain ⟨r1, hc1, fs1, r2, hc2, e1, hM1, q55, e2, hM2, hI2⟩ := g_op (RC := ev_r166) (RM := ev_r169) rfl rfl yc166_0 yc169_0 (by decide) hI (asC := [.ref 0, fi (z1), fi (z2), fi (0)]) (asM := [.ref 55, fi (z1), fi (z2), fi (0)]) (f_args_c f_rAr (f_args_c f_rAi (f_args_c f_rAi (f_args_c (f_rA (by decide) (by decide) (by decide) (by decide)) f_args_n)))) (f_args_c f_rAr (f_args_c f_rAi (f_args_c f_rAi (f_args_c (f_rA (by decide) (by decide) (by decide) (by decide)) f_args_n))))
    obtain ⟨w1, rfl⟩ := f_reti (show y_ret (some (0, _)) r1 from e1)
    obtain ⟨w2, rfl⟩ := f_reti (show y_ret (some (0, _)) r2 from e2)
    refine f_k1 hM1 rfl rfl rfl (f_ar_v q0 rfl) rfl ?_
    refine f_s [] rfl rfl ?_
    refine f_aln 2 rfl hL rfl ?_
    refine g_alr 0 rfl hL rfl ?_
    refine f_iln 3 rfl hL rfl ?_
    refine f_s [fi (1), fi (i), .retAddr 0, .ref 55] rfl rfl ?_
    refine f_iadd rfl ?_
    refine g_sia rfl (by omega) (by omega) hz1 ?_
    refine g_alr 0 rfl hL rfl ?_
    refine f_iln 3 rfl hL rfl ?_
    refine f_s [fi (2), fi (i), .retAddr 0, fi (z1), .ref 55] rfl rfl ?_
    refine f_iadd rfl ?_
    refine g_sia rfl (by omega) (by omega) hz2 ?_
    refine g_alr 0 rfl hL rfl ?_
    refine f_iln 3 rfl hL rfl ?_
    refine f_s [fi (3), fi (i), .retAddr 0, fi (z2), fi (z1), .ref 55] rfl rfl ?_
    refine f_iadd rfl ?_
    refine g_sia rfl (by omega) (by omega) hz3 ?_
    refine f_if rfl rz3 (fun cy => ?_) (fun c => absurd cz c)
    have cy : (z3 : Int) = (0 : Int) := cy
    refine f_s [fi (0), fi (z2), fi (z1), .ref 55] rfl rfl ?_
    refine f_k1 hM2 rfl rfl rfl (f_ar_v q55 rfl) rfl ?_
    refine f_s [] rfl rfl ?_
    refine f_goto rfl ?_
    exact K _ hI2
  · have cz : ¬ ((z3 : Int) = (0 : Int)) := cz
    refine f_s [fi (1), fi (z2), fi (z1), .ref 0] rfl rfl ?_
    refine f_goto rfl ?_
    obtain ⟨r1, hc1, fs1, r2, hc2, e1, hM1, q55, e2, hM2, hI2⟩ := g_op (RC := ev_r166) (RM := ev_r169) rfl rfl yc166_0 yc169_0 (by decide) hI (asC := [.ref 0, fi (z1), fi (z2), fi (1)]) (asM := [.ref 55, fi (z1), fi (z2), fi (1)]) (f_args_c f_rAr (f_args_c f_rAi (f_args_c f_rAi (f_args_c (f_rA (by decide) (by decide) (by decide) (by decide)) f_args_n)))) (f_args_c f_rAr (f_args_c f_rAi (f_args_c f_rAi (f_args_c (f_rA (by decide) (by decide) (by decide) (by decide)) f_args_n))))
    obtain ⟨w1, rfl⟩ := f_reti (show y_ret (some (0, _)) r1 from e1)
    obtain ⟨w2, rfl⟩ := f_reti (show y_ret (some (0, _)) r2 from e2)
    refine f_k1 hM1 rfl rfl rfl (f_ar_v q0 rfl) rfl ?_
    refine f_s [] rfl rfl ?_
    refine f_aln 2 rfl hL rfl ?_
    refine g_alr 0 rfl hL rfl ?_
    refine f_iln 3 rfl hL rfl ?_
    refine f_s [fi (1), fi (i), .retAddr 0, .ref 55] rfl rfl ?_
    refine f_iadd rfl ?_
    refine g_sia rfl (by omega) (by omega) hz1 ?_
    refine g_alr 0 rfl hL rfl ?_
    refine f_iln 3 rfl hL rfl ?_
    refine f_s [fi (2), fi (i), .retAddr 0, fi (z1), .ref 55] rfl rfl ?_
    refine f_iadd rfl ?_
    refine g_sia rfl (by omega) (by omega) hz2 ?_
    refine g_alr 0 rfl hL rfl ?_
    refine f_iln 3 rfl hL rfl ?_
    refine f_s [fi (3), fi (i), .retAddr 0, fi (z2), fi (z1), .ref 55] rfl rfl ?_
    refine f_iadd rfl ?_
    refine g_sia rfl (by omega) (by omega) hz3 ?_
    refine f_if rfl rz3 (fun c => absurd c cz) (fun cy => ?_)
    have cy : ¬ ((z3 : Int) = (0 : Int)) := cy
    refine f_s [fi (1), fi (z2), fi (z1), .ref 55] rfl rfl ?_
    refine f_goto rfl ?_
    refine f_k1 hM2 rfl rfl rfl (f_ar_v q55 rfl) rfl ?_
    refine f_s [] rfl rfl ?_
    refine f_goto rfl ?_
    exact K _ hI2
theorem g_c21 {xs : List Int32} {i : Int} (i1 : 0 ≤ i) (i2 : i ≤ 400) {z1 z2 z3 z4 : Int} (hz1 : xs[(i + 1).toNat]? = some (Int32.ofInt z1)) (rz1 : -2147483648 ≤ z1 ∧ z1 ≤ 2147483647) (hz2 : xs[(i + 2).toNat]? = some (Int32.ofInt z2)) (rz2 : -2147483648 ≤ z2 ∧ z2 ≤ 2147483647) (hz3 : xs[(i + 3).toNat]? = some (Int32.ofInt z3)) (rz3 : -2147483648 ≤ z3 ∧ z3 ≤ 2147483647) (hz4 : xs[(i + 4).toNat]? = some (Int32.ofInt z4)) (rz4 : -2147483648 ≤ z4 ∧ z4 ≤ 2147483647) {hc : ev_H} {L : ev_L} {Q : Option Value → ev_H → Prop} (hI : LInv hc) (hL : f_L L [(0, .retAddr 0), (1, .ref 0), (2, .ref 55), (3, fi (i))]) (K : ∀ hc2, LInv hc2 → x_W (some xs) (2, 0, 4, 1, 0, 9, 330, 600000, 7302250, ev_t202) 978 L [] hc2 72 1053 Q) : x_W (some xs) (2, 0, 4, 1, 0, 9, 330, 600000, 7302250, ev_t202) 721 L [] hc 72 1053 Q := by
  obtain ⟨gs0, q0⟩ := g_0 hI.1
  refine f_aln 1 rfl hL rfl ?_
  refine g_alr 0 rfl hL rfl ?_
  refine f_iln 3 rfl hL rfl ?_
  refine f_s [fi (1), fi (i), .retAddr 0, .ref 0] rfl rfl ?_
  refine f_iadd rfl ?_
  refine g_sia rfl (by omega) (by omega) hz1 ?_
  refine g_alr 0 rfl hL rfl ?_
  refine f_iln 3 rfl hL rfl ?_
  refine f_s [fi (2), fi (i), .retAddr 0, fi (z1), .ref 0] rfl rfl ?_
  refine f_iadd rfl ?_
  refine g_sia rfl (by omega) (by omega) hz2 ?_
  refine g_alr 0 rfl hL rfl ?_
  refine f_iln 3 rfl hL rfl ?_
  refine f_s [fi (3), fi (i), .retAddr 0, fi (z2), fi (z1), .ref 0] rfl rfl ?_
  refine f_iadd rfl ?_
  refine g_sia rfl (by omega) (by omega) hz3 ?_
  refine g_alr 0 rfl hL rfl ?_
  refine f_iln 3 rfl hL rfl ?_
  refine f_s [fi (4), fi (i), .retAddr 0, fi (z3), fi (z2), fi (z1), .ref 0] rfl rfl ?_
  refine f_iadd rfl ?_
  refine g_sia rfl (by omega) (by omega) hz4 ?_
  obtain ⟨r1, hc1, fs1, r2, hc2, e1, hM1, q55, e2, hM2, hI2⟩ := g_op (RC := ev_r177) (RM := ev_r181) rfl rfl yc177_0 yc181_0 (by decide) hI (asC := [.ref 0, fi (z1), fi (z2), fi (z3), fi (z4)]) (asM := [.ref 55, fi (z1), fi (z2), fi (z3), fi (z4)]) (f_args_c f_rAr (f_args_c f_rAi (f_args_c f_rAi (f_args_c f_rAi (f_args_c f_rAi f_args_n))))) (f_args_c f_rAr (f_args_c f_rAi (f_args_c f_rAi (f_args_c f_rAi (f_args_c f_rAi f_args_n)))))
  obtain ⟨w1, rfl⟩ := f_reti (show y_ret (some (0, _)) r1 from e1)
  obtain ⟨w2, rfl⟩ := f_reti (show y_ret (some (0, _)) r2 from e2)
  refine f_k1 hM1 rfl rfl rfl (f_ar_v q0 rfl) rfl ?_
  refine f_s [] rfl rfl ?_
  refine f_aln 2 rfl hL rfl ?_
  refine g_alr 0 rfl hL rfl ?_
  refine f_iln 3 rfl hL rfl ?_
  refine f_s [fi (1), fi (i), .retAddr 0, .ref 55] rfl rfl ?_
  refine f_iadd rfl ?_
  refine g_sia rfl (by omega) (by omega) hz1 ?_
  refine g_alr 0 rfl hL rfl ?_
  refine f_iln 3 rfl hL rfl ?_
  refine f_s [fi (2), fi (i), .retAddr 0, fi (z1), .ref 55] rfl rfl ?_
  refine f_iadd rfl ?_
  refine g_sia rfl (by omega) (by omega) hz2 ?_
  refine g_alr 0 rfl hL rfl ?_
  refine f_iln 3 rfl hL rfl ?_
  refine f_s [fi (3), fi (i), .retAddr 0, fi (z2), fi (z1), .ref 55] rfl rfl ?_
  refine f_iadd rfl ?_
  refine g_sia rfl (by omega) (by omega) hz3 ?_
  refine g_alr 0 rfl hL rfl ?_
  refine f_iln 3 rfl hL rfl ?_
  refine f_s [fi (4), fi (i), .retAddr 0, fi (z3), fi (z2), fi (z1), .ref 55] rfl rfl ?_
  refine f_iadd rfl ?_
  refine g_sia rfl (by omega) (by omega) hz4 ?_
  refine f_k1 hM2 rfl rfl rfl (f_ar_v q55 rfl) rfl ?_
  refine f_s [] rfl rfl ?_
  refine f_goto rfl ?_
  exact K _ hI2
theorem g_c22 {xs : List Int32} {i : Int} (i1 : 0 ≤ i) (i2 : i ≤ 400) {z1 z2 z3 z4 : Int} (hz1 : xs[(i + 1).toNat]? = some (Int32.ofInt z1)) (rz1 : -2147483648 ≤ z1 ∧ z1 ≤ 2147483647) (hz2 : xs[(i + 2).toNat]? = some (Int32.ofInt z2)) (rz2 : -2147483648 ≤ z2 ∧ z2 ≤ 2147483647) (hz3 : xs[(i + 3).toNat]? = some (Int32.ofInt z3)) (rz3 : -2147483648 ≤ z3 ∧ z3 ≤ 2147483647) (hz4 : xs[(i + 4).toNat]? = some (Int32.ofInt z4)) (rz4 : -2147483648 ≤ z4 ∧ z4 ≤ 2147483647) {hc : ev_H} {L : ev_L} {Q : Option Value → ev_H → Prop} (hI : LInv hc) (hL : f_L L [(0, .retAddr 0), (1, .ref 0), (2, .ref 55), (3, fi (i))]) (K : ∀ hc2, LInv hc2 → x_W (some xs) (2, 0, 4, 1, 0, 9, 330, 600000, 7302250, ev_t202) 978 L [] hc2 72 1053 Q) : x_W (some xs) (2, 0, 4, 1, 0, 9, 330, 600000, 7302250, ev_t202) 774 L [] hc 72 1053 Q := by
  obtain ⟨gs0, q0⟩ := g_0 hI.1
  refine f_aln 1 rfl hL rfl ?_
  refine g_alr 0 rfl hL rfl ?_
  refine f_iln 3 rfl hL rfl ?_
  refine f_s [fi (1), fi (i), .retAddr 0, .ref 0] rfl rfl ?_
  refine f_iadd rfl ?_
  refine g_sia rfl (by omega) (by omega) hz1 ?_
  refine g_alr 0 rfl hL rfl ?_
  refine f_iln 3 rfl hL rfl ?_
  refine f_s [fi (2), fi (i), .retAddr 0, fi (z1), .ref 0] rfl rfl ?_
  refine f_iadd rfl ?_
  refine g_sia rfl (by omega) (by omega) hz2 ?_
  refine g_alr 0 rfl hL rfl ?_
  refine f_iln 3 rfl hL rfl ?_
  refine f_s [fi (3), fi (i), .retAddr 0, fi (z2), fi (z1), .ref 0] rfl rfl ?_
  refine f_iadd rfl ?_
  refine g_sia rfl (by omega) (by omega) hz3 ?_
  refine f_if rfl rz3 (fun cz => ?_) (fun cz => ?_)
  · have cz : (z3 : Int) = (0 : Int) := cz
    refine f_s [fi (0), fi (z2), fi (z1), .ref 0] rfl rfl ?_
    obtain ⟨r1, hc1, fs1, r2, hc2, e1, hM1, q55, e2, hM2, hI2⟩ := g_op (RC := ev_r183) (RM := ev_r184) rfl rfl yc183_0 yc184_0 (by decide) hI (asC := [.ref 0, fi (z1), fi (z2), fi (0)]) (asM := [.ref 55, fi (z1), fi (z2), fi (0)]) (f_args_c f_rAr (f_args_c f_rAi (f_args_c f_rAi (f_args_c (f_rA (by decide) (by decide) (by decide) (by decide)) f_args_n)))) (f_args_c f_rAr (f_args_c f_rAi (f_args_c f_rAi (f_args_c (f_rA (by decide) (by decide) (by decide) (by decide)) f_args_n))))
    obtain ⟨w1, rfl⟩ := f_reti (show y_ret (some (0, _)) r1 from e1)
    obtain ⟨w2, rfl⟩ := f_reti (show y_ret (some (0, _)) r2 from e2)
    refine f_k1 hM1 rfl rfl rfl (f_ar_v q0 rfl) rfl ?_
    refine f_s [] rfl rfl ?_
    refine f_aln 2 rfl hL rfl ?_
    refine g_alr 0 rfl hL rfl ?_
    refine f_iln 3 rfl hL rfl ?_
    refine f_s [fi (1), fi (i), .retAddr 0, .ref 55] rfl rfl ?_
    refine f_iadd rfl ?_
    refine g_sia rfl (by omega) (by omega) hz1 ?_
    refine g_alr 0 rfl hL rfl ?_
    refine f_iln 3 rfl hL rfl ?_
    refine f_s [fi (2), fi (i), .retAddr 0, fi (z1), .ref 55] rfl rfl ?_
    refine f_iadd rfl ?_
    refine g_sia rfl (by omega) (by omega) hz2 ?_
    refine g_alr 0 rfl hL rfl ?_
    refine f_iln 3 rfl hL rfl ?_
    refine f_s [fi (3), fi (i), .retAddr 0, fi (z2), fi (z1), .ref 55] rfl rfl ?_
    refine f_iadd rfl ?_
    refine g_sia rfl (by omega) (by omega) hz3 ?_
    refine f_if rfl rz3 (fun cy => ?_) (fun c => absurd cz c)
    have cy : (z3 : Int) = (0 : Int) := cy
    refine f_s [fi (0), fi (z2), fi (z1), .ref 55] rfl rfl ?_
    refine f_k1 hM2 rfl rfl rfl (f_ar_v q55 rfl) rfl ?_
    refine f_s [] rfl rfl ?_
    refine f_goto rfl ?_
    exact K _ hI2
  · have cz : ¬ ((z3 : Int) = (0 : Int)) := cz
    refine f_s [fi (1), fi (z2), fi (z1), .ref 0] rfl rfl ?_
    refine f_goto rfl ?_
    obtain ⟨r1, hc1, fs1, r2, hc2, e1, hM1, q55, e2, hM2, hI2⟩ := g_op (RC := ev_r183) (RM := ev_r184) rfl rfl yc183_0 yc184_0 (by decide) hI (asC := [.ref 0, fi (z1), fi (z2), fi (1)]) (asM := [.ref 55, fi (z1), fi (z2), fi (1)]) (f_args_c f_rAr (f_args_c f_rAi (f_args_c f_rAi (f_args_c (f_rA (by decide) (by decide) (by decide) (by decide)) f_args_n)))) (f_args_c f_rAr (f_args_c f_rAi (f_args_c f_rAi (f_args_c (f_rA (by decide) (by decide) (by decide) (by decide)) f_args_n))))
    obtain ⟨w1, rfl⟩ := f_reti (show y_ret (some (0, _)) r1 from e1)
    obtain ⟨w2, rfl⟩ := f_reti (show y_ret (some (0, _)) r2 from e2)
    refine f_k1 hM1 rfl rfl rfl (f_ar_v q0 rfl) rfl ?_
    refine f_s [] rfl rfl ?_
    refine f_aln 2 rfl hL rfl ?_
    refine g_alr 0 rfl hL rfl ?_
    refine f_iln 3 rfl hL rfl ?_
    refine f_s [fi (1), fi (i), .retAddr 0, .ref 55] rfl rfl ?_
    refine f_iadd rfl ?_
    refine g_sia rfl (by omega) (by omega) hz1 ?_
    refine g_alr 0 rfl hL rfl ?_
    refine f_iln 3 rfl hL rfl ?_
    refine f_s [fi (2), fi (i), .retAddr 0, fi (z1), .ref 55] rfl rfl ?_
    refine f_iadd rfl ?_
    refine g_sia rfl (by omega) (by omega) hz2 ?_
    refine g_alr 0 rfl hL rfl ?_
    refine f_iln 3 rfl hL rfl ?_
    refine f_s [fi (3), fi (i), .retAddr 0, fi (z2), fi (z1), .ref 55] rfl rfl ?_
    refine f_iadd rfl ?_
    refine g_sia rfl (by omega) (by omega) hz3 ?_
    refine f_if rfl rz3 (fun c => absurd c cz) (fun cy => ?_)
    have cy : ¬ ((z3 : Int) = (0 : Int)) := cy
    refine f_s [fi (1), fi (z2), fi (z1), .ref 55] rfl rfl ?_
    refine f_goto rfl ?_
    refine f_k1 hM2 rfl rfl rfl (f_ar_v q55 rfl) rfl ?_
    refine f_s [] rfl rfl ?_
    refine f_goto rfl ?_
    exact K _ hI2
theorem g_c23 {xs : List Int32} {i : Int} (i1 : 0 ≤ i) (i2 : i ≤ 400) {z1 z2 z3 z4 : Int} (hz1 : xs[(i + 1).toNat]? = some (Int32.ofInt z1)) (rz1 : -2147483648 ≤ z1 ∧ z1 ≤ 2147483647) (hz2 : xs[(i + 2).toNat]? = some (Int32.ofInt z2)) (rz2 : -2147483648 ≤ z2 ∧ z2 ≤ 2147483647) (hz3 : xs[(i + 3).toNat]? = some (Int32.ofInt z3)) (rz3 : -2147483648 ≤ z3 ∧ z3 ≤ 2147483647) (hz4 : xs[(i + 4).toNat]? = some (Int32.ofInt z4)) (rz4 : -2147483648 ≤ z4 ∧ z4 ≤ 2147483647) {hc : ev_H} {L : ev_L} {Q : Option Value → ev_H → Prop} (hI : LInv hc) (hL : f_L L [(0, .retAddr 0), (1, .ref 0), (2, .ref 55), (3, fi (i))]) (K : ∀ hc2, LInv hc2 → x_W (some xs) (2, 0, 4, 1, 0, 9, 330, 600000, 7302250, ev_t202) 978 L [] hc2 72 1053 Q) : x_W (some xs) (2, 0, 4, 1, 0, 9, 330, 600000, 7302250, ev_t202) 833 L [] hc 72 1053 Q := by
  obtain ⟨gs0, q0⟩ := g_0 hI.1
  refine f_aln 1 rfl hL rfl ?_
  refine g_alr 0 rfl hL rfl ?_
  refine f_iln 3 rfl hL rfl ?_
  refine f_s [fi (1), fi (i), .retAddr 0, .ref 0] rfl rfl ?_
  refine f_iadd rfl ?_
  refine g_sia rfl (by omega) (by omega) hz1 ?_
  refine f_i2l rfl rz1 ?_
  refine f_bipush (n := 32) rfl (by decide) ?_
  refine f_s [.long (Int64.ofInt (z1) <<< ((Int32.ofInt 32).toInt64 &&& 63)), .ref 0] rfl rfl ?_
  refine g_alr 0 rfl hL rfl ?_
  refine f_iln 3 rfl hL rfl ?_
  refine f_s [fi (2), fi (i), .retAddr 0, .long (Int64.ofInt (z1) <<< ((Int32.ofInt 32).toInt64 &&& 63)), .ref 0] rfl rfl ?_
  refine f_iadd rfl ?_
  refine g_sia rfl (by omega) (by omega) hz2 ?_
  refine f_i2l rfl rz2 ?_
  refine f_ldc2 (4294967295) rfl rfl ?_
  refine f_s [.long (Int64.ofInt (z2) &&& Int64.ofInt (4294967295)), .long (Int64.ofInt (z1) <<< ((Int32.ofInt 32).toInt64 &&& 63)), .ref 0] rfl rfl ?_
  refine f_s [.long (Int64.ofInt (z1) <<< ((Int32.ofInt 32).toInt64 &&& 63) ||| Int64.ofInt (z2) &&& Int64.ofInt (4294967295)), .ref 0] rfl rfl ?_
  obtain ⟨r1, hc1, fs1, r2, hc2, e1, hM1, q55, e2, hM2, hI2⟩ := g_op (RC := ev_r185) (RM := ev_r186) rfl rfl yc185_0 yc186_0 (by decide) hI (asC := [.ref 0, .long (Int64.ofInt (z1) <<< ((Int32.ofInt 32).toInt64 &&& 63) ||| Int64.ofInt (z2) &&& Int64.ofInt (4294967295))]) (asM := [.ref 55, .long (Int64.ofInt (z1) <<< ((Int32.ofInt 32).toInt64 &&& 63) ||| Int64.ofInt (z2) &&& Int64.ofInt (4294967295))]) (f_args_c f_rAr (f_args_c f_rAl f_args_n)) (f_args_c f_rAr (f_args_c f_rAl f_args_n))
  obtain ⟨w1, rfl⟩ := f_retl (show y_ret (some (1, _)) r1 from e1)
  obtain ⟨w2, rfl⟩ := f_retl (show y_ret (some (1, _)) r2 from e2)
  refine f_k1 hM1 rfl rfl rfl (f_ar_v q0 rfl) rfl ?_
  refine f_s [] rfl rfl ?_
  refine f_aln 2 rfl hL rfl ?_
  refine g_alr 0 rfl hL rfl ?_
  refine f_iln 3 rfl hL rfl ?_
  refine f_s [fi (1), fi (i), .retAddr 0, .ref 55] rfl rfl ?_
  refine f_iadd rfl ?_
  refine g_sia rfl (by omega) (by omega) hz1 ?_
  refine f_i2l rfl rz1 ?_
  refine f_bipush (n := 32) rfl (by decide) ?_
  refine f_s [.long (Int64.ofInt (z1) <<< ((Int32.ofInt 32).toInt64 &&& 63)), .ref 55] rfl rfl ?_
  refine g_alr 0 rfl hL rfl ?_
  refine f_iln 3 rfl hL rfl ?_
  refine f_s [fi (2), fi (i), .retAddr 0, .long (Int64.ofInt (z1) <<< ((Int32.ofInt 32).toInt64 &&& 63)), .ref 55] rfl rfl ?_
  refine f_iadd rfl ?_
  refine g_sia rfl (by omega) (by omega) hz2 ?_
  refine f_i2l rfl rz2 ?_
  refine f_ldc2 (4294967295) rfl rfl ?_
  refine f_s [.long (Int64.ofInt (z2) &&& Int64.ofInt (4294967295)), .long (Int64.ofInt (z1) <<< ((Int32.ofInt 32).toInt64 &&& 63)), .ref 55] rfl rfl ?_
  refine f_s [.long (Int64.ofInt (z1) <<< ((Int32.ofInt 32).toInt64 &&& 63) ||| Int64.ofInt (z2) &&& Int64.ofInt (4294967295)), .ref 55] rfl rfl ?_
  refine f_k1 hM2 rfl rfl rfl (f_ar_v q55 rfl) rfl ?_
  refine f_s [] rfl rfl ?_
  refine f_goto rfl ?_
  exact K _ hI2
theorem g_c24 {xs : List Int32} {i : Int} (i1 : 0 ≤ i) (i2 : i ≤ 400) {z1 z2 z3 z4 : Int} (hz1 : xs[(i + 1).toNat]? = some (Int32.ofInt z1)) (rz1 : -2147483648 ≤ z1 ∧ z1 ≤ 2147483647) (hz2 : xs[(i + 2).toNat]? = some (Int32.ofInt z2)) (rz2 : -2147483648 ≤ z2 ∧ z2 ≤ 2147483647) (hz3 : xs[(i + 3).toNat]? = some (Int32.ofInt z3)) (rz3 : -2147483648 ≤ z3 ∧ z3 ≤ 2147483647) (hz4 : xs[(i + 4).toNat]? = some (Int32.ofInt z4)) (rz4 : -2147483648 ≤ z4 ∧ z4 ≤ 2147483647) {hc : ev_H} {L : ev_L} {Q : Option Value → ev_H → Prop} (hI : LInv hc) (hL : f_L L [(0, .retAddr 0), (1, .ref 0), (2, .ref 55), (3, fi (i))]) (K : ∀ hc2, LInv hc2 → x_W (some xs) (2, 0, 4, 1, 0, 9, 330, 600000, 7302250, ev_t202) 978 L [] hc2 72 1053 Q) : x_W (some xs) (2, 0, 4, 1, 0, 9, 330, 600000, 7302250, ev_t202) 886 L [] hc 72 1053 Q := by
  obtain ⟨gs0, q0⟩ := g_0 hI.1
  refine f_aln 1 rfl hL rfl ?_
  refine g_alr 0 rfl hL rfl ?_
  refine f_iln 3 rfl hL rfl ?_
  refine f_s [fi (1), fi (i), .retAddr 0, .ref 0] rfl rfl ?_
  refine f_iadd rfl ?_
  refine g_sia rfl (by omega) (by omega) hz1 ?_
  obtain ⟨r1, hc1, fs1, r2, hc2, e1, hM1, q55, e2, hM2, hI2⟩ := g_op (RC := ev_r188) (RM := ev_r190) rfl rfl yc188_0 yc190_0 (by decide) hI (asC := [.ref 0, fi (z1)]) (asM := [.ref 55, fi (z1)]) (f_args_c f_rAr (f_args_c f_rAi f_args_n)) (f_args_c f_rAr (f_args_c f_rAi f_args_n))
  obtain ⟨w1, rfl⟩ := f_reti (show y_ret (some (0, _)) r1 from e1)
  obtain ⟨w2, rfl⟩ := f_reti (show y_ret (some (0, _)) r2 from e2)
  refine f_k1 hM1 rfl rfl rfl (f_ar_v q0 rfl) rfl ?_
  refine f_s [] rfl rfl ?_
  refine f_aln 2 rfl hL rfl ?_
  refine g_alr 0 rfl hL rfl ?_
  refine f_iln 3 rfl hL rfl ?_
  refine f_s [fi (1), fi (i), .retAddr 0, .ref 55] rfl rfl ?_
  refine f_iadd rfl ?_
  refine g_sia rfl (by omega) (by omega) hz1 ?_
  refine f_k1 hM2 rfl rfl rfl (f_ar_v q55 rfl) rfl ?_
  refine f_s [] rfl rfl ?_
  refine f_goto rfl ?_
  exact K _ hI2
theorem g_c25 {xs : List Int32} {i : Int} (i1 : 0 ≤ i) (i2 : i ≤ 400) {z1 z2 z3 z4 : Int} (hz1 : xs[(i + 1).toNat]? = some (Int32.ofInt z1)) (rz1 : -2147483648 ≤ z1 ∧ z1 ≤ 2147483647) (hz2 : xs[(i + 2).toNat]? = some (Int32.ofInt z2)) (rz2 : -2147483648 ≤ z2 ∧ z2 ≤ 2147483647) (hz3 : xs[(i + 3).toNat]? = some (Int32.ofInt z3)) (rz3 : -2147483648 ≤ z3 ∧ z3 ≤ 2147483647) (hz4 : xs[(i + 4).toNat]? = some (Int32.ofInt z4)) (rz4 : -2147483648 ≤ z4 ∧ z4 ≤ 2147483647) {hc : ev_H} {L : ev_L} {Q : Option Value → ev_H → Prop} (hI : LInv hc) (hL : f_L L [(0, .retAddr 0), (1, .ref 0), (2, .ref 55), (3, fi (i))]) (K : ∀ hc2, LInv hc2 → x_W (some xs) (2, 0, 4, 1, 0, 9, 330, 600000, 7302250, ev_t202) 978 L [] hc2 72 1053 Q) : x_W (some xs) (2, 0, 4, 1, 0, 9, 330, 600000, 7302250, ev_t202) 909 L [] hc 72 1053 Q := by
  obtain ⟨gs0, q0⟩ := g_0 hI.1
  refine f_aln 1 rfl hL rfl ?_
  refine g_alr 0 rfl hL rfl ?_
  refine f_iln 3 rfl hL rfl ?_
  refine f_s [fi (1), fi (i), .retAddr 0, .ref 0] rfl rfl ?_
  refine f_iadd rfl ?_
  refine g_sia rfl (by omega) (by omega) hz1 ?_
  obtain ⟨rr, hc1, fs1, hc2, rr0, hM1, q55, hM2, i2, t2, u1, u2⟩ := SI_kp hI.1 hI.2.2.2.2.1 (x := z1) rz1
  have hI2 : LInv hc2 := ⟨i2, TR_keep (g_tw hI.1).1.2 ((g_dis_ok (by decide) u1).tr (g_dis_ok (by decide) u2)) hI.2.1, NR_keep ((g_dis_ok (by decide) u1).tr (g_dis_ok (by decide) u2)) hI.2.2.1, CR_keep ((g_dis_ok (by decide) u1).tr (g_dis_ok (by decide) u2)) hI.2.2.2.1, t2, CLR_keep ((g_dis_ok (by decide) u1).tr (g_dis_ok (by decide) u2)) hI.2.2.2.2.2⟩
  refine f_k1 hM1 rfl rfl rfl (f_ar_v q0 rfl) rfl ?_
  refine f_s [] rfl rfl ?_
  refine f_aln 2 rfl hL rfl ?_
  refine g_alr 0 rfl hL rfl ?_
  refine f_iln 3 rfl hL rfl ?_
  refine f_s [fi (1), fi (i), .retAddr 0, .ref 55] rfl rfl ?_
  refine f_iadd rfl ?_
  refine g_sia rfl (by omega) (by omega) hz1 ?_
  refine f_k1 hM2 rfl rfl rfl (f_ar_v q55 rfl) rfl ?_
  refine f_s [] rfl rfl ?_
  refine f_goto rfl ?_
  exact K _ hI2
theorem g_c26 {xs : List Int32} {i : Int} (i1 : 0 ≤ i) (i2 : i ≤ 400) {z1 z2 z3 z4 : Int} (hz1 : xs[(i + 1).toNat]? = some (Int32.ofInt z1)) (rz1 : -2147483648 ≤ z1 ∧ z1 ≤ 2147483647) (hz2 : xs[(i + 2).toNat]? = some (Int32.ofInt z2)) (rz2 : -2147483648 ≤ z2 ∧ z2 ≤ 2147483647) (hz3 : xs[(i + 3).toNat]? = some (Int32.ofInt z3)) (rz3 : -2147483648 ≤ z3 ∧ z3 ≤ 2147483647) (hz4 : xs[(i + 4).toNat]? = some (Int32.ofInt z4)) (rz4 : -2147483648 ≤ z4 ∧ z4 ≤ 2147483647) {hc : ev_H} {L : ev_L} {Q : Option Value → ev_H → Prop} (hI : LInv hc) (hL : f_L L [(0, .retAddr 0), (1, .ref 0), (2, .ref 55), (3, fi (i))]) (K : ∀ hc2, LInv hc2 → x_W (some xs) (2, 0, 4, 1, 0, 9, 330, 600000, 7302250, ev_t202) 978 L [] hc2 72 1053 Q) : x_W (some xs) (2, 0, 4, 1, 0, 9, 330, 600000, 7302250, ev_t202) 932 L [] hc 72 1053 Q := by
  obtain ⟨gs0, q0⟩ := g_0 hI.1
  refine f_aln 1 rfl hL rfl ?_
  refine g_alr 0 rfl hL rfl ?_
  refine f_iln 3 rfl hL rfl ?_
  refine f_s [fi (1), fi (i), .retAddr 0, .ref 0] rfl rfl ?_
  refine f_iadd rfl ?_
  refine g_sia rfl (by omega) (by omega) hz1 ?_
  obtain ⟨rr, hc1, fs1, hc2, rr0, hM1, q55, hM2, i2, t2, u1, u2⟩ := SI_again hI.1 hI.2.2.2.2.1 (x := z1) rz1
  have hI2 : LInv hc2 := ⟨i2, TR_keep (g_tw hI.1).1.2 ((g_dis_ok (by decide) u1).tr (g_dis_ok (by decide) u2)) hI.2.1, NR_keep ((g_dis_ok (by decide) u1).tr (g_dis_ok (by decide) u2)) hI.2.2.1, CR_keep ((g_dis_ok (by decide) u1).tr (g_dis_ok (by decide) u2)) hI.2.2.2.1, t2, CLR_keep ((g_dis_ok (by decide) u1).tr (g_dis_ok (by decide) u2)) hI.2.2.2.2.2⟩
  refine f_k1 hM1 rfl rfl rfl (f_ar_v q0 rfl) rfl ?_
  refine f_s [] rfl rfl ?_
  refine f_aln 2 rfl hL rfl ?_
  refine g_alr 0 rfl hL rfl ?_
  refine f_iln 3 rfl hL rfl ?_
  refine f_s [fi (1), fi (i), .retAddr 0, .ref 55] rfl rfl ?_
  refine f_iadd rfl ?_
  refine g_sia rfl (by omega) (by omega) hz1 ?_
  refine f_k1 hM2 rfl rfl rfl (f_ar_v q55 rfl) rfl ?_
  refine f_s [] rfl rfl ?_
  refine f_goto rfl ?_
  exact K _ hI2
theorem g_c27 {xs : List Int32} {i : Int} (i1 : 0 ≤ i) (i2 : i ≤ 400) {z1 z2 z3 z4 : Int} (hz1 : xs[(i + 1).toNat]? = some (Int32.ofInt z1)) (rz1 : -2147483648 ≤ z1 ∧ z1 ≤ 2147483647) (hz2 : xs[(i + 2).toNat]? = some (Int32.ofInt z2)) (rz2 : -2147483648 ≤ z2 ∧ z2 ≤ 2147483647) (hz3 : xs[(i + 3).toNat]? = some (Int32.ofInt z3)) (rz3 : -2147483648 ≤ z3 ∧ z3 ≤ 2147483647) (hz4 : xs[(i + 4).toNat]? = some (Int32.ofInt z4)) (rz4 : -2147483648 ≤ z4 ∧ z4 ≤ 2147483647) {hc : ev_H} {L : ev_L} {Q : Option Value → ev_H → Prop} (hI : LInv hc) (hL : f_L L [(0, .retAddr 0), (1, .ref 0), (2, .ref 55), (3, fi (i))]) (K : ∀ hc2, LInv hc2 → x_W (some xs) (2, 0, 4, 1, 0, 9, 330, 600000, 7302250, ev_t202) 978 L [] hc2 72 1053 Q) : x_W (some xs) (2, 0, 4, 1, 0, 9, 330, 600000, 7302250, ev_t202) 955 L [] hc 72 1053 Q := by
  obtain ⟨gs0, q0⟩ := g_0 hI.1
  refine f_aln 1 rfl hL rfl ?_
  refine g_alr 0 rfl hL rfl ?_
  refine f_iln 3 rfl hL rfl ?_
  refine f_s [fi (1), fi (i), .retAddr 0, .ref 0] rfl rfl ?_
  refine f_iadd rfl ?_
  refine g_sia rfl (by omega) (by omega) hz1 ?_
  obtain ⟨rr, hc1, fs1, hc2, rr0, hM1, q55, hM2, i2, t2, u1, u2⟩ := SI_count hI.1 hI.2.1 hI.2.2.2.1 hI.2.2.2.2.1 (x := z1) rz1
  have hI2 : LInv hc2 := ⟨i2, TR_keep (g_tw hI.1).1.2 ((g_dis_ok (by decide) u1).tr (g_dis_ok (by decide) u2)) hI.2.1, NR_keep ((g_dis_ok (by decide) u1).tr (g_dis_ok (by decide) u2)) hI.2.2.1, CR_keep ((g_dis_ok (by decide) u1).tr (g_dis_ok (by decide) u2)) hI.2.2.2.1, t2, CLR_keep ((g_dis_ok (by decide) u1).tr (g_dis_ok (by decide) u2)) hI.2.2.2.2.2⟩
  refine f_k1 hM1 rfl rfl rfl (f_ar_v q0 rfl) rfl ?_
  refine f_s [] rfl rfl ?_
  refine f_aln 2 rfl hL rfl ?_
  refine g_alr 0 rfl hL rfl ?_
  refine f_iln 3 rfl hL rfl ?_
  refine f_s [fi (1), fi (i), .retAddr 0, .ref 55] rfl rfl ?_
  refine f_iadd rfl ?_
  refine g_sia rfl (by omega) (by omega) hz1 ?_
  refine f_k1 hM2 rfl rfl rfl (f_ar_v q55 rfl) rfl ?_
  refine f_s [] rfl rfl ?_
  refine f_goto rfl ?_
  exact K _ hI2
set_option maxHeartbeats 2000000 in
set_option maxRecDepth 100000 in
theorem g_loop {xs : List Int32} (hlen : xs.length ≤ 320) : ∀ (n : Nat) (i : Int) (hc : ev_H) (L : ev_L), 0 ≤ i → i ≤ xs.length → ((xs.length : Int) - i).toNat ≤ n → LInv hc → f_L L [(0, .retAddr 0), (1, .ref 0), (2, .ref 55), (3, fi (i))] → x_W (some xs) (2, 0, 4, 1, 0, 9, 330, 600000, 7302250, ev_t202) 18 L [] hc 72 1053 (fun r _ => r = some (.int 1)) := by
  intro n
  induction n with
  | zero =>
    intro i hc L i1 i2 hn hI hL
    refine f_iln 3 rfl hL rfl ?_
    refine g_alr 0 rfl hL rfl ?_
    refine g_slen rfl rfl ?_
    refine f_s [fi (5), fi ((xs.length : Int)), fi (i)] rfl rfl ?_
    refine f_isub rfl ?_
    refine f_ic rfl (by omega) (by omega) (fun c0 => ?_) (fun c => absurd (show (xs.length : Int) - 5 < i by omega) c)
    have c0 : (((xs.length : Int)) - 5 : Int) < (i : Int) := c0
    refine f_s [fi (1)] rfl rfl ?_
    exact f_ret2 rfl (Or.inr rfl) rfl
  | succ n ih =>
    intro i hc L i1 i2 hn hI hL
    refine f_iln 3 rfl hL rfl ?_
    refine g_alr 0 rfl hL rfl ?_
    refine g_slen rfl rfl ?_
    refine f_s [fi (5), fi ((xs.length : Int)), fi (i)] rfl rfl ?_
    refine f_isub rfl ?_
    refine f_ic rfl (by omega) (by omega) (fun c0 => ?_) (fun c0 => ?_)
    · have c0 : (((xs.length : Int)) - 5 : Int) < (i : Int) := c0
      refine f_s [fi (1)] rfl rfl ?_
      exact f_ret2 rfl (Or.inr rfl) rfl
    · have c0 : ¬ ((((xs.length : Int)) - 5 : Int) < (i : Int)) := c0
      have win : ∀ k : Int, 0 ≤ k → k ≤ 4 → ∃ z : Int, xs[(i + k).toNat]? = some (Int32.ofInt z) ∧ (-2147483648 ≤ z ∧ z ≤ 2147483647) := fun k k1 k2 => by
        have hl : (i + k).toNat < xs.length := by omega
        exact ⟨(xs[(i + k).toNat]).toInt, by rw [Int32.ofInt_toInt]; exact List.getElem?_eq_getElem hl, f_i32 _⟩
      obtain ⟨z0, hz0, rz0⟩ := win 0 (by decide) (by decide)
      obtain ⟨z1, hz1, rz1⟩ := win 1 (by decide) (by decide)
      obtain ⟨z2, hz2, rz2⟩ := win 2 (by decide) (by decide)
      obtain ⟨z3, hz3, rz3⟩ := win 3 (by decide) (by decide)
      obtain ⟨z4, hz4, rz4⟩ := win 4 (by decide) (by decide)
      rw [Int.add_zero] at hz0
      refine g_alr 0 rfl hL rfl ?_
      refine f_iln 3 rfl hL rfl ?_
      refine g_sia rfl i1 (by omega) hz0 ?_
      refine f_bipush (n := 31) rfl (by decide) ?_
      obtain ⟨d, d1, d2, hd⟩ := g_and31 z0
      refine f_s [fi d] rfl (by show some [Value.int (Int32.ofInt z0 &&& Int32.ofInt 31)] = _; rw [hd]) ?_
      have K : ∀ hc2, LInv hc2 → x_W (some xs) (2, 0, 4, 1, 0, 9, 330, 600000, 7302250, ev_t202) 978 L [] hc2 72 1053 (fun r _ => r = some (.int 1)) := fun hc2 hI2 => by
        refine f_inc 3 [(3, fi (i + 5)), (0, .retAddr 0), (1, .ref 0), (2, .ref 55)] rfl (by decide) hL rfl rfl (fun L1 hL1 => ?_)
        refine f_goto rfl ?_
        exact ih (i + 5) hc2 _ (by omega) (by omega) (by omega) hI2 (hL1.sel [1, 2, 3, 0] rfl)
      have hcases : d = 0 ∨ d = 1 ∨ d = 2 ∨ d = 3 ∨ d = 4 ∨ d = 5 ∨ d = 6 ∨ d = 7 ∨ d = 8 ∨ d = 9 ∨ d = 10 ∨ d = 11 ∨ d = 12 ∨ d = 13 ∨ d = 14 ∨ d = 15 ∨ d = 16 ∨ d = 17 ∨ d = 18 ∨ d = 19 ∨ d = 20 ∨ d = 21 ∨ d = 22 ∨ d = 23 ∨ d = 24 ∨ d = 25 ∨ d = 26 ∨ d = 27 ∨ d = 28 ∨ d = 29 ∨ d = 30 ∨ d = 31 := by omega
      rcases hcases with rfl | rfl | rfl | rfl | rfl | rfl | rfl | rfl | rfl | rfl | rfl | rfl | rfl | rfl | rfl | rfl | rfl | rfl | rfl | rfl | rfl | rfl | rfl | rfl | rfl | rfl | rfl | rfl | rfl | rfl | rfl | rfl
      · exact x_W_j (pc' := 160) (st' := []) rfl rfl (g_c0 i1 (by omega) hz1 rz1 hz2 rz2 hz3 rz3 hz4 rz4 hI hL K)
      · exact x_W_j (pc' := 183) (st' := []) rfl rfl (g_c1 i1 (by omega) hz1 rz1 hz2 rz2 hz3 rz3 hz4 rz4 hI hL K)
      · exact x_W_j (pc' := 196) (st' := []) rfl rfl (g_c2 i1 (by omega) hz1 rz1 hz2 rz2 hz3 rz3 hz4 rz4 hI hL K)
      · exact x_W_j (pc' := 209) (st' := []) rfl rfl (g_c3 i1 (by omega) hz1 rz1 hz2 rz2 hz3 rz3 hz4 rz4 hI hL K)
      · exact x_W_j (pc' := 222) (st' := []) rfl rfl (g_c4 i1 (by omega) hz1 rz1 hz2 rz2 hz3 rz3 hz4 rz4 hI hL K)
      · exact x_W_j (pc' := 255) (st' := []) rfl rfl (g_c5 i1 (by omega) hz1 rz1 hz2 rz2 hz3 rz3 hz4 rz4 hI hL K)
      · exact x_W_j (pc' := 288) (st' := []) rfl rfl (g_c6 i1 (by omega) hz1 rz1 hz2 rz2 hz3 rz3 hz4 rz4 hI hL K)
      · exact x_W_j (pc' := 321) (st' := []) rfl rfl (g_c7 i1 (by omega) hz1 rz1 hz2 rz2 hz3 rz3 hz4 rz4 hI hL K)
      · exact x_W_j (pc' := 344) (st' := []) rfl rfl (g_c8 i1 (by omega) hz1 rz1 hz2 rz2 hz3 rz3 hz4 rz4 hI hL K)
      · exact x_W_j (pc' := 357) (st' := []) rfl rfl (g_c9 i1 (by omega) hz1 rz1 hz2 rz2 hz3 rz3 hz4 rz4 hI hL K)
      · exact x_W_j (pc' := 380) (st' := []) rfl rfl (g_c10 i1 (by omega) hz1 rz1 hz2 rz2 hz3 rz3 hz4 rz4 hI hL K)
      · exact x_W_j (pc' := 393) (st' := []) rfl rfl (g_c11 i1 (by omega) hz1 rz1 hz2 rz2 hz3 rz3 hz4 rz4 hI hL K)
      · exact x_W_j (pc' := 442) (st' := []) rfl rfl (g_c12 i1 (by omega) hz1 rz1 hz2 rz2 hz3 rz3 hz4 rz4 hI hL K)
      · exact x_W_j (pc' := 475) (st' := []) rfl rfl (g_c13 i1 (by omega) hz1 rz1 hz2 rz2 hz3 rz3 hz4 rz4 hI hL K)
      · exact x_W_j (pc' := 488) (st' := []) rfl rfl (g_c14 i1 (by omega) hz1 rz1 hz2 rz2 hz3 rz3 hz4 rz4 hI hL K)
      · exact x_W_j (pc' := 527) (st' := []) rfl rfl (g_c15 i1 (by omega) hz1 rz1 hz2 rz2 hz3 rz3 hz4 rz4 hI hL K)
      · exact x_W_j (pc' := 560) (st' := []) rfl rfl (g_c16 i1 (by omega) hz1 rz1 hz2 rz2 hz3 rz3 hz4 rz4 hI hL K)
      · exact x_W_j (pc' := 593) (st' := []) rfl rfl (g_c17 i1 (by omega) hz1 rz1 hz2 rz2 hz3 rz3 hz4 rz4 hI hL K)
      · exact x_W_j (pc' := 626) (st' := []) rfl rfl (g_c18 i1 (by omega) hz1 rz1 hz2 rz2 hz3 rz3 hz4 rz4 hI hL K)
      · exact x_W_j (pc' := 639) (st' := []) rfl rfl (g_c19 i1 (by omega) hz1 rz1 hz2 rz2 hz3 rz3 hz4 rz4 hI hL K)
      · exact x_W_j (pc' := 662) (st' := []) rfl rfl (g_c20 i1 (by omega) hz1 rz1 hz2 rz2 hz3 rz3 hz4 rz4 hI hL K)
      · exact x_W_j (pc' := 721) (st' := []) rfl rfl (g_c21 i1 (by omega) hz1 rz1 hz2 rz2 hz3 rz3 hz4 rz4 hI hL K)
      · exact x_W_j (pc' := 774) (st' := []) rfl rfl (g_c22 i1 (by omega) hz1 rz1 hz2 rz2 hz3 rz3 hz4 rz4 hI hL K)
      · exact x_W_j (pc' := 833) (st' := []) rfl rfl (g_c23 i1 (by omega) hz1 rz1 hz2 rz2 hz3 rz3 hz4 rz4 hI hL K)
      · exact x_W_j (pc' := 886) (st' := []) rfl rfl (g_c24 i1 (by omega) hz1 rz1 hz2 rz2 hz3 rz3 hz4 rz4 hI hL K)
      · exact x_W_j (pc' := 909) (st' := []) rfl rfl (g_c25 i1 (by omega) hz1 rz1 hz2 rz2 hz3 rz3 hz4 rz4 hI hL K)
      · exact x_W_j (pc' := 932) (st' := []) rfl rfl (g_c26 i1 (by omega) hz1 rz1 hz2 rz2 hz3 rz3 hz4 rz4 hI hL K)
      · exact x_W_j (pc' := 955) (st' := []) rfl rfl (g_c27 i1 (by omega) hz1 rz1 hz2 rz2 hz3 rz3 hz4 rz4 hI hL K)
      · exact x_W_j (pc' := 978) (st' := []) rfl rfl (K hc hI)
      · exact x_W_j (pc' := 978) (st' := []) rfl rfl (K hc hI)
      · exact x_W_j (pc' := 978) (st' := []) rfl rfl (K hc hI)
      · exact x_W_j (pc' := 978) (st' := []) rfl rfl (K hc hI)

/-! the law's calls, one by one (wip/whole/gen/law2.py) -/
set_option maxHeartbeats 8000000 in
set_option maxRecDepth 100000 in
theorem law_letter {p : Program} {l : Launch} {e : Env} {s : State} {m : MethodId} {below : List Frame} {meth : Method} {c : Code} {D : va_G} {cI cB : ClassId} {ad : Nat → Nat} {b L : Nat} {xs : Nat → Int32} (C0 : lw_At p s m meth c b L xs) (hKN : KN D cI cB s) (hA : adOk ad (fun q : Nat => s.heap.size ≤ q)) {i : Nat} {V : VT} (hR : RelV V) {H : Heap} {locs : List Loc} (hP : wP D cI cB ad V H) (hS : va_S (fun q : Nat => s.heap.size ≤ q) s.heap H locs) {ls : Array Slot} (hl : lv_has ls 4 [(0, .ref b), (1, .ref (ad 0)), (2, .ref (ad 48)), (3, .int (nI i))]) (v1 : vp_in (nI i + 1) L) (v2 : vp_in (nI i + 2) L) (kk : ∀ (V' : VT) (H' : Heap) (locs' : List Loc), RelV V' → wP D cI cB ad V' H' → va_S (fun q : Nat => s.heap.size ≤ q) s.heap H' locs' → W p l e room_1 s m #[Value.ref b] below meth c H' locs' 54 767 (lw_Z below #[Value.ref b] s) (F0 m 733 ls [])) : W p l e room_1 s m #[Value.ref b] below meth c H locs 54 767 (lw_Z below #[Value.ref b] s) (F0 m 148 ls []) := by
  obtain ⟨hx, hb, hr, hml, hown, hts0, hX, hbl, hlocks, hgv⟩ := C0
  have hts : ∀ w ∈ wsL_law, w.before #[Value.ref b] s = true := fun w h => hts0 w (wsL_law_in w h)
  have hK := hKN.1
  have hbA : ¬ (fun q : Nat => s.heap.size ≤ q) b := Nat.not_le.mpr hbl
  refine lv_aload_n hx hb dL_law_148 rfl (lv_at hl 1 rfl) ?_
  refine lv_aload_n hx hb dL_law_149 rfl (lv_at hl 0 rfl) ?_
  refine lv_iload_n hx hb dL_law_150 rfl (lv_at hl 3 rfl) ?_
  refine lv_iconst (v := 1) hx hb dL_law_151 (by decide) ?_
  refine lv_iadd hx hb dL_law_152 ?_
  refine va_sld hx hb hX hbl hbA hS v1 dL_law_153 ?_
  refine lv_aload_n hx hb dL_law_154 rfl (lv_at hl 0 rfl) ?_
  refine lv_iload_n hx hb dL_law_155 rfl (lv_at hl 3 rfl) ?_
  refine lv_iconst (v := 2) hx hb dL_law_156 (by decide) ?_
  refine lv_iadd hx hb dL_law_157 ?_
  refine va_sld hx hb hX hbl hbA hS v2 dL_law_158 ?_
  obtain ⟨hp7, hp8, hEq, hR2⟩ := sim_letter V (xs (nI i + 1).toNatClampNeg) (xs (nI i + 2).toNatClampNeg) hR
  refine k_VWi (nL := 4) (As := [.int (xs (nI i + 1).toNatClampNeg), .int (xs (nI i + 2).toNatClampNeg)]) (rest := []) (q := 0) ⟨hx, hb, hml, hown, hts⟩ hKN hP hS (m_X7_letter l D cI cB ad hA FU V (xs (nI i + 1).toNatClampNeg) (xs (nI i + 2).toNatClampNeg) hp7) (cwV 2 hts gL_law_X7_letter rfl rfl rfl (by decide +kernel) ⟨(Nat.le_of_ble_eq_true rfl), (Nat.le_of_ble_eq_true rfl)⟩) (c_preV hP hKN (q := 0) (ci := 5) (fs := [.ref (ad 6), .ref (ad 13), .ref (ad 4), .ref (ad 2), .ref (ad 1), .int (V 0 0)]) (by decide) (ce_tb ad cI cB (V 0)) rfl rfl) rfl hl.1 rfl (Nat.le_of_ble_eq_true rfl) dL_law_159 ⟨(Nat.le_of_ble_eq_true rfl), (Nat.le_of_ble_eq_true rfl)⟩ (fun H locs hP hS => ?_)
  refine lv_aload_n hx hb dL_law_162 rfl (lv_at hl 2 rfl) ?_
  refine lv_aload_n hx hb dL_law_163 rfl (lv_at hl 0 rfl) ?_
  refine lv_iload_n hx hb dL_law_164 rfl (lv_at hl 3 rfl) ?_
  refine lv_iconst (v := 1) hx hb dL_law_165 (by decide) ?_
  refine lv_iadd hx hb dL_law_166 ?_
  refine va_sld hx hb hX hbl hbA hS v1 dL_law_167 ?_
  refine lv_aload_n hx hb dL_law_168 rfl (lv_at hl 0 rfl) ?_
  refine lv_iload_n hx hb dL_law_169 rfl (lv_at hl 3 rfl) ?_
  refine lv_iconst (v := 2) hx hb dL_law_170 (by decide) ?_
  refine lv_iadd hx hb dL_law_171 ?_
  refine va_sld hx hb hX hbl hbA hS v2 dL_law_172 ?_
  refine k_VWi (nL := 4) (As := [.int (xs (nI i + 1).toNatClampNeg), .int (xs (nI i + 2).toNatClampNeg)]) (rest := [.int (f_X7_letter FU V (xs (nI i + 1).toNatClampNeg) (xs (nI i + 2).toNatClampNeg)).1]) (q := 48) ⟨hx, hb, hml, hown, hts⟩ hKN hP hS (m_X8_letter l D cI cB ad hA FU ((f_X7_letter FU V (xs (nI i + 1).toNatClampNeg) (xs (nI i + 2).toNatClampNeg)).2) (xs (nI i + 1).toNatClampNeg) (xs (nI i + 2).toNatClampNeg) hp8) (cwV 2 hts gL_law_X8_letter rfl rfl rfl (by decide +kernel) ⟨(Nat.le_of_ble_eq_true rfl), (Nat.le_of_ble_eq_true rfl)⟩) (c_preV hP hKN (q := 48) (ci := 6) (fs := [.ref (ad 49), .ref (ad 50), .ref (ad 51), .int ((((f_X7_letter FU V (xs (nI i + 1).toNatClampNeg) (xs (nI i + 2).toNatClampNeg)).2) 48) 0), .ref (ad 52), .int ((((f_X7_letter FU V (xs (nI i + 1).toNatClampNeg) (xs (nI i + 2).toNatClampNeg)).2) 48) 1), .ref (ad 53), .int ((((f_X7_letter FU V (xs (nI i + 1).toNatClampNeg) (xs (nI i + 2).toNatClampNeg)).2) 48) 2), .int ((((f_X7_letter FU V (xs (nI i + 1).toNatClampNeg) (xs (nI i + 2).toNatClampNeg)).2) 48) 3), .int ((((f_X7_letter FU V (xs (nI i + 1).toNatClampNeg) (xs (nI i + 2).toNatClampNeg)).2) 48) 4), .int ((((f_X7_letter FU V (xs (nI i + 1).toNatClampNeg) (xs (nI i + 2).toNatClampNeg)).2) 48) 5), .int ((((f_X7_letter FU V (xs (nI i + 1).toNatClampNeg) (xs (nI i + 2).toNatClampNeg)).2) 48) 6), .int ((((f_X7_letter FU V (xs (nI i + 1).toNatClampNeg) (xs (nI i + 2).toNatClampNeg)).2) 48) 7)]) (by decide) (ce_md ad cI cB (((f_X7_letter FU V (xs (nI i + 1).toNatClampNeg) (xs (nI i + 2).toNatClampNeg)).2) 48)) rfl rfl) rfl hl.1 rfl (Nat.le_of_ble_eq_true rfl) dL_law_173 ⟨(Nat.le_of_ble_eq_true rfl), (Nat.le_of_ble_eq_true rfl)⟩ (fun H locs hP hS => ?_)
  refine lv_icmp_eq (tgt := 733) hx hb dL_law_176 (by decide) (fun _ => ?_) (fun hc => absurd hEq hc)
  exact kk _ H locs hR2 hP hS
set_option maxHeartbeats 8000000 in
set_option maxRecDepth 100000 in
theorem law_sign {p : Program} {l : Launch} {e : Env} {s : State} {m : MethodId} {below : List Frame} {meth : Method} {c : Code} {D : va_G} {cI cB : ClassId} {ad : Nat → Nat} {b L : Nat} {xs : Nat → Int32} (C0 : lw_At p s m meth c b L xs) (hKN : KN D cI cB s) (hA : adOk ad (fun q : Nat => s.heap.size ≤ q)) {i : Nat} {V : VT} (hR : RelV V) {H : Heap} {locs : List Loc} (hP : wP D cI cB ad V H) (hS : va_S (fun q : Nat => s.heap.size ≤ q) s.heap H locs) {ls : Array Slot} (hl : lv_has ls 4 [(0, .ref b), (1, .ref (ad 0)), (2, .ref (ad 48)), (3, .int (nI i))]) (v1 : vp_in (nI i + 1) L) (v2 : vp_in (nI i + 2) L) (kk : ∀ (V' : VT) (H' : Heap) (locs' : List Loc), RelV V' → wP D cI cB ad V' H' → va_S (fun q : Nat => s.heap.size ≤ q) s.heap H' locs' → W p l e room_1 s m #[Value.ref b] below meth c H' locs' 54 767 (lw_Z below #[Value.ref b] s) (F0 m 733 ls [])) : W p l e room_1 s m #[Value.ref b] below meth c H locs 54 767 (lw_Z below #[Value.ref b] s) (F0 m 181 ls []) := by
  obtain ⟨hx, hb, hr, hml, hown, hts0, hX, hbl, hlocks, hgv⟩ := C0
  have hts : ∀ w ∈ wsL_law, w.before #[Value.ref b] s = true := fun w h => hts0 w (wsL_law_in w h)
  have hK := hKN.1
  have hbA : ¬ (fun q : Nat => s.heap.size ≤ q) b := Nat.not_le.mpr hbl
  refine lv_aload_n hx hb dL_law_181 rfl (lv_at hl 1 rfl) ?_
  refine lv_aload_n hx hb dL_law_182 rfl (lv_at hl 0 rfl) ?_
  refine lv_iload_n hx hb dL_law_183 rfl (lv_at hl 3 rfl) ?_
  refine lv_iconst (v := 1) hx hb dL_law_184 (by decide) ?_
  refine lv_iadd hx hb dL_law_185 ?_
  refine va_sld hx hb hX hbl hbA hS v1 dL_law_186 ?_
  refine lv_aload_n hx hb dL_law_187 rfl (lv_at hl 0 rfl) ?_
  refine lv_iload_n hx hb dL_law_188 rfl (lv_at hl 3 rfl) ?_
  refine lv_iconst (v := 2) hx hb dL_law_189 (by decide) ?_
  refine lv_iadd hx hb dL_law_190 ?_
  refine va_sld hx hb hX hbl hbA hS v2 dL_law_191 ?_
  obtain ⟨hp7, hp8, hEq, hR2⟩ := sim_sign V (xs (nI i + 1).toNatClampNeg) (xs (nI i + 2).toNatClampNeg) hR
  refine k_VWi (nL := 4) (As := [.int (xs (nI i + 1).toNatClampNeg), .int (xs (nI i + 2).toNatClampNeg)]) (rest := []) (q := 0) ⟨hx, hb, hml, hown, hts⟩ hKN hP hS (m_X7_sign l D cI cB ad hA FU V (xs (nI i + 1).toNatClampNeg) (xs (nI i + 2).toNatClampNeg) hp7) (cwV 2 hts gL_law_X7_sign rfl rfl rfl (by decide +kernel) ⟨(Nat.le_of_ble_eq_true rfl), (Nat.le_of_ble_eq_true rfl)⟩) (c_preV hP hKN (q := 0) (ci := 5) (fs := [.ref (ad 6), .ref (ad 13), .ref (ad 4), .ref (ad 2), .ref (ad 1), .int (V 0 0)]) (by decide) (ce_tb ad cI cB (V 0)) rfl rfl) rfl hl.1 rfl (Nat.le_of_ble_eq_true rfl) dL_law_192 ⟨(Nat.le_of_ble_eq_true rfl), (Nat.le_of_ble_eq_true rfl)⟩ (fun H locs hP hS => ?_)
  refine lv_aload_n hx hb dL_law_195 rfl (lv_at hl 2 rfl) ?_
  refine lv_aload_n hx hb dL_law_196 rfl (lv_at hl 0 rfl) ?_
  refine lv_iload_n hx hb dL_law_197 rfl (lv_at hl 3 rfl) ?_
  refine lv_iconst (v := 1) hx hb dL_law_198 (by decide) ?_
  refine lv_iadd hx hb dL_law_199 ?_
  refine va_sld hx hb hX hbl hbA hS v1 dL_law_200 ?_
  refine lv_aload_n hx hb dL_law_201 rfl (lv_at hl 0 rfl) ?_
  refine lv_iload_n hx hb dL_law_202 rfl (lv_at hl 3 rfl) ?_
  refine lv_iconst (v := 2) hx hb dL_law_203 (by decide) ?_
  refine lv_iadd hx hb dL_law_204 ?_
  refine va_sld hx hb hX hbl hbA hS v2 dL_law_205 ?_
  refine k_VWi (nL := 4) (As := [.int (xs (nI i + 1).toNatClampNeg), .int (xs (nI i + 2).toNatClampNeg)]) (rest := [.int (f_X7_sign FU V (xs (nI i + 1).toNatClampNeg) (xs (nI i + 2).toNatClampNeg)).1]) (q := 48) ⟨hx, hb, hml, hown, hts⟩ hKN hP hS (m_X8_sign l D cI cB ad hA FU ((f_X7_sign FU V (xs (nI i + 1).toNatClampNeg) (xs (nI i + 2).toNatClampNeg)).2) (xs (nI i + 1).toNatClampNeg) (xs (nI i + 2).toNatClampNeg) hp8) (cwV 2 hts gL_law_X8_sign rfl rfl rfl (by decide +kernel) ⟨(Nat.le_of_ble_eq_true rfl), (Nat.le_of_ble_eq_true rfl)⟩) (c_preV hP hKN (q := 48) (ci := 6) (fs := [.ref (ad 49), .ref (ad 50), .ref (ad 51), .int ((((f_X7_sign FU V (xs (nI i + 1).toNatClampNeg) (xs (nI i + 2).toNatClampNeg)).2) 48) 0), .ref (ad 52), .int ((((f_X7_sign FU V (xs (nI i + 1).toNatClampNeg) (xs (nI i + 2).toNatClampNeg)).2) 48) 1), .ref (ad 53), .int ((((f_X7_sign FU V (xs (nI i + 1).toNatClampNeg) (xs (nI i + 2).toNatClampNeg)).2) 48) 2), .int ((((f_X7_sign FU V (xs (nI i + 1).toNatClampNeg) (xs (nI i + 2).toNatClampNeg)).2) 48) 3), .int ((((f_X7_sign FU V (xs (nI i + 1).toNatClampNeg) (xs (nI i + 2).toNatClampNeg)).2) 48) 4), .int ((((f_X7_sign FU V (xs (nI i + 1).toNatClampNeg) (xs (nI i + 2).toNatClampNeg)).2) 48) 5), .int ((((f_X7_sign FU V (xs (nI i + 1).toNatClampNeg) (xs (nI i + 2).toNatClampNeg)).2) 48) 6), .int ((((f_X7_sign FU V (xs (nI i + 1).toNatClampNeg) (xs (nI i + 2).toNatClampNeg)).2) 48) 7)]) (by decide) (ce_md ad cI cB (((f_X7_sign FU V (xs (nI i + 1).toNatClampNeg) (xs (nI i + 2).toNatClampNeg)).2) 48)) rfl rfl) rfl hl.1 rfl (Nat.le_of_ble_eq_true rfl) dL_law_206 ⟨(Nat.le_of_ble_eq_true rfl), (Nat.le_of_ble_eq_true rfl)⟩ (fun H locs hP hS => ?_)
  refine lv_icmp_eq (tgt := 733) hx hb dL_law_209 (by decide) (fun _ => ?_) (fun hc => absurd hEq hc)
  exact kk _ H locs hR2 hP hS
set_option maxHeartbeats 8000000 in
set_option maxRecDepth 100000 in
theorem law_compose {p : Program} {l : Launch} {e : Env} {s : State} {m : MethodId} {below : List Frame} {meth : Method} {c : Code} {D : va_G} {cI cB : ClassId} {ad : Nat → Nat} {b L : Nat} {xs : Nat → Int32} (C0 : lw_At p s m meth c b L xs) (hKN : KN D cI cB s) (hA : adOk ad (fun q : Nat => s.heap.size ≤ q)) {i : Nat} {V : VT} (hR : RelV V) {H : Heap} {locs : List Loc} (hP : wP D cI cB ad V H) (hS : va_S (fun q : Nat => s.heap.size ≤ q) s.heap H locs) {ls : Array Slot} (hl : lv_has ls 4 [(0, .ref b), (1, .ref (ad 0)), (2, .ref (ad 48)), (3, .int (nI i))]) (v1 : vp_in (nI i + 1) L) (kk : ∀ (V' : VT) (H' : Heap) (locs' : List Loc), RelV V' → wP D cI cB ad V' H' → va_S (fun q : Nat => s.heap.size ≤ q) s.heap H' locs' → W p l e room_1 s m #[Value.ref b] below meth c H' locs' 54 767 (lw_Z below #[Value.ref b] s) (F0 m 733 ls [])) : W p l e room_1 s m #[Value.ref b] below meth c H locs 54 767 (lw_Z below #[Value.ref b] s) (F0 m 214 ls []) := by
  obtain ⟨hx, hb, hr, hml, hown, hts0, hX, hbl, hlocks, hgv⟩ := C0
  have hts : ∀ w ∈ wsL_law, w.before #[Value.ref b] s = true := fun w h => hts0 w (wsL_law_in w h)
  have hK := hKN.1
  have hbA : ¬ (fun q : Nat => s.heap.size ≤ q) b := Nat.not_le.mpr hbl
  refine lv_aload_n hx hb dL_law_214 rfl (lv_at hl 1 rfl) ?_
  refine lv_aload_n hx hb dL_law_215 rfl (lv_at hl 0 rfl) ?_
  refine lv_iload_n hx hb dL_law_216 rfl (lv_at hl 3 rfl) ?_
  refine lv_iconst (v := 1) hx hb dL_law_217 (by decide) ?_
  refine lv_iadd hx hb dL_law_218 ?_
  refine va_sld hx hb hX hbl hbA hS v1 dL_law_219 ?_
  obtain ⟨hp7, hp8, hEq, hR2⟩ := sim_compose V (xs (nI i + 1).toNatClampNeg) hR
  refine k_VWi (nL := 4) (As := [.int (xs (nI i + 1).toNatClampNeg)]) (rest := []) (q := 0) ⟨hx, hb, hml, hown, hts⟩ hKN hP hS (m_X7_compose l D cI cB ad hA FU V (xs (nI i + 1).toNatClampNeg) hp7) (cwV 1 hts gL_law_X7_compose rfl rfl rfl (by decide +kernel) ⟨(Nat.le_of_ble_eq_true rfl), (Nat.le_of_ble_eq_true rfl)⟩) (c_preV hP hKN (q := 0) (ci := 5) (fs := [.ref (ad 6), .ref (ad 13), .ref (ad 4), .ref (ad 2), .ref (ad 1), .int (V 0 0)]) (by decide) (ce_tb ad cI cB (V 0)) rfl rfl) rfl hl.1 rfl (Nat.le_of_ble_eq_true rfl) dL_law_220 ⟨(Nat.le_of_ble_eq_true rfl), (Nat.le_of_ble_eq_true rfl)⟩ (fun H locs hP hS => ?_)
  refine lv_aload_n hx hb dL_law_223 rfl (lv_at hl 2 rfl) ?_
  refine lv_aload_n hx hb dL_law_224 rfl (lv_at hl 0 rfl) ?_
  refine lv_iload_n hx hb dL_law_225 rfl (lv_at hl 3 rfl) ?_
  refine lv_iconst (v := 1) hx hb dL_law_226 (by decide) ?_
  refine lv_iadd hx hb dL_law_227 ?_
  refine va_sld hx hb hX hbl hbA hS v1 dL_law_228 ?_
  refine k_VWi (nL := 4) (As := [.int (xs (nI i + 1).toNatClampNeg)]) (rest := [.int (f_X7_compose FU V (xs (nI i + 1).toNatClampNeg)).1]) (q := 48) ⟨hx, hb, hml, hown, hts⟩ hKN hP hS (m_X8_compose l D cI cB ad hA FU ((f_X7_compose FU V (xs (nI i + 1).toNatClampNeg)).2) (xs (nI i + 1).toNatClampNeg) hp8) (cwV 1 hts gL_law_X8_compose rfl rfl rfl (by decide +kernel) ⟨(Nat.le_of_ble_eq_true rfl), (Nat.le_of_ble_eq_true rfl)⟩) (c_preV hP hKN (q := 48) (ci := 6) (fs := [.ref (ad 49), .ref (ad 50), .ref (ad 51), .int ((((f_X7_compose FU V (xs (nI i + 1).toNatClampNeg)).2) 48) 0), .ref (ad 52), .int ((((f_X7_compose FU V (xs (nI i + 1).toNatClampNeg)).2) 48) 1), .ref (ad 53), .int ((((f_X7_compose FU V (xs (nI i + 1).toNatClampNeg)).2) 48) 2), .int ((((f_X7_compose FU V (xs (nI i + 1).toNatClampNeg)).2) 48) 3), .int ((((f_X7_compose FU V (xs (nI i + 1).toNatClampNeg)).2) 48) 4), .int ((((f_X7_compose FU V (xs (nI i + 1).toNatClampNeg)).2) 48) 5), .int ((((f_X7_compose FU V (xs (nI i + 1).toNatClampNeg)).2) 48) 6), .int ((((f_X7_compose FU V (xs (nI i + 1).toNatClampNeg)).2) 48) 7)]) (by decide) (ce_md ad cI cB (((f_X7_compose FU V (xs (nI i + 1).toNatClampNeg)).2) 48)) rfl rfl) rfl hl.1 rfl (Nat.le_of_ble_eq_true rfl) dL_law_229 ⟨(Nat.le_of_ble_eq_true rfl), (Nat.le_of_ble_eq_true rfl)⟩ (fun H locs hP hS => ?_)
  refine lv_icmp_eq (tgt := 733) hx hb dL_law_232 (by decide) (fun _ => ?_) (fun hc => absurd hEq hc)
  exact kk _ H locs hR2 hP hS
set_option maxHeartbeats 8000000 in
set_option maxRecDepth 100000 in
theorem law_composeAll {p : Program} {l : Launch} {e : Env} {s : State} {m : MethodId} {below : List Frame} {meth : Method} {c : Code} {D : va_G} {cI cB : ClassId} {ad : Nat → Nat} {b L : Nat} {xs : Nat → Int32} (C0 : lw_At p s m meth c b L xs) (hKN : KN D cI cB s) (hA : adOk ad (fun q : Nat => s.heap.size ≤ q)) {i : Nat} {V : VT} (hR : RelV V) {H : Heap} {locs : List Loc} (hP : wP D cI cB ad V H) (hS : va_S (fun q : Nat => s.heap.size ≤ q) s.heap H locs) {ls : Array Slot} (hl : lv_has ls 4 [(0, .ref b), (1, .ref (ad 0)), (2, .ref (ad 48)), (3, .int (nI i))])  (kk : ∀ (V' : VT) (H' : Heap) (locs' : List Loc), RelV V' → wP D cI cB ad V' H' → va_S (fun q : Nat => s.heap.size ≤ q) s.heap H' locs' → W p l e room_1 s m #[Value.ref b] below meth c H' locs' 54 767 (lw_Z below #[Value.ref b] s) (F0 m 733 ls [])) : W p l e room_1 s m #[Value.ref b] below meth c H locs 54 767 (lw_Z below #[Value.ref b] s) (F0 m 237 ls []) := by
  obtain ⟨hx, hb, hr, hml, hown, hts0, hX, hbl, hlocks, hgv⟩ := C0
  have hts : ∀ w ∈ wsL_law, w.before #[Value.ref b] s = true := fun w h => hts0 w (wsL_law_in w h)
  have hK := hKN.1
  have hbA : ¬ (fun q : Nat => s.heap.size ≤ q) b := Nat.not_le.mpr hbl
  refine lv_aload_n hx hb dL_law_237 rfl (lv_at hl 1 rfl) ?_
  obtain ⟨hp7, hp8, hEq, hR2⟩ := sim_composeAll V  hR
  refine k_VWi (nL := 4) (As := []) (rest := []) (q := 0) ⟨hx, hb, hml, hown, hts⟩ hKN hP hS (m_X7_composeAll l D cI cB ad hA FU V  hp7) (cwV 0 hts gL_law_X7_composeAll rfl rfl rfl (by decide +kernel) ⟨(Nat.le_of_ble_eq_true rfl), (Nat.le_of_ble_eq_true rfl)⟩) (c_preV hP hKN (q := 0) (ci := 5) (fs := [.ref (ad 6), .ref (ad 13), .ref (ad 4), .ref (ad 2), .ref (ad 1), .int (V 0 0)]) (by decide) (ce_tb ad cI cB (V 0)) rfl rfl) rfl hl.1 rfl (Nat.le_of_ble_eq_true rfl) dL_law_238 ⟨(Nat.le_of_ble_eq_true rfl), (Nat.le_of_ble_eq_true rfl)⟩ (fun H locs hP hS => ?_)
  refine lv_aload_n hx hb dL_law_241 rfl (lv_at hl 2 rfl) ?_
  refine k_VWi (nL := 4) (As := []) (rest := [.int (f_X7_composeAll FU V).1]) (q := 48) ⟨hx, hb, hml, hown, hts⟩ hKN hP hS (m_X8_composeAll l D cI cB ad hA FU ((f_X7_composeAll FU V).2)  hp8) (cwV 0 hts gL_law_X8_composeAll rfl rfl rfl (by decide +kernel) ⟨(Nat.le_of_ble_eq_true rfl), (Nat.le_of_ble_eq_true rfl)⟩) (c_preV hP hKN (q := 48) (ci := 6) (fs := [.ref (ad 49), .ref (ad 50), .ref (ad 51), .int ((((f_X7_composeAll FU V).2) 48) 0), .ref (ad 52), .int ((((f_X7_composeAll FU V).2) 48) 1), .ref (ad 53), .int ((((f_X7_composeAll FU V).2) 48) 2), .int ((((f_X7_composeAll FU V).2) 48) 3), .int ((((f_X7_composeAll FU V).2) 48) 4), .int ((((f_X7_composeAll FU V).2) 48) 5), .int ((((f_X7_composeAll FU V).2) 48) 6), .int ((((f_X7_composeAll FU V).2) 48) 7)]) (by decide) (ce_md ad cI cB (((f_X7_composeAll FU V).2) 48)) rfl rfl) rfl hl.1 rfl (Nat.le_of_ble_eq_true rfl) dL_law_242 ⟨(Nat.le_of_ble_eq_true rfl), (Nat.le_of_ble_eq_true rfl)⟩ (fun H locs hP hS => ?_)
  refine lv_icmp_eq (tgt := 733) hx hb dL_law_245 (by decide) (fun _ => ?_) (fun hc => absurd hEq hc)
  exact kk _ H locs hR2 hP hS
set_option maxHeartbeats 8000000 in
set_option maxRecDepth 100000 in
theorem law_paint {p : Program} {l : Launch} {e : Env} {s : State} {m : MethodId} {below : List Frame} {meth : Method} {c : Code} {D : va_G} {cI cB : ClassId} {ad : Nat → Nat} {b L : Nat} {xs : Nat → Int32} (C0 : lw_At p s m meth c b L xs) (hKN : KN D cI cB s) (hA : adOk ad (fun q : Nat => s.heap.size ≤ q)) {i : Nat} {V : VT} (hR : RelV V) {H : Heap} {locs : List Loc} (hP : wP D cI cB ad V H) (hS : va_S (fun q : Nat => s.heap.size ≤ q) s.heap H locs) {ls : Array Slot} (hl : lv_has ls 4 [(0, .ref b), (1, .ref (ad 0)), (2, .ref (ad 48)), (3, .int (nI i))]) (v1 : vp_in (nI i + 1) L) (kk : ∀ (V' : VT) (H' : Heap) (locs' : List Loc), RelV V' → wP D cI cB ad V' H' → va_S (fun q : Nat => s.heap.size ≤ q) s.heap H' locs' → W p l e room_1 s m #[Value.ref b] below meth c H' locs' 54 767 (lw_Z below #[Value.ref b] s) (F0 m 733 ls [])) : W p l e room_1 s m #[Value.ref b] below meth c H locs 54 767 (lw_Z below #[Value.ref b] s) (F0 m 250 ls []) := by
  obtain ⟨hx, hb, hr, hml, hown, hts0, hX, hbl, hlocks, hgv⟩ := C0
  have hts : ∀ w ∈ wsL_law, w.before #[Value.ref b] s = true := fun w h => hts0 w (wsL_law_in w h)
  have hK := hKN.1
  have hbA : ¬ (fun q : Nat => s.heap.size ≤ q) b := Nat.not_le.mpr hbl
  refine lv_aload_n hx hb dL_law_250 rfl (lv_at hl 1 rfl) ?_
  refine lv_aload_n hx hb dL_law_251 rfl (lv_at hl 0 rfl) ?_
  refine lv_iload_n hx hb dL_law_252 rfl (lv_at hl 3 rfl) ?_
  refine lv_iconst (v := 1) hx hb dL_law_253 (by decide) ?_
  refine lv_iadd hx hb dL_law_254 ?_
  refine va_sld hx hb hX hbl hbA hS v1 dL_law_255 ?_
  obtain ⟨hp7, hp8, hEq, hR2⟩ := sim_paint V (xs (nI i + 1).toNatClampNeg) hR
  refine k_VWi (nL := 4) (As := [.int (xs (nI i + 1).toNatClampNeg)]) (rest := []) (q := 0) ⟨hx, hb, hml, hown, hts⟩ hKN hP hS (m_X7_paint l D cI cB ad hA FU V (xs (nI i + 1).toNatClampNeg) hp7) (cwV 1 hts gL_law_X7_paint rfl rfl rfl (by decide +kernel) ⟨(Nat.le_of_ble_eq_true rfl), (Nat.le_of_ble_eq_true rfl)⟩) (c_preV hP hKN (q := 0) (ci := 5) (fs := [.ref (ad 6), .ref (ad 13), .ref (ad 4), .ref (ad 2), .ref (ad 1), .int (V 0 0)]) (by decide) (ce_tb ad cI cB (V 0)) rfl rfl) rfl hl.1 rfl (Nat.le_of_ble_eq_true rfl) dL_law_256 ⟨(Nat.le_of_ble_eq_true rfl), (Nat.le_of_ble_eq_true rfl)⟩ (fun H locs hP hS => ?_)
  refine lv_aload_n hx hb dL_law_259 rfl (lv_at hl 2 rfl) ?_
  refine lv_aload_n hx hb dL_law_260 rfl (lv_at hl 0 rfl) ?_
  refine lv_iload_n hx hb dL_law_261 rfl (lv_at hl 3 rfl) ?_
  refine lv_iconst (v := 1) hx hb dL_law_262 (by decide) ?_
  refine lv_iadd hx hb dL_law_263 ?_
  refine va_sld hx hb hX hbl hbA hS v1 dL_law_264 ?_
  refine k_VWi (nL := 4) (As := [.int (xs (nI i + 1).toNatClampNeg)]) (rest := [.int (f_X7_paint FU V (xs (nI i + 1).toNatClampNeg)).1]) (q := 48) ⟨hx, hb, hml, hown, hts⟩ hKN hP hS (m_X8_paint l D cI cB ad hA FU ((f_X7_paint FU V (xs (nI i + 1).toNatClampNeg)).2) (xs (nI i + 1).toNatClampNeg) hp8) (cwV 1 hts gL_law_X8_paint rfl rfl rfl (by decide +kernel) ⟨(Nat.le_of_ble_eq_true rfl), (Nat.le_of_ble_eq_true rfl)⟩) (c_preV hP hKN (q := 48) (ci := 6) (fs := [.ref (ad 49), .ref (ad 50), .ref (ad 51), .int ((((f_X7_paint FU V (xs (nI i + 1).toNatClampNeg)).2) 48) 0), .ref (ad 52), .int ((((f_X7_paint FU V (xs (nI i + 1).toNatClampNeg)).2) 48) 1), .ref (ad 53), .int ((((f_X7_paint FU V (xs (nI i + 1).toNatClampNeg)).2) 48) 2), .int ((((f_X7_paint FU V (xs (nI i + 1).toNatClampNeg)).2) 48) 3), .int ((((f_X7_paint FU V (xs (nI i + 1).toNatClampNeg)).2) 48) 4), .int ((((f_X7_paint FU V (xs (nI i + 1).toNatClampNeg)).2) 48) 5), .int ((((f_X7_paint FU V (xs (nI i + 1).toNatClampNeg)).2) 48) 6), .int ((((f_X7_paint FU V (xs (nI i + 1).toNatClampNeg)).2) 48) 7)]) (by decide) (ce_md ad cI cB (((f_X7_paint FU V (xs (nI i + 1).toNatClampNeg)).2) 48)) rfl rfl) rfl hl.1 rfl (Nat.le_of_ble_eq_true rfl) dL_law_265 ⟨(Nat.le_of_ble_eq_true rfl), (Nat.le_of_ble_eq_true rfl)⟩ (fun H locs hP hS => ?_)
  refine lv_icmp_eq (tgt := 733) hx hb dL_law_268 (by decide) (fun _ => ?_) (fun hc => absurd hEq hc)
  exact kk _ H locs hR2 hP hS
set_option maxHeartbeats 8000000 in
set_option maxRecDepth 100000 in
theorem law_gust {p : Program} {l : Launch} {e : Env} {s : State} {m : MethodId} {below : List Frame} {meth : Method} {c : Code} {D : va_G} {cI cB : ClassId} {ad : Nat → Nat} {b L : Nat} {xs : Nat → Int32} (C0 : lw_At p s m meth c b L xs) (hKN : KN D cI cB s) (hA : adOk ad (fun q : Nat => s.heap.size ≤ q)) {i : Nat} {V : VT} (hR : RelV V) {H : Heap} {locs : List Loc} (hP : wP D cI cB ad V H) (hS : va_S (fun q : Nat => s.heap.size ≤ q) s.heap H locs) {ls : Array Slot} (hl : lv_has ls 4 [(0, .ref b), (1, .ref (ad 0)), (2, .ref (ad 48)), (3, .int (nI i))]) (v1 : vp_in (nI i + 1) L) (kk : ∀ (V' : VT) (H' : Heap) (locs' : List Loc), RelV V' → wP D cI cB ad V' H' → va_S (fun q : Nat => s.heap.size ≤ q) s.heap H' locs' → W p l e room_1 s m #[Value.ref b] below meth c H' locs' 54 767 (lw_Z below #[Value.ref b] s) (F0 m 733 ls [])) : W p l e room_1 s m #[Value.ref b] below meth c H locs 54 767 (lw_Z below #[Value.ref b] s) (F0 m 273 ls []) := by
  obtain ⟨hx, hb, hr, hml, hown, hts0, hX, hbl, hlocks, hgv⟩ := C0
  have hts : ∀ w ∈ wsL_law, w.before #[Value.ref b] s = true := fun w h => hts0 w (wsL_law_in w h)
  have hK := hKN.1
  have hbA : ¬ (fun q : Nat => s.heap.size ≤ q) b := Nat.not_le.mpr hbl
  refine lv_aload_n hx hb dL_law_273 rfl (lv_at hl 1 rfl) ?_
  refine lv_aload_n hx hb dL_law_274 rfl (lv_at hl 0 rfl) ?_
  refine lv_iload_n hx hb dL_law_275 rfl (lv_at hl 3 rfl) ?_
  refine lv_iconst (v := 1) hx hb dL_law_276 (by decide) ?_
  refine lv_iadd hx hb dL_law_277 ?_
  refine va_sld hx hb hX hbl hbA hS v1 dL_law_278 ?_
  obtain ⟨hp7, hp8, hEq, hR2⟩ := sim_gust V (xs (nI i + 1).toNatClampNeg) hR
  refine k_VWi (nL := 4) (As := [.int (xs (nI i + 1).toNatClampNeg)]) (rest := []) (q := 0) ⟨hx, hb, hml, hown, hts⟩ hKN hP hS (m_X7_gust l D cI cB ad hA FU V (xs (nI i + 1).toNatClampNeg) hp7) (cwV 1 hts gL_law_X7_gust rfl rfl rfl (by decide +kernel) ⟨(Nat.le_of_ble_eq_true rfl), (Nat.le_of_ble_eq_true rfl)⟩) (c_preV hP hKN (q := 0) (ci := 5) (fs := [.ref (ad 6), .ref (ad 13), .ref (ad 4), .ref (ad 2), .ref (ad 1), .int (V 0 0)]) (by decide) (ce_tb ad cI cB (V 0)) rfl rfl) rfl hl.1 rfl (Nat.le_of_ble_eq_true rfl) dL_law_279 ⟨(Nat.le_of_ble_eq_true rfl), (Nat.le_of_ble_eq_true rfl)⟩ (fun H locs hP hS => ?_)
  refine lv_aload_n hx hb dL_law_282 rfl (lv_at hl 2 rfl) ?_
  refine lv_aload_n hx hb dL_law_283 rfl (lv_at hl 0 rfl) ?_
  refine lv_iload_n hx hb dL_law_284 rfl (lv_at hl 3 rfl) ?_
  refine lv_iconst (v := 1) hx hb dL_law_285 (by decide) ?_
  refine lv_iadd hx hb dL_law_286 ?_
  refine va_sld hx hb hX hbl hbA hS v1 dL_law_287 ?_
  refine k_VWi (nL := 4) (As := [.int (xs (nI i + 1).toNatClampNeg)]) (rest := [.int (f_X7_gust FU V (xs (nI i + 1).toNatClampNeg)).1]) (q := 48) ⟨hx, hb, hml, hown, hts⟩ hKN hP hS (m_X8_gust l D cI cB ad hA FU ((f_X7_gust FU V (xs (nI i + 1).toNatClampNeg)).2) (xs (nI i + 1).toNatClampNeg) hp8) (cwV 1 hts gL_law_X8_gust rfl rfl rfl (by decide +kernel) ⟨(Nat.le_of_ble_eq_true rfl), (Nat.le_of_ble_eq_true rfl)⟩) (c_preV hP hKN (q := 48) (ci := 6) (fs := [.ref (ad 49), .ref (ad 50), .ref (ad 51), .int ((((f_X7_gust FU V (xs (nI i + 1).toNatClampNeg)).2) 48) 0), .ref (ad 52), .int ((((f_X7_gust FU V (xs (nI i + 1).toNatClampNeg)).2) 48) 1), .ref (ad 53), .int ((((f_X7_gust FU V (xs (nI i + 1).toNatClampNeg)).2) 48) 2), .int ((((f_X7_gust FU V (xs (nI i + 1).toNatClampNeg)).2) 48) 3), .int ((((f_X7_gust FU V (xs (nI i + 1).toNatClampNeg)).2) 48) 4), .int ((((f_X7_gust FU V (xs (nI i + 1).toNatClampNeg)).2) 48) 5), .int ((((f_X7_gust FU V (xs (nI i + 1).toNatClampNeg)).2) 48) 6), .int ((((f_X7_gust FU V (xs (nI i + 1).toNatClampNeg)).2) 48) 7)]) (by decide) (ce_md ad cI cB (((f_X7_gust FU V (xs (nI i + 1).toNatClampNeg)).2) 48)) rfl rfl) rfl hl.1 rfl (Nat.le_of_ble_eq_true rfl) dL_law_288 ⟨(Nat.le_of_ble_eq_true rfl), (Nat.le_of_ble_eq_true rfl)⟩ (fun H locs hP hS => ?_)
  refine lv_icmp_eq (tgt := 733) hx hb dL_law_291 (by decide) (fun _ => ?_) (fun hc => absurd hEq hc)
  exact kk _ H locs hR2 hP hS
set_option maxHeartbeats 8000000 in
set_option maxRecDepth 100000 in
theorem law_oil {p : Program} {l : Launch} {e : Env} {s : State} {m : MethodId} {below : List Frame} {meth : Method} {c : Code} {D : va_G} {cI cB : ClassId} {ad : Nat → Nat} {b L : Nat} {xs : Nat → Int32} (C0 : lw_At p s m meth c b L xs) (hKN : KN D cI cB s) (hA : adOk ad (fun q : Nat => s.heap.size ≤ q)) {i : Nat} {V : VT} (hR : RelV V) {H : Heap} {locs : List Loc} (hP : wP D cI cB ad V H) (hS : va_S (fun q : Nat => s.heap.size ≤ q) s.heap H locs) {ls : Array Slot} (hl : lv_has ls 4 [(0, .ref b), (1, .ref (ad 0)), (2, .ref (ad 48)), (3, .int (nI i))]) (v1 : vp_in (nI i + 1) L) (kk : ∀ (V' : VT) (H' : Heap) (locs' : List Loc), RelV V' → wP D cI cB ad V' H' → va_S (fun q : Nat => s.heap.size ≤ q) s.heap H' locs' → W p l e room_1 s m #[Value.ref b] below meth c H' locs' 54 767 (lw_Z below #[Value.ref b] s) (F0 m 733 ls [])) : W p l e room_1 s m #[Value.ref b] below meth c H locs 54 767 (lw_Z below #[Value.ref b] s) (F0 m 296 ls []) := by
  obtain ⟨hx, hb, hr, hml, hown, hts0, hX, hbl, hlocks, hgv⟩ := C0
  have hts : ∀ w ∈ wsL_law, w.before #[Value.ref b] s = true := fun w h => hts0 w (wsL_law_in w h)
  have hK := hKN.1
  have hbA : ¬ (fun q : Nat => s.heap.size ≤ q) b := Nat.not_le.mpr hbl
  refine lv_aload_n hx hb dL_law_296 rfl (lv_at hl 1 rfl) ?_
  refine lv_aload_n hx hb dL_law_297 rfl (lv_at hl 0 rfl) ?_
  refine lv_iload_n hx hb dL_law_298 rfl (lv_at hl 3 rfl) ?_
  refine lv_iconst (v := 1) hx hb dL_law_299 (by decide) ?_
  refine lv_iadd hx hb dL_law_300 ?_
  refine va_sld hx hb hX hbl hbA hS v1 dL_law_301 ?_
  obtain ⟨hp7, hp8, hEq, hR2⟩ := sim_oil V (xs (nI i + 1).toNatClampNeg) hR
  refine k_VWi (nL := 4) (As := [.int (xs (nI i + 1).toNatClampNeg)]) (rest := []) (q := 0) ⟨hx, hb, hml, hown, hts⟩ hKN hP hS (m_X7_oil l D cI cB ad hA FU V (xs (nI i + 1).toNatClampNeg) hp7) (cwV 1 hts gL_law_X7_oil rfl rfl rfl (by decide +kernel) ⟨(Nat.le_of_ble_eq_true rfl), (Nat.le_of_ble_eq_true rfl)⟩) (c_preV hP hKN (q := 0) (ci := 5) (fs := [.ref (ad 6), .ref (ad 13), .ref (ad 4), .ref (ad 2), .ref (ad 1), .int (V 0 0)]) (by decide) (ce_tb ad cI cB (V 0)) rfl rfl) rfl hl.1 rfl (Nat.le_of_ble_eq_true rfl) dL_law_302 ⟨(Nat.le_of_ble_eq_true rfl), (Nat.le_of_ble_eq_true rfl)⟩ (fun H locs hP hS => ?_)
  refine lv_aload_n hx hb dL_law_305 rfl (lv_at hl 2 rfl) ?_
  refine lv_aload_n hx hb dL_law_306 rfl (lv_at hl 0 rfl) ?_
  refine lv_iload_n hx hb dL_law_307 rfl (lv_at hl 3 rfl) ?_
  refine lv_iconst (v := 1) hx hb dL_law_308 (by decide) ?_
  refine lv_iadd hx hb dL_law_309 ?_
  refine va_sld hx hb hX hbl hbA hS v1 dL_law_310 ?_
  refine k_VWi (nL := 4) (As := [.int (xs (nI i + 1).toNatClampNeg)]) (rest := [.int (f_X7_oil FU V (xs (nI i + 1).toNatClampNeg)).1]) (q := 48) ⟨hx, hb, hml, hown, hts⟩ hKN hP hS (m_X8_oil l D cI cB ad hA FU ((f_X7_oil FU V (xs (nI i + 1).toNatClampNeg)).2) (xs (nI i + 1).toNatClampNeg) hp8) (cwV 1 hts gL_law_X8_oil rfl rfl rfl (by decide +kernel) ⟨(Nat.le_of_ble_eq_true rfl), (Nat.le_of_ble_eq_true rfl)⟩) (c_preV hP hKN (q := 48) (ci := 6) (fs := [.ref (ad 49), .ref (ad 50), .ref (ad 51), .int ((((f_X7_oil FU V (xs (nI i + 1).toNatClampNeg)).2) 48) 0), .ref (ad 52), .int ((((f_X7_oil FU V (xs (nI i + 1).toNatClampNeg)).2) 48) 1), .ref (ad 53), .int ((((f_X7_oil FU V (xs (nI i + 1).toNatClampNeg)).2) 48) 2), .int ((((f_X7_oil FU V (xs (nI i + 1).toNatClampNeg)).2) 48) 3), .int ((((f_X7_oil FU V (xs (nI i + 1).toNatClampNeg)).2) 48) 4), .int ((((f_X7_oil FU V (xs (nI i + 1).toNatClampNeg)).2) 48) 5), .int ((((f_X7_oil FU V (xs (nI i + 1).toNatClampNeg)).2) 48) 6), .int ((((f_X7_oil FU V (xs (nI i + 1).toNatClampNeg)).2) 48) 7)]) (by decide) (ce_md ad cI cB (((f_X7_oil FU V (xs (nI i + 1).toNatClampNeg)).2) 48)) rfl rfl) rfl hl.1 rfl (Nat.le_of_ble_eq_true rfl) dL_law_311 ⟨(Nat.le_of_ble_eq_true rfl), (Nat.le_of_ble_eq_true rfl)⟩ (fun H locs hP hS => ?_)
  refine lv_icmp_eq (tgt := 733) hx hb dL_law_314 (by decide) (fun _ => ?_) (fun hc => absurd hEq hc)
  exact kk _ H locs hR2 hP hS
set_option maxHeartbeats 8000000 in
set_option maxRecDepth 100000 in
theorem law_pass {p : Program} {l : Launch} {e : Env} {s : State} {m : MethodId} {below : List Frame} {meth : Method} {c : Code} {D : va_G} {cI cB : ClassId} {ad : Nat → Nat} {b L : Nat} {xs : Nat → Int32} (C0 : lw_At p s m meth c b L xs) (hKN : KN D cI cB s) (hA : adOk ad (fun q : Nat => s.heap.size ≤ q)) {i : Nat} {V : VT} (hR : RelV V) {H : Heap} {locs : List Loc} (hP : wP D cI cB ad V H) (hS : va_S (fun q : Nat => s.heap.size ≤ q) s.heap H locs) {ls : Array Slot} (hl : lv_has ls 4 [(0, .ref b), (1, .ref (ad 0)), (2, .ref (ad 48)), (3, .int (nI i))]) (v1 : vp_in (nI i + 1) L) (kk : ∀ (V' : VT) (H' : Heap) (locs' : List Loc), RelV V' → wP D cI cB ad V' H' → va_S (fun q : Nat => s.heap.size ≤ q) s.heap H' locs' → W p l e room_1 s m #[Value.ref b] below meth c H' locs' 54 767 (lw_Z below #[Value.ref b] s) (F0 m 733 ls [])) : W p l e room_1 s m #[Value.ref b] below meth c H locs 54 767 (lw_Z below #[Value.ref b] s) (F0 m 319 ls []) := by
  obtain ⟨hx, hb, hr, hml, hown, hts0, hX, hbl, hlocks, hgv⟩ := C0
  have hts : ∀ w ∈ wsL_law, w.before #[Value.ref b] s = true := fun w h => hts0 w (wsL_law_in w h)
  have hK := hKN.1
  have hbA : ¬ (fun q : Nat => s.heap.size ≤ q) b := Nat.not_le.mpr hbl
  refine lv_aload_n hx hb dL_law_319 rfl (lv_at hl 1 rfl) ?_
  refine lv_aload_n hx hb dL_law_320 rfl (lv_at hl 0 rfl) ?_
  refine lv_iload_n hx hb dL_law_321 rfl (lv_at hl 3 rfl) ?_
  refine lv_iconst (v := 1) hx hb dL_law_322 (by decide) ?_
  refine lv_iadd hx hb dL_law_323 ?_
  refine va_sld hx hb hX hbl hbA hS v1 dL_law_324 ?_
  obtain ⟨hp7, hp8, hEq, hR2⟩ := sim_pass V (xs (nI i + 1).toNatClampNeg) hR
  refine k_VWi (nL := 4) (As := [.int (xs (nI i + 1).toNatClampNeg)]) (rest := []) (q := 0) ⟨hx, hb, hml, hown, hts⟩ hKN hP hS (m_X7_pass l D cI cB ad hA FU V (xs (nI i + 1).toNatClampNeg) hp7) (cwV 1 hts gL_law_X7_pass rfl rfl rfl (by decide +kernel) ⟨(Nat.le_of_ble_eq_true rfl), (Nat.le_of_ble_eq_true rfl)⟩) (c_preV hP hKN (q := 0) (ci := 5) (fs := [.ref (ad 6), .ref (ad 13), .ref (ad 4), .ref (ad 2), .ref (ad 1), .int (V 0 0)]) (by decide) (ce_tb ad cI cB (V 0)) rfl rfl) rfl hl.1 rfl (Nat.le_of_ble_eq_true rfl) dL_law_325 ⟨(Nat.le_of_ble_eq_true rfl), (Nat.le_of_ble_eq_true rfl)⟩ (fun H locs hP hS => ?_)
  refine lv_aload_n hx hb dL_law_328 rfl (lv_at hl 2 rfl) ?_
  refine lv_aload_n hx hb dL_law_329 rfl (lv_at hl 0 rfl) ?_
  refine lv_iload_n hx hb dL_law_330 rfl (lv_at hl 3 rfl) ?_
  refine lv_iconst (v := 1) hx hb dL_law_331 (by decide) ?_
  refine lv_iadd hx hb dL_law_332 ?_
  refine va_sld hx hb hX hbl hbA hS v1 dL_law_333 ?_
  refine k_VWi (nL := 4) (As := [.int (xs (nI i + 1).toNatClampNeg)]) (rest := [.int (f_X7_pass FU V (xs (nI i + 1).toNatClampNeg)).1]) (q := 48) ⟨hx, hb, hml, hown, hts⟩ hKN hP hS (m_X8_pass l D cI cB ad hA FU ((f_X7_pass FU V (xs (nI i + 1).toNatClampNeg)).2) (xs (nI i + 1).toNatClampNeg) hp8) (cwV 1 hts gL_law_X8_pass rfl rfl rfl (by decide +kernel) ⟨(Nat.le_of_ble_eq_true rfl), (Nat.le_of_ble_eq_true rfl)⟩) (c_preV hP hKN (q := 48) (ci := 6) (fs := [.ref (ad 49), .ref (ad 50), .ref (ad 51), .int ((((f_X7_pass FU V (xs (nI i + 1).toNatClampNeg)).2) 48) 0), .ref (ad 52), .int ((((f_X7_pass FU V (xs (nI i + 1).toNatClampNeg)).2) 48) 1), .ref (ad 53), .int ((((f_X7_pass FU V (xs (nI i + 1).toNatClampNeg)).2) 48) 2), .int ((((f_X7_pass FU V (xs (nI i + 1).toNatClampNeg)).2) 48) 3), .int ((((f_X7_pass FU V (xs (nI i + 1).toNatClampNeg)).2) 48) 4), .int ((((f_X7_pass FU V (xs (nI i + 1).toNatClampNeg)).2) 48) 5), .int ((((f_X7_pass FU V (xs (nI i + 1).toNatClampNeg)).2) 48) 6), .int ((((f_X7_pass FU V (xs (nI i + 1).toNatClampNeg)).2) 48) 7)]) (by decide) (ce_md ad cI cB (((f_X7_pass FU V (xs (nI i + 1).toNatClampNeg)).2) 48)) rfl rfl) rfl hl.1 rfl (Nat.le_of_ble_eq_true rfl) dL_law_334 ⟨(Nat.le_of_ble_eq_true rfl), (Nat.le_of_ble_eq_true rfl)⟩ (fun H locs hP hS => ?_)
  refine lv_icmp_eq (tgt := 733) hx hb dL_law_337 (by decide) (fun _ => ?_) (fun hc => absurd hEq hc)
  exact kk _ H locs hR2 hP hS
set_option maxHeartbeats 8000000 in
set_option maxRecDepth 100000 in
theorem law_set {p : Program} {l : Launch} {e : Env} {s : State} {m : MethodId} {below : List Frame} {meth : Method} {c : Code} {D : va_G} {cI cB : ClassId} {ad : Nat → Nat} {b L : Nat} {xs : Nat → Int32} (C0 : lw_At p s m meth c b L xs) (hKN : KN D cI cB s) (hA : adOk ad (fun q : Nat => s.heap.size ≤ q)) {i : Nat} {V : VT} (hR : RelV V) {H : Heap} {locs : List Loc} (hP : wP D cI cB ad V H) (hS : va_S (fun q : Nat => s.heap.size ≤ q) s.heap H locs) {ls : Array Slot} (hl : lv_has ls 4 [(0, .ref b), (1, .ref (ad 0)), (2, .ref (ad 48)), (3, .int (nI i))]) (v1 : vp_in (nI i + 1) L) (v2 : vp_in (nI i + 2) L) (kk : ∀ (V' : VT) (H' : Heap) (locs' : List Loc), RelV V' → wP D cI cB ad V' H' → va_S (fun q : Nat => s.heap.size ≤ q) s.heap H' locs' → W p l e room_1 s m #[Value.ref b] below meth c H' locs' 54 767 (lw_Z below #[Value.ref b] s) (F0 m 733 ls [])) : W p l e room_1 s m #[Value.ref b] below meth c H locs 54 767 (lw_Z below #[Value.ref b] s) (F0 m 342 ls []) := by
  obtain ⟨hx, hb, hr, hml, hown, hts0, hX, hbl, hlocks, hgv⟩ := C0
  have hts : ∀ w ∈ wsL_law, w.before #[Value.ref b] s = true := fun w h => hts0 w (wsL_law_in w h)
  have hK := hKN.1
  have hbA : ¬ (fun q : Nat => s.heap.size ≤ q) b := Nat.not_le.mpr hbl
  refine lv_aload_n hx hb dL_law_342 rfl (lv_at hl 1 rfl) ?_
  refine lv_aload_n hx hb dL_law_343 rfl (lv_at hl 0 rfl) ?_
  refine lv_iload_n hx hb dL_law_344 rfl (lv_at hl 3 rfl) ?_
  refine lv_iconst (v := 1) hx hb dL_law_345 (by decide) ?_
  refine lv_iadd hx hb dL_law_346 ?_
  refine va_sld hx hb hX hbl hbA hS v1 dL_law_347 ?_
  refine lv_aload_n hx hb dL_law_348 rfl (lv_at hl 0 rfl) ?_
  refine lv_iload_n hx hb dL_law_349 rfl (lv_at hl 3 rfl) ?_
  refine lv_iconst (v := 2) hx hb dL_law_350 (by decide) ?_
  refine lv_iadd hx hb dL_law_351 ?_
  refine va_sld hx hb hX hbl hbA hS v2 dL_law_352 ?_
  obtain ⟨hp7, hp8, hEq, hR2⟩ := sim_set V (xs (nI i + 1).toNatClampNeg) (xs (nI i + 2).toNatClampNeg) hR
  refine k_VWi (nL := 4) (As := [.int (xs (nI i + 1).toNatClampNeg), .int (xs (nI i + 2).toNatClampNeg)]) (rest := []) (q := 0) ⟨hx, hb, hml, hown, hts⟩ hKN hP hS (m_X7_set l D cI cB ad hA FU V (xs (nI i + 1).toNatClampNeg) (xs (nI i + 2).toNatClampNeg) hp7) (cwV 2 hts gL_law_X7_set rfl rfl rfl (by decide +kernel) ⟨(Nat.le_of_ble_eq_true rfl), (Nat.le_of_ble_eq_true rfl)⟩) (c_preV hP hKN (q := 0) (ci := 5) (fs := [.ref (ad 6), .ref (ad 13), .ref (ad 4), .ref (ad 2), .ref (ad 1), .int (V 0 0)]) (by decide) (ce_tb ad cI cB (V 0)) rfl rfl) rfl hl.1 rfl (Nat.le_of_ble_eq_true rfl) dL_law_353 ⟨(Nat.le_of_ble_eq_true rfl), (Nat.le_of_ble_eq_true rfl)⟩ (fun H locs hP hS => ?_)
  refine lv_aload_n hx hb dL_law_356 rfl (lv_at hl 2 rfl) ?_
  refine lv_aload_n hx hb dL_law_357 rfl (lv_at hl 0 rfl) ?_
  refine lv_iload_n hx hb dL_law_358 rfl (lv_at hl 3 rfl) ?_
  refine lv_iconst (v := 1) hx hb dL_law_359 (by decide) ?_
  refine lv_iadd hx hb dL_law_360 ?_
  refine va_sld hx hb hX hbl hbA hS v1 dL_law_361 ?_
  refine lv_aload_n hx hb dL_law_362 rfl (lv_at hl 0 rfl) ?_
  refine lv_iload_n hx hb dL_law_363 rfl (lv_at hl 3 rfl) ?_
  refine lv_iconst (v := 2) hx hb dL_law_364 (by decide) ?_
  refine lv_iadd hx hb dL_law_365 ?_
  refine va_sld hx hb hX hbl hbA hS v2 dL_law_366 ?_
  refine k_VWi (nL := 4) (As := [.int (xs (nI i + 1).toNatClampNeg), .int (xs (nI i + 2).toNatClampNeg)]) (rest := [.int (f_X7_set FU V (xs (nI i + 1).toNatClampNeg) (xs (nI i + 2).toNatClampNeg)).1]) (q := 48) ⟨hx, hb, hml, hown, hts⟩ hKN hP hS (m_X8_set l D cI cB ad hA FU ((f_X7_set FU V (xs (nI i + 1).toNatClampNeg) (xs (nI i + 2).toNatClampNeg)).2) (xs (nI i + 1).toNatClampNeg) (xs (nI i + 2).toNatClampNeg) hp8) (cwV 2 hts gL_law_X8_set rfl rfl rfl (by decide +kernel) ⟨(Nat.le_of_ble_eq_true rfl), (Nat.le_of_ble_eq_true rfl)⟩) (c_preV hP hKN (q := 48) (ci := 6) (fs := [.ref (ad 49), .ref (ad 50), .ref (ad 51), .int ((((f_X7_set FU V (xs (nI i + 1).toNatClampNeg) (xs (nI i + 2).toNatClampNeg)).2) 48) 0), .ref (ad 52), .int ((((f_X7_set FU V (xs (nI i + 1).toNatClampNeg) (xs (nI i + 2).toNatClampNeg)).2) 48) 1), .ref (ad 53), .int ((((f_X7_set FU V (xs (nI i + 1).toNatClampNeg) (xs (nI i + 2).toNatClampNeg)).2) 48) 2), .int ((((f_X7_set FU V (xs (nI i + 1).toNatClampNeg) (xs (nI i + 2).toNatClampNeg)).2) 48) 3), .int ((((f_X7_set FU V (xs (nI i + 1).toNatClampNeg) (xs (nI i + 2).toNatClampNeg)).2) 48) 4), .int ((((f_X7_set FU V (xs (nI i + 1).toNatClampNeg) (xs (nI i + 2).toNatClampNeg)).2) 48) 5), .int ((((f_X7_set FU V (xs (nI i + 1).toNatClampNeg) (xs (nI i + 2).toNatClampNeg)).2) 48) 6), .int ((((f_X7_set FU V (xs (nI i + 1).toNatClampNeg) (xs (nI i + 2).toNatClampNeg)).2) 48) 7)]) (by decide) (ce_md ad cI cB (((f_X7_set FU V (xs (nI i + 1).toNatClampNeg) (xs (nI i + 2).toNatClampNeg)).2) 48)) rfl rfl) rfl hl.1 rfl (Nat.le_of_ble_eq_true rfl) dL_law_367 ⟨(Nat.le_of_ble_eq_true rfl), (Nat.le_of_ble_eq_true rfl)⟩ (fun H locs hP hS => ?_)
  refine lv_icmp_eq (tgt := 733) hx hb dL_law_370 (by decide) (fun _ => ?_) (fun hc => absurd hEq hc)
  exact kk _ H locs hR2 hP hS
set_option maxHeartbeats 8000000 in
set_option maxRecDepth 100000 in
theorem law_letterOf {p : Program} {l : Launch} {e : Env} {s : State} {m : MethodId} {below : List Frame} {meth : Method} {c : Code} {D : va_G} {cI cB : ClassId} {ad : Nat → Nat} {b L : Nat} {xs : Nat → Int32} (C0 : lw_At p s m meth c b L xs) (hKN : KN D cI cB s) (hA : adOk ad (fun q : Nat => s.heap.size ≤ q)) {i : Nat} {V : VT} (hR : RelV V) {H : Heap} {locs : List Loc} (hP : wP D cI cB ad V H) (hS : va_S (fun q : Nat => s.heap.size ≤ q) s.heap H locs) {ls : Array Slot} (hl : lv_has ls 4 [(0, .ref b), (1, .ref (ad 0)), (2, .ref (ad 48)), (3, .int (nI i))]) (v1 : vp_in (nI i + 1) L) (v2 : vp_in (nI i + 2) L) (kk : ∀ (V' : VT) (H' : Heap) (locs' : List Loc), RelV V' → wP D cI cB ad V' H' → va_S (fun q : Nat => s.heap.size ≤ q) s.heap H' locs' → W p l e room_1 s m #[Value.ref b] below meth c H' locs' 54 767 (lw_Z below #[Value.ref b] s) (F0 m 733 ls [])) : W p l e room_1 s m #[Value.ref b] below meth c H locs 54 767 (lw_Z below #[Value.ref b] s) (F0 m 375 ls []) := by
  obtain ⟨hx, hb, hr, hml, hown, hts0, hX, hbl, hlocks, hgv⟩ := C0
  have hts : ∀ w ∈ wsL_law, w.before #[Value.ref b] s = true := fun w h => hts0 w (wsL_law_in w h)
  have hK := hKN.1
  have hbA : ¬ (fun q : Nat => s.heap.size ≤ q) b := Nat.not_le.mpr hbl
  refine lv_aload_n hx hb dL_law_375 rfl (lv_at hl 1 rfl) ?_
  refine lv_aload_n hx hb dL_law_376 rfl (lv_at hl 0 rfl) ?_
  refine lv_iload_n hx hb dL_law_377 rfl (lv_at hl 3 rfl) ?_
  refine lv_iconst (v := 1) hx hb dL_law_378 (by decide) ?_
  refine lv_iadd hx hb dL_law_379 ?_
  refine va_sld hx hb hX hbl hbA hS v1 dL_law_380 ?_
  refine lv_aload_n hx hb dL_law_381 rfl (lv_at hl 0 rfl) ?_
  refine lv_iload_n hx hb dL_law_382 rfl (lv_at hl 3 rfl) ?_
  refine lv_iconst (v := 2) hx hb dL_law_383 (by decide) ?_
  refine lv_iadd hx hb dL_law_384 ?_
  refine va_sld hx hb hX hbl hbA hS v2 dL_law_385 ?_
  obtain ⟨hp7, hp8, hEq, hR2⟩ := sim_letterOf V (xs (nI i + 1).toNatClampNeg) (xs (nI i + 2).toNatClampNeg) hR
  refine k_VR (nL := 4) (As := [.int (xs (nI i + 1).toNatClampNeg), .int (xs (nI i + 2).toNatClampNeg)]) (rest := []) (q := 0) ⟨hx, hb, hml, hown, hts⟩ hKN hP hS (m_X7_letterOf l D cI cB ad FU V (xs (nI i + 1).toNatClampNeg) (xs (nI i + 2).toNatClampNeg) hp7) (cwV 2 hts gL_law_X7_letterOf rfl rfl rfl (by decide +kernel) ⟨(Nat.le_of_ble_eq_true rfl), (Nat.le_of_ble_eq_true rfl)⟩) (c_preV hP hKN (q := 0) (ci := 5) (fs := [.ref (ad 6), .ref (ad 13), .ref (ad 4), .ref (ad 2), .ref (ad 1), .int (V 0 0)]) (by decide) (ce_tb ad cI cB (V 0)) rfl rfl) rfl hl.1 rfl (Nat.le_of_ble_eq_true rfl) dL_law_386 ⟨(Nat.le_of_ble_eq_true rfl), (Nat.le_of_ble_eq_true rfl)⟩ (fun H locs hP hS => ?_)
  refine lv_aload_n hx hb dL_law_389 rfl (lv_at hl 2 rfl) ?_
  refine lv_aload_n hx hb dL_law_390 rfl (lv_at hl 0 rfl) ?_
  refine lv_iload_n hx hb dL_law_391 rfl (lv_at hl 3 rfl) ?_
  refine lv_iconst (v := 1) hx hb dL_law_392 (by decide) ?_
  refine lv_iadd hx hb dL_law_393 ?_
  refine va_sld hx hb hX hbl hbA hS v1 dL_law_394 ?_
  refine lv_aload_n hx hb dL_law_395 rfl (lv_at hl 0 rfl) ?_
  refine lv_iload_n hx hb dL_law_396 rfl (lv_at hl 3 rfl) ?_
  refine lv_iconst (v := 2) hx hb dL_law_397 (by decide) ?_
  refine lv_iadd hx hb dL_law_398 ?_
  refine va_sld hx hb hX hbl hbA hS v2 dL_law_399 ?_
  refine k_VR (nL := 4) (As := [.int (xs (nI i + 1).toNatClampNeg), .int (xs (nI i + 2).toNatClampNeg)]) (rest := [.int (f_X7_letterOf FU V (xs (nI i + 1).toNatClampNeg) (xs (nI i + 2).toNatClampNeg))]) (q := 48) ⟨hx, hb, hml, hown, hts⟩ hKN hP hS (m_X8_letterOf l D cI cB ad FU V (xs (nI i + 1).toNatClampNeg) (xs (nI i + 2).toNatClampNeg) hp8) (cwV 2 hts gL_law_X8_letterOf rfl rfl rfl (by decide +kernel) ⟨(Nat.le_of_ble_eq_true rfl), (Nat.le_of_ble_eq_true rfl)⟩) (c_preV hP hKN (q := 48) (ci := 6) (fs := [.ref (ad 49), .ref (ad 50), .ref (ad 51), .int ((V 48) 0), .ref (ad 52), .int ((V 48) 1), .ref (ad 53), .int ((V 48) 2), .int ((V 48) 3), .int ((V 48) 4), .int ((V 48) 5), .int ((V 48) 6), .int ((V 48) 7)]) (by decide) (ce_md ad cI cB (V 48)) rfl rfl) rfl hl.1 rfl (Nat.le_of_ble_eq_true rfl) dL_law_400 ⟨(Nat.le_of_ble_eq_true rfl), (Nat.le_of_ble_eq_true rfl)⟩ (fun H locs hP hS => ?_)
  refine lv_icmp_eq (tgt := 733) hx hb dL_law_403 (by decide) (fun _ => ?_) (fun hc => absurd hEq hc)
  exact kk _ H locs hR2 hP hS
set_option maxHeartbeats 8000000 in
set_option maxRecDepth 100000 in
theorem law_placeOf {p : Program} {l : Launch} {e : Env} {s : State} {m : MethodId} {below : List Frame} {meth : Method} {c : Code} {D : va_G} {cI cB : ClassId} {ad : Nat → Nat} {b L : Nat} {xs : Nat → Int32} (C0 : lw_At p s m meth c b L xs) (hKN : KN D cI cB s) (hA : adOk ad (fun q : Nat => s.heap.size ≤ q)) {i : Nat} {V : VT} (hR : RelV V) {H : Heap} {locs : List Loc} (hP : wP D cI cB ad V H) (hS : va_S (fun q : Nat => s.heap.size ≤ q) s.heap H locs) {ls : Array Slot} (hl : lv_has ls 4 [(0, .ref b), (1, .ref (ad 0)), (2, .ref (ad 48)), (3, .int (nI i))]) (v1 : vp_in (nI i + 1) L) (v2 : vp_in (nI i + 2) L) (kk : ∀ (V' : VT) (H' : Heap) (locs' : List Loc), RelV V' → wP D cI cB ad V' H' → va_S (fun q : Nat => s.heap.size ≤ q) s.heap H' locs' → W p l e room_1 s m #[Value.ref b] below meth c H' locs' 54 767 (lw_Z below #[Value.ref b] s) (F0 m 733 ls [])) : W p l e room_1 s m #[Value.ref b] below meth c H locs 54 767 (lw_Z below #[Value.ref b] s) (F0 m 408 ls []) := by
  obtain ⟨hx, hb, hr, hml, hown, hts0, hX, hbl, hlocks, hgv⟩ := C0
  have hts : ∀ w ∈ wsL_law, w.before #[Value.ref b] s = true := fun w h => hts0 w (wsL_law_in w h)
  have hK := hKN.1
  have hbA : ¬ (fun q : Nat => s.heap.size ≤ q) b := Nat.not_le.mpr hbl
  refine lv_aload_n hx hb dL_law_408 rfl (lv_at hl 1 rfl) ?_
  refine lv_aload_n hx hb dL_law_409 rfl (lv_at hl 0 rfl) ?_
  refine lv_iload_n hx hb dL_law_410 rfl (lv_at hl 3 rfl) ?_
  refine lv_iconst (v := 1) hx hb dL_law_411 (by decide) ?_
  refine lv_iadd hx hb dL_law_412 ?_
  refine va_sld hx hb hX hbl hbA hS v1 dL_law_413 ?_
  refine lv_aload_n hx hb dL_law_414 rfl (lv_at hl 0 rfl) ?_
  refine lv_iload_n hx hb dL_law_415 rfl (lv_at hl 3 rfl) ?_
  refine lv_iconst (v := 2) hx hb dL_law_416 (by decide) ?_
  refine lv_iadd hx hb dL_law_417 ?_
  refine va_sld hx hb hX hbl hbA hS v2 dL_law_418 ?_
  obtain ⟨hp7, hp8, hEq, hR2⟩ := sim_placeOf V (xs (nI i + 1).toNatClampNeg) (xs (nI i + 2).toNatClampNeg) hR
  refine k_VR (nL := 4) (As := [.int (xs (nI i + 1).toNatClampNeg), .int (xs (nI i + 2).toNatClampNeg)]) (rest := []) (q := 0) ⟨hx, hb, hml, hown, hts⟩ hKN hP hS (m_X7_placeOf l D cI cB ad FU V (xs (nI i + 1).toNatClampNeg) (xs (nI i + 2).toNatClampNeg) hp7) (cwV 2 hts gL_law_X7_placeOf rfl rfl rfl (by decide +kernel) ⟨(Nat.le_of_ble_eq_true rfl), (Nat.le_of_ble_eq_true rfl)⟩) (c_preV hP hKN (q := 0) (ci := 5) (fs := [.ref (ad 6), .ref (ad 13), .ref (ad 4), .ref (ad 2), .ref (ad 1), .int (V 0 0)]) (by decide) (ce_tb ad cI cB (V 0)) rfl rfl) rfl hl.1 rfl (Nat.le_of_ble_eq_true rfl) dL_law_419 ⟨(Nat.le_of_ble_eq_true rfl), (Nat.le_of_ble_eq_true rfl)⟩ (fun H locs hP hS => ?_)
  refine lv_aload_n hx hb dL_law_422 rfl (lv_at hl 2 rfl) ?_
  refine lv_aload_n hx hb dL_law_423 rfl (lv_at hl 0 rfl) ?_
  refine lv_iload_n hx hb dL_law_424 rfl (lv_at hl 3 rfl) ?_
  refine lv_iconst (v := 1) hx hb dL_law_425 (by decide) ?_
  refine lv_iadd hx hb dL_law_426 ?_
  refine va_sld hx hb hX hbl hbA hS v1 dL_law_427 ?_
  refine lv_aload_n hx hb dL_law_428 rfl (lv_at hl 0 rfl) ?_
  refine lv_iload_n hx hb dL_law_429 rfl (lv_at hl 3 rfl) ?_
  refine lv_iconst (v := 2) hx hb dL_law_430 (by decide) ?_
  refine lv_iadd hx hb dL_law_431 ?_
  refine va_sld hx hb hX hbl hbA hS v2 dL_law_432 ?_
  refine k_VR (nL := 4) (As := [.int (xs (nI i + 1).toNatClampNeg), .int (xs (nI i + 2).toNatClampNeg)]) (rest := [.int (f_X7_placeOf FU V (xs (nI i + 1).toNatClampNeg) (xs (nI i + 2).toNatClampNeg))]) (q := 48) ⟨hx, hb, hml, hown, hts⟩ hKN hP hS (m_X8_placeOf l D cI cB ad FU V (xs (nI i + 1).toNatClampNeg) (xs (nI i + 2).toNatClampNeg) hp8) (cwV 2 hts gL_law_X8_placeOf rfl rfl rfl (by decide +kernel) ⟨(Nat.le_of_ble_eq_true rfl), (Nat.le_of_ble_eq_true rfl)⟩) (c_preV hP hKN (q := 48) (ci := 6) (fs := [.ref (ad 49), .ref (ad 50), .ref (ad 51), .int ((V 48) 0), .ref (ad 52), .int ((V 48) 1), .ref (ad 53), .int ((V 48) 2), .int ((V 48) 3), .int ((V 48) 4), .int ((V 48) 5), .int ((V 48) 6), .int ((V 48) 7)]) (by decide) (ce_md ad cI cB (V 48)) rfl rfl) rfl hl.1 rfl (Nat.le_of_ble_eq_true rfl) dL_law_433 ⟨(Nat.le_of_ble_eq_true rfl), (Nat.le_of_ble_eq_true rfl)⟩ (fun H locs hP hS => ?_)
  refine lv_icmp_eq (tgt := 733) hx hb dL_law_436 (by decide) (fun _ => ?_) (fun hc => absurd hEq hc)
  exact kk _ H locs hR2 hP hS
set_option maxHeartbeats 8000000 in
set_option maxRecDepth 100000 in
theorem law_reads {p : Program} {l : Launch} {e : Env} {s : State} {m : MethodId} {below : List Frame} {meth : Method} {c : Code} {D : va_G} {cI cB : ClassId} {ad : Nat → Nat} {b L : Nat} {xs : Nat → Int32} (C0 : lw_At p s m meth c b L xs) (hKN : KN D cI cB s) (hA : adOk ad (fun q : Nat => s.heap.size ≤ q)) {i : Nat} {V : VT} (hR : RelV V) {H : Heap} {locs : List Loc} (hP : wP D cI cB ad V H) (hS : va_S (fun q : Nat => s.heap.size ≤ q) s.heap H locs) {ls : Array Slot} (hl : lv_has ls 4 [(0, .ref b), (1, .ref (ad 0)), (2, .ref (ad 48)), (3, .int (nI i))]) (v1 : vp_in (nI i + 1) L) (v2 : vp_in (nI i + 2) L) (kk : ∀ (V' : VT) (H' : Heap) (locs' : List Loc), RelV V' → wP D cI cB ad V' H' → va_S (fun q : Nat => s.heap.size ≤ q) s.heap H' locs' → W p l e room_1 s m #[Value.ref b] below meth c H' locs' 54 767 (lw_Z below #[Value.ref b] s) (F0 m 733 ls [])) : W p l e room_1 s m #[Value.ref b] below meth c H locs 54 767 (lw_Z below #[Value.ref b] s) (F0 m 441 ls []) := by
  obtain ⟨hx, hb, hr, hml, hown, hts0, hX, hbl, hlocks, hgv⟩ := C0
  have hts : ∀ w ∈ wsL_law, w.before #[Value.ref b] s = true := fun w h => hts0 w (wsL_law_in w h)
  have hK := hKN.1
  have hbA : ¬ (fun q : Nat => s.heap.size ≤ q) b := Nat.not_le.mpr hbl
  refine lv_aload_n hx hb dL_law_441 rfl (lv_at hl 1 rfl) ?_
  refine lv_aload_n hx hb dL_law_442 rfl (lv_at hl 0 rfl) ?_
  refine lv_iload_n hx hb dL_law_443 rfl (lv_at hl 3 rfl) ?_
  refine lv_iconst (v := 1) hx hb dL_law_444 (by decide) ?_
  refine lv_iadd hx hb dL_law_445 ?_
  refine va_sld hx hb hX hbl hbA hS v1 dL_law_446 ?_
  refine lv_aload_n hx hb dL_law_447 rfl (lv_at hl 0 rfl) ?_
  refine lv_iload_n hx hb dL_law_448 rfl (lv_at hl 3 rfl) ?_
  refine lv_iconst (v := 2) hx hb dL_law_449 (by decide) ?_
  refine lv_iadd hx hb dL_law_450 ?_
  refine va_sld hx hb hX hbl hbA hS v2 dL_law_451 ?_
  obtain ⟨hp7, hp8, hEq, hR2⟩ := sim_reads V (xs (nI i + 1).toNatClampNeg) (xs (nI i + 2).toNatClampNeg) hR
  refine k_VR (nL := 4) (As := [.int (xs (nI i + 1).toNatClampNeg), .int (xs (nI i + 2).toNatClampNeg)]) (rest := []) (q := 0) ⟨hx, hb, hml, hown, hts⟩ hKN hP hS (m_X7_reads l D cI cB ad FU V (xs (nI i + 1).toNatClampNeg) (xs (nI i + 2).toNatClampNeg) hp7) (cwV 2 hts gL_law_X7_reads rfl rfl rfl (by decide +kernel) ⟨(Nat.le_of_ble_eq_true rfl), (Nat.le_of_ble_eq_true rfl)⟩) (c_preV hP hKN (q := 0) (ci := 5) (fs := [.ref (ad 6), .ref (ad 13), .ref (ad 4), .ref (ad 2), .ref (ad 1), .int (V 0 0)]) (by decide) (ce_tb ad cI cB (V 0)) rfl rfl) rfl hl.1 rfl (Nat.le_of_ble_eq_true rfl) dL_law_452 ⟨(Nat.le_of_ble_eq_true rfl), (Nat.le_of_ble_eq_true rfl)⟩ (fun H locs hP hS => ?_)
  refine lv_aload_n hx hb dL_law_455 rfl (lv_at hl 2 rfl) ?_
  refine lv_aload_n hx hb dL_law_456 rfl (lv_at hl 0 rfl) ?_
  refine lv_iload_n hx hb dL_law_457 rfl (lv_at hl 3 rfl) ?_
  refine lv_iconst (v := 1) hx hb dL_law_458 (by decide) ?_
  refine lv_iadd hx hb dL_law_459 ?_
  refine va_sld hx hb hX hbl hbA hS v1 dL_law_460 ?_
  refine lv_aload_n hx hb dL_law_461 rfl (lv_at hl 0 rfl) ?_
  refine lv_iload_n hx hb dL_law_462 rfl (lv_at hl 3 rfl) ?_
  refine lv_iconst (v := 2) hx hb dL_law_463 (by decide) ?_
  refine lv_iadd hx hb dL_law_464 ?_
  refine va_sld hx hb hX hbl hbA hS v2 dL_law_465 ?_
  refine k_VR (nL := 4) (As := [.int (xs (nI i + 1).toNatClampNeg), .int (xs (nI i + 2).toNatClampNeg)]) (rest := [.int (f_X7_reads FU V (xs (nI i + 1).toNatClampNeg) (xs (nI i + 2).toNatClampNeg))]) (q := 48) ⟨hx, hb, hml, hown, hts⟩ hKN hP hS (m_X8_reads l D cI cB ad FU V (xs (nI i + 1).toNatClampNeg) (xs (nI i + 2).toNatClampNeg) hp8) (cwV 2 hts gL_law_X8_reads rfl rfl rfl (by decide +kernel) ⟨(Nat.le_of_ble_eq_true rfl), (Nat.le_of_ble_eq_true rfl)⟩) (c_preV hP hKN (q := 48) (ci := 6) (fs := [.ref (ad 49), .ref (ad 50), .ref (ad 51), .int ((V 48) 0), .ref (ad 52), .int ((V 48) 1), .ref (ad 53), .int ((V 48) 2), .int ((V 48) 3), .int ((V 48) 4), .int ((V 48) 5), .int ((V 48) 6), .int ((V 48) 7)]) (by decide) (ce_md ad cI cB (V 48)) rfl rfl) rfl hl.1 rfl (Nat.le_of_ble_eq_true rfl) dL_law_466 ⟨(Nat.le_of_ble_eq_true rfl), (Nat.le_of_ble_eq_true rfl)⟩ (fun H locs hP hS => ?_)
  refine lv_icmp_eq (tgt := 733) hx hb dL_law_469 (by decide) (fun _ => ?_) (fun hc => absurd hEq hc)
  exact kk _ H locs hR2 hP hS
set_option maxHeartbeats 8000000 in
set_option maxRecDepth 100000 in
theorem law_word {p : Program} {l : Launch} {e : Env} {s : State} {m : MethodId} {below : List Frame} {meth : Method} {c : Code} {D : va_G} {cI cB : ClassId} {ad : Nat → Nat} {b L : Nat} {xs : Nat → Int32} (C0 : lw_At p s m meth c b L xs) (hKN : KN D cI cB s) (hA : adOk ad (fun q : Nat => s.heap.size ≤ q)) {i : Nat} {V : VT} (hR : RelV V) {H : Heap} {locs : List Loc} (hP : wP D cI cB ad V H) (hS : va_S (fun q : Nat => s.heap.size ≤ q) s.heap H locs) {ls : Array Slot} (hl : lv_has ls 4 [(0, .ref b), (1, .ref (ad 0)), (2, .ref (ad 48)), (3, .int (nI i))]) (v1 : vp_in (nI i + 1) L) (v2 : vp_in (nI i + 2) L) (kk : ∀ (V' : VT) (H' : Heap) (locs' : List Loc), RelV V' → wP D cI cB ad V' H' → va_S (fun q : Nat => s.heap.size ≤ q) s.heap H' locs' → W p l e room_1 s m #[Value.ref b] below meth c H' locs' 54 767 (lw_Z below #[Value.ref b] s) (F0 m 733 ls [])) : W p l e room_1 s m #[Value.ref b] below meth c H locs 54 767 (lw_Z below #[Value.ref b] s) (F0 m 474 ls []) := by
  obtain ⟨hx, hb, hr, hml, hown, hts0, hX, hbl, hlocks, hgv⟩ := C0
  have hts : ∀ w ∈ wsL_law, w.before #[Value.ref b] s = true := fun w h => hts0 w (wsL_law_in w h)
  have hK := hKN.1
  have hbA : ¬ (fun q : Nat => s.heap.size ≤ q) b := Nat.not_le.mpr hbl
  refine lv_aload_n hx hb dL_law_474 rfl (lv_at hl 1 rfl) ?_
  refine lv_aload_n hx hb dL_law_475 rfl (lv_at hl 0 rfl) ?_
  refine lv_iload_n hx hb dL_law_476 rfl (lv_at hl 3 rfl) ?_
  refine lv_iconst (v := 1) hx hb dL_law_477 (by decide) ?_
  refine lv_iadd hx hb dL_law_478 ?_
  refine va_sld hx hb hX hbl hbA hS v1 dL_law_479 ?_
  refine lv_aload_n hx hb dL_law_480 rfl (lv_at hl 0 rfl) ?_
  refine lv_iload_n hx hb dL_law_481 rfl (lv_at hl 3 rfl) ?_
  refine lv_iconst (v := 2) hx hb dL_law_482 (by decide) ?_
  refine lv_iadd hx hb dL_law_483 ?_
  refine va_sld hx hb hX hbl hbA hS v2 dL_law_484 ?_
  obtain ⟨hp7, hp8, hEq, hR2⟩ := sim_word V (xs (nI i + 1).toNatClampNeg) (xs (nI i + 2).toNatClampNeg) hR
  refine k_VR (nL := 4) (As := [.int (xs (nI i + 1).toNatClampNeg), .int (xs (nI i + 2).toNatClampNeg)]) (rest := []) (q := 0) ⟨hx, hb, hml, hown, hts⟩ hKN hP hS (m_X7_word l D cI cB ad FU V (xs (nI i + 1).toNatClampNeg) (xs (nI i + 2).toNatClampNeg) hp7) (cwV 2 hts gL_law_X7_word rfl rfl rfl (by decide +kernel) ⟨(Nat.le_of_ble_eq_true rfl), (Nat.le_of_ble_eq_true rfl)⟩) (c_preV hP hKN (q := 0) (ci := 5) (fs := [.ref (ad 6), .ref (ad 13), .ref (ad 4), .ref (ad 2), .ref (ad 1), .int (V 0 0)]) (by decide) (ce_tb ad cI cB (V 0)) rfl rfl) rfl hl.1 rfl (Nat.le_of_ble_eq_true rfl) dL_law_485 ⟨(Nat.le_of_ble_eq_true rfl), (Nat.le_of_ble_eq_true rfl)⟩ (fun H locs hP hS => ?_)
  refine lv_aload_n hx hb dL_law_488 rfl (lv_at hl 2 rfl) ?_
  refine lv_aload_n hx hb dL_law_489 rfl (lv_at hl 0 rfl) ?_
  refine lv_iload_n hx hb dL_law_490 rfl (lv_at hl 3 rfl) ?_
  refine lv_iconst (v := 1) hx hb dL_law_491 (by decide) ?_
  refine lv_iadd hx hb dL_law_492 ?_
  refine va_sld hx hb hX hbl hbA hS v1 dL_law_493 ?_
  refine lv_aload_n hx hb dL_law_494 rfl (lv_at hl 0 rfl) ?_
  refine lv_iload_n hx hb dL_law_495 rfl (lv_at hl 3 rfl) ?_
  refine lv_iconst (v := 2) hx hb dL_law_496 (by decide) ?_
  refine lv_iadd hx hb dL_law_497 ?_
  refine va_sld hx hb hX hbl hbA hS v2 dL_law_498 ?_
  refine k_VR (nL := 4) (As := [.int (xs (nI i + 1).toNatClampNeg), .int (xs (nI i + 2).toNatClampNeg)]) (rest := [.int (f_X7_word FU V (xs (nI i + 1).toNatClampNeg) (xs (nI i + 2).toNatClampNeg))]) (q := 48) ⟨hx, hb, hml, hown, hts⟩ hKN hP hS (m_X8_word l D cI cB ad FU V (xs (nI i + 1).toNatClampNeg) (xs (nI i + 2).toNatClampNeg) hp8) (cwV 2 hts gL_law_X8_word rfl rfl rfl (by decide +kernel) ⟨(Nat.le_of_ble_eq_true rfl), (Nat.le_of_ble_eq_true rfl)⟩) (c_preV hP hKN (q := 48) (ci := 6) (fs := [.ref (ad 49), .ref (ad 50), .ref (ad 51), .int ((V 48) 0), .ref (ad 52), .int ((V 48) 1), .ref (ad 53), .int ((V 48) 2), .int ((V 48) 3), .int ((V 48) 4), .int ((V 48) 5), .int ((V 48) 6), .int ((V 48) 7)]) (by decide) (ce_md ad cI cB (V 48)) rfl rfl) rfl hl.1 rfl (Nat.le_of_ble_eq_true rfl) dL_law_499 ⟨(Nat.le_of_ble_eq_true rfl), (Nat.le_of_ble_eq_true rfl)⟩ (fun H locs hP hS => ?_)
  refine lv_icmp_eq (tgt := 733) hx hb dL_law_502 (by decide) (fun _ => ?_) (fun hc => absurd hEq hc)
  exact kk _ H locs hR2 hP hS

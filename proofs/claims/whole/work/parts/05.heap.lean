theorem tb1 {w : Cond} (i : Nat) (h : tables_1_1[i]? = some w) (hg : goodWord w = true) : w ∈ gtb := List.mem_filter.mpr ⟨List.mem_append_right _ (show w ∈ tables_1 from List.mem_append_left _ (List.mem_of_getElem? h)), hg⟩
theorem tb2 {w : Cond} (i : Nat) (h : tables_1_2[i]? = some w) (hg : goodWord w = true) : w ∈ gtb := List.mem_filter.mpr ⟨List.mem_append_right _ (show w ∈ tables_1 from List.mem_append_right _ (List.mem_append_left _ (List.mem_of_getElem? h))), hg⟩
theorem tb3 {w : Cond} (i : Nat) (h : tables_1_3[i]? = some w) (hg : goodWord w = true) : w ∈ gtb := List.mem_filter.mpr ⟨List.mem_append_right _ (show w ∈ tables_1 from List.mem_append_right _ (List.mem_append_right _ (List.mem_append_left _ (List.mem_of_getElem? h)))), hg⟩
theorem tb4 {w : Cond} (i : Nat) (h : tables_1_4[i]? = some w) (hg : goodWord w = true) : w ∈ gtb := List.mem_filter.mpr ⟨List.mem_append_right _ (show w ∈ tables_1 from List.mem_append_right _ (List.mem_append_right _ (List.mem_append_right _ (List.mem_append_left _ (List.mem_of_getElem? h))))), hg⟩
theorem tb5 {w : Cond} (i : Nat) (h : tables_1_5[i]? = some w) (hg : goodWord w = true) : w ∈ gtb := List.mem_filter.mpr ⟨List.mem_append_right _ (show w ∈ tables_1 from List.mem_append_right _ (List.mem_append_right _ (List.mem_append_right _ (List.mem_append_right _ (List.mem_append_left _ (List.mem_of_getElem? h)))))), hg⟩
theorem tb6 {w : Cond} (i : Nat) (h : tables_1_6[i]? = some w) (hg : goodWord w = true) : w ∈ gtb := List.mem_filter.mpr ⟨List.mem_append_right _ (show w ∈ tables_1 from List.mem_append_right _ (List.mem_append_right _ (List.mem_append_right _ (List.mem_append_right _ (List.mem_append_right _ (List.mem_append_left _ (List.mem_of_getElem? h))))))), hg⟩
theorem tb7 {w : Cond} (i : Nat) (h : tables_1_7[i]? = some w) (hg : goodWord w = true) : w ∈ gtb := List.mem_filter.mpr ⟨List.mem_append_right _ (show w ∈ tables_1 from List.mem_append_right _ (List.mem_append_right _ (List.mem_append_right _ (List.mem_append_right _ (List.mem_append_right _ (List.mem_append_right _ (List.mem_of_getElem? h))))))), hg⟩
theorem tbp {w : Cond} (i : Nat) (h : (k2_sels lw_privs)[i]? = some w) (hg : goodWord w = true) : w ∈ gtb := List.mem_filter.mpr ⟨List.mem_append_left _ (List.mem_of_getElem? h), hg⟩
theorem in_X0 : ∀ w ∈ u_ws RX0 TX0 9, w ∈ gtb := by
  intro w hw
  obtain ⟨k, hk, rfl⟩ := List.mem_map.mp hw
  have hk := List.mem_range.mp hk
  match k, hk with
  | 0, _ => exact tb2 139 (by decide +kernel) rfl
  | 1, _ => exact tb2 141 (by decide +kernel) rfl
  | 2, _ => exact tb2 143 (by decide +kernel) rfl
  | 3, _ => exact tb2 145 (by decide +kernel) rfl
  | 4, _ => exact tb2 147 (by decide +kernel) rfl
  | 5, _ => exact tb2 149 (by decide +kernel) rfl
  | 6, _ => exact tb2 151 (by decide +kernel) rfl
  | 7, _ => exact tb2 153 (by decide +kernel) rfl
  | 8, _ => exact tb2 155 (by decide +kernel) rfl
  | k + 9, hk => omega
theorem in_X1 : ∀ w ∈ u_ws RX1 TX1 5, w ∈ gtb := by
  intro w hw
  obtain ⟨k, hk, rfl⟩ := List.mem_map.mp hw
  have hk := List.mem_range.mp hk
  match k, hk with
  | 0, _ => exact tb3 133 (by decide +kernel) rfl
  | 1, _ => exact tb3 135 (by decide +kernel) rfl
  | 2, _ => exact tb3 137 (by decide +kernel) rfl
  | 3, _ => exact tb3 139 (by decide +kernel) rfl
  | 4, _ => exact tb3 141 (by decide +kernel) rfl
  | k + 5, hk => omega
theorem in_X2 : ∀ w ∈ u_ws RX2 TX2 3, w ∈ gtb := by
  intro w hw
  obtain ⟨k, hk, rfl⟩ := List.mem_map.mp hw
  have hk := List.mem_range.mp hk
  match k, hk with
  | 0, _ => exact tb4 183 (by decide +kernel) rfl
  | 1, _ => exact tb4 185 (by decide +kernel) rfl
  | 2, _ => exact tb4 187 (by decide +kernel) rfl
  | k + 3, hk => omega
theorem in_X3 : ∀ w ∈ u_ws RX3 TX3 16, w ∈ gtb := by
  intro w hw
  obtain ⟨k, hk, rfl⟩ := List.mem_map.mp hw
  have hk := List.mem_range.mp hk
  match k, hk with
  | 0, _ => exact tb1 129 (by decide +kernel) rfl
  | 1, _ => exact tb1 131 (by decide +kernel) rfl
  | 2, _ => exact tb1 133 (by decide +kernel) rfl
  | 3, _ => exact tb1 135 (by decide +kernel) rfl
  | 4, _ => exact tb1 137 (by decide +kernel) rfl
  | 5, _ => exact tb1 139 (by decide +kernel) rfl
  | 6, _ => exact tb1 141 (by decide +kernel) rfl
  | 7, _ => exact tb1 143 (by decide +kernel) rfl
  | 8, _ => exact tb1 145 (by decide +kernel) rfl
  | 9, _ => exact tb1 147 (by decide +kernel) rfl
  | 10, _ => exact tb1 149 (by decide +kernel) rfl
  | 11, _ => exact tb1 151 (by decide +kernel) rfl
  | 12, _ => exact tb1 153 (by decide +kernel) rfl
  | 13, _ => exact tb1 155 (by decide +kernel) rfl
  | 14, _ => exact tb1 157 (by decide +kernel) rfl
  | 15, _ => exact tb1 159 (by decide +kernel) rfl
  | k + 16, hk => omega
theorem in_X4 : ∀ w ∈ u_ws RX4 TX4 5, w ∈ gtb := by
  intro w hw
  obtain ⟨k, hk, rfl⟩ := List.mem_map.mp hw
  have hk := List.mem_range.mp hk
  match k, hk with
  | 0, _ => exact tb1 179 (by decide +kernel) rfl
  | 1, _ => exact tb1 181 (by decide +kernel) rfl
  | 2, _ => exact tb1 183 (by decide +kernel) rfl
  | 3, _ => exact tb1 185 (by decide +kernel) rfl
  | 4, _ => exact tb1 187 (by decide +kernel) rfl
  | k + 5, hk => omega
theorem in_X5 : ∀ w ∈ u_ws RX5 TX5 5, w ∈ gtb := by
  intro w hw
  obtain ⟨k, hk, rfl⟩ := List.mem_map.mp hw
  have hk := List.mem_range.mp hk
  match k, hk with
  | 0, _ => exact tb4 49 (by decide +kernel) rfl
  | 1, _ => exact tb4 51 (by decide +kernel) rfl
  | 2, _ => exact tb4 53 (by decide +kernel) rfl
  | 3, _ => exact tb4 55 (by decide +kernel) rfl
  | 4, _ => exact tb4 57 (by decide +kernel) rfl
  | k + 5, hk => omega
theorem in_X6 : ∀ w ∈ u_ws RX6 TX6 7, w ∈ gtb := by
  intro w hw
  obtain ⟨k, hk, rfl⟩ := List.mem_map.mp hw
  have hk := List.mem_range.mp hk
  match k, hk with
  | 0, _ => exact tb2 87 (by decide +kernel) rfl
  | 1, _ => exact tb2 89 (by decide +kernel) rfl
  | 2, _ => exact tb2 91 (by decide +kernel) rfl
  | 3, _ => exact tb2 93 (by decide +kernel) rfl
  | 4, _ => exact tb2 95 (by decide +kernel) rfl
  | 5, _ => exact tb2 97 (by decide +kernel) rfl
  | 6, _ => exact tb2 99 (by decide +kernel) rfl
  | k + 7, hk => omega
theorem in_X7 : ∀ w ∈ u_ws RX7 TX7 4, w ∈ gtb := by
  intro w hw
  obtain ⟨k, hk, rfl⟩ := List.mem_map.mp hw
  have hk := List.mem_range.mp hk
  match k, hk with
  | 0, _ => exact tb1 202 (by decide +kernel) rfl
  | 1, _ => exact tb1 204 (by decide +kernel) rfl
  | 2, _ => exact tb1 206 (by decide +kernel) rfl
  | 3, _ => exact tb1 208 (by decide +kernel) rfl
  | k + 4, hk => omega
theorem in_X8 : ∀ w ∈ u_ws RX8 TX8 4, w ∈ gtb := by
  intro w hw
  obtain ⟨k, hk, rfl⟩ := List.mem_map.mp hw
  have hk := List.mem_range.mp hk
  match k, hk with
  | 0, _ => exact tb1 90 (by decide +kernel) rfl
  | 1, _ => exact tb1 92 (by decide +kernel) rfl
  | 2, _ => exact tb1 94 (by decide +kernel) rfl
  | 3, _ => exact tb1 96 (by decide +kernel) rfl
  | k + 4, hk => omega
theorem in_X9 : ∀ w ∈ u_ws RX9 TX9 7, w ∈ gtb := by
  intro w hw
  obtain ⟨k, hk, rfl⟩ := List.mem_map.mp hw
  have hk := List.mem_range.mp hk
  match k, hk with
  | 0, _ => exact tb1 40 (by decide +kernel) rfl
  | 1, _ => exact tb1 42 (by decide +kernel) rfl
  | 2, _ => exact tb1 44 (by decide +kernel) rfl
  | 3, _ => exact tb1 46 (by decide +kernel) rfl
  | 4, _ => exact tb1 48 (by decide +kernel) rfl
  | 5, _ => exact tb1 50 (by decide +kernel) rfl
  | 6, _ => exact tb1 52 (by decide +kernel) rfl
  | k + 7, hk => omega
theorem in_X10 : ∀ w ∈ u_ws RX10 TX10 2, w ∈ gtb := by
  intro w hw
  obtain ⟨k, hk, rfl⟩ := List.mem_map.mp hw
  have hk := List.mem_range.mp hk
  match k, hk with
  | 0, _ => exact tb1 72 (by decide +kernel) rfl
  | 1, _ => exact tb1 74 (by decide +kernel) rfl
  | k + 2, hk => omega
theorem in_X11 : ∀ w ∈ u_ws RX11 TX11 11, w ∈ gtb := by
  intro w hw
  obtain ⟨k, hk, rfl⟩ := List.mem_map.mp hw
  have hk := List.mem_range.mp hk
  match k, hk with
  | 0, _ => exact tb1 223 (by decide +kernel) rfl
  | 1, _ => exact tb1 225 (by decide +kernel) rfl
  | 2, _ => exact tb1 227 (by decide +kernel) rfl
  | 3, _ => exact tb1 229 (by decide +kernel) rfl
  | 4, _ => exact tb1 231 (by decide +kernel) rfl
  | 5, _ => exact tb1 233 (by decide +kernel) rfl
  | 6, _ => exact tb1 235 (by decide +kernel) rfl
  | 7, _ => exact tb1 237 (by decide +kernel) rfl
  | 8, _ => exact tb1 239 (by decide +kernel) rfl
  | 9, _ => exact tb2 1 (by decide +kernel) rfl
  | 10, _ => exact tb2 3 (by decide +kernel) rfl
  | k + 11, hk => omega
theorem in_X12 : ∀ w ∈ u_ws RX12 TX12 45, w ∈ gtb := by
  intro w hw
  obtain ⟨k, hk, rfl⟩ := List.mem_map.mp hw
  have hk := List.mem_range.mp hk
  match k, hk with
  | 0, _ => exact tb5 113 (by decide +kernel) rfl
  | 1, _ => exact tb5 115 (by decide +kernel) rfl
  | 2, _ => exact tb5 117 (by decide +kernel) rfl
  | 3, _ => exact tb5 119 (by decide +kernel) rfl
  | 4, _ => exact tb5 121 (by decide +kernel) rfl
  | 5, _ => exact tb5 123 (by decide +kernel) rfl
  | 6, _ => exact tb5 125 (by decide +kernel) rfl
  | 7, _ => exact tb5 127 (by decide +kernel) rfl
  | 8, _ => exact tb5 129 (by decide +kernel) rfl
  | 9, _ => exact tb5 131 (by decide +kernel) rfl
  | 10, _ => exact tb5 133 (by decide +kernel) rfl
  | 11, _ => exact tb5 135 (by decide +kernel) rfl
  | 12, _ => exact tb5 137 (by decide +kernel) rfl
  | 13, _ => exact tb5 139 (by decide +kernel) rfl
  | 14, _ => exact tb5 141 (by decide +kernel) rfl
  | 15, _ => exact tb5 143 (by decide +kernel) rfl
  | 16, _ => exact tb5 145 (by decide +kernel) rfl
  | 17, _ => exact tb5 147 (by decide +kernel) rfl
  | 18, _ => exact tb5 149 (by decide +kernel) rfl
  | 19, _ => exact tb5 151 (by decide +kernel) rfl
  | 20, _ => exact tb5 153 (by decide +kernel) rfl
  | 21, _ => exact tb5 155 (by decide +kernel) rfl
  | 22, _ => exact tb5 157 (by decide +kernel) rfl
  | 23, _ => exact tb5 159 (by decide +kernel) rfl
  | 24, _ => exact tb5 161 (by decide +kernel) rfl
  | 25, _ => exact tb5 163 (by decide +kernel) rfl
  | 26, _ => exact tb5 165 (by decide +kernel) rfl
  | 27, _ => exact tb5 167 (by decide +kernel) rfl
  | 28, _ => exact tb5 169 (by decide +kernel) rfl
  | 29, _ => exact tb5 171 (by decide +kernel) rfl
  | 30, _ => exact tb5 173 (by decide +kernel) rfl
  | 31, _ => exact tb5 175 (by decide +kernel) rfl
  | 32, _ => exact tb5 177 (by decide +kernel) rfl
  | 33, _ => exact tb5 179 (by decide +kernel) rfl
  | 34, _ => exact tb5 181 (by decide +kernel) rfl
  | 35, _ => exact tb5 183 (by decide +kernel) rfl
  | 36, _ => exact tb5 185 (by decide +kernel) rfl
  | 37, _ => exact tb5 187 (by decide +kernel) rfl
  | 38, _ => exact tb5 189 (by decide +kernel) rfl
  | 39, _ => exact tb5 191 (by decide +kernel) rfl
  | 40, _ => exact tb5 193 (by decide +kernel) rfl
  | 41, _ => exact tb5 195 (by decide +kernel) rfl
  | 42, _ => exact tb5 197 (by decide +kernel) rfl
  | 43, _ => exact tb5 199 (by decide +kernel) rfl
  | 44, _ => exact tb5 201 (by decide +kernel) rfl
  | k + 45, hk => omega
def cok (c : Nat) (r : vw_C) : Prop := (∀ w ∈ u_ws r.1 r.2.1 r.2.2, w ∈ gtb) ∧ (∀ k, k < r.2.2 → parseFieldDescriptor (r.2.1 k).2.2.1 = some (fT c k)) ∧ (∀ a, a < r.2.2 → ∀ b, b < r.2.2 → a ≠ b → (r.2.1 a).2.1 ≠ (r.2.1 b).2.1) ∧ r.2.2 = fN c
theorem cls_ok {c : Nat} {r : vw_C} (h : cls[c]? = some r) : cok c r := by
  match c, h with
  | 0, h => cases h; exact ⟨in_X0, tyX0_ok, nmX0, rfl⟩
  | 1, h => cases h; exact ⟨in_X1, tyX1_ok, nmX1, rfl⟩
  | 2, h => cases h; exact ⟨in_X2, tyX2_ok, nmX2, rfl⟩
  | 3, h => cases h; exact ⟨in_X3, tyX3_ok, nmX3, rfl⟩
  | 4, h => cases h; exact ⟨in_X4, tyX4_ok, nmX4, rfl⟩
  | 5, h => cases h; exact ⟨in_X5, tyX5_ok, nmX5, rfl⟩
  | 6, h => cases h; exact ⟨in_X6, tyX6_ok, nmX6, rfl⟩
  | 7, h => cases h; exact ⟨in_X7, tyX7_ok, nmX7, rfl⟩
  | 8, h => cases h; exact ⟨in_X8, tyX8_ok, nmX8, rfl⟩
  | 9, h => cases h; exact ⟨in_X9, tyX9_ok, nmX9, rfl⟩
  | 10, h => cases h; exact ⟨in_X10, tyX10_ok, nmX10, rfl⟩
  | 11, h => cases h; exact ⟨in_X11, tyX11_ok, nmX11, rfl⟩
  | 12, h => cases h; exact ⟨in_X12, tyX12_ok, nmX12, rfl⟩
  | c + 13, h => simp [cls] at h
def FS (own : String) (idx c i : Nat) : Prop := ∃ r : vw_C, cls[c]? = some r ∧ i < fN c ∧ Cond.fieldLink own idx r.1 (r.2.1 i).2.1 (r.2.1 i).2.2.1 ∈ gtb ∧ (r.2.1 i).1 = r.1
def FF (c i : Nat) (b : Bool) : Prop := ∃ r : vw_C, cls[c]? = some r ∧ (r.2.1 i).2.2.2 = b
theorem va_P1 {D : va_G} {cl : List vw_C} {q : Nat × va_E} {H : Heap} (h : va_at D cl q H) : va_P D cl [q] H := by
  intro k x hx
  match k, hx with
  | 0, hx => cases hx; exact h
  | k + 1, hx => simp at hx
theorem fl_at (G : AG) (h : AH) (c a : Nat) {i : Nat} (hi : i < fN c) : (fl G h c a)[i]? = some (fv G h a i (fT c i)) := by
  unfold fl
  rw [List.getElem?_map, List.getElem?_range hi]
  rfl
theorem fl_len (G : AG) (h : AH) (c a : Nat) : (fl G h c a).length = fN c := by
  unfold fl
  rw [List.length_map, List.length_range]
theorem ent_obj {G : AG} {h : AH} {a c : Nat} (hy : gK h a = 100 + c) : ent G h a = .inr (c, fl G h c a) := by
  unfold ent
  rw [hy, if_neg (by omega), if_neg (by omega), if_neg (by omega), if_neg (by omega), Nat.add_sub_cancel_left]
theorem ent_I {G : AG} {h : AH} {a : Nat} (hy : gK h a = 1) : ent G h a = .inl (gY G 1, gN h a, .inl (gI h a)) := by
  unfold ent
  rw [if_pos hy]
theorem ent_J {G : AG} {h : AH} {a : Nat} (hy : gK h a = 2) : ent G h a = .inl (gY G 2, gN h a, .inr (.inl (gJ h a))) := by
  unfold ent
  rw [if_neg (by omega), if_pos hy]
theorem ent_Z {G : AG} {h : AH} {a : Nat} (hy : gK h a = 3) : ent G h a = .inl (gY G 3, gN h a, .inl (gI h a)) := by
  unfold ent
  rw [if_neg (by omega), if_neg (by omega), if_pos hy]
theorem ent_R {G : AG} {h : AH} {a k : Nat} (hy : gK h a = k) (h1 : 4 ≤ k) (h2 : k < 100) : ent G h a = .inl (gY G k, gN h a, .inr (.inr (.inr (.inr (fun j => go G (gR h a j)))))) := by
  unfold ent
  rw [hy, if_neg (by omega), if_neg (by omega), if_neg (by omega), if_pos h2]
theorem ent_same {G : AG} {h h1 : AH} {b : Nat} (eK : gK h1 b = gK h b) (eN : gN h1 b = gN h b) (eI : gI h1 b = gI h b) (eJ : gJ h1 b = gJ h b) (eR : gR h1 b = gR h b) : ent G h1 b = ent G h b := by
  unfold ent fl
  rw [eK, eN, eI, eJ, eR]
  have e : ∀ k t, fv G h1 b k t = fv G h b k t := by
    intro k t
    cases t <;> simp only [fv, eI, eJ, eR]
  simp only [e]
theorem gI_sI {h : AH} {a i : Nat} {v : Int32} (b : Nat) : gI (sI h a i v) b = if b = a then upd (gI h a) i v else gI h b := by
  funext j
  show up2 h.2.2.1 a i v b j = _
  unfold up2
  by_cases hb : b = a
  · subst hb
    rw [if_pos rfl]
    unfold upd
    by_cases hj : j = i
    · rw [if_pos ⟨rfl, hj⟩, if_pos hj]
    · rw [if_neg (fun z => hj z.2), if_neg hj]; rfl
  · rw [if_neg (fun z => hb z.1), if_neg hb]; rfl
theorem gJ_sJ {h : AH} {a i : Nat} {v : Int64} (b : Nat) : gJ (sJ h a i v) b = if b = a then va_up (gJ h a) i v else gJ h b := by
  funext j
  show up2 h.2.2.2.1 a i v b j = _
  unfold up2
  by_cases hb : b = a
  · subst hb
    rw [if_pos rfl]
    unfold va_up
    by_cases hj : j = i
    · rw [if_pos ⟨rfl, hj⟩, if_pos hj]
    · rw [if_neg (fun z => hj z.2), if_neg hj]; rfl
  · rw [if_neg (fun z => hb z.1), if_neg hb]; rfl
theorem gR_sR {h : AH} {a i : Nat} {v : Nat} (b : Nat) : gR (sR h a i v) b = if b = a then va_up (gR h a) i v else gR h b := by
  funext j
  show up2 h.2.2.2.2.1 a i v b j = _
  unfold up2
  by_cases hb : b = a
  · subst hb
    rw [if_pos rfl]
    unfold va_up
    by_cases hj : j = i
    · rw [if_pos ⟨rfl, hj⟩, if_pos hj]
    · rw [if_neg (fun z => hj z.2), if_neg hj]; rfl
  · rw [if_neg (fun z => hb z.1), if_neg hb]; rfl
theorem Hp.at {G : AG} {h : AH} {H : Heap} (hH : Hp G h H) {a : Nat} (hy : gK h a ≠ 0) : 3 ≤ a ∧ a < gC h ∧ va_P (gD G) cls [(gad G a, ent G h a)] H ∧ gs G [vR a] = [.ref (gad G a)] := by
  obtain ⟨h1, h2, h3⟩ := hH.2.2.1 a hy
  exact ⟨h1, h2, va_P1 h3, by show [gv G (vR a)] = _; rw [gv_ref G (by omega)]⟩
theorem gs_ref {G : AG} {a : Nat} {st : List AV} (h : 3 ≤ a) : gs G (vR a :: st) = .ref (gad G a) :: gs G st := by
  show gv G (vR a) :: _ = _
  rw [gv_ref G (by omega)]
  rfl
/-- one cell's contents change -/
theorem Hp.upd {G : AG} {h h1 : AH} {H H1 : Heap} {a : Nat} (hH : Hp G h H) (ha : gK h a ≠ 0) (hz : H1.size = H.size) (ho : ∀ q : Nat, q ≠ gad G a → H1[q]? = H[q]?) (hat : va_at (gD G) cls (gad G a, ent G h1 a) H1) (hK : ∀ b, gK h1 b = gK h b) (hC : gC h1 = gC h) (hE : ∀ b, b ≠ a → ent G h1 b = ent G h b) (es : 3 ≤ a → gN h1 2 = gN h 2 ∧ gI h1 2 = gI h 2) : Hp G h1 H1 := by
  refine ⟨by rw [hC]; exact hH.1, by rw [hz, hC]; exact hH.2.1, fun b hb => ?_, (es (hH.2.2.1 a ha).1).1.trans hH.2.2.2.1, (es (hH.2.2.1 a ha).1).2.trans hH.2.2.2.2⟩
  rw [hK] at hb
  obtain ⟨h1', h2, h3⟩ := hH.2.2.1 b hb
  refine ⟨h1', by rw [hC]; exact h2, ?_⟩
  by_cases hba : b = a
  · subst hba; exact hat
  · rw [hE b hba]
    exact h3.kept (ho _ (fun z => hba (gad_inj G h1' (hH.2.2.1 a ha).1 z)))
theorem Hp.in {G : AG} {h : AH} {H : Heap} (hH : Hp G h H) {a : Nat} (ha : gK h a ≠ 0) : gA G (gad G a) := by
  have := (hH.2.2.1 a ha).1
  rw [gad_3 G this]
  exact Nat.le_add_right _ _
/-! fields -/
section HR
variable {mi : MI} {d pc tgt : Nat} {ls ls' : List (Nat × AV)} {st : List AV} {h : AH} {res : Option AV × AH} {ρ : Type} {E E1 E2 : Option ρ} {q : ρ}
theorem r_get {idx c i a K : Nat} {v : AV} (hd : de mi pc (.getfield idx) 3) (hs : FS mi.1.cls idx c i) (hK : K = 100 + c) (hv : ∀ G, fv G h a i (fT c i) = gv G v) (hf : (if gK h a = K then E else none) = some q) (k : E = some q → WA mi d (pc + 3) ls (v :: st) h res) : WA mi d pc ls (vR a :: st) h res := by
  by_cases hy : gK h a = K
  · rw [if_pos hy] at hf
    refine WA.pure (fun G p l e R s m args below meth c' H locs cells slots Q la C hH hS hl kk => ?_) (k hf)
    rw [hK] at hy
    obtain ⟨r, hr, hi, hlink, hsame⟩ := hs
    obtain ⟨ha, -, hP, -⟩ := hH.at (a := a) (by omega)
    rw [ent_obj hy] at hP
    rw [gs_ref ha]
    obtain ⟨w1, w2, w3, w4⟩ := cls_ok hr
    exact va_get (D := gD G) C.1 C.2.1 C.2.2.2.2.1 w1 C.2.2.2.1 C.2.2.2.2.2.2.2.2.2.2.1.1 hP 0 rfl hr i (by rw [w4]; exact hi) (C.2.2.2.2.1 _ hlink) (fun _ z => by rw [hsame] at z; exact z) (v := gv G v) (by rw [fl_at G h c a hi, hv]) hd (kk la hl)
  · rw [if_neg hy] at hf; cases hf
theorem r_getI {idx c i a K : Nat} (hd : de mi pc (.getfield idx) 3) (hs : FS mi.1.cls idx c i) (hK : K = 100 + c) (ht : fT c i = .int) (hf : (if gK h a = K then E else none) = some q) (k : E = some q → WA mi d (pc + 3) ls (vI (gI h a i) :: st) h res) : WA mi d pc ls (vR a :: st) h res := r_get hd hs hK (fun G => by rw [ht]; rfl) hf k
theorem r_getZ {idx c i a K : Nat} (hd : de mi pc (.getfield idx) 3) (hs : FS mi.1.cls idx c i) (hK : K = 100 + c) (ht : fT c i = .boolean) (hf : (if gK h a = K then E else none) = some q) (k : E = some q → WA mi d (pc + 3) ls (vI (gI h a i) :: st) h res) : WA mi d pc ls (vR a :: st) h res := r_get hd hs hK (fun G => by rw [ht]; rfl) hf k
theorem r_getJ {idx c i a K : Nat} (hd : de mi pc (.getfield idx) 3) (hs : FS mi.1.cls idx c i) (hK : K = 100 + c) (ht : fT c i = .long) (hf : (if gK h a = K then E else none) = some q) (k : E = some q → WA mi d (pc + 3) ls (vJ (gJ h a i) :: st) h res) : WA mi d pc ls (vR a :: st) h res := r_get hd hs hK (fun G => by rw [ht]; rfl) hf k
def refT (t : FieldType) : Bool := match t with
  | .object _ => true
  | .array _ => true
  | _ => false
theorem refT_fv {t : FieldType} (ht : refT t = true) (G : AG) (a i : Nat) : fv G h a i t = gv G (vR (gR h a i)) := by cases t <;> first | rfl | cases ht
theorem refT_ok {t : FieldType} (ht : refT t = true) {v : Value} (hv : v = .null ∨ ∃ a, v = .ref a) : narrow t v = v ∧ fits t v = true := by
  rcases hv with rfl | ⟨a, rfl⟩ <;> cases t <;> first | exact ⟨rfl, rfl⟩ | cases ht
theorem r_getR {idx c i a K : Nat} (hd : de mi pc (.getfield idx) 3) (hs : FS mi.1.cls idx c i) (hK : K = 100 + c) (ht : refT (fT c i) = true) (hf : (if gK h a = K then E else none) = some q) (k : E = some q → WA mi d (pc + 3) ls (vR (gR h a i) :: st) h res) : WA mi d pc ls (vR a :: st) h res := r_get hd hs hK (fun G => refT_fv ht G a i) hf k
/-- a write of a field, final or not -/
theorem W_put {G : AG} {p : Program} {l : Launch} {e : Env} {R : Room} {s : State} {m : MethodId} {args : Array Value} {below : List Frame} {meth : Method} {c' : Code} {H : Heap} {locs : List Loc} {cells slots : Nat} {Q : State → Prop} {la : Array Slot} {rest : List Value} {idx c i a : Nat} {v : Value}
    (C : Cx mi d G p R s m args meth c') (hH : Hp G h H) (hS : va_S (gA G) s.heap H locs) (hs : FS mi.1.cls idx c i) (hy : gK h a = 100 + c) (hfin : FF c i false ∨ (FF c i true ∧ mi.1.name = "<init>" ∧ ∃ r : vw_C, cls[c]? = some r ∧ r.1 = mi.1.cls)) (hv : narrow (fT c i) v = v ∧ fits (fT c i) v = true) (hd : de mi pc (.putfield idx) 3)
    (kk : ∀ (H1 : Heap) (locs1 : List Loc), H1.size = H.size → (∀ q : Nat, q ≠ gad G a → H1[q]? = H[q]?) → va_at (gD G) cls (gad G a, .inr (c, (fl G h c a).set i v)) H1 → va_S (gA G) s.heap H1 locs1 → W p l e R s m args below meth c' H1 locs1 cells slots Q (F0 m (pc + 3) la rest)) : W p l e R s m args below meth c' H locs cells slots Q (F0 m pc la (v :: .ref (gad G a) :: rest)) := by
  obtain ⟨r, hr, hi, hlink, hsame⟩ := hs
  have hne : gK h a ≠ 0 := by omega
  obtain ⟨ha, -, hP, -⟩ := hH.at hne
  rw [ent_obj hy] at hP
  obtain ⟨w1, w2, w3, w4⟩ := cls_ok hr
  have hts := C.2.2.2.2.1
  have hK := C.2.2.2.2.2.2.2.2.2.2.1.1
  have hi' : i < r.2.2 := by rw [w4]; exact hi
  have hap := va_apart (own := mi.1.cls) hts w1 (fT c) w2 w3 hK hr
  obtain ⟨r', g1, cell, q1, q2, q3, q4⟩ := hP 0 _ rfl
  have hrr : r' = r := Option.some.inj (g1.symm.trans hr)
  subst hrr
  obtain ⟨hSl, hfc, kC, hkC, hkind⟩ := hK.1 c _ hr
  obtain ⟨cf, kf, fi, f, hfi, hsl⟩ := hSl i hi'
  have hlay := hts _ (w1 _ (u_in_lay hi'))
  have hst := (u_facts hfc hkC (u_lays hts w1 hi') hfi).1
  have hlen : i < (fl G h c a).length := by rw [fl_len]; exact hi
  have fin : ∀ H1 : Heap, H1[gad G a]? = some (cell.setSlot f.slot v) → H1.size = H.size → (∀ q : Nat, q ≠ gad G a → H1[q]? = H[q]?) → W p l e R s m args below meth c' H1 (locs ++ [⟨gad G a, f.slot⟩]) cells slots Q (F0 m (pc + 3) la rest) := by
    intro H1 e1 e2 e3
    rw [hsl] at e1
    exact kk H1 _ e2 e3 ⟨_, hr, t_OB.to (V := updV (vp_V (fl G h c a)) i v) ⟨_, e1, q2, q3, t_set q4 hap hi' v⟩ (fun j _ => vp_updV_set hlen v j)⟩ (hS.put e2 e3 (hH.in hne))
  rcases hfin with ⟨r2, h2, hfin⟩ | ⟨⟨r2, h2, hfin⟩, hin, r3, h3, hown⟩
  · have hrr : r2 = r' := Option.some.inj (h2.symm.trans hr)
    subst hrr
    unfold u_lay at hlay
    rw [if_neg (by rw [hfin]; decide)] at hlay
    have h6 := u_store hfc hkC hkind hlay hfi (w2 i hi') hv.1 hv.2
    exact W.putK C.1 C.2.1 (f := f) ⟨C.2.2.2.1, hts _ hlink, ⟨_, _, _, by rw [hsame] at hfi; exact hfi⟩, hst⟩ (by rw [q2]; exact h6) q1 q3 (by rw [hsl]; exact k2_hasslot (q4 i hi')) rfl rfl hd fin
  · have hrr : r2 = r' := Option.some.inj (h2.symm.trans hr)
    subst hrr
    have hrr : r3 = r2 := Option.some.inj (h3.symm.trans hr)
    subst hrr
    unfold u_lay at hlay
    rw [if_pos hfin] at hlay
    have hcf : m.cls = cf := by
      obtain ⟨_, _, c2, _, _, _, -, -, hf', -, -, -, hown2, -⟩ := Cond.laysFinal_spec hlay
      have e1 : c2 = cf := by have := hfi.symm.trans hf'; simp at this; exact this.1.symm
      rw [hsame, hown] at hown2
      rw [← e1]; exact Option.some.inj (C.2.2.2.1.symm.trans hown2)
    have h6 := u_fits hfc hkC hkind (Or.inr hlay) hfi (w2 i hi') hv.1 hv.2
    exact W.putFinK C.1 C.2.1 C.2.2.2.1 (hts _ hlink) (by rw [hsame] at hfi; exact hfi) hst hcf (C.2.2.2.2.2.2.2.1 hin) (by rw [q2]; exact h6) q1 q3 (by rw [hsl]; exact k2_hasslot (q4 i hi')) rfl rfl hd fin
/-- what changes when an int, a long, a reference is put into a place of a cell -/
theorem fl_set {G : AG} {h h1 : AH} {c a i : Nat} {v : Value} (hi : i < fN c) (hv : fv G h1 a i (fT c i) = v) (ho : ∀ k, k ≠ i → fv G h1 a k (fT c k) = fv G h a k (fT c k)) : fl G h1 c a = (fl G h c a).set i v := by
  apply List.ext_getElem?
  intro k
  by_cases hk : k < fN c
  · by_cases hki : k = i
    · subst hki
      rw [List.getElem?_set_self (by rw [fl_len]; exact hi), fl_at G h1 c a hi, hv]
    · rw [List.getElem?_set_ne (Ne.symm hki), fl_at G h1 c a hk, fl_at G h c a hk, ho k hki]
  · rw [List.getElem?_eq_none (by rw [fl_len]; omega), List.getElem?_eq_none (by rw [List.length_set, fl_len]; omega)]
theorem upd_same {α : Type} {f : Nat → α} {i : Nat} {x : α} : va_up f i x i = x := by simp [va_up]
theorem sc_sI {h : AH} {a i : Nat} {x : Int32} (z : 3 ≤ a) : gN (sI h a i x) 2 = gN h 2 ∧ gI (sI h a i x) 2 = gI h 2 := ⟨rfl, by rw [gI_sI, if_neg (by omega)]⟩
theorem ent_sI {G : AG} {h : AH} {a i : Nat} {x : Int32} {b : Nat} (hb : b ≠ a) : ent G (sI h a i x) b = ent G h b := ent_same rfl rfl (by rw [gI_sI, if_neg hb]) rfl rfl
theorem ent_sJ {G : AG} {h : AH} {a i : Nat} {x : Int64} {b : Nat} (hb : b ≠ a) : ent G (sJ h a i x) b = ent G h b := ent_same rfl rfl rfl (by rw [gJ_sJ, if_neg hb]) rfl
theorem ent_sR {G : AG} {h : AH} {a i : Nat} {x : Nat} {b : Nat} (hb : b ≠ a) : ent G (sR h a i x) b = ent G h b := ent_same rfl rfl rfl rfl (by rw [gR_sR, if_neg hb])
def FP (mi : MI) (c i : Nat) : Prop := FF c i false ∨ (FF c i true ∧ mi.1.name = "<init>" ∧ ∃ r : vw_C, cls[c]? = some r ∧ r.1 = mi.1.cls)
theorem r_put {idx c i a K : Nat} {x : AV} {h1 : AH} (hd : de mi pc (.putfield idx) 3) (hs : FS mi.1.cls idx c i) (hp : FP mi c i) (hK : gK h a = 100 + c) (hv : ∀ G, narrow (fT c i) (gv G x) = gv G x ∧ fits (fT c i) (gv G x) = true)
    (eK : ∀ b, gK h1 b = gK h b) (eC : gC h1 = gC h) (eS : gS h1 = gS h) (es : 3 ≤ a → gN h1 2 = gN h 2 ∧ gI h1 2 = gI h 2) (eo : ∀ G b, b ≠ a → ent G h1 b = ent G h b) (ev : ∀ G, fv G h1 a i (fT c i) = gv G x) (ee : ∀ G k, k ≠ i → fv G h1 a k (fT c k) = fv G h a k (fT c k))
    (k : WA mi d (pc + 3) ls st h1 res) : WA mi d pc ls (x :: vR a :: st) h res := by
  refine ⟨by rw [← eC]; exact k.1, by rw [← eS]; exact k.2.1, fun G p l e R s m args below meth c' H locs cells slots K N la C hH hS e1 e2 e3 e4 hl => ?_⟩
  have hne : gK h a ≠ 0 := by omega
  have ha := (hH.2.2.1 a hne).1
  show W p l e R s m args below meth c' H locs cells slots _ (F0 m pc la (gv G x :: gs G (vR a :: st)))
  rw [gs_ref ha]
  have hi : i < fN c := by obtain ⟨r, -, hi, -⟩ := hs; exact hi
  refine W_put C hH hS hs hK hp (hv G) hd fun H1 locs1 z o hat hS1 => ?_
  refine k.2.2 G p l e R s m args below meth c' H1 locs1 cells slots K N la C ?_ hS1 (by rw [eC]; exact e1) e2 (by rw [eS]; exact e3) e4 hl
  refine hH.upd hne z o ?_ eK eC (eo G) es
  rw [ent_obj (show gK h1 a = 100 + c by rw [eK]; exact hK), fl_set hi (ev G) (ee G)]
  exact hat
theorem fv_sI {G : AG} {a i k : Nat} {x : Int32} {t : FieldType} (hk : k ≠ i) : fv G (sI h a i x) a k t = fv G h a k t := by
  have e : gI (sI h a i x) a k = gI h a k := by rw [gI_sI, if_pos rfl]; simp [upd, hk]
  cases t <;> simp only [fv, e] <;> rfl
theorem fv_sJ {G : AG} {a i k : Nat} {x : Int64} {t : FieldType} (hk : k ≠ i) : fv G (sJ h a i x) a k t = fv G h a k t := by
  have e : gJ (sJ h a i x) a k = gJ h a k := by rw [gJ_sJ, if_pos rfl]; simp [va_up, hk]
  cases t <;> simp only [fv, e] <;> rfl
theorem fv_sR {G : AG} {a i k : Nat} {x : Nat} {t : FieldType} (hk : k ≠ i) : fv G (sR h a i x) a k t = fv G h a k t := by
  have e : gR (sR h a i x) a k = gR h a k := by rw [gR_sR, if_pos rfl]; simp [va_up, hk]
  cases t <;> simp only [fv, e] <;> rfl
theorem gI_self {a i : Nat} {x : Int32} : gI (sI h a i x) a i = x := by rw [gI_sI, if_pos rfl]; simp [upd]
theorem gJ_self {a i : Nat} {x : Int64} : gJ (sJ h a i x) a i = x := by rw [gJ_sJ, if_pos rfl]; simp [va_up]
theorem gR_self {a i : Nat} {x : Nat} : gR (sR h a i x) a i = x := by rw [gR_sR, if_pos rfl]; simp [va_up]
theorem r_putI {idx c i a K : Nat} {x : Int32} {E : AH → Option ρ} (hd : de mi pc (.putfield idx) 3) (hs : FS mi.1.cls idx c i) (hp : FP mi c i) (hK : K = 100 + c) (ht : fT c i = .int) (hf : (if gK h a = K then nm (sI h a i x) E else none) = some q) (k : ∀ h1 : AH, E h1 = some q → WA mi d (pc + 3) ls st h1 res) : WA mi d pc ls (vI x :: vR a :: st) h res := by
  by_cases hy : gK h a = K
  · rw [if_pos hy] at hf
    exact r_put (K := 0) (h1 := sI h a i x) hd hs hp (by rw [hy, hK]) (fun G => by rw [ht]; exact ⟨rfl, rfl⟩) (fun _ => rfl) rfl rfl sc_sI (fun G b hb => ent_sI hb) (fun G => by rw [ht]; show Value.int _ = _; rw [gI_self]; rfl) (fun G k hk => fv_sI hk) (k (sI h a i x) hf)
  · rw [if_neg hy] at hf; cases hf
theorem nar_Z {x : Int32} (h : x = 0 ∨ x = 1) : narrow .boolean (.int x) = .int x ∧ fits .boolean (.int x) = true := by rcases h with rfl | rfl <;> exact ⟨rfl, rfl⟩
theorem r_putZ {idx c i a K : Nat} {x : Int32} {E : AH → Option ρ} (hd : de mi pc (.putfield idx) 3) (hs : FS mi.1.cls idx c i) (hp : FP mi c i) (hK : K = 100 + c) (ht : fT c i = .boolean) (hf : (if gK h a = K ∧ (x = 0 ∨ x = 1) then nm (sI h a i x) E else none) = some q) (k : ∀ h1 : AH, E h1 = some q → WA mi d (pc + 3) ls st h1 res) : WA mi d pc ls (vI x :: vR a :: st) h res := by
  by_cases hy : gK h a = K ∧ (x = 0 ∨ x = 1)
  · rw [if_pos hy] at hf
    exact r_put (K := 0) (h1 := sI h a i x) hd hs hp (by rw [hy.1, hK]) (fun G => by rw [ht]; exact nar_Z hy.2) (fun _ => rfl) rfl rfl sc_sI (fun G b hb => ent_sI hb) (fun G => by rw [ht]; show Value.int _ = _; rw [gI_self]; rfl) (fun G k hk => fv_sI hk) (k (sI h a i x) hf)
  · rw [if_neg hy] at hf; cases hf
theorem r_putJ {idx c i a K : Nat} {x : Int64} {E : AH → Option ρ} (hd : de mi pc (.putfield idx) 3) (hs : FS mi.1.cls idx c i) (hp : FP mi c i) (hK : K = 100 + c) (ht : fT c i = .long) (hf : (if gK h a = K then nm (sJ h a i x) E else none) = some q) (k : ∀ h1 : AH, E h1 = some q → WA mi d (pc + 3) ls st h1 res) : WA mi d pc ls (vJ x :: vR a :: st) h res := by
  by_cases hy : gK h a = K
  · rw [if_pos hy] at hf
    exact r_put (K := 0) (h1 := sJ h a i x) hd hs hp (by rw [hy, hK]) (fun G => by rw [ht]; exact ⟨rfl, rfl⟩) (fun _ => rfl) rfl rfl (fun _ => ⟨rfl, rfl⟩) (fun G b hb => ent_sJ hb) (fun G => by rw [ht]; show Value.long _ = _; rw [gJ_self]; rfl) (fun G k hk => fv_sJ hk) (k (sJ h a i x) hf)
  · rw [if_neg hy] at hf; cases hf
theorem r_putR {idx c i a K : Nat} {x : Nat} {E : AH → Option ρ} (hd : de mi pc (.putfield idx) 3) (hs : FS mi.1.cls idx c i) (hp : FP mi c i) (hK : K = 100 + c) (ht : refT (fT c i) = true) (hf : (if gK h a = K then nm (sR h a i x) E else none) = some q) (k : ∀ h1 : AH, E h1 = some q → WA mi d (pc + 3) ls st h1 res) : WA mi d pc ls (vR x :: vR a :: st) h res := by
  by_cases hy : gK h a = K
  · rw [if_pos hy] at hf
    exact r_put (K := 0) (h1 := sR h a i x) hd hs hp (by rw [hy, hK]) (fun G => refT_ok ht (gv_ref' G x)) (fun _ => rfl) rfl rfl (fun _ => ⟨rfl, rfl⟩) (fun G b hb => ent_sR hb) (fun G => by rw [refT_fv ht, gR_self]) (fun G k hk => fv_sR hk) (k (sR h a i x) hf)
  · rw [if_neg hy] at hf; cases hf
/-! arrays -/
def ib (i : Int32) (n : Nat) : Bool := decide (¬ (i < 0 ∨ n ≤ i.toNatClampNeg))
theorem ib_in {i : Int32} {n : Nat} (h : ib i n = true) : vp_in i n := of_decide_eq_true (p := ¬ (i < 0 ∨ n ≤ i.toNatClampNeg)) h
theorem ty_K {G : AG} {s : State} (hX : Sx G s) : va_K (gD G) cls (tyl G) s := hX.1
theorem r_iaload {a : Nat} {i : Int32} (hd : de mi pc .iaload 1) (hf : (if gK h a = 1 ∧ ib i (gN h a) = true then E else none) = some q) (k : E = some q → WA mi d (pc + 1) ls (vI (gI h a i.toNatClampNeg) :: st) h res) : WA mi d pc ls (vI i :: vR a :: st) h res := by
  by_cases hy : gK h a = 1 ∧ ib i (gN h a) = true
  · rw [if_pos hy] at hf
    refine WA.pure (fun G p l e R s m args below meth c' H locs cells slots Q la C hH hS hl kk => ?_) (k hf)
    obtain ⟨ha, -, hP, -⟩ := hH.at (a := a) (by omega)
    rw [ent_I hy.1] at hP
    show W p l e R s m args below meth c' H locs cells slots Q (F0 m pc la (.int i :: gs G (vR a :: st)))
    rw [gs_ref ha]
    exact va_iald C.1 C.2.1 C.2.2.2.2.2.2.2.2.2.2.1.1 hP 0 0 rfl rfl (ib_in hy.2) hd (kk la hl)
  · rw [if_neg hy] at hf; cases hf
theorem r_baload {a : Nat} {i : Int32} (hd : de mi pc .baload 1) (hf : (if gK h a = 3 ∧ ib i (gN h a) = true then E else none) = some q) (k : E = some q → WA mi d (pc + 1) ls (vI (gI h a i.toNatClampNeg) :: st) h res) : WA mi d pc ls (vI i :: vR a :: st) h res := by
  by_cases hy : gK h a = 3 ∧ ib i (gN h a) = true
  · rw [if_pos hy] at hf
    refine WA.pure (fun G p l e R s m args below meth c' H locs cells slots Q la C hH hS hl kk => ?_) (k hf)
    obtain ⟨ha, -, hP, -⟩ := hH.at (a := a) (by omega)
    rw [ent_Z hy.1] at hP
    show W p l e R s m args below meth c' H locs cells slots Q (F0 m pc la (.int i :: gs G (vR a :: st)))
    rw [gs_ref ha]
    exact va_zald C.1 C.2.1 C.2.2.2.2.2.2.2.2.2.2.1.1 hP 0 2 rfl rfl (ib_in hy.2) hd (kk la hl)
  · rw [if_neg hy] at hf; cases hf
theorem r_laload {a : Nat} {i : Int32} (hd : de mi pc .laload 1) (hf : (if gK h a = 2 ∧ ib i (gN h a) = true then E else none) = some q) (k : E = some q → WA mi d (pc + 1) ls (vJ (gJ h a i.toNatClampNeg) :: st) h res) : WA mi d pc ls (vI i :: vR a :: st) h res := by
  by_cases hy : gK h a = 2 ∧ ib i (gN h a) = true
  · rw [if_pos hy] at hf
    refine WA.pure (fun G p l e R s m args below meth c' H locs cells slots Q la C hH hS hl kk => ?_) (k hf)
    obtain ⟨ha, -, hP, -⟩ := hH.at (a := a) (by omega)
    rw [ent_J hy.1] at hP
    show W p l e R s m args below meth c' H locs cells slots Q (F0 m pc la (.int i :: gs G (vR a :: st)))
    rw [gs_ref ha]
    exact va_lald C.1 C.2.1 C.2.2.2.2.2.2.2.2.2.2.1.1 hP 0 1 rfl rfl (ib_in hy.2) hd (kk la hl)
  · rw [if_neg hy] at hf; cases hf
/-- kinds of arrays of references: at which place of the list, of which class -/
def RK (k t0 : Nat) (Cn : String) : Prop := 4 ≤ k ∧ k < 100 ∧ ∀ G : AG, (tyl G)[t0]? = some (gY G k, .object Cn)
theorem r_aaload {a K t0 : Nat} {Cn : String} {i : Int32} (hd : de mi pc .aaload 1) (hk : RK K t0 Cn) (hf : (if gK h a = K ∧ ib i (gN h a) = true then E else none) = some q) (k : E = some q → WA mi d (pc + 1) ls (vR (gR h a i.toNatClampNeg) :: st) h res) : WA mi d pc ls (vI i :: vR a :: st) h res := by
  by_cases hy : gK h a = K ∧ ib i (gN h a) = true
  · rw [if_pos hy] at hf
    obtain ⟨k1, k2, k3⟩ := hk
    refine WA.pure (fun G p l e R s m args below meth c' H locs cells slots Q la C hH hS hl kk => ?_) (k hf)
    obtain ⟨ha, -, hP, -⟩ := hH.at (a := a) (by omega)
    rw [ent_R hy.1 k1 k2] at hP
    show W p l e R s m args below meth c' H locs cells slots Q (F0 m pc la (.int i :: gs G (vR a :: st)))
    rw [gs_ref ha]
    exact va_aldq C.1 C.2.1 C.2.2.2.2.2.2.2.2.2.2.1.1 hP 0 t0 rfl (k3 G) (ib_in hy.2) hd (kk la hl)
  · rw [if_neg hy] at hf; cases hf
theorem r_arraylength {a : Nat} (hd : de mi pc .arraylength 1) (hf : (if gK h a = 1 then E else none) = some q) (k : E = some q → WA mi d (pc + 1) ls (vI (Int32.ofNat (gN h a)) :: st) h res) : WA mi d pc ls (vR a :: st) h res := by
  by_cases hy : gK h a = 1
  · rw [if_pos hy] at hf
    refine WA.pure (fun G p l e R s m args below meth c' H locs cells slots Q la C hH hS hl kk => ?_) (k hf)
    obtain ⟨ha, -, hP, -⟩ := hH.at (a := a) (by omega)
    rw [ent_I hy] at hP
    rw [gs_ref ha]
    exact va_alen C.1 C.2.1 C.2.2.2.2.2.2.2.2.2.2.1.1 hP 0 0 rfl rfl rfl hd (kk la hl)
  · rw [if_neg hy] at hf; cases hf
/-- what a write into an array leaves -/
theorem WA.arr {pc' a : Nat} {st' : List AV} {h1 : AH} {j : Nat} (ha : gK h a ≠ 0) (eK : ∀ b, gK h1 b = gK h b) (eC : gC h1 = gC h) (eS : gS h1 = gS h) (es : 3 ≤ a → gN h1 2 = gN h 2 ∧ gI h1 2 = gI h 2) (eo : ∀ G b, b ≠ a → ent G h1 b = ent G h b)
    (f : ∀ (G : AG) (p : Program) (l : Launch) (e : Env) (R : Room) (s : State) (m : MethodId) (args : Array Value) (below : List Frame) (meth : Method) (c : Code) (H : Heap) (locs : List Loc) (cells slots : Nat) (Q : State → Prop) (la : Array Slot), Cx mi d G p R s m args meth c → Hp G h H → lv_has la mi.2.2.1 (gl G ls) →
      (∀ H1 : Heap, va_at (gD G) cls (gad G a, ent G h1 a) H1 → H1.size = H.size → (∀ q, q ≠ gad G a → H1[q]? = H[q]?) → W p l e R s m args below meth c H1 (locs ++ [⟨gad G a, j⟩]) cells slots Q (F0 m pc' la (gs G st'))) → W p l e R s m args below meth c H locs cells slots Q (F0 m pc la (gs G st)))
    (k : WA mi d pc' ls st' h1 res) : WA mi d pc ls st h res :=
  ⟨by rw [← eC]; exact k.1, by rw [← eS]; exact k.2.1, fun G p l e R s m args below meth c H locs cells slots K N la C hH hS e1 e2 e3 e4 hl => f G p l e R s m args below meth c H locs cells slots _ la C hH hl fun H1 hat z o =>
    k.2.2 G p l e R s m args below meth c H1 _ cells slots K N la C (hH.upd ha z o hat eK eC (eo G) es) (hS.put z o (hH.in ha)) (by rw [eC]; exact e1) e2 (by rw [eS]; exact e3) e4 hl⟩
theorem r_iastore {a : Nat} {i x : Int32} {E : AH → Option ρ} (hd : de mi pc .iastore 1) (hf : (if gK h a = 1 ∧ ib i (gN h a) = true then nm (sI h a i.toNatClampNeg x) E else none) = some q) (k : ∀ h1 : AH, E h1 = some q → WA mi d (pc + 1) ls st h1 res) : WA mi d pc ls (vI x :: vI i :: vR a :: st) h res := by
  by_cases hy : gK h a = 1 ∧ ib i (gN h a) = true
  · rw [if_pos hy] at hf
    refine WA.arr (h1 := sI h a i.toNatClampNeg x) (a := a) (j := i.toNatClampNeg) (by omega) (fun _ => rfl) rfl rfl sc_sI (fun G b hb => ent_sI hb) (fun G p l e R s m args below meth c' H locs cells slots Q la C hH hl kk => ?_) (k (sI h a i.toNatClampNeg x) hf)
    obtain ⟨ha, -, hP, -⟩ := hH.at (a := a) (by omega)
    rw [ent_I hy.1] at hP
    show W p l e R s m args below meth c' H locs cells slots Q (F0 m pc la (.int x :: .int i :: gs G (vR a :: st)))
    rw [gs_ref ha]
    refine W.iast C.1 C.2.1 (hP 0 _ rfl) ((C.2.2.2.2.2.2.2.2.2.2.1.1.2 0 _ rfl).1 (gN h a) (fun j => .int (gI h a j))) (fun q => by cases q) (by show ¬ (i < 0 ∨ (arrV _ _ _).slots.size ≤ _); rw [arrV_size]; exact ib_in hy.2) rfl rfl hd fun H1 e1 z oq => kk H1 ?_ z oq
    rw [ent_I (show gK (sI h a i.toNatClampNeg x) a = 1 from hy.1)]
    show H1[gad G a]? = some (vp_cell _ _)
    rw [e1]
    show some ((arrV (gY G 1) (gN h a) (fun j => .int (gI h a j))).setSlot i.toNatClampNeg (.int x)) = some (arrV (gY G 1) (gN h a) (fun j => .int (gI (sI h a i.toNatClampNeg x) a j)))
    rw [arrV_store]
    congr 2
    funext j
    rw [gI_sI, if_pos rfl]
    by_cases hj : j = i.toNatClampNeg <;> simp [updV, upd, hj]
  · rw [if_neg hy] at hf; cases hf
theorem r_bastore {a : Nat} {i x : Int32} {E : AH → Option ρ} (hd : de mi pc .bastore 1) (hf : (if (gK h a = 3 ∧ ib i (gN h a) = true) ∧ (x = 0 ∨ x = 1) then nm (sI h a i.toNatClampNeg x) E else none) = some q) (k : ∀ h1 : AH, E h1 = some q → WA mi d (pc + 1) ls st h1 res) : WA mi d pc ls (vI x :: vI i :: vR a :: st) h res := by
  by_cases hy : (gK h a = 3 ∧ ib i (gN h a) = true) ∧ (x = 0 ∨ x = 1)
  · rw [if_pos hy] at hf
    obtain ⟨hy, hx⟩ := hy
    refine WA.arr (h1 := sI h a i.toNatClampNeg x) (a := a) (j := i.toNatClampNeg) (by omega) (fun _ => rfl) rfl rfl sc_sI (fun G b hb => ent_sI hb) (fun G p l e R s m args below meth c' H locs cells slots Q la C hH hl kk => ?_) (k (sI h a i.toNatClampNeg x) hf)
    obtain ⟨ha, -, hP, -⟩ := hH.at (a := a) (by omega)
    rw [ent_Z hy.1] at hP
    show W p l e R s m args below meth c' H locs cells slots Q (F0 m pc la (.int x :: .int i :: gs G (vR a :: st)))
    rw [gs_ref ha]
    refine W.zast C.1 C.2.1 (hP 0 _ rfl) ((C.2.2.2.2.2.2.2.2.2.2.1.1.2 2 _ rfl).1 (gN h a) (fun j => .int (gI h a j))) (fun q => by cases q) (by show ¬ (i < 0 ∨ (arrV _ _ _).slots.size ≤ _); rw [arrV_size]; exact ib_in hy.2) rfl rfl hd fun H1 e1 z oq => kk H1 ?_ z oq
    rw [ent_Z (show gK (sI h a i.toNatClampNeg x) a = 3 from hy.1)]
    show H1[gad G a]? = some (vp_cell _ _)
    rw [e1, (nar_Z hx).1]
    show some ((arrV (gY G 3) (gN h a) (fun j => .int (gI h a j))).setSlot i.toNatClampNeg (.int x)) = some (arrV (gY G 3) (gN h a) (fun j => .int (gI (sI h a i.toNatClampNeg x) a j)))
    rw [arrV_store]
    congr 2
    funext j
    rw [gI_sI, if_pos rfl]
    by_cases hj : j = i.toNatClampNeg <;> simp [updV, upd, hj]
  · rw [if_neg hy] at hf; cases hf
theorem r_lastore {a : Nat} {i : Int32} {x : Int64} {E : AH → Option ρ} (hd : de mi pc .lastore 1) (hf : (if gK h a = 2 ∧ ib i (gN h a) = true then nm (sJ h a i.toNatClampNeg x) E else none) = some q) (k : ∀ h1 : AH, E h1 = some q → WA mi d (pc + 1) ls st h1 res) : WA mi d pc ls (vJ x :: vI i :: vR a :: st) h res := by
  by_cases hy : gK h a = 2 ∧ ib i (gN h a) = true
  · rw [if_pos hy] at hf
    refine WA.arr (h1 := sJ h a i.toNatClampNeg x) (a := a) (j := i.toNatClampNeg) (by omega) (fun _ => rfl) rfl rfl (fun _ => ⟨rfl, rfl⟩) (fun G b hb => ent_sJ hb) (fun G p l e R s m args below meth c' H locs cells slots Q la C hH hl kk => ?_) (k (sJ h a i.toNatClampNeg x) hf)
    obtain ⟨ha, -, hP, -⟩ := hH.at (a := a) (by omega)
    rw [ent_J hy.1] at hP
    show W p l e R s m args below meth c' H locs cells slots Q (F0 m pc la (.long x :: .int i :: gs G (vR a :: st)))
    rw [gs_ref ha]
    refine W.last C.1 C.2.1 (hP 0 _ rfl) ((C.2.2.2.2.2.2.2.2.2.2.1.1.2 1 _ rfl).1 (gN h a) (fun j => .long (gJ h a j))) (fun q => by cases q) (by show ¬ (i < 0 ∨ (arrV _ _ _).slots.size ≤ _); rw [arrV_size]; exact ib_in hy.2) rfl rfl hd fun H1 e1 z oq => kk H1 ?_ z oq
    rw [ent_J (show gK (sJ h a i.toNatClampNeg x) a = 2 from hy.1)]
    show H1[gad G a]? = some (vp_cell _ _)
    rw [e1]
    show some ((arrV (gY G 2) (gN h a) (fun j => .long (gJ h a j))).setSlot i.toNatClampNeg (.long x)) = some (arrV (gY G 2) (gN h a) (fun j => .long (gJ (sJ h a i.toNatClampNeg x) a j)))
    rw [arrV_store]
    congr 2
    funext j
    rw [gJ_sJ, if_pos rfl]
    by_cases hj : j = i.toNatClampNeg <;> simp [updV, va_up, hj]
  · rw [if_neg hy] at hf; cases hf
/-- a reference to an object of the array's own class is stored -/
theorem r_aastore {a K t0 x c : Nat} {r : vw_C} {i : Int32} {E : AH → Option ρ} (hd : de mi pc .aastore 1) (hk : RK K t0 r.1) (hc : cls[c]? = some r) (hcl : ∀ G : AG, True) {K2 : Nat} (hK2 : K2 = 100 + c) (hf : (if (gK h a = K ∧ ib i (gN h a) = true) ∧ gK h x = K2 then nm (sR h a i.toNatClampNeg x) E else none) = some q) (k : ∀ h1 : AH, E h1 = some q → WA mi d (pc + 1) ls st h1 res) : WA mi d pc ls (vR x :: vI i :: vR a :: st) h res := by
  by_cases hy : (gK h a = K ∧ ib i (gN h a) = true) ∧ gK h x = K2
  · rw [if_pos hy] at hf
    obtain ⟨hy, hx⟩ := hy
    rw [hK2] at hx
    obtain ⟨k1, k2, k3⟩ := hk
    refine WA.arr (h1 := sR h a i.toNatClampNeg x) (a := a) (j := i.toNatClampNeg) (by omega) (fun _ => rfl) rfl rfl (fun _ => ⟨rfl, rfl⟩) (fun G b hb => ent_sR hb) (fun G p l e R s m args below meth c' H locs cells slots Q la C hH hl kk => ?_) (k (sR h a i.toNatClampNeg x) hf)
    obtain ⟨ha, -, hP, -⟩ := hH.at (a := a) (by omega)
    obtain ⟨hx3, -, hPx, -⟩ := hH.at (a := x) (by omega)
    rw [ent_R hy.1 k1 k2] at hP
    rw [ent_obj hx] at hPx
    have hK := C.2.2.2.2.2.2.2.2.2.2.1.1
    have hlt : i.toNatClampNeg < gN h a := Nat.not_le.mp fun q => ib_in hy.2 (Or.inr q)
    have h0 : ¬ i < 0 := fun q => ib_in hy.2 (Or.inl q)
    show W p l e R s m args below meth c' H locs cells slots Q (F0 m pc la (gv G (vR x) :: .int i :: gs G (vR a :: st)))
    rw [gs_ref ha, gv_ref G (by omega)]
    obtain ⟨r', hr', cellV, g1, g2, g3, -⟩ := hPx 0 _ rfl
    have hcls := (hK.1 c r hc).2
    obtain ⟨kA, comp, j1, j2, j3, -⟩ := (hK.2 t0 _ (k3 G)).2
    have hcomp : comp = (gD G).1 c := Option.some.inj (j3.symm.trans hcls.1)
    subst hcomp
    obtain ⟨kC, hkC, -⟩ := hcls.2
    refine W.aast C.1 C.2.1 (hP 0 _ rfl) (fun q h => by cases h) (fun h => by cases h) j1 j2 rfl hkC ⟨h0, by show _ < (arrV _ _ _).slots.size; rw [arrV_size]; exact hlt⟩ g1 (fun q h => by rw [g3] at h; cases h) (by rw [g2]; exact hkC) (by rw [g2]; exact va_assign hcls) rfl rfl hd fun H1 e1 z oq => kk H1 ?_ z oq
    rw [ent_R (show gK (sR h a i.toNatClampNeg x) a = K from hy.1) k1 k2]
    show H1[gad G a]? = some (vp_cell _ _)
    rw [e1]
    show some ((arrV (gY G K) (gN h a) (fun j => va_rf (go G (gR h a j)))).setSlot i.toNatClampNeg (.ref (gad G x))) = some (arrV (gY G K) (gN h a) (fun j => va_rf (go G (gR (sR h a i.toNatClampNeg x) a j))))
    rw [arrV_store]
    congr 2
    funext j
    rw [gR_sR, if_pos rfl]
    by_cases hj : j = i.toNatClampNeg
    · have e9 : go G x = some (gad G x) := by unfold go; rw [if_neg (by omega)]
      simp [updV, va_up, hj, e9, va_rf]
    · simp [updV, va_up, hj]
  · rw [if_neg hy] at hf; cases hf
end HR

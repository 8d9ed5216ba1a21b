/-! ===== the law, call by call (printed by gen3.py) ===== -/
set_option maxHeartbeats 4000000 in
set_option maxRecDepth 100000 in
theorem s_wipe : StepAt 1128 := by
  intro p e s m below meth c l b L xs hL C0 g d V M i hi H locs ls hE hI hW hS hl kk
  obtain ⟨hx, hb, hr, hml, hown, hts, hX, hbl, hlocks, hgv⟩ := C0
  have hA : ∀ q : Nat, s.heap.size ≤ q → (fun q : Nat => s.heap.size ≤ q) q := fun _ h => h
  have hbA : ¬ (fun q : Nat => s.heap.size ≤ q) b := Nat.not_le.mpr hbl
  obtain ⟨r, V2, M2, hI2, c6, c7⟩ := b_wipe l g d V M hI
  refine lv_aload_n hx hb dL_law_1128 rfl (lv_at hl 1 rfl) ?_
  refine law_call (As := []) (rest := []) c6 (cwV 0 hts gL_X6_wipe rfl rfl rfl (by decide +kernel) ⟨Nat.le_of_ble_eq_true rfl, Nat.le_of_ble_eq_true rfl⟩) ⟨hx, hb, hml, hown, hts⟩ hE hW hS hA (wVd_adr g d _ _) 6 rfl (wVd_at g d _) rfl rfl hl.1 rfl (Nat.le_of_ble_eq_true rfl) dL_law_1129 (Nat.le_refl _) (Nat.le_refl _) (fun H locs hW hS => ?_)
  refine lv_aload_n hx hb dL_law_1132 rfl (lv_at hl 2 rfl) ?_
  refine law_call (As := []) (rest := [.int r]) c7 (cwV 0 hts gL_X7_wipe rfl rfl rfl (by decide +kernel) ⟨Nat.le_of_ble_eq_true rfl, Nat.le_of_ble_eq_true rfl⟩) ⟨hx, hb, hml, hown, hts⟩ hE hW.sw hS hA (wMd_adr g d _ _) 7 rfl (wMd_at g d _) rfl rfl hl.1 rfl (Nat.le_of_ble_eq_true rfl) dL_law_1133 (Nat.le_refl _) (Nat.le_refl _) (fun H locs hW hS => ?_)
  exact lv_icmp_eq (tgt := 1533) hx hb dL_law_1136 (by decide) (fun hc => kk V2 M2 H locs hI2 hW.sw hS) (fun hc => absurd rfl hc)
set_option maxHeartbeats 4000000 in
set_option maxRecDepth 100000 in
theorem s_text : StepAt 1141 := by
  intro p e s m below meth c l b L xs hL C0 g d V M i hi H locs ls hE hI hW hS hl kk
  obtain ⟨hx, hb, hr, hml, hown, hts, hX, hbl, hlocks, hgv⟩ := C0
  have hA : ∀ q : Nat, s.heap.size ≤ q → (fun q : Nat => s.heap.size ≤ q) q := fun _ h => h
  have hbA : ¬ (fun q : Nat => s.heap.size ≤ q) b := Nat.not_le.mpr hbl
  obtain ⟨r, V2, M2, hI2, c6, c7⟩ := b_text l g d V M hI
  refine lv_aload_n hx hb dL_law_1141 rfl (lv_at hl 1 rfl) ?_
  refine law_call (As := []) (rest := []) c6 (cwV 0 hts gL_X6_text rfl rfl rfl (by decide +kernel) ⟨Nat.le_of_ble_eq_true rfl, Nat.le_of_ble_eq_true rfl⟩) ⟨hx, hb, hml, hown, hts⟩ hE hW hS hA (wVd_adr g d _ _) 6 rfl (wVd_at g d _) rfl rfl hl.1 rfl (Nat.le_of_ble_eq_true rfl) dL_law_1142 (Nat.le_refl _) (Nat.le_refl _) (fun H locs hW hS => ?_)
  refine lv_aload_n hx hb dL_law_1145 rfl (lv_at hl 2 rfl) ?_
  refine law_call (As := []) (rest := [.int r]) c7 (cwV 0 hts gL_X7_text rfl rfl rfl (by decide +kernel) ⟨Nat.le_of_ble_eq_true rfl, Nat.le_of_ble_eq_true rfl⟩) ⟨hx, hb, hml, hown, hts⟩ hE hW.sw hS hA (wMd_adr g d _ _) 7 rfl (wMd_at g d _) rfl rfl hl.1 rfl (Nat.le_of_ble_eq_true rfl) dL_law_1146 (Nat.le_refl _) (Nat.le_refl _) (fun H locs hW hS => ?_)
  exact lv_icmp_eq (tgt := 1533) hx hb dL_law_1149 (by decide) (fun hc => kk V2 M2 H locs hI2 hW.sw hS) (fun hc => absurd rfl hc)
set_option maxHeartbeats 4000000 in
set_option maxRecDepth 100000 in
theorem s_hold : StepAt 1154 := by
  intro p e s m below meth c l b L xs hL C0 g d V M i hi H locs ls hE hI hW hS hl kk
  obtain ⟨hx, hb, hr, hml, hown, hts, hX, hbl, hlocks, hgv⟩ := C0
  have hA : ∀ q : Nat, s.heap.size ≤ q → (fun q : Nat => s.heap.size ≤ q) q := fun _ h => h
  have hbA : ¬ (fun q : Nat => s.heap.size ≤ q) b := Nat.not_le.mpr hbl
  obtain ⟨r, V2, M2, hI2, c6, c7⟩ := b_hold l g d V M hI (xs (nI i + (1 : Int32)).toNatClampNeg) (xs (nI i + (2 : Int32)).toNatClampNeg)
  refine lv_aload_n hx hb dL_law_1154 rfl (lv_at hl 1 rfl) ?_
  refine lv_aload_n hx hb dL_law_1155 rfl (lv_at hl 0 rfl) ?_
  refine lv_iload_n hx hb dL_law_1156 rfl (lv_at hl 3 rfl) ?_
  refine lv_iconst (v := (1 : Int32)) hx hb dL_law_1157 (by decide) ?_
  refine lv_iadd hx hb dL_law_1158 ?_
  refine va_sld hx hb hX hbl hbA hS (law_in (k := 1) hi hL (by decide) rfl) dL_law_1159 ?_
  refine lv_aload_n hx hb dL_law_1160 rfl (lv_at hl 0 rfl) ?_
  refine lv_iload_n hx hb dL_law_1161 rfl (lv_at hl 3 rfl) ?_
  refine lv_iconst (v := (2 : Int32)) hx hb dL_law_1162 (by decide) ?_
  refine lv_iadd hx hb dL_law_1163 ?_
  refine va_sld hx hb hX hbl hbA hS (law_in (k := 2) hi hL (by decide) rfl) dL_law_1164 ?_
  refine law_call (As := [.int (xs (nI i + (1 : Int32)).toNatClampNeg), .int (xs (nI i + (2 : Int32)).toNatClampNeg)]) (rest := []) c6 (cwV 2 hts gL_X6_hold rfl rfl rfl (by decide +kernel) ⟨Nat.le_of_ble_eq_true rfl, Nat.le_of_ble_eq_true rfl⟩) ⟨hx, hb, hml, hown, hts⟩ hE hW hS hA (wVd_adr g d _ _) 6 rfl (wVd_at g d _) rfl rfl hl.1 rfl (Nat.le_of_ble_eq_true rfl) dL_law_1165 (Nat.le_refl _) (Nat.le_refl _) (fun H locs hW hS => ?_)
  refine lv_aload_n hx hb dL_law_1168 rfl (lv_at hl 2 rfl) ?_
  refine lv_aload_n hx hb dL_law_1169 rfl (lv_at hl 0 rfl) ?_
  refine lv_iload_n hx hb dL_law_1170 rfl (lv_at hl 3 rfl) ?_
  refine lv_iconst (v := (1 : Int32)) hx hb dL_law_1171 (by decide) ?_
  refine lv_iadd hx hb dL_law_1172 ?_
  refine va_sld hx hb hX hbl hbA hS (law_in (k := 1) hi hL (by decide) rfl) dL_law_1173 ?_
  refine lv_aload_n hx hb dL_law_1174 rfl (lv_at hl 0 rfl) ?_
  refine lv_iload_n hx hb dL_law_1175 rfl (lv_at hl 3 rfl) ?_
  refine lv_iconst (v := (2 : Int32)) hx hb dL_law_1176 (by decide) ?_
  refine lv_iadd hx hb dL_law_1177 ?_
  refine va_sld hx hb hX hbl hbA hS (law_in (k := 2) hi hL (by decide) rfl) dL_law_1178 ?_
  refine law_call (As := [.int (xs (nI i + (1 : Int32)).toNatClampNeg), .int (xs (nI i + (2 : Int32)).toNatClampNeg)]) (rest := [.int r]) c7 (cwV 2 hts gL_X7_hold rfl rfl rfl (by decide +kernel) ⟨Nat.le_of_ble_eq_true rfl, Nat.le_of_ble_eq_true rfl⟩) ⟨hx, hb, hml, hown, hts⟩ hE hW.sw hS hA (wMd_adr g d _ _) 7 rfl (wMd_at g d _) rfl rfl hl.1 rfl (Nat.le_of_ble_eq_true rfl) dL_law_1179 (Nat.le_refl _) (Nat.le_refl _) (fun H locs hW hS => ?_)
  exact lv_icmp_eq (tgt := 1533) hx hb dL_law_1182 (by decide) (fun hc => kk V2 M2 H locs hI2 hW.sw hS) (fun hc => absurd rfl hc)
set_option maxHeartbeats 4000000 in
set_option maxRecDepth 100000 in
theorem s_as : StepAt 1187 := by
  intro p e s m below meth c l b L xs hL C0 g d V M i hi H locs ls hE hI hW hS hl kk
  obtain ⟨hx, hb, hr, hml, hown, hts, hX, hbl, hlocks, hgv⟩ := C0
  have hA : ∀ q : Nat, s.heap.size ≤ q → (fun q : Nat => s.heap.size ≤ q) q := fun _ h => h
  have hbA : ¬ (fun q : Nat => s.heap.size ≤ q) b := Nat.not_le.mpr hbl
  obtain ⟨r, V2, M2, hI2, c6, c7⟩ := b_as l g d V M hI (xs (nI i + (1 : Int32)).toNatClampNeg) (xs (nI i + (2 : Int32)).toNatClampNeg)
  refine lv_aload_n hx hb dL_law_1187 rfl (lv_at hl 1 rfl) ?_
  refine lv_aload_n hx hb dL_law_1188 rfl (lv_at hl 0 rfl) ?_
  refine lv_iload_n hx hb dL_law_1189 rfl (lv_at hl 3 rfl) ?_
  refine lv_iconst (v := (1 : Int32)) hx hb dL_law_1190 (by decide) ?_
  refine lv_iadd hx hb dL_law_1191 ?_
  refine va_sld hx hb hX hbl hbA hS (law_in (k := 1) hi hL (by decide) rfl) dL_law_1192 ?_
  refine lv_aload_n hx hb dL_law_1193 rfl (lv_at hl 0 rfl) ?_
  refine lv_iload_n hx hb dL_law_1194 rfl (lv_at hl 3 rfl) ?_
  refine lv_iconst (v := (2 : Int32)) hx hb dL_law_1195 (by decide) ?_
  refine lv_iadd hx hb dL_law_1196 ?_
  refine va_sld hx hb hX hbl hbA hS (law_in (k := 2) hi hL (by decide) rfl) dL_law_1197 ?_
  refine law_call (As := [.int (xs (nI i + (1 : Int32)).toNatClampNeg), .int (xs (nI i + (2 : Int32)).toNatClampNeg)]) (rest := []) c6 (cwV 2 hts gL_X6_as rfl rfl rfl (by decide +kernel) ⟨Nat.le_of_ble_eq_true rfl, Nat.le_of_ble_eq_true rfl⟩) ⟨hx, hb, hml, hown, hts⟩ hE hW hS hA (wVd_adr g d _ _) 6 rfl (wVd_at g d _) rfl rfl hl.1 rfl (Nat.le_of_ble_eq_true rfl) dL_law_1198 (Nat.le_refl _) (Nat.le_refl _) (fun H locs hW hS => ?_)
  refine lv_aload_n hx hb dL_law_1201 rfl (lv_at hl 2 rfl) ?_
  refine lv_aload_n hx hb dL_law_1202 rfl (lv_at hl 0 rfl) ?_
  refine lv_iload_n hx hb dL_law_1203 rfl (lv_at hl 3 rfl) ?_
  refine lv_iconst (v := (1 : Int32)) hx hb dL_law_1204 (by decide) ?_
  refine lv_iadd hx hb dL_law_1205 ?_
  refine va_sld hx hb hX hbl hbA hS (law_in (k := 1) hi hL (by decide) rfl) dL_law_1206 ?_
  refine lv_aload_n hx hb dL_law_1207 rfl (lv_at hl 0 rfl) ?_
  refine lv_iload_n hx hb dL_law_1208 rfl (lv_at hl 3 rfl) ?_
  refine lv_iconst (v := (2 : Int32)) hx hb dL_law_1209 (by decide) ?_
  refine lv_iadd hx hb dL_law_1210 ?_
  refine va_sld hx hb hX hbl hbA hS (law_in (k := 2) hi hL (by decide) rfl) dL_law_1211 ?_
  refine law_call (As := [.int (xs (nI i + (1 : Int32)).toNatClampNeg), .int (xs (nI i + (2 : Int32)).toNatClampNeg)]) (rest := [.int r]) c7 (cwV 2 hts gL_X7_as rfl rfl rfl (by decide +kernel) ⟨Nat.le_of_ble_eq_true rfl, Nat.le_of_ble_eq_true rfl⟩) ⟨hx, hb, hml, hown, hts⟩ hE hW.sw hS hA (wMd_adr g d _ _) 7 rfl (wMd_at g d _) rfl rfl hl.1 rfl (Nat.le_of_ble_eq_true rfl) dL_law_1212 (Nat.le_refl _) (Nat.le_refl _) (fun H locs hW hS => ?_)
  exact lv_icmp_eq (tgt := 1533) hx hb dL_law_1215 (by decide) (fun hc => kk V2 M2 H locs hI2 hW.sw hS) (fun hc => absurd rfl hc)
set_option maxHeartbeats 4000000 in
set_option maxRecDepth 100000 in
theorem s_sheet : StepAt 1220 := by
  intro p e s m below meth c l b L xs hL C0 g d V M i hi H locs ls hE hI hW hS hl kk
  obtain ⟨hx, hb, hr, hml, hown, hts, hX, hbl, hlocks, hgv⟩ := C0
  have hA : ∀ q : Nat, s.heap.size ≤ q → (fun q : Nat => s.heap.size ≤ q) q := fun _ h => h
  have hbA : ¬ (fun q : Nat => s.heap.size ≤ q) b := Nat.not_le.mpr hbl
  obtain ⟨r, V2, M2, hI2, c6, c7⟩ := b_sheet l g d V M hI (xs (nI i + (1 : Int32)).toNatClampNeg) (xs (nI i + (2 : Int32)).toNatClampNeg) (xs (nI i + (3 : Int32)).toNatClampNeg)
  refine lv_aload_n hx hb dL_law_1220 rfl (lv_at hl 1 rfl) ?_
  refine lv_aload_n hx hb dL_law_1221 rfl (lv_at hl 0 rfl) ?_
  refine lv_iload_n hx hb dL_law_1222 rfl (lv_at hl 3 rfl) ?_
  refine lv_iconst (v := (1 : Int32)) hx hb dL_law_1223 (by decide) ?_
  refine lv_iadd hx hb dL_law_1224 ?_
  refine va_sld hx hb hX hbl hbA hS (law_in (k := 1) hi hL (by decide) rfl) dL_law_1225 ?_
  refine lv_aload_n hx hb dL_law_1226 rfl (lv_at hl 0 rfl) ?_
  refine lv_iload_n hx hb dL_law_1227 rfl (lv_at hl 3 rfl) ?_
  refine lv_iconst (v := (2 : Int32)) hx hb dL_law_1228 (by decide) ?_
  refine lv_iadd hx hb dL_law_1229 ?_
  refine va_sld hx hb hX hbl hbA hS (law_in (k := 2) hi hL (by decide) rfl) dL_law_1230 ?_
  refine lv_aload_n hx hb dL_law_1231 rfl (lv_at hl 0 rfl) ?_
  refine lv_iload_n hx hb dL_law_1232 rfl (lv_at hl 3 rfl) ?_
  refine lv_iconst (v := (3 : Int32)) hx hb dL_law_1233 (by decide) ?_
  refine lv_iadd hx hb dL_law_1234 ?_
  refine va_sld hx hb hX hbl hbA hS (law_in (k := 3) hi hL (by decide) rfl) dL_law_1235 ?_
  refine law_call (As := [.int (xs (nI i + (1 : Int32)).toNatClampNeg), .int (xs (nI i + (2 : Int32)).toNatClampNeg), .int (xs (nI i + (3 : Int32)).toNatClampNeg)]) (rest := []) c6 (cwV 3 hts gL_X6_sheet rfl rfl rfl (by decide +kernel) ⟨Nat.le_of_ble_eq_true rfl, Nat.le_of_ble_eq_true rfl⟩) ⟨hx, hb, hml, hown, hts⟩ hE hW hS hA (wVd_adr g d _ _) 6 rfl (wVd_at g d _) rfl rfl hl.1 rfl (Nat.le_of_ble_eq_true rfl) dL_law_1236 (Nat.le_refl _) (Nat.le_refl _) (fun H locs hW hS => ?_)
  refine lv_aload_n hx hb dL_law_1239 rfl (lv_at hl 2 rfl) ?_
  refine lv_aload_n hx hb dL_law_1240 rfl (lv_at hl 0 rfl) ?_
  refine lv_iload_n hx hb dL_law_1241 rfl (lv_at hl 3 rfl) ?_
  refine lv_iconst (v := (1 : Int32)) hx hb dL_law_1242 (by decide) ?_
  refine lv_iadd hx hb dL_law_1243 ?_
  refine va_sld hx hb hX hbl hbA hS (law_in (k := 1) hi hL (by decide) rfl) dL_law_1244 ?_
  refine lv_aload_n hx hb dL_law_1245 rfl (lv_at hl 0 rfl) ?_
  refine lv_iload_n hx hb dL_law_1246 rfl (lv_at hl 3 rfl) ?_
  refine lv_iconst (v := (2 : Int32)) hx hb dL_law_1247 (by decide) ?_
  refine lv_iadd hx hb dL_law_1248 ?_
  refine va_sld hx hb hX hbl hbA hS (law_in (k := 2) hi hL (by decide) rfl) dL_law_1249 ?_
  refine lv_aload_n hx hb dL_law_1250 rfl (lv_at hl 0 rfl) ?_
  refine lv_iload_n hx hb dL_law_1251 rfl (lv_at hl 3 rfl) ?_
  refine lv_iconst (v := (3 : Int32)) hx hb dL_law_1252 (by decide) ?_
  refine lv_iadd hx hb dL_law_1253 ?_
  refine va_sld hx hb hX hbl hbA hS (law_in (k := 3) hi hL (by decide) rfl) dL_law_1254 ?_
  refine law_call (As := [.int (xs (nI i + (1 : Int32)).toNatClampNeg), .int (xs (nI i + (2 : Int32)).toNatClampNeg), .int (xs (nI i + (3 : Int32)).toNatClampNeg)]) (rest := [.int r]) c7 (cwV 3 hts gL_X7_sheet rfl rfl rfl (by decide +kernel) ⟨Nat.le_of_ble_eq_true rfl, Nat.le_of_ble_eq_true rfl⟩) ⟨hx, hb, hml, hown, hts⟩ hE hW.sw hS hA (wMd_adr g d _ _) 7 rfl (wMd_at g d _) rfl rfl hl.1 rfl (Nat.le_of_ble_eq_true rfl) dL_law_1255 (Nat.le_refl _) (Nat.le_refl _) (fun H locs hW hS => ?_)
  exact lv_icmp_eq (tgt := 1533) hx hb dL_law_1258 (by decide) (fun hc => kk V2 M2 H locs hI2 hW.sw hS) (fun hc => absurd rfl hc)
set_option maxHeartbeats 4000000 in
set_option maxRecDepth 100000 in
theorem s_write : StepAt 1263 := by
  intro p e s m below meth c l b L xs hL C0 g d V M i hi H locs ls hE hI hW hS hl kk
  obtain ⟨hx, hb, hr, hml, hown, hts, hX, hbl, hlocks, hgv⟩ := C0
  have hA : ∀ q : Nat, s.heap.size ≤ q → (fun q : Nat => s.heap.size ≤ q) q := fun _ h => h
  have hbA : ¬ (fun q : Nat => s.heap.size ≤ q) b := Nat.not_le.mpr hbl
  obtain ⟨r, V2, M2, hI2, c6, c7⟩ := b_write l g d V M hI (xs (nI i + (1 : Int32)).toNatClampNeg) (xs (nI i + (2 : Int32)).toNatClampNeg) (xs (nI i + (3 : Int32)).toNatClampNeg)
  refine lv_aload_n hx hb dL_law_1263 rfl (lv_at hl 1 rfl) ?_
  refine lv_aload_n hx hb dL_law_1264 rfl (lv_at hl 0 rfl) ?_
  refine lv_iload_n hx hb dL_law_1265 rfl (lv_at hl 3 rfl) ?_
  refine lv_iconst (v := (1 : Int32)) hx hb dL_law_1266 (by decide) ?_
  refine lv_iadd hx hb dL_law_1267 ?_
  refine va_sld hx hb hX hbl hbA hS (law_in (k := 1) hi hL (by decide) rfl) dL_law_1268 ?_
  refine lv_aload_n hx hb dL_law_1269 rfl (lv_at hl 0 rfl) ?_
  refine lv_iload_n hx hb dL_law_1270 rfl (lv_at hl 3 rfl) ?_
  refine lv_iconst (v := (2 : Int32)) hx hb dL_law_1271 (by decide) ?_
  refine lv_iadd hx hb dL_law_1272 ?_
  refine va_sld hx hb hX hbl hbA hS (law_in (k := 2) hi hL (by decide) rfl) dL_law_1273 ?_
  refine lv_aload_n hx hb dL_law_1274 rfl (lv_at hl 0 rfl) ?_
  refine lv_iload_n hx hb dL_law_1275 rfl (lv_at hl 3 rfl) ?_
  refine lv_iconst (v := (3 : Int32)) hx hb dL_law_1276 (by decide) ?_
  refine lv_iadd hx hb dL_law_1277 ?_
  refine va_sld hx hb hX hbl hbA hS (law_in (k := 3) hi hL (by decide) rfl) dL_law_1278 ?_
  refine law_call (As := [.int (xs (nI i + (1 : Int32)).toNatClampNeg), .int (xs (nI i + (2 : Int32)).toNatClampNeg), .int (xs (nI i + (3 : Int32)).toNatClampNeg)]) (rest := []) c6 (cwV 3 hts gL_X6_write rfl rfl rfl (by decide +kernel) ⟨Nat.le_of_ble_eq_true rfl, Nat.le_of_ble_eq_true rfl⟩) ⟨hx, hb, hml, hown, hts⟩ hE hW hS hA (wVd_adr g d _ _) 6 rfl (wVd_at g d _) rfl rfl hl.1 rfl (Nat.le_of_ble_eq_true rfl) dL_law_1279 (Nat.le_refl _) (Nat.le_refl _) (fun H locs hW hS => ?_)
  refine lv_aload_n hx hb dL_law_1282 rfl (lv_at hl 2 rfl) ?_
  refine lv_aload_n hx hb dL_law_1283 rfl (lv_at hl 0 rfl) ?_
  refine lv_iload_n hx hb dL_law_1284 rfl (lv_at hl 3 rfl) ?_
  refine lv_iconst (v := (1 : Int32)) hx hb dL_law_1285 (by decide) ?_
  refine lv_iadd hx hb dL_law_1286 ?_
  refine va_sld hx hb hX hbl hbA hS (law_in (k := 1) hi hL (by decide) rfl) dL_law_1287 ?_
  refine lv_aload_n hx hb dL_law_1288 rfl (lv_at hl 0 rfl) ?_
  refine lv_iload_n hx hb dL_law_1289 rfl (lv_at hl 3 rfl) ?_
  refine lv_iconst (v := (2 : Int32)) hx hb dL_law_1290 (by decide) ?_
  refine lv_iadd hx hb dL_law_1291 ?_
  refine va_sld hx hb hX hbl hbA hS (law_in (k := 2) hi hL (by decide) rfl) dL_law_1292 ?_
  refine lv_aload_n hx hb dL_law_1293 rfl (lv_at hl 0 rfl) ?_
  refine lv_iload_n hx hb dL_law_1294 rfl (lv_at hl 3 rfl) ?_
  refine lv_iconst (v := (3 : Int32)) hx hb dL_law_1295 (by decide) ?_
  refine lv_iadd hx hb dL_law_1296 ?_
  refine va_sld hx hb hX hbl hbA hS (law_in (k := 3) hi hL (by decide) rfl) dL_law_1297 ?_
  refine law_call (As := [.int (xs (nI i + (1 : Int32)).toNatClampNeg), .int (xs (nI i + (2 : Int32)).toNatClampNeg), .int (xs (nI i + (3 : Int32)).toNatClampNeg)]) (rest := [.int r]) c7 (cwV 3 hts gL_X7_write rfl rfl rfl (by decide +kernel) ⟨Nat.le_of_ble_eq_true rfl, Nat.le_of_ble_eq_true rfl⟩) ⟨hx, hb, hml, hown, hts⟩ hE hW.sw hS hA (wMd_adr g d _ _) 7 rfl (wMd_at g d _) rfl rfl hl.1 rfl (Nat.le_of_ble_eq_true rfl) dL_law_1298 (Nat.le_refl _) (Nat.le_refl _) (fun H locs hW hS => ?_)
  exact lv_icmp_eq (tgt := 1533) hx hb dL_law_1301 (by decide) (fun hc => kk V2 M2 H locs hI2 hW.sw hS) (fun hc => absurd rfl hc)
set_option maxHeartbeats 4000000 in
set_option maxRecDepth 100000 in
theorem s_copy : StepAt 1306 := by
  intro p e s m below meth c l b L xs hL C0 g d V M i hi H locs ls hE hI hW hS hl kk
  obtain ⟨hx, hb, hr, hml, hown, hts, hX, hbl, hlocks, hgv⟩ := C0
  have hA : ∀ q : Nat, s.heap.size ≤ q → (fun q : Nat => s.heap.size ≤ q) q := fun _ h => h
  have hbA : ¬ (fun q : Nat => s.heap.size ≤ q) b := Nat.not_le.mpr hbl
  obtain ⟨r, V2, M2, hI2, c6, c7⟩ := b_copy l g d V M hI (xs (nI i + (1 : Int32)).toNatClampNeg) (xs (nI i + (2 : Int32)).toNatClampNeg) (xs (nI i + (3 : Int32)).toNatClampNeg) (xs (nI i + (4 : Int32)).toNatClampNeg) (xs (nI i + (5 : Int32)).toNatClampNeg)
  refine lv_aload_n hx hb dL_law_1306 rfl (lv_at hl 1 rfl) ?_
  refine lv_aload_n hx hb dL_law_1307 rfl (lv_at hl 0 rfl) ?_
  refine lv_iload_n hx hb dL_law_1308 rfl (lv_at hl 3 rfl) ?_
  refine lv_iconst (v := (1 : Int32)) hx hb dL_law_1309 (by decide) ?_
  refine lv_iadd hx hb dL_law_1310 ?_
  refine va_sld hx hb hX hbl hbA hS (law_in (k := 1) hi hL (by decide) rfl) dL_law_1311 ?_
  refine lv_aload_n hx hb dL_law_1312 rfl (lv_at hl 0 rfl) ?_
  refine lv_iload_n hx hb dL_law_1313 rfl (lv_at hl 3 rfl) ?_
  refine lv_iconst (v := (2 : Int32)) hx hb dL_law_1314 (by decide) ?_
  refine lv_iadd hx hb dL_law_1315 ?_
  refine va_sld hx hb hX hbl hbA hS (law_in (k := 2) hi hL (by decide) rfl) dL_law_1316 ?_
  refine lv_aload_n hx hb dL_law_1317 rfl (lv_at hl 0 rfl) ?_
  refine lv_iload_n hx hb dL_law_1318 rfl (lv_at hl 3 rfl) ?_
  refine lv_iconst (v := (3 : Int32)) hx hb dL_law_1319 (by decide) ?_
  refine lv_iadd hx hb dL_law_1320 ?_
  refine va_sld hx hb hX hbl hbA hS (law_in (k := 3) hi hL (by decide) rfl) dL_law_1321 ?_
  refine lv_aload_n hx hb dL_law_1322 rfl (lv_at hl 0 rfl) ?_
  refine lv_iload_n hx hb dL_law_1323 rfl (lv_at hl 3 rfl) ?_
  refine lv_iconst (v := (4 : Int32)) hx hb dL_law_1324 (by decide) ?_
  refine lv_iadd hx hb dL_law_1325 ?_
  refine va_sld hx hb hX hbl hbA hS (law_in (k := 4) hi hL (by decide) rfl) dL_law_1326 ?_
  refine lv_aload_n hx hb dL_law_1327 rfl (lv_at hl 0 rfl) ?_
  refine lv_iload_n hx hb dL_law_1328 rfl (lv_at hl 3 rfl) ?_
  refine lv_iconst (v := (5 : Int32)) hx hb dL_law_1329 (by decide) ?_
  refine lv_iadd hx hb dL_law_1330 ?_
  refine va_sld hx hb hX hbl hbA hS (law_in (k := 5) hi hL (by decide) rfl) dL_law_1331 ?_
  refine law_call (As := [.int (xs (nI i + (1 : Int32)).toNatClampNeg), .int (xs (nI i + (2 : Int32)).toNatClampNeg), .int (xs (nI i + (3 : Int32)).toNatClampNeg), .int (xs (nI i + (4 : Int32)).toNatClampNeg), .int (xs (nI i + (5 : Int32)).toNatClampNeg)]) (rest := []) c6 (cwV 5 hts gL_X6_copy rfl rfl rfl (by decide +kernel) ⟨Nat.le_of_ble_eq_true rfl, Nat.le_of_ble_eq_true rfl⟩) ⟨hx, hb, hml, hown, hts⟩ hE hW hS hA (wVd_adr g d _ _) 6 rfl (wVd_at g d _) rfl rfl hl.1 rfl (Nat.le_of_ble_eq_true rfl) dL_law_1332 (Nat.le_refl _) (Nat.le_refl _) (fun H locs hW hS => ?_)
  refine lv_aload_n hx hb dL_law_1335 rfl (lv_at hl 2 rfl) ?_
  refine lv_aload_n hx hb dL_law_1336 rfl (lv_at hl 0 rfl) ?_
  refine lv_iload_n hx hb dL_law_1337 rfl (lv_at hl 3 rfl) ?_
  refine lv_iconst (v := (1 : Int32)) hx hb dL_law_1338 (by decide) ?_
  refine lv_iadd hx hb dL_law_1339 ?_
  refine va_sld hx hb hX hbl hbA hS (law_in (k := 1) hi hL (by decide) rfl) dL_law_1340 ?_
  refine lv_aload_n hx hb dL_law_1341 rfl (lv_at hl 0 rfl) ?_
  refine lv_iload_n hx hb dL_law_1342 rfl (lv_at hl 3 rfl) ?_
  refine lv_iconst (v := (2 : Int32)) hx hb dL_law_1343 (by decide) ?_
  refine lv_iadd hx hb dL_law_1344 ?_
  refine va_sld hx hb hX hbl hbA hS (law_in (k := 2) hi hL (by decide) rfl) dL_law_1345 ?_
  refine lv_aload_n hx hb dL_law_1346 rfl (lv_at hl 0 rfl) ?_
  refine lv_iload_n hx hb dL_law_1347 rfl (lv_at hl 3 rfl) ?_
  refine lv_iconst (v := (3 : Int32)) hx hb dL_law_1348 (by decide) ?_
  refine lv_iadd hx hb dL_law_1349 ?_
  refine va_sld hx hb hX hbl hbA hS (law_in (k := 3) hi hL (by decide) rfl) dL_law_1350 ?_
  refine lv_aload_n hx hb dL_law_1351 rfl (lv_at hl 0 rfl) ?_
  refine lv_iload_n hx hb dL_law_1352 rfl (lv_at hl 3 rfl) ?_
  refine lv_iconst (v := (4 : Int32)) hx hb dL_law_1353 (by decide) ?_
  refine lv_iadd hx hb dL_law_1354 ?_
  refine va_sld hx hb hX hbl hbA hS (law_in (k := 4) hi hL (by decide) rfl) dL_law_1355 ?_
  refine lv_aload_n hx hb dL_law_1356 rfl (lv_at hl 0 rfl) ?_
  refine lv_iload_n hx hb dL_law_1357 rfl (lv_at hl 3 rfl) ?_
  refine lv_iconst (v := (5 : Int32)) hx hb dL_law_1358 (by decide) ?_
  refine lv_iadd hx hb dL_law_1359 ?_
  refine va_sld hx hb hX hbl hbA hS (law_in (k := 5) hi hL (by decide) rfl) dL_law_1360 ?_
  refine law_call (As := [.int (xs (nI i + (1 : Int32)).toNatClampNeg), .int (xs (nI i + (2 : Int32)).toNatClampNeg), .int (xs (nI i + (3 : Int32)).toNatClampNeg), .int (xs (nI i + (4 : Int32)).toNatClampNeg), .int (xs (nI i + (5 : Int32)).toNatClampNeg)]) (rest := [.int r]) c7 (cwV 5 hts gL_X7_copy rfl rfl rfl (by decide +kernel) ⟨Nat.le_of_ble_eq_true rfl, Nat.le_of_ble_eq_true rfl⟩) ⟨hx, hb, hml, hown, hts⟩ hE hW.sw hS hA (wMd_adr g d _ _) 7 rfl (wMd_at g d _) rfl rfl hl.1 rfl (Nat.le_of_ble_eq_true rfl) dL_law_1361 (Nat.le_refl _) (Nat.le_refl _) (fun H locs hW hS => ?_)
  exact lv_icmp_eq (tgt := 1533) hx hb dL_law_1364 (by decide) (fun hc => kk V2 M2 H locs hI2 hW.sw hS) (fun hc => absurd rfl hc)
set_option maxHeartbeats 4000000 in
set_option maxRecDepth 100000 in
theorem s_load : StepAt 1369 := by
  intro p e s m below meth c l b L xs hL C0 g d V M i hi H locs ls hE hI hW hS hl kk
  obtain ⟨hx, hb, hr, hml, hown, hts, hX, hbl, hlocks, hgv⟩ := C0
  have hA : ∀ q : Nat, s.heap.size ≤ q → (fun q : Nat => s.heap.size ≤ q) q := fun _ h => h
  have hbA : ¬ (fun q : Nat => s.heap.size ≤ q) b := Nat.not_le.mpr hbl
  obtain ⟨r, V2, M2, hI2, c6, c7⟩ := b_load l g d V M hI (xs (nI i + (1 : Int32)).toNatClampNeg)
  refine lv_aload_n hx hb dL_law_1369 rfl (lv_at hl 1 rfl) ?_
  refine lv_aload_n hx hb dL_law_1370 rfl (lv_at hl 0 rfl) ?_
  refine lv_iload_n hx hb dL_law_1371 rfl (lv_at hl 3 rfl) ?_
  refine lv_iconst (v := (1 : Int32)) hx hb dL_law_1372 (by decide) ?_
  refine lv_iadd hx hb dL_law_1373 ?_
  refine va_sld hx hb hX hbl hbA hS (law_in (k := 1) hi hL (by decide) rfl) dL_law_1374 ?_
  refine law_call (As := [.int (xs (nI i + (1 : Int32)).toNatClampNeg)]) (rest := []) c6 (cwV 1 hts gL_X6_load rfl rfl rfl (by decide +kernel) ⟨Nat.le_of_ble_eq_true rfl, Nat.le_of_ble_eq_true rfl⟩) ⟨hx, hb, hml, hown, hts⟩ hE hW hS hA (wVd_adr g d _ _) 6 rfl (wVd_at g d _) rfl rfl hl.1 rfl (Nat.le_of_ble_eq_true rfl) dL_law_1375 (Nat.le_refl _) (Nat.le_refl _) (fun H locs hW hS => ?_)
  refine lv_aload_n hx hb dL_law_1378 rfl (lv_at hl 2 rfl) ?_
  refine lv_aload_n hx hb dL_law_1379 rfl (lv_at hl 0 rfl) ?_
  refine lv_iload_n hx hb dL_law_1380 rfl (lv_at hl 3 rfl) ?_
  refine lv_iconst (v := (1 : Int32)) hx hb dL_law_1381 (by decide) ?_
  refine lv_iadd hx hb dL_law_1382 ?_
  refine va_sld hx hb hX hbl hbA hS (law_in (k := 1) hi hL (by decide) rfl) dL_law_1383 ?_
  refine law_call (As := [.int (xs (nI i + (1 : Int32)).toNatClampNeg)]) (rest := [.int r]) c7 (cwV 1 hts gL_X7_load rfl rfl rfl (by decide +kernel) ⟨Nat.le_of_ble_eq_true rfl, Nat.le_of_ble_eq_true rfl⟩) ⟨hx, hb, hml, hown, hts⟩ hE hW.sw hS hA (wMd_adr g d _ _) 7 rfl (wMd_at g d _) rfl rfl hl.1 rfl (Nat.le_of_ble_eq_true rfl) dL_law_1384 (Nat.le_refl _) (Nat.le_refl _) (fun H locs hW hS => ?_)
  exact lv_icmp_eq (tgt := 1533) hx hb dL_law_1387 (by decide) (fun hc => kk V2 M2 H locs hI2 hW.sw hS) (fun hc => absurd rfl hc)
set_option maxHeartbeats 4000000 in
set_option maxRecDepth 100000 in
theorem s_rust : StepAt 1392 := by
  intro p e s m below meth c l b L xs hL C0 g d V M i hi H locs ls hE hI hW hS hl kk
  obtain ⟨hx, hb, hr, hml, hown, hts, hX, hbl, hlocks, hgv⟩ := C0
  have hA : ∀ q : Nat, s.heap.size ≤ q → (fun q : Nat => s.heap.size ≤ q) q := fun _ h => h
  have hbA : ¬ (fun q : Nat => s.heap.size ≤ q) b := Nat.not_le.mpr hbl
  obtain ⟨r, V2, M2, hI2, c6, c7⟩ := b_rust l g d V M hI (xs (nI i + (1 : Int32)).toNatClampNeg) (xs (nI i + (2 : Int32)).toNatClampNeg)
  refine lv_aload_n hx hb dL_law_1392 rfl (lv_at hl 1 rfl) ?_
  refine lv_aload_n hx hb dL_law_1393 rfl (lv_at hl 0 rfl) ?_
  refine lv_iload_n hx hb dL_law_1394 rfl (lv_at hl 3 rfl) ?_
  refine lv_iconst (v := (1 : Int32)) hx hb dL_law_1395 (by decide) ?_
  refine lv_iadd hx hb dL_law_1396 ?_
  refine va_sld hx hb hX hbl hbA hS (law_in (k := 1) hi hL (by decide) rfl) dL_law_1397 ?_
  refine lv_aload_n hx hb dL_law_1398 rfl (lv_at hl 0 rfl) ?_
  refine lv_iload_n hx hb dL_law_1399 rfl (lv_at hl 3 rfl) ?_
  refine lv_iconst (v := (2 : Int32)) hx hb dL_law_1400 (by decide) ?_
  refine lv_iadd hx hb dL_law_1401 ?_
  refine va_sld hx hb hX hbl hbA hS (law_in (k := 2) hi hL (by decide) rfl) dL_law_1402 ?_
  refine law_call (As := [.int (xs (nI i + (1 : Int32)).toNatClampNeg), .int (xs (nI i + (2 : Int32)).toNatClampNeg)]) (rest := []) c6 (cwV 2 hts gL_X6_rust rfl rfl rfl (by decide +kernel) ⟨Nat.le_of_ble_eq_true rfl, Nat.le_of_ble_eq_true rfl⟩) ⟨hx, hb, hml, hown, hts⟩ hE hW hS hA (wVd_adr g d _ _) 6 rfl (wVd_at g d _) rfl rfl hl.1 rfl (Nat.le_of_ble_eq_true rfl) dL_law_1403 (Nat.le_refl _) (Nat.le_refl _) (fun H locs hW hS => ?_)
  refine lv_aload_n hx hb dL_law_1406 rfl (lv_at hl 2 rfl) ?_
  refine lv_aload_n hx hb dL_law_1407 rfl (lv_at hl 0 rfl) ?_
  refine lv_iload_n hx hb dL_law_1408 rfl (lv_at hl 3 rfl) ?_
  refine lv_iconst (v := (1 : Int32)) hx hb dL_law_1409 (by decide) ?_
  refine lv_iadd hx hb dL_law_1410 ?_
  refine va_sld hx hb hX hbl hbA hS (law_in (k := 1) hi hL (by decide) rfl) dL_law_1411 ?_
  refine lv_aload_n hx hb dL_law_1412 rfl (lv_at hl 0 rfl) ?_
  refine lv_iload_n hx hb dL_law_1413 rfl (lv_at hl 3 rfl) ?_
  refine lv_iconst (v := (2 : Int32)) hx hb dL_law_1414 (by decide) ?_
  refine lv_iadd hx hb dL_law_1415 ?_
  refine va_sld hx hb hX hbl hbA hS (law_in (k := 2) hi hL (by decide) rfl) dL_law_1416 ?_
  refine law_call (As := [.int (xs (nI i + (1 : Int32)).toNatClampNeg), .int (xs (nI i + (2 : Int32)).toNatClampNeg)]) (rest := [.int r]) c7 (cwV 2 hts gL_X7_rust rfl rfl rfl (by decide +kernel) ⟨Nat.le_of_ble_eq_true rfl, Nat.le_of_ble_eq_true rfl⟩) ⟨hx, hb, hml, hown, hts⟩ hE hW.sw hS hA (wMd_adr g d _ _) 7 rfl (wMd_at g d _) rfl rfl hl.1 rfl (Nat.le_of_ble_eq_true rfl) dL_law_1417 (Nat.le_refl _) (Nat.le_refl _) (fun H locs hW hS => ?_)
  exact lv_icmp_eq (tgt := 1533) hx hb dL_law_1420 (by decide) (fun hc => kk V2 M2 H locs hI2 hW.sw hS) (fun hc => absurd rfl hc)
set_option maxHeartbeats 4000000 in
set_option maxRecDepth 100000 in
theorem s_judge : StepAt 1425 := by
  intro p e s m below meth c l b L xs hL C0 g d V M i hi H locs ls hE hI hW hS hl kk
  obtain ⟨hx, hb, hr, hml, hown, hts, hX, hbl, hlocks, hgv⟩ := C0
  have hA : ∀ q : Nat, s.heap.size ≤ q → (fun q : Nat => s.heap.size ≤ q) q := fun _ h => h
  have hbA : ¬ (fun q : Nat => s.heap.size ≤ q) b := Nat.not_le.mpr hbl
  obtain ⟨r, V2, M2, hI2, c6, c7⟩ := b_judge l g d V M hI (xs (nI i + (1 : Int32)).toNatClampNeg)
  refine lv_aload_n hx hb dL_law_1425 rfl (lv_at hl 1 rfl) ?_
  refine lv_aload_n hx hb dL_law_1426 rfl (lv_at hl 0 rfl) ?_
  refine lv_iload_n hx hb dL_law_1427 rfl (lv_at hl 3 rfl) ?_
  refine lv_iconst (v := (1 : Int32)) hx hb dL_law_1428 (by decide) ?_
  refine lv_iadd hx hb dL_law_1429 ?_
  refine va_sld hx hb hX hbl hbA hS (law_in (k := 1) hi hL (by decide) rfl) dL_law_1430 ?_
  refine law_call (As := [.int (xs (nI i + (1 : Int32)).toNatClampNeg)]) (rest := []) c6 (cwV 1 hts gL_X6_judge rfl rfl rfl (by decide +kernel) ⟨Nat.le_of_ble_eq_true rfl, Nat.le_of_ble_eq_true rfl⟩) ⟨hx, hb, hml, hown, hts⟩ hE hW hS hA (wVd_adr g d _ _) 6 rfl (wVd_at g d _) rfl rfl hl.1 rfl (Nat.le_of_ble_eq_true rfl) dL_law_1431 (Nat.le_refl _) (Nat.le_refl _) (fun H locs hW hS => ?_)
  refine lv_aload_n hx hb dL_law_1434 rfl (lv_at hl 2 rfl) ?_
  refine lv_aload_n hx hb dL_law_1435 rfl (lv_at hl 0 rfl) ?_
  refine lv_iload_n hx hb dL_law_1436 rfl (lv_at hl 3 rfl) ?_
  refine lv_iconst (v := (1 : Int32)) hx hb dL_law_1437 (by decide) ?_
  refine lv_iadd hx hb dL_law_1438 ?_
  refine va_sld hx hb hX hbl hbA hS (law_in (k := 1) hi hL (by decide) rfl) dL_law_1439 ?_
  refine law_call (As := [.int (xs (nI i + (1 : Int32)).toNatClampNeg)]) (rest := [.int r]) c7 (cwV 1 hts gL_X7_judge rfl rfl rfl (by decide +kernel) ⟨Nat.le_of_ble_eq_true rfl, Nat.le_of_ble_eq_true rfl⟩) ⟨hx, hb, hml, hown, hts⟩ hE hW.sw hS hA (wMd_adr g d _ _) 7 rfl (wMd_at g d _) rfl rfl hl.1 rfl (Nat.le_of_ble_eq_true rfl) dL_law_1440 (Nat.le_refl _) (Nat.le_refl _) (fun H locs hW hS => ?_)
  exact lv_icmp_eq (tgt := 1533) hx hb dL_law_1443 (by decide) (fun hc => kk V2 M2 H locs hI2 hW.sw hS) (fun hc => absurd rfl hc)
set_option maxHeartbeats 4000000 in
set_option maxRecDepth 100000 in
theorem s_image : StepAt 1448 := by
  intro p e s m below meth c l b L xs hL C0 g d V M i hi H locs ls hE hI hW hS hl kk
  obtain ⟨hx, hb, hr, hml, hown, hts, hX, hbl, hlocks, hgv⟩ := C0
  have hA : ∀ q : Nat, s.heap.size ≤ q → (fun q : Nat => s.heap.size ≤ q) q := fun _ h => h
  have hbA : ¬ (fun q : Nat => s.heap.size ≤ q) b := Nat.not_le.mpr hbl
  obtain ⟨r, V2, M2, hI2, c6, c7⟩ := b_image l g d V M hI
  refine lv_aload_n hx hb dL_law_1448 rfl (lv_at hl 1 rfl) ?_
  refine law_call (As := []) (rest := []) c6 (cwV 0 hts gL_X6_image rfl rfl rfl (by decide +kernel) ⟨Nat.le_of_ble_eq_true rfl, Nat.le_of_ble_eq_true rfl⟩) ⟨hx, hb, hml, hown, hts⟩ hE hW hS hA (wVd_adr g d _ _) 6 rfl (wVd_at g d _) rfl rfl hl.1 rfl (Nat.le_of_ble_eq_true rfl) dL_law_1449 (Nat.le_refl _) (Nat.le_refl _) (fun H locs hW hS => ?_)
  refine lv_aload_n hx hb dL_law_1452 rfl (lv_at hl 2 rfl) ?_
  refine law_call (As := []) (rest := [.int r]) c7 (cwV 0 hts gL_X7_image rfl rfl rfl (by decide +kernel) ⟨Nat.le_of_ble_eq_true rfl, Nat.le_of_ble_eq_true rfl⟩) ⟨hx, hb, hml, hown, hts⟩ hE hW.sw hS hA (wMd_adr g d _ _) 7 rfl (wMd_at g d _) rfl rfl hl.1 rfl (Nat.le_of_ble_eq_true rfl) dL_law_1453 (Nat.le_refl _) (Nat.le_refl _) (fun H locs hW hS => ?_)
  exact lv_icmp_eq (tgt := 1533) hx hb dL_law_1456 (by decide) (fun hc => kk V2 M2 H locs hI2 hW.sw hS) (fun hc => absurd rfl hc)
set_option maxHeartbeats 4000000 in
set_option maxRecDepth 100000 in
theorem s_undo : StepAt 1461 := by
  intro p e s m below meth c l b L xs hL C0 g d V M i hi H locs ls hE hI hW hS hl kk
  obtain ⟨hx, hb, hr, hml, hown, hts, hX, hbl, hlocks, hgv⟩ := C0
  have hA : ∀ q : Nat, s.heap.size ≤ q → (fun q : Nat => s.heap.size ≤ q) q := fun _ h => h
  have hbA : ¬ (fun q : Nat => s.heap.size ≤ q) b := Nat.not_le.mpr hbl
  obtain ⟨r, V2, M2, hI2, c6, c7⟩ := b_undo l g d V M hI
  refine lv_aload_n hx hb dL_law_1461 rfl (lv_at hl 1 rfl) ?_
  refine law_call (As := []) (rest := []) c6 (cwV 0 hts gL_X6_undo rfl rfl rfl (by decide +kernel) ⟨Nat.le_of_ble_eq_true rfl, Nat.le_of_ble_eq_true rfl⟩) ⟨hx, hb, hml, hown, hts⟩ hE hW hS hA (wVd_adr g d _ _) 6 rfl (wVd_at g d _) rfl rfl hl.1 rfl (Nat.le_of_ble_eq_true rfl) dL_law_1462 (Nat.le_refl _) (Nat.le_refl _) (fun H locs hW hS => ?_)
  refine lv_aload_n hx hb dL_law_1465 rfl (lv_at hl 2 rfl) ?_
  refine law_call (As := []) (rest := [.int r]) c7 (cwV 0 hts gL_X7_undo rfl rfl rfl (by decide +kernel) ⟨Nat.le_of_ble_eq_true rfl, Nat.le_of_ble_eq_true rfl⟩) ⟨hx, hb, hml, hown, hts⟩ hE hW.sw hS hA (wMd_adr g d _ _) 7 rfl (wMd_at g d _) rfl rfl hl.1 rfl (Nat.le_of_ble_eq_true rfl) dL_law_1466 (Nat.le_refl _) (Nat.le_refl _) (fun H locs hW hS => ?_)
  exact lv_icmp_eq (tgt := 1533) hx hb dL_law_1469 (by decide) (fun hc => kk V2 M2 H locs hI2 hW.sw hS) (fun hc => absurd rfl hc)
set_option maxHeartbeats 4000000 in
set_option maxRecDepth 100000 in
theorem s_tear : StepAt 1474 := by
  intro p e s m below meth c l b L xs hL C0 g d V M i hi H locs ls hE hI hW hS hl kk
  obtain ⟨hx, hb, hr, hml, hown, hts, hX, hbl, hlocks, hgv⟩ := C0
  have hA : ∀ q : Nat, s.heap.size ≤ q → (fun q : Nat => s.heap.size ≤ q) q := fun _ h => h
  have hbA : ¬ (fun q : Nat => s.heap.size ≤ q) b := Nat.not_le.mpr hbl
  obtain ⟨r, V2, M2, hI2, c6, c7⟩ := b_tear l g d V M hI
  refine lv_aload_n hx hb dL_law_1474 rfl (lv_at hl 1 rfl) ?_
  refine law_call (As := []) (rest := []) c6 (cwV 0 hts gL_X6_tear rfl rfl rfl (by decide +kernel) ⟨Nat.le_of_ble_eq_true rfl, Nat.le_of_ble_eq_true rfl⟩) ⟨hx, hb, hml, hown, hts⟩ hE hW hS hA (wVd_adr g d _ _) 6 rfl (wVd_at g d _) rfl rfl hl.1 rfl (Nat.le_of_ble_eq_true rfl) dL_law_1475 (Nat.le_refl _) (Nat.le_refl _) (fun H locs hW hS => ?_)
  refine lv_aload_n hx hb dL_law_1478 rfl (lv_at hl 2 rfl) ?_
  refine law_call (As := []) (rest := [.int r]) c7 (cwV 0 hts gL_X7_tear rfl rfl rfl (by decide +kernel) ⟨Nat.le_of_ble_eq_true rfl, Nat.le_of_ble_eq_true rfl⟩) ⟨hx, hb, hml, hown, hts⟩ hE hW.sw hS hA (wMd_adr g d _ _) 7 rfl (wMd_at g d _) rfl rfl hl.1 rfl (Nat.le_of_ble_eq_true rfl) dL_law_1479 (Nat.le_refl _) (Nat.le_refl _) (fun H locs hW hS => ?_)
  exact lv_icmp_eq (tgt := 1533) hx hb dL_law_1482 (by decide) (fun hc => kk V2 M2 H locs hI2 hW.sw hS) (fun hc => absurd rfl hc)
set_option maxHeartbeats 4000000 in
set_option maxRecDepth 100000 in
theorem s_count : StepAt 1487 := by
  intro p e s m below meth c l b L xs hL C0 g d V M i hi H locs ls hE hI hW hS hl kk
  obtain ⟨hx, hb, hr, hml, hown, hts, hX, hbl, hlocks, hgv⟩ := C0
  have hA : ∀ q : Nat, s.heap.size ≤ q → (fun q : Nat => s.heap.size ≤ q) q := fun _ h => h
  have hbA : ¬ (fun q : Nat => s.heap.size ≤ q) b := Nat.not_le.mpr hbl
  obtain ⟨r, V2, M2, hI2, c6, c7⟩ := b_count l g d V M hI (xs (nI i + (1 : Int32)).toNatClampNeg)
  refine lv_aload_n hx hb dL_law_1487 rfl (lv_at hl 1 rfl) ?_
  refine lv_aload_n hx hb dL_law_1488 rfl (lv_at hl 0 rfl) ?_
  refine lv_iload_n hx hb dL_law_1489 rfl (lv_at hl 3 rfl) ?_
  refine lv_iconst (v := (1 : Int32)) hx hb dL_law_1490 (by decide) ?_
  refine lv_iadd hx hb dL_law_1491 ?_
  refine va_sld hx hb hX hbl hbA hS (law_in (k := 1) hi hL (by decide) rfl) dL_law_1492 ?_
  refine law_call (As := [.int (xs (nI i + (1 : Int32)).toNatClampNeg)]) (rest := []) c6 (cwV 1 hts gL_X6_count rfl rfl rfl (by decide +kernel) ⟨Nat.le_of_ble_eq_true rfl, Nat.le_of_ble_eq_true rfl⟩) ⟨hx, hb, hml, hown, hts⟩ hE hW hS hA (wVd_adr g d _ _) 6 rfl (wVd_at g d _) rfl rfl hl.1 rfl (Nat.le_of_ble_eq_true rfl) dL_law_1493 (Nat.le_refl _) (Nat.le_refl _) (fun H locs hW hS => ?_)
  refine lv_aload_n hx hb dL_law_1496 rfl (lv_at hl 2 rfl) ?_
  refine lv_aload_n hx hb dL_law_1497 rfl (lv_at hl 0 rfl) ?_
  refine lv_iload_n hx hb dL_law_1498 rfl (lv_at hl 3 rfl) ?_
  refine lv_iconst (v := (1 : Int32)) hx hb dL_law_1499 (by decide) ?_
  refine lv_iadd hx hb dL_law_1500 ?_
  refine va_sld hx hb hX hbl hbA hS (law_in (k := 1) hi hL (by decide) rfl) dL_law_1501 ?_
  refine law_call (As := [.int (xs (nI i + (1 : Int32)).toNatClampNeg)]) (rest := [.int r]) c7 (cwV 1 hts gL_X7_count rfl rfl rfl (by decide +kernel) ⟨Nat.le_of_ble_eq_true rfl, Nat.le_of_ble_eq_true rfl⟩) ⟨hx, hb, hml, hown, hts⟩ hE hW.sw hS hA (wMd_adr g d _ _) 7 rfl (wMd_at g d _) rfl rfl hl.1 rfl (Nat.le_of_ble_eq_true rfl) dL_law_1502 (Nat.le_refl _) (Nat.le_refl _) (fun H locs hW hS => ?_)
  exact lv_icmp_eq (tgt := 1533) hx hb dL_law_1505 (by decide) (fun hc => kk V2 M2 H locs hI2 hW.sw hS) (fun hc => absurd rfl hc)
set_option maxHeartbeats 4000000 in
set_option maxRecDepth 100000 in
theorem s_status : StepAt 1510 := by
  intro p e s m below meth c l b L xs hL C0 g d V M i hi H locs ls hE hI hW hS hl kk
  obtain ⟨hx, hb, hr, hml, hown, hts, hX, hbl, hlocks, hgv⟩ := C0
  have hA : ∀ q : Nat, s.heap.size ≤ q → (fun q : Nat => s.heap.size ≤ q) q := fun _ h => h
  have hbA : ¬ (fun q : Nat => s.heap.size ≤ q) b := Nat.not_le.mpr hbl
  obtain ⟨r, V2, M2, hI2, c6, c7⟩ := b_status l g d V M hI (xs (nI i + (1 : Int32)).toNatClampNeg)
  refine lv_aload_n hx hb dL_law_1510 rfl (lv_at hl 1 rfl) ?_
  refine lv_aload_n hx hb dL_law_1511 rfl (lv_at hl 0 rfl) ?_
  refine lv_iload_n hx hb dL_law_1512 rfl (lv_at hl 3 rfl) ?_
  refine lv_iconst (v := (1 : Int32)) hx hb dL_law_1513 (by decide) ?_
  refine lv_iadd hx hb dL_law_1514 ?_
  refine va_sld hx hb hX hbl hbA hS (law_in (k := 1) hi hL (by decide) rfl) dL_law_1515 ?_
  refine law_call (As := [.int (xs (nI i + (1 : Int32)).toNatClampNeg)]) (rest := []) c6 (cwV 1 hts gL_X6_status rfl rfl rfl (by decide +kernel) ⟨Nat.le_of_ble_eq_true rfl, Nat.le_of_ble_eq_true rfl⟩) ⟨hx, hb, hml, hown, hts⟩ hE hW hS hA (wVd_adr g d _ _) 6 rfl (wVd_at g d _) rfl rfl hl.1 rfl (Nat.le_of_ble_eq_true rfl) dL_law_1516 (Nat.le_refl _) (Nat.le_refl _) (fun H locs hW hS => ?_)
  refine lv_aload_n hx hb dL_law_1519 rfl (lv_at hl 2 rfl) ?_
  refine lv_aload_n hx hb dL_law_1520 rfl (lv_at hl 0 rfl) ?_
  refine lv_iload_n hx hb dL_law_1521 rfl (lv_at hl 3 rfl) ?_
  refine lv_iconst (v := (1 : Int32)) hx hb dL_law_1522 (by decide) ?_
  refine lv_iadd hx hb dL_law_1523 ?_
  refine va_sld hx hb hX hbl hbA hS (law_in (k := 1) hi hL (by decide) rfl) dL_law_1524 ?_
  refine law_call (As := [.int (xs (nI i + (1 : Int32)).toNatClampNeg)]) (rest := [.int r]) c7 (cwV 1 hts gL_X7_status rfl rfl rfl (by decide +kernel) ⟨Nat.le_of_ble_eq_true rfl, Nat.le_of_ble_eq_true rfl⟩) ⟨hx, hb, hml, hown, hts⟩ hE hW.sw hS hA (wMd_adr g d _ _) 7 rfl (wMd_at g d _) rfl rfl hl.1 rfl (Nat.le_of_ble_eq_true rfl) dL_law_1525 (Nat.le_refl _) (Nat.le_refl _) (fun H locs hW hS => ?_)
  exact lv_icmp_eq (tgt := 1533) hx hb dL_law_1528 (by decide) (fun hc => kk V2 M2 H locs hI2 hW.sw hS) (fun hc => absurd rfl hc)

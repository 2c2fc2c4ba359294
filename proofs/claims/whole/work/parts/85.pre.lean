set_option maxRecDepth 100000 in
theorem lz_cl9 : Cond.classLink RL 7 RX9 ∈ lw_tbl := List.mem_of_getElem? (i := 48) rfl
set_option maxRecDepth 100000 in
theorem lz_in9 : Cond.instantiable RX9 17 ∈ lw_tbl := List.mem_of_getElem? (i := 49) rfl
set_option maxRecDepth 100000 in
theorem lz_it9 : Cond.initialized RX9 ∈ lw_tbl := List.mem_of_getElem? (i := 35) rfl
set_option maxRecDepth 100000 in
theorem lz_cl10 : Cond.classLink RL 10 RX10 ∈ lw_tbl := List.mem_of_getElem? (i := 731) rfl
set_option maxRecDepth 100000 in
theorem lz_in10 : Cond.instantiable RX10 36 ∈ lw_tbl := List.mem_of_getElem? (i := 732) rfl
set_option maxRecDepth 100000 in
theorem lz_it10 : Cond.initialized RX10 ∈ lw_tbl := List.mem_of_getElem? (i := 46) rfl
set_option maxRecDepth 100000 in
theorem lz_ml9 : Cond.methodLink RL 9 yX9_init ∈ lw_tbl := List.mem_of_getElem? (i := 50) rfl
set_option maxRecDepth 100000 in
theorem lz_im9 : Cond.instanceMethod yX9_init ∈ lw_tbl := List.mem_of_getElem? (i := 51) rfl
set_option maxRecDepth 100000 in
theorem lz_ml10 : Cond.methodLink RL 12 yX10_init ∈ lw_tbl := List.mem_of_getElem? (i := 733) rfl
set_option maxRecDepth 100000 in
theorem lz_im10 : Cond.instanceMethod yX10_init ∈ lw_tbl := List.mem_of_getElem? (i := 734) rfl
set_option maxRecDepth 100000 in
theorem lz_ai : Cond.arrayClass .int ∈ lw_tbl := List.mem_of_getElem? (i := 131) rfl
set_option maxRecDepth 100000 in
theorem lz_al : Cond.arrayClass .long ∈ lw_tbl := List.mem_of_getElem? (i := 157) rfl
set_option maxRecDepth 100000 in
theorem lz_k0 : Cond.instantiable RX0 2 ∈ lw_tbl := List.mem_of_getElem? (i := 208) rfl
set_option maxRecDepth 100000 in
theorem lz_k1 : Cond.instantiable RX1 2 ∈ lw_tbl := List.mem_of_getElem? (i := 57) rfl
set_option maxRecDepth 100000 in
theorem lz_k2 : Cond.instantiable RX2 4 ∈ lw_tbl := List.mem_of_getElem? (i := 189) rfl
set_option maxRecDepth 100000 in
theorem lz_k3 : Cond.instantiable RX3 6 ∈ lw_tbl := List.mem_of_getElem? (i := 133) rfl
set_option maxRecDepth 100000 in
theorem lz_k4 : Cond.instantiable RX4 6 ∈ lw_tbl := List.mem_of_getElem? (i := 72) rfl
set_option maxRecDepth 100000 in
theorem lz_k5 : Cond.instantiable RX5 3 ∈ lw_tbl := List.mem_of_getElem? (i := 242) rfl
set_option maxRecDepth 100000 in
theorem lz_k6 : Cond.instantiable RX6 7 ∈ lw_tbl := List.mem_of_getElem? (i := 159) rfl
set_option maxRecDepth 100000 in
theorem lz_k7 : Cond.instantiable RX7 4 ∈ lw_tbl := List.mem_of_getElem? (i := 110) rfl
set_option maxRecDepth 100000 in
theorem lz_k8 : Cond.instantiable RX8 4 ∈ lw_tbl := List.mem_of_getElem? (i := 221) rfl
set_option maxRecDepth 100000 in
theorem lz_k9 : Cond.instantiable RX9 17 ∈ lw_tbl := List.mem_of_getElem? (i := 49) rfl
set_option maxRecDepth 100000 in
theorem lz_k10 : Cond.instantiable RX10 36 ∈ lw_tbl := List.mem_of_getElem? (i := 732) rfl
set_option maxRecDepth 100000 in
theorem lz_u0 : ∀ w ∈ u_ws RX0 TX0 2, w ∈ lw_tbl := lw_cons (List.mem_of_getElem? (i := 215) rfl : u_lay RX0 TX0 0 ∈ lw_tbl) (lw_cons (List.mem_of_getElem? (i := 217) rfl : u_lay RX0 TX0 1 ∈ lw_tbl) (lw_nil))
set_option maxRecDepth 100000 in
theorem lz_u1 : ∀ w ∈ u_ws RX1 TX1 2, w ∈ lw_tbl := lw_cons (List.mem_of_getElem? (i := 66) rfl : u_lay RX1 TX1 0 ∈ lw_tbl) (lw_cons (List.mem_of_getElem? (i := 68) rfl : u_lay RX1 TX1 1 ∈ lw_tbl) (lw_nil))
set_option maxRecDepth 100000 in
theorem lz_u2 : ∀ w ∈ u_ws RX2 TX2 4, w ∈ lw_tbl := lw_cons (List.mem_of_getElem? (i := 198) rfl : u_lay RX2 TX2 0 ∈ lw_tbl) (lw_cons (List.mem_of_getElem? (i := 200) rfl : u_lay RX2 TX2 1 ∈ lw_tbl) (lw_cons (List.mem_of_getElem? (i := 202) rfl : u_lay RX2 TX2 2 ∈ lw_tbl) (lw_cons (List.mem_of_getElem? (i := 204) rfl : u_lay RX2 TX2 3 ∈ lw_tbl) (lw_nil))))
set_option maxRecDepth 100000 in
theorem lz_u3 : ∀ w ∈ u_ws RX3 TX3 6, w ∈ lw_tbl := lw_cons (List.mem_of_getElem? (i := 144) rfl : u_lay RX3 TX3 0 ∈ lw_tbl) (lw_cons (List.mem_of_getElem? (i := 146) rfl : u_lay RX3 TX3 1 ∈ lw_tbl) (lw_cons (List.mem_of_getElem? (i := 148) rfl : u_lay RX3 TX3 2 ∈ lw_tbl) (lw_cons (List.mem_of_getElem? (i := 150) rfl : u_lay RX3 TX3 3 ∈ lw_tbl) (lw_cons (List.mem_of_getElem? (i := 152) rfl : u_lay RX3 TX3 4 ∈ lw_tbl) (lw_cons (List.mem_of_getElem? (i := 154) rfl : u_lay RX3 TX3 5 ∈ lw_tbl) (lw_nil))))))
set_option maxRecDepth 100000 in
theorem lz_u4 : ∀ w ∈ u_ws RX4 TX4 6, w ∈ lw_tbl := lw_cons (List.mem_of_getElem? (i := 96) rfl : u_lay RX4 TX4 0 ∈ lw_tbl) (lw_cons (List.mem_of_getElem? (i := 98) rfl : u_lay RX4 TX4 1 ∈ lw_tbl) (lw_cons (List.mem_of_getElem? (i := 100) rfl : u_lay RX4 TX4 2 ∈ lw_tbl) (lw_cons (List.mem_of_getElem? (i := 102) rfl : u_lay RX4 TX4 3 ∈ lw_tbl) (lw_cons (List.mem_of_getElem? (i := 104) rfl : u_lay RX4 TX4 4 ∈ lw_tbl) (lw_cons (List.mem_of_getElem? (i := 106) rfl : u_lay RX4 TX4 5 ∈ lw_tbl) (lw_nil))))))
set_option maxRecDepth 100000 in
theorem lz_u5 : ∀ w ∈ u_ws RX5 TX5 3, w ∈ lw_tbl := lw_cons (List.mem_of_getElem? (i := 250) rfl : u_lay RX5 TX5 0 ∈ lw_tbl) (lw_cons (List.mem_of_getElem? (i := 252) rfl : u_lay RX5 TX5 1 ∈ lw_tbl) (lw_cons (List.mem_of_getElem? (i := 254) rfl : u_lay RX5 TX5 2 ∈ lw_tbl) (lw_nil)))
set_option maxRecDepth 100000 in
theorem lz_u6 : ∀ w ∈ u_ws RX6 TX6 7, w ∈ lw_tbl := lw_cons (List.mem_of_getElem? (i := 173) rfl : u_lay RX6 TX6 0 ∈ lw_tbl) (lw_cons (List.mem_of_getElem? (i := 175) rfl : u_lay RX6 TX6 1 ∈ lw_tbl) (lw_cons (List.mem_of_getElem? (i := 177) rfl : u_lay RX6 TX6 2 ∈ lw_tbl) (lw_cons (List.mem_of_getElem? (i := 179) rfl : u_lay RX6 TX6 3 ∈ lw_tbl) (lw_cons (List.mem_of_getElem? (i := 181) rfl : u_lay RX6 TX6 4 ∈ lw_tbl) (lw_cons (List.mem_of_getElem? (i := 183) rfl : u_lay RX6 TX6 5 ∈ lw_tbl) (lw_cons (List.mem_of_getElem? (i := 185) rfl : u_lay RX6 TX6 6 ∈ lw_tbl) (lw_nil)))))))
set_option maxRecDepth 100000 in
theorem lz_u7 : ∀ w ∈ u_ws RX7 TX7 4, w ∈ lw_tbl := lw_cons (List.mem_of_getElem? (i := 122) rfl : u_lay RX7 TX7 0 ∈ lw_tbl) (lw_cons (List.mem_of_getElem? (i := 124) rfl : u_lay RX7 TX7 1 ∈ lw_tbl) (lw_cons (List.mem_of_getElem? (i := 126) rfl : u_lay RX7 TX7 2 ∈ lw_tbl) (lw_cons (List.mem_of_getElem? (i := 128) rfl : u_lay RX7 TX7 3 ∈ lw_tbl) (lw_nil))))
set_option maxRecDepth 100000 in
theorem lz_u8 : ∀ w ∈ u_ws RX8 TX8 4, w ∈ lw_tbl := lw_cons (List.mem_of_getElem? (i := 232) rfl : u_lay RX8 TX8 0 ∈ lw_tbl) (lw_cons (List.mem_of_getElem? (i := 234) rfl : u_lay RX8 TX8 1 ∈ lw_tbl) (lw_cons (List.mem_of_getElem? (i := 236) rfl : u_lay RX8 TX8 2 ∈ lw_tbl) (lw_cons (List.mem_of_getElem? (i := 238) rfl : u_lay RX8 TX8 3 ∈ lw_tbl) (lw_nil))))
set_option maxRecDepth 100000 in
theorem lz_u9 : ∀ w ∈ u_ws RX9 TX9 17, w ∈ lw_tbl := lw_cons (List.mem_of_getElem? (i := 274) rfl : u_lay RX9 TX9 0 ∈ lw_tbl) (lw_cons (List.mem_of_getElem? (i := 276) rfl : u_lay RX9 TX9 1 ∈ lw_tbl) (lw_cons (List.mem_of_getElem? (i := 278) rfl : u_lay RX9 TX9 2 ∈ lw_tbl) (lw_cons (List.mem_of_getElem? (i := 280) rfl : u_lay RX9 TX9 3 ∈ lw_tbl) (lw_cons (List.mem_of_getElem? (i := 282) rfl : u_lay RX9 TX9 4 ∈ lw_tbl) (lw_cons (List.mem_of_getElem? (i := 284) rfl : u_lay RX9 TX9 5 ∈ lw_tbl) (lw_cons (List.mem_of_getElem? (i := 286) rfl : u_lay RX9 TX9 6 ∈ lw_tbl) (lw_cons (List.mem_of_getElem? (i := 288) rfl : u_lay RX9 TX9 7 ∈ lw_tbl) (lw_cons (List.mem_of_getElem? (i := 290) rfl : u_lay RX9 TX9 8 ∈ lw_tbl) (lw_cons (List.mem_of_getElem? (i := 292) rfl : u_lay RX9 TX9 9 ∈ lw_tbl) (lw_cons (List.mem_of_getElem? (i := 294) rfl : u_lay RX9 TX9 10 ∈ lw_tbl) (lw_cons (List.mem_of_getElem? (i := 296) rfl : u_lay RX9 TX9 11 ∈ lw_tbl) (lw_cons (List.mem_of_getElem? (i := 298) rfl : u_lay RX9 TX9 12 ∈ lw_tbl) (lw_cons (List.mem_of_getElem? (i := 300) rfl : u_lay RX9 TX9 13 ∈ lw_tbl) (lw_cons (List.mem_of_getElem? (i := 302) rfl : u_lay RX9 TX9 14 ∈ lw_tbl) (lw_cons (List.mem_of_getElem? (i := 304) rfl : u_lay RX9 TX9 15 ∈ lw_tbl) (lw_cons (List.mem_of_getElem? (i := 306) rfl : u_lay RX9 TX9 16 ∈ lw_tbl) (lw_nil)))))))))))))))))
set_option maxRecDepth 100000 in
theorem lz_u10 : ∀ w ∈ u_ws RX10 TX10 36, w ∈ lw_tbl := lw_cons (List.mem_of_getElem? (i := 773) rfl : u_lay RX10 TX10 0 ∈ lw_tbl) (lw_cons (List.mem_of_getElem? (i := 775) rfl : u_lay RX10 TX10 1 ∈ lw_tbl) (lw_cons (List.mem_of_getElem? (i := 777) rfl : u_lay RX10 TX10 2 ∈ lw_tbl) (lw_cons (List.mem_of_getElem? (i := 779) rfl : u_lay RX10 TX10 3 ∈ lw_tbl) (lw_cons (List.mem_of_getElem? (i := 781) rfl : u_lay RX10 TX10 4 ∈ lw_tbl) (lw_cons (List.mem_of_getElem? (i := 783) rfl : u_lay RX10 TX10 5 ∈ lw_tbl) (lw_cons (List.mem_of_getElem? (i := 785) rfl : u_lay RX10 TX10 6 ∈ lw_tbl) (lw_cons (List.mem_of_getElem? (i := 787) rfl : u_lay RX10 TX10 7 ∈ lw_tbl) (lw_cons (List.mem_of_getElem? (i := 789) rfl : u_lay RX10 TX10 8 ∈ lw_tbl) (lw_cons (List.mem_of_getElem? (i := 791) rfl : u_lay RX10 TX10 9 ∈ lw_tbl) (lw_cons (List.mem_of_getElem? (i := 793) rfl : u_lay RX10 TX10 10 ∈ lw_tbl) (lw_cons (List.mem_of_getElem? (i := 795) rfl : u_lay RX10 TX10 11 ∈ lw_tbl) (lw_cons (List.mem_of_getElem? (i := 797) rfl : u_lay RX10 TX10 12 ∈ lw_tbl) (lw_cons (List.mem_of_getElem? (i := 799) rfl : u_lay RX10 TX10 13 ∈ lw_tbl) (lw_cons (List.mem_of_getElem? (i := 801) rfl : u_lay RX10 TX10 14 ∈ lw_tbl) (lw_cons (List.mem_of_getElem? (i := 803) rfl : u_lay RX10 TX10 15 ∈ lw_tbl) (lw_cons (List.mem_of_getElem? (i := 805) rfl : u_lay RX10 TX10 16 ∈ lw_tbl) (lw_cons (List.mem_of_getElem? (i := 807) rfl : u_lay RX10 TX10 17 ∈ lw_tbl) (lw_cons (List.mem_of_getElem? (i := 809) rfl : u_lay RX10 TX10 18 ∈ lw_tbl) (lw_cons (List.mem_of_getElem? (i := 811) rfl : u_lay RX10 TX10 19 ∈ lw_tbl) (lw_cons (List.mem_of_getElem? (i := 813) rfl : u_lay RX10 TX10 20 ∈ lw_tbl) (lw_cons (List.mem_of_getElem? (i := 815) rfl : u_lay RX10 TX10 21 ∈ lw_tbl) (lw_cons (List.mem_of_getElem? (i := 817) rfl : u_lay RX10 TX10 22 ∈ lw_tbl) (lw_cons (List.mem_of_getElem? (i := 819) rfl : u_lay RX10 TX10 23 ∈ lw_tbl) (lw_cons (List.mem_of_getElem? (i := 821) rfl : u_lay RX10 TX10 24 ∈ lw_tbl) (lw_cons (List.mem_of_getElem? (i := 823) rfl : u_lay RX10 TX10 25 ∈ lw_tbl) (lw_cons (List.mem_of_getElem? (i := 825) rfl : u_lay RX10 TX10 26 ∈ lw_tbl) (lw_cons (List.mem_of_getElem? (i := 827) rfl : u_lay RX10 TX10 27 ∈ lw_tbl) (lw_cons (List.mem_of_getElem? (i := 829) rfl : u_lay RX10 TX10 28 ∈ lw_tbl) (lw_cons (List.mem_of_getElem? (i := 831) rfl : u_lay RX10 TX10 29 ∈ lw_tbl) (lw_cons (List.mem_of_getElem? (i := 833) rfl : u_lay RX10 TX10 30 ∈ lw_tbl) (lw_cons (List.mem_of_getElem? (i := 835) rfl : u_lay RX10 TX10 31 ∈ lw_tbl) (lw_cons (List.mem_of_getElem? (i := 837) rfl : u_lay RX10 TX10 32 ∈ lw_tbl) (lw_cons (List.mem_of_getElem? (i := 839) rfl : u_lay RX10 TX10 33 ∈ lw_tbl) (lw_cons (List.mem_of_getElem? (i := 841) rfl : u_lay RX10 TX10 34 ∈ lw_tbl) (lw_cons (List.mem_of_getElem? (i := 843) rfl : u_lay RX10 TX10 35 ∈ lw_tbl) (lw_nil))))))))))))))))))))))))))))))))))))
set_option maxRecDepth 100000 in
theorem lz_nest : ∀ w ∈ nestL, w ∈ lw_tbl := lw_cons (List.mem_of_getElem? (i := 78) rfl : Cond.fieldLinkNest "CloudOffice" 109 "CloudOffice$Settings" "base" "I" "CloudOffice" ∈ lw_tbl) (lw_cons (List.mem_of_getElem? (i := 82) rfl : Cond.fieldLinkNest "CloudOffice" 113 "CloudOffice$Settings" "slip" "I" "CloudOffice" ∈ lw_tbl) (lw_cons (List.mem_of_getElem? (i := 63) rfl : Cond.fieldLinkNest "CloudOffice" 136 "CloudOffice$Fraction" "above" "J" "CloudOffice" ∈ lw_tbl) (lw_cons (List.mem_of_getElem? (i := 65) rfl : Cond.fieldLinkNest "CloudOffice" 140 "CloudOffice$Fraction" "below" "J" "CloudOffice" ∈ lw_tbl) (lw_cons (List.mem_of_getElem? (i := 86) rfl : Cond.fieldLinkNest "CloudOffice" 149 "CloudOffice$Settings" "low" "I" "CloudOffice" ∈ lw_tbl) (lw_cons (List.mem_of_getElem? (i := 89) rfl : Cond.fieldLinkNest "CloudOffice" 152 "CloudOffice$Settings" "high" "I" "CloudOffice" ∈ lw_tbl) (lw_cons (List.mem_of_getElem? (i := 92) rfl : Cond.fieldLinkNest "CloudOffice" 155 "CloudOffice$Settings" "unlike" "I" "CloudOffice" ∈ lw_tbl) (lw_cons (List.mem_of_getElem? (i := 95) rfl : Cond.fieldLinkNest "CloudOffice" 158 "CloudOffice$Settings" "alone" "I" "CloudOffice" ∈ lw_tbl) (lw_cons (List.mem_of_getElem? (i := 229) rfl : Cond.fieldLinkNest "CloudOffice" 242 "CloudOffice$Years" "many" "I" "CloudOffice" ∈ lw_tbl) (lw_cons (List.mem_of_getElem? (i := 231) rfl : Cond.fieldLinkNest "CloudOffice" 245 "CloudOffice$Years" "distance" "I" "CloudOffice" ∈ lw_tbl) (lw_cons (List.mem_of_getElem? (i := 79) rfl : Cond.fieldLinkNest "CloudOffice$Matching" 41 "CloudOffice$Settings" "base" "I" "CloudOffice" ∈ lw_tbl) (lw_cons (List.mem_of_getElem? (i := 85) rfl : Cond.fieldLinkNest "CloudOffice$Matching" 47 "CloudOffice$Settings" "low" "I" "CloudOffice" ∈ lw_tbl) (lw_cons (List.mem_of_getElem? (i := 88) rfl : Cond.fieldLinkNest "CloudOffice$Matching" 50 "CloudOffice$Settings" "high" "I" "CloudOffice" ∈ lw_tbl) (lw_cons (List.mem_of_getElem? (i := 91) rfl : Cond.fieldLinkNest "CloudOffice$Matching" 53 "CloudOffice$Settings" "unlike" "I" "CloudOffice" ∈ lw_tbl) (lw_cons (List.mem_of_getElem? (i := 94) rfl : Cond.fieldLinkNest "CloudOffice$Matching" 89 "CloudOffice$Settings" "alone" "I" "CloudOffice" ∈ lw_tbl) (lw_cons (List.mem_of_getElem? (i := 80) rfl : Cond.fieldLinkNest "CloudOffice$Speeds" 73 "CloudOffice$Settings" "base" "I" "CloudOffice" ∈ lw_tbl) (lw_cons (List.mem_of_getElem? (i := 83) rfl : Cond.fieldLinkNest "CloudOffice$Speeds" 87 "CloudOffice$Settings" "slip" "I" "CloudOffice" ∈ lw_tbl) (lw_cons (List.mem_of_getElem? (i := 612) rfl : Cond.methodLinkNest "CloudOffice$Boards" 40 yX9_isWithin "CloudOffice" ∈ lw_tbl) (lw_nil))))))))))))))))))
theorem lz_nst {s : State} {A : Array Value} (h : ∀ w ∈ lw_tbl, w.before A s = true) : nst s := by
  intro w hw
  have h1 := h w (lz_nest w hw)
  simp only [nestL, List.mem_cons, List.not_mem_nil, or_false] at hw
  rcases hw with rfl | rfl | rfl | rfl | rfl | rfl | rfl | rfl | rfl | rfl | rfl | rfl | rfl | rfl | rfl | rfl | rfl | rfl
  all_goals exact va_Nw.of rfl h1
theorem lz_arr {s : State} {A : Array Value} {ty : FieldType} (h : (Cond.arrayClass ty).before A s = true) : ∃ cA : ClassId, ArrOfT s cA ty ∧ s.vm.findClass ("[" ++ ty.toString) = some cA := by
  obtain ⟨cA, kA, comp, h1, h2, h3⟩ := Cond.arrayClass_spec h
  exact ⟨cA, fun n z => ⟨fun k h => (by cases h), kA, h2, comp, h3⟩, h1⟩
